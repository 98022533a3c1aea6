/-! the rows of the law, and all together -/
set_option maxRecDepth 100000 in
theorem okL0 : cdL0.all (fun q => okX 272 q.1 q.2) = true := by decide +kernel
set_option maxRecDepth 100000 in
theorem okL1 : cdL1.all (fun q => okX 272 q.1 q.2) = true := by decide +kernel
set_option maxRecDepth 100000 in
theorem okL2 : cdL2.all (fun q => okX 272 q.1 q.2) = true := by decide +kernel
set_option maxRecDepth 100000 in
theorem okL3 : cdL3.all (fun q => okX 272 q.1 q.2) = true := by decide +kernel
set_option maxRecDepth 100000 in
theorem okL4 : cdL4.all (fun q => okX 272 q.1 q.2) = true := by decide +kernel
set_option maxRecDepth 100000 in
theorem okL5 : cdL5.all (fun q => okX 272 q.1 q.2) = true := by decide +kernel
set_option maxRecDepth 100000 in
theorem okL6 : cdL6.all (fun q => okX 272 q.1 q.2) = true := by decide +kernel
set_option maxRecDepth 100000 in
theorem okL7 : cdL7.all (fun q => okX 272 q.1 q.2) = true := by decide +kernel
set_option maxRecDepth 100000 in
theorem okL8 : cdL8.all (fun q => okX 272 q.1 q.2) = true := by decide +kernel
set_option maxRecDepth 100000 in
theorem okL9 : cdL9.all (fun q => okX 272 q.1 q.2) = true := by decide +kernel
set_option maxRecDepth 100000 in
theorem okL10 : cdL10.all (fun q => okX 272 q.1 q.2) = true := by decide +kernel
set_option maxRecDepth 100000 in
theorem okL11 : cdL11.all (fun q => okX 272 q.1 q.2) = true := by decide +kernel
set_option maxRecDepth 100000 in
theorem okL12 : cdL12.all (fun q => okX 272 q.1 q.2) = true := by decide +kernel
set_option maxRecDepth 100000 in
theorem okL13 : cdL13.all (fun q => okX 272 q.1 q.2) = true := by decide +kernel
set_option maxRecDepth 100000 in
theorem okL14 : cdL14.all (fun q => okX 272 q.1 q.2) = true := by decide +kernel
theorem okLaw : cd272.all (fun q => okX 272 q.1 q.2) = true := by
  unfold cd272
  simp only [List.all_append, Bool.and_eq_true]
  exact ⟨okL0, okL1, okL2, okL3, okL4, okL5, okL6, okL7, okL8, okL9, okL10, okL11, okL12, okL13, okL14⟩
theorem ok_lkp {M : Nat} {x : XI} : ∀ {l : List (Nat × XI)} {pc : Nat}, l.all (fun q => okX M q.1 q.2) = true → lkp l pc = some x → okX M pc x = true := by
  intro l
  induction l with
  | nil => intro pc _ h; cases h
  | cons q l ih =>
    intro pc ha h
    rw [List.all_cons, Bool.and_eq_true] at ha
    unfold lkp at h
    split at h
    · rename_i e
      cases h
      rw [← e]
      exact ha.1
    · exact ih ha.2 h
theorem ok_fetch {M pc : Nat} {x : XI} (h : fetch M pc = some x) : okX M pc x = true := by
  refine ok_lkp ?_ h
  by_cases h0 : M < 16
  · exact List.all_eq_true.mp okG0 M (by rw [List.mem_range']; exact ⟨M - 0, by omega, by omega⟩)
  by_cases h1 : M < 32
  · exact List.all_eq_true.mp okG1 M (by rw [List.mem_range']; exact ⟨M - 16, by omega, by omega⟩)
  by_cases h2 : M < 48
  · exact List.all_eq_true.mp okG2 M (by rw [List.mem_range']; exact ⟨M - 32, by omega, by omega⟩)
  by_cases h3 : M < 64
  · exact List.all_eq_true.mp okG3 M (by rw [List.mem_range']; exact ⟨M - 48, by omega, by omega⟩)
  by_cases h4 : M < 80
  · exact List.all_eq_true.mp okG4 M (by rw [List.mem_range']; exact ⟨M - 64, by omega, by omega⟩)
  by_cases h5 : M < 96
  · exact List.all_eq_true.mp okG5 M (by rw [List.mem_range']; exact ⟨M - 80, by omega, by omega⟩)
  by_cases h6 : M < 112
  · exact List.all_eq_true.mp okG6 M (by rw [List.mem_range']; exact ⟨M - 96, by omega, by omega⟩)
  by_cases h7 : M < 128
  · exact List.all_eq_true.mp okG7 M (by rw [List.mem_range']; exact ⟨M - 112, by omega, by omega⟩)
  by_cases h8 : M < 144
  · exact List.all_eq_true.mp okG8 M (by rw [List.mem_range']; exact ⟨M - 128, by omega, by omega⟩)
  by_cases h9 : M < 160
  · exact List.all_eq_true.mp okG9 M (by rw [List.mem_range']; exact ⟨M - 144, by omega, by omega⟩)
  by_cases h10 : M < 176
  · exact List.all_eq_true.mp okG10 M (by rw [List.mem_range']; exact ⟨M - 160, by omega, by omega⟩)
  by_cases h11 : M < 192
  · exact List.all_eq_true.mp okG11 M (by rw [List.mem_range']; exact ⟨M - 176, by omega, by omega⟩)
  by_cases h12 : M < 208
  · exact List.all_eq_true.mp okG12 M (by rw [List.mem_range']; exact ⟨M - 192, by omega, by omega⟩)
  by_cases h13 : M < 224
  · exact List.all_eq_true.mp okG13 M (by rw [List.mem_range']; exact ⟨M - 208, by omega, by omega⟩)
  by_cases h14 : M < 240
  · exact List.all_eq_true.mp okG14 M (by rw [List.mem_range']; exact ⟨M - 224, by omega, by omega⟩)
  by_cases h15 : M < 256
  · exact List.all_eq_true.mp okG15 M (by rw [List.mem_range']; exact ⟨M - 240, by omega, by omega⟩)
  by_cases h16 : M < 257
  · exact List.all_eq_true.mp okG16 M (by rw [List.mem_range']; exact ⟨M - 256, by omega, by omega⟩)
  by_cases hl : M = 272
  · subst hl
    exact okLaw
  have e : cdOf M = [] := by
    unfold cdOf
    by_cases h16 : M / 16 = 16
    · rw [h16]
      show (match cdG16[M % 16]? with | some q => q | none => []) = []
      rw [List.getElem?_eq_none (by show 1 ≤ M % 16; omega)]
    · by_cases h17 : M / 16 = 17
      · rw [h17]
        show (match cdG17[M % 16]? with | some q => q | none => []) = []
        rw [List.getElem?_eq_none (by show 1 ≤ M % 16; omega)]
      · rw [List.getElem?_eq_none (by show 18 ≤ M / 16; omega)]
  rw [e]
  rfl
