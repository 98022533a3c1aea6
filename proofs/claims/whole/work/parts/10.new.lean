/-! THE INSTRUCTIONS THAT MAKE CELLS, and System.arraycopy -/
set_option maxRecDepth 100000 in
theorem cl_inst : ∀ ci, ci < 12 → Jvm.Cond.instantiable (clR ci) (NF ci) ∈ wG ∧ Jvm.Cond.initialized (clR ci) ∈ wG := lt12 ⟨wG_tb (p := 267) (by decide +kernel) rfl, wG_tb (p := 9) (by decide +kernel) rfl⟩ ⟨wG_tb (p := 341) (by decide +kernel) rfl, wG_tb (p := 11) (by decide +kernel) rfl⟩ ⟨wG_tb (p := 201) (by decide +kernel) rfl, wG_tb (p := 7) (by decide +kernel) rfl⟩ ⟨wG_tb (p := 173) (by decide +kernel) rfl, wG_tb (p := 6) (by decide +kernel) rfl⟩ ⟨wG_tb (p := 300) (by decide +kernel) rfl, wG_tb (p := 10) (by decide +kernel) rfl⟩ ⟨wG_tb (p := 150) (by decide +kernel) rfl, wG_tb (p := 5) (by decide +kernel) rfl⟩ ⟨wG_tb (p := 65) (by decide +kernel) rfl, wG_tb (p := 3) (by decide +kernel) rfl⟩ ⟨wG_tb (p := 133) (by decide +kernel) rfl, wG_tb (p := 4) (by decide +kernel) rfl⟩ ⟨wG_tb (p := 207) (by decide +kernel) rfl, wG_tb (p := 8) (by decide +kernel) rfl⟩ ⟨wG_tb (p := 30) (by decide +kernel) rfl, wG_tb (p := 2) (by decide +kernel) rfl⟩ ⟨wG_tb (p := 22) (by decide +kernel) rfl, wG_tb (p := 1) (by decide +kernel) rfl⟩ ⟨wG_tb (p := 1110) (by decide +kernel) rfl, wG_tb (p := 12) (by decide +kernel) rfl⟩
theorem fv_new {V : EvT} {w : Wd} {kd n ci j : Nat} (h : ftag (tyC ci j) ≤ 3) : fv V (newC w kd n) ci (wn w) j = defaultValue (tyC ci j) := by
  have e1 : wI (newC w kd n) (wn w) j = 0 := if_pos rfl
  have e2 : wL (newC w kd n) (wn w) j = 0 := if_pos rfl
  have e3 : wR (newC w kd n) (wn w) j = none := if_pos rfl
  unfold fv
  rw [e1, e2, e3]
  cases ht : tyC ci j <;> rw [ht] at h <;> simp [ftag, defaultValue, rfa, va_rf] at h ⊢
theorem cellE_newC {V : EvT} {w : Wd} {kd n k : Nat} (h : k ≠ wn w) (kd' n' : Nat) : cellE V (newC w kd n) k kd' n' = cellE V w k kd' n' := by
  have e1 : wI (newC w kd n) k = wI w k := by funext b; exact if_neg h
  have e2 : wL (newC w kd n) k = wL w k := by funext b; exact if_neg h
  have e3 : wR (newC w kd n) k = wR w k := by funext b; exact if_neg h
  have e4 : fvs V (newC w kd n) kd' k = fvs V w kd' k := by
    unfold fvs
    apply List.map_congr_left
    intro x _
    unfold fv
    rw [e1, e2, e3]
  unfold cellE
  rw [e1, e2, e3, e4]
theorem HR.push {V : EvT} {w : Wd} {H H1 : Heap} {kd n : Nat} (h : HR V w H) (hz : H1.size = H.size + 1) (o1 : ∀ q : Nat, q < H.size → H1[q]? = H[q]?) (hkd : kd < 12 ∨ 20 ≤ kd ∧ kd < 27) (hat : va_at (eD V) vwCl (H.size, cellE V (newC w kd n) (wn w) kd n) H1) : HR V (newC w kd n) H1 := by
  refine ⟨by rw [hz, h.1]; show _ = eb V + (wn w + 1); omega, fun k kd' n' e => ?_⟩
  have e : (if k = wn w then some (kd, n) else wsh w k) = some (kd', n') := e
  by_cases hk : k = wn w
  · subst hk
    rw [if_pos rfl] at e
    cases e
    exact ⟨Nat.lt_succ_self _, hkd, by rw [← h.1]; exact hat⟩
  · rw [if_neg hk] at e
    obtain ⟨a, b, c⟩ := h.2 k kd' n' e
    refine ⟨Nat.lt_succ_of_lt a, b, ?_⟩
    rw [cellE_newC hk]
    exact c.kept (o1 _ (by rw [h.1]; show eb V + k < _; omega))
theorem va_S.push {A : Nat → Prop} {H0 H H1 : Heap} {locs : List Loc} (h : va_S A H0 H locs) (hz : H.size ≤ H1.size) (o1 : ∀ q : Nat, q < H.size → H1[q]? = H[q]?) : va_S A H0 H1 locs :=
  ⟨Nat.le_trans h.1 hz, fun x h1 h2 => (o1 x (Nat.lt_of_lt_of_le h1 h.1)).trans (h.2.1 x h1 h2), h.2.2⟩
section RN
variable {V : EvT} {p : Program} {l : Launch} {e : Env} {R : Room} {s : State} {m : MethodId} {args : Array Value} {below : List Frame} {meth : Method} {c : Code} {H : Heap} {locs : List Loc} {cells slots : Nat} {Q : State → Prop} {M pc : Nat} {ls : Array Slot} {rest : List Value} {w : Wd}
theorem r_new (C : CX V M p R s m args meth c) (hH : HR V w H) (hS : va_S (A0 V) s.heap H locs) {ci i : Nat} (hci : ci < 12) (hw : Jvm.Cond.classLink (pN M).cls i (clR ci) ∈ wG) (hcells : cells + 1 ≤ R.cells) (hslots : slots + NF ci ≤ R.slots) (hdg : decode (pB M) pc = .ok (.new i, 3))
    (kk : ∀ H1 : Heap, HR V (newC w ci (NF ci)) H1 → va_S (A0 V) s.heap H1 locs → W p l e R s m args below meth c H1 locs (cells + 1) (slots + NF ci) Q (F0 m (pc + 3) ls (.ref (eb V + wn w) :: rest))) : W p l e R s m args below meth c H locs cells slots Q (F0 m pc ls rest) := by
  obtain ⟨hx, hb, hml, hown, hts, hE, hnm, hf, hlo, hsz⟩ := C
  have hc := cl_at ci hci
  have hKn := hE.1.1 ci _ hc
  refine W.newcK hx hb hown (hts _ hw) (hts _ (cl_inst ci hci).1) (hts _ (cl_inst ci hci).2) rfl hdg hcells hslots hKn.2.1 rfl fun H1 kC hkC e1 z1 o1 => ?_
  rw [hH.1]
  refine kk H1 (hH.push z1 o1 (Or.inl hci) ?_) (hS.push (by omega) o1)
  rw [cellE_obj hci]
  refine ⟨_, hc, (u_born (tyC ci) hts (cl_in ci hci) hKn hkC e1 (cl_ty ci hci)).to (fun j hj => ?_)⟩
  rw [← fv_new (V := V) (w := w) (kd := ci) (n := NF ci) (cl_tags ci hci j hj)]
  show _ = (fvs V (newC w ci (NF ci)) ci (wn w)).getD j .null
  unfold fvs
  rw [List.getD_eq_getElem?_getD, List.getElem?_map, List.getElem?_range hj]
  rfl
theorem r_newA (C : CX V M p R s m args meth c) (hH : HR V w H) (hS : va_S (A0 V) s.heap H locs) {t : ArrayType} {kd : Nat} {n : Int32} (ht : kdA t = some kd) (hn : ¬ n < 0) (hN : n.toNatClampNeg ≤ 100000) (hcells : cells + 1 ≤ R.cells) (hslots : slots + n.toNatClampNeg ≤ R.slots) (hdg : decode (pB M) pc = .ok (.newarray t, 2))
    (kk : ∀ H1 : Heap, HR V (newC w kd n.toNatClampNeg) H1 → va_S (A0 V) s.heap H1 locs → W p l e R s m args below meth c H1 locs (cells + 1) (slots + n.toNatClampNeg) Q (F0 m (pc + 2) ls (.ref (eb V + wn w) :: rest))) : W p l e R s m args below meth c H locs cells slots Q (F0 m pc ls (.int n :: rest)) := by
  obtain ⟨hx, hb, hml, hown, hts, hE, hnm, hf, hlo, hsz⟩ := C
  have hkd : 20 ≤ kd ∧ kd < 24 := by cases t <;> cases ht <;> omega
  have hty : newarray.typeOf t = tyA kd := by cases t <;> cases ht <;> rfl
  have hwd : Jvm.Cond.arrayClass (newarray.typeOf t) ∈ wG := by
    cases t <;> cases ht
    · exact wG_tb (p := 131) (by decide +kernel) rfl
    · exact wG_tb (p := 63) (by decide +kernel) rfl
    · exact wG_tb (p := 130) (by decide +kernel) rfl
    · exact wG_tb (p := 368) (by decide +kernel) rfl
  have hbyt : n.toNatClampNeg * componentBytes (newarray.typeOf t) ≤ 536870912 := by
    have h8 : componentBytes (newarray.typeOf t) ≤ 8 := by cases t <;> decide
    calc n.toNatClampNeg * componentBytes (newarray.typeOf t) ≤ 100000 * 8 := Nat.mul_le_mul hN h8
      _ ≤ 536870912 := Nat.le_of_ble_eq_true rfl
  have hRA : s.vm.findClass ("[" ++ (newarray.typeOf t).toString) = some (eA V kd) := by
    cases t <;> cases ht
    · exact (hE.1.2 2 _ rfl).2
    · exact (hE.1.2 1 _ rfl).2
    · exact (hE.1.2 0 _ rfl).2
    · exact (hE.1.2 3 _ rfl).2
  refine va_newaK hx hb (hts _ hwd) rfl hdg rfl hn rfl hbyt hcells hslots rfl fun H1 cA e1 z1 o1 hAr hNm => ?_
  have hcA : cA = eA V kd := Option.some.inj (hNm.symm.trans hRA)
  subst hcA
  rw [hH.1]
  refine kk H1 (hH.push z1 o1 (Or.inr ⟨hkd.1, by omega⟩) ?_) (hS.push (by omega) o1)
  have z1 : ∀ j, wI (newC w kd n.toNatClampNeg) (wn w) j = 0 := fun j => if_pos rfl
  have z2 : ∀ j, wL (newC w kd n.toNatClampNeg) (wn w) j = 0 := fun j => if_pos rfl
  by_cases h23 : kd = 23
  · subst h23
    rw [cellE_long]
    show H1[H.size]? = some (vp_cell _ _)
    rw [e1, vp_cell_l, hty]
    congr 2
    funext j
    rw [z2 j]
    rfl
  · rw [cellE_int (by omega)]
    show H1[H.size]? = some (vp_cell _ _)
    rw [e1, vp_cell_i, hty]
    congr 2
    funext j
    rw [z1 j]
    have h3 : kd = 20 ∨ kd = 21 ∨ kd = 22 := by omega
    rcases h3 with rfl | rfl | rfl <;> rfl
theorem r_anew (C : CX V M p R s m args meth c) (hH : HR V w H) (hS : va_S (A0 V) s.heap H locs) {kd i : Nat} {n : Int32} (hkd : kd = 24 ∨ kd = 25) (hw : Jvm.Cond.classLink (pN M).cls i (clR (elC kd)) ∈ wG) (hn : ¬ n < 0) (hN : n.toNatClampNeg ≤ 100000) (hcells : cells + 1 ≤ R.cells) (hslots : slots + n.toNatClampNeg ≤ R.slots) (hdg : decode (pB M) pc = .ok (.anewarray i, 3))
    (kk : ∀ H1 : Heap, HR V (newC w kd n.toNatClampNeg) H1 → va_S (A0 V) s.heap H1 locs → W p l e R s m args below meth c H1 locs (cells + 1) (slots + n.toNatClampNeg) Q (F0 m (pc + 3) ls (.ref (eb V + wn w) :: rest))) : W p l e R s m args below meth c H locs cells slots Q (F0 m pc ls (.int n :: rest)) := by
  obtain ⟨hx, hb, hml, hown, hts, hE, hnm, hf, hlo, hsz⟩ := C
  have hover : va_AO (clR (elC kd)) s := by
    rcases hkd with rfl | rfl
    · exact hE.2.2.2.2.2.2.2.1
    · exact hE.2.2.2.2.2.2.2.2.1.1
  have hRA : s.vm.findClass ("[" ++ (FieldType.object (clR (elC kd))).toString) = some (eA V kd) := by
    rcases hkd with rfl | rfl
    · obtain ⟨_, _, -, -, -, h⟩ := (hE.1.2 4 _ rfl).2
      exact h
    · obtain ⟨_, _, -, -, -, h⟩ := (hE.1.2 5 _ rfl).2
      exact h
  refine W.anew hx hb hown (hts _ hw) (va_AO.use hover) rfl hdg rfl hn (by omega) hcells hslots fun cA kA comp f1 f2 f3 f4 => ?_
  have hcA : cA = eA V kd := Option.some.inj (f1.symm.trans hRA)
  subst hcA
  generalize hH1 : H.push ({ cls := eA V kd, slots := Array.replicate n.toNatClampNeg .null, vm := .none } : Cell) = H1
  have z1 : H1.size = H.size + 1 := by rw [← hH1, Array.size_push]
  have e1 : H1[H.size]? = some (arrV (eA V kd) n.toNatClampNeg (fun _ => .null)) := by rw [← hH1, Array.getElem?_push_size, ← arrV_new]
  have o1 : ∀ q : Nat, q < H.size → H1[q]? = H[q]? := fun q hq => by rw [← hH1, Array.getElem?_push, if_neg (Nat.ne_of_lt hq)]
  rw [hH.1]
  refine kk H1 (hH.push z1 o1 (Or.inr ⟨by omega, by omega⟩) ?_) (hS.push (by omega) o1)
  rw [cellE_ref (by omega)]
  show H1[H.size]? = some (vp_cell _ _)
  rw [e1, vp_cell_q]
  congr 2
  funext j
  have z3 : wR (newC w kd n.toNatClampNeg) (wn w) j = none := if_pos rfl
  rw [z3]
  rfl
theorem r_cpy (C : CX V M p R s m args meth c) (hH : HR V w H) (hS : va_S (A0 V) s.heap H locs) (hml : c.maxLocals = ls.size) {a b na nb i : Nat} {sp dp n : Int32} {w' : Wd} (ha : wsh w a = some (20, na)) (hb' : wsh w b = some (20, nb)) (hw : Jvm.Cond.methodLink (pN M).cls i arraycopyName ∈ wG)
    (h1 : ¬ sp < 0) (h2 : ¬ dp < 0) (h3 : ¬ n < 0) (h4 : sp.toNatClampNeg + n.toNatClampNeg ≤ na) (h5 : dp.toNatClampNeg + n.toNatClampNeg ≤ nb) (hfr : 1 ≤ R.frames) (hloc : (rest.map fun v => v.category).sum + 18 ≤ R.locals) (hdg : decode (pB M) pc = .ok (.invokestatic i, 3))
    (hw' : w' = (wn w, wz w, wsh w, (fun x y => if x = b then va_cpy (wI w a) (wI w b) sp.toNatClampNeg dp.toNatClampNeg n.toNatClampNeg y else wI w x y), wL w, wR w))
    (kk : ∀ (H1 : Heap) (locs1 : List Loc), HR V w' H1 → va_S (A0 V) s.heap H1 locs1 → W p l e R s m args below meth c H1 locs1 cells slots Q (F0 m (pc + 3) ls rest)) : W p l e R s m args below meth c H locs cells slots Q (F0 m pc ls (.int n :: .int dp :: .ref (eb V + b) :: .int sp :: .ref (eb V + a) :: rest)) := by
  obtain ⟨hx, hb, -, hown, hts, hE, hnm, hf, hlo, hsz⟩ := C
  have hata := hH.at ha
  have hatb := hH.at hb'
  rw [cellE_int (Or.inl rfl)] at hata hatb
  have nn : ∀ z : Int32, ¬ z < 0 → z.toInt = (z.toNatClampNeg : Int) := by
    intro z hz
    have hz0 : (0 : Int) ≤ z.toInt := by
      have := Int32.not_lt.mp hz
      simpa using Int32.le_iff_toInt_le.mp this
    show z.toInt = ((z.toInt.toNat : Nat) : Int)
    omega
  intro T hT X
  have hc0 : H[eb V + a]? = some (vp_cell (eA V 20) (na, .inl (wI w a))) := hata
  have hc1 : H[eb V + b]? = some (vp_cell (eA V 20) (nb, .inl (wI w b))) := hatb
  have hAr := (hE.1.2 0 _ rfl).1
  obtain ⟨-, k0, hk0, cm0, hkk0⟩ := hAr na (fun j => .int (wI w a j))
  obtain ⟨-, k1, hk1, cm1, hkk1⟩ := hAr nb (fun j => .int (wI w b j))
  obtain ⟨vm', X', step⟩ := X.arraycopy hx hown (hts _ hw) (hts _ (wG_tb (p := 781) (by decide +kernel) rfl)) (hts _ (wG_tb (p := 780) (by decide +kernel) rfl)) (hts _ (wG_tb (p := 19) (by decide +kernel) rfl)) (src := eb V + a) (dst := eb V + b) (cs := vp_cell (eA V 20) (na, .inl (wI w a))) (cd := vp_cell (eA V 20) (nb, .inl (wI w b))) (srcPos := sp) (destPos := dp) (n := n) (by rw [hT]; exact hc0) (by rw [hT]; exact hc1)
    (fun _ h => by cases h) (fun _ h => by cases h) (fun h => by cases h) (fun h => by cases h) hk0 hk1 hkk0 hkk1 (by simp [refKind]) h1 h2 h3
    (by rw [nn sp h1, nn n h3]; show ¬ _ > ((arrV (eA V 20) na (fun j => .int (wI w a j))).slots.size : Int); rw [arrV_size]; omega)
    (by rw [nn dp h2, nn n h3]; show ¬ _ > ((arrV (eA V 20) nb (fun j => .int (wI w b j))).slots.size : Int); rw [arrV_size]; omega)
    (fun vm₁ _ i hi => by
      have e : (vp_cell (eA V 20) (na, .inl (wI w a))).slots.getD (sp.toNatClampNeg + i) .null = .int (wI w a (sp.toNatClampNeg + i)) := by
        show (arrV (eA V 20) na (fun j => .int (wI w a j))).slots.getD _ _ = _
        rw [Array.getD_eq_getD_getElem?, arrV_read _ _ (by omega)]
        rfl
      refine ⟨?_, ?_⟩
      · rw [e]
        rfl
      · rw [e]
        exact trivial)
    (g := F0 m pc ls (.int n :: .int dp :: .ref (eb V + b) :: .int sp :: .ref (eb V + a) :: rest)) rfl (by rw [hml]) (rest := rest) rfl (by rw [hb]; exact hdg) hfr (by show 2 * 0 + _ + (7 + 11) ≤ _; omega)
  have e1 : copied (vp_cell (eA V 20) (na, .inl (wI w a))) (vp_cell (eA V 20) (nb, .inl (wI w b))) sp dp n = vp_cell (eA V 20) (nb, .inl (va_cpy (wI w a) (wI w b) sp.toNatClampNeg dp.toNatClampNeg n.toNatClampNeg)) := va_copied (fun z => .int z) (eA V 20) (eA V 20) (wI w a) (wI w b) h4
  rw [e1] at X' step
  generalize hcell : vp_cell (eA V 20) (nb, .inl (va_cpy (wI w a) (wI w b) sp.toNatClampNeg dp.toNatClampNeg n.toNatClampNeg)) = cellN at X' step
  have hl : eb V + b < H.size := (Array.getElem?_eq_some_iff.mp hc1).1
  have hheap : ((T.setVm vm').setCell (eb V + b) cellN).heap = H.setIfInBounds (eb V + b) cellN := by rw [← hT]; rfl
  have oq : ∀ q : Nat, q ≠ eb V + b → (H.setIfInBounds (eb V + b) cellN)[q]? = H[q]? := fun q hq => by simp [Array.getElem?_setIfInBounds, Ne.symm hq]
  have hself : (H.setIfInBounds (eb V + b) cellN)[eb V + b]? = some cellN := by simp [Array.getElem?_setIfInBounds, hl]
  subst hw'
  have hHR : HR V ((wn w, wz w, wsh w, (fun x y => if x = b then va_cpy (wI w a) (wI w b) sp.toNatClampNeg dp.toNatClampNeg n.toNatClampNeg y else wI w x y), wL w, wR w) : Wd) (H.setIfInBounds (eb V + b) cellN) := by
    refine hH.upd rfl rfl (fun k' hk' kd n' => ?_) (by simp) oq (fun kd n' e => ?_)
    · have q1 : wI ((wn w, wz w, wsh w, (fun x y => if x = b then va_cpy (wI w a) (wI w b) sp.toNatClampNeg dp.toNatClampNeg n.toNatClampNeg y else wI w x y), wL w, wR w) : Wd) k' = wI w k' := by funext y; exact if_neg hk'
      have q4 : fvs V ((wn w, wz w, wsh w, (fun x y => if x = b then va_cpy (wI w a) (wI w b) sp.toNatClampNeg dp.toNatClampNeg n.toNatClampNeg y else wI w x y), wL w, wR w) : Wd) kd k' = fvs V w kd k' := by
        unfold fvs
        apply List.map_congr_left
        intro x _
        unfold fv
        rw [q1]
        rfl
      unfold cellE
      rw [q1, q4]
      rfl
    · rw [hb'] at e
      cases e
      rw [cellE_int (Or.inl rfl)]
      show (H.setIfInBounds (eb V + b) cellN)[eb V + b]? = some (vp_cell _ _)
      rw [hself, ← hcell]
      congr 4
      funext y
      exact (if_pos rfl).symm
  obtain ⟨t, a1, b1⟩ := kk _ _ hHR ⟨by simp; exact hS.1, fun q g1 g2 => by
      rw [oq q (fun e => g2 (by rw [e]; exact Nat.le_add_right _ _))]
      exact hS.2.1 q g1 g2, fun q hq => by
      rcases List.mem_append.mp hq with h | h
      · exact hS.2.2 q h
      · obtain ⟨z, -, hz⟩ := List.mem_map.mp h
        rw [← hz]
        exact Nat.le_add_right _ _⟩ _ hheap X'
  exact ⟨t, step t a1, b1⟩
end RN
