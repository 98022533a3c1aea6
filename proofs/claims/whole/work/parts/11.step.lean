/-! LOCALS -/
def LH (V : EvT) (ls : Ls) (LS : Array Slot) : Prop := LS.size = ls.length ∧ lv_wf LS ∧ ∀ (i : Nat) (v : Value), ls[i]? = some (some v) → LS[i]? = some (.val (cv V v))
def prs (V : EvT) (ls : Ls) : List (Nat × Value) := (List.range ls.length).filterMap (fun i => match ls[i]? with
  | some (some v) => some (i, cv V v)
  | _ => none)
theorem prs_mem {V : EvT} {ls : Ls} {q : Nat × Value} : q ∈ prs V ls ↔ ∃ v, ls[q.1]? = some (some v) ∧ q.2 = cv V v := by
  unfold prs
  rw [List.mem_filterMap]
  constructor
  · rintro ⟨i, hi, h⟩
    cases hl : ls[i]? with
    | none => rw [hl] at h; cases h
    | some o =>
      rw [hl] at h
      cases o with
      | none => cases h
      | some v =>
        cases h
        exact ⟨v, hl, rfl⟩
  · rintro ⟨v, h1, h2⟩
    refine ⟨q.1, List.mem_range.mpr (List.getElem?_eq_some_iff.mp h1).1, ?_⟩
    rw [h1]
    show some (q.1, cv V v) = some q
    rw [← h2]
theorem LH.has {V : EvT} {ls : Ls} {LS : Array Slot} (h : LH V ls LS) : lv_has LS ls.length (prs V ls) := ⟨h.1, h.2.1, fun q hq => by
  obtain ⟨v, h1, h2⟩ := prs_mem.mp hq
  rw [h2]
  exact h.2.2 _ _ h1⟩
theorem LH.at {V : EvT} {ls : Ls} {LS : Array Slot} (h : LH V ls LS) {i : Nat} {v : Value} (hl : ldl ls i = some v) : LS[i]? = some (.val (cv V v)) := by
  unfold ldl at hl
  split at hl
  · rename_i u hu
    cases hl
    exact h.2.2 _ _ hu
  · cases hl
theorem cv_cat {V : EvT} (hV : ∀ u, eS V u = .null ∨ ∃ a, eS V u = .ref a) (v : Value) : (cv V v).category = v.category := by
  cases v <;> try rfl
  rename_i u
  show (eS V u).category = 1
  rcases hV u with h | ⟨a, h⟩ <;> rw [h] <;> rfl
theorem stl1_len (ls : Ls) (i : Nat) (v : Value) : (stl1 ls i v).length = ls.length := by
  unfold stl1
  split
  · simp
  · split <;> simp
theorem stl2_len (ls : Ls) (i : Nat) (v : Value) : (stl2 ls i v).length = ls.length := by
  unfold stl2
  simp [stl1_len]
theorem set_get {ls : Ls} {i j : Nat} {o : Option Value} {u : Value} (h : (ls.set i o)[j]? = some (some u)) : (j = i ∧ o = some u) ∨ (j ≠ i ∧ ls[j]? = some (some u)) := by
  rw [List.getElem?_set] at h
  by_cases hj : i = j
  · subst hj
    rw [if_pos rfl] at h
    split at h
    · exact Or.inl ⟨rfl, Option.some.inj h⟩
    · cases h
  · rw [if_neg hj] at h
    exact Or.inr ⟨Ne.symm hj, h⟩
theorem stl1_get {ls : Ls} {i j : Nat} {v u : Value} (h : (stl1 ls i v)[j]? = some (some u)) : (j = i ∧ u = v) ∨ (j ≠ i ∧ ls[j]? = some (some u) ∧ ¬ (j + 1 = i ∧ u.category = 2)) := by
  unfold stl1 at h
  split at h
  · rcases set_get h with ⟨a, b⟩ | ⟨a, b⟩
    · cases b
      exact Or.inl ⟨a, rfl⟩
    · exact Or.inr ⟨a, b, fun q => by omega⟩
  · rename_i k
    have two : ∀ {o : Option Value}, ls[k]? = some o → ((ls.set k none).set (k + 1) (some v))[j]? = some (some u) → (j = k + 1 ∧ u = v) ∨ (j ≠ k + 1 ∧ ls[j]? = some (some u) ∧ ¬ (j + 1 = k + 1 ∧ u.category = 2)) := by
      intro o _ h
      rcases set_get h with ⟨a, b⟩ | ⟨a, b⟩
      · cases b
        exact Or.inl ⟨a, rfl⟩
      · rcases set_get b with ⟨a2, b2⟩ | ⟨a2, b2⟩
        · cases b2
        · exact Or.inr ⟨a, b2, fun q => a2 (by omega)⟩
    split at h
    · rename_i hk
      exact two hk h
    · rename_i hk
      exact two hk h
    · rename_i g1 g2
      rcases set_get h with ⟨a, b⟩ | ⟨a, b⟩
      · cases b
        exact Or.inl ⟨a, rfl⟩
      · refine Or.inr ⟨a, b, fun q => ?_⟩
        have hj : j = k := by omega
        subst hj
        cases u with
        | long z => exact g1 z b
        | double z => exact g2 z b
        | _ => cases q.2
theorem stl2_get {ls : Ls} {i j : Nat} {v u : Value} (h : (stl2 ls i v)[j]? = some (some u)) : (j = i ∧ u = v) ∨ (j ≠ i ∧ j ≠ i + 1 ∧ ls[j]? = some (some u) ∧ ¬ (j + 1 = i ∧ u.category = 2)) := by
  unfold stl2 at h
  rcases set_get h with ⟨a, b⟩ | ⟨a, b⟩
  · cases b
  · rcases stl1_get b with ⟨a2, b2⟩ | ⟨a2, b2, b3⟩
    · exact Or.inl ⟨a2, b2⟩
    · exact Or.inr ⟨a2, a, b2, b3⟩
theorem LH.st1 {V : EvT} (hV : ∀ u, eS V u = .null ∨ ∃ a, eS V u = .ref a) {ls : Ls} {i : Nat} {v : Value} {LS' : Array Slot} (h' : lv_has LS' ls.length ((i, cv V v) :: (prs V ls).filter (fun q => !(q.1 == i) && !(q.1 + 1 == i && q.2.category == 2)))) : LH V (stl1 ls i v) LS' := by
  refine ⟨by rw [stl1_len]; exact h'.1, h'.2.1, fun j u hj => ?_⟩
  rcases stl1_get hj with ⟨a, b⟩ | ⟨a, b, d⟩
  · subst a; subst b
    exact h'.2.2 (j, cv V u) List.mem_cons_self
  · refine h'.2.2 (j, cv V u) (List.mem_cons_of_mem _ (List.mem_filter.mpr ⟨prs_mem.mpr ⟨u, b, rfl⟩, ?_⟩))
    rw [cv_cat hV]
    simp only [Bool.and_eq_true, Bool.not_eq_true', beq_eq_false_iff_ne, ne_eq, Bool.and_eq_false_iff]
    exact ⟨a, (Classical.em (j + 1 = i)).elim (fun z => Or.inr (fun y => d ⟨z, y⟩)) (fun z => Or.inl z)⟩
theorem LH.st2 {V : EvT} (hV : ∀ u, eS V u = .null ∨ ∃ a, eS V u = .ref a) {ls : Ls} {i : Nat} {v : Value} {LS' : Array Slot} (h' : lv_has LS' ls.length ((i, cv V v) :: (prs V ls).filter (fun q => !(q.1 == i) && (!(q.1 == i + 1) && !(q.1 + 1 == i && q.2.category == 2))))) : LH V (stl2 ls i v) LS' := by
  refine ⟨by rw [stl2_len]; exact h'.1, h'.2.1, fun j u hj => ?_⟩
  rcases stl2_get hj with ⟨a, b⟩ | ⟨a, a2, b, d⟩
  · subst a; subst b
    exact h'.2.2 (j, cv V u) List.mem_cons_self
  · refine h'.2.2 (j, cv V u) (List.mem_cons_of_mem _ (List.mem_filter.mpr ⟨prs_mem.mpr ⟨u, b, rfl⟩, ?_⟩))
    rw [cv_cat hV]
    simp only [Bool.and_eq_true, Bool.not_eq_true', beq_eq_false_iff_ne, ne_eq, Bool.and_eq_false_iff]
    exact ⟨a, a2, (Classical.em (j + 1 = i)).elim (fun z => Or.inr (fun y => d ⟨z, y⟩)) (fun z => Or.inl z)⟩
theorem LH.k {V : EvT} {ls : Ls} {i : Nat} {v : Value} (hl : ldl ls i = some v) : ∃ k : Nat, (prs V ls)[k]? = some (i, cv V v) := by
  unfold ldl at hl
  split at hl
  · rename_i u hu
    cases hl
    exact List.getElem?_of_mem (prs_mem.mpr ⟨_, hu, rfl⟩)
  · cases hl
/-! ONE STEP: the frame at pc with locals ls and stack st over the world w runs to Q -/
def J (V : EvT) (M : Nat) (p : Program) (l : Launch) (e : Env) (R : Room) (s : State) (m : MethodId) (args : Array Value) (below : List Frame) (meth : Method) (c : Code) (Q : State → Prop) (cells slots pc : Nat) (ls : Ls) (st : List Value) (w : Wd) : Prop :=
  ∀ (LS : Array Slot) (H : Heap) (locs : List Loc), LH V ls LS → HR V w H → va_S (A0 V) s.heap H locs → W p l e R s m args below meth c H locs cells slots Q (F0 m pc LS (st.map (cv V)))
section RJ
variable {V : EvT} {p : Program} {l : Launch} {e : Env} {R : Room} {s : State} {m : MethodId} {args : Array Value} {below : List Frame} {meth : Method} {c : Code} {cells slots : Nat} {Q : State → Prop} {M pc : Nat} {ls : Ls} {r : List Value} {w : Wd}
theorem j_iconst (C : CX V M p R s m args meth c) {n : Int} (hd : decode (pB M) pc = .ok (.iconst n, 1)) (k : J V M p l e R s m args below meth c Q (cells) (slots) (pc + 1) (ls) (.int (Int32.ofInt n) :: r) (w)) : J V M p l e R s m args below meth c Q (cells) (slots) (pc) (ls) (r) (w) := fun LS H locs a b q => lv_iconst C.1 C.2.1 hd rfl (k LS H locs a b q)
theorem j_bipush (C : CX V M p R s m args meth c) {n : Int} (hd : decode (pB M) pc = .ok (.bipush n, 2)) (k : J V M p l e R s m args below meth c Q (cells) (slots) (pc + 2) (ls) (.int (Int8.ofInt n).toInt32 :: r) (w)) : J V M p l e R s m args below meth c Q (cells) (slots) (pc) (ls) (r) (w) := fun LS H locs a b q => lv_bipush C.1 C.2.1 hd rfl (k LS H locs a b q)
theorem j_sipush (C : CX V M p R s m args meth c) {n : Int} (hd : decode (pB M) pc = .ok (.sipush n, 3)) (k : J V M p l e R s m args below meth c Q (cells) (slots) (pc + 3) (ls) (.int (Int16.ofInt n).toInt32 :: r) (w)) : J V M p l e R s m args below meth c Q (cells) (slots) (pc) (ls) (r) (w) := fun LS H locs a b q => lv_sipush C.1 C.2.1 hd rfl (k LS H locs a b q)
theorem j_lconst (C : CX V M p R s m args meth c) {n : Fin 2} (hd : decode (pB M) pc = .ok (.lconst n, 1)) (k : J V M p l e R s m args below meth c Q (cells) (slots) (pc + 1) (ls) (.long (Int64.ofNat (n : Nat)) :: r) (w)) : J V M p l e R s m args below meth c Q (cells) (slots) (pc) (ls) (r) (w) := fun LS H locs a b q => lv_lconst C.1 C.2.1 hd rfl (k LS H locs a b q)
theorem j_iload_n (C : CX V M p R s m args meth c) {i : Fin 4} {x : Int32} (hd : decode (pB M) pc = .ok (.iload_n i, 1)) (hl : ldl ls i = some (.int x)) (k : J V M p l e R s m args below meth c Q (cells) (slots) (pc + 1) (ls) (.int x :: r) (w)) : J V M p l e R s m args below meth c Q (cells) (slots) (pc) (ls) (r) (w) := fun LS H locs a b q => lv_iload_n C.1 C.2.1 hd rfl (a.at hl) (k LS H locs a b q)
theorem j_iload (C : CX V M p R s m args meth c) {i : Nat} {x : Int32} (hd : decode (pB M) pc = .ok (.iload i, 2)) (hl : ldl ls i = some (.int x)) (k : J V M p l e R s m args below meth c Q (cells) (slots) (pc + 2) (ls) (.int x :: r) (w)) : J V M p l e R s m args below meth c Q (cells) (slots) (pc) (ls) (r) (w) := fun LS H locs a b q => lv_iload C.1 C.2.1 hd (a.at hl) (k LS H locs a b q)
theorem j_lload_n (C : CX V M p R s m args meth c) {i : Fin 4} {x : Int64} (hd : decode (pB M) pc = .ok (.lload_n i, 1)) (hl : ldl ls i = some (.long x)) (k : J V M p l e R s m args below meth c Q (cells) (slots) (pc + 1) (ls) (.long x :: r) (w)) : J V M p l e R s m args below meth c Q (cells) (slots) (pc) (ls) (r) (w) := fun LS H locs a b q => lv_lload_n C.1 C.2.1 hd rfl (a.at hl) (k LS H locs a b q)
theorem j_lload (C : CX V M p R s m args meth c) {i : Nat} {x : Int64} (hd : decode (pB M) pc = .ok (.lload i, 2)) (hl : ldl ls i = some (.long x)) (k : J V M p l e R s m args below meth c Q (cells) (slots) (pc + 2) (ls) (.long x :: r) (w)) : J V M p l e R s m args below meth c Q (cells) (slots) (pc) (ls) (r) (w) := fun LS H locs a b q => lv_lload C.1 C.2.1 hd (a.at hl) (k LS H locs a b q)
theorem j_aload_n (C : CX V M p R s m args meth c) {i : Fin 4} {x : Nat} (hd : decode (pB M) pc = .ok (.aload_n i, 1)) (hl : ldl ls i = some (.ref x)) (k : J V M p l e R s m args below meth c Q (cells) (slots) (pc + 1) (ls) (.ref x :: r) (w)) : J V M p l e R s m args below meth c Q (cells) (slots) (pc) (ls) (r) (w) := fun LS H locs a b q => lv_aload_n C.1 C.2.1 hd rfl (a.at hl) (k LS H locs a b q)
theorem j_aload (C : CX V M p R s m args meth c) {i : Nat} {x : Nat} (hd : decode (pB M) pc = .ok (.aload i, 2)) (hl : ldl ls i = some (.ref x)) (k : J V M p l e R s m args below meth c Q (cells) (slots) (pc + 2) (ls) (.ref x :: r) (w)) : J V M p l e R s m args below meth c Q (cells) (slots) (pc) (ls) (r) (w) := fun LS H locs a b q => lv_aload C.1 C.2.1 hd (a.at hl) (k LS H locs a b q)
theorem j_aload_nS (C : CX V M p R s m args meth c) {i : Fin 4} {x : UInt32} (hd : decode (pB M) pc = .ok (.aload_n i, 1)) (hl : ldl ls i = some (.float x)) (k : J V M p l e R s m args below meth c Q (cells) (slots) (pc + 1) (ls) (.float x :: r) (w)) : J V M p l e R s m args below meth c Q (cells) (slots) (pc) (ls) (r) (w) := by
  intro LS H locs a b q
  have h0 := a.at hl
  have kk := k LS H locs a b q
  rcases C.2.2.2.2.2.1.2.2.2.2.2.2.2.2.2 x with hx | ⟨t, hx⟩
  · have hz : cv V (.float x) = .null := hx
    rw [hz] at h0
    rw [List.map_cons, hz] at kk
    exact lv_aload_nN C.1 C.2.1 hd rfl h0 kk
  · have hz : cv V (.float x) = .ref t := hx
    rw [hz] at h0
    rw [List.map_cons, hz] at kk
    exact lv_aload_n C.1 C.2.1 hd rfl h0 kk
theorem j_aloadS (C : CX V M p R s m args meth c) {i : Nat} {x : UInt32} (hd : decode (pB M) pc = .ok (.aload i, 2)) (hl : ldl ls i = some (.float x)) (k : J V M p l e R s m args below meth c Q (cells) (slots) (pc + 2) (ls) (.float x :: r) (w)) : J V M p l e R s m args below meth c Q (cells) (slots) (pc) (ls) (r) (w) := by
  intro LS H locs a b q
  have h0 := a.at hl
  have kk := k LS H locs a b q
  rcases C.2.2.2.2.2.1.2.2.2.2.2.2.2.2.2 x with hx | ⟨t, hx⟩
  · have hz : cv V (.float x) = .null := hx
    rw [hz] at h0
    rw [List.map_cons, hz] at kk
    exact lv_aloadN C.1 C.2.1 hd h0 kk
  · have hz : cv V (.float x) = .ref t := hx
    rw [hz] at h0
    rw [List.map_cons, hz] at kk
    exact lv_aload C.1 C.2.1 hd h0 kk
theorem j_istore_n (C : CX V M p R s m args meth c) {i : Fin 4} {x : Int32} (hd : decode (pB M) pc = .ok (.istore_n i, 1)) (hi : (i : Nat) < ls.length) (k : J V M p l e R s m args below meth c Q (cells) (slots) (pc + 1) (stl1 ls i (.int x)) (r) (w)) : J V M p l e R s m args below meth c Q (cells) (slots) (pc) (ls) (.int x :: r) (w) := fun LS H locs a b q => lv_istore_n C.1 C.2.1 hd rfl a.has hi rfl (fun LS' h' => k LS' H locs (LH.st1 C.2.2.2.2.2.1.2.2.2.2.2.2.2.2.2 h') b q)
theorem j_istore (C : CX V M p R s m args meth c) {i : Nat} {x : Int32} (hd : decode (pB M) pc = .ok (.istore i, 2)) (hi : i < ls.length) (k : J V M p l e R s m args below meth c Q (cells) (slots) (pc + 2) (stl1 ls i (.int x)) (r) (w)) : J V M p l e R s m args below meth c Q (cells) (slots) (pc) (ls) (.int x :: r) (w) := fun LS H locs a b q => lv_istore C.1 C.2.1 hd a.has hi rfl (fun LS' h' => k LS' H locs (LH.st1 C.2.2.2.2.2.1.2.2.2.2.2.2.2.2.2 h') b q)
theorem j_lstore_n (C : CX V M p R s m args meth c) {i : Fin 4} {x : Int64} (hd : decode (pB M) pc = .ok (.lstore_n i, 1)) (hi : (i : Nat) + 1 < ls.length) (k : J V M p l e R s m args below meth c Q (cells) (slots) (pc + 1) (stl2 ls i (.long x)) (r) (w)) : J V M p l e R s m args below meth c Q (cells) (slots) (pc) (ls) (.long x :: r) (w) := fun LS H locs a b q => lv_lstore_n C.1 C.2.1 hd rfl a.has hi rfl (fun LS' h' => k LS' H locs (LH.st2 C.2.2.2.2.2.1.2.2.2.2.2.2.2.2.2 h') b q)
theorem j_lstore (C : CX V M p R s m args meth c) {i : Nat} {x : Int64} (hd : decode (pB M) pc = .ok (.lstore i, 2)) (hi : i + 1 < ls.length) (k : J V M p l e R s m args below meth c Q (cells) (slots) (pc + 2) (stl2 ls i (.long x)) (r) (w)) : J V M p l e R s m args below meth c Q (cells) (slots) (pc) (ls) (.long x :: r) (w) := fun LS H locs a b q => lv_lstore C.1 C.2.1 hd a.has hi rfl (fun LS' h' => k LS' H locs (LH.st2 C.2.2.2.2.2.1.2.2.2.2.2.2.2.2.2 h') b q)
theorem j_astore_n (C : CX V M p R s m args meth c) {i : Fin 4} {x : Nat} (hd : decode (pB M) pc = .ok (.astore_n i, 1)) (hi : (i : Nat) < ls.length) (k : J V M p l e R s m args below meth c Q (cells) (slots) (pc + 1) (stl1 ls i (.ref x)) (r) (w)) : J V M p l e R s m args below meth c Q (cells) (slots) (pc) (ls) (.ref x :: r) (w) := fun LS H locs a b q => lv_astore_n C.1 C.2.1 hd rfl a.has hi rfl (fun LS' h' => k LS' H locs (LH.st1 C.2.2.2.2.2.1.2.2.2.2.2.2.2.2.2 h') b q)
theorem j_astore (C : CX V M p R s m args meth c) {i : Nat} {x : Nat} (hd : decode (pB M) pc = .ok (.astore i, 2)) (hi : i < ls.length) (k : J V M p l e R s m args below meth c Q (cells) (slots) (pc + 2) (stl1 ls i (.ref x)) (r) (w)) : J V M p l e R s m args below meth c Q (cells) (slots) (pc) (ls) (.ref x :: r) (w) := fun LS H locs a b q => lv_astore C.1 C.2.1 hd a.has hi rfl (fun LS' h' => k LS' H locs (LH.st1 C.2.2.2.2.2.1.2.2.2.2.2.2.2.2.2 h') b q)
theorem j_astore_nS (C : CX V M p R s m args meth c) {i : Fin 4} {x : UInt32} (hd : decode (pB M) pc = .ok (.astore_n i, 1)) (hi : (i : Nat) < ls.length) (k : J V M p l e R s m args below meth c Q (cells) (slots) (pc + 1) (stl1 ls i (.float x)) (r) (w)) : J V M p l e R s m args below meth c Q (cells) (slots) (pc) (ls) (.float x :: r) (w) := by
  intro LS H locs a b q
  have key : ∀ LS' : Array Slot, lv_has LS' ls.length ((↑i, cv V (.float x)) :: (prs V ls).filter (fun q => !(q.1 == ↑i) && !(q.1 + 1 == ↑i && q.2.category == 2))) → _ := fun LS' h' => k LS' H locs (LH.st1 C.2.2.2.2.2.1.2.2.2.2.2.2.2.2.2 h') b q
  rw [List.map_cons]
  rcases C.2.2.2.2.2.1.2.2.2.2.2.2.2.2.2 x with hx | ⟨t, hx⟩
  · have hz : cv V (.float x) = .null := hx
    rw [hz] at key ⊢
    exact lv_astore_nN C.1 C.2.1 hd rfl a.has hi rfl key
  · have hz : cv V (.float x) = .ref t := hx
    rw [hz] at key ⊢
    exact lv_astore_n C.1 C.2.1 hd rfl a.has hi rfl key
theorem j_astoreS (C : CX V M p R s m args meth c) {i : Nat} {x : UInt32} (hd : decode (pB M) pc = .ok (.astore i, 2)) (hi : (i : Nat) < ls.length) (k : J V M p l e R s m args below meth c Q (cells) (slots) (pc + 2) (stl1 ls i (.float x)) (r) (w)) : J V M p l e R s m args below meth c Q (cells) (slots) (pc) (ls) (.float x :: r) (w) := by
  intro LS H locs a b q
  have key : ∀ LS' : Array Slot, lv_has LS' ls.length ((↑i, cv V (.float x)) :: (prs V ls).filter (fun q => !(q.1 == ↑i) && !(q.1 + 1 == ↑i && q.2.category == 2))) → _ := fun LS' h' => k LS' H locs (LH.st1 C.2.2.2.2.2.1.2.2.2.2.2.2.2.2.2 h') b q
  rw [List.map_cons]
  rcases C.2.2.2.2.2.1.2.2.2.2.2.2.2.2.2 x with hx | ⟨t, hx⟩
  · have hz : cv V (.float x) = .null := hx
    rw [hz] at key ⊢
    exact lv_astoreN C.1 C.2.1 hd a.has hi rfl key
  · have hz : cv V (.float x) = .ref t := hx
    rw [hz] at key ⊢
    exact lv_astore C.1 C.2.1 hd a.has hi rfl key
theorem j_iinc (C : CX V M p R s m args meth c) {i : Nat} {n : Int} {x : Int32} (hd : decode (pB M) pc = .ok (.iinc i n, 3)) (hl : ldl ls i = some (.int x)) (hi : i < ls.length) (k : J V M p l e R s m args below meth c Q (cells) (slots) (pc + 3) (stl1 ls i (.int (x + Int32.ofInt n))) (r) (w)) : J V M p l e R s m args below meth c Q (cells) (slots) (pc) (ls) (r) (w) := fun LS H locs a b q => (LH.k (V := V) hl).elim fun k0 hk => lv_iinc C.1 C.2.1 hd a.has hk rfl hi rfl (fun LS' h' => k LS' H locs (LH.st1 (v := .int (x + Int32.ofInt n)) C.2.2.2.2.2.1.2.2.2.2.2.2.2.2.2 h') b q)
theorem j_iadd (C : CX V M p R s m args meth c) {x y : Int32} (hd : decode (pB M) pc = .ok (.iadd, 1)) (k : J V M p l e R s m args below meth c Q (cells) (slots) (pc + 1) (ls) (.int (x + y) :: r) (w)) : J V M p l e R s m args below meth c Q (cells) (slots) (pc) (ls) (.int y :: .int x :: r) (w) := fun LS H locs a b q => lv_iadd C.1 C.2.1 hd (k LS H locs a b q)
theorem j_isub (C : CX V M p R s m args meth c) {x y : Int32} (hd : decode (pB M) pc = .ok (.isub, 1)) (k : J V M p l e R s m args below meth c Q (cells) (slots) (pc + 1) (ls) (.int (x - y) :: r) (w)) : J V M p l e R s m args below meth c Q (cells) (slots) (pc) (ls) (.int y :: .int x :: r) (w) := fun LS H locs a b q => lv_isub C.1 C.2.1 hd (k LS H locs a b q)
theorem j_imul (C : CX V M p R s m args meth c) {x y : Int32} (hd : decode (pB M) pc = .ok (.imul, 1)) (k : J V M p l e R s m args below meth c Q (cells) (slots) (pc + 1) (ls) (.int (x * y) :: r) (w)) : J V M p l e R s m args below meth c Q (cells) (slots) (pc) (ls) (.int y :: .int x :: r) (w) := fun LS H locs a b q => lv_imul C.1 C.2.1 hd (k LS H locs a b q)
theorem j_iand (C : CX V M p R s m args meth c) {x y : Int32} (hd : decode (pB M) pc = .ok (.iand, 1)) (k : J V M p l e R s m args below meth c Q (cells) (slots) (pc + 1) (ls) (.int (x &&& y) :: r) (w)) : J V M p l e R s m args below meth c Q (cells) (slots) (pc) (ls) (.int y :: .int x :: r) (w) := fun LS H locs a b q => lv_iand C.1 C.2.1 hd (k LS H locs a b q)
theorem j_ior (C : CX V M p R s m args meth c) {x y : Int32} (hd : decode (pB M) pc = .ok (.ior, 1)) (k : J V M p l e R s m args below meth c Q (cells) (slots) (pc + 1) (ls) (.int (x ||| y) :: r) (w)) : J V M p l e R s m args below meth c Q (cells) (slots) (pc) (ls) (.int y :: .int x :: r) (w) := fun LS H locs a b q => lv_ior C.1 C.2.1 hd (k LS H locs a b q)
theorem j_ixor (C : CX V M p R s m args meth c) {x y : Int32} (hd : decode (pB M) pc = .ok (.ixor, 1)) (k : J V M p l e R s m args below meth c Q (cells) (slots) (pc + 1) (ls) (.int (x ^^^ y) :: r) (w)) : J V M p l e R s m args below meth c Q (cells) (slots) (pc) (ls) (.int y :: .int x :: r) (w) := fun LS H locs a b q => lv_ixor C.1 C.2.1 hd (k LS H locs a b q)
theorem j_ishl (C : CX V M p R s m args meth c) {x y : Int32} (hd : decode (pB M) pc = .ok (.ishl, 1)) (k : J V M p l e R s m args below meth c Q (cells) (slots) (pc + 1) (ls) (.int (x <<< (y &&& 31)) :: r) (w)) : J V M p l e R s m args below meth c Q (cells) (slots) (pc) (ls) (.int y :: .int x :: r) (w) := fun LS H locs a b q => lv_ishl C.1 C.2.1 hd (k LS H locs a b q)
theorem j_ishr (C : CX V M p R s m args meth c) {x y : Int32} (hd : decode (pB M) pc = .ok (.ishr, 1)) (k : J V M p l e R s m args below meth c Q (cells) (slots) (pc + 1) (ls) (.int (x >>> (y &&& 31)) :: r) (w)) : J V M p l e R s m args below meth c Q (cells) (slots) (pc) (ls) (.int y :: .int x :: r) (w) := fun LS H locs a b q => lv_ishr C.1 C.2.1 hd (k LS H locs a b q)
theorem j_iushr (C : CX V M p R s m args meth c) {x y : Int32} (hd : decode (pB M) pc = .ok (.iushr, 1)) (k : J V M p l e R s m args below meth c Q (cells) (slots) (pc + 1) (ls) (.int (x.toUInt32 >>> (y.toUInt32 &&& Int32.toUInt32 31)).toInt32 :: r) (w)) : J V M p l e R s m args below meth c Q (cells) (slots) (pc) (ls) (.int y :: .int x :: r) (w) := fun LS H locs a b q => lv_iushr C.1 C.2.1 hd rfl (k LS H locs a b q)
theorem j_idiv (C : CX V M p R s m args meth c) {x y : Int32} (hd : decode (pB M) pc = .ok (.idiv, 1)) (hz : ¬ y = 0) (k : J V M p l e R s m args below meth c Q (cells) (slots) (pc + 1) (ls) (.int (x / y) :: r) (w)) : J V M p l e R s m args below meth c Q (cells) (slots) (pc) (ls) (.int y :: .int x :: r) (w) := fun LS H locs a b q => lv_idiv C.1 C.2.1 hd hz (k LS H locs a b q)
theorem j_irem (C : CX V M p R s m args meth c) {x y : Int32} (hd : decode (pB M) pc = .ok (.irem, 1)) (hz : ¬ y = 0) (k : J V M p l e R s m args below meth c Q (cells) (slots) (pc + 1) (ls) (.int (x - x / y * y) :: r) (w)) : J V M p l e R s m args below meth c Q (cells) (slots) (pc) (ls) (.int y :: .int x :: r) (w) := fun LS H locs a b q => lv_irem C.1 C.2.1 hd hz (k LS H locs a b q)
theorem j_ineg (C : CX V M p R s m args meth c) {x : Int32} (hd : decode (pB M) pc = .ok (.ineg, 1)) (k : J V M p l e R s m args below meth c Q (cells) (slots) (pc + 1) (ls) (.int (-x) :: r) (w)) : J V M p l e R s m args below meth c Q (cells) (slots) (pc) (ls) (.int x :: r) (w) := fun LS H locs a b q => lv_ineg C.1 C.2.1 hd (k LS H locs a b q)
theorem j_ladd (C : CX V M p R s m args meth c) {x y : Int64} (hd : decode (pB M) pc = .ok (.ladd, 1)) (k : J V M p l e R s m args below meth c Q (cells) (slots) (pc + 1) (ls) (.long (x + y) :: r) (w)) : J V M p l e R s m args below meth c Q (cells) (slots) (pc) (ls) (.long y :: .long x :: r) (w) := fun LS H locs a b q => lv_ladd C.1 C.2.1 hd (k LS H locs a b q)
theorem j_lsub (C : CX V M p R s m args meth c) {x y : Int64} (hd : decode (pB M) pc = .ok (.lsub, 1)) (k : J V M p l e R s m args below meth c Q (cells) (slots) (pc + 1) (ls) (.long (x - y) :: r) (w)) : J V M p l e R s m args below meth c Q (cells) (slots) (pc) (ls) (.long y :: .long x :: r) (w) := fun LS H locs a b q => lv_lsub C.1 C.2.1 hd (k LS H locs a b q)
theorem j_lmul (C : CX V M p R s m args meth c) {x y : Int64} (hd : decode (pB M) pc = .ok (.lmul, 1)) (k : J V M p l e R s m args below meth c Q (cells) (slots) (pc + 1) (ls) (.long (x * y) :: r) (w)) : J V M p l e R s m args below meth c Q (cells) (slots) (pc) (ls) (.long y :: .long x :: r) (w) := fun LS H locs a b q => lv_lmul C.1 C.2.1 hd (k LS H locs a b q)
theorem j_land (C : CX V M p R s m args meth c) {x y : Int64} (hd : decode (pB M) pc = .ok (.land, 1)) (k : J V M p l e R s m args below meth c Q (cells) (slots) (pc + 1) (ls) (.long (x &&& y) :: r) (w)) : J V M p l e R s m args below meth c Q (cells) (slots) (pc) (ls) (.long y :: .long x :: r) (w) := fun LS H locs a b q => lv_land C.1 C.2.1 hd (k LS H locs a b q)
theorem j_lor (C : CX V M p R s m args meth c) {x y : Int64} (hd : decode (pB M) pc = .ok (.lor, 1)) (k : J V M p l e R s m args below meth c Q (cells) (slots) (pc + 1) (ls) (.long (x ||| y) :: r) (w)) : J V M p l e R s m args below meth c Q (cells) (slots) (pc) (ls) (.long y :: .long x :: r) (w) := fun LS H locs a b q => lv_lor C.1 C.2.1 hd (k LS H locs a b q)
theorem j_lrem (C : CX V M p R s m args meth c) {x y : Int64} (hd : decode (pB M) pc = .ok (.lrem, 1)) (hz : ¬ y = 0) (k : J V M p l e R s m args below meth c Q (cells) (slots) (pc + 1) (ls) (.long (x - x / y * y) :: r) (w)) : J V M p l e R s m args below meth c Q (cells) (slots) (pc) (ls) (.long y :: .long x :: r) (w) := fun LS H locs a b q => lv_lrem C.1 C.2.1 hd hz (k LS H locs a b q)
theorem j_lshl (C : CX V M p R s m args meth c) {x : Int64} {y : Int32} (hd : decode (pB M) pc = .ok (.lshl, 1)) (k : J V M p l e R s m args below meth c Q (cells) (slots) (pc + 1) (ls) (.long (x <<< (y.toInt64 &&& 63)) :: r) (w)) : J V M p l e R s m args below meth c Q (cells) (slots) (pc) (ls) (.int y :: .long x :: r) (w) := fun LS H locs a b q => lv_lshl C.1 C.2.1 hd rfl (k LS H locs a b q)
theorem j_lshr (C : CX V M p R s m args meth c) {x : Int64} {y : Int32} (hd : decode (pB M) pc = .ok (.lshr, 1)) (k : J V M p l e R s m args below meth c Q (cells) (slots) (pc + 1) (ls) (.long (x >>> (y.toInt64 &&& 63)) :: r) (w)) : J V M p l e R s m args below meth c Q (cells) (slots) (pc) (ls) (.int y :: .long x :: r) (w) := fun LS H locs a b q => lv_lshr C.1 C.2.1 hd rfl (k LS H locs a b q)
theorem j_lushr (C : CX V M p R s m args meth c) {x : Int64} {y : Int32} (hd : decode (pB M) pc = .ok (.lushr, 1)) (k : J V M p l e R s m args below meth c Q (cells) (slots) (pc + 1) (ls) (.long ((x.toUInt64 >>> (y.toInt64.toUInt64 &&& Int64.toUInt64 63)).toInt64) :: r) (w)) : J V M p l e R s m args below meth c Q (cells) (slots) (pc) (ls) (.int y :: .long x :: r) (w) := fun LS H locs a b q => lv_lushr C.1 C.2.1 hd rfl (k LS H locs a b q)
theorem j_i2l (C : CX V M p R s m args meth c) {x : Int32} (hd : decode (pB M) pc = .ok (.i2l, 1)) (k : J V M p l e R s m args below meth c Q (cells) (slots) (pc + 1) (ls) (.long x.toInt64 :: r) (w)) : J V M p l e R s m args below meth c Q (cells) (slots) (pc) (ls) (.int x :: r) (w) := fun LS H locs a b q => lv_i2l C.1 C.2.1 hd rfl (k LS H locs a b q)
theorem j_l2i (C : CX V M p R s m args meth c) {x : Int64} (hd : decode (pB M) pc = .ok (.l2i, 1)) (k : J V M p l e R s m args below meth c Q (cells) (slots) (pc + 1) (ls) (.int x.toInt32 :: r) (w)) : J V M p l e R s m args below meth c Q (cells) (slots) (pc) (ls) (.long x :: r) (w) := fun LS H locs a b q => lv_l2i C.1 C.2.1 hd rfl (k LS H locs a b q)
theorem j_i2b (C : CX V M p R s m args meth c) {x : Int32} (hd : decode (pB M) pc = .ok (.i2b, 1)) (k : J V M p l e R s m args below meth c Q (cells) (slots) (pc + 1) (ls) (.int x.toInt8.toInt32 :: r) (w)) : J V M p l e R s m args below meth c Q (cells) (slots) (pc) (ls) (.int x :: r) (w) := fun LS H locs a b q => lv_i2b C.1 C.2.1 hd rfl (k LS H locs a b q)
theorem j_i2c (C : CX V M p R s m args meth c) {x : Int32} (hd : decode (pB M) pc = .ok (.i2c, 1)) (k : J V M p l e R s m args below meth c Q (cells) (slots) (pc + 1) (ls) (.int (x.toUInt32 % 65536).toInt32 :: r) (w)) : J V M p l e R s m args below meth c Q (cells) (slots) (pc) (ls) (.int x :: r) (w) := fun LS H locs a b q => lv_i2c C.1 C.2.1 hd rfl (k LS H locs a b q)
theorem j_lcmp (C : CX V M p R s m args meth c) {x y : Int64} (hd : decode (pB M) pc = .ok (.lcmp, 1)) (k : J V M p l e R s m args below meth c Q (cells) (slots) (pc + 1) (ls) (.int (lg_cmp x y) :: r) (w)) : J V M p l e R s m args below meth c Q (cells) (slots) (pc) (ls) (.long y :: .long x :: r) (w) := fun LS H locs a b q => W.lcmp C.1 C.2.1 hd (k LS H locs a b q)
theorem j_dup (C : CX V M p R s m args meth c) {x : Value} (hd : decode (pB M) pc = .ok (.dup, 1)) (hc : x.category = 1) (k : J V M p l e R s m args below meth c Q (cells) (slots) (pc + 1) (ls) (x :: x :: r) (w)) : J V M p l e R s m args below meth c Q (cells) (slots) (pc) (ls) (x :: r) (w) := fun LS H locs a b q => lv_dup C.1 C.2.1 hd ((cv_cat C.2.2.2.2.2.1.2.2.2.2.2.2.2.2.2 x).trans hc) (k LS H locs a b q)
theorem j_dup2 (C : CX V M p R s m args meth c) {x y : Value} (hd : decode (pB M) pc = .ok (.dup2, 1)) (hc : x.category = 1) (hc2 : y.category = 1) (k : J V M p l e R s m args below meth c Q (cells) (slots) (pc + 1) (ls) (x :: y :: x :: y :: r) (w)) : J V M p l e R s m args below meth c Q (cells) (slots) (pc) (ls) (x :: y :: r) (w) := fun LS H locs a b q => lv_dup2_11 C.1 C.2.1 hd ((cv_cat C.2.2.2.2.2.1.2.2.2.2.2.2.2.2.2 x).trans hc) ((cv_cat C.2.2.2.2.2.1.2.2.2.2.2.2.2.2.2 y).trans hc2) (k LS H locs a b q)
theorem j_dup_x1 (C : CX V M p R s m args meth c) {x y : Value} (hd : decode (pB M) pc = .ok (.dup_x1, 1)) (hc : x.category = 1) (hc2 : y.category = 1) (k : J V M p l e R s m args below meth c Q (cells) (slots) (pc + 1) (ls) (x :: y :: x :: r) (w)) : J V M p l e R s m args below meth c Q (cells) (slots) (pc) (ls) (x :: y :: r) (w) := fun LS H locs a b q => lv_dup_x1 C.1 C.2.1 hd ((cv_cat C.2.2.2.2.2.1.2.2.2.2.2.2.2.2.2 x).trans hc) ((cv_cat C.2.2.2.2.2.1.2.2.2.2.2.2.2.2.2 y).trans hc2) (k LS H locs a b q)
theorem j_pop (C : CX V M p R s m args meth c) {x : Value} (hd : decode (pB M) pc = .ok (.pop, 1)) (hc : x.category = 1) (k : J V M p l e R s m args below meth c Q (cells) (slots) (pc + 1) (ls) (r) (w)) : J V M p l e R s m args below meth c Q (cells) (slots) (pc) (ls) (x :: r) (w) := fun LS H locs a b q => lv_pop C.1 C.2.1 hd ((cv_cat C.2.2.2.2.2.1.2.2.2.2.2.2.2.2.2 x).trans hc) (k LS H locs a b q)
theorem j_if_eq (C : CX V M p R s m args meth c) {x : Int32} {o : Int} {t : Nat} (hd : decode (pB M) pc = .ok (.ifCond .eq o, 3)) (ht : (pc : Int) + o = (t : Int)) (kt : x = 0 → J V M p l e R s m args below meth c Q (cells) (slots) (t) (ls) (r) (w)) (kf : ¬ (x = 0) → J V M p l e R s m args below meth c Q (cells) (slots) (pc + 3) (ls) (r) (w)) : J V M p l e R s m args below meth c Q (cells) (slots) (pc) (ls) (.int x :: r) (w) := fun LS H locs a b q => lv_if_eq C.1 C.2.1 hd ht (fun h => kt h LS H locs a b q) (fun h => kf h LS H locs a b q)
theorem j_if_ne (C : CX V M p R s m args meth c) {x : Int32} {o : Int} {t : Nat} (hd : decode (pB M) pc = .ok (.ifCond .ne o, 3)) (ht : (pc : Int) + o = (t : Int)) (kt : ¬ x = 0 → J V M p l e R s m args below meth c Q (cells) (slots) (t) (ls) (r) (w)) (kf : ¬ (¬ x = 0) → J V M p l e R s m args below meth c Q (cells) (slots) (pc + 3) (ls) (r) (w)) : J V M p l e R s m args below meth c Q (cells) (slots) (pc) (ls) (.int x :: r) (w) := fun LS H locs a b q => lv_if_ne C.1 C.2.1 hd ht (fun h => kt h LS H locs a b q) (fun h => kf (fun z => z h) LS H locs a b q)
theorem j_if_lt (C : CX V M p R s m args meth c) {x : Int32} {o : Int} {t : Nat} (hd : decode (pB M) pc = .ok (.ifCond .lt o, 3)) (ht : (pc : Int) + o = (t : Int)) (kt : x < 0 → J V M p l e R s m args below meth c Q (cells) (slots) (t) (ls) (r) (w)) (kf : ¬ (x < 0) → J V M p l e R s m args below meth c Q (cells) (slots) (pc + 3) (ls) (r) (w)) : J V M p l e R s m args below meth c Q (cells) (slots) (pc) (ls) (.int x :: r) (w) := fun LS H locs a b q => lv_if_lt C.1 C.2.1 hd ht (fun h => kt h LS H locs a b q) (fun h => kf h LS H locs a b q)
theorem j_if_ge (C : CX V M p R s m args meth c) {x : Int32} {o : Int} {t : Nat} (hd : decode (pB M) pc = .ok (.ifCond .ge o, 3)) (ht : (pc : Int) + o = (t : Int)) (kt : 0 ≤ x → J V M p l e R s m args below meth c Q (cells) (slots) (t) (ls) (r) (w)) (kf : ¬ (0 ≤ x) → J V M p l e R s m args below meth c Q (cells) (slots) (pc + 3) (ls) (r) (w)) : J V M p l e R s m args below meth c Q (cells) (slots) (pc) (ls) (.int x :: r) (w) := fun LS H locs a b q => lv_if_ge C.1 C.2.1 hd ht (fun h => kt h LS H locs a b q) (fun h => kf h LS H locs a b q)
theorem j_if_gt (C : CX V M p R s m args meth c) {x : Int32} {o : Int} {t : Nat} (hd : decode (pB M) pc = .ok (.ifCond .gt o, 3)) (ht : (pc : Int) + o = (t : Int)) (kt : 0 < x → J V M p l e R s m args below meth c Q (cells) (slots) (t) (ls) (r) (w)) (kf : ¬ (0 < x) → J V M p l e R s m args below meth c Q (cells) (slots) (pc + 3) (ls) (r) (w)) : J V M p l e R s m args below meth c Q (cells) (slots) (pc) (ls) (.int x :: r) (w) := fun LS H locs a b q => lv_if_gt C.1 C.2.1 hd ht (fun h => kt h LS H locs a b q) (fun h => kf h LS H locs a b q)
theorem j_if_le (C : CX V M p R s m args meth c) {x : Int32} {o : Int} {t : Nat} (hd : decode (pB M) pc = .ok (.ifCond .le o, 3)) (ht : (pc : Int) + o = (t : Int)) (kt : x ≤ 0 → J V M p l e R s m args below meth c Q (cells) (slots) (t) (ls) (r) (w)) (kf : ¬ (x ≤ 0) → J V M p l e R s m args below meth c Q (cells) (slots) (pc + 3) (ls) (r) (w)) : J V M p l e R s m args below meth c Q (cells) (slots) (pc) (ls) (.int x :: r) (w) := fun LS H locs a b q => lv_if_le C.1 C.2.1 hd ht (fun h => kt h LS H locs a b q) (fun h => kf h LS H locs a b q)
theorem j_icmp_eq (C : CX V M p R s m args meth c) {x y : Int32} {o : Int} {t : Nat} (hd : decode (pB M) pc = .ok (.if_icmp .eq o, 3)) (ht : (pc : Int) + o = (t : Int)) (kt : x = y → J V M p l e R s m args below meth c Q (cells) (slots) (t) (ls) (r) (w)) (kf : ¬ (x = y) → J V M p l e R s m args below meth c Q (cells) (slots) (pc + 3) (ls) (r) (w)) : J V M p l e R s m args below meth c Q (cells) (slots) (pc) (ls) (.int y :: .int x :: r) (w) := fun LS H locs a b q => lv_icmp_eq C.1 C.2.1 hd ht (fun h => kt h LS H locs a b q) (fun h => kf h LS H locs a b q)
theorem j_icmp_ne (C : CX V M p R s m args meth c) {x y : Int32} {o : Int} {t : Nat} (hd : decode (pB M) pc = .ok (.if_icmp .ne o, 3)) (ht : (pc : Int) + o = (t : Int)) (kt : ¬ x = y → J V M p l e R s m args below meth c Q (cells) (slots) (t) (ls) (r) (w)) (kf : ¬ (¬ x = y) → J V M p l e R s m args below meth c Q (cells) (slots) (pc + 3) (ls) (r) (w)) : J V M p l e R s m args below meth c Q (cells) (slots) (pc) (ls) (.int y :: .int x :: r) (w) := fun LS H locs a b q => lv_icmp_ne C.1 C.2.1 hd ht (fun h => kt h LS H locs a b q) (fun h => kf (fun z => z h) LS H locs a b q)
theorem j_icmp_lt (C : CX V M p R s m args meth c) {x y : Int32} {o : Int} {t : Nat} (hd : decode (pB M) pc = .ok (.if_icmp .lt o, 3)) (ht : (pc : Int) + o = (t : Int)) (kt : x < y → J V M p l e R s m args below meth c Q (cells) (slots) (t) (ls) (r) (w)) (kf : ¬ (x < y) → J V M p l e R s m args below meth c Q (cells) (slots) (pc + 3) (ls) (r) (w)) : J V M p l e R s m args below meth c Q (cells) (slots) (pc) (ls) (.int y :: .int x :: r) (w) := fun LS H locs a b q => lv_icmp_lt C.1 C.2.1 hd ht (fun h => kt h LS H locs a b q) (fun h => kf h LS H locs a b q)
theorem j_icmp_ge (C : CX V M p R s m args meth c) {x y : Int32} {o : Int} {t : Nat} (hd : decode (pB M) pc = .ok (.if_icmp .ge o, 3)) (ht : (pc : Int) + o = (t : Int)) (kt : y ≤ x → J V M p l e R s m args below meth c Q (cells) (slots) (t) (ls) (r) (w)) (kf : ¬ (y ≤ x) → J V M p l e R s m args below meth c Q (cells) (slots) (pc + 3) (ls) (r) (w)) : J V M p l e R s m args below meth c Q (cells) (slots) (pc) (ls) (.int y :: .int x :: r) (w) := fun LS H locs a b q => lv_icmp_ge C.1 C.2.1 hd ht (fun h => kt h LS H locs a b q) (fun h => kf h LS H locs a b q)
theorem j_icmp_gt (C : CX V M p R s m args meth c) {x y : Int32} {o : Int} {t : Nat} (hd : decode (pB M) pc = .ok (.if_icmp .gt o, 3)) (ht : (pc : Int) + o = (t : Int)) (kt : y < x → J V M p l e R s m args below meth c Q (cells) (slots) (t) (ls) (r) (w)) (kf : ¬ (y < x) → J V M p l e R s m args below meth c Q (cells) (slots) (pc + 3) (ls) (r) (w)) : J V M p l e R s m args below meth c Q (cells) (slots) (pc) (ls) (.int y :: .int x :: r) (w) := fun LS H locs a b q => lv_icmp_gt C.1 C.2.1 hd ht (fun h => kt h LS H locs a b q) (fun h => kf h LS H locs a b q)
theorem j_icmp_le (C : CX V M p R s m args meth c) {x y : Int32} {o : Int} {t : Nat} (hd : decode (pB M) pc = .ok (.if_icmp .le o, 3)) (ht : (pc : Int) + o = (t : Int)) (kt : x ≤ y → J V M p l e R s m args below meth c Q (cells) (slots) (t) (ls) (r) (w)) (kf : ¬ (x ≤ y) → J V M p l e R s m args below meth c Q (cells) (slots) (pc + 3) (ls) (r) (w)) : J V M p l e R s m args below meth c Q (cells) (slots) (pc) (ls) (.int y :: .int x :: r) (w) := fun LS H locs a b q => lv_icmp_le C.1 C.2.1 hd ht (fun h => kt h LS H locs a b q) (fun h => kf h LS H locs a b q)
theorem j_goto (C : CX V M p R s m args meth c) {o : Int} {t : Nat} (hd : decode (pB M) pc = .ok (.goto o, 3)) (ht : (pc : Int) + o = (t : Int)) (k : J V M p l e R s m args below meth c Q (cells) (slots) (t) (ls) (r) (w)) : J V M p l e R s m args below meth c Q (cells) (slots) (pc) (ls) (r) (w) := fun LS H locs a b q => lv_goto C.1 C.2.1 hd ht (k LS H locs a b q)
theorem j_ldc (C : CX V M p R s m args meth c) {i : Nat} {x : Int32} (hw : Jvm.Cond.constant (pN M).cls i x ∈ wG) (hd : decode (pB M) pc = .ok (.ldc i, 2)) (k : J V M p l e R s m args below meth c Q (cells) (slots) (pc + 2) (ls) (.int x :: r) (w)) : J V M p l e R s m args below meth c Q (cells) (slots) (pc) (ls) (r) (w) := fun LS H locs a b q => lv_ldc C.1 C.2.1 C.2.2.2.1 (C.2.2.2.2.1 _ hw) hd (k LS H locs a b q)
theorem j_ldcw (C : CX V M p R s m args meth c) {i : Nat} {x : Int32} (hw : Jvm.Cond.constant (pN M).cls i x ∈ wG) (hd : decode (pB M) pc = .ok (.ldc_w i, 3)) (k : J V M p l e R s m args below meth c Q (cells) (slots) (pc + 3) (ls) (.int x :: r) (w)) : J V M p l e R s m args below meth c Q (cells) (slots) (pc) (ls) (r) (w) := fun LS H locs a b q => lv_ldcw C.1 C.2.1 C.2.2.2.1 (C.2.2.2.2.1 _ hw) hd (k LS H locs a b q)
theorem j_ldc2 (C : CX V M p R s m args meth c) {i : Nat} {x : Int64} (hw : Jvm.Cond.constantLong (pN M).cls i x ∈ wG) (hd : decode (pB M) pc = .ok (.ldc2_w i, 3)) (k : J V M p l e R s m args below meth c Q (cells) (slots) (pc + 3) (ls) (.long x :: r) (w)) : J V M p l e R s m args below meth c Q (cells) (slots) (pc) (ls) (r) (w) := fun LS H locs a b q => lv_ldc2 C.1 C.2.1 C.2.2.2.1 (C.2.2.2.2.1 _ hw) hd (k LS H locs a b q)
theorem j_ldcS (C : CX V M p R s m args meth c) {i g : Nat} {q : String × Nat × String} (hq : strW[g]? = some q) (h1 : q.1 = (pN M).cls) (h2 : q.2.1 = i) (hd : decode (pB M) pc = .ok (.ldc i, 2)) (k : J V M p l e R s m args below meth c Q (cells) (slots) (pc + 2) (ls) (.float (UInt32.ofNat (16 + g)) :: r) (w)) : J V M p l e R s m args below meth c Q (cells) (slots) (pc) (ls) (r) (w) := by
  intro LS H locs a b z
  obtain ⟨t, e1, e2⟩ := C.2.2.2.2.2.1.2.2.2.2.2.1 g q hq
  rw [h1, h2] at e2
  have kk := k LS H locs a b z
  have hz : cv V (.float (UInt32.ofNat (16 + g))) = .ref t := e1
  rw [List.map_cons, hz] at kk
  exact va_ldcS C.1 C.2.1 C.2.2.2.1 e2 hd kk
theorem j_tabOut (C : CX V M p R s m args meth c) {x : Int32} {d lo hi : Int} {offs : Array Int} {ln t : Nat} (hd : decode (pB M) pc = .ok (.tableswitch d lo hi offs, ln)) (h : x.toInt < lo ∨ hi < x.toInt) (ht : (pc : Int) + d = (t : Int)) (k : J V M p l e R s m args below meth c Q (cells) (slots) (t) (ls) (r) (w)) : J V M p l e R s m args below meth c Q (cells) (slots) (pc) (ls) (.int x :: r) (w) := fun LS H locs a b q => lv_tableOut C.1 C.2.1 hd h ht (k LS H locs a b q)
theorem j_tabIn (C : CX V M p R s m args meth c) {x : Int32} {d lo hi o : Int} {offs : Array Int} {ln t : Nat} (hd : decode (pB M) pc = .ok (.tableswitch d lo hi offs, ln)) (h : ¬ (x.toInt < lo ∨ hi < x.toInt)) (ho : offs[(x.toInt - lo).toNat]? = some o) (ht : (pc : Int) + o = (t : Int)) (k : J V M p l e R s m args below meth c Q (cells) (slots) (t) (ls) (r) (w)) : J V M p l e R s m args below meth c Q (cells) (slots) (pc) (ls) (.int x :: r) (w) := fun LS H locs a b q => lv_tableIn C.1 C.2.1 hd (fun z => h (Or.inl z)) (fun z => h (Or.inr z)) ho ht (k LS H locs a b q)
end RJ
