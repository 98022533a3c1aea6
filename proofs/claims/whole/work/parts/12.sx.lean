/-! ONE STEP OF THE EVALUATOR IS ONE STEP OF THE MACHINE -/
theorem okX_d {M pc : Nat} {x : XI} (h : okX M pc x = true) : match x.1 with
  | .tableswitch _ _ _ _ => decode (pB M) pc = .ok (x.1, x.2.2.1)
  | _ => decode (pB M) pc = .ok (x.1, ilen x.1) := by
  unfold okX at h
  rw [Bool.and_eq_true] at h
  have h1 := h.1
  obtain ⟨i, a, b, z, q⟩ := x
  cases i <;> exact of_decide_eq_true h1
theorem u2_self {α : Type} {f : Nat → Nat → α} {k j : Nat} {v : α} : u2 f k j v k j = v := if_pos ⟨rfl, rfl⟩
theorem u2_off {α : Type} {f : Nat → Nat → α} {k j x : Nat} {v : α} (h : ¬ x = j) : u2 f k j v k x = f k x := if_neg (fun z => h z.2)
section RX
variable {V : EvT} {p : Program} {l : Launch} {e : Env} {R : Room} {s : State} {m : MethodId} {args : Array Value} {below : List Frame} {meth : Method} {c : Code} {cells slots : Nat} {Q : State → Prop} {M pc : Nat} {ls : Ls} {r : List Value} {w : Wd}
theorem j_get (C : CX V M p R s m args meth c) {k ci n j i : Nat} {v : Value} (hs : wsh w k = some (ci, n)) (hci : ci < 12) (hj : j < NF ci) (hw : Jvm.Cond.fieldLink (pN M).cls i (clT ci j).1 (clT ci j).2.1 (clT ci j).2.2.1 ∈ wG) (hd : decode (pB M) pc = .ok (.getfield i, 3)) (hv : fv V w ci k j = cv V v)
    (kk : J V M p l e R s m args below meth c Q cells slots (pc + 3) ls (v :: r) w) : J V M p l e R s m args below meth c Q cells slots pc ls (.ref k :: r) w := fun LS H locs a b q => r_get C b hs hci hj hw hd (by rw [hv]; exact kk LS H locs a b q)
theorem j_getS (C : CX V M p R s m args meth c) {u : UInt32} {i : Nat} (g1 : 16 ≤ u.toNat) (g2 : u.toNat < 32) (hw : Jvm.Cond.fieldLink (pN M).cls i "java/lang/String" "value" "[B" ∈ wG) (hd : decode (pB M) pc = .ok (.getfield i, 3))
    (kk : J V M p l e R s m args below meth c Q cells slots (pc + 3) ls (.float (u + 48) :: r) w) : J V M p l e R s m args below meth c Q cells slots pc ls (.float u :: r) w := by
  intro LS H locs a b q
  obtain ⟨t, e1, e2, e3, e4⟩ := C.2.2.2.2.2.1.2.2.2.2.2.2.1 u g1 g2
  have hz : cv V (.float u) = .ref t := e1
  rw [List.map_cons, hz]
  have hS0 : va_S (A0 V) s.heap H locs := q
  exact vk_getf C.1 C.2.1 e4 hS0 C.2.2.2.1 (C.2.2.2.2.1 _ hw) (fun x h => h) hd (kk LS H locs a b q)
theorem j_getC (C : CX V M p R s m args meth c) {u : UInt32} {i : Nat} (g1 : 16 ≤ u.toNat) (g2 : u.toNat < 32) (hw : Jvm.Cond.fieldLink (pN M).cls i "java/lang/String" "coder" "B" ∈ wG) (hd : decode (pB M) pc = .ok (.getfield i, 3))
    (kk : J V M p l e R s m args below meth c Q cells slots (pc + 3) ls (.int 0 :: r) w) : J V M p l e R s m args below meth c Q cells slots pc ls (.float u :: r) w := by
  intro LS H locs a b q
  obtain ⟨t, e1, e2, e3, e4⟩ := C.2.2.2.2.2.1.2.2.2.2.2.2.1 u g1 g2
  have hz : cv V (.float u) = .ref t := e1
  rw [List.map_cons, hz]
  have hS0 : va_S (A0 V) s.heap H locs := q
  exact vk_getf C.1 C.2.1 e3 hS0 C.2.2.2.1 (C.2.2.2.2.1 _ hw) (fun x h => h) hd (kk LS H locs a b q)
theorem j_put (C : CX V M p R s m args meth c) {k ci n j i : Nat} {v : Value} {w' : Wd} (hs : wsh w k = some (ci, n)) (hci : ci < 12) (hj : j < NF ci) (hw : Jvm.Cond.fieldLink (pN M).cls i (clT ci j).1 (clT ci j).2.1 (clT ci j).2.2.1 ∈ wG)
    (hfin : (clT ci j).2.2.2 = true → (pN M).name = "<init>" ∧ (clT ci j).1 = (pN M).cls) (hn : narrow (tyC ci j) (cv V v) = cv V v) (hfit : fits (tyC ci j) (cv V v) = true) (hd : decode (pB M) pc = .ok (.putfield i, 3))
    (hwn : wn w' = wn w) (hws : wsh w' = wsh w) (ho : ∀ k', k' ≠ k → ∀ kd n, cellE V w' k' kd n = cellE V w k' kd n) (hfv : ∀ x, fv V w' ci k x = if x = j then cv V v else fv V w ci k x)
    (kk : J V M p l e R s m args below meth c Q cells slots (pc + 3) ls r w') : J V M p l e R s m args below meth c Q cells slots pc ls (v :: .ref k :: r) w := fun LS H locs a b q =>
  r_put C b q hs hci hj hw hfin hn hfit hd hwn hws ho hfv (fun H1 locs1 b1 q1 => kk LS H1 locs1 a b1 q1)
theorem fv_I {ci k j : Nat} (h : ftag (tyC ci j) = 0 ∨ ftag (tyC ci j) = 1) : fv V w ci k j = .int (wI w k j) := if_pos h
theorem fv_L {ci k j : Nat} (h : ftag (tyC ci j) = 2) : fv V w ci k j = .long (wL w k j) := by
  unfold fv
  rw [if_neg (by omega), if_pos h]
theorem fv_R {ci k j : Nat} (h : ftag (tyC ci j) = 3) : fv V w ci k j = va_rf (rfa V (wR w k j)) := by
  unfold fv
  rw [if_neg (by omega), if_neg (by omega)]
theorem ty_I {ci j : Nat} (h : ftag (tyC ci j) = 0) : tyC ci j = .int := by
  cases ht : tyC ci j <;> rw [ht] at h <;> first | rfl | cases h
theorem ty_Z {ci j : Nat} (h : ftag (tyC ci j) = 1) : tyC ci j = .boolean := by
  cases ht : tyC ci j <;> rw [ht] at h <;> first | rfl | cases h
theorem ty_L {ci j : Nat} (h : ftag (tyC ci j) = 2) : tyC ci j = .long := by
  cases ht : tyC ci j <;> rw [ht] at h <;> first | rfl | cases h
theorem j_putI (C : CX V M p R s m args meth c) {k ci j i : Nat} {v : Int32} {w' : Wd} (hp : putI w ci k j v = some w') (hci : ci < 12) (hj : j < NF ci) (ht : ftag (tyC ci j) = 0) (hw : Jvm.Cond.fieldLink (pN M).cls i (clT ci j).1 (clT ci j).2.1 (clT ci j).2.2.1 ∈ wG)
    (hfin : (clT ci j).2.2.2 = true → (pN M).name = "<init>" ∧ (clT ci j).1 = (pN M).cls) (hd : decode (pB M) pc = .ok (.putfield i, 3))
    (kk : J V M p l e R s m args below meth c Q cells slots (pc + 3) ls r w') : J V M p l e R s m args below meth c Q cells slots pc ls (.int v :: .ref k :: r) w := by
  unfold putI at hp
  split at hp
  · rename_i kd n hs
    split at hp
    · rename_i hk
      subst hk
      cases hp
      have ht' := ty_I ht
      refine j_put (w' := stI w k j v) C hs hci hj hw hfin (by rw [ht']; rfl) (by rw [ht']; rfl) hd rfl rfl (fun k' hk' => cellE_stI hk') (fun x => ?_) kk
      by_cases hx : x = j
      · subst hx
        rw [if_pos rfl, fv_I (Or.inl ht)]
        show Value.int (u2 (wI w) k x v k x) = _
        rw [u2_self]
        rfl
      · rw [if_neg hx]
        have e : wI (stI w k j v) k x = wI w k x := by
          show u2 (wI w) k j v k x = _
          rw [u2_off hx]
        unfold fv
        rw [e]
        rfl
    · cases hp
  · cases hp
theorem j_putZ (C : CX V M p R s m args meth c) {k ci j i : Nat} {v : Int32} {w' : Wd} (hp : putZ w ci k j v = some w') (hci : ci < 12) (hj : j < NF ci) (ht : ftag (tyC ci j) = 1) (hw : Jvm.Cond.fieldLink (pN M).cls i (clT ci j).1 (clT ci j).2.1 (clT ci j).2.2.1 ∈ wG)
    (hfin : (clT ci j).2.2.2 = true → (pN M).name = "<init>" ∧ (clT ci j).1 = (pN M).cls) (hd : decode (pB M) pc = .ok (.putfield i, 3))
    (kk : J V M p l e R s m args below meth c Q cells slots (pc + 3) ls r w') : J V M p l e R s m args below meth c Q cells slots pc ls (.int v :: .ref k :: r) w := by
  unfold putZ at hp
  split at hp
  · rename_i kd n hs
    split at hp
    · rename_i hk
      obtain ⟨hk, hv⟩ := hk
      subst hk
      cases hp
      have ht' := ty_Z ht
      refine j_put (w' := stI w k j v) C hs hci hj hw hfin (by rw [ht']; rcases hv with rfl | rfl <;> rfl) (by rw [ht']; rcases hv with rfl | rfl <;> rfl) hd rfl rfl (fun k' hk' => cellE_stI hk') (fun x => ?_) kk
      by_cases hx : x = j
      · subst hx
        rw [if_pos rfl, fv_I (Or.inr ht)]
        show Value.int (u2 (wI w) k x v k x) = _
        rw [u2_self]
        rfl
      · rw [if_neg hx]
        have e : wI (stI w k j v) k x = wI w k x := by
          show u2 (wI w) k j v k x = _
          rw [u2_off hx]
        unfold fv
        rw [e]
        rfl
    · cases hp
  · cases hp
theorem j_putL (C : CX V M p R s m args meth c) {k ci j i : Nat} {v : Int64} {w' : Wd} (hp : putL w ci k j v = some w') (hci : ci < 12) (hj : j < NF ci) (ht : ftag (tyC ci j) = 2) (hw : Jvm.Cond.fieldLink (pN M).cls i (clT ci j).1 (clT ci j).2.1 (clT ci j).2.2.1 ∈ wG)
    (hfin : (clT ci j).2.2.2 = true → (pN M).name = "<init>" ∧ (clT ci j).1 = (pN M).cls) (hd : decode (pB M) pc = .ok (.putfield i, 3))
    (kk : J V M p l e R s m args below meth c Q cells slots (pc + 3) ls r w') : J V M p l e R s m args below meth c Q cells slots pc ls (.long v :: .ref k :: r) w := by
  unfold putL at hp
  split at hp
  · rename_i kd n hs
    split at hp
    · rename_i hk
      subst hk
      cases hp
      have ht' := ty_L ht
      refine j_put (w' := stL w k j v) C hs hci hj hw hfin (by rw [ht']; rfl) (by rw [ht']; rfl) hd rfl rfl (fun k' hk' => cellE_stL hk') (fun x => ?_) kk
      by_cases hx : x = j
      · subst hx
        rw [if_pos rfl, fv_L ht]
        show Value.long (u2 (wL w) k x v k x) = _
        rw [u2_self]
        rfl
      · rw [if_neg hx]
        have e : wL (stL w k j v) k x = wL w k x := by
          show u2 (wL w) k j v k x = _
          rw [u2_off hx]
        unfold fv
        rw [e]
        rfl
    · cases hp
  · cases hp
theorem j_putR (C : CX V M p R s m args meth c) {k ci j i : Nat} {v : Nat} {w' : Wd} (hp : putR w ci k j v = some w') (hci : ci < 12) (hj : j < NF ci) (ht : ftag (tyC ci j) = 3) (hw : Jvm.Cond.fieldLink (pN M).cls i (clT ci j).1 (clT ci j).2.1 (clT ci j).2.2.1 ∈ wG)
    (hfin : (clT ci j).2.2.2 = true → (pN M).name = "<init>" ∧ (clT ci j).1 = (pN M).cls) (hd : decode (pB M) pc = .ok (.putfield i, 3))
    (kk : J V M p l e R s m args below meth c Q cells slots (pc + 3) ls r w') : J V M p l e R s m args below meth c Q cells slots pc ls (.ref v :: .ref k :: r) w := by
  unfold putR at hp
  split at hp
  · rename_i kd n hs
    split at hp
    · rename_i hk
      subst hk
      cases hp
      have hn : narrow (tyC kd j) (cv V (.ref v)) = cv V (.ref v) := by
        cases ht' : tyC kd j <;> rfl
      have hf : fits (tyC kd j) (cv V (.ref v)) = true := by
        cases ht' : tyC kd j <;> rw [ht'] at ht <;> first | rfl | cases ht
      refine j_put (w' := stR w k j (some v)) C hs hci hj hw hfin hn hf hd rfl rfl (fun k' hk' => cellE_stR hk') (fun x => ?_) kk
      by_cases hx : x = j
      · subst hx
        rw [if_pos rfl, fv_R ht]
        show va_rf (rfa V (u2 (wR w) k x (some v) k x)) = _
        rw [u2_self]
        rfl
      · rw [if_neg hx]
        have e : wR (stR w k j (some v)) k x = wR w k x := by
          show u2 (wR w) k j (some v) k x = _
          rw [u2_off hx]
        unfold fv
        rw [e]
        rfl
    · cases hp
  · cases hp
theorem j_tldI (C : CX V M p R s m args meth c) {u : UInt32} {i v : Int32} (h : tldI (eX V) u i = some v) (hd : decode (pB M) pc = .ok (.iaload, 1))
    (kk : J V M p l e R s m args below meth c Q cells slots (pc + 1) ls (.int v :: r) w) : J V M p l e R s m args below meth c Q cells slots pc ls (.int i :: .float u :: r) w := by
  intro LS H locs a b q
  unfold tldI at h
  split at h
  · rename_i n f hn
    split at h
    · rename_i hin
      cases h
      obtain ⟨t, e1, e2⟩ := C.2.2.2.2.2.1.2.2.1 u n f hn
      have hz : cv V (.float u) = .ref t := e1
      rw [List.map_cons, List.map_cons, hz]
      exact va_ti C.1 C.2.1 e2 q hin rfl hd (kk LS H locs a b q)
    · cases h
  · cases h
theorem j_tldB (C : CX V M p R s m args meth c) {u : UInt32} {i v : Int32} (h : tldB stx u i = some v) (hd : decode (pB M) pc = .ok (.baload, 1))
    (kk : J V M p l e R s m args below meth c Q cells slots (pc + 1) ls (.int v :: r) w) : J V M p l e R s m args below meth c Q cells slots pc ls (.int i :: .float u :: r) w := by
  intro LS H locs a b q
  unfold tldB at h
  split at h
  · rename_i n f hn
    split at h
    · rename_i hin
      cases h
      obtain ⟨t, e1, e2⟩ := C.2.2.2.2.2.1.2.2.2.1 u n f hn
      have hz : cv V (.float u) = .ref t := e1
      rw [List.map_cons, List.map_cons, hz]
      exact va_tb C.1 C.2.1 e2 q hin rfl hd (kk LS H locs a b q)
    · cases h
  · cases h
theorem j_tlen (C : CX V M p R s m args meth c) {u : UInt32} {v : Int32} (h : tlen stx (eX V) u = some v) (hd : decode (pB M) pc = .ok (.arraylength, 1))
    (kk : J V M p l e R s m args below meth c Q cells slots (pc + 1) ls (.int v :: r) w) : J V M p l e R s m args below meth c Q cells slots pc ls (.float u :: r) w := by
  intro LS H locs a b q
  unfold tlen at h
  split at h
  · rename_i n f hn
    cases h
    obtain ⟨t, e1, e2⟩ := C.2.2.2.2.2.1.2.2.1 u n f hn
    have hz : cv V (.float u) = .ref t := e1
    rw [List.map_cons, hz]
    exact va_tlen C.1 C.2.1 e2 q rfl hd (kk LS H locs a b q)
  · split at h
    · rename_i n f hn
      cases h
      obtain ⟨t, e1, e2⟩ := C.2.2.2.2.2.1.2.2.2.1 u n f hn
      have hz : cv V (.float u) = .ref t := e1
      rw [List.map_cons, hz]
      exact va_tlen C.1 C.2.1 e2 q rfl hd (kk LS H locs a b q)
    · cases h
theorem j_gets (C : CX V M p R s m args meth c) {g i : Nat} {v : Value} (h : statV g = some v) (hw : Jvm.Cond.fieldLink (pN M).cls i (stN g).1 (stN g).2.1 (stN g).2.2 ∈ wG) (hd : decode (pB M) pc = .ok (.getstatic i, 3))
    (kk : J V M p l e R s m args below meth c Q cells slots (pc + 3) ls (v :: r) w) : J V M p l e R s m args below meth c Q cells slots pc ls r w := fun LS H locs a b q =>
  va_gets C.1 C.2.1 (C.2.2.2.2.2.1.2.2.2.2.1 g v h) q C.2.2.2.1 (C.2.2.2.2.1 _ hw) (fun x h => h) hd (kk LS H locs a b q)
theorem j_getsN (C : CX V M p R s m args meth c) {g i : Nat} {v : Value} (h : statV g = some v) (hw : Jvm.Cond.fieldLinkNest (pN M).cls i (stN g).1 (stN g).2.1 (stN g).2.2 "NineWheel" ∈ tables_1) (hd : decode (pB M) pc = .ok (.getstatic i, 3))
    (kk : J V M p l e R s m args below meth c Q cells slots (pc + 3) ls (v :: r) w) : J V M p l e R s m args below meth c Q cells slots pc ls r w := fun LS H locs a b q =>
  va_getsN C.1 C.2.1 (C.2.2.2.2.2.1.2.2.2.2.1 g v h) q C.2.2.2.1 (va_Nw.use rfl (C.2.2.2.2.2.1.2.1 _ hw rfl)) (fun x h => h) hd (kk LS H locs a b q)
theorem j_objInit (C : CX V M p R s m args meth c) {i k : Nat} (hlen : ls.length = pL M) (h8 : (r.map fun v => v.category).sum ≤ 8) (h2 : 2 ≤ pK M) (hw : Jvm.Cond.methodLink (pN M).cls i objectInit ∈ wG) (hd : decode (pB M) pc = .ok (.invokespecial i, 3))
    (kk : J V M p l e R s m args below meth c Q cells slots (pc + 3) ls r w) : J V M p l e R s m args below meth c Q cells slots pc ls (.ref k :: r) w := by
  intro LS H locs a b q
  obtain ⟨hx, hb, hml, hown, hts, hE, hnm, hf, hlo, hsz⟩ := C
  have hcat : ((r.map (cv V)).map fun v => v.category) = r.map fun v => v.category := by
    rw [List.map_map]
    apply List.map_congr_left
    intro x _
    exact cv_cat hE.2.2.2.2.2.2.2.2.2 x
  refine W.objInit hx hb hown (hts _ hw) (hts _ (wG_tb (p := 27) (by decide +kernel) rfl)) (hts _ (wG_tb (p := 28) (by decide +kernel) rfl)) rfl (by show LS.size = _; rw [a.1, hlen, hml]) rfl hd (by omega) ?_ (kk LS H locs a b q)
  show 2 * 0 + ((r.map (cv V)).map fun v => v.category).sum + 12 ≤ R.locals
  rw [hcat]
  omega
theorem j_max (C : CX V M p R s m args meth c) {i : Nat} {x y : Int32} (hlen : ls.length = pL M) (h8 : (r.map fun v => v.category).sum ≤ 8) (h2 : 2 ≤ pK M) (hc : cells ≤ R.cells) (hsl : slots ≤ R.slots) (hw : Jvm.Cond.methodLink (pN M).cls i Lib.Math.max.name ∈ wG) (hd : decode (pB M) pc = .ok (.invokestatic i, 3))
    (kk : J V M p l e R s m args below meth c Q cells slots (pc + 3) ls (.int (if x < y then y else x) :: r) w) : J V M p l e R s m args below meth c Q cells slots pc ls (.int y :: .int x :: r) w := by
  intro LS H locs a b q
  obtain ⟨hx, hb, hml, hown, hts, hE, hnm, hf, hlo, hsz⟩ := C
  have hcat : ((r.map (cv V)).map fun v => v.category) = r.map fun v => v.category := by
    rw [List.map_map]
    apply List.map_congr_left
    intro x _
    exact cv_cat hE.2.2.2.2.2.2.2.2.2 x
  exact va_mmax hx hb (by rw [a.1, hlen, hml]) hown (hts _ hw) (hts _ (wG_tb (p := 589) (by decide +kernel) rfl)) (hts _ (wG_tb (p := 17) (by decide +kernel) rfl)) (hts _ (wG_tb (p := 590) (by decide +kernel) rfl)) (by omega) (by rw [hcat]; omega) hc hsl hd (kk LS H locs a b q)
theorem j_abs (C : CX V M p R s m args meth c) {i : Nat} {x : Int32} (hlen : ls.length = pL M) (h8 : (r.map fun v => v.category).sum ≤ 8) (h2 : 2 ≤ pK M) (hc : cells ≤ R.cells) (hsl : slots ≤ R.slots) (hw : Jvm.Cond.methodLink (pN M).cls i Lib.Math.abs.name ∈ wG) (hd : decode (pB M) pc = .ok (.invokestatic i, 3))
    (kk : J V M p l e R s m args below meth c Q cells slots (pc + 3) ls (.int (if 0 ≤ x then x else 0 - x) :: r) w) : J V M p l e R s m args below meth c Q cells slots pc ls (.int x :: r) w := by
  intro LS H locs a b q
  obtain ⟨hx, hb, hml, hown, hts, hE, hnm, hf, hlo, hsz⟩ := C
  have hcat : ((r.map (cv V)).map fun v => v.category) = r.map fun v => v.category := by
    rw [List.map_map]
    apply List.map_congr_left
    intro x _
    exact cv_cat hE.2.2.2.2.2.2.2.2.2 x
  exact va_mabs hx hb (by rw [a.1, hlen, hml]) hown (hts _ hw) (hts _ (wG_tb (p := 586) (by decide +kernel) rfl)) (hts _ (wG_tb (p := 17) (by decide +kernel) rfl)) (hts _ (wG_tb (p := 587) (by decide +kernel) rfl)) (by omega) (by rw [hcat]; omega) hc hsl hd (kk LS H locs a b q)
theorem j_cpy (C : CX V M p R s m args meth c) {i a b : Nat} {sp dp n : Int32} {w' : Wd} (hlen : ls.length = pL M) (h8 : (r.map fun v => v.category).sum ≤ 8) (h2 : 2 ≤ pK M) (hw : Jvm.Cond.methodLink (pN M).cls i arraycopyName ∈ wG) (hd : decode (pB M) pc = .ok (.invokestatic i, 3)) (h : cpyI w a sp b dp n = some w')
    (kk : J V M p l e R s m args below meth c Q cells slots (pc + 3) ls r w') : J V M p l e R s m args below meth c Q cells slots pc ls (.int n :: .int dp :: .ref b :: .int sp :: .ref a :: r) w := by
  intro LS H locs a1 b1 q1
  have hcat : ((r.map (cv V)).map fun v => v.category) = r.map fun v => v.category := by
    rw [List.map_map]
    apply List.map_congr_left
    intro x _
    exact cv_cat C.2.2.2.2.2.1.2.2.2.2.2.2.2.2.2 x
  unfold cpyI at h
  split at h
  · rename_i ka la kb lb ha hb
    split at h
    · rename_i hc
      obtain ⟨rfl, rfl, g1, g2, g3, g4, g5⟩ := hc
      have hf : pK M ≤ R.frames := C.2.2.2.2.2.2.2.1
      have hlo : 40 * pK M ≤ R.locals := C.2.2.2.2.2.2.2.2.1
      exact r_cpy C b1 q1 (by rw [a1.1, hlen]; exact C.2.2.1) ha hb hw g1 g2 g3 g4 g5 (by omega) (by rw [hcat]; omega) hd (Option.some.inj h).symm (fun H1 locs1 b2 q2 => kk LS H1 locs1 a1 b2 q2)
    · cases h
  · cases h
end RX
