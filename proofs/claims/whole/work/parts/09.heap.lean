/-! THE INSTRUCTIONS THAT READ AND WRITE THE WORLD, over HR -/
theorem cl_tags : ∀ ci, ci < 12 → ∀ j, j < NF ci → ftag (tyC ci j) ≤ 3 := lt12 (by decide +kernel) (by decide +kernel) (by decide +kernel) (by decide +kernel) (by decide +kernel) (by decide +kernel) (by decide +kernel) (by decide +kernel) (by decide +kernel) (by decide +kernel) (by decide +kernel) (by decide +kernel)
theorem cellE_obj {V : EvT} {w : Wd} {k kd n : Nat} (h : kd < 12) : cellE V w k kd n = .inr (kd, fvs V w kd k) := by
  unfold cellE
  rw [if_pos h]
theorem cellE_int {V : EvT} {w : Wd} {k kd n : Nat} (h : kd = 20 ∨ kd = 21 ∨ kd = 22) : cellE V w k kd n = .inl (eA V kd, n, .inl (wI w k)) := by
  unfold cellE
  rw [if_neg (by omega), if_neg (by omega), if_neg (by omega)]
theorem cellE_long {V : EvT} {w : Wd} {k n : Nat} : cellE V w k 23 n = .inl (eA V 23, n, .inr (.inl (wL w k))) := by
  unfold cellE
  rw [if_neg (by omega), if_pos rfl]
theorem cellE_ref {V : EvT} {w : Wd} {k kd n : Nat} (h : kd = 24 ∨ kd = 25 ∨ kd = 26) : cellE V w k kd n = .inl (eA V kd, n, .inr (.inr (.inr (.inr (fun j => rfa V (wR w k j)))))) := by
  unfold cellE
  rw [if_neg (by omega), if_neg (by omega), if_pos h]
section RH
variable {V : EvT} {p : Program} {l : Launch} {e : Env} {R : Room} {s : State} {m : MethodId} {args : Array Value} {below : List Frame} {meth : Method} {c : Code} {H : Heap} {locs : List Loc} {cells slots : Nat} {Q : State → Prop} {M pc : Nat} {ls : Array Slot} {rest : List Value} {w : Wd}
theorem r_get (C : CX V M p R s m args meth c) (hH : HR V w H) {k ci n j i : Nat} (hs : wsh w k = some (ci, n)) (hci : ci < 12) (hj : j < NF ci) (hw : Jvm.Cond.fieldLink (pN M).cls i (clT ci j).1 (clT ci j).2.1 (clT ci j).2.2.1 ∈ wG) (hdg : decode (pB M) pc = .ok (.getfield i, 3))
    (kk : W p l e R s m args below meth c H locs cells slots Q (F0 m (pc + 3) ls (fv V w ci k j :: rest))) : W p l e R s m args below meth c H locs cells slots Q (F0 m pc ls (.ref (eb V + k) :: rest)) := by
  obtain ⟨hx, hb, hml, hown, hts, hE, hnm, hf, hlo, hsz⟩ := C
  have hat := hH.at hs
  rw [cellE_obj hci] at hat
  exact va_get hx hb hts (cl_in ci hci) hown hE.1 (va_one hat) 0 rfl (cl_at ci hci) j hj (hts _ hw) (fun x h => h) (by unfold fvs; rw [List.getElem?_map, List.getElem?_range hj]; rfl) hdg kk
theorem r_put (C : CX V M p R s m args meth c) (hH : HR V w H) (hS : va_S (A0 V) s.heap H locs) {k ci n j i : Nat} {v : Value} {w' : Wd} (hs : wsh w k = some (ci, n)) (hci : ci < 12) (hj : j < NF ci) (hw : Jvm.Cond.fieldLink (pN M).cls i (clT ci j).1 (clT ci j).2.1 (clT ci j).2.2.1 ∈ wG)
    (hfin : (clT ci j).2.2.2 = true → (pN M).name = "<init>" ∧ (clT ci j).1 = (pN M).cls) (hn : narrow (tyC ci j) v = v) (hfit : fits (tyC ci j) v = true) (hdg : decode (pB M) pc = .ok (.putfield i, 3))
    (hwn : wn w' = wn w) (hws : wsh w' = wsh w) (ho : ∀ k', k' ≠ k → ∀ kd n, cellE V w' k' kd n = cellE V w k' kd n) (hfv : ∀ x, fv V w' ci k x = if x = j then v else fv V w ci k x)
    (kk : ∀ (H1 : Heap) (locs1 : List Loc), HR V w' H1 → va_S (A0 V) s.heap H1 locs1 → W p l e R s m args below meth c H1 locs1 cells slots Q (F0 m (pc + 3) ls rest)) : W p l e R s m args below meth c H locs cells slots Q (F0 m pc ls (v :: .ref (eb V + k) :: rest)) := by
  obtain ⟨hx, hb, hml, hown, hts, hE, hnm, hf, hlo, hsz⟩ := C
  have hat := hH.at hs
  rw [cellE_obj hci] at hat
  have hK := hE.1
  have hc := cl_at ci hci
  have hap := va_apart (own := (pN M).cls) hts (cl_in ci hci) (tyC ci) (cl_ty ci hci) (cl_nm ci hci) hK hc
  obtain ⟨r, h1, cell, q1, q2, q3, q4⟩ := hat
  have hr : r = (clR ci, clT ci, NF ci) := Option.some.inj (h1.symm.trans hc)
  subst hr
  obtain ⟨hSl, hfc, kC, hkC, hkind⟩ := hK.1 ci _ hc
  obtain ⟨cf, kf, fi, f, hi, hsl⟩ := hSl j hj
  have hlay := hts _ (cl_in ci hci _ (u_in_lay hj))
  have hst := (u_facts hfc hkC (u_lays hts (cl_in ci hci) hj) hi).1
  have hlen : j < (fvs V w ci k).length := by unfold fvs; simpa using hj
  have fin : ∀ (H1 : Heap), H1[eb V + k]? = some (cell.setSlot f.slot v) → H1.size = H.size → (∀ q : Nat, q ≠ eb V + k → H1[q]? = H[q]?) → W p l e R s m args below meth c H1 (locs ++ [⟨eb V + k, f.slot⟩]) cells slots Q (F0 m (pc + 3) ls rest) := by
    intro H1 e1 e2 e3
    rw [hsl] at e1
    refine kk H1 _ (hH.upd hwn hws ho e2 e3 (fun kd n' e => ?_)) (hS.put e2 e3 (Nat.le_add_right _ _))
    rw [hs] at e
    cases e
    rw [cellE_obj hci, ← fvs_set hj hfv]
    exact ⟨_, hc, t_OB.to (V := updV (vp_V (fvs V w ci k)) j v) ⟨_, e1, q2, q3, t_set q4 hap hj v⟩ (fun x _ => vp_updV_set hlen v x)⟩
  by_cases hfl : (clT ci j).2.2.2 = true
  · unfold u_lay at hlay
    rw [if_pos hfl] at hlay
    obtain ⟨hin2, hdecl⟩ := hfin hfl
    have hcf : m.cls = cf := by
      obtain ⟨_, _, c', _, _, _, -, -, hf', -, -, -, hown2, -⟩ := Cond.laysFinal_spec hlay
      have e1 : c' = cf := by have := hi.symm.trans hf'; simp at this; exact this.1.symm
      rw [hdecl] at hown2
      rw [← e1]; exact Option.some.inj (hown.symm.trans hown2)
    have h6 := u_fits hfc hkC hkind (Or.inr hlay) hi (cl_ty ci hci j hj) hn hfit
    exact W.putFinK hx hb hown (hts _ hw) hi hst hcf (hnm hin2) (by rw [q2]; exact h6) q1 q3 (by rw [hsl]; exact k2_hasslot (q4 j hj)) rfl rfl hdg fin
  · unfold u_lay at hlay
    rw [if_neg hfl] at hlay
    have h6 := u_store hfc hkC hkind hlay hi (cl_ty ci hci j hj) hn hfit
    exact W.putK hx hb (f := f) ⟨hown, hts _ hw, ⟨_, _, _, hi⟩, hst⟩ (by rw [q2]; exact h6) q1 q3 (by rw [hsl]; exact k2_hasslot (q4 j hj)) rfl rfl hdg fin
theorem r_aldI (C : CX V M p R s m args meth c) (hH : HR V w H) {k n : Nat} {i : Int32} (hs : wsh w k = some (20, n)) (hin : ¬ (i < 0 ∨ n ≤ i.toNatClampNeg)) (hdg : decode (pB M) pc = .ok (.iaload, 1))
    (kk : W p l e R s m args below meth c H locs cells slots Q (F0 m (pc + 1) ls (.int (wI w k i.toNatClampNeg) :: rest))) : W p l e R s m args below meth c H locs cells slots Q (F0 m pc ls (.int i :: .ref (eb V + k) :: rest)) := by
  have hat := hH.at hs
  rw [cellE_int (Or.inl rfl)] at hat
  exact va_iald C.1 C.2.1 C.2.2.2.2.2.1.1 (va_one hat) 0 0 rfl rfl hin hdg kk
theorem r_aldB (C : CX V M p R s m args meth c) (hH : HR V w H) {k n kd : Nat} {i : Int32} (hs : wsh w k = some (kd, n)) (hkd : kd = 21 ∨ kd = 22) (hin : ¬ (i < 0 ∨ n ≤ i.toNatClampNeg)) (hdg : decode (pB M) pc = .ok (.baload, 1))
    (kk : W p l e R s m args below meth c H locs cells slots Q (F0 m (pc + 1) ls (.int (wI w k i.toNatClampNeg) :: rest))) : W p l e R s m args below meth c H locs cells slots Q (F0 m pc ls (.int i :: .ref (eb V + k) :: rest)) := by
  have hat := hH.at hs
  rw [cellE_int (Or.inr hkd)] at hat
  rcases hkd with rfl | rfl
  · exact va_bald C.1 C.2.1 C.2.2.2.2.2.1.1 (va_one hat) 0 1 rfl rfl hin hdg kk
  · exact va_zald C.1 C.2.1 C.2.2.2.2.2.1.1 (va_one hat) 0 2 rfl rfl hin hdg kk
theorem r_aldL (C : CX V M p R s m args meth c) (hH : HR V w H) {k n : Nat} {i : Int32} (hs : wsh w k = some (23, n)) (hin : ¬ (i < 0 ∨ n ≤ i.toNatClampNeg)) (hdg : decode (pB M) pc = .ok (.laload, 1))
    (kk : W p l e R s m args below meth c H locs cells slots Q (F0 m (pc + 1) ls (.long (wL w k i.toNatClampNeg) :: rest))) : W p l e R s m args below meth c H locs cells slots Q (F0 m pc ls (.int i :: .ref (eb V + k) :: rest)) := by
  have hat := hH.at hs
  rw [cellE_long] at hat
  exact va_lald C.1 C.2.1 C.2.2.2.2.2.1.1 (va_one hat) 0 3 rfl rfl hin hdg kk
theorem r_aldR (C : CX V M p R s m args meth c) (hH : HR V w H) {k n kd : Nat} {i : Int32} (hs : wsh w k = some (kd, n)) (hkd : kd = 24 ∨ kd = 25 ∨ kd = 26) (hin : ¬ (i < 0 ∨ n ≤ i.toNatClampNeg)) (hdg : decode (pB M) pc = .ok (.aaload, 1))
    (kk : W p l e R s m args below meth c H locs cells slots Q (F0 m (pc + 1) ls (va_rf (rfa V (wR w k i.toNatClampNeg)) :: rest))) : W p l e R s m args below meth c H locs cells slots Q (F0 m pc ls (.int i :: .ref (eb V + k) :: rest)) := by
  have hat := hH.at hs
  rw [cellE_ref hkd] at hat
  have hlt : i.toNatClampNeg < n := Nat.not_le.mp fun q => hin (Or.inr q)
  have key : ∀ (ty : FieldType), ty.isReference = true → ArrOfT s (eA V kd) ty → W p l e R s m args below meth c H locs cells slots Q (F0 m pc ls (.int i :: .ref (eb V + k) :: rest)) := by
    intro ty hr hA
    exact W.aald (v := va_rf (rfa V (wR w k i.toNatClampNeg))) (ty := ty) C.1 C.2.1 hat (hA n (fun j => va_rf (rfa V (wR w k j)))) hr (fun q => by cases q) (by show ¬ (i < 0 ∨ (arrV _ _ _).slots.size ≤ _); rw [arrV_size]; exact hin) (by show (arrV _ _ _).slots[_]? = _; rw [arrV_read _ _ hlt]) rfl rfl hdg kk
  rcases hkd with rfl | rfl | rfl
  · exact key _ rfl ((C.2.2.2.2.2.1.1.2 4 _ rfl).1)
  · exact key _ rfl ((C.2.2.2.2.2.1.1.2 5 _ rfl).1)
  · exact key _ rfl ((C.2.2.2.2.2.1.1.2 6 _ rfl).1)
theorem r_alen (C : CX V M p R s m args meth c) (hH : HR V w H) {k n kd : Nat} (hs : wsh w k = some (kd, n)) (hkd : 20 ≤ kd) (hdg : decode (pB M) pc = .ok (.arraylength, 1))
    (kk : W p l e R s m args below meth c H locs cells slots Q (F0 m (pc + 1) ls (.int (Int32.ofNat n) :: rest))) : W p l e R s m args below meth c H locs cells slots Q (F0 m pc ls (.ref (eb V + k) :: rest)) := by
  have hat := hH.at hs
  have h27 : kd < 27 := by
    have := (hH.2 k kd n hs).2.1
    omega
  have hx : ∃ a : vp_A, a.1 = n ∧ cellE V w k kd n = .inl (eA V kd, a) := by
    by_cases h1 : kd = 23
    · subst h1
      exact ⟨_, rfl, cellE_long⟩
    · by_cases h2 : kd = 24 ∨ kd = 25 ∨ kd = 26
      · exact ⟨_, rfl, cellE_ref h2⟩
      · exact ⟨_, rfl, cellE_int (by omega)⟩
  obtain ⟨a, ha, hc⟩ := hx
  rw [hc] at hat
  exact va_alen C.1 C.2.1 C.2.2.2.2.2.1.1 (va_one hat) 0 (kd - 20) rfl (tysV_at V hkd h27) (by rw [ha]) hdg kk
theorem r_astI (C : CX V M p R s m args meth c) (hH : HR V w H) (hS : va_S (A0 V) s.heap H locs) {k n : Nat} {i x : Int32} (hs : wsh w k = some (20, n)) (hin : ¬ (i < 0 ∨ n ≤ i.toNatClampNeg)) (hdg : decode (pB M) pc = .ok (.iastore, 1))
    (kk : ∀ (H1 : Heap) (locs1 : List Loc), HR V (stI w k i.toNatClampNeg x) H1 → va_S (A0 V) s.heap H1 locs1 → W p l e R s m args below meth c H1 locs1 cells slots Q (F0 m (pc + 1) ls rest)) : W p l e R s m args below meth c H locs cells slots Q (F0 m pc ls (.int x :: .int i :: .ref (eb V + k) :: rest)) := by
  have hat := hH.at hs
  rw [cellE_int (Or.inl rfl)] at hat
  refine W.iast C.1 C.2.1 hat ((C.2.2.2.2.2.1.1.2 0 _ rfl).1 n (fun j => .int (wI w k j))) (fun q => by cases q) (by show ¬ (i < 0 ∨ (arrV _ _ _).slots.size ≤ _); rw [arrV_size]; exact hin) rfl rfl hdg fun H1 e1 z oq => ?_
  refine kk H1 _ (hH.upd rfl rfl (fun k' hk' => cellE_stI hk') z oq (fun kd n' e => ?_)) (hS.put z oq (Nat.le_add_right _ _))
  rw [hs] at e
  cases e
  rw [cellE_int (Or.inl rfl)]
  show H1[eb V + k]? = some (vp_cell _ _)
  rw [e1, vp_cell_i, vp_cell_i, arrV_store]
  congr 2
  funext q
  show updV _ _ _ q = .int (u2 (wI w) k i.toNatClampNeg x k q)
  rw [u2_at]
  by_cases hq : q = i.toNatClampNeg <;> simp [updV, hq]
theorem r_astL (C : CX V M p R s m args meth c) (hH : HR V w H) (hS : va_S (A0 V) s.heap H locs) {k n : Nat} {i : Int32} {x : Int64} (hs : wsh w k = some (23, n)) (hin : ¬ (i < 0 ∨ n ≤ i.toNatClampNeg)) (hdg : decode (pB M) pc = .ok (.lastore, 1))
    (kk : ∀ (H1 : Heap) (locs1 : List Loc), HR V (stL w k i.toNatClampNeg x) H1 → va_S (A0 V) s.heap H1 locs1 → W p l e R s m args below meth c H1 locs1 cells slots Q (F0 m (pc + 1) ls rest)) : W p l e R s m args below meth c H locs cells slots Q (F0 m pc ls (.long x :: .int i :: .ref (eb V + k) :: rest)) := by
  have hat := hH.at hs
  rw [cellE_long] at hat
  refine W.last C.1 C.2.1 hat ((C.2.2.2.2.2.1.1.2 3 _ rfl).1 n (fun j => .long (wL w k j))) (fun q => by cases q) (by show ¬ (i < 0 ∨ (arrV _ _ _).slots.size ≤ _); rw [arrV_size]; exact hin) rfl rfl hdg fun H1 e1 z oq => ?_
  refine kk H1 _ (hH.upd rfl rfl (fun k' hk' => cellE_stL hk') z oq (fun kd n' e => ?_)) (hS.put z oq (Nat.le_add_right _ _))
  rw [hs] at e
  cases e
  rw [cellE_long]
  show H1[eb V + k]? = some (vp_cell _ _)
  rw [e1, vp_cell_l, vp_cell_l, arrV_store]
  congr 2
  funext q
  show updV _ _ _ q = .long (u2 (wL w) k i.toNatClampNeg x k q)
  rw [u2_at]
  by_cases hq : q = i.toNatClampNeg <;> simp [updV, hq]
theorem r_astB (C : CX V M p R s m args meth c) (hH : HR V w H) (hS : va_S (A0 V) s.heap H locs) {k n kd : Nat} {i x : Int32} (hs : wsh w k = some (kd, n)) (hkd : kd = 21 ∨ kd = 22) (hin : ¬ (i < 0 ∨ n ≤ i.toNatClampNeg)) (hdg : decode (pB M) pc = .ok (.bastore, 1))
    (kk : ∀ (H1 : Heap) (locs1 : List Loc), HR V (stI w k i.toNatClampNeg (if kd = 21 then x.toInt8.toInt32 else x &&& 1)) H1 → va_S (A0 V) s.heap H1 locs1 → W p l e R s m args below meth c H1 locs1 cells slots Q (F0 m (pc + 1) ls rest)) : W p l e R s m args below meth c H locs cells slots Q (F0 m pc ls (.int x :: .int i :: .ref (eb V + k) :: rest)) := by
  have hat := hH.at hs
  rw [cellE_int (Or.inr hkd)] at hat
  have fin : ∀ (y : Int32), y = (if kd = 21 then x.toInt8.toInt32 else x &&& 1) → ∀ H1 : Heap, H1[eb V + k]? = some ((vp_cell (eA V kd) (n, .inl (wI w k))).setSlot i.toNatClampNeg (.int y)) → H1.size = H.size → (∀ q : Nat, q ≠ eb V + k → H1[q]? = H[q]?) → W p l e R s m args below meth c H1 (locs ++ [⟨eb V + k, i.toNatClampNeg⟩]) cells slots Q (F0 m (pc + 1) ls rest) := by
    intro y hy H1 e1 z oq
    subst hy
    refine kk H1 _ (hH.upd rfl rfl (fun k' hk' => cellE_stI hk') z oq (fun kd' n' e => ?_)) (hS.put z oq (Nat.le_add_right _ _))
    rw [hs] at e
    cases e
    rw [cellE_int (Or.inr hkd)]
    show H1[eb V + k]? = some (vp_cell _ _)
    rw [e1, vp_cell_i, vp_cell_i, arrV_store]
    congr 2
    funext q
    show updV _ _ _ q = .int (u2 (wI w) k i.toNatClampNeg _ k q)
    rw [u2_at]
    by_cases hq : q = i.toNatClampNeg <;> simp [updV, hq]
  rcases hkd with rfl | rfl
  · exact W.bast C.1 C.2.1 hat ((C.2.2.2.2.2.1.1.2 1 _ rfl).1 n (fun j => .int (wI w k j))) (fun q => by cases q) (by show ¬ (i < 0 ∨ (arrV _ _ _).slots.size ≤ _); rw [arrV_size]; exact hin) rfl rfl hdg (fin _ (by simp))
  · exact W.zast C.1 C.2.1 hat ((C.2.2.2.2.2.1.1.2 2 _ rfl).1 n (fun j => .int (wI w k j))) (fun q => by cases q) (by show ¬ (i < 0 ∨ (arrV _ _ _).slots.size ≤ _); rw [arrV_size]; exact hin) rfl rfl hdg (fin _ (by simp))
theorem r_astR (C : CX V M p R s m args meth c) (hH : HR V w H) (hS : va_S (A0 V) s.heap H locs) {k n kd v nv : Nat} {i : Int32} (hs : wsh w k = some (kd, n)) (hkd : kd = 24 ∨ kd = 25) (hv : wsh w v = some (elC kd, nv)) (hin : ¬ (i < 0 ∨ n ≤ i.toNatClampNeg)) (hdg : decode (pB M) pc = .ok (.aastore, 1))
    (kk : ∀ (H1 : Heap) (locs1 : List Loc), HR V (stR w k i.toNatClampNeg (some v)) H1 → va_S (A0 V) s.heap H1 locs1 → W p l e R s m args below meth c H1 locs1 cells slots Q (F0 m (pc + 1) ls rest)) : W p l e R s m args below meth c H locs cells slots Q (F0 m pc ls (.ref (eb V + v) :: .int i :: .ref (eb V + k) :: rest)) := by
  have hat := hH.at hs
  rw [cellE_ref (by omega)] at hat
  have hlt : i.toNatClampNeg < n := Nat.not_le.mp fun q => hin (Or.inr q)
  have h0 : ¬ i < 0 := fun q => hin (Or.inl q)
  have hK := C.2.2.2.2.2.1.1
  have hel : elC kd < 12 := by unfold elC; split <;> omega
  have hatv := hH.at hv
  rw [cellE_obj hel] at hatv
  obtain ⟨r', hr', cellV, g1, g2, g3, -⟩ := hatv
  have hcl := cl_at (elC kd) hel
  have hcls := (hK.1 (elC kd) _ hcl).2
  have hRA : ∃ (kA : Class) (comp : ClassId), s.vm.classes[eA V kd]? = some kA ∧ kA.kind = .array comp (.object (clR (elC kd))) ∧ s.vm.findClass (clR (elC kd)) = some comp ∧ s.vm.findClass ("[" ++ (FieldType.object (clR (elC kd))).toString) = some (eA V kd) := by
    rcases hkd with rfl | rfl
    · exact (hK.2 4 _ rfl).2
    · exact (hK.2 5 _ rfl).2
  obtain ⟨kA, comp, k1, k2, k3, -⟩ := hRA
  have hcomp : comp = (eD V).1 (elC kd) := Option.some.inj (k3.symm.trans hcls.1)
  subst hcomp
  obtain ⟨kC, hkC, -⟩ := hcls.2
  refine W.aast C.1 C.2.1 hat (fun q h => by cases h) (fun h => by cases h) k1 k2 rfl hkC ⟨h0, by show _ < (arrV _ _ _).slots.size; rw [arrV_size]; exact hlt⟩ g1 (fun q h => by rw [g3] at h; cases h) (by rw [g2]; exact hkC) (by rw [g2]; exact va_assign hcls) rfl rfl hdg fun H1 e1 z oq => ?_
  refine kk H1 _ (hH.upd rfl rfl (fun k' hk' => cellE_stR hk') z oq (fun kd' n' e => ?_)) (hS.put z oq (Nat.le_add_right _ _))
  rw [hs] at e
  cases e
  rw [cellE_ref (by omega)]
  show H1[eb V + k]? = some (vp_cell _ _)
  rw [e1, vp_cell_q, vp_cell_q, arrV_store]
  congr 2
  funext q
  show updV _ _ _ q = va_rf (rfa V (u2 (wR w) k i.toNatClampNeg (some v) k q))
  rw [u2_at]
  by_cases hq : q = i.toNatClampNeg <;> simp [updV, hq, rfa, va_rf]
end RH
