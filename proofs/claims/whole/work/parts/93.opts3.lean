/-! THE CLASS: the turns at a place, kept in masks -/
theorem cnt_hr {A : St} (hW : WFs A) {ρ p : Nat → Nat} {hour hour' : Nat} (h5 : ∀ s, s < nsN A → p s < 5) (e : sirN A ρ hour = sirN A ρ hour') : cntN A ρ p hour = cntN A ρ p hour' := by
  rw [← cnt_sir hW h5, ← cnt_sir hW h5, e]
theorem msk_hr {A : St} (hW : WF A) {ρ : Nat → Nat} {m c h hour hour' : Nat} (e : sirN A ρ hour = sirN A ρ hour') : ∀ u, u ≤ 5 → mskN A ρ m c h hour u = mskN A ρ m c h hour' u
  | 0, _ => rfl
  | u + 1, hu => by
    have ih := msk_hr (m := m) (c := c) (h := h) hW e u (by omega)
    have e2 : ∀ x, mskN A ρ m c h x (u + 1) = mskN A ρ m c h x u ||| 2 ^ cntN A ρ (alkN A m c h u) x := fun x => rfl
    rw [e2, e2, ih, cnt_hr hW.1 (fun s hs => alk_lt hW (by omega) hs) e]
theorem may_hr {A : St} (hW : WF A) {ρ : Nat → Nat} {m c h hour hour' : Nat} (e : sirN A ρ hour = sirN A ρ hour') : mayN A ρ m hour c h = mayN A ρ m hour' c h := by
  unfold mayN
  rw [msk_hr hW e 5 (Nat.le_refl _)]
theorem may_nz {A : St} {ρ : Nat → Nat} (hR : RK ρ) {m hour c h : Nat} : mayN A ρ m hour c h ≠ 0 := by
  unfold mayN
  split
  · have := hR.2.2.2.1
    have : 0 < 2 ^ ρ 3 := Nat.pow_pos (by decide)
    omega
  · exact or_nz _ (mskN_lt _ _ _ _ _ _ _) _ (cntN_lt _ _ _ _)
/-- where none is free: what is counted -/
theorem may_0 {A : St} {ρ : Nat → Nat} {hour c h : Nat} (u : unN A c h (ρ 4) ≠ 1) : mayN A ρ 0 hour c h = 2 ^ cntN A ρ (prsN A c h) hour := by
  unfold mayN
  rw [if_neg u]
  have e5 : mskN A ρ 0 c h hour 5 = 0 ||| 2 ^ cntN A ρ (alkN A 0 c h 0) hour ||| 2 ^ cntN A ρ (alkN A 0 c h 1) hour ||| 2 ^ cntN A ρ (alkN A 0 c h 2) hour ||| 2 ^ cntN A ρ (alkN A 0 c h 3) hour ||| 2 ^ cntN A ρ (alkN A 0 c h 4) hour := rfl
  rw [e5, alk_0 (u := 0) (v := 2), alk_0 (u := 1) (v := 2), alk_0 (u := 3) (v := 2), alk_0 (u := 4) (v := 2), or_id5 _ (cntN_lt _ _ _ _), Nat.zero_or]
  congr 2
  unfold prsN alkN
  simp only [Nat.zero_testBit, Bool.false_eq_true, reduceIte]
theorem ot_2 : ∀ k, k < 3 → ∀ w : Wd, f29 (nI (2 ^ k)) w = some (tI k, w) := by
  intro k hk w
  rcases k3 hk with rfl | rfl | rfl
  · unfold f29
    have h : ¬¬ nI (2 ^ 0) = (1 : Int32) := fun z => z (by decide +kernel)
    rw [if_neg h]
    rfl
  · unfold f29
    have h : ¬ nI (2 ^ 1) = (1 : Int32) := by decide +kernel
    have h2 : ¬ nI (2 ^ 1) = (4 : Int32) := by decide +kernel
    rw [if_pos h, if_pos h2]
    rfl
  · unfold f29
    have h : ¬ nI (2 ^ 2) = (1 : Int32) := by decide +kernel
    have h2 : ¬¬ nI (2 ^ 2) = (4 : Int32) := fun z => z (by decide +kernel)
    rw [if_pos h, if_neg h2]
    rfl
theorem prs_lt {A : St} (hW : WF A) {c h s : Nat} (hs : s < nsN A) : prsN A c h s < 5 := by
  by_cases e : wayN A s = 3
  · rw [prs_b e]
    have := mostN_lt (c3N A 0 (fun s => tbcN A s c h) 0 (nsN A)) (c3N A 0 (fun s => tbcN A s c h) 1 (nsN A)) (c3N A 0 (fun s => tbcN A s c h) 2 (nsN A))
    omega
  · rw [prs_s e]
    exact tbcN_lt hW.2 hs c h
section
variable {I A : St} {L : Lt} {ru n : Nat}
theorem x_hardest {ρ : Nat → Nat} {m r : Nat} (hr : nwS r = some (5, 5)) (hX : RX I r ρ) (hR : RK ρ) (h3 : I 52 3 = nI m) (hm : m < 64) : f26 52 (mW I L r) = some (nI (haN ρ m), mW I L r) := by
  have hk := hR.1
  have g := fun j => gI_of (I := I) (L := L) (ru := r) (j := j) hr
  by_cases h0 : m = 0
  · have e : haN ρ m = 0 := if_pos h0
    simp (config := { maxSteps := 2000000 }) (disch := omega) only [f26, ux_at, ux_kk, ux_jo, gIx, pIx, pZx, gRx, aIx, sIx, aBx, sBx, lenx, clx, wshS, obS, reduceIte, Nat.one_ne_zero, Nat.zero_ne_one, Nat.reduceEqDiff, not_true_eq_false, not_false_eq_true, Nat.le_refl, ng_le, ng_lt, ng_nle, ng_nlt, ng_eq, ng_eq2, Bool.false_eq_true, lit_nI, nI_add, pk_mul, nI_leI, nI_ltI, nI_eq, h3, h0]
    rw [h0] at e
    rw [e]
  · by_cases h2 : ρ 0 = 2
    · have e : haN ρ m = 2 := by
        unfold haN
        rw [if_neg h0, if_pos h2]
      simp (config := { maxSteps := 2000000 }) (disch := omega) only [f26, ux_at, ux_kk, ux_jo, gIx, pIx, pZx, gRx, aIx, sIx, aBx, sBx, lenx, clx, wshS, obS, reduceIte, Nat.one_ne_zero, Nat.zero_ne_one, Nat.reduceEqDiff, not_true_eq_false, not_false_eq_true, Nat.le_refl, ng_le, ng_lt, ng_nle, ng_nlt, ng_eq, ng_eq2, Bool.false_eq_true, lit_nI, nI_add, pk_mul, nI_leI, nI_ltI, nI_eq, h3, h0, g, hX.1, h2, e]
    · have e : haN ρ m = 1 := by
        unfold haN
        rw [if_neg h0, if_neg h2]
      simp (config := { maxSteps := 2000000 }) (disch := omega) only [f26, ux_at, ux_kk, ux_jo, gIx, pIx, pZx, gRx, aIx, sIx, aBx, sBx, lenx, clx, wshS, obS, reduceIte, Nat.one_ne_zero, Nat.zero_ne_one, Nat.reduceEqDiff, not_true_eq_false, not_false_eq_true, Nat.le_refl, ng_le, ng_lt, ng_nle, ng_nlt, ng_eq, ng_eq2, Bool.false_eq_true, lit_nI, nI_add, pk_mul, nI_leI, nI_ltI, nI_eq, h3, h0, g, hX.1, h2, e]
theorem x_workC (hS : CS I A) (hH : CH I A) (hP : PK I A) (hW : WF A) {ρ : Nat → Nat} {m r : Nat} (hr : nwS r = some (5, 5)) (hX : RX I r ρ) (hR : RK ρ) (h3 : I 52 3 = nI m) (hm : m < 64) (hmn : ∀ s, m.testBit s = true → s < nsN A) {c h hour : Nat} (hc : c < 64) (hh : h < 8) (hn : 100 < n) :
    ∃ I', f183 n 52 (nI (8 * c + h)) (nI (sirN A ρ hour)) (mW I L r) = some (nI (mayN A ρ m hour c h), mW I' L r) ∧ Fr [54, 55] [] I I' := by
  have h6 := ns6 hW.1
  have hcl : (nwS r).map (fun q => q.1) = some 5 := by
    rw [hr]
    rfl
  have e1 := x_dodge (L := L) (ru := r) (n := n) hS hW.1 hr hX hR hc hh (by omega)
  rcases one_or (unN_le hW.1 hc hh (ρ 4)) with u | u
  · rw [u, if_neg (by decide)] at e1
    have e2 := x_blindSorts (L := L) (ru := r) (n := n) hH hW (by omega)
    have e3 := andx _ (blmN_lt A 6 (by decide)) m hm
    have hbb : blmN A 6 &&& (63 ^^^ m) = bmN A m := rfl
    rw [hbb] at e3
    have hmay : mayN A ρ m hour c h = mskN A ρ m c h hour 5 := by
      unfold mayN
      rw [u, if_neg (by decide)]
    rw [hmay]
    simp (config := { maxSteps := 2000000 }) (disch := omega) only [f183, ux_at, ux_kk, ux_jo, gIx, pIx, pZx, gRx, aIx, sIx, aBx, sBx, lenx, clx, wshS, obS, reduceIte, Nat.one_ne_zero, Nat.zero_ne_one, Nat.reduceEqDiff, not_true_eq_false, not_false_eq_true, Nat.le_refl, ng_le, ng_lt, ng_nle, ng_nlt, ng_eq, ng_eq2, Bool.false_eq_true, lit_nI, nI_add, pk_mul, nI_leI, nI_ltI, nI_eq, hcl, e1, e2, h3, e3]
    -- the row
    refine lpP (F := fun k i J => f183_H45 n (fun e0 e2 e4 w25 => (if (wsh w25 e0).map (fun q => q.1) = some 0 then ob (f26 e0 w25) (fun p26 => f183_H89 n (fun e5 w47 => some (e5, w47)) n e0 e2 e4 (nI 0) p26.1 (-p26.1) p26.2) else none)) k 52 (nI (8 * c + h)) (nI (sirN A ρ hour)) (nI (bmN A m)) (nI i) (mW J L r)) (P := fun x => ∃ I', x = some (nI (mskN A ρ m c h hour 5), mW I' L r) ∧ Fr [54, 55] [] I I') (J := fun i J => Fr [54] [] I J ∧ ∀ s, s < i → J 54 s = pI (if s < nsN A then prsN A c h s else 2)) 6 ?_ ?_ n 0 I (by omega) (by omega) ⟨Fr.rf, fun s hs => absurd hs (Nat.not_lt_zero _)⟩
    · intro k J hJ
      have rn := rr_nc hr
      have fJ : Fr [54, 55] [] I J := hJ.1.mono (by decide) (by decide)
      have hXJ := hX.fr fJ (fun z => rn (by
        rcases List.mem_cons.mp z with z | z
        · rw [z]; decide
        · rcases List.mem_cons.mp z with z | z
          · rw [z]; decide
          · cases z)) (rr_ne hr)
      have h3J : J 52 3 = nI m := (congrFun (fJ.at (by decide) (by decide)) _).trans h3
      have e4 := x_hardest (L := L) hr hXJ hR h3J hm
      have hH3 : haN ρ m < 3 := by
        unfold haN
        split
        · decide
        · split <;> decide
      simp (config := { maxSteps := 2000000 }) (disch := omega) only [f183_H45, ux_at, ux_kk, ux_jo, gIx, pIx, pZx, gRx, aIx, sIx, aBx, sBx, lenx, clx, wshS, obS, reduceIte, Nat.one_ne_zero, Nat.zero_ne_one, Nat.reduceEqDiff, not_true_eq_false, not_false_eq_true, Nat.le_refl, ng_le, ng_lt, ng_nle, ng_nlt, ng_eq, ng_eq2, Bool.false_eq_true, lit_nI, nI_add, pk_mul, nI_leI, nI_ltI, nI_eq, e4, pI_neg]
      refine lpP (F := fun k i (s : Nat × St) => f183_H89 n (fun e5 w47 => some (e5, w47)) k 52 (nI (sirN A ρ hour)) (nI (bmN A m)) (nI s.1) (nI (haN ρ m)) (pI (2 - haN ρ m + i)) (mW s.2 L r)) (P := fun x => ∃ I', x = some (nI (mskN A ρ m c h hour 5), mW I' L r) ∧ Fr [54, 55] [] I I') (J := fun i s => s.1 = mkX A ρ m c h hour (2 - haN ρ m) i ∧ Fr [54, 55] [] I s.2 ∧ ∃ q, (∀ t, t < 6 → s.2 54 t = pI (q t)) ∧ RWq A m c h q) (2 * haN ρ m + 1) ?_ ?_ n 0 (0, J) (by omega) (by omega) ⟨rfl, fJ, _, hJ.2, ?_, ?_, ?_⟩
      · rintro k ⟨x, J⟩ ⟨j1, j2, -⟩
        have j1 : x = mkX A ρ m c h hour (2 - haN ρ m) (2 * haN ρ m + 1) := j1
        have j2 : Fr [54, 55] [] I J := j2
        rw [mkX_all hW hR] at j1
        have hg : 2 + haN ρ m < 2 - haN ρ m + (2 * haN ρ m + 1) := by omega
        simp (config := { maxSteps := 2000000 }) (disch := omega) only [f183_H89, ux_at, ux_kk, ux_jo, gIx, pIx, pZx, gRx, aIx, sIx, aBx, sBx, lenx, clx, wshS, obS, reduceIte, Nat.one_ne_zero, Nat.zero_ne_one, Nat.reduceEqDiff, not_true_eq_false, not_false_eq_true, Nat.le_refl, ng_le, ng_lt, ng_nle, ng_nlt, ng_eq, ng_eq2, Bool.false_eq_true, lit_nI, nI_add, pk_mul, nI_leI, nI_ltI, nI_eq, pI_gt, hg, j1]
        exact ⟨J, rfl, j2⟩
      · rintro k i ⟨x, J⟩ hi ⟨j1, j2, q, j3, j4⟩ ih
        have j1 : x = mkX A ρ m c h hour (2 - haN ρ m) i := j1
        have j2 : Fr [54, 55] [] I J := j2
        have hx8 : x < 8 := by rw [j1]; exact mkX_lt _ _ _ _ _ _ _ _
        have hg : ¬ 2 + haN ρ m < 2 - haN ρ m + i := by omega
        by_cases x7 : x = 7
        · have := mkX_7 (j1.symm.trans x7) (2 * haN ρ m + 1) (by omega)
          rw [mkX_all hW hR] at this
          simp (config := { maxSteps := 2000000 }) (disch := omega) only [f183_H89, ux_at, ux_kk, ux_jo, gIx, pIx, pZx, gRx, aIx, sIx, aBx, sBx, lenx, clx, wshS, obS, reduceIte, Nat.one_ne_zero, Nat.zero_ne_one, Nat.reduceEqDiff, not_true_eq_false, not_false_eq_true, Nat.le_refl, ng_le, ng_lt, ng_nle, ng_nlt, ng_eq, ng_eq2, Bool.false_eq_true, lit_nI, nI_add, pk_mul, nI_leI, nI_ltI, nI_eq, pI_gt, hg, x7]
          exact ⟨J, by rw [this], j2⟩
        · have hXJ2 := hX.fr j2 (fun z => rn (by
            rcases List.mem_cons.mp z with z | z
            · rw [z]; decide
            · rcases List.mem_cons.mp z with z | z
              · rw [z]; decide
              · cases z)) (rr_ne hr)
          have h3J2 : J 52 3 = nI m := (congrFun (j2.at (by decide) (by decide)) _).trans h3
          have hk := cntN_lt A ρ (alkN A m c h (2 - haN ρ m + i)) hour
          have s1 := x_step (L := L) (n := n) (hour := hour) (hS.fr hW.1 j2 (by decide)) hW hr hXJ2 hR h3J2 hm hmn (show 2 - haN ρ m + i < 5 by omega) j3 j4 hn (P := fun x => ∃ I', x = some (nI (mskN A ρ m c h hour 5), mW I' L r) ∧ Fr [54, 55] [] I I') (rec49 := fun e0 e1 e2 e3 e4 e5 w => f183_H89 n (fun e5 w47 => some (e5, w47)) k e0 e1 e2 e3 e4 e5 w) (K49 := fun e5 w47 => some (e5, w47)) (mask := nI x) (hard := nI (haN ρ m)) fun J3 q' f3 r3 Q3 => by
            have z := ih (x ||| 2 ^ cntN A ρ (alkN A m c h (2 - haN ρ m + i)) hour, J3) ⟨by rw [j1]; rfl, j2.tr f3, q', r3, Q3⟩
            rw [or_nI x hx8 _ hk]
            exact z
          simp (config := { maxSteps := 2000000 }) (disch := omega) only [f183_H89, ux_at, ux_kk, ux_jo, gIx, pIx, pZx, gRx, aIx, sIx, aBx, sBx, lenx, clx, wshS, obS, reduceIte, Nat.one_ne_zero, Nat.zero_ne_one, Nat.reduceEqDiff, not_true_eq_false, not_false_eq_true, Nat.le_refl, ng_le, ng_lt, ng_nle, ng_nlt, ng_eq, ng_eq2, Bool.false_eq_true, lit_nI, nI_add, pk_mul, nI_leI, nI_ltI, nI_eq, pI_gt, hg, x7]
          exact s1
      · intro s hs
        dsimp only
        split
        · exact prs_lt hW (by assumption)
        · decide
      · intro s hs
        exact if_neg (by omega)
      · intro s hs a1 a2
        dsimp only
        rw [if_pos hs]
        refine prs_s fun z => ?_
        unfold blD at a2
        rw [z, a1] at a2
        exact absurd a2 (by decide)
    · intro k i J hi hJ ih
      have hi2 : ¬ 6 ≤ i := by omega
      have hSJ := hS.fr hW.1 hJ.1 (by decide)
      obtain ⟨N, a, b, d⟩ := hP (8 * c + h) (by omega)
      have aJ : J 48 (8 * c + h) = nI N := (congrFun (hJ.1.at (by decide) (by decide)) _).trans a
      have hst : ∀ v, v = pI (if i < nsN A then prsN A c h i else 2) → Fr [54] [] I (u2 J 54 i v) ∧ ∀ s, s < i + 1 → (u2 J 54 i v) 54 s = pI (if s < nsN A then prsN A c h s else 2) := fun v hv => by
        refine ⟨hJ.1.u (by decide), fun s hs => ?_⟩
        rw [ux_if]
        split
        · rename_i q
          rw [q, hv]
        · exact hJ.2 s (by omega)
      by_cases a1 : i < nsN A
      · have e4 := x_press (L := L) (ru := r) hSJ hW.1 a1 (show 8 * c + h < 512 by omega) aJ b
        have e5 := d i a1
        rw [show (8 * c + h) / 8 = c by omega, show (8 * c + h) % 8 = h by omega] at e5
        rw [e5] at e4
        simp (config := { maxSteps := 2000000 }) (disch := omega) only [f183_H45, ux_at, ux_kk, ux_jo, gIx, pIx, pZx, gRx, aIx, sIx, aBx, sBx, lenx, clx, wshS, obS, reduceIte, Nat.one_ne_zero, Nat.zero_ne_one, Nat.reduceEqDiff, not_true_eq_false, not_false_eq_true, Nat.le_refl, ng_le, ng_lt, ng_nle, ng_nlt, ng_eq, ng_eq2, Bool.false_eq_true, lit_nI, nI_add, pk_mul, nI_leI, nI_ltI, nI_eq, hi2, e4]
        exact ih _ (hst _ (by rw [if_pos a1]))
      · have e4 := x_presso (L := L) (ru := r) hSJ hW.1 (show nsN A ≤ i by omega) hi (show 8 * c + h < 512 by omega)
        simp (config := { maxSteps := 2000000 }) (disch := omega) only [f183_H45, ux_at, ux_kk, ux_jo, gIx, pIx, pZx, gRx, aIx, sIx, aBx, sBx, lenx, clx, wshS, obS, reduceIte, Nat.one_ne_zero, Nat.zero_ne_one, Nat.reduceEqDiff, not_true_eq_false, not_false_eq_true, Nat.le_refl, ng_le, ng_lt, ng_nle, ng_nlt, ng_eq, ng_eq2, Bool.false_eq_true, lit_nI, nI_add, pk_mul, nI_leI, nI_ltI, nI_eq, hi2, e4]
        exact ih _ (hst _ (by rw [if_neg a1]))
  · rw [u, if_pos rfl] at e1
    have r3 := hR.2.2.2.1
    have hne : ¬ tI (ρ 3) = nI 0 := tI_ne r3 (fun z => by
      have := hR.2.2.2.2.2 z
      rw [this] at u
      exact absurd u (show ¬ (0 : Nat) = 1 by decide))
    have hmay : mayN A ρ m hour c h = 2 ^ ρ 3 := by
      unfold mayN
      rw [u, if_pos rfl]
    refine ⟨I, ?_, Fr.rf⟩
    simp (config := { maxSteps := 2000000 }) (disch := omega) only [f183, ux_at, ux_kk, ux_jo, gIx, pIx, pZx, gRx, aIx, sIx, aBx, sBx, lenx, clx, wshS, obS, reduceIte, Nat.one_ne_zero, Nat.zero_ne_one, Nat.reduceEqDiff, not_true_eq_false, not_false_eq_true, Nat.le_refl, ng_le, ng_lt, ng_nle, ng_nlt, ng_eq, ng_eq2, Bool.false_eq_true, lit_nI, nI_add, pk_mul, nI_leI, nI_ltI, nI_eq, hcl, e1, hne, tI_p1, shl_nI, hmay]
theorem x_options (hS : CS I A) (hH : CH I A) (hP : PK I A) (hW : WF A) {ρ : Nat → Nat} {m r : Nat} (hC : CN I A ρ m r) (hR : RK ρ) (hm : m < 64) (hmn : ∀ s, m.testBit s = true → s < nsN A) {c h hour : Nat} (hc : c < 64) (hh : h < 8) (ho : hour < 1000) (hn : 100 < n) :
    ∃ I', f200 n 52 (nI (8 * c + h)) (nI hour) (mW I L r) = some (nI (mayN A ρ m hour c h), mW I' L r) ∧ Fr cnK [] I I' ∧ CN I' A ρ m r := by
  obtain ⟨hr, hX, h3, h4, hM⟩ := hC
  have g := fun j => gI_of (I := I) (L := L) (ru := r) (j := j) hr
  have hs6 := sirN_lt hW.1 ρ hour
  have hk4 := hR.1
  obtain ⟨N, a, b, d⟩ := hM (8 * c + h) (by omega)
  have d := d (sirN A ρ hour) hs6
  rw [show (8 * c + h) / 8 = c by omega, show (8 * c + h) % 8 = h by omega] at d
  have key : ∃ I', f200_J44 n 52 (nI (8 * c + h)) (nI (sirN A ρ hour)) (mW I L r) = some (nI (mayN A ρ m hour c h), mW I' L r) ∧ Fr cnK [] I I' ∧ CN I' A ρ m r := by
    have e8 := shr8 b hs6
    have d8 : dgN N (sirN A ρ hour) < 8 := Nat.mod_lt _ (by decide)
    by_cases q : dgN N (sirN A ρ hour) = 0
    · obtain ⟨J, e2, f2⟩ := x_workC (L := L) (n := n) (hour := hour) hS hH hP hW hr hX hR h3 hm hmn hc hh hn
      have aJ : J 53 (8 * c + h) = nI N := (congrFun (f2.at (by decide) (by decide)) _).trans a
      have hml := mayN_lt (A := A) hR m hour c h
      have e9 := shl8 _ hml _ hs6
      refine ⟨u2 J 53 (8 * c + h) (nI (N ||| mayN A ρ m hour c h * 8 ^ sirN A ρ hour)), ?_, ?_⟩
      · simp (config := { maxSteps := 2000000 }) (disch := omega) only [f200_J44, ux_at, ux_kk, ux_jo, gIx, pIx, pZx, gRx, aIx, sIx, aBx, sBx, lenx, clx, wshS, obS, reduceIte, Nat.one_ne_zero, Nat.zero_ne_one, Nat.reduceEqDiff, not_true_eq_false, not_false_eq_true, Nat.le_refl, ng_le, ng_lt, ng_nle, ng_nlt, ng_eq, ng_eq2, Bool.false_eq_true, lit_nI, nI_add, pk_mul, nI_leI, nI_ltI, nI_eq, a, e8, q, e2, aJ, e9, or_nIg]
      · have f3 : Fr cnK [] I (u2 J 53 (8 * c + h) (nI (N ||| mayN A ρ m hour c h * 8 ^ sirN A ρ hour))) := (f2.mono (by decide) (by decide)).u (by decide)
        have e3 := f3.at (k := 52) (by decide) (by decide)
        refine ⟨f3, hr, hX.fr f3 (rr_nc hr) (rr_ne hr), by rw [e3]; exact h3, by rw [e3]; exact h4, fun p hp => ?_⟩
        rw [ux_if]
        by_cases e : p = 8 * c + h
        · rw [if_pos e]
          refine ⟨_, rfl, put_lt b hml hs6, fun t ht hne hour' hh' => ?_⟩
          rw [dg_put hml hs6 q ht] at hne ⊢
          by_cases e5 : t = sirN A ρ hour
          · rw [if_pos e5, e, show (8 * c + h) / 8 = c by omega, show (8 * c + h) % 8 = h by omega]
            exact may_hr hW (hh'.trans e5)
          · rw [if_neg e5] at hne ⊢
            obtain ⟨N', a', b', d'⟩ := hM p hp
            have : N' = N := by
              have h1 : nI N' = nI N := by rw [← a', e, a]
              simp (config := { maxSteps := 2000000 }) (disch := omega) only [nI_eq] at h1
              exact h1
            rw [this] at d'
            exact d' t ht hne hour' hh'
        · rw [if_neg e, f2.at (by decide) (by decide)]
          exact hM p hp
    · have e2 := d q hour rfl
      refine ⟨I, ?_, Fr.rf, hr, hX, h3, h4, hM⟩
      simp (config := { maxSteps := 2000000 }) (disch := omega) only [f200_J44, ux_at, ux_kk, ux_jo, gIx, pIx, pZx, gRx, aIx, sIx, aBx, sBx, lenx, clx, wshS, obS, reduceIte, Nat.one_ne_zero, Nat.zero_ne_one, Nat.reduceEqDiff, not_true_eq_false, not_false_eq_true, Nat.le_refl, ng_le, ng_lt, ng_nle, ng_nlt, ng_eq, ng_eq2, Bool.false_eq_true, lit_nI, nI_add, pk_mul, nI_leI, nI_ltI, nI_eq, a, e8, q, e2]
  obtain ⟨I', k1, k2⟩ := key
  refine ⟨I', ?_, k2⟩
  have h512 : 8 * c + h ≤ 511 := by omega
  by_cases q : ρ 0 = 3
  · have es : sirN A ρ hour = sitN A hour := if_pos q
    rw [es] at k1
    have e2 := x_sortInTurn (L := L) (ru := r) (n := n) hS hW.1 ho (by omega)
    simp (config := { maxSteps := 2000000 }) (disch := omega) only [f200, ux_at, ux_kk, ux_jo, gIx, pIx, pZx, gRx, aIx, sIx, aBx, sBx, lenx, clx, wshS, obS, reduceIte, Nat.one_ne_zero, Nat.zero_ne_one, Nat.reduceEqDiff, not_true_eq_false, not_false_eq_true, Nat.le_refl, ng_le, ng_lt, ng_nle, ng_nlt, ng_eq, ng_eq2, Bool.false_eq_true, lit_nI, nI_add, pk_mul, nI_leI, nI_ltI, nI_eq, h4, s0i, g, hX.1, q, e2]
    exact k1
  · have es : sirN A ρ hour = 0 := if_neg q
    rw [es] at k1
    simp (config := { maxSteps := 2000000 }) (disch := omega) only [f200, ux_at, ux_kk, ux_jo, gIx, pIx, pZx, gRx, aIx, sIx, aBx, sBx, lenx, clx, wshS, obS, reduceIte, Nat.one_ne_zero, Nat.zero_ne_one, Nat.reduceEqDiff, not_true_eq_false, not_false_eq_true, Nat.le_refl, ng_le, ng_lt, ng_nle, ng_nlt, ng_eq, ng_eq2, Bool.false_eq_true, lit_nI, nI_add, pk_mul, nI_leI, nI_ltI, nI_eq, h4, s0i, g, hX.1, q]
    exact k1
/-- the counting begins -/
theorem x_begin {ρ : Nat → Nat} {m r : Nat} (hr : nwS r = some (5, 5)) (hX : RX I r ρ) (hn : 1000 < n) : ∃ I', f99 n 52 r (nI m) (mW I L ru) = some (mW I' L r) ∧ Fr [52, 53] [] I I' ∧ CN I' A ρ m r := by
  have hrn : r ∉ [52, 53] := fun z => by
    rcases List.mem_cons.mp z with z | z
    · rw [z, sh_52] at hr
      exact absurd hr (by decide)
    · exact rr_nc hr (by
        rcases List.mem_cons.mp z with z | z
        · rw [z]; decide
        · cases z)
  obtain ⟨I1, e1, f1, z1⟩ := x_fill (I := u2 (u2 I 52 3 (nI m)) 52 4 (nI 0)) (L := L) (ru := r) (n := n) (v := 0) (k := 53) sh_53 (by decide) hn
  have f2 : Fr [52, 53] [] I I1 := ((Fr.rf.u (by decide)).u (by decide)).tr (f1.mono (by decide) (by decide))
  refine ⟨I1, ?_, f2, hr, hX.fr f2 hrn (rr_ne hr), ?_, ?_, fun p hp => ⟨0, z1 p hp, by decide, fun t ht hne => ?_⟩⟩
  · simp (config := { maxSteps := 2000000 }) (disch := omega) only [f99, ux_at, ux_kk, ux_jo, gIx, pIx, pZx, gRx, aIx, sIx, aBx, sBx, lenx, clx, wshS, obS, reduceIte, lit_nI, pRx, e1]
  · rw [f1.at (by decide) (by decide)]
    exact (ux_j (by decide)).trans ux_at
  · rw [f1.at (by decide) (by decide)]
    exact ux_at
  · rw [dg_0] at hne
    exact absurd rfl hne
end
