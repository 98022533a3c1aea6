/-! BOTH TOGETHER: way, keep, goBack -/
theorem ixp (x : Int32) : (x < -nI 2 ∨ nI 2 < x) ∨ ∃ u, u < 5 ∧ x = pI u := by
  by_cases h1 : x < -nI 2
  · exact Or.inl (Or.inl h1)
  · by_cases h2 : nI 2 < x
    · exact Or.inl (Or.inr h2)
    · have m1 : (-nI 2).toInt = -2 := by decide +kernel
      rw [Int32.lt_iff_toInt_lt, m1] at h1
      rw [Int32.lt_iff_toInt_lt, nI_toInt (by omega)] at h2
      have h3 : x.toInt = -2 ∨ x.toInt = -1 ∨ x.toInt = 0 ∨ x.toInt = 1 ∨ x.toInt = 2 := by omega
      refine Or.inr ?_
      rcases h3 with e | e | e | e | e
      · exact ⟨0, by decide, Int32.toInt_inj.mp (by rw [e]; decide +kernel)⟩
      · exact ⟨1, by decide, Int32.toInt_inj.mp (by rw [e]; decide +kernel)⟩
      · exact ⟨2, by decide, Int32.toInt_inj.mp (by rw [e]; decide +kernel)⟩
      · exact ⟨3, by decide, Int32.toInt_inj.mp (by rw [e]; decide +kernel)⟩
      · exact ⟨4, by decide, Int32.toInt_inj.mp (by rw [e]; decide +kernel)⟩
theorem pI_ge2 : ∀ u, u < 5 → ¬ pI u < -nI 2 ∧ ¬ nI 2 < pI u ∧ pI u ≤ nI 2 := by decide +kernel
theorem s0p {u : Nat} (hu : u < 5) (w : Wd) : f0 (pI u) (-nI 2) (nI 2) w = some (nI 0, w) := by
  obtain ⟨h1, h2, h3⟩ := pI_ge2 u hu
  unfold f0
  rw [if_neg h1, if_pos h3]
  rfl
theorem s0po {x : Int32} (h : x < -nI 2 ∨ nI 2 < x) (w : Wd) : f0 x (-nI 2) (nI 2) w = some (nI 1, w) := by
  unfold f0
  by_cases h1 : x < -nI 2
  · rw [if_pos h1]; rfl
  · have h2 : ¬ x ≤ nI 2 := by
      rcases h with h | h
      · exact absurd h h1
      · rw [Int32.not_le]; exact h
    rw [if_neg h1, if_neg h2]; rfl
theorem s40p {u : Nat} (hu : u < 5) (w : Wd) : f40 (Int32.toInt64 (pI u)) (-lN 2) (lN 2) w = some (nI 1, w) := by
  obtain ⟨h1, h2, h3⟩ := pI_ge2 u hu
  have e := s40w (pI u) (-nI 2) (nI 2) w
  rw [if_neg h1, if_neg h2] at e
  have e2 : Int32.toInt64 (-nI 2) = -lN 2 := by decide +kernel
  rw [e2, ← lN_w (by decide)] at e
  exact e
theorem s40po {x : Int32} (h : x < -nI 2 ∨ nI 2 < x) (w : Wd) : f40 (Int32.toInt64 x) (-lN 2) (lN 2) w = some (nI 0, w) := by
  have e := s40w x (-nI 2) (nI 2) w
  have e2 : Int32.toInt64 (-nI 2) = -lN 2 := by decide +kernel
  rw [e2, ← lN_w (by decide)] at e
  rw [e]
  by_cases h1 : x < -nI 2
  · rw [if_pos h1]
  · rcases h with h | h
    · exact absurd h h1
    · rw [if_neg h1, if_pos h]
theorem wayOk_p {u : Nat} (hu : u < 5) : wayOk (nI 4) (pI u) := by
  refine Or.inr (Or.inr (Or.inr (Or.inr ⟨rfl, ?_⟩)))
  have : ∀ u, u < 5 → pI u = -2 ∨ pI u = -1 ∨ pI u = nI 0 ∨ pI u = nI 1 ∨ pI u = nI 2 := by decide +kernel
  exact this u hu
section
variable {I A : St} {L : Lt} {ru n : Nat}
/-- a way that is well, taken -/
theorem way_ok (hI : INV I A) {s : Nat} {w v : Int32} (hs : s < nsN A) (hw : wayOk w v) (hx : f146 0 (nI s) w v (mW I L ru) = some (A 72 s, mW (u2 (u2 (u2 I 35 s w) 36 s v) 47 2 (nI 0)) L ru)) (hm : ∀ I1, MC I1 A → f167 67 (nI s) w v (mW I1 L ru) = some (A 72 s, mW (u2 (u2 (u2 I1 72 s w) 73 s v) 67 34 (nI 0)) L ru)) : STEP I L ru (f146 0 (nI s) w v) (f167 67 (nI s) w v) := by
  have hI9 := hI
  obtain ⟨hM, hW, hC, hX, ⟨hS, hH, hR, hT, hL, hG⟩, sd, hsd, hs1, hs2⟩ := hI9
  have h6 := ns6 hW.1
  have h7 := p2_le (nsN A) (by omega)
  have h4 := nr4 hW
  have f1 : Fr [35, 36, 47] [] I (u2 (u2 (u2 I 35 s w) 36 s v) 47 2 (nI 0)) := ((Fr.rf.u (by decide)).u (by decide)).u (by decide)
  have c1 : (u2 (u2 (u2 I 35 s w) 36 s v) 47 2 (nI 0)) 47 2 = nI 0 := ux_at
  have w1 : (u2 (u2 (u2 I 35 s w) 36 s v) 47 2 (nI 0)) 35 = u2 I 35 s w 35 := (ux_kk (by decide)).trans (ux_kk (by decide))
  have w2 : (u2 (u2 (u2 I 35 s w) 36 s v) 47 2 (nI 0)) 36 = u2 (u2 I 35 s w) 36 s v 36 := ux_kk (by decide)
  generalize u2 (u2 (u2 I 35 s w) 36 s v) 47 2 (nI 0) = I1 at *
  have hM1 := hM.fr f1 (by decide) (by decide) (by decide)
  have hm1 := hm I1 hM1
  have f2 : Fr [72, 73] [34] I1 (u2 (u2 (u2 I1 72 s w) 73 s v) 67 34 (nI 0)) := ((Fr.rf.u (by decide)).u (by decide)).uf (by decide)
  have c2 : (u2 (u2 (u2 I1 72 s w) 73 s v) 67 34 (nI 0)) 67 34 = nI 0 := ux_at
  have w3 : (u2 (u2 (u2 I1 72 s w) 73 s v) 67 34 (nI 0)) 72 = u2 I1 72 s w 72 := (ux_kk (by decide)).trans (ux_kk (by decide))
  have w4 : (u2 (u2 (u2 I1 72 s w) 73 s v) 67 34 (nI 0)) 73 = u2 (u2 I1 72 s w) 73 s v 73 := ux_kk (by decide)
  generalize u2 (u2 (u2 I1 72 s w) 73 s v) 67 34 (nI 0) = I2 at *
  have f3 : Fr [35, 36, 47, 72, 73] [34] I I2 := (f1.mono (by decide) (by decide)).tr (f2.mono (by decide) (by decide))
  have g := ags_of hM f3 (by decide) (by decide) (by decide)
  have e15 := mc_f hM f3 (by decide) (j := 15) (by decide) (by decide)
  have e16 := mc_f hM f3 (by decide) (j := 16) (by decide) (by decide)
  have e37 := mc_f hM f3 (by decide) (j := 37) (by decide) (by decide)
  have e56 := mc_f hM f3 (by decide) (j := 56) (by decide) (by decide)
  have kt := mc_k hM f3 (k := 76) (by decide) (by decide)
  have kr := mc_k hM f3 (k := 84) (by decide) (by decide)
  have kl := mc_k hM f3 (k := 90) (by decide) (by decide)
  have ki := mc_k hM f3 (k := 93) (by decide) (by decide)
  have kk := mc_k hM f3 (k := 94) (by decide) (by decide)
  have s60 : I2 67 60 = nI sd := (f3.f (by decide) (by decide)).trans hs1
  have s34 : I2 34 4 = nI sd := by rw [f3.at (by decide) (by decide)]; exact hs2
  have m72 : ∀ j, I2 72 j = if j = s then w else A 72 j := fun j => by
    rw [w3, ux_if, hM1.2 72 (by decide)]
  have m73 : ∀ j, I2 73 j = if j = s then v else A 73 j := fun j => by
    rw [w4, ux_if]
    split
    · rfl
    · exact (ux_k (by decide)).trans (congrFun (hM1.2 73 (by decide)) j)
  have x35 : ∀ j, I2 35 j = if j = s then w else I 35 j := fun j => by
    rw [f2.at (by decide) (by decide), w1, ux_if]
  have x36 : ∀ j, I2 36 j = if j = s then v else I 36 j := fun j => by
    rw [f2.at (by decide) (by decide), w2, ux_if]
    split
    · rfl
    · exact ux_k (by decide)
  have hns := ag_ns g
  refine ⟨_, mW I1 L ru, I2, L, ru, I2, hx, hm1, rfl, MC.rf, ⟨ag_wf g hW.1, fun j hj => ?_, wf_tx e15 hW.2, wf_ty e15 kt hW.2, wf_nr e37 hW.2, wf_ru e37 kr hW.2, wf_lg e56 hW.2, ⟨sd, hsd, s60⟩, wf_im g kk ki hW.2⟩, Or.inl c2, Or.inl (by rw [f2.at (by decide) (by decide)]; exact c1), ⟨ag_cs g (hS.fr hW.1 f3 (by decide)), ⟨fun j hj => ?_, fun j h1 h2 => ?_⟩, cr_ag e37 kr (hR.fr h4 f3 (by decide)), ct_ag e15 e16 kt (hT.fr f3 (by decide) (by decide)), cl_ag e56 kl (hL.of (by rw [f3.at (by decide) (by decide)]) (f3.at (by decide) (by decide))), ci_ag g kk ki (hG.fr f3 (by decide))⟩, sd, hsd, s60, s34⟩
  · rw [hns] at hj
    rw [m72, m73]
    by_cases e : j = s
    · rw [if_pos e, if_pos e]; exact hw
    · rw [if_neg e, if_neg e]; exact hW.2.1 j hj
  · rw [hns] at hj
    rw [m72, m73, x35, x36]
    obtain ⟨a1, a2⟩ := hH.1 j hj
    by_cases e : j = s
    · rw [if_pos e, if_pos e, if_pos e, if_pos e]; exact ⟨rfl, rfl⟩
    · rw [if_neg e, if_neg e, if_neg e, if_neg e]; exact ⟨a1, a2⟩
  · rw [hns] at h1
    rw [x35, if_neg (by omega)]
    exact hH.2 j h1 h2
theorem q_way (hI : INV I A) (x y z : Int32) : STEP I L ru (f146 0 x y z) (f167 67 x y z) := by
  have hI9 := hI
  obtain ⟨hM, hW, hC, hX, ⟨hS, hH, hR, hT, hL, hG⟩, sd, hsd, hs1, hs2⟩ := hI9
  have h6 := ns6 hW.1
  have h7 := p2_le (nsN A) (by omega)
  have h4 := nr4 hW
  rcases ixc x (n := nsN A) (by omega) with hx | ⟨s, hs, rfl⟩
  · exact STEP.same hI (v := -nI 1000001) (by simp (config := { maxSteps := 2000000 }) (disch := omega) only [f146, ux_at, ux_kk, ux_jo, gIx, pIx, pZx, gRx, aIx, sIx, aBx, sBx, lenx, clx, wshS, obS, reduceIte, Nat.one_ne_zero, Nat.zero_ne_one, Nat.reduceEqDiff, not_true_eq_false, not_false_eq_true, Nat.le_refl, ng_le, ng_lt, ng_nle, ng_nlt, ng_eq, ng_eq2, Bool.false_eq_true, lit_nI, nI_add, pk_mul, nI_leI, nI_ltI, nI_eq, x_noSorto hS hW.1 hx]) (by simp (config := { maxSteps := 2000000 }) (disch := omega) only [f167, ux_at, ux_kk, ux_jo, gIm, pIm, pZm, gRm, aIm, sIm, aBm, sBm, gLm, pLm, clm, wshS, obS, reduceIte, Nat.one_ne_zero, Nat.zero_ne_one, Nat.reduceEqDiff, not_true_eq_false, not_false_eq_true, Nat.le_refl, ng_le, ng_lt, ng_nle, ng_nlt, ng_eq, ng_eq2, Bool.false_eq_true, lit_nI, nI_add, pk_mul, nI_leI, nI_ltI, nI_eq, s121o hM hW.1 hx])
  have e2n : (-2 : Int64) = -lN 2 := by decide +kernel
  have w1 := (hH.1 s hs).1
  have hs6 : s < 6 := by omega
  rcases ixc y (n := 5) (by decide) with hy | ⟨j, hj, rfl⟩
  · have e54 : nI 5 - nI 1 = nI 4 := by decide +kernel
    have a1 := fun w => s0co (w := w) (n := 5) (by decide) hy
    have a2 := fun w => s40co (w := w) (n := 5) (by decide) hy
    rw [e54] at a1
    rw [e54, ← lN_w (by decide)] at a2
    have q := fun k (hk : k < 5) => ne_out (by decide) hy hk
    have q2 := q 2 (by decide)
    have q4 := q 4 (by decide)
    by_cases hz : z = nI 0
    · exact STEP.same hI (v := -nI 1000002) (by simp (config := { maxSteps := 2000000 }) (disch := omega) only [f146, ux_at, ux_kk, ux_jo, gIx, pIx, pZx, gRx, aIx, sIx, aBx, sBx, lenx, clx, wshS, obS, reduceIte, Nat.one_ne_zero, Nat.zero_ne_one, Nat.reduceEqDiff, not_true_eq_false, not_false_eq_true, Nat.le_refl, ng_le, ng_lt, ng_nle, ng_nlt, ng_eq, ng_eq2, Bool.false_eq_true, lit_nI, nI_add, pk_mul, nI_leI, nI_ltI, nI_eq, x_noSort hS hW.1 hs, a1]) (by simp (config := { maxSteps := 2000000 }) (disch := omega) only [f167, f167_J57, ux_at, ux_kk, ux_jo, gIm, pIm, pZm, gRm, aIm, sIm, aBm, sBm, gLm, pLm, clm, wshS, obS, reduceIte, Nat.one_ne_zero, Nat.zero_ne_one, Nat.reduceEqDiff, not_true_eq_false, not_false_eq_true, Nat.le_refl, ng_le, ng_lt, ng_nle, ng_nlt, ng_eq, ng_eq2, Bool.false_eq_true, lit_nI, nI_add, pk_mul, nI_leI, nI_ltI, nI_eq, lit_lN, s121 hM hW.1 hs, q2, q4, hz, a2])
    · exact STEP.same hI (v := -nI 1000002) (by simp (config := { maxSteps := 2000000 }) (disch := omega) only [f146, ux_at, ux_kk, ux_jo, gIx, pIx, pZx, gRx, aIx, sIx, aBx, sBx, lenx, clx, wshS, obS, reduceIte, Nat.one_ne_zero, Nat.zero_ne_one, Nat.reduceEqDiff, not_true_eq_false, not_false_eq_true, Nat.le_refl, ng_le, ng_lt, ng_nle, ng_nlt, ng_eq, ng_eq2, Bool.false_eq_true, lit_nI, nI_add, pk_mul, nI_leI, nI_ltI, nI_eq, x_noSort hS hW.1 hs, a1]) (by simp (config := { maxSteps := 2000000 }) (disch := omega) only [f167, f167_J57, ux_at, ux_kk, ux_jo, gIm, pIm, pZm, gRm, aIm, sIm, aBm, sBm, gLm, pLm, clm, wshS, obS, reduceIte, Nat.one_ne_zero, Nat.zero_ne_one, Nat.reduceEqDiff, not_true_eq_false, not_false_eq_true, Nat.le_refl, ng_le, ng_lt, ng_nle, ng_nlt, ng_eq, ng_eq2, Bool.false_eq_true, lit_nI, nI_add, pk_mul, nI_leI, nI_ltI, nI_eq, lit_lN, s121 hM hW.1 hs, q2, q4, hz, a2])
  by_cases j2 : j = 2
  · subst j2
    rcases ixr z (a := 1) (b := 4) (by decide) (by decide) with hz | ⟨v, hv1, hv, rfl⟩
    · exact STEP.same hI (v := -nI 1000002) (by simp (config := { maxSteps := 2000000 }) (disch := omega) only [f146, f94, ux_at, ux_kk, ux_jo, gIx, pIx, pZx, gRx, aIx, sIx, aBx, sBx, lenx, clx, wshS, obS, reduceIte, Nat.one_ne_zero, Nat.zero_ne_one, Nat.reduceEqDiff, not_true_eq_false, not_false_eq_true, Nat.le_refl, ng_le, ng_lt, ng_nle, ng_nlt, ng_eq, ng_eq2, Bool.false_eq_true, lit_nI, nI_add, pk_mul, nI_leI, nI_ltI, nI_eq, x_noSort hS hW.1 hs, s0i, s0o hz, or_true]) (by simp (config := { maxSteps := 2000000 }) (disch := omega) only [f167, f167_J57, ux_at, ux_kk, ux_jo, gIm, pIm, pZm, gRm, aIm, sIm, aBm, sBm, gLm, pLm, clm, wshS, obS, reduceIte, Nat.one_ne_zero, Nat.zero_ne_one, Nat.reduceEqDiff, not_true_eq_false, not_false_eq_true, Nat.le_refl, ng_le, ng_lt, ng_nle, ng_nlt, ng_eq, ng_eq2, Bool.false_eq_true, lit_nI, nI_add, pk_mul, nI_leI, nI_ltI, nI_eq, lit_lN, s121 hM hW.1 hs, s40i, s40o (show 1 < 2 ^ 31 by decide) (show 4 < 2 ^ 31 by decide) hz])
    · refine way_ok hI hs (Or.inr (Or.inr (Or.inl ⟨rfl, v, hv1, hv, rfl⟩))) ?_ fun I1 hM1 => ?_
      · simp (config := { maxSteps := 2000000 }) (disch := omega) only [f146, f94, f95, ux_at, ux_kk, ux_jo, gIx, pIx, pZx, gRx, aIx, sIx, aBx, sBx, lenx, clx, wshS, obS, reduceIte, Nat.one_ne_zero, Nat.zero_ne_one, Nat.reduceEqDiff, not_true_eq_false, not_false_eq_true, Nat.le_refl, ng_le, ng_lt, ng_nle, ng_nlt, ng_eq, ng_eq2, Bool.false_eq_true, lit_nI, nI_add, pk_mul, nI_leI, nI_ltI, nI_eq, x_noSort hS hW.1 hs, s0i, x_wayOf, w1, true_or]
      · simp (config := { maxSteps := 2000000 }) (disch := omega) only [f167, f167_J57, ux_at, ux_kk, ux_jo, gIm, pIm, pZm, gRm, aIm, sIm, aBm, sBm, gLm, pLm, clm, wshS, obS, reduceIte, Nat.one_ne_zero, Nat.zero_ne_one, Nat.reduceEqDiff, not_true_eq_false, not_false_eq_true, Nat.le_refl, ng_le, ng_lt, ng_nle, ng_nlt, ng_eq, ng_eq2, Bool.false_eq_true, lit_nI, nI_add, pk_mul, nI_leI, nI_ltI, nI_eq, lit_lN, s121 hM1 hW.1 hs, s40i, mcA hM1]
  · by_cases j4 : j = 4
    · subst j4
      rcases ixp z with hz | ⟨u, hu, rfl⟩
      · have a1 := s0po hz
        have a2 := s40po hz
        exact STEP.same hI (v := -nI 1000002) (by simp (config := { maxSteps := 2000000 }) (disch := omega) only [f146, f94, ux_at, ux_kk, ux_jo, gIx, pIx, pZx, gRx, aIx, sIx, aBx, sBx, lenx, clx, wshS, obS, reduceIte, Nat.one_ne_zero, Nat.zero_ne_one, Nat.reduceEqDiff, not_true_eq_false, not_false_eq_true, Nat.le_refl, ng_le, ng_lt, ng_nle, ng_nlt, ng_eq, ng_eq2, Bool.false_eq_true, lit_nI, nI_add, pk_mul, nI_leI, nI_ltI, nI_eq, x_noSort hS hW.1 hs, s0i, a1, or_true]) (by simp (config := { maxSteps := 2000000 }) (disch := omega) only [f167, f167_J57, ux_at, ux_kk, ux_jo, gIm, pIm, pZm, gRm, aIm, sIm, aBm, sBm, gLm, pLm, clm, wshS, obS, reduceIte, Nat.one_ne_zero, Nat.zero_ne_one, Nat.reduceEqDiff, not_true_eq_false, not_false_eq_true, Nat.le_refl, ng_le, ng_lt, ng_nle, ng_nlt, ng_eq, ng_eq2, Bool.false_eq_true, lit_nI, nI_add, pk_mul, nI_leI, nI_ltI, nI_eq, lit_lN, s121 hM hW.1 hs, s40i, a2])
      · refine way_ok hI hs (wayOk_p hu) ?_ fun I1 hM1 => ?_
        · simp (config := { maxSteps := 2000000 }) (disch := omega) only [f146, f94, f95, ux_at, ux_kk, ux_jo, gIx, pIx, pZx, gRx, aIx, sIx, aBx, sBx, lenx, clx, wshS, obS, reduceIte, Nat.one_ne_zero, Nat.zero_ne_one, Nat.reduceEqDiff, not_true_eq_false, not_false_eq_true, Nat.le_refl, ng_le, ng_lt, ng_nle, ng_nlt, ng_eq, ng_eq2, Bool.false_eq_true, lit_nI, nI_add, pk_mul, nI_leI, nI_ltI, nI_eq, x_noSort hS hW.1 hs, s0i, s0p hu, x_wayOf, w1, true_or]
        · simp (config := { maxSteps := 2000000 }) (disch := omega) only [f167, f167_J57, ux_at, ux_kk, ux_jo, gIm, pIm, pZm, gRm, aIm, sIm, aBm, sBm, gLm, pLm, clm, wshS, obS, reduceIte, Nat.one_ne_zero, Nat.zero_ne_one, Nat.reduceEqDiff, not_true_eq_false, not_false_eq_true, Nat.le_refl, ng_le, ng_lt, ng_nle, ng_nlt, ng_eq, ng_eq2, Bool.false_eq_true, lit_nI, nI_add, pk_mul, nI_leI, nI_ltI, nI_eq, lit_lN, s121 hM1 hW.1 hs, s40i, s40p hu, mcA hM1]
    · by_cases hz : z = nI 0
      · subst hz
        have hw : wayOk (nI j) (nI 0) := by
          rcases (show j = 0 ∨ j = 1 ∨ j = 3 by omega) with rfl | rfl | rfl
          · exact Or.inl ⟨rfl, rfl⟩
          · exact Or.inr (Or.inl ⟨rfl, rfl⟩)
          · exact Or.inr (Or.inr (Or.inr (Or.inl ⟨rfl, rfl⟩)))
        refine way_ok hI hs hw ?_ fun I1 hM1 => ?_
        · simp (config := { maxSteps := 2000000 }) (disch := omega) only [f146, f94, f95, ux_at, ux_kk, ux_jo, gIx, pIx, pZx, gRx, aIx, sIx, aBx, sBx, lenx, clx, wshS, obS, reduceIte, Nat.one_ne_zero, Nat.zero_ne_one, Nat.reduceEqDiff, not_true_eq_false, not_false_eq_true, Nat.le_refl, ng_le, ng_lt, ng_nle, ng_nlt, ng_eq, ng_eq2, Bool.false_eq_true, lit_nI, nI_add, pk_mul, nI_leI, nI_ltI, nI_eq, x_noSort hS hW.1 hs, s0i, j2, j4, x_wayOf, w1]
        · simp (config := { maxSteps := 2000000 }) (disch := omega) only [f167, f167_J57, ux_at, ux_kk, ux_jo, gIm, pIm, pZm, gRm, aIm, sIm, aBm, sBm, gLm, pLm, clm, wshS, obS, reduceIte, Nat.one_ne_zero, Nat.zero_ne_one, Nat.reduceEqDiff, not_true_eq_false, not_false_eq_true, Nat.le_refl, ng_le, ng_lt, ng_nle, ng_nlt, ng_eq, ng_eq2, Bool.false_eq_true, lit_nI, nI_add, pk_mul, nI_leI, nI_ltI, nI_eq, lit_lN, s121 hM1 hW.1 hs, s40i, j2, j4, mcA hM1]
      · exact STEP.same hI (v := -nI 1000002) (by simp (config := { maxSteps := 2000000 }) (disch := omega) only [f146, f94, ux_at, ux_kk, ux_jo, gIx, pIx, pZx, gRx, aIx, sIx, aBx, sBx, lenx, clx, wshS, obS, reduceIte, Nat.one_ne_zero, Nat.zero_ne_one, Nat.reduceEqDiff, not_true_eq_false, not_false_eq_true, Nat.le_refl, ng_le, ng_lt, ng_nle, ng_nlt, ng_eq, ng_eq2, Bool.false_eq_true, lit_nI, nI_add, pk_mul, nI_leI, nI_ltI, nI_eq, x_noSort hS hW.1 hs, s0i, j2, j4, hz]) (by simp (config := { maxSteps := 2000000 }) (disch := omega) only [f167, f167_J57, ux_at, ux_kk, ux_jo, gIm, pIm, pZm, gRm, aIm, sIm, aBm, sBm, gLm, pLm, clm, wshS, obS, reduceIte, Nat.one_ne_zero, Nat.zero_ne_one, Nat.reduceEqDiff, not_true_eq_false, not_false_eq_true, Nat.le_refl, ng_le, ng_lt, ng_nle, ng_nlt, ng_eq, ng_eq2, Bool.false_eq_true, lit_nI, nI_add, pk_mul, nI_leI, nI_ltI, nI_eq, lit_lN, s121 hM hW.1 hs, s40i, j2, j4, hz])
end
