/-! BOTH TOGETHER: rule, the call -/
theorem ru_same {A I2 : St} {r : Nat} (e : ∀ q, q < 5 → I2 84 (5 * r + q) = A 84 (5 * r + q)) (h : ruleOk (ruRow A r)) : ruleOk (ruRow I2 r) ∧ ∀ q, q < 5 → ruN I2 r q = ruN A r q := by
  have e2 : ∀ q, q < 5 → ruRow I2 r q = ruRow A r q := fun q hq => e q hq
  constructor
  · unfold ruleOk at h ⊢
    rw [e2 0 (by decide), e2 1 (by decide), e2 2 (by decide), e2 3 (by decide), e2 4 (by decide)]
    exact h
  · intro q hq
    unfold ruN
    rw [e2 3 (by decide), e2 q hq]
theorem ru_new {I2 : St} {r k : Nat} (e : ∀ q, q < 5 → I2 k q = I2 84 (5 * r + q)) (h : ruleOk (ruRow I2 r)) : RX I2 k (ruN I2 r) := by
  obtain ⟨ρ, h1, h2, h3, h4, h5, h6, h7⟩ := ruN_ok h
  have er : ρ = ruN I2 r := funext h1
  rw [er] at h3 h4 h5 h6 h7
  unfold RX
  rw [e 0 (by decide), e 1 (by decide), e 2 (by decide), e 3 (by decide), e 4 (by decide)]
  exact ⟨h3, h4, h5, h6, h7⟩
theorem rv_ok {J I2 : St} {r : Nat} (hV : RvK J) (e : ∀ q, q < 5 → I2 84 (5 * r + q) = J 33 q) : ruleOk (ruRow I2 r) := by
  have e2 : ∀ q, q < 5 → ruRow I2 r q = J 33 q := fun q hq => e q hq
  have em : -nI 1 = (-1 : Int32) := by decide +kernel
  unfold ruleOk
  rw [e2 0 (by decide), e2 1 (by decide), e2 2 (by decide), e2 3 (by decide), e2 4 (by decide), ← em]
  exact hV
abbrev rlK : List Nat := [1, 33, 29, 30, 31, 32, 0, 84]
abbrev rlF : List Nat := [15, 16, 17, 19, 20, 21, 37]
section
variable {I J A : St} {L : Lt} {ru n : Nat}
theorem inv_rule (hI : INV I A) {I2 : St} {nr : Nat} (f3 : Fr rlK rlF I I2) (h15 : I2 67 15 = nI 0) (h16 : I2 1 5 = I2 67 16) (x1 : I2 1 1 = nI 0) (hn4 : nr ≤ 4) (h37 : I2 67 37 = nI nr) (hx : I2 0 6 = nI nr) (hr : ∀ r, r < nr → ruleOk (ruRow I2 r) ∧ RX I2 (29 + r) (ruN I2 r)) : INV I2 I2 := by
  have hI9 := hI
  obtain ⟨hM, hW, hC, hX, ⟨hS, hH, hR, hT, hL, hG⟩, sd, hsd, hs1, hs2⟩ := hI9
  have h6 := ns6 hW.1
  have h7 := p2_le (nsN A) (by omega)
  have h4 := nr4 hW
  have g := agw_of hM f3 (by decide) (by decide) (by decide)
  have e56 := mc_f hM f3 (by decide) (j := 56) (by decide) (by decide)
  have kl := mc_k hM f3 (k := 90) (by decide) (by decide)
  have ki := mc_k hM f3 (k := 93) (by decide) (by decide)
  have kk := mc_k hM f3 (k := 94) (by decide) (by decide)
  have s60 : I2 67 60 = nI sd := (f3.f (by decide) (by decide)).trans hs1
  have s34 : I2 34 4 = nI sd := by rw [f3.at (by decide) (by decide)]; exact hs2
  have t2 : txN I2 = 0 := by
    unfold txN
    rw [h15]
    decide +kernel
  have enr : nrN I2 = nr := by
    unfold nrN
    rw [h37, nI_clamp (by omega)]
  refine ⟨MC.rf, ⟨ag_wf g.1 hW.1, wf_way g hW.2, ⟨by rw [h15, t2], by omega⟩, fun i hi => ?_, ⟨by rw [enr]; exact h37, by omega⟩, fun r hr2 => (hr r (by omega)).1, wf_lg e56 hW.2, ⟨sd, hsd, s60⟩, wf_im g.1 kk ki hW.2⟩, ag_ca g (hC.fr f3 (by decide) (by decide) (by decide)), ag_cx g (hX.fr f3 (by decide) (by decide)), ⟨ag_cs g.1 (hS.fr hW.1 f3 (by decide)), ag_ch g (hH.fr f3 (by decide) (by decide)), ⟨by rw [enr]; exact hx, fun r hr2 => (hr r (by omega)).2⟩, ⟨by rw [t2]; exact x1, h16, fun i hi => ?_⟩, cl_ag e56 kl (hL.of (by rw [f3.at (by decide) (by decide)]) (f3.at (by decide) (by decide))), ci_ag g.1 kk ki (hG.fr f3 (by decide))⟩, sd, hsd, s60, s34⟩
  · rw [t2] at hi
    exact absurd hi (Nat.not_lt_zero _)
  · rw [t2] at hi
    exact absurd hi (Nat.not_lt_zero _)
theorem x_becomeR {r : Nat} (hr : r < 4) : ∃ J', f17 (29 + r) 33 (mW J L ru) = some (mW J' L ru) ∧ Fr [29 + r] [] J J' ∧ ∀ q, q < 5 → J' (29 + r) q = J 33 q := by
  have nm : 29 + r ∈ [29 + r] := List.mem_singleton.mpr rfl
  refine ⟨u2 (u2 (u2 (u2 (u2 J (29 + r) 0 (J 33 0)) (29 + r) 1 (J 33 1)) (29 + r) 2 (J 33 2)) (29 + r) 3 (J 33 3)) (29 + r) 4 (J 33 4), ?_, ((((Fr.rf.u nm).u nm).u nm).u nm).u nm, fun q hq => ?_⟩
  · rcases (show r = 0 ∨ r = 1 ∨ r = 2 ∨ r = 3 by omega) with rfl | rfl | rfl | rfl
    · simp (config := { maxSteps := 2000000 }) (disch := omega) only [f17, ux_at, ux_kk, ux_jo, gIx, pIx, pZx, gRx, aIx, sIx, aBx, sBx, lenx, clx, wshS, obS, reduceIte, Nat.add_zero]
    · simp (config := { maxSteps := 2000000 }) (disch := omega) only [f17, ux_at, ux_kk, ux_jo, gIx, pIx, pZx, gRx, aIx, sIx, aBx, sBx, lenx, clx, wshS, obS, reduceIte, (by decide : 29 + 1 = 30)]
    · simp (config := { maxSteps := 2000000 }) (disch := omega) only [f17, ux_at, ux_kk, ux_jo, gIx, pIx, pZx, gRx, aIx, sIx, aBx, sBx, lenx, clx, wshS, obS, reduceIte, (by decide : 29 + 2 = 31)]
    · simp (config := { maxSteps := 2000000 }) (disch := omega) only [f17, ux_at, ux_kk, ux_jo, gIx, pIx, pZx, gRx, aIx, sIx, aBx, sBx, lenx, clx, wshS, obS, reduceIte, (by decide : 29 + 3 = 32)]
  · rcases (show q = 0 ∨ q = 1 ∨ q = 2 ∨ q = 3 ∨ q = 4 by omega) with rfl | rfl | rfl | rfl | rfl
    · simp (disch := decide) only [ux_at, ux_jo]
    · simp (disch := decide) only [ux_at, ux_jo]
    · simp (disch := decide) only [ux_at, ux_jo]
    · simp (disch := decide) only [ux_at, ux_jo]
    · simp (disch := decide) only [ux_at, ux_jo]
theorem q_rule (hI : INV I A) (hn : 1000 < n) : STEP I L ru (f233 n 0) (f213 n 67) := by
  have hI0 := hI
  have hI9 := hI
  obtain ⟨hM, hW, hC, hX, ⟨hS, hH, hR, hT, hL, hG⟩, sd, hsd, hs1, hs2⟩ := hI9
  have h6 := ns6 hW.1
  have h7 := p2_le (nsN A) (by omega)
  have h4 := nr4 hW
  have hTl := hT.1
  have hRc := hR.1
  have t15 : I 67 15 = nI (txN A) := (hM.1 15 (by decide)).trans hW.2.2.1.1
  have t37 : I 67 37 = nI (nrN A) := (hM.1 37 (by decide)).trans hW.2.2.2.2.1.1
  have htx := hW.2.2.1.2
  have hll := fun y => len_of (I := y) (L := L) (ru := ru) sh_28 (by decide)
  by_cases h80' : ¬ txN A ≤ 80
  · have h80 := h80'
    exact STEP.same hI (v := -nI 1000003) (by simp (config := { maxSteps := 2000000 }) (disch := omega) only [f233, ux_at, ux_kk, ux_jo, gIx, pIx, pZx, gRx, aIx, sIx, aBx, sBx, lenx, clx, wshS, obS, reduceIte, Nat.one_ne_zero, Nat.zero_ne_one, Nat.reduceEqDiff, not_true_eq_false, not_false_eq_true, Nat.le_refl, ng_le, ng_lt, ng_nle, ng_nlt, ng_eq, ng_eq2, Bool.false_eq_true, lit_nI, nI_add, pk_mul, nI_leI, nI_ltI, nI_eq, hTl, h80]) (by simp (config := { maxSteps := 2000000 }) (disch := omega) only [f213, ux_at, ux_kk, ux_jo, gIm, pIm, pZm, gRm, aIm, sIm, aBm, sBm, gLm, pLm, clm, wshS, obS, reduceIte, Nat.one_ne_zero, Nat.zero_ne_one, Nat.reduceEqDiff, not_true_eq_false, not_false_eq_true, Nat.le_refl, ng_le, ng_lt, ng_nle, ng_nlt, ng_eq, ng_eq2, Bool.false_eq_true, lit_nI, nI_add, pk_mul, nI_leI, nI_ltI, nI_eq, t15, h80])
  have h80 : txN A ≤ 80 := Nat.not_lt.mp fun z => h80' (Nat.not_le.mpr z)
  by_cases hr4'' : ¬ nrN A < 4
  · have h4' : nrN A = 4 := by omega
    rw [h4'] at hRc t37
    exact STEP.same hI (v := -nI 1000004) (by simp (config := { maxSteps := 2000000 }) (disch := omega) only [f233, ux_at, ux_kk, ux_jo, gIx, pIx, pZx, gRx, aIx, sIx, aBx, sBx, lenx, clx, wshS, obS, reduceIte, Nat.one_ne_zero, Nat.zero_ne_one, Nat.reduceEqDiff, not_true_eq_false, not_false_eq_true, Nat.le_refl, ng_le, ng_lt, ng_nle, ng_nlt, ng_eq, ng_eq2, Bool.false_eq_true, lit_nI, nI_add, pk_mul, nI_leI, nI_ltI, nI_eq, hTl, h80, hRc]) (by simp (config := { maxSteps := 2000000 }) (disch := omega) only [f213, ux_at, ux_kk, ux_jo, gIm, pIm, pZm, gRm, aIm, sIm, aBm, sBm, gLm, pLm, clm, wshS, obS, reduceIte, Nat.one_ne_zero, Nat.zero_ne_one, Nat.reduceEqDiff, not_true_eq_false, not_false_eq_true, Nat.le_refl, ng_le, ng_lt, ng_nle, ng_nlt, ng_eq, ng_eq2, Bool.false_eq_true, lit_nI, nI_add, pk_mul, nI_leI, nI_ltI, nI_eq, t15, h80, t37])
  have hr4 : nrN A < 4 := Nat.not_le.mp fun z => hr4'' (Nat.not_lt.mpr z)
  have hr4' : ¬ 4 ≤ nrN A := by omega
  have hr4e : ¬ nrN A = 4 := by omega
  have hT2 := txT_lt A
  have g0 : Fr [1] [] I (u2 (u2 (u2 I 1 2 (nI 0)) 1 4 (nI 0)) 1 5 (-nI 1)) := ((Fr.rf.u (by decide)).u (by decide)).u (by decide)
  have x0 : XT (u2 (u2 (u2 I 1 2 (nI 0)) 1 4 (nI 0)) 1 5 (-nI 1)) (txT A) (txN A) := by
    obtain ⟨a1, a2, a3⟩ := xt_of hT hW
    refine ⟨(ux_j (by decide)).trans ((ux_j (by decide)).trans ((ux_j (by decide)).trans a1)), a2, fun i hi => ⟨(a3 i hi).1, ?_⟩⟩
    rw [g0.at (by decide) (by decide)]
    exact (a3 i hi).2
  have s0 : TS (u2 (u2 (u2 I 1 2 (nI 0)) 1 4 (nI 0)) 1 5 (-nI 1)) 0 (I 1 3) 0 (-nI 1) := ⟨(ux_j (by decide)).trans ((ux_j (by decide)).trans ux_at), (ux_j (by decide)).trans ((ux_j (by decide)).trans (ux_j (by decide))), (ux_j (by decide)).trans ux_at, ux_at⟩
  have eb : f2 1 (mW I L ru) = some (mW (u2 (u2 (u2 I 1 2 (nI 0)) 1 4 (nI 0)) 1 5 (-nI 1)) L ru) := by
    simp (config := { maxSteps := 2000000 }) (disch := omega) only [f2, ux_at, ux_kk, ux_jo, gIx, pIx, pZx, gRx, aIx, sIx, aBx, sBx, lenx, clx, wshS, obS, reduceIte, Nat.one_ne_zero, Nat.zero_ne_one, Nat.reduceEqDiff, not_true_eq_false, not_false_eq_true, Nat.le_refl, ng_le, ng_lt, ng_nle, ng_nlt, ng_eq, ng_eq2, Bool.false_eq_true, lit_nI, nI_add, pk_mul, nI_leI, nI_ltI, nI_eq]
  generalize u2 (u2 (u2 I 1 2 (nI 0)) 1 4 (nI 0)) 1 5 (-nI 1) = J0 at *
  obtain ⟨J1, f, p, hf, hp, e1, f1, xf, c0, c1, hRf⟩ := p_rule (L := L) (ru := ru) (W := A 84) hT2 hn hr4 ⟨x0, Nat.zero_le _, _, s0⟩
  have g2 : Fr spK [] I (u2 J1 1 1 (nI 0)) := ((g0.mono (by decide) (by decide)).tr f1).u (by decide)
  have xf2 : (u2 J1 1 1 (nI 0)) 1 4 = nI f := (ux_j (by decide)).trans xf
  have xl2 : (u2 J1 1 1 (nI 0)) 1 1 = nI 0 := ux_at
  have xa2 : (u2 J1 1 1 (nI 0)) 1 5 = J1 1 5 := ux_j (by decide)
  have sp2 : (u2 J1 1 1 (nI 0)) 33 = J1 33 := ux_kk (by decide)
  generalize hJ2 : u2 J1 1 1 (nI 0) = J2 at *
  have c2 : J2 0 6 = nI (nrN A) := by rw [g2.at (by decide) (by decide)]; exact hRc
  -- the reference, from any state behind the class
  have hM2 : ∀ J3, Fr [1, 33, 29, 30, 31, 32, 0] [] I J3 → ∃ I' L', f204 n 67 (mW (u2 (u2 J3 67 16 (-nI 1)) 67 17 (nI 0)) L ru) = some (nI f, mW I' L' ru) ∧ Fr ruK ruF J3 I' ∧ (f = 0 → I' 67 16 = -nI 1 ∧ RQ I' J1 (5 * nrN A) (A 84)) ∧ (f ≠ 0 → I' 67 16 = nI p) ∧ (∀ q, q < 5 * nrN A → I' 84 q = A 84 q) ∧ I' 67 37 = nI (nrN A) := by
    intro J3 g3
    have gm : Fr [] [16, 17] J3 (u2 (u2 J3 67 16 (-nI 1)) 67 17 (nI 0)) := (Fr.rf.uf (by decide)).uf (by decide)
    have hM3 := hM.fr g3 (by decide) (by decide) (by decide)
    have ms : MS (u2 (u2 J3 67 16 (-nI 1)) 67 17 (nI 0)) (txT A) (txN A) 0 := ⟨(mt_of hM3 hW).fr gm (by decide) (by decide) (by decide), ux_at, (ux_j (by decide)).trans ux_at⟩
    have r37 : (u2 (u2 J3 67 16 (-nI 1)) 67 17 (nI 0)) 67 37 = nI (nrN A) := (gm.f (by decide) (by decide)).trans ((hM3.1 37 (by decide)).trans hW.2.2.2.2.1.1)
    have r84 : (u2 (u2 J3 67 16 (-nI 1)) 67 17 (nI 0)) 84 = A 84 := (gm.at (by decide) (by decide)).trans (hM3.2 _ (by decide))
    obtain ⟨I', L', m1, m2, m3, m4, m5⟩ := hRf _ L ru ms r37 (fun q _ => by rw [r84])
    exact ⟨I', L', m1, (gm.mono (by decide) (by decide)).tr m2, m4, m5, fun q hq => by rw [m3 q hq, r84], (m2.f (by decide) (by decide)).trans r37⟩
  have old : ∀ I2 : St, (∀ q, q < 5 * nrN A → I2 84 q = A 84 q) → (∀ r, r < nrN A → I2 (29 + r) = I (29 + r)) → ∀ r, r < nrN A → ruleOk (ruRow I2 r) ∧ RX I2 (29 + r) (ruN I2 r) := by
    intro I2 h1 h2 r hr
    obtain ⟨a1, a2⟩ := ru_same (A := A) (I2 := I2) (r := r) (fun q hq => h1 _ (by omega)) (hW.2.2.2.2.2.1 r hr)
    refine ⟨a1, ?_⟩
    have := hR.2 r hr
    unfold RX at this ⊢
    rw [h2 r hr, a2 0 (by decide), a2 1 (by decide), a2 2 (by decide), a2 3 (by decide), a2 4 (by decide)]
    exact this
  by_cases hf0 : f = 0
  · subst hf0
    obtain ⟨fa, hV⟩ := c0 rfl
    obtain ⟨J3, e3, f3, sp3⟩ := x_becomeR (J := J2) (L := L) (ru := ru) hr4
    have k3 : ∀ k, k ≠ 29 + nrN A → k ≠ 67 → J3 k = J2 k := fun k h1 h2 => f3.at (fun z => h1 (List.mem_singleton.mp z)) h2
    have c3 : J3 0 6 = nI (nrN A) := by rw [k3 0 (by omega) (by decide)]; exact c2
    have cl : (nwS (29 + nrN A)).map (fun q => q.1) = some 5 := by
      rcases (show nrN A = 0 ∨ nrN A = 1 ∨ nrN A = 2 ∨ nrN A = 3 by omega) with e | e | e | e
      · rw [e]; exact cls_of sh_29
      · rw [e]; exact cls_of sh_30
      · rw [e]; exact cls_of sh_31
      · rw [e]; exact cls_of sh_32
    have ex : f233 n 0 (mW I L ru) = some (nI (nrN A), mW (u2 J3 0 6 (nI (nrN A + 1))) L ru) := by
      simp (config := { maxSteps := 2000000 }) (disch := omega) only [f233, ux_at, ux_kk, ux_jo, gIx, pIx, pZx, gRx, aIx, sIx, aBx, sBx, lenx, clx, wshS, obS, reduceIte, Nat.one_ne_zero, Nat.zero_ne_one, Nat.reduceEqDiff, not_true_eq_false, not_false_eq_true, Nat.le_refl, ng_le, ng_lt, ng_nle, ng_nlt, ng_eq, ng_eq2, Bool.false_eq_true, lit_nI, nI_add, pk_mul, nI_leI, nI_ltI, nI_eq, hTl, h80, hRc, hr4', hr4, hll, eb, e1, hJ2, xf2, c2, ruleR, cl, e3, c3]
    have g3 : Fr [1, 33, 29, 30, 31, 32, 0] [] I (u2 J3 0 6 (nI (nrN A + 1))) := by
      refine ((g2.mono (by decide) (by decide)).tr (f3.mono (fun k hk => ?_) (by decide))).u (by decide)
      have hk := List.mem_singleton.mp hk
      subst hk
      rcases (show nrN A = 0 ∨ nrN A = 1 ∨ nrN A = 2 ∨ nrN A = 3 by omega) with e | e | e | e <;> rw [e] <;> decide
    obtain ⟨I', L', m1, m2, m3, m4, m5, m6⟩ := hM2 _ g3
    obtain ⟨m7, m8⟩ := m3 rfl
    have e4 : nI (nrN A + 1) - nI 1 = nI (nrN A) := by rw [pk_sub (by omega)]; rfl
    have em : f213 n 67 (mW (u2 J3 0 6 (nI (nrN A + 1))) L ru) = some (nI (nrN A), mW (u2 (u2 I' 67 15 (nI 0)) 67 37 (nI (nrN A + 1))) L' ru) := by
      have a15 : (u2 J3 0 6 (nI (nrN A + 1))) 67 15 = nI (txN A) := (g3.f (by decide) (by decide)).trans t15
      have a37 : (u2 J3 0 6 (nI (nrN A + 1))) 67 37 = nI (nrN A) := (g3.f (by decide) (by decide)).trans t37
      have a15' : J3 67 15 = nI (txN A) := Eq.trans (ux_k (by decide)).symm a15
      have a37' : J3 67 37 = nI (nrN A) := Eq.trans (ux_k (by decide)).symm a37
      simp (config := { maxSteps := 2000000 }) (disch := omega) only [f213, ux_at, ux_kk, ux_jo, gIm, pIm, pZm, gRm, aIm, sIm, aBm, sBm, gLm, pLm, clm, wshS, obS, reduceIte, Nat.one_ne_zero, Nat.zero_ne_one, Nat.reduceEqDiff, not_true_eq_false, not_false_eq_true, Nat.le_refl, ng_le, ng_lt, ng_nle, ng_nlt, ng_eq, ng_eq2, Bool.false_eq_true, lit_nI, nI_add, pk_mul, nI_leI, nI_ltI, nI_eq, a15', a37', h80, hr4e, m1, m6, e4]
    have f4 : Fr rlK rlF I (u2 (u2 I' 67 15 (nI 0)) 67 37 (nI (nrN A + 1))) := (((g3.mono (by decide) (by decide)).tr (m2.mono (by decide) (by decide))).uf (by decide)).uf (by decide)
    have xl4 : ∀ k, k ≠ 67 → k ≠ 84 → (u2 (u2 I' 67 15 (nI 0)) 67 37 (nI (nrN A + 1))) k = (u2 J3 0 6 (nI (nrN A + 1))) k := fun k h1 h2 => (ux_kk h1).trans ((ux_kk h1).trans (m2.at (fun z => h2 (List.mem_singleton.mp z)) h1))
    have m84 : (u2 (u2 I' 67 15 (nI 0)) 67 37 (nI (nrN A + 1))) 84 = I' 84 := (ux_kk (by decide)).trans (ux_kk (by decide))
    have m16 : (u2 (u2 I' 67 15 (nI 0)) 67 37 (nI (nrN A + 1))) 67 16 = -nI 1 := (ux_j (by decide)).trans ((ux_j (by decide)).trans m7)
    have m15 : (u2 (u2 I' 67 15 (nI 0)) 67 37 (nI (nrN A + 1))) 67 15 = nI 0 := (ux_j (by decide)).trans ux_at
    have m37 : (u2 (u2 I' 67 15 (nI 0)) 67 37 (nI (nrN A + 1))) 67 37 = nI (nrN A + 1) := ux_at
    generalize u2 (u2 I' 67 15 (nI 0)) 67 37 (nI (nrN A + 1)) = I2 at *
    have xt : I2 1 = J2 1 := (xl4 _ (by decide) (by decide)).trans ((ux_kk (by decide)).trans (k3 _ (by omega) (by decide)))
    have nw : ∀ q, q < 5 → I2 84 (5 * nrN A + q) = J1 33 q := fun q hq => by rw [m84]; exact m8.1 q hq
    refine ⟨_, _, _, L', ru, I2, ex, em, rfl, inv_rule hI0 (nr := nrN A + 1) f4 m15 (by rw [xt, xa2, fa, m16]) (by rw [xt]; exact xl2) (by omega) m37 (by rw [xl4 0 (by decide) (by decide)]; exact ux_at) fun r hr => ?_⟩
    by_cases e : r = nrN A
    · subst e
      have ok := rv_ok hV nw
      refine ⟨ok, ru_new (fun q hq => ?_) ok⟩
      rw [nw q hq, xl4 _ (by omega) (by omega), ux_kk (by omega), sp3 q hq, sp2]
    · refine old I2 (fun q hq => by rw [m84]; exact m5 q hq) (fun r' hr' => ?_) r (by omega)
      rw [xl4 _ (by omega) (by omega), ux_kk (by omega), k3 _ (by omega) (by omega)]
      exact g2.at (by simp; omega) (by omega)
  · obtain ⟨I', L', m1, m2, m3, m4, m5, m6⟩ := hM2 J2 (g2.mono (by decide) (by decide))
    have h0 : ¬ f ≤ 0 := Nat.not_le_of_gt (Nat.pos_of_ne_zero hf0)
    have a15 : J2 67 15 = nI (txN A) := (g2.f (by decide) (by decide)).trans t15
    have a37 : J2 67 37 = nI (nrN A) := (g2.f (by decide) (by decide)).trans t37
    have ex : f233 n 0 (mW I L ru) = some (-nI 10 - nI f, mW J2 L ru) := by
      simp (config := { maxSteps := 2000000 }) (disch := omega) only [f233, ux_at, ux_kk, ux_jo, gIx, pIx, pZx, gRx, aIx, sIx, aBx, sBx, lenx, clx, wshS, obS, reduceIte, Nat.one_ne_zero, Nat.zero_ne_one, Nat.reduceEqDiff, not_true_eq_false, not_false_eq_true, Nat.le_refl, ng_le, ng_lt, ng_nle, ng_nlt, ng_eq, ng_eq2, Bool.false_eq_true, lit_nI, nI_add, pk_mul, nI_leI, nI_ltI, nI_eq, hTl, h80, hRc, hr4', hr4, hll, eb, e1, hJ2, xf2, hf0]
    have em : f213 n 67 (mW J2 L ru) = some (-nI 10 - nI f, mW (u2 I' 67 15 (nI 0)) L' ru) := by
      simp (config := { maxSteps := 2000000 }) (disch := omega) only [f213, ux_at, ux_kk, ux_jo, gIm, pIm, pZm, gRm, aIm, sIm, aBm, sBm, gLm, pLm, clm, wshS, obS, reduceIte, Nat.one_ne_zero, Nat.zero_ne_one, Nat.reduceEqDiff, not_true_eq_false, not_false_eq_true, Nat.le_refl, ng_le, ng_lt, ng_nle, ng_nlt, ng_eq, ng_eq2, Bool.false_eq_true, lit_nI, nI_add, pk_mul, nI_leI, nI_ltI, nI_eq, a15, a37, h80, hr4e, m1, h0]
    have f3 : Fr rlK rlF I (u2 I' 67 15 (nI 0)) := ((g2.mono (by decide) (by decide)).tr (m2.mono (by decide) (by decide))).uf (by decide)
    have xl3 : (u2 I' 67 15 (nI 0)) 1 = J2 1 := (ux_kk (by decide)).trans (m2.at (by decide) (by decide))
    have xl4 : ∀ k, k ≠ 67 → k ≠ 84 → (u2 I' 67 15 (nI 0)) k = J2 k := fun k h1 h2 => (ux_kk h1).trans (m2.at (fun z => h2 (List.mem_singleton.mp z)) h1)
    refine ⟨_, _, _, L', ru, u2 I' 67 15 (nI 0), ex, em, rfl, inv_rule hI0 (nr := nrN A) f3 ux_at ?_ (by rw [xl3]; exact xl2) (by omega) ((ux_j (by decide)).trans m6) (by rw [xl4 0 (by decide) (by decide)]; exact c2) (old _ (fun q hq => (ux_k (by decide)).trans (m5 q hq)) fun r hr => ?_)⟩
    · rw [xl3, xa2, c1 hf0]
      exact ((ux_j (by decide)).trans (m4 hf0)).symm
    · rw [xl4 _ (by omega) (by omega)]
      exact g2.at (by simp; omega) (by omega)
end
