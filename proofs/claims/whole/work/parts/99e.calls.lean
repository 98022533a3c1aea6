/-! BOTH TOGETHER: runs, the best course -/
theorem PK.fr {I I' A : St} (h : PK I A) {K F : List Nat} (f : Fr K F I I') (hk : 48 ∉ K) : PK I' A := fun p hp => by
  rw [f.at hk (by decide)]
  exact h p hp
section
variable {I A : St} {L : Lt} {ru n : Nat}
theorem rdn_of {S : Nat → Sh} {b G : Nat} (hp : PRD S b) (h : ∀ i, ¬ RDat S b G i) : RDn S b G := fun _ ht j z => h j (z.up hp ht)
theorem q_run (hI : INV I A) (x y : Int32) (hn : 1000 < n) : STEP I L ru (f234 n 0 x y) (f248 n 67 x y) := by
  have hI9 := hI
  obtain ⟨hM, hW, hC, hX, ⟨hS, hH, hR, hT, hL, hG⟩, sd, hsd, hs1, hs2⟩ := hI9
  have h6 := ns6 hW.1
  have h7 := p2_le (nsN A) (by omega)
  have h4 := nr4 hW
  rcases ixc x (n := nrN A) (by omega) with hx | ⟨r, hr, rfl⟩
  · exact STEP.same hI (v := -nI 1000001) (by simp (config := { maxSteps := 2000000 }) (disch := omega) only [f234, ux_at, ux_kk, ux_jo, gIx, pIx, pZx, gRx, aIx, sIx, aBx, sBx, lenx, clx, wshS, obS, reduceIte, Nat.one_ne_zero, Nat.zero_ne_one, Nat.reduceEqDiff, not_true_eq_false, not_false_eq_true, Nat.le_refl, ng_le, ng_lt, ng_nle, ng_nlt, ng_eq, ng_eq2, Bool.false_eq_true, lit_nI, nI_add, pk_mul, nI_leI, nI_ltI, nI_eq, x_noRuleo hR hW hx]) (by simp (config := { maxSteps := 2000000 }) (disch := omega) only [f248, ux_at, ux_kk, ux_jo, gIm, pIm, pZm, gRm, aIm, sIm, aBm, sBm, gLm, pLm, clm, wshS, obS, reduceIte, Nat.one_ne_zero, Nat.zero_ne_one, Nat.reduceEqDiff, not_true_eq_false, not_false_eq_true, Nat.le_refl, ng_le, ng_lt, ng_nle, ng_nlt, ng_eq, ng_eq2, Bool.false_eq_true, lit_nI, nI_add, pk_mul, nI_leI, nI_ltI, nI_eq, s126o hM hW.2 hx])
  rcases ixr y (a := 0) (b := 2) (by decide) (by decide) with hy | ⟨what, -, hw, rfl⟩
  · exact STEP.same hI (v := -nI 1000002) (by simp (config := { maxSteps := 2000000 }) (disch := omega) only [f234, ux_at, ux_kk, ux_jo, gIx, pIx, pZx, gRx, aIx, sIx, aBx, sBx, lenx, clx, wshS, obS, reduceIte, Nat.one_ne_zero, Nat.zero_ne_one, Nat.reduceEqDiff, not_true_eq_false, not_false_eq_true, Nat.le_refl, ng_le, ng_lt, ng_nle, ng_nlt, ng_eq, ng_eq2, Bool.false_eq_true, lit_nI, nI_add, pk_mul, nI_leI, nI_ltI, nI_eq, x_noRule hR hW hr, s0o hy]) (by simp (config := { maxSteps := 2000000 }) (disch := omega) only [f248, ux_at, ux_kk, ux_jo, gIm, pIm, pZm, gRm, aIm, sIm, aBm, sBm, gLm, pLm, clm, wshS, obS, reduceIte, Nat.one_ne_zero, Nat.zero_ne_one, Nat.reduceEqDiff, not_true_eq_false, not_false_eq_true, Nat.le_refl, ng_le, ng_lt, ng_nle, ng_nlt, ng_eq, ng_eq2, Bool.false_eq_true, lit_nI, nI_add, pk_mul, nI_leI, nI_ltI, nI_eq, lit_lN, s126 hM hW.2 hr, s40o (show 0 < 2 ^ 31 by decide) (show 2 < 2 ^ 31 by decide) hy])
  have hRK := (ruN_at hW.2 hr).1
  obtain ⟨o1, o2, o3⟩ := ship_ok hW.1
  obtain ⟨I1, e1, f1, c1, p1, j1⟩ := x_xsail (L := L) (ru := ru) (n := n) (hours := 400) hS hH hX hW (ruleRS r (by omega)) (hR.2 r hr) hRK (by decide) hn
  have hG4 := gonN_le A (shS A (ruN A r) (lagN A)) 400
  have hSo := shS_ok hW hr
  have hS1 := hS.fr hW.1 f1 (by decide)
  have st := struck_at j1 o3
  have hgo := j1.2.2.1
  have hp : PRD (shS A (ruN A r) (lagN A)) (prdN A) := rnS_per
  have r0 : rkN A (shS A (ruN A r) (lagN A) 0).1 = 0 := o3
  have hq : Fr qxK [] I I1 := f1.mono (by decide +kernel) (by decide)
  refine STEP.p hI (P := fun v => (what = 0 → v = strI A (shS A (ruN A r) (lagN A)) (gonN A (shS A (ruN A r) (lagN A)) 400)) ∧ (what ≠ 0 → rndI A (shS A (ruN A r) (lagN A)) (gonN A (shS A (ruN A r) (lagN A)) 400) what v)) (fun a b ha hb => by
    by_cases q : what = 0
    · exact (ha.1 q).trans (hb.1 q).symm
    · exact (ha.2 q).uniq (hb.2 q)) ?_ fun I2 L2 ru2 hM2 _ hC2 => ?_
  · obtain ⟨j, e2, h2⟩ := x_hoursRound (L := L) (ru := 29 + r) (n := n) hS1 hW.1 j1 hSo (fun t => rnS_lt t) (lag_ok hW.1) hG4 o3 (by omega)
    generalize hSd : shS A (ruN A r) (lagN A) = S at *
    generalize hGd : gonN A S 400 = G at *
    have hGne : rkN A (S G).1 = 1 → G ≠ 0 := fun z z2 => by
      rw [z2] at z
      omega
    rcases (show what = 0 ∨ what = 1 ∨ what = 2 by omega) with w | w | w
    · subst w
      rcases one_or (rk_le hW.1 (hSo G).1) with rk | rk
      · rw [rk] at st
        refine ⟨-nI 1, I1, L, 29 + r, ?_, hq, Or.inr ⟨c1, p1⟩, fun _ => ?_, fun z => absurd rfl z⟩
        · simp (config := { maxSteps := 2000000 }) (disch := omega) only [f234, ux_at, ux_kk, ux_jo, gIx, pIx, pZx, gRx, aIx, sIx, aBx, sBx, lenx, clx, wshS, obS, reduceIte, Nat.one_ne_zero, Nat.zero_ne_one, Nat.reduceEqDiff, not_true_eq_false, not_false_eq_true, Nat.le_refl, ng_le, ng_lt, ng_nle, ng_nlt, ng_eq, ng_eq2, Bool.false_eq_true, lit_nI, nI_add, pk_mul, nI_leI, nI_ltI, nI_eq, x_noRule hR hW hr, s0i, ruleR, e1, st]
        · unfold strI
          rw [if_neg (fun z => by have := z.2; omega)]
      · rw [rk] at st
        refine ⟨nI G, I1, L, 29 + r, ?_, hq, Or.inr ⟨c1, p1⟩, fun _ => ?_, fun z => absurd rfl z⟩
        · simp (config := { maxSteps := 2000000 }) (disch := omega) only [f234, ux_at, ux_kk, ux_jo, gIx, pIx, pZx, gRx, aIx, sIx, aBx, sBx, lenx, clx, wshS, obS, reduceIte, Nat.one_ne_zero, Nat.zero_ne_one, Nat.reduceEqDiff, not_true_eq_false, not_false_eq_true, Nat.le_refl, ng_le, ng_lt, ng_nle, ng_nlt, ng_eq, ng_eq2, Bool.false_eq_true, lit_nI, nI_add, pk_mul, nI_leI, nI_ltI, nI_eq, x_noRule hR hW hr, s0i, ruleR, e1, st, hgo]
        · unfold strI
          rw [if_pos ⟨hGne rk, rk⟩]
    all_goals
      rcases h2 with ⟨rfl, q⟩ | ⟨k1, k2, k3⟩
      · rw [Nat.zero_mul] at e2
        refine ⟨-nI 1, I1, L, 29 + r, ?_, hq, Or.inr ⟨c1, p1⟩, fun z => absurd z (by omega), fun _ => ?_⟩
        · subst w
          simp (config := { maxSteps := 2000000 }) (disch := omega) only [f234, ux_at, ux_kk, ux_jo, gIx, pIx, pZx, gRx, aIx, sIx, aBx, sBx, lenx, clx, wshS, obS, reduceIte, Nat.one_ne_zero, Nat.zero_ne_one, Nat.reduceEqDiff, not_true_eq_false, not_false_eq_true, Nat.le_refl, ng_le, ng_lt, ng_nle, ng_nlt, ng_eq, ng_eq2, Bool.false_eq_true, lit_nI, nI_add, pk_mul, nI_leI, nI_ltI, nI_eq, x_noRule hR hW hr, s0i, ruleR, e1, e2]
        · rcases q with q | ⟨q1, q2⟩
          · exact Or.inl ⟨⟨hGne q, q⟩, rfl⟩
          · exact Or.inr ⟨fun z => by have := z.2; omega, Or.inl ⟨rdn_of hp q2, rfl⟩⟩
      · have hd0 : 0 < j * prdN A := Nat.mul_pos k2.1 (prdN_pos A)
        have hd1 : ¬ j * prdN A = 0 := by omega
        have hd2 := k2.2.1
        obtain ⟨t, e3, t1, t2, t3, t4⟩ := x_firstRound (L := L) (ru := 29 + r) (n := n) j1 hSo (fun t => by rw [← hSd]; exact rnS_lt t) (lag_ok hW.1) hG4 hd0 hd2 k2.2.2 (by omega)
        refine ⟨if what = 1 then nI t else nI (j * prdN A), I1, L, 29 + r, ?_, hq, Or.inr ⟨c1, p1⟩, fun z => absurd z (by omega), fun _ => rnd_of hW.1 hp k1 k2 k3 t1 t2 t3 t4 rfl⟩
        subst w
        simp (config := { maxSteps := 2000000 }) (disch := omega) only [f234, ux_at, ux_kk, ux_jo, gIx, pIx, pZx, gRx, aIx, sIx, aBx, sBx, lenx, clx, wshS, obS, reduceIte, Nat.one_ne_zero, Nat.zero_ne_one, Nat.reduceEqDiff, not_true_eq_false, not_false_eq_true, Nat.le_refl, ng_le, ng_lt, ng_nle, ng_nlt, ng_eq, ng_eq2, Bool.false_eq_true, lit_nI, nI_add, pk_mul, nI_leI, nI_ltI, nI_eq, x_noRule hR hW hr, s0i, ruleR, e1, e2, e3, hd1]
  · obtain ⟨I3, v, e, q, a, b⟩ := m248 (L := L2) (ru := ru2) (n := n) hM2 hW hC2 hr hw (by omega)
    exact ⟨I3, v, e, q, a, b⟩
theorem q_at (hI : INV I A) (x y z : Int32) (hn : 1000 < n) : STEP I L ru (f235 n 0 x y z) (f249 n 67 x y z) := by
  have hI9 := hI
  obtain ⟨hM, hW, hC, hX, ⟨hS, hH, hR, hT, hL, hG⟩, sd, hsd, hs1, hs2⟩ := hI9
  have h6 := ns6 hW.1
  have h7 := p2_le (nsN A) (by omega)
  have h4 := nr4 hW
  rcases ixc x (n := nrN A) (by omega) with hx | ⟨r, hr, rfl⟩
  · exact STEP.same hI (v := -nI 1000001) (by simp (config := { maxSteps := 2000000 }) (disch := omega) only [f235, ux_at, ux_kk, ux_jo, gIx, pIx, pZx, gRx, aIx, sIx, aBx, sBx, lenx, clx, wshS, obS, reduceIte, Nat.one_ne_zero, Nat.zero_ne_one, Nat.reduceEqDiff, not_true_eq_false, not_false_eq_true, Nat.le_refl, ng_le, ng_lt, ng_nle, ng_nlt, ng_eq, ng_eq2, Bool.false_eq_true, lit_nI, nI_add, pk_mul, nI_leI, nI_ltI, nI_eq, x_noRuleo hR hW hx]) (by simp (config := { maxSteps := 2000000 }) (disch := omega) only [f249, ux_at, ux_kk, ux_jo, gIm, pIm, pZm, gRm, aIm, sIm, aBm, sBm, gLm, pLm, clm, wshS, obS, reduceIte, Nat.one_ne_zero, Nat.zero_ne_one, Nat.reduceEqDiff, not_true_eq_false, not_false_eq_true, Nat.le_refl, ng_le, ng_lt, ng_nle, ng_nlt, ng_eq, ng_eq2, Bool.false_eq_true, lit_nI, nI_add, pk_mul, nI_leI, nI_ltI, nI_eq, s126o hM hW.2 hx])
  rcases ixr y (a := 0) (b := 400) (by decide) (by decide) with hy | ⟨t, -, ht, rfl⟩
  · exact STEP.same hI (v := -nI 1000002) (by simp (config := { maxSteps := 2000000 }) (disch := omega) only [f235, ux_at, ux_kk, ux_jo, gIx, pIx, pZx, gRx, aIx, sIx, aBx, sBx, lenx, clx, wshS, obS, reduceIte, Nat.one_ne_zero, Nat.zero_ne_one, Nat.reduceEqDiff, not_true_eq_false, not_false_eq_true, Nat.le_refl, ng_le, ng_lt, ng_nle, ng_nlt, ng_eq, ng_eq2, Bool.false_eq_true, lit_nI, nI_add, pk_mul, nI_leI, nI_ltI, nI_eq, x_noRule hR hW hr, s0o hy]) (by simp (config := { maxSteps := 2000000 }) (disch := omega) only [f249, ux_at, ux_kk, ux_jo, gIm, pIm, pZm, gRm, aIm, sIm, aBm, sBm, gLm, pLm, clm, wshS, obS, reduceIte, Nat.one_ne_zero, Nat.zero_ne_one, Nat.reduceEqDiff, not_true_eq_false, not_false_eq_true, Nat.le_refl, ng_le, ng_lt, ng_nle, ng_nlt, ng_eq, ng_eq2, Bool.false_eq_true, lit_nI, nI_add, pk_mul, nI_leI, nI_ltI, nI_eq, lit_lN, s126 hM hW.2 hr, s40o (show 0 < 2 ^ 31 by decide) (show 400 < 2 ^ 31 by decide) hy])
  rcases ixr z (a := 0) (b := 1) (by decide) (by decide) with hz | ⟨what, -, hw, rfl⟩
  · exact STEP.same hI (v := -nI 1000002) (by simp (config := { maxSteps := 2000000 }) (disch := omega) only [f235, ux_at, ux_kk, ux_jo, gIx, pIx, pZx, gRx, aIx, sIx, aBx, sBx, lenx, clx, wshS, obS, reduceIte, Nat.one_ne_zero, Nat.zero_ne_one, Nat.reduceEqDiff, not_true_eq_false, not_false_eq_true, Nat.le_refl, ng_le, ng_lt, ng_nle, ng_nlt, ng_eq, ng_eq2, Bool.false_eq_true, lit_nI, nI_add, pk_mul, nI_leI, nI_ltI, nI_eq, x_noRule hR hW hr, s0i, s0o hz]) (by simp (config := { maxSteps := 2000000 }) (disch := omega) only [f249, ux_at, ux_kk, ux_jo, gIm, pIm, pZm, gRm, aIm, sIm, aBm, sBm, gLm, pLm, clm, wshS, obS, reduceIte, Nat.one_ne_zero, Nat.zero_ne_one, Nat.reduceEqDiff, not_true_eq_false, not_false_eq_true, Nat.le_refl, ng_le, ng_lt, ng_nle, ng_nlt, ng_eq, ng_eq2, Bool.false_eq_true, lit_nI, nI_add, pk_mul, nI_leI, nI_ltI, nI_eq, lit_lN, s126 hM hW.2 hr, s40i, s40o (show 0 < 2 ^ 31 by decide) (show 1 < 2 ^ 31 by decide) hz])
  have hRK := (ruN_at hW.2 hr).1
  obtain ⟨I1, e1, f1, c1, p1, j1⟩ := x_xsail (L := L) (ru := ru) (n := n) (hours := t) hS hH hX hW (ruleRS r (by omega)) (hR.2 r hr) hRK ht hn
  have hSo := shS_ok hW hr
  have hgo := j1.2.2.1
  have hGl := gonN_le A (shS A (ruN A r) (lagN A)) t
  have hq : Fr qxK [] I I1 := f1.mono (by decide +kernel) (by decide)
  refine STEP.q hI (v := atI (shS A (ruN A r) (lagN A)) (gonN A (shS A (ruN A r) (lagN A)) 400) t what) ⟨I1, L, 29 + r, ?_, hq, Or.inr ⟨c1, p1⟩⟩ fun I2 L2 ru2 hM2 _ hC2 => m249 hM2 hW hC2 hr ht hw (by omega)
  unfold atI
  by_cases q : gonN A (shS A (ruN A r) (lagN A)) t = t
  · rw [if_pos ((gonN_at ht).mp q)]
    have e2 := x_placeAt (L := L) (ru := 29 + r) (j := t) j1 hSo (by omega) (by omega)
    obtain ⟨q1, q2, -, -⟩ := hSo t
    have d1 : (8 * (shS A (ruN A r) (lagN A) t).1 + (shS A (ruN A r) (lagN A) t).2.1) / 8 = (shS A (ruN A r) (lagN A) t).1 := by omega
    have d2 : (8 * (shS A (ruN A r) (lagN A) t).1 + (shS A (ruN A r) (lagN A) t).2.1) % 8 = (shS A (ruN A r) (lagN A) t).2.1 := by omega
    rw [q] at hgo
    rcases (show what = 0 ∨ what = 1 by omega) with w | w
    · subst w
      simp (config := { maxSteps := 2000000 }) (disch := omega) only [f235, ux_at, ux_kk, ux_jo, gIx, pIx, pZx, gRx, aIx, sIx, aBx, sBx, lenx, clx, wshS, obS, reduceIte, Nat.one_ne_zero, Nat.zero_ne_one, Nat.reduceEqDiff, not_true_eq_false, not_false_eq_true, Nat.le_refl, ng_le, ng_lt, ng_nle, ng_nlt, ng_eq, ng_eq2, Bool.false_eq_true, lit_nI, nI_add, pk_mul, nI_leI, nI_ltI, nI_eq, x_noRule hR hW hr, s0i, ruleR, e1, hgo, e2, x_cellOf, d1]
    · subst w
      simp (config := { maxSteps := 2000000 }) (disch := omega) only [f235, ux_at, ux_kk, ux_jo, gIx, pIx, pZx, gRx, aIx, sIx, aBx, sBx, lenx, clx, wshS, obS, reduceIte, Nat.one_ne_zero, Nat.zero_ne_one, Nat.reduceEqDiff, not_true_eq_false, not_false_eq_true, Nat.le_refl, ng_le, ng_lt, ng_nle, ng_nlt, ng_eq, ng_eq2, Bool.false_eq_true, lit_nI, nI_add, pk_mul, nI_leI, nI_ltI, nI_eq, x_noRule hR hW hr, s0i, ruleR, e1, hgo, e2, x_headingOf, d2]
  · rw [if_neg (fun z => q ((gonN_at ht).mpr z))]
    have q2 : ¬ t ≤ gonN A (shS A (ruN A r) (lagN A)) t := by omega
    simp (config := { maxSteps := 2000000 }) (disch := omega) only [f235, ux_at, ux_kk, ux_jo, gIx, pIx, pZx, gRx, aIx, sIx, aBx, sBx, lenx, clx, wshS, obS, reduceIte, Nat.one_ne_zero, Nat.zero_ne_one, Nat.reduceEqDiff, not_true_eq_false, not_false_eq_true, Nat.le_refl, ng_le, ng_lt, ng_nle, ng_nlt, ng_eq, ng_eq2, Bool.false_eq_true, lit_nI, nI_add, pk_mul, nI_leI, nI_ltI, nI_eq, x_noRule hR hW hr, s0i, ruleR, e1, hgo, q2]
theorem q_comes (hI : INV I A) (x y : Int32) (hn : 1000 < n) : STEP I L ru (f236 n 0 x y) (f250 n 67 x y) := by
  have hI9 := hI
  obtain ⟨hM, hW, hC, hX, ⟨hS, hH, hR, hT, hL, hG⟩, sd, hsd, hs1, hs2⟩ := hI9
  have h6 := ns6 hW.1
  have h7 := p2_le (nsN A) (by omega)
  have h4 := nr4 hW
  rcases ixc x (n := nrN A) (by omega) with hx | ⟨r, hr, rfl⟩
  · exact STEP.same hI (v := -nI 1000001) (by simp (config := { maxSteps := 2000000 }) (disch := omega) only [f236, ux_at, ux_kk, ux_jo, gIx, pIx, pZx, gRx, aIx, sIx, aBx, sBx, lenx, clx, wshS, obS, reduceIte, Nat.one_ne_zero, Nat.zero_ne_one, Nat.reduceEqDiff, not_true_eq_false, not_false_eq_true, Nat.le_refl, ng_le, ng_lt, ng_nle, ng_nlt, ng_eq, ng_eq2, Bool.false_eq_true, lit_nI, nI_add, pk_mul, nI_leI, nI_ltI, nI_eq, x_noRuleo hR hW hx]) (by simp (config := { maxSteps := 2000000 }) (disch := omega) only [f250, ux_at, ux_kk, ux_jo, gIm, pIm, pZm, gRm, aIm, sIm, aBm, sBm, gLm, pLm, clm, wshS, obS, reduceIte, Nat.one_ne_zero, Nat.zero_ne_one, Nat.reduceEqDiff, not_true_eq_false, not_false_eq_true, Nat.le_refl, ng_le, ng_lt, ng_nle, ng_nlt, ng_eq, ng_eq2, Bool.false_eq_true, lit_nI, nI_add, pk_mul, nI_leI, nI_ltI, nI_eq, s126o hM hW.2 hx])
  rcases ixc y (n := 64) (by decide) with hy | ⟨c, hc, rfl⟩
  · exact STEP.same hI (v := -nI 1000001) (by simp (config := { maxSteps := 2000000 }) (disch := omega) only [f236, ux_at, ux_kk, ux_jo, gIx, pIx, pZx, gRx, aIx, sIx, aBx, sBx, lenx, clx, wshS, obS, reduceIte, Nat.one_ne_zero, Nat.zero_ne_one, Nat.reduceEqDiff, not_true_eq_false, not_false_eq_true, Nat.le_refl, ng_le, ng_lt, ng_nle, ng_nlt, ng_eq, ng_eq2, Bool.false_eq_true, lit_nI, nI_add, pk_mul, nI_leI, nI_ltI, nI_eq, x_noRule hR hW hr, x_noCello hy]) (by simp (config := { maxSteps := 2000000 }) (disch := omega) only [f250, ux_at, ux_kk, ux_jo, gIm, pIm, pZm, gRm, aIm, sIm, aBm, sBm, gLm, pLm, clm, wshS, obS, reduceIte, Nat.one_ne_zero, Nat.zero_ne_one, Nat.reduceEqDiff, not_true_eq_false, not_false_eq_true, Nat.le_refl, ng_le, ng_lt, ng_nle, ng_nlt, ng_eq, ng_eq2, Bool.false_eq_true, lit_nI, nI_add, pk_mul, nI_leI, nI_ltI, nI_eq, s126 hM hW.2 hr, s118o hy])
  have hRK := (ruN_at hW.2 hr).1
  obtain ⟨I1, e1, f1, c1, p1, j1⟩ := x_xsail (L := L) (ru := ru) (n := n) (hours := 400) hS hH hX hW (ruleRS r (by omega)) (hR.2 r hr) hRK (by decide) hn
  obtain ⟨v, e2, h2⟩ := x_firstAt (L := L) (ru := 29 + r) (n := n) j1 (shS_ok hW hr) hc (gonN_le _ _ _) (by omega)
  refine STEP.p hI (P := FST (fun t => (shS A (ruN A r) (lagN A) t).1 = c) (gonN A (shS A (ruN A r) (lagN A)) 400 + 1)) (fun a b ha hb => ha.uniq hb) ⟨v, I1, L, 29 + r, ?_, f1.mono (by decide +kernel) (by decide), Or.inr ⟨c1, p1⟩, h2⟩ fun I2 L2 ru2 hM2 _ hC2 => m250 hM2 hW hC2 hr hc (by omega)
  simp (config := { maxSteps := 2000000 }) (disch := omega) only [f236, ux_at, ux_kk, ux_jo, gIx, pIx, pZx, gRx, aIx, sIx, aBx, sBx, lenx, clx, wshS, obS, reduceIte, Nat.one_ne_zero, Nat.zero_ne_one, Nat.reduceEqDiff, not_true_eq_false, not_false_eq_true, Nat.le_refl, ng_le, ng_lt, ng_nle, ng_nlt, ng_eq, ng_eq2, Bool.false_eq_true, lit_nI, nI_add, pk_mul, nI_leI, nI_ltI, nI_eq, x_noRule hR hW hr, x_noCell, ruleR, e1, e2]
theorem x_heldTurn {t : Nat} (h : t < 40) : f107 34 (nI t) (mW I L ru) = some (I 37 t, mW I L ru) := by
  simp (config := { maxSteps := 2000000 }) (disch := omega) only [f107, ux_at, ux_kk, ux_jo, gIx, pIx, pZx, gRx, aIx, sIx, aBx, sBx, lenx, clx, wshS, obS, reduceIte, Nat.one_ne_zero, Nat.zero_ne_one, Nat.reduceEqDiff, not_true_eq_false, not_false_eq_true, Nat.le_refl, ng_le, ng_lt, ng_nle, ng_nlt, ng_eq, ng_eq2, Bool.false_eq_true, lit_nI, nI_add, pk_mul, nI_leI, nI_ltI, nI_eq, s0i]
theorem q_judge (hI : INV I A) (x : Int32) (hn : 1000 < n) : STEP I L ru (f237 n 0 x) (f251 n 67 x) := by
  have hI9 := hI
  obtain ⟨hM, hW, hC, hX, ⟨hS, hH, hR, hT, hL, hG⟩, sd, hsd, hs1, hs2⟩ := hI9
  have h6 := ns6 hW.1
  have h7 := p2_le (nsN A) (by omega)
  have h4 := nr4 hW
  rcases ixc x (n := nrN A) (by omega) with hx | ⟨r, hr, rfl⟩
  · exact STEP.same hI (v := -nI 1000001) (by simp (config := { maxSteps := 2000000 }) (disch := omega) only [f237, ux_at, ux_kk, ux_jo, gIx, pIx, pZx, gRx, aIx, sIx, aBx, sBx, lenx, clx, wshS, obS, reduceIte, Nat.one_ne_zero, Nat.zero_ne_one, Nat.reduceEqDiff, not_true_eq_false, not_false_eq_true, Nat.le_refl, ng_le, ng_lt, ng_nle, ng_nlt, ng_eq, ng_eq2, Bool.false_eq_true, lit_nI, nI_add, pk_mul, nI_leI, nI_ltI, nI_eq, x_noRuleo hR hW hx]) (by simp (config := { maxSteps := 2000000 }) (disch := omega) only [f251, ux_at, ux_kk, ux_jo, gIm, pIm, pZm, gRm, aIm, sIm, aBm, sBm, gLm, pLm, clm, wshS, obS, reduceIte, Nat.one_ne_zero, Nat.zero_ne_one, Nat.reduceEqDiff, not_true_eq_false, not_false_eq_true, Nat.le_refl, ng_le, ng_lt, ng_nle, ng_nlt, ng_eq, ng_eq2, Bool.false_eq_true, lit_nI, nI_add, pk_mul, nI_leI, nI_ltI, nI_eq, s126o hM hW.2 hx])
  have hRK := (ruN_at hW.2 hr).1
  have hlg := hW.2.2.2.2.2.2.1.2
  obtain ⟨I1, e1, f1, c1, p1, j1⟩ := x_xsail (L := L) (ru := ru) (n := n) (hours := lgN A) hS hH hX hW (ruleRS r (by omega)) (hR.2 r hr) hRK (by omega) hn
  have hgo := j1.2.2.1
  have hGl := gonN_le A (shS A (ruN A r) (lagN A)) (lgN A)
  have hq : Fr qxK [] I I1 := f1.mono (by decide +kernel) (by decide)
  have l1 : I1 34 3 = nI (lgN A) := by rw [f1.at (by decide) (by decide)]; exact hL.1
  have l2 : ∀ i, i < lgN A → I1 37 i = A 90 i := by rw [f1.at (by decide) (by decide)]; exact hL.2
  have key : ∃ v, f237_H31 n (fun w => some ((-1 : Int32), w)) n 0 (nI 0) (mW I1 L (29 + r)) = some (v, mW I1 L (29 + r)) ∧ FST (fun t => gonN A (shS A (ruN A r) (lagN A)) (lgN A) ≤ t ∨ ¬ tI (rnT A (ruN A r) (lagN A) (shN A) (hdN A) t) = A 90 t) (lgN A) v := by
    refine lpP (F := fun k t (_ : Unit) => f237_H31 n (fun w => some ((-1 : Int32), w)) k 0 (nI t) (mW I1 L (29 + r))) (P := fun y => ∃ v, y = some (v, mW I1 L (29 + r)) ∧ FST (fun t => gonN A (shS A (ruN A r) (lagN A)) (lgN A) ≤ t ∨ ¬ tI (rnT A (ruN A r) (lagN A) (shN A) (hdN A) t) = A 90 t) (lgN A) v) (J := fun t _ => ∀ u, u < t → ¬ (gonN A (shS A (ruN A r) (lagN A)) (lgN A) ≤ u ∨ ¬ tI (rnT A (ruN A r) (lagN A) (shN A) (hdN A) u) = A 90 u)) (lgN A) ?_ ?_ n 0 () (by omega) (by omega) (fun u hu => absurd hu (Nat.not_lt_zero _))
    · intro k _ hJ
      simp (config := { maxSteps := 2000000 }) (disch := omega) only [f237_H31, ux_at, ux_kk, ux_jo, gIx, pIx, pZx, gRx, aIx, sIx, aBx, sBx, lenx, clx, wshS, obS, reduceIte, Nat.one_ne_zero, Nat.zero_ne_one, Nat.reduceEqDiff, not_true_eq_false, not_false_eq_true, Nat.le_refl, ng_le, ng_lt, ng_nle, ng_nlt, ng_eq, ng_eq2, Bool.false_eq_true, lit_nI, nI_add, pk_mul, nI_leI, nI_ltI, nI_eq, l1]
      exact ⟨_, rfl, Or.inr ⟨hJ, rfl⟩⟩
    · intro k t _ ht hJ ih
      have ht2 : ¬ lgN A ≤ t := by omega
      have e3 := x_heldTurn (I := I1) (L := L) (ru := 29 + r) (t := t) (by omega)
      rw [l2 t ht] at e3
      by_cases q : gonN A (shS A (ruN A r) (lagN A)) (lgN A) ≤ t
      · simp (config := { maxSteps := 2000000 }) (disch := omega) only [f237_H31, ux_at, ux_kk, ux_jo, gIx, pIx, pZx, gRx, aIx, sIx, aBx, sBx, lenx, clx, wshS, obS, reduceIte, Nat.one_ne_zero, Nat.zero_ne_one, Nat.reduceEqDiff, not_true_eq_false, not_false_eq_true, Nat.le_refl, ng_le, ng_lt, ng_nle, ng_nlt, ng_eq, ng_eq2, Bool.false_eq_true, lit_nI, nI_add, pk_mul, nI_leI, nI_ltI, nI_eq, l1, ht2, hgo, q]
        exact ⟨_, rfl, Or.inl ⟨t, ht, Or.inl q, hJ, rfl⟩⟩
      · have e2 := x_turnAt (L := L) (ru := 29 + r) (j := t) j1 (by omega) (by omega)
        by_cases q2 : tI (rnT A (ruN A r) (lagN A) (shN A) (hdN A) t) = A 90 t
        · simp (config := { maxSteps := 2000000 }) (disch := omega) only [f237_H31, ux_at, ux_kk, ux_jo, gIx, pIx, pZx, gRx, aIx, sIx, aBx, sBx, lenx, clx, wshS, obS, reduceIte, Nat.one_ne_zero, Nat.zero_ne_one, Nat.reduceEqDiff, not_true_eq_false, not_false_eq_true, Nat.le_refl, ng_le, ng_lt, ng_nle, ng_nlt, ng_eq, ng_eq2, Bool.false_eq_true, lit_nI, nI_add, pk_mul, nI_leI, nI_ltI, nI_eq, l1, ht2, hgo, q, e2, e3, q2]
          refine ih () fun u hu => ?_
          by_cases e : u = t
          · rw [e]
            rintro (z | z)
            · exact q z
            · exact z q2
          · exact hJ u (by omega)
        · simp (config := { maxSteps := 2000000 }) (disch := omega) only [f237_H31, ux_at, ux_kk, ux_jo, gIx, pIx, pZx, gRx, aIx, sIx, aBx, sBx, lenx, clx, wshS, obS, reduceIte, Nat.one_ne_zero, Nat.zero_ne_one, Nat.reduceEqDiff, not_true_eq_false, not_false_eq_true, Nat.le_refl, ng_le, ng_lt, ng_nle, ng_nlt, ng_eq, ng_eq2, Bool.false_eq_true, lit_nI, nI_add, pk_mul, nI_leI, nI_ltI, nI_eq, l1, ht2, hgo, q, e2, e3, q2]
          exact ⟨_, rfl, Or.inl ⟨t, ht, Or.inr q2, hJ, rfl⟩⟩
  obtain ⟨v, e2, h2⟩ := key
  refine STEP.p hI (P := FST (fun t => gonN A (shS A (ruN A r) (lagN A)) 400 ≤ t ∨ ¬ tI (rnT A (ruN A r) (lagN A) (shN A) (hdN A) t) = A 90 t) (lgN A)) (fun a b ha hb => ha.uniq hb) ⟨v, I1, L, 29 + r, ?_, hq, Or.inr ⟨c1, p1⟩, h2.iff fun t ht => ?_⟩ fun I2 L2 ru2 hM2 _ hC2 => m251 hM2 hW hC2 hr (by omega)
  · simp (config := { maxSteps := 2000000 }) (disch := omega) only [f237, ux_at, ux_kk, ux_jo, gIx, pIx, pZx, gRx, aIx, sIx, aBx, sBx, lenx, clx, wshS, obS, reduceIte, Nat.one_ne_zero, Nat.zero_ne_one, Nat.reduceEqDiff, not_true_eq_false, not_false_eq_true, Nat.le_refl, ng_le, ng_lt, ng_nle, ng_nlt, ng_eq, ng_eq2, Bool.false_eq_true, lit_nI, nI_add, pk_mul, nI_leI, nI_ltI, nI_eq, x_noRule hR hW hr, ruleR, hL.1, e1]
    exact e2
  · have a1 := gonN_at (A := A) (S := shS A (ruN A r) (lagN A)) (t := t + 1) (M := lgN A) (by omega)
    have a2 := gonN_at (A := A) (S := shS A (ruN A r) (lagN A)) (t := t + 1) (M := 400) (by omega)
    have a3 : gonN A (shS A (ruN A r) (lagN A)) (lgN A) ≤ t ↔ gonN A (shS A (ruN A r) (lagN A)) 400 ≤ t := by
      constructor
      · intro z
        have : ¬ gonN A (shS A (ruN A r) (lagN A)) (t + 1) = t + 1 := fun z2 => by
          have := a1.mp z2
          omega
        have : ¬ t + 1 ≤ gonN A (shS A (ruN A r) (lagN A)) 400 := fun z2 => this (a2.mpr z2)
        omega
      · intro z
        have : ¬ gonN A (shS A (ruN A r) (lagN A)) (t + 1) = t + 1 := fun z2 => by
          have := a2.mp z2
          omega
        have : ¬ t + 1 ≤ gonN A (shS A (ruN A r) (lagN A)) (lgN A) := fun z2 => this (a1.mpr z2)
        omega
    rw [a3]
theorem q_value (hI : INV I A) (x y z : Int32) (hn : 1000 < n) : STEP I L ru (f238 n 0 x y z) (f252 n 67 x y z) := by
  have hI9 := hI
  obtain ⟨hM, hW, hC, hX, ⟨hS, hH, hR, hT, hL, hG⟩, sd, hsd, hs1, hs2⟩ := hI9
  have h6 := ns6 hW.1
  have h7 := p2_le (nsN A) (by omega)
  have h4 := nr4 hW
  rcases ixc x (n := nrN A) (by omega) with hx | ⟨r, hr, rfl⟩
  · exact STEP.same hI (v := -nI 1000001) (by simp (config := { maxSteps := 2000000 }) (disch := omega) only [f238, ux_at, ux_kk, ux_jo, gIx, pIx, pZx, gRx, aIx, sIx, aBx, sBx, lenx, clx, wshS, obS, reduceIte, Nat.one_ne_zero, Nat.zero_ne_one, Nat.reduceEqDiff, not_true_eq_false, not_false_eq_true, Nat.le_refl, ng_le, ng_lt, ng_nle, ng_nlt, ng_eq, ng_eq2, Bool.false_eq_true, lit_nI, nI_add, pk_mul, nI_leI, nI_ltI, nI_eq, x_noRuleo hR hW hx]) (by simp (config := { maxSteps := 2000000 }) (disch := omega) only [f252, ux_at, ux_kk, ux_jo, gIm, pIm, pZm, gRm, aIm, sIm, aBm, sBm, gLm, pLm, clm, wshS, obS, reduceIte, Nat.one_ne_zero, Nat.zero_ne_one, Nat.reduceEqDiff, not_true_eq_false, not_false_eq_true, Nat.le_refl, ng_le, ng_lt, ng_nle, ng_nlt, ng_eq, ng_eq2, Bool.false_eq_true, lit_nI, nI_add, pk_mul, nI_leI, nI_ltI, nI_eq, s126o hM hW.2 hx])
  rcases ixc y (n := 2 ^ nsN A) (by omega) with hy | ⟨m, hm, rfl⟩
  · exact STEP.same hI (v := -nI 1000001) (by simp (config := { maxSteps := 2000000 }) (disch := omega) only [f238, ux_at, ux_kk, ux_jo, gIx, pIx, pZx, gRx, aIx, sIx, aBx, sBx, lenx, clx, wshS, obS, reduceIte, Nat.one_ne_zero, Nat.zero_ne_one, Nat.reduceEqDiff, not_true_eq_false, not_false_eq_true, Nat.le_refl, ng_le, ng_lt, ng_nle, ng_nlt, ng_eq, ng_eq2, Bool.false_eq_true, lit_nI, nI_add, pk_mul, nI_leI, nI_ltI, nI_eq, x_noRule hR hW hr, x_noSeto hS hW.1 hy]) (by simp (config := { maxSteps := 2000000 }) (disch := omega) only [f252, ux_at, ux_kk, ux_jo, gIm, pIm, pZm, gRm, aIm, sIm, aBm, sBm, gLm, pLm, clm, wshS, obS, reduceIte, Nat.one_ne_zero, Nat.zero_ne_one, Nat.reduceEqDiff, not_true_eq_false, not_false_eq_true, Nat.le_refl, ng_le, ng_lt, ng_nle, ng_nlt, ng_eq, ng_eq2, Bool.false_eq_true, lit_nI, nI_add, pk_mul, nI_leI, nI_ltI, nI_eq, s126 hM hW.2 hr, s119o hM hW.1 hy])
  rcases ixr z (a := 1) (b := 24) (by decide) (by decide) with hz | ⟨t, ht1, ht, rfl⟩
  · exact STEP.same hI (v := -nI 1000002) (by simp (config := { maxSteps := 2000000 }) (disch := omega) only [f238, ux_at, ux_kk, ux_jo, gIx, pIx, pZx, gRx, aIx, sIx, aBx, sBx, lenx, clx, wshS, obS, reduceIte, Nat.one_ne_zero, Nat.zero_ne_one, Nat.reduceEqDiff, not_true_eq_false, not_false_eq_true, Nat.le_refl, ng_le, ng_lt, ng_nle, ng_nlt, ng_eq, ng_eq2, Bool.false_eq_true, lit_nI, nI_add, pk_mul, nI_leI, nI_ltI, nI_eq, x_noRule hR hW hr, x_noSet hS hW.1 hm, s0o hz]) (by simp (config := { maxSteps := 2000000 }) (disch := omega) only [f252, ux_at, ux_kk, ux_jo, gIm, pIm, pZm, gRm, aIm, sIm, aBm, sBm, gLm, pLm, clm, wshS, obS, reduceIte, Nat.one_ne_zero, Nat.zero_ne_one, Nat.reduceEqDiff, not_true_eq_false, not_false_eq_true, Nat.le_refl, ng_le, ng_lt, ng_nle, ng_nlt, ng_eq, ng_eq2, Bool.false_eq_true, lit_nI, nI_add, pk_mul, nI_leI, nI_ltI, nI_eq, s126 hM hW.2 hr, s119 hM hW.1 hm, s131o hz])
  have hRK := (ruN_at hW.2 hr).1
  obtain ⟨I1, e1, f1, c1, p1, j1⟩ := x_xsail (L := L) (ru := ru) (n := n) (hours := t) hS hH hX hW (ruleRS r (by omega)) (hR.2 r hr) hRK (by omega) hn
  have hGl := gonN_le A (shS A (ruN A r) (lagN A)) t
  have e2 := x_worthTo2 (L := L) (ru := 29 + r) (n := n) (m := m) (hours := t) (hS.fr hW.1 f1 (by decide)) hW.1 j1 (shS_ok hW hr) (by omega) (by omega) (by omega) (by omega)
  refine STEP.q hI (v := valI A m (shS A (ruN A r) (lagN A)) (gonN A (shS A (ruN A r) (lagN A)) t) t) ⟨I1, L, 29 + r, ?_, f1.mono (by decide +kernel) (by decide), Or.inr ⟨c1, p1⟩⟩ fun I2 L2 ru2 hM2 _ hC2 => m252 hM2 hW hC2 hr hm ht1 ht (by omega)
  simp (config := { maxSteps := 2000000 }) (disch := omega) only [f238, ux_at, ux_kk, ux_jo, gIx, pIx, pZx, gRx, aIx, sIx, aBx, sBx, lenx, clx, wshS, obS, reduceIte, Nat.one_ne_zero, Nat.zero_ne_one, Nat.reduceEqDiff, not_true_eq_false, not_false_eq_true, Nat.le_refl, ng_le, ng_lt, ng_nle, ng_nlt, ng_eq, ng_eq2, Bool.false_eq_true, lit_nI, nI_add, pk_mul, nI_leI, nI_ltI, nI_eq, x_noRule hR hW hr, x_noSet hS hW.1 hm, s0i, ruleR, e1, e2]
/-! as she likes -/
theorem x_optAny {r : Nat} (h : I 52 4 = nI 1) (p hour : Int32) : f200 n 52 p hour (mW I L r) = some (nI 7, mW I L r) := by
  simp (config := { maxSteps := 2000000 }) (disch := omega) only [f200, ux_at, ux_kk, ux_jo, gIx, pIx, pZx, gRx, aIx, sIx, aBx, sBx, lenx, clx, wshS, obS, reduceIte, Nat.one_ne_zero, Nat.zero_ne_one, Nat.reduceEqDiff, not_true_eq_false, not_false_eq_true, Nat.le_refl, ng_le, ng_lt, ng_nle, ng_nlt, ng_eq, ng_eq2, Bool.false_eq_true, lit_nI, nI_add, pk_mul, nI_leI, nI_ltI, nI_eq, h]
theorem opt_any (hW : WFs A) {r : Nat} : OPT A all7 n r (fun J => CS J A ∧ J 52 4 = nI 1) :=
  ⟨fun J h => h.1, fun J J' h f => ⟨h.1.fr hW f (by decide), by rw [f.at (by decide) (by decide)]; exact h.2⟩, fun J L h c hd hour _ _ _ => ⟨J, x_optAny h.2 _ _, Fr.rf, h, by show 7 < 8; decide, by show 7 ≠ 0; decide⟩⟩
theorem q_best (hI : INV I A) (x y z u : Int32) (hn : 1000 < n) : STEP I L ru (f222 n 0 x y z u) (f229 n 67 x y z u) := by
  have hI9 := hI
  obtain ⟨hM, hW, hC, hX, ⟨hS, hH, hR, hT, hL, hG⟩, sd, hsd, hs1, hs2⟩ := hI9
  have h6 := ns6 hW.1
  have h7 := p2_le (nsN A) (by omega)
  have h4 := nr4 hW
  rcases ixc x (n := 2 ^ nsN A) (by omega) with hx | ⟨m, hm, rfl⟩
  · exact STEP.same hI (v := -nI 1000001) (by simp (config := { maxSteps := 2000000 }) (disch := omega) only [f222, ux_at, ux_kk, ux_jo, gIx, pIx, pZx, gRx, aIx, sIx, aBx, sBx, lenx, clx, wshS, obS, reduceIte, Nat.one_ne_zero, Nat.zero_ne_one, Nat.reduceEqDiff, not_true_eq_false, not_false_eq_true, Nat.le_refl, ng_le, ng_lt, ng_nle, ng_nlt, ng_eq, ng_eq2, Bool.false_eq_true, lit_nI, nI_add, pk_mul, nI_leI, nI_ltI, nI_eq, x_noSeto hS hW.1 hx]) (by simp (config := { maxSteps := 2000000 }) (disch := omega) only [f229, ux_at, ux_kk, ux_jo, gIm, pIm, pZm, gRm, aIm, sIm, aBm, sBm, gLm, pLm, clm, wshS, obS, reduceIte, Nat.one_ne_zero, Nat.zero_ne_one, Nat.reduceEqDiff, not_true_eq_false, not_false_eq_true, Nat.le_refl, ng_le, ng_lt, ng_nle, ng_nlt, ng_eq, ng_eq2, Bool.false_eq_true, lit_nI, nI_add, pk_mul, nI_leI, nI_ltI, nI_eq, s119o hM hW.1 hx])
  rcases ixc y (n := 64) (by decide) with hy | ⟨c, hc, rfl⟩
  · exact STEP.same hI (v := -nI 1000001) (by simp (config := { maxSteps := 2000000 }) (disch := omega) only [f222, ux_at, ux_kk, ux_jo, gIx, pIx, pZx, gRx, aIx, sIx, aBx, sBx, lenx, clx, wshS, obS, reduceIte, Nat.one_ne_zero, Nat.zero_ne_one, Nat.reduceEqDiff, not_true_eq_false, not_false_eq_true, Nat.le_refl, ng_le, ng_lt, ng_nle, ng_nlt, ng_eq, ng_eq2, Bool.false_eq_true, lit_nI, nI_add, pk_mul, nI_leI, nI_ltI, nI_eq, x_noSet hS hW.1 hm, x_noCello hy]) (by simp (config := { maxSteps := 2000000 }) (disch := omega) only [f229, ux_at, ux_kk, ux_jo, gIm, pIm, pZm, gRm, aIm, sIm, aBm, sBm, gLm, pLm, clm, wshS, obS, reduceIte, Nat.one_ne_zero, Nat.zero_ne_one, Nat.reduceEqDiff, not_true_eq_false, not_false_eq_true, Nat.le_refl, ng_le, ng_lt, ng_nle, ng_nlt, ng_eq, ng_eq2, Bool.false_eq_true, lit_nI, nI_add, pk_mul, nI_leI, nI_ltI, nI_eq, s119 hM hW.1 hm, s118o hy])
  rcases ixc z (n := 8) (by decide) with hz | ⟨h, hh, rfl⟩
  · exact STEP.same hI (v := -nI 1000002) (by simp (config := { maxSteps := 2000000 }) (disch := omega) only [f222, ux_at, ux_kk, ux_jo, gIx, pIx, pZx, gRx, aIx, sIx, aBx, sBx, lenx, clx, wshS, obS, reduceIte, Nat.one_ne_zero, Nat.zero_ne_one, Nat.reduceEqDiff, not_true_eq_false, not_false_eq_true, Nat.le_refl, ng_le, ng_lt, ng_nle, ng_nlt, ng_eq, ng_eq2, Bool.false_eq_true, lit_nI, nI_add, pk_mul, nI_leI, nI_ltI, nI_eq, x_noSet hS hW.1 hm, x_noCell, x_noHeadingo hz]) (by simp (config := { maxSteps := 2000000 }) (disch := omega) only [f229, ux_at, ux_kk, ux_jo, gIm, pIm, pZm, gRm, aIm, sIm, aBm, sBm, gLm, pLm, clm, wshS, obS, reduceIte, Nat.one_ne_zero, Nat.zero_ne_one, Nat.reduceEqDiff, not_true_eq_false, not_false_eq_true, Nat.le_refl, ng_le, ng_lt, ng_nle, ng_nlt, ng_eq, ng_eq2, Bool.false_eq_true, lit_nI, nI_add, pk_mul, nI_leI, nI_ltI, nI_eq, s119 hM hW.1 hm, s118, s122o hz])
  rcases ixr u (a := 1) (b := 24) (by decide) (by decide) with hu | ⟨t, ht1, ht, rfl⟩
  · exact STEP.same hI (v := -nI 1000002) (by simp (config := { maxSteps := 2000000 }) (disch := omega) only [f222, ux_at, ux_kk, ux_jo, gIx, pIx, pZx, gRx, aIx, sIx, aBx, sBx, lenx, clx, wshS, obS, reduceIte, Nat.one_ne_zero, Nat.zero_ne_one, Nat.reduceEqDiff, not_true_eq_false, not_false_eq_true, Nat.le_refl, ng_le, ng_lt, ng_nle, ng_nlt, ng_eq, ng_eq2, Bool.false_eq_true, lit_nI, nI_add, pk_mul, nI_leI, nI_ltI, nI_eq, x_noSet hS hW.1 hm, x_noCell, x_noHeading, s0o hu]) (by simp (config := { maxSteps := 2000000 }) (disch := omega) only [f229, ux_at, ux_kk, ux_jo, gIm, pIm, pZm, gRm, aIm, sIm, aBm, sBm, gLm, pLm, clm, wshS, obS, reduceIte, Nat.one_ne_zero, Nat.zero_ne_one, Nat.reduceEqDiff, not_true_eq_false, not_false_eq_true, Nat.le_refl, ng_le, ng_lt, ng_nle, ng_nlt, ng_eq, ng_eq2, Bool.false_eq_true, lit_nI, nI_add, pk_mul, nI_leI, nI_ltI, nI_eq, s119 hM hW.1 hm, s118, s122, s131o hu])
  rcases one_or (rk_le hW.1 hc) with rk | rk
  · refine STEP.q hI (v := bvI A m t all7 t c h) ?_ fun I1 L1 ru1 hM1 _ hC1 => m229 hM1 hW hC1 hm hc hh rk ht1 ht (by omega)
    have f0 : Fr [52] [] I (u2 I 52 4 (nI 1)) := Fr.rf.u (by decide)
    obtain ⟨I1, L1, R, e1, f1, -, -, -, -⟩ := x_greatest (L := L) (n := n) (m := m) (h := h) (opt_any hW.1 (r := ru)) hW.1 (I := u2 I 52 4 (nI 1)) ⟨hS.fr hW.1 f0 (by decide), ux_at⟩ (by omega) hc hh rk ht1 ht hn
    have e8 : c * 8 = 8 * c := Nat.mul_comm _ _
    have fq := f0.mono (K' := qxK) (F' := []) (by decide +kernel) (by decide)
    refine ⟨I1, L1, ru, ?_, fq.tr (f1.mono (by decide +kernel) (by decide)), (hX.fr f0 (by decide) (by decide)).fr f1 (by decide) (by decide)⟩
    simp (config := { maxSteps := 2000000 }) (disch := omega) only [f222, f34, ux_at, ux_kk, ux_jo, gIx, pIx, pZx, gRx, aIx, sIx, aBx, sBx, lenx, clx, wshS, obS, reduceIte, Nat.one_ne_zero, Nat.zero_ne_one, Nat.reduceEqDiff, not_true_eq_false, not_false_eq_true, Nat.le_refl, ng_le, ng_lt, ng_nle, ng_nlt, ng_eq, ng_eq2, Bool.false_eq_true, lit_nI, nI_add, pk_mul, nI_leI, nI_ltI, nI_eq, x_noSet hS hW.1 hm, x_noCell, x_noHeading, s0i, x_isRock hS hW.1 hc, rk, e8, e1]
  · exact STEP.same hI (v := -nI 1000003) (by simp (config := { maxSteps := 2000000 }) (disch := omega) only [f222, ux_at, ux_kk, ux_jo, gIx, pIx, pZx, gRx, aIx, sIx, aBx, sBx, lenx, clx, wshS, obS, reduceIte, Nat.one_ne_zero, Nat.zero_ne_one, Nat.reduceEqDiff, not_true_eq_false, not_false_eq_true, Nat.le_refl, ng_le, ng_lt, ng_nle, ng_nlt, ng_eq, ng_eq2, Bool.false_eq_true, lit_nI, nI_add, pk_mul, nI_leI, nI_ltI, nI_eq, x_noSet hS hW.1 hm, x_noCell, x_noHeading, s0i, x_isRock hS hW.1 hc, rk]) (by simp (config := { maxSteps := 2000000 }) (disch := omega) only [f229, ux_at, ux_kk, ux_jo, gIm, pIm, pZm, gRm, aIm, sIm, aBm, sBm, gLm, pLm, clm, wshS, obS, reduceIte, Nat.one_ne_zero, Nat.zero_ne_one, Nat.reduceEqDiff, not_true_eq_false, not_false_eq_true, Nat.le_refl, ng_le, ng_lt, ng_nle, ng_nlt, ng_eq, ng_eq2, Bool.false_eq_true, lit_nI, nI_add, pk_mul, nI_leI, nI_ltI, nI_eq, s119 hM hW.1 hm, s118, s122, s131, mcA hM, wfA hW.1, rk])
/-- course: no such turn -/
theorem m230o (hM : MC I A) (hW : WF A) (hC : CA I A) {m t : Nat} {z : Int32} (hm : m < 2 ^ nsN A) (ht1 : 1 ≤ t) (ht2 : t ≤ 24) (hz : z < nI 0 ∨ nI t ≤ z) (hn : 600 < n) :
    ∃ I', f230 n 67 (nI m) (nI t) z (mW I L ru) = some (nI 9, mW I' L ru) ∧ Qm A I I' := by
  have h6 := ns6 hW.1
  have h7 := p2_le (nsN A) (by omega)
  obtain ⟨I1, e1, f1, b1⟩ := s215 (L := L) (ru := ru) (n := n) (m := m) (fr := 1) (mf := all7) hM hW.1 (Or.inl ⟨rfl, fun _ _ _ => rfl⟩) (by omega) ht1 ht2 hn
  have hM1 := hM.fr f1 (by decide) (by decide) (by decide)
  have key : f230_H44 n (fun w36 => some ((9 : Int32), w36)) n 67 (nI m) (nI t) z (nI (shN A)) (nI (hdN A)) (nI 0) (mW I1 L ru) = some (nI 9, mW I1 L ru) := by
    refine lpP (F := fun k i (_ : Unit) => f230_H44 n (fun w36 => some ((9 : Int32), w36)) k 67 (nI m) (nI t) z (nI (crS A m t i).1) (nI (crS A m t i).2) (nI i) (mW I1 L ru)) (P := fun y => y = some (nI 9, mW I1 L ru)) (J := fun i _ => True) t ?_ ?_ n 0 () (by omega) (by omega) trivial
    · intro k _ _
      simp (config := { maxSteps := 2000000 }) (disch := omega) only [f230_H44, ux_at, ux_kk, ux_jo, gIm, pIm, pZm, gRm, aIm, sIm, aBm, sBm, gLm, pLm, clm, wshS, obS, reduceIte, Nat.one_ne_zero, Nat.zero_ne_one, Nat.reduceEqDiff, not_true_eq_false, not_false_eq_true, Nat.le_refl, ng_le, ng_lt, ng_nle, ng_nlt, ng_eq, ng_eq2, Bool.false_eq_true, lit_nI, nI_add, pk_mul, nI_leI, nI_ltI, nI_eq]
    · intro k i _ hi _ ih
      have hi2 : ¬ t ≤ i := by omega
      obtain ⟨p1, p2⟩ := crS_ok hW.1 m t i
      rcases one_or (rk_le hW.1 p1) with rk | rk
      · have hk3 : ckN A m t i (crS A m t i).1 (crS A m t i).2 < 3 := fkN_lt _ _
        have es := s166 (L := L) (ru := ru) hM1 hW.1 p1 p2 (show i < 1000 by omega) hk3
        have et := s51 p2 hk3 (mW I1 L ru)
        have en := ne_out (by omega) hz hi
        have en2 : (nI i = z) = False := eq_false fun e => by
          rw [← e] at en
          exact (eq_true rfl).symm.trans en ▸ trivial
        simp (config := { maxSteps := 2000000 }) (disch := omega) only [f230_H44, ux_at, ux_kk, ux_jo, gIm, pIm, pZm, gRm, aIm, sIm, aBm, sBm, gLm, pLm, clm, wshS, obS, reduceIte, Nat.one_ne_zero, Nat.zero_ne_one, Nat.reduceEqDiff, not_true_eq_false, not_false_eq_true, Nat.le_refl, ng_le, ng_lt, ng_nle, ng_nlt, ng_eq, ng_eq2, Bool.false_eq_true, lit_nI, nI_add, pk_mul, nI_leI, nI_ltI, nI_eq, hi2, mcA hM1, wfA hW.1, rk]
        refine (l230 (L := L) (ru := ru) (n := n) hM1 hW.1 b1 (by omega) p1 p2 rk hi ht2 (by omega)).trans ?_
        simp (config := { maxSteps := 2000000 }) (disch := omega) only [f230_J137, ux_at, ux_kk, ux_jo, gIm, pIm, pZm, gRm, aIm, sIm, aBm, sBm, gLm, pLm, clm, wshS, obS, reduceIte, Nat.one_ne_zero, Nat.zero_ne_one, Nat.reduceEqDiff, not_true_eq_false, not_false_eq_true, Nat.le_refl, ng_le, ng_lt, ng_nle, ng_nlt, ng_eq, ng_eq2, Bool.false_eq_true, lit_nI, nI_add, pk_mul, nI_leI, nI_ltI, nI_eq, en2, es, et]
        exact ih () trivial
      · simp (config := { maxSteps := 2000000 }) (disch := omega) only [f230_H44, ux_at, ux_kk, ux_jo, gIm, pIm, pZm, gRm, aIm, sIm, aBm, sBm, gLm, pLm, clm, wshS, obS, reduceIte, Nat.one_ne_zero, Nat.zero_ne_one, Nat.reduceEqDiff, not_true_eq_false, not_false_eq_true, Nat.le_refl, ng_le, ng_lt, ng_nle, ng_nlt, ng_eq, ng_eq2, Bool.false_eq_true, lit_nI, nI_add, pk_mul, nI_leI, nI_ltI, nI_eq, hi2, mcA hM1, wfA hW.1, rk]
  refine ⟨I1, ?_, f1.mono (by decide) (by decide), hC.fr f1 (by decide) (by decide) (by decide)⟩
  simp (config := { maxSteps := 2000000 }) (disch := omega) only [f230, ux_at, ux_kk, ux_jo, gIm, pIm, pZm, gRm, aIm, sIm, aBm, sBm, gLm, pLm, clm, wshS, obS, reduceIte, lit_lN, nI_eq, Nat.one_ne_zero, not_false_eq_true, show (0 : Int32) = nI 0 from rfl, s119 hM hW.1 hm, s131, show (1 : Int32) = nI 1 from rfl, e1, mcA hM1, wfA hW.1]
  exact key
theorem q_course (hI : INV I A) (x y z : Int32) (hn : 1000 < n) : STEP I L ru (f223 n 0 x y z) (f230 n 67 x y z) := by
  have hI9 := hI
  obtain ⟨hM, hW, hC, hX, ⟨hS, hH, hR, hT, hL, hG⟩, sd, hsd, hs1, hs2⟩ := hI9
  have h6 := ns6 hW.1
  have h7 := p2_le (nsN A) (by omega)
  have h4 := nr4 hW
  rcases ixc x (n := 2 ^ nsN A) (by omega) with hx | ⟨m, hm, rfl⟩
  · exact STEP.same hI (v := -nI 1000001) (by simp (config := { maxSteps := 2000000 }) (disch := omega) only [f223, ux_at, ux_kk, ux_jo, gIx, pIx, pZx, gRx, aIx, sIx, aBx, sBx, lenx, clx, wshS, obS, reduceIte, Nat.one_ne_zero, Nat.zero_ne_one, Nat.reduceEqDiff, not_true_eq_false, not_false_eq_true, Nat.le_refl, ng_le, ng_lt, ng_nle, ng_nlt, ng_eq, ng_eq2, Bool.false_eq_true, lit_nI, nI_add, pk_mul, nI_leI, nI_ltI, nI_eq, x_noSeto hS hW.1 hx]) (by simp (config := { maxSteps := 2000000 }) (disch := omega) only [f230, ux_at, ux_kk, ux_jo, gIm, pIm, pZm, gRm, aIm, sIm, aBm, sBm, gLm, pLm, clm, wshS, obS, reduceIte, Nat.one_ne_zero, Nat.zero_ne_one, Nat.reduceEqDiff, not_true_eq_false, not_false_eq_true, Nat.le_refl, ng_le, ng_lt, ng_nle, ng_nlt, ng_eq, ng_eq2, Bool.false_eq_true, lit_nI, nI_add, pk_mul, nI_leI, nI_ltI, nI_eq, s119o hM hW.1 hx])
  rcases ixr y (a := 1) (b := 24) (by decide) (by decide) with hy | ⟨t, ht1, ht, rfl⟩
  · exact STEP.same hI (v := -nI 1000002) (by simp (config := { maxSteps := 2000000 }) (disch := omega) only [f223, ux_at, ux_kk, ux_jo, gIx, pIx, pZx, gRx, aIx, sIx, aBx, sBx, lenx, clx, wshS, obS, reduceIte, Nat.one_ne_zero, Nat.zero_ne_one, Nat.reduceEqDiff, not_true_eq_false, not_false_eq_true, Nat.le_refl, ng_le, ng_lt, ng_nle, ng_nlt, ng_eq, ng_eq2, Bool.false_eq_true, lit_nI, nI_add, pk_mul, nI_leI, nI_ltI, nI_eq, x_noSet hS hW.1 hm, s0o hy]) (by simp (config := { maxSteps := 2000000 }) (disch := omega) only [f230, ux_at, ux_kk, ux_jo, gIm, pIm, pZm, gRm, aIm, sIm, aBm, sBm, gLm, pLm, clm, wshS, obS, reduceIte, Nat.one_ne_zero, Nat.zero_ne_one, Nat.reduceEqDiff, not_true_eq_false, not_false_eq_true, Nat.le_refl, ng_le, ng_lt, ng_nle, ng_nlt, ng_eq, ng_eq2, Bool.false_eq_true, lit_nI, nI_add, pk_mul, nI_leI, nI_ltI, nI_eq, s119 hM hW.1 hm, s131o hy])
  rcases ixc z (n := t) (by omega) with hz | ⟨j, hj, rfl⟩
  · refine STEP.q hI (v := nI 9) ⟨I, L, ru, ?_, Fr.rf, hX⟩ fun I1 L1 ru1 hM1 _ hC1 => m230o hM1 hW hC1 hm ht1 ht hz (by omega)
    have e2 := fun w => s0co (w := w) (n := t) (by omega) hz
    simp (config := { maxSteps := 2000000 }) (disch := omega) only [f223, ux_at, ux_kk, ux_jo, gIx, pIx, pZx, gRx, aIx, sIx, aBx, sBx, lenx, clx, wshS, obS, reduceIte, Nat.one_ne_zero, Nat.zero_ne_one, Nat.reduceEqDiff, not_true_eq_false, not_false_eq_true, Nat.le_refl, ng_le, ng_lt, ng_nle, ng_nlt, ng_eq, ng_eq2, Bool.false_eq_true, lit_nI, nI_add, pk_mul, nI_leI, nI_ltI, nI_eq, x_noSet hS hW.1 hm, s0i, e2]
  · obtain ⟨o1, o2, o3⟩ := ship_ok hW.1
    have f0 : Fr [52] [] I (u2 I 52 4 (nI 1)) := Fr.rf.u (by decide)
    have hS0 := hS.fr hW.1 f0 (by decide)
    obtain ⟨I1, L1, R, e1, f1, q1, s1, c1, b1⟩ := x_greatest (L := L) (n := n) (m := m) (h := hdN A) (opt_any hW.1 (r := ru)) hW.1 (I := u2 I 52 4 (nI 1)) ⟨hS0, ux_at⟩ (by omega) o1 o2 o3 ht1 ht hn
    obtain ⟨v, e2, h2⟩ := x_turnOf (ru := ru) (n := n) q1.1 hW.1 s1 c1 b1 (show m < 64 by omega) ht1 ht hj (by omega)
    have e3 := fun w => s0ci (w := w) (n := t) (by omega) hj
    have e4 := x_start (L := L) (ru := ru) hS0 hW.1
    have e5 := x_start (L := L1) (ru := ru) q1.1 hW.1
    have fq := f0.mono (K' := qxK) (F' := []) (by decide +kernel) (by decide)
    refine STEP.p hI (P := crI A m t j) (fun a b ha hb => ha.uniq hb) ⟨v, I1, L1, ru, ?_, fq.tr (f1.mono (by decide +kernel) (by decide)), (hX.fr f0 (by decide) (by decide)).fr f1 (by decide) (by decide), h2⟩ fun I2 L2 ru2 hM2 _ hC2 => m230 hM2 hW hC2 hm ht1 ht hj (by omega)
    simp (config := { maxSteps := 2000000 }) (disch := omega) only [f223, f34, ux_at, ux_kk, ux_jo, gIx, pIx, pZx, gRx, aIx, sIx, aBx, sBx, lenx, clx, wshS, obS, reduceIte, Nat.one_ne_zero, Nat.zero_ne_one, Nat.reduceEqDiff, not_true_eq_false, not_false_eq_true, Nat.le_refl, ng_le, ng_lt, ng_nle, ng_nlt, ng_eq, ng_eq2, Bool.false_eq_true, lit_nI, nI_add, pk_mul, nI_leI, nI_ltI, nI_eq, x_noSet hS hW.1 hm, s0i, e3, e4, e1, e5, e2]
end
