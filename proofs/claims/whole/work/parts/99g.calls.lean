/-! BOTH TOGETHER: sides, the best rule, voyages -/
theorem CR.fr {I I' A : St} (h : CR I A) (h4 : nrN A ≤ 4) {K F : List Nat} (f : Fr K F I I') (hK : ∀ k, k ∈ [0, 29, 30, 31, 32] → k ∉ K) : CR I' A := by
  have e : ∀ k, k ∈ [0, 29, 30, 31, 32] → I' k = I k := fun k hk => f.at (hK k hk) (fun q => by subst q; exact absurd hk (by decide))
  refine ⟨?_, fun r hr => ?_⟩
  · rw [e 0 (by decide)]; exact h.1
  · have hr4 : r = 0 ∨ r = 1 ∨ r = 2 ∨ r = 3 := by omega
    have := h.2 r hr
    unfold RX at this ⊢
    rcases hr4 with rfl | rfl | rfl | rfl
    · rw [e (29 + 0) (by decide)]; exact this
    · rw [e (29 + 1) (by decide)]; exact this
    · rw [e (29 + 2) (by decide)]; exact this
    · rw [e (29 + 3) (by decide)]; exact this
theorem CT.fr {I I' A : St} (h : CT I A) {K F : List Nat} (f : Fr K F I I') (h1 : 1 ∉ K) (h2 : 2 ∉ K) : CT I' A := by
  unfold CT
  rw [f.at h1 (by decide), f.at h2 (by decide)]
  exact h
theorem CL.of {I I' A : St} (h : CL I A) (h1 : I' 34 3 = I 34 3) (h2 : I' 37 = I 37) : CL I' A := by
  unfold CL
  rw [h1, h2]
  exact h
theorem CI.fr {I I' A : St} (h : CI I A) {K F : List Nat} (f : Fr K F I I') (hK : ∀ k, k ∈ [39, 40, 41, 42, 43, 44, 45, 46] → k ∉ K) : CI I' A := by
  have e : ∀ k, k ∈ [39, 40, 41, 42, 43, 44, 45, 46] → I' k = I k := fun k hk => f.at (hK k hk) (fun q => by subst q; exact absurd hk (by decide))
  intro i hi
  have hi2 : i = 0 ∨ i = 1 := by omega
  have := h i hi
  rcases hi2 with rfl | rfl
  · rw [e (39 + 4 * 0) (by decide), e (40 + 4 * 0) (by decide), e (41 + 4 * 0) (by decide), e (42 + 4 * 0) (by decide)]; exact this
  · rw [e (39 + 4 * 1) (by decide), e (40 + 4 * 1) (by decide), e (41 + 4 * 1) (by decide), e (42 + 4 * 1) (by decide)]; exact this
theorem vtI_bd {A : St} (hW : WFs A) {m G t : Nat} {S : Nat → Sh} (hO : ∀ t, ShOk (S t)) : Bd (vtI A m S G t) 5346 := by
  have hl : Bd (-nI 99 * pSet A m) 5346 := by
    obtain ⟨e, h⟩ := pSet_nI hW m
    rw [e, ← iI_nI 99, iI_neg1, iI_muln]
    exact ⟨_, rfl, by omega, by omega⟩
  unfold vtI
  split
  · exact hl
  · split
    · exact hl
    · exact wSet_bd hW (hO t).1
theorem valI_bd {A : St} (hW : WFs A) {m G : Nat} {S : Nat → Sh} (hO : ∀ t, ShOk (S t)) : ∀ hours : Nat, Bd (valI A m S G hours) (5346 * (hours : Int))
  | 0 => Bd.zero (by omega)
  | k + 1 => by
    have e : valI A m S G (k + 1) = valI A m S G k + vtI A m S G (k + 1) := rfl
    rw [e]
    exact (valI_bd hW hO k).add (vtI_bd hW hO) (by omega)
section
variable {I A : St} {L : Lt} {ru n : Nat}
theorem sides_1 (hW : WF A) {ρ : Nat → Nat} (hR : RK ρ) {r c what p : Nat} {S : Nat → Sh} (hSd : rnS A ρ (lagN A) (p / 8) (p % 8) = S) (hrk : rkN A (p / 8) = 0) (hp : p < 512) (hS : CS I A) {T : Nat → Nat} (hN : JN I A (lagN A) S T (gonN A S 400)) (hc : c < 64) (hw : what ≤ 2) (hn : 1000 < n) {rec31 : Nat → Int32 → Int32 → Int32 → Int32 → Int32 → Wd → Option (Int32 × Wd)} {K31 : Int32 → Wd → Option (Int32 × Wd)} {many : Nat} {rr : Int32} :
    (if ¬ nI what = nI 0 then f225_J119 n rec31 K31 0 rr (nI c) (nI what) (nI many) (nI p) (mW I L r) else ob (getR (mW I L r) 10 0 11) (fun x47 => ob (getI (mW I L r) 4 x47 8) (fun x49 => (if x49 = nI 0 then f225_J119 n rec31 K31 0 rr (nI c) (nI what) (nI many) (nI p) (mW I L r) else f225_J119 n rec31 K31 0 rr (nI c) (nI what) (nI (many + 1)) (nI p) (mW I L r))))) = rec31 0 rr (nI c) (nI what) (nI (many + sdN2 A ρ (lagN A) c what p)) (nI (p + 1)) (mW I L r) := by
  have hpc : p / 8 < 64 := by omega
  have hph : p % 8 < 8 := Nat.mod_lt _ (by decide)
  have hSo : ∀ t, ShOk (S t) := fun t => by rw [← hSd]; exact rnS_ok hW.1 hR hpc hph t
  have hLt : ∀ t, LtOk (lagN A) (S t) := fun t => by rw [← hSd]; exact rnS_lt t
  have hpr : PRD S (prdN A) := by rw [← hSd]; exact rnS_per
  have r0 : rkN A (S 0).1 = 0 := by rw [← hSd]; exact hrk
  have hG4 := gonN_le A S 400
  have st := struck_at hN r0
  have esd : sdN2 A ρ (lagN A) c what p = chN (sdP A ρ (lagN A) c what S) := by
    unfold sdN2
    rw [if_neg (by omega), hSd]
  have hGne : rkN A (S (gonN A S 400)).1 = 1 → gonN A S 400 ≠ 0 := fun z z2 => by
    rw [z2] at z
    omega
  rw [esd]
  rcases (show what = 0 ∨ what = 1 ∨ what = 2 by omega) with rfl | rfl | rfl
  · rcases one_or (rk_le hW.1 (hSo (gonN A S 400)).1) with rk | rk
    · rw [rk] at st
      have e : chN (sdP A ρ (lagN A) c 0 S) = 0 := chN_f fun z => by
        have z : gonN A S 400 ≠ 0 ∧ rkN A (S (gonN A S 400)).1 = 1 := z
        omega
      rw [e]
      simp (config := { maxSteps := 2000000 }) (disch := omega) only [f225_J119, f225_J137, ux_at, ux_kk, ux_jo, gIx, pIx, pZx, gRx, aIx, sIx, aBx, sBx, lenx, clx, wshS, obS, reduceIte, Nat.one_ne_zero, Nat.zero_ne_one, Nat.reduceEqDiff, not_true_eq_false, not_false_eq_true, Nat.le_refl, ng_le, ng_lt, ng_nle, ng_nlt, ng_eq, ng_eq2, Bool.false_eq_true, lit_nI, nI_add, pk_mul, nI_leI, nI_ltI, nI_eq, st, Nat.add_zero]
    · rw [rk] at st
      have e : chN (sdP A ρ (lagN A) c 0 S) = 1 := chN_t (show gonN A S 400 ≠ 0 ∧ rkN A (S (gonN A S 400)).1 = 1 from ⟨hGne rk, rk⟩)
      rw [e]
      simp (config := { maxSteps := 2000000 }) (disch := omega) only [f225_J119, f225_J137, ux_at, ux_kk, ux_jo, gIx, pIx, pZx, gRx, aIx, sIx, aBx, sBx, lenx, clx, wshS, obS, reduceIte, Nat.one_ne_zero, Nat.zero_ne_one, Nat.reduceEqDiff, not_true_eq_false, not_false_eq_true, Nat.le_refl, ng_le, ng_lt, ng_nle, ng_nlt, ng_eq, ng_eq2, Bool.false_eq_true, lit_nI, nI_add, pk_mul, nI_leI, nI_ltI, nI_eq, st]
  · obtain ⟨j, e2, h2⟩ := x_hoursRound (L := L) (ru := r) (n := n) hS hW.1 hN hSo hLt (lag_ok hW.1) hG4 r0 (by omega)
    rcases h2 with ⟨rfl, q⟩ | ⟨k1, k2, k3⟩
    · rw [Nat.zero_mul] at e2
      have e : chN (sdP A ρ (lagN A) c 1 S) = 0 := chN_f fun z => by
        have z : ¬ (gonN A S 400 ≠ 0 ∧ rkN A (S (gonN A S 400)).1 = 1) ∧ ∃ t j, RDy S (prdN A) (gonN A S 400) t j := z
        rcases q with q | ⟨-, q2⟩
        · exact z.1 ⟨hGne q, q⟩
        · obtain ⟨t, j, z1, z2, -⟩ := z.2
          exact q2 j (z2.up hpr z1)
      rw [e]
      simp (config := { maxSteps := 2000000 }) (disch := omega) only [f225_J119, f225_J137, ux_at, ux_kk, ux_jo, gIx, pIx, pZx, gRx, aIx, sIx, aBx, sBx, lenx, clx, wshS, obS, reduceIte, Nat.one_ne_zero, Nat.zero_ne_one, Nat.reduceEqDiff, not_true_eq_false, not_false_eq_true, Nat.le_refl, ng_le, ng_lt, ng_nle, ng_nlt, ng_eq, ng_eq2, Bool.false_eq_true, lit_nI, nI_add, pk_mul, nI_leI, nI_ltI, nI_eq, e2, Nat.add_zero]
    · have hd0 : 0 < j * prdN A := Nat.mul_pos k2.1 (prdN_pos A)
      have hd1 : ¬ j * prdN A = 0 := by omega
      have hd2 := k2.2.1
      have e : chN (sdP A ρ (lagN A) c 1 S) = 1 := chN_t (show ¬ (gonN A S 400 ≠ 0 ∧ rkN A (S (gonN A S 400)).1 = 1) ∧ ∃ t j, RDy S (prdN A) (gonN A S 400) t j from ⟨fun z => by have := z.2; omega, by
        rcases RD_or S (prdN A) (gonN A S 400) with q | q
        · exact absurd k2 (q _ (Nat.le_refl _) j)
        · exact q⟩)
      rw [e]
      simp (config := { maxSteps := 2000000 }) (disch := omega) only [f225_J119, f225_J137, ux_at, ux_kk, ux_jo, gIx, pIx, pZx, gRx, aIx, sIx, aBx, sBx, lenx, clx, wshS, obS, reduceIte, Nat.one_ne_zero, Nat.zero_ne_one, Nat.reduceEqDiff, not_true_eq_false, not_false_eq_true, Nat.le_refl, ng_le, ng_lt, ng_nle, ng_nlt, ng_eq, ng_eq2, Bool.false_eq_true, lit_nI, nI_add, pk_mul, nI_leI, nI_ltI, nI_eq, e2, hd1]
  · obtain ⟨v, e2, h2⟩ := x_firstAt (L := L) (ru := r) (n := n) hN hSo hc hG4 (by omega)
    rcases h2 with ⟨t, t1, t2, -, rfl⟩ | ⟨t1, rfl⟩
    · have e : chN (sdP A ρ (lagN A) c 2 S) = 1 := chN_t (show ∃ t, t ≤ gonN A S 400 ∧ (S t).1 = c from ⟨t, by omega, t2⟩)
      rw [e]
      simp (config := { maxSteps := 2000000 }) (disch := omega) only [f225_J119, f225_J137, ux_at, ux_kk, ux_jo, gIx, pIx, pZx, gRx, aIx, sIx, aBx, sBx, lenx, clx, wshS, obS, reduceIte, Nat.one_ne_zero, Nat.zero_ne_one, Nat.reduceEqDiff, not_true_eq_false, not_false_eq_true, Nat.le_refl, ng_le, ng_lt, ng_nle, ng_nlt, ng_eq, ng_eq2, Bool.false_eq_true, lit_nI, nI_add, pk_mul, nI_leI, nI_ltI, nI_eq, e2]
    · have e : chN (sdP A ρ (lagN A) c 2 S) = 0 := chN_f fun z => by
        have z : ∃ t, t ≤ gonN A S 400 ∧ (S t).1 = c := z
        obtain ⟨t, z1, z2⟩ := z
        exact t1 t (by omega) z2
      rw [e]
      simp (config := { maxSteps := 2000000 }) (disch := omega) only [f225_J119, f225_J137, ux_at, ux_kk, ux_jo, gIx, pIx, pZx, gRx, aIx, sIx, aBx, sBx, lenx, clx, wshS, obS, reduceIte, Nat.one_ne_zero, Nat.zero_ne_one, Nat.reduceEqDiff, not_true_eq_false, not_false_eq_true, Nat.le_refl, ng_le, ng_lt, ng_nle, ng_nlt, ng_eq, ng_eq2, Bool.false_eq_true, lit_nI, nI_add, pk_mul, nI_leI, nI_ltI, nI_eq, e2, Nat.add_zero]
theorem q_sides (hI : INV I A) (x y z : Int32) (hn : 1000 < n) : STEP I L ru (f225 n 0 x y z) (f246 n 67 x y z) := by
  have hI9 := hI
  obtain ⟨hM, hW, hC, hX, ⟨hS, hH, hR, hT, hL, hG⟩, sd, hsd, hs1, hs2⟩ := hI9
  have h6 := ns6 hW.1
  have h7 := p2_le (nsN A) (by omega)
  have h4 := nr4 hW
  rcases ixc x (n := nrN A) (by omega) with hx | ⟨r, hr, rfl⟩
  · exact STEP.same hI (v := -nI 1000001) (by simp (config := { maxSteps := 2000000 }) (disch := omega) only [f225, ux_at, ux_kk, ux_jo, gIx, pIx, pZx, gRx, aIx, sIx, aBx, sBx, lenx, clx, wshS, obS, reduceIte, Nat.one_ne_zero, Nat.zero_ne_one, Nat.reduceEqDiff, not_true_eq_false, not_false_eq_true, Nat.le_refl, ng_le, ng_lt, ng_nle, ng_nlt, ng_eq, ng_eq2, Bool.false_eq_true, lit_nI, nI_add, pk_mul, nI_leI, nI_ltI, nI_eq, x_noRuleo hR hW hx]) (by simp (config := { maxSteps := 2000000 }) (disch := omega) only [f246, ux_at, ux_kk, ux_jo, gIm, pIm, pZm, gRm, aIm, sIm, aBm, sBm, gLm, pLm, clm, wshS, obS, reduceIte, Nat.one_ne_zero, Nat.zero_ne_one, Nat.reduceEqDiff, not_true_eq_false, not_false_eq_true, Nat.le_refl, ng_le, ng_lt, ng_nle, ng_nlt, ng_eq, ng_eq2, Bool.false_eq_true, lit_nI, nI_add, pk_mul, nI_leI, nI_ltI, nI_eq, s126o hM hW.2 hx])
  rcases ixc y (n := 64) (by decide) with hy | ⟨c, hc, rfl⟩
  · exact STEP.same hI (v := -nI 1000001) (by simp (config := { maxSteps := 2000000 }) (disch := omega) only [f225, ux_at, ux_kk, ux_jo, gIx, pIx, pZx, gRx, aIx, sIx, aBx, sBx, lenx, clx, wshS, obS, reduceIte, Nat.one_ne_zero, Nat.zero_ne_one, Nat.reduceEqDiff, not_true_eq_false, not_false_eq_true, Nat.le_refl, ng_le, ng_lt, ng_nle, ng_nlt, ng_eq, ng_eq2, Bool.false_eq_true, lit_nI, nI_add, pk_mul, nI_leI, nI_ltI, nI_eq, x_noRule hR hW hr, x_noCello hy]) (by simp (config := { maxSteps := 2000000 }) (disch := omega) only [f246, ux_at, ux_kk, ux_jo, gIm, pIm, pZm, gRm, aIm, sIm, aBm, sBm, gLm, pLm, clm, wshS, obS, reduceIte, Nat.one_ne_zero, Nat.zero_ne_one, Nat.reduceEqDiff, not_true_eq_false, not_false_eq_true, Nat.le_refl, ng_le, ng_lt, ng_nle, ng_nlt, ng_eq, ng_eq2, Bool.false_eq_true, lit_nI, nI_add, pk_mul, nI_leI, nI_ltI, nI_eq, s126 hM hW.2 hr, s118o hy])
  rcases ixr z (a := 0) (b := 2) (by decide) (by decide) with hz | ⟨what, -, hw, rfl⟩
  · exact STEP.same hI (v := -nI 1000002) (by simp (config := { maxSteps := 2000000 }) (disch := omega) only [f225, ux_at, ux_kk, ux_jo, gIx, pIx, pZx, gRx, aIx, sIx, aBx, sBx, lenx, clx, wshS, obS, reduceIte, Nat.one_ne_zero, Nat.zero_ne_one, Nat.reduceEqDiff, not_true_eq_false, not_false_eq_true, Nat.le_refl, ng_le, ng_lt, ng_nle, ng_nlt, ng_eq, ng_eq2, Bool.false_eq_true, lit_nI, nI_add, pk_mul, nI_leI, nI_ltI, nI_eq, x_noRule hR hW hr, x_noCell, s0o hz]) (by simp (config := { maxSteps := 2000000 }) (disch := omega) only [f246, ux_at, ux_kk, ux_jo, gIm, pIm, pZm, gRm, aIm, sIm, aBm, sBm, gLm, pLm, clm, wshS, obS, reduceIte, Nat.one_ne_zero, Nat.zero_ne_one, Nat.reduceEqDiff, not_true_eq_false, not_false_eq_true, Nat.le_refl, ng_le, ng_lt, ng_nle, ng_nlt, ng_eq, ng_eq2, Bool.false_eq_true, lit_nI, nI_add, pk_mul, nI_leI, nI_ltI, nI_eq, lit_lN, s126 hM hW.2 hr, s118, s40o (show 0 < 2 ^ 31 by decide) (show 2 < 2 ^ 31 by decide) hz])
  have hRK := (ruN_at hW.2 hr).1
  have hrr := ruleRS r (show r < 4 by omega)
  obtain ⟨I1, e1, f1, c1, p1⟩ := x_ready (L := L) (ru := ru) (n := n) hS hH hW hX hn
  obtain ⟨I2, e2, f2, n2⟩ := x_begin (I := I1) (A := A) (L := L) (ru := ru) (n := n) (m := 0) hrr ((hR.2 r hr).fr f1 (rr_nK hrr (by decide)) (rr_ne hrr)) hn
  have hS2 := (hS.fr hW.1 f1 (by decide)).fr hW.1 f2 (by decide)
  have hH2 := (hH.fr f1 (by decide) (by decide)).fr f2 (by decide) (by decide)
  have p2 := p1.fr f2 (by decide)
  refine STEP.q hI (v := nI (sumN (sdN2 A (ruN A r) (lagN A) c what) 512)) ?_ fun I2 L2 ru2 hM2 _ hC2 => m246 hM2 hW hC2 hr hc hw (by omega)
  have key : ∃ I', f225_H57 n (fun e4 w57 => some (e4, w57)) n 0 (nI r) (nI c) (nI what) (nI 0) (nI 0) (mW I2 L (29 + r)) = some (nI (sumN (sdN2 A (ruN A r) (lagN A) c what) 512), mW I' L (29 + r)) ∧ Fr (jK ++ cnK) [] I2 I' := by
    refine lpP (F := fun k p J => f225_H57 n (fun e4 w57 => some (e4, w57)) k 0 (nI r) (nI c) (nI what) (nI (sumN (sdN2 A (ruN A r) (lagN A) c what) p)) (nI p) (mW J L (29 + r))) (P := fun y => ∃ I', y = some (nI (sumN (sdN2 A (ruN A r) (lagN A) c what) 512), mW I' L (29 + r)) ∧ Fr (jK ++ cnK) [] I2 I') (J := fun p J => Fr (jK ++ cnK) [] I2 J ∧ CN J A (ruN A r) 0 (29 + r)) 512 ?_ ?_ n 0 I2 (by omega) (by omega) ⟨Fr.rf, n2⟩
    · intro k J hJ
      simp (config := { maxSteps := 2000000 }) (disch := omega) only [f225_H57, ux_at, ux_kk, ux_jo, gIx, pIx, pZx, gRx, aIx, sIx, aBx, sBx, lenx, clx, wshS, obS, reduceIte, Nat.one_ne_zero, Nat.zero_ne_one, Nat.reduceEqDiff, not_true_eq_false, not_false_eq_true, Nat.le_refl, ng_le, ng_lt, ng_nle, ng_nlt, ng_eq, ng_eq2, Bool.false_eq_true, lit_nI, nI_add, pk_mul, nI_leI, nI_ltI, nI_eq]
      exact ⟨J, rfl, hJ.1⟩
    · rintro k p J hp ⟨j1, j2⟩ ih
      have hp2 : ¬ 512 ≤ p := by omega
      have hpc : p / 8 < 64 := by omega
      have hph : p % 8 < 8 := Nat.mod_lt _ (by decide)
      have hpp : 8 * (p / 8) + p % 8 = p := by omega
      have hSJ := hS2.fr hW.1 j1 (by decide)
      have es : sumN (sdN2 A (ruN A r) (lagN A) c what) (p + 1) = sumN (sdN2 A (ruN A r) (lagN A) c what) p + sdN2 A (ruN A r) (lagN A) c what p := rfl
      rcases one_or (rk_le hW.1 hpc) with rk | rk
      · obtain ⟨J2, e3, f3, j3, n3⟩ := x_sail (L := L) (n := n) (hours := 400) hSJ (hH2.fr j1 (by decide) (by decide)) (p2.fr j1 (by decide)) hW j2 hRK (rr_nK hrr (by decide)) hpc hph rk (by decide) (by omega)
        rw [hpp] at e3
        have z := ih J2 ⟨j1.tr f3, n3⟩
        rw [es] at z
        simp (config := { maxSteps := 2000000 }) (disch := omega) only [f225_H57, ux_at, ux_kk, ux_jo, gIx, pIx, pZx, gRx, aIx, sIx, aBx, sBx, lenx, clx, wshS, obS, reduceIte, Nat.one_ne_zero, Nat.zero_ne_one, Nat.reduceEqDiff, not_true_eq_false, not_false_eq_true, Nat.le_refl, ng_le, ng_lt, ng_nle, ng_nlt, ng_eq, ng_eq2, Bool.false_eq_true, lit_nI, nI_add, pk_mul, nI_leI, nI_ltI, nI_eq, hp2, x_cellOf, x_isRock hSJ hW.1 hpc, rk, ruleR, e3]
        have s1 := sides_1 (L := L) (n := n) (r := 29 + r) (rec31 := fun v0 v1 v2 v3 v4 v5 w => f225_H57 n (fun e4 w57 => some (e4, w57)) k v0 v1 v2 v3 v4 v5 w) (K31 := fun e4 w57 => some (e4, w57)) (many := sumN (sdN2 A (ruN A r) (lagN A) c what) p) (rr := nI r) hW hRK rfl rk hp (hSJ.fr hW.1 f3 (by decide)) j3 hc hw hn
        simp (config := { maxSteps := 2000000 }) (disch := omega) only [ux_at, ux_kk, ux_jo, gIx, pIx, pZx, gRx, aIx, sIx, aBx, sBx, lenx, clx, wshS, obS, reduceIte, Nat.one_ne_zero, Nat.zero_ne_one, Nat.reduceEqDiff, not_true_eq_false, not_false_eq_true, Nat.le_refl, ng_le, ng_lt, ng_nle, ng_nlt, ng_eq, ng_eq2, Bool.false_eq_true, lit_nI, nI_add, pk_mul, nI_leI, nI_ltI, nI_eq] at s1
        rw [s1]
        exact z
      · have e0 : sdN2 A (ruN A r) (lagN A) c what p = 0 := if_pos rk
        have z := ih J ⟨j1, j2⟩
        rw [es, e0, Nat.add_zero] at z
        simp (config := { maxSteps := 2000000 }) (disch := omega) only [f225_H57, ux_at, ux_kk, ux_jo, gIx, pIx, pZx, gRx, aIx, sIx, aBx, sBx, lenx, clx, wshS, obS, reduceIte, Nat.one_ne_zero, Nat.zero_ne_one, Nat.reduceEqDiff, not_true_eq_false, not_false_eq_true, Nat.le_refl, ng_le, ng_lt, ng_nle, ng_nlt, ng_eq, ng_eq2, Bool.false_eq_true, lit_nI, nI_add, pk_mul, nI_leI, nI_ltI, nI_eq, hp2, x_cellOf, x_isRock hSJ hW.1 hpc, rk]
        exact z
  obtain ⟨I3, k1, k2⟩ := key
  refine ⟨I3, L, 29 + r, ?_, (f1.mono (by decide +kernel) (by decide)).tr ((f2.mono (by decide +kernel) (by decide)).tr (k2.mono (by decide +kernel) (by decide))), Or.inr ⟨?_, p2.fr k2 (by decide)⟩⟩
  · simp (config := { maxSteps := 2000000 }) (disch := omega) only [f225, ux_at, ux_kk, ux_jo, gIx, pIx, pZx, gRx, aIx, sIx, aBx, sBx, lenx, clx, wshS, obS, reduceIte, Nat.one_ne_zero, Nat.zero_ne_one, Nat.reduceEqDiff, not_true_eq_false, not_false_eq_true, Nat.le_refl, ng_le, ng_lt, ng_nle, ng_nlt, ng_eq, ng_eq2, Bool.false_eq_true, lit_nI, nI_add, pk_mul, nI_leI, nI_ltI, nI_eq, x_noRule hR hW hr, x_noCell, s0i, ruleR, e1, e2]
    exact k1
  · rw [k2.at (by decide) (by decide), f2.at (by decide) (by decide)]
    exact c1
/-- a short rule -/
theorem x_becomeI {i : Nat} (hi : i < 200) : ∃ I', f15 33 (nI (i / 50)) (nI (i / 5 % 10)) (nI (i % 5)) (mW I L ru) = some (mW I' L ru) ∧ Fr [33] [] I I' ∧ RX I' 33 (shrN i) := by
  have h5 : i % 5 < 5 := Nat.mod_lt _ (by decide)
  have fin : ∀ a b : Int32, a = tI (shrN i 3) → b = nI (shrN i 4) → ∃ I', some (mW (u2 (u2 (u2 (u2 (u2 I 33 0 (nI (i / 50))) 33 1 (nI (i / 5 % 10))) 33 2 (nI 0)) 33 3 a) 33 4 b) L ru) = some (mW I' L ru) ∧ Fr [33] [] I I' ∧ RX I' 33 (shrN i) := by
    intro a b ha hb
    refine ⟨_, rfl, ((((Fr.rf.u (by decide)).u (by decide)).u (by decide)).u (by decide)).u (by decide), ?_, ?_, ?_, ?_, ?_⟩
    · simp (config := { maxSteps := 2000000 }) (disch := omega) only [ux_at, ux_jo]; rfl
    · simp (config := { maxSteps := 2000000 }) (disch := omega) only [ux_at, ux_jo]; rfl
    · simp (config := { maxSteps := 2000000 }) (disch := omega) only [ux_at, ux_jo]; rfl
    · simp (config := { maxSteps := 2000000 }) (disch := omega) only [ux_at, ux_jo]; exact ha
    · simp (config := { maxSteps := 2000000 }) (disch := omega) only [ux_at, ux_jo]; exact hb
  have s3 : shrN i 3 = if i % 5 = 0 then 1 else if i % 5 % 2 = 1 then 0 else 2 := rfl
  have s4 : shrN i 4 = if i % 5 = 0 then 0 else (i % 5 + 1) / 2 := rfl
  have g := fun j => gI_of (I := I) (L := L) (ru := ru) (j := j) sh_33
  by_cases q : i % 5 = 0
  · have z := fin (nI 0) (nI ((i % 5 + 1) / 2)) (by rw [s3, if_pos q, tI_1]) (by rw [s4, if_pos q, q])
    rw [q] at z ⊢
    simp (config := { maxSteps := 2000000 }) (disch := omega) only [f15, f15_J36, ux_at, ux_kk, ux_jo, gIx, pIx, pZx, gRx, aIx, sIx, aBx, sBx, lenx, clx, wshS, obS, reduceIte, Nat.one_ne_zero, Nat.zero_ne_one, Nat.reduceEqDiff, not_true_eq_false, not_false_eq_true, Nat.le_refl, ng_le, ng_lt, ng_nle, ng_nlt, ng_eq, ng_eq2, Bool.false_eq_true, lit_nI, nI_add, pk_mul, nI_leI, nI_ltI, nI_eq, pI_of sh_33, pk_div]
    exact z
  · by_cases q2 : i % 5 % 2 = 1
    · have z := fin (-nI 1) (nI ((i % 5 + 1) / 2)) (by rw [s3, if_neg q, if_pos q2, tI_0]; decide +kernel) (by rw [s4, if_neg q])
      simp (config := { maxSteps := 2000000 }) (disch := omega) only [f15, f15_J36, ux_at, ux_kk, ux_jo, gIx, pIx, pZx, gRx, aIx, sIx, aBx, sBx, lenx, clx, wshS, obS, reduceIte, Nat.one_ne_zero, Nat.zero_ne_one, Nat.reduceEqDiff, not_true_eq_false, not_false_eq_true, Nat.le_refl, ng_le, ng_lt, ng_nle, ng_nlt, ng_eq, ng_eq2, Bool.false_eq_true, lit_nI, nI_add, pk_mul, nI_leI, nI_ltI, nI_eq, pI_of sh_33, pk_div, irm_nI, q, q2]
      exact z
    · have z := fin (nI 1) (nI ((i % 5 + 1) / 2)) (by rw [s3, if_neg q, if_neg q2, tI_2]) (by rw [s4, if_neg q])
      simp (config := { maxSteps := 2000000 }) (disch := omega) only [f15, f15_J36, ux_at, ux_kk, ux_jo, gIx, pIx, pZx, gRx, aIx, sIx, aBx, sBx, lenx, clx, wshS, obS, reduceIte, Nat.one_ne_zero, Nat.zero_ne_one, Nat.reduceEqDiff, not_true_eq_false, not_false_eq_true, Nat.le_refl, ng_le, ng_lt, ng_nle, ng_nlt, ng_eq, ng_eq2, Bool.false_eq_true, lit_nI, nI_add, pk_mul, nI_leI, nI_ltI, nI_eq, pI_of sh_33, pk_div, irm_nI, q, q2]
      exact z
theorem q_bestRule (hI : INV I A) (x y z : Int32) (hn : 1000 < n) : STEP I L ru (f241 n 0 x y z) (f254 n 67 x y z) := by
  have hI9 := hI
  obtain ⟨hM, hW, hC, hX, ⟨hS, hH, hR, hT, hL, hG⟩, sd, hsd, hs1, hs2⟩ := hI9
  have h6 := ns6 hW.1
  have h7 := p2_le (nsN A) (by omega)
  have h4 := nr4 hW
  rcases ixc x (n := 2 ^ nsN A) (by omega) with hx | ⟨m, hm, rfl⟩
  · exact STEP.same hI (v := -nI 1000001) (by simp (config := { maxSteps := 2000000 }) (disch := omega) only [f241, ux_at, ux_kk, ux_jo, gIx, pIx, pZx, gRx, aIx, sIx, aBx, sBx, lenx, clx, wshS, obS, reduceIte, Nat.one_ne_zero, Nat.zero_ne_one, Nat.reduceEqDiff, not_true_eq_false, not_false_eq_true, Nat.le_refl, ng_le, ng_lt, ng_nle, ng_nlt, ng_eq, ng_eq2, Bool.false_eq_true, lit_nI, nI_add, pk_mul, nI_leI, nI_ltI, nI_eq, x_noSeto hS hW.1 hx]) (by simp (config := { maxSteps := 2000000 }) (disch := omega) only [f254, ux_at, ux_kk, ux_jo, gIm, pIm, pZm, gRm, aIm, sIm, aBm, sBm, gLm, pLm, clm, wshS, obS, reduceIte, Nat.one_ne_zero, Nat.zero_ne_one, Nat.reduceEqDiff, not_true_eq_false, not_false_eq_true, Nat.le_refl, ng_le, ng_lt, ng_nle, ng_nlt, ng_eq, ng_eq2, Bool.false_eq_true, lit_nI, nI_add, pk_mul, nI_leI, nI_ltI, nI_eq, s119o hM hW.1 hx])
  rcases ixr y (a := 1) (b := 24) (by decide) (by decide) with hy | ⟨t, ht1, ht, rfl⟩
  · exact STEP.same hI (v := -nI 1000002) (by simp (config := { maxSteps := 2000000 }) (disch := omega) only [f241, ux_at, ux_kk, ux_jo, gIx, pIx, pZx, gRx, aIx, sIx, aBx, sBx, lenx, clx, wshS, obS, reduceIte, Nat.one_ne_zero, Nat.zero_ne_one, Nat.reduceEqDiff, not_true_eq_false, not_false_eq_true, Nat.le_refl, ng_le, ng_lt, ng_nle, ng_nlt, ng_eq, ng_eq2, Bool.false_eq_true, lit_nI, nI_add, pk_mul, nI_leI, nI_ltI, nI_eq, x_noSet hS hW.1 hm, s0o hy]) (by simp (config := { maxSteps := 2000000 }) (disch := omega) only [f254, ux_at, ux_kk, ux_jo, gIm, pIm, pZm, gRm, aIm, sIm, aBm, sBm, gLm, pLm, clm, wshS, obS, reduceIte, Nat.one_ne_zero, Nat.zero_ne_one, Nat.reduceEqDiff, not_true_eq_false, not_false_eq_true, Nat.le_refl, ng_le, ng_lt, ng_nle, ng_nlt, ng_eq, ng_eq2, Bool.false_eq_true, lit_nI, nI_add, pk_mul, nI_leI, nI_ltI, nI_eq, s119 hM hW.1 hm, s131o hy])
  rcases ixr z (a := 0) (b := 1) (by decide) (by decide) with hz | ⟨what, -, hw, rfl⟩
  · exact STEP.same hI (v := -nI 1000002) (by simp (config := { maxSteps := 2000000 }) (disch := omega) only [f241, ux_at, ux_kk, ux_jo, gIx, pIx, pZx, gRx, aIx, sIx, aBx, sBx, lenx, clx, wshS, obS, reduceIte, Nat.one_ne_zero, Nat.zero_ne_one, Nat.reduceEqDiff, not_true_eq_false, not_false_eq_true, Nat.le_refl, ng_le, ng_lt, ng_nle, ng_nlt, ng_eq, ng_eq2, Bool.false_eq_true, lit_nI, nI_add, pk_mul, nI_leI, nI_ltI, nI_eq, x_noSet hS hW.1 hm, s0i, s0o hz]) (by simp (config := { maxSteps := 2000000 }) (disch := omega) only [f254, ux_at, ux_kk, ux_jo, gIm, pIm, pZm, gRm, aIm, sIm, aBm, sBm, gLm, pLm, clm, wshS, obS, reduceIte, Nat.one_ne_zero, Nat.zero_ne_one, Nat.reduceEqDiff, not_true_eq_false, not_false_eq_true, Nat.le_refl, ng_le, ng_lt, ng_nle, ng_nlt, ng_eq, ng_eq2, Bool.false_eq_true, lit_nI, nI_add, pk_mul, nI_leI, nI_ltI, nI_eq, lit_lN, s119 hM hW.1 hm, s131, s40o (show 0 < 2 ^ 31 by decide) (show 1 < 2 ^ 31 by decide) hz])
  obtain ⟨o1, o2, o3⟩ := ship_ok hW.1
  have eL : (-1000000000 : Int32) = iI (-1000000000) := by decide +kernel
  refine STEP.q hI (v := if what = 0 then nI (brS A m t 200).1 else (brS A m t 200).2) ?_ fun I2 L2 ru2 hM2 _ hC2 => m254 hM2 hW hC2 hm ht1 ht hw (by omega)
  have key : ∃ I' ru', f241_H44 n (fun e3 e4 e5 w24 => (if ¬ e3 = 0 then some (e4, w24) else some (e5, w24))) n 0 (nI m) (nI t) (nI what) (iI (-1000000000)) (nI 0) (nI 0) (mW I L ru) = some (if what = 0 then nI (brS A m t 200).1 else (brS A m t 200).2, mW I' L ru') ∧ Fr (slK ++ [33]) [] I I' ∧ CXc I' A := by
    refine lpP (F := fun k i (s : Int32 × Nat × St × Nat) => f241_H44 n (fun e3 e4 e5 w24 => (if ¬ e3 = 0 then some (e4, w24) else some (e5, w24))) k 0 (nI m) (nI t) (nI what) s.1 (nI s.2.1) (nI i) (mW s.2.2.1 L s.2.2.2)) (P := fun y => ∃ I' ru', y = some (if what = 0 then nI (brS A m t 200).1 else (brS A m t 200).2, mW I' L ru') ∧ Fr (slK ++ [33]) [] I I' ∧ CXc I' A) (J := fun i s => Fr (slK ++ [33]) [] I s.2.2.1 ∧ CXc s.2.2.1 A ∧ ((i = 0 ∧ s.1 = iI (-1000000000) ∧ s.2.1 = 0) ∨ (0 < i ∧ s.1 = (brS A m t i).2 ∧ s.2.1 = (brS A m t i).1))) 200 ?_ ?_ n 0 (iI (-1000000000), 0, I, ru) (by omega) (by omega) ⟨Fr.rf, hX, Or.inl ⟨rfl, rfl, rfl⟩⟩
    · rintro k ⟨b, u, J, ru1⟩ ⟨j1, j2, j3⟩
      generalize hB : brS A m t 200 = B at *
      have j3 : b = B.2 ∧ u = B.1 := by
        rcases j3 with ⟨z, -⟩ | ⟨-, z⟩
        · exact absurd z (by decide)
        · exact z
      obtain ⟨rfl, rfl⟩ := j3
      rcases (show what = 0 ∨ what = 1 by omega) with rfl | rfl
      · simp (config := { maxSteps := 2000000 }) (disch := omega) only [f241_H44, ux_at, ux_kk, ux_jo, gIx, pIx, pZx, gRx, aIx, sIx, aBx, sBx, lenx, clx, wshS, obS, reduceIte, Nat.one_ne_zero, Nat.zero_ne_one, Nat.reduceEqDiff, not_true_eq_false, not_false_eq_true, Nat.le_refl, ng_le, ng_lt, ng_nle, ng_nlt, ng_eq, ng_eq2, Bool.false_eq_true, lit_nI, nI_add, pk_mul, nI_leI, nI_ltI, nI_eq]
        exact ⟨J, ru1, rfl, j1, j2⟩
      · simp (config := { maxSteps := 2000000 }) (disch := omega) only [f241_H44, ux_at, ux_kk, ux_jo, gIx, pIx, pZx, gRx, aIx, sIx, aBx, sBx, lenx, clx, wshS, obS, reduceIte, Nat.one_ne_zero, Nat.zero_ne_one, Nat.reduceEqDiff, not_true_eq_false, not_false_eq_true, Nat.le_refl, ng_le, ng_lt, ng_nle, ng_nlt, ng_eq, ng_eq2, Bool.false_eq_true, lit_nI, nI_add, pk_mul, nI_leI, nI_ltI, nI_eq]
        exact ⟨J, ru1, rfl, j1, j2⟩
    · rintro k i ⟨b, u, J, ru1⟩ hi ⟨j1, j2, j3⟩ ih
      have j1 : Fr (slK ++ [33]) [] I J := j1
      have j2 : CXc J A := j2
      have hi2 : ¬ 200 ≤ i := by omega
      have hRK := shrN_ok hi
      obtain ⟨J1, e1, f1, x1⟩ := x_becomeI (I := J) (L := L) (ru := ru1) hi
      have g1 : Fr (slK ++ [33]) [] I J1 := j1.tr (f1.mono (by decide +kernel) (by decide))
      obtain ⟨J2, e2, f2, c2, p2, n2⟩ := x_xsail (L := L) (ru := ru1) (n := n) (hours := t) (hS.fr hW.1 g1 (by decide +kernel)) (hH.fr g1 (by decide +kernel) (by decide +kernel)) (j2.fr f1 (by decide) (by decide)) hW sh_33 x1 hRK (by omega) hn
      have g2 : Fr (slK ++ [33]) [] I J2 := g1.tr (f2.mono (by decide +kernel) (by decide))
      have hGl := gonN_le A (shS A (shrN i) (lagN A)) t
      have hSo : ∀ t, ShOk (shS A (shrN i) (lagN A) t) := fun t => rnS_ok hW.1 hRK o1 o2 t
      have e3 := x_worthTo2 (L := L) (ru := 33) (n := n) (m := m) (hours := t) (hS.fr hW.1 g2 (by decide +kernel)) hW.1 n2 hSo (by omega) (by omega) (by omega) (by omega)
      have ev : valI A m (shS A (shrN i) (lagN A)) (gonN A (shS A (shrN i) (lagN A)) t) t = vkI A m t i := rfl
      have hb : ¬ vkI A m t i ≤ iI (-1000000000) := (valI_bd hW.1 hSo t).gt (by omega)
      rw [ev] at e3
      have eb : brS A m t (i + 1) = if i = 0 ∨ ¬ vkI A m t i ≤ (brS A m t i).2 then (i, vkI A m t i) else brS A m t i := rfl
      by_cases q : i = 0 ∨ ¬ vkI A m t i ≤ (brS A m t i).2
      · rw [if_pos q] at eb
        have hq : ¬ vkI A m t i ≤ b := by
          rcases j3 with ⟨-, z, -⟩ | ⟨z0, z, -⟩
          · have z : b = iI (-1000000000) := z
            rw [z]
            exact hb
          · have z : b = (brS A m t i).2 := z
            rw [z]
            rcases q with q | q
            · omega
            · exact q
        simp (config := { maxSteps := 2000000 }) (disch := omega) only [f241_H44, ux_at, ux_kk, ux_jo, gIx, pIx, pZx, gRx, aIx, sIx, aBx, sBx, lenx, clx, wshS, obS, reduceIte, Nat.one_ne_zero, Nat.zero_ne_one, Nat.reduceEqDiff, not_true_eq_false, not_false_eq_true, Nat.le_refl, ng_le, ng_lt, ng_nle, ng_nlt, ng_eq, ng_eq2, Bool.false_eq_true, lit_nI, nI_add, pk_mul, nI_leI, nI_ltI, nI_eq, hi2, pk_div, irm_nI, e1, e2, e3, hq]
        exact ih (vkI A m t i, i, J2, 33) ⟨g2, Or.inr ⟨c2, p2⟩, Or.inr ⟨by omega, by rw [eb], by rw [eb]⟩⟩
      · rw [if_neg q] at eb
        have hi0 : 0 < i := Nat.pos_of_ne_zero fun z => q (Or.inl z)
        have hq : vkI A m t i ≤ b := by
          rcases j3 with ⟨z, -⟩ | ⟨z0, z, -⟩
          · omega
          · have z : b = (brS A m t i).2 := z
            rw [z]
            exact Classical.byContradiction fun z2 => q (Or.inr z2)
        have j3' : b = (brS A m t i).2 ∧ u = (brS A m t i).1 := by
          rcases j3 with ⟨z, -⟩ | ⟨-, z⟩
          · omega
          · exact z
        simp (config := { maxSteps := 2000000 }) (disch := omega) only [f241_H44, ux_at, ux_kk, ux_jo, gIx, pIx, pZx, gRx, aIx, sIx, aBx, sBx, lenx, clx, wshS, obS, reduceIte, Nat.one_ne_zero, Nat.zero_ne_one, Nat.reduceEqDiff, not_true_eq_false, not_false_eq_true, Nat.le_refl, ng_le, ng_lt, ng_nle, ng_nlt, ng_eq, ng_eq2, Bool.false_eq_true, lit_nI, nI_add, pk_mul, nI_leI, nI_ltI, nI_eq, hi2, pk_div, irm_nI, e1, e2, e3, hq]
        exact ih (b, u, J2, 33) ⟨g2, Or.inr ⟨c2, p2⟩, Or.inr ⟨by omega, by rw [eb]; exact j3'.1, by rw [eb]; exact j3'.2⟩⟩
  obtain ⟨I1, ru1, k1, k2, k3⟩ := key
  refine ⟨I1, L, ru1, ?_, k2.mono (by decide +kernel) (by decide), k3⟩
  rw [← eL] at k1
  simp (config := { maxSteps := 2000000 }) (disch := omega) only [f241, ux_at, ux_kk, ux_jo, gIx, pIx, pZx, gRx, aIx, sIx, aBx, sBx, lenx, clx, wshS, obS, reduceIte, Nat.one_ne_zero, Nat.zero_ne_one, Nat.reduceEqDiff, not_true_eq_false, not_false_eq_true, Nat.le_refl, ng_le, ng_lt, ng_nle, ng_nlt, ng_eq, ng_eq2, Bool.false_eq_true, lit_nI, nI_add, pk_mul, nI_leI, nI_ltI, nI_eq, x_noSet hS hW.1 hm, s0i]
  exact k1
theorem q_voyage (hI : INV I A) (x y z : Int32) (hn : 1000 < n) : STEP I L ru (f242 n 0 x y z) (f231 n 67 x y z) := by
  have hI9 := hI
  obtain ⟨hM, hW, hC, hX, ⟨hS, hH, hR, hT, hL, hG⟩, sd, hsd, hs1, hs2⟩ := hI9
  have h6 := ns6 hW.1
  have h7 := p2_le (nsN A) (by omega)
  have h4 := nr4 hW
  rcases ixc x (n := nrN A) (by omega) with hx | ⟨r, hr, rfl⟩
  · exact STEP.same hI (v := -nI 1000001) (by simp (config := { maxSteps := 2000000 }) (disch := omega) only [f242, ux_at, ux_kk, ux_jo, gIx, pIx, pZx, gRx, aIx, sIx, aBx, sBx, lenx, clx, wshS, obS, reduceIte, Nat.one_ne_zero, Nat.zero_ne_one, Nat.reduceEqDiff, not_true_eq_false, not_false_eq_true, Nat.le_refl, ng_le, ng_lt, ng_nle, ng_nlt, ng_eq, ng_eq2, Bool.false_eq_true, lit_nI, nI_add, pk_mul, nI_leI, nI_ltI, nI_eq, x_noRuleo hR hW hx]) (by simp (config := { maxSteps := 2000000 }) (disch := omega) only [f231, ux_at, ux_kk, ux_jo, gIm, pIm, pZm, gRm, aIm, sIm, aBm, sBm, gLm, pLm, clm, wshS, obS, reduceIte, Nat.one_ne_zero, Nat.zero_ne_one, Nat.reduceEqDiff, not_true_eq_false, not_false_eq_true, Nat.le_refl, ng_le, ng_lt, ng_nle, ng_nlt, ng_eq, ng_eq2, Bool.false_eq_true, lit_nI, nI_add, pk_mul, nI_leI, nI_ltI, nI_eq, s126o hM hW.2 hx])
  rcases ixr y (a := 0) (b := 100) (by decide) (by decide) with hy | ⟨q, -, hq, rfl⟩
  · exact STEP.same hI (v := -nI 1000002) (by simp (config := { maxSteps := 2000000 }) (disch := omega) only [f242, ux_at, ux_kk, ux_jo, gIx, pIx, pZx, gRx, aIx, sIx, aBx, sBx, lenx, clx, wshS, obS, reduceIte, Nat.one_ne_zero, Nat.zero_ne_one, Nat.reduceEqDiff, not_true_eq_false, not_false_eq_true, Nat.le_refl, ng_le, ng_lt, ng_nle, ng_nlt, ng_eq, ng_eq2, Bool.false_eq_true, lit_nI, nI_add, pk_mul, nI_leI, nI_ltI, nI_eq, x_noRule hR hW hr, s0o hy]) (by simp (config := { maxSteps := 2000000 }) (disch := omega) only [f231, ux_at, ux_kk, ux_jo, gIm, pIm, pZm, gRm, aIm, sIm, aBm, sBm, gLm, pLm, clm, wshS, obS, reduceIte, Nat.one_ne_zero, Nat.zero_ne_one, Nat.reduceEqDiff, not_true_eq_false, not_false_eq_true, Nat.le_refl, ng_le, ng_lt, ng_nle, ng_nlt, ng_eq, ng_eq2, Bool.false_eq_true, lit_nI, nI_add, pk_mul, nI_leI, nI_ltI, nI_eq, lit_lN, s126 hM hW.2 hr, s40o (show 0 < 2 ^ 31 by decide) (show 100 < 2 ^ 31 by decide) hy])
  rcases ixr z (a := 1) (b := 99) (by decide) (by decide) with hz | ⟨t, ht1, ht, rfl⟩
  · exact STEP.same hI (v := -nI 1000002) (by simp (config := { maxSteps := 2000000 }) (disch := omega) only [f242, ux_at, ux_kk, ux_jo, gIx, pIx, pZx, gRx, aIx, sIx, aBx, sBx, lenx, clx, wshS, obS, reduceIte, Nat.one_ne_zero, Nat.zero_ne_one, Nat.reduceEqDiff, not_true_eq_false, not_false_eq_true, Nat.le_refl, ng_le, ng_lt, ng_nle, ng_nlt, ng_eq, ng_eq2, Bool.false_eq_true, lit_nI, nI_add, pk_mul, nI_leI, nI_ltI, nI_eq, x_noRule hR hW hr, s0i, s0o hz]) (by simp (config := { maxSteps := 2000000 }) (disch := omega) only [f231, ux_at, ux_kk, ux_jo, gIm, pIm, pZm, gRm, aIm, sIm, aBm, sBm, gLm, pLm, clm, wshS, obS, reduceIte, Nat.one_ne_zero, Nat.zero_ne_one, Nat.reduceEqDiff, not_true_eq_false, not_false_eq_true, Nat.le_refl, ng_le, ng_lt, ng_nle, ng_nlt, ng_eq, ng_eq2, Bool.false_eq_true, lit_nI, nI_add, pk_mul, nI_leI, nI_ltI, nI_eq, lit_lN, s126 hM hW.2 hr, s40i, s40o (show 1 < 2 ^ 31 by decide) (show 99 < 2 ^ 31 by decide) hz])
  have hRK := (ruN_at hW.2 hr).1
  have hrr := ruleRS r (show r < 4 by omega)
  obtain ⟨I1, e1, f1, c1, p1⟩ := x_ready (L := L) (ru := ru) (n := n) hS hH hW hX hn
  have hX1 := (hR.2 r hr).fr f1 (rr_nK hrr (by decide)) (rr_ne hrr)
  obtain ⟨I2, e2, f2, n2⟩ := x_begin (I := I1) (A := A) (L := L) (ru := ru) (n := n) (m := 0) hrr hX1 hn
  have hS2 := (hS.fr hW.1 f1 (by decide)).fr hW.1 f2 (by decide)
  have p2 := p1.fr f2 (by decide)
  have s2 : I2 34 4 = nI sd := by rw [f2.at (by decide) (by decide), f1.at (by decide) (by decide)]; exact hs2
  obtain ⟨I3, e3, f3, g3, j3, s3, b3⟩ := x_sailq (L := L) (ru := 29 + r) (n := n) (hours := t) hS2 p2 hW hrr (hX1.fr f2 (rr_nK hrr (by decide)) (rr_ne hrr)) hRK hq ht s2 hsd (by omega)
  have e4 := x_start (L := L) (ru := 29 + r) hS2 hW.1
  generalize hGe : vyG A (ruN A r) (lagN A) q sd t = G at *
  have hG9 : G ≤ 99 := by rw [← hGe]; exact Nat.le_trans (gonN_le _ _ _) ht
  have e5 := x_placeAt (L := L) (ru := 29 + r) (j := G) j3 (fun t => vyS_ok hW.1 hRK t) (Nat.le_refl _) (by omega)
  have hgo := j3.2.2.1
  obtain ⟨v1, v2, -, -⟩ := vyS_ok hW.1 hRK (g := lagN A) (q := q) (seed := sd) G
  have d1 : (8 * (vyS A (ruN A r) (lagN A) q sd G).1.1 + (vyS A (ruN A r) (lagN A) q sd G).1.2.1) / 8 = (vyS A (ruN A r) (lagN A) q sd G).1.1 := by omega
  have f9 : Fr (slK ++ [57, 34]) [] I I3 := (f1.mono (by decide +kernel) (by decide)).tr ((f2.mono (by decide +kernel) (by decide)).tr (f3.mono (by decide +kernel) (by decide)))
  have hM3 := hM.fr f9 (by decide) (by decide +kernel) (by decide +kernel)
  have hC3 := hC.fr f9 (by decide +kernel) (by decide +kernel) (by decide)
  have h60 : I3 67 60 = nI sd := (f9.f (by decide +kernel) (by decide)).trans hs1
  obtain ⟨I4, e6, f6, c6, s6, b6⟩ := m231 (L := L) (ru := 29 + r) (n := n) hM3 hW hC3 hr hq ht1 ht h60 hsd (by omega)
  rw [hGe] at e6 s6 b6
  have held3 : I3 34 3 = I 34 3 := by
    rw [g3 3 (by decide), f2.at (by decide) (by decide), f1.at (by decide) (by decide)]
  have cp3 : CP I3 A := ⟨hS.fr hW.1 f9 (by decide +kernel), hH.fr f9 (by decide +kernel) (by decide +kernel), hR.fr h4 f9 (by decide +kernel), hT.fr f9 (by decide +kernel) (by decide +kernel), hL.of held3 (f9.at (by decide +kernel) (by decide)), hG.fr f9 (by decide +kernel)⟩
  have cx3 : CXc I3 A := Or.inr ⟨by
    rw [f3.at (by decide) (by decide), f2.at (by decide) (by decide)]
    exact c1, p2.fr f3 (by decide)⟩
  refine ⟨nI (vyS A (ruN A r) (lagN A) q sd G).1.1, mW I3 L (29 + r), I4, L, 29 + r, A, ?_, e6, rfl, hM3.fr f6 (by decide) (by decide) (by decide), hW, c6, cx3.fr f6 (by decide) (by decide), cp3.fr hW.1 h4 f6 (by decide +kernel), (vyS A (ruN A r) (lagN A) q sd G).2, b6, s6, ?_⟩
  · simp (config := { maxSteps := 2000000 }) (disch := omega) only [f242, f221, ux_at, ux_kk, ux_jo, gIx, pIx, pZx, gRx, aIx, sIx, aBx, sBx, lenx, clx, wshS, obS, reduceIte, Nat.one_ne_zero, Nat.zero_ne_one, Nat.reduceEqDiff, not_true_eq_false, not_false_eq_true, Nat.le_refl, ng_le, ng_lt, ng_nle, ng_nlt, ng_eq, ng_eq2, Bool.false_eq_true, lit_nI, nI_add, pk_mul, nI_leI, nI_ltI, nI_eq, x_noRule hR hW hr, s0i, ruleR, e1, e2, e4, e3, hgo, e5, x_cellOf, d1]
  · rw [f6.at (by decide) (by decide)]
    exact s3
end
