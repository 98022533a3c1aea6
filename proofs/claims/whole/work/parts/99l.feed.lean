/-! BOTH TOGETHER: feed -/
def byN (x : Int64) (q : Nat) : Nat := x.toBitVec.toNat / 2 ^ (8 * q) % 256
theorem byN_lt (x : Int64) (q : Nat) : byN x q < 256 := Nat.mod_lt _ (by decide)
theorem sm64 : ∀ i, i < 8 → (((nI (8 * i)).toInt64 &&& lN 63).toBitVec.smod 64).toNat = 8 * i := by decide +kernel
theorem by_x (x : Int64) {i : Nat} (hi : i < 8) : Int64.toInt32 (lush x (nI (8 * i))) &&& nI 255 = nI (byN x i) := by
  obtain ⟨N, hN, rfl⟩ := wb_of x
  have h1 : lush (lN N) (nI (8 * i)) = lN (N / 2 ^ (8 * i)) := wb_shr hN (by omega)
  rw [h1, lN_i, and_nIg]
  unfold byN
  rw [wb_tn hN]
  rw [show 255 = 2 ^ 8 - 1 from rfl, Nat.and_two_pow_sub_one_eq_mod]
theorem by_m (x : Int64) {i : Nat} (hi : i < 8) : Int64.toInt32 ((x >>> (Int32.toInt64 (nI (8 * i)) &&& lN 63)) &&& lN 255) = nI (byN x i) := by
  obtain ⟨N, hN, rfl⟩ := wb_of x
  have e : (lN N >>> (Int32.toInt64 (nI (8 * i)) &&& lN 63)) &&& lN 255 = lN (byN (lN N) i) := by
    apply wb_inj
    have h2 : (lN N >>> (Int32.toInt64 (nI (8 * i)) &&& lN 63)).toBitVec = (lN N).toBitVec.sshiftRight' ((Int32.toInt64 (nI (8 * i)) &&& lN 63).toBitVec.smod 64) := rfl
    rw [Int64.toBitVec_and, h2, BitVec.sshiftRight_eq', sm64 i hi]
    apply BitVec.eq_of_getLsbD_eq
    intro j hj
    unfold byN
    rw [wb_tn hN, BitVec.getLsbD_and, BitVec.getLsbD_sshiftRight, wb_tb, wb_tb, wb_tb, BitVec.getLsbD_ofNat, BitVec.getLsbD_ofNat, BitVec.getLsbD_ofNat, show 256 = 2 ^ 8 from rfl, Nat.testBit_mod_two_pow, Nat.testBit_div_two_pow]
    by_cases h8 : j < 8
    · have h9 : Nat.testBit 255 j = true := by
        have : ∀ j, j < 8 → Nat.testBit 255 j = true := by decide
        exact this j h8
      have h10 : 8 * i + j < 64 := by omega
      have h11 : ¬ 64 ≤ j := by omega
      have h12 : j + 8 * i = 8 * i + j := Nat.add_comm _ _
      simp [h8, h9, h10, h11, hj, h12]
    · have h9 : Nat.testBit 255 j = false := Nat.testBit_lt_two_pow (Nat.lt_of_lt_of_le (show 255 < 2 ^ 8 by decide) (Nat.pow_le_pow_right (by decide) (by omega)))
      simp [h8, h9]
  rw [e, lN_i]
theorem toB2 : ∀ b, b < 256 → (toB (toB (nI b))) = toB (nI b) := by decide +kernel
section
variable {I A : St} {L : Lt} {ru n : Nat}
theorem x_append {t b : Nat} (hl : I 1 1 = nI t) (ht : t < 300) (hb : b < 256) : f1 1 (nI b) (mW I L ru) = some (mW (u2 (u2 I 2 t (toB (nI b))) 1 1 (nI (t + 1))) L ru) := by
  have e1 := len_of (I := I) (L := L) (ru := ru) sh_2 (by decide)
  have e2 : (u2 I 2 t (toB (nI b))) 1 1 = nI t := (ux_k (by decide)).trans hl
  simp (config := { maxSteps := 2000000 }) (disch := omega) only [f1, ux_at, ux_kk, ux_jo, gIx, pIx, pZx, gRx, aIx, sIx, aBx, sBx, lenx, clx, wshS, obS, reduceIte, Nat.one_ne_zero, Nat.zero_ne_one, Nat.reduceEqDiff, not_true_eq_false, not_false_eq_true, Nat.le_refl, ng_le, ng_lt, ng_nle, ng_nlt, ng_eq, ng_eq2, Bool.false_eq_true, lit_nI, nI_add, pk_mul, nI_leI, nI_ltI, nI_eq, hl, e1, ht, toB2, e2]
theorem x_feedL {t m : Nat} {x : Int64} (hl : I 1 1 = nI t) (ht : t + m ≤ 300) (hm : m ≤ 8) (hn : 20 < n) : ∃ I', f72_H36 n (fun e0 w13 => ob (getR w13 10 e0 0) (fun x14 => ob (getI w13 9 x14 1) (fun x16 => some (x16, w13)))) n 0 x (nI (m - 0) + -nI 1) (mW I L ru) = some (nI (t + m), mW I' L ru) ∧ Fr [1, 2] [] I I' ∧ (∀ j, j ≠ 1 → I' 1 j = I 1 j) ∧ I' 1 1 = nI (t + m) ∧ (∀ j, j < t → I' 2 j = I 2 j) ∧ ∀ j, j < m → I' 2 (t + j) = toB (nI (byN x (m - 1 - j))) := by
  refine lpP (F := fun k i J => f72_H36 n (fun e0 w13 => ob (getR w13 10 e0 0) (fun x14 => ob (getI w13 9 x14 1) (fun x16 => some (x16, w13)))) k 0 x (nI (m - i) + -nI 1) (mW J L ru)) (P := fun y => ∃ I', y = some (nI (t + m), mW I' L ru) ∧ Fr [1, 2] [] I I' ∧ (∀ j, j ≠ 1 → I' 1 j = I 1 j) ∧ I' 1 1 = nI (t + m) ∧ (∀ j, j < t → I' 2 j = I 2 j) ∧ ∀ j, j < m → I' 2 (t + j) = toB (nI (byN x (m - 1 - j)))) (J := fun i J => Fr [1, 2] [] I J ∧ (∀ j, j ≠ 1 → J 1 j = I 1 j) ∧ J 1 1 = nI (t + i) ∧ (∀ j, j < t → J 2 j = I 2 j) ∧ ∀ j, j < i → J 2 (t + j) = toB (nI (byN x (m - 1 - j)))) m ?_ ?_ n 0 I (by omega) (by omega) ⟨Fr.rf, fun _ _ => rfl, hl, fun _ _ => rfl, fun j hj => absurd hj (Nat.not_lt_zero _)⟩
  · rintro k J ⟨a1, a2, a3, a4, a5⟩
    have e0 : nI (m - m) + -nI 1 = -nI 1 := by rw [Nat.sub_self]; exact dn_0
    simp (config := { maxSteps := 2000000 }) (disch := omega) only [f72_H36, ux_at, ux_kk, ux_jo, gIx, pIx, pZx, gRx, aIx, sIx, aBx, sBx, lenx, clx, wshS, obS, reduceIte, Nat.one_ne_zero, Nat.zero_ne_one, Nat.reduceEqDiff, not_true_eq_false, not_false_eq_true, Nat.le_refl, ng_le, ng_lt, ng_nle, ng_nlt, ng_eq, ng_eq2, Bool.false_eq_true, lit_nI, nI_add, pk_mul, nI_leI, nI_ltI, nI_eq, e0, a3]
    exact ⟨J, rfl, a1, a2, a3, a4, a5⟩
  · rintro k i J hi ⟨a1, a2, a3, a4, a5⟩ ih
    have hdn : nI (m - i) + -nI 1 = nI (m - 1 - i) := by
      rw [dn_nI (by omega)]
      congr 1
      omega
    have hdn2 : nI (m - 1 - i) = nI (m - (i + 1)) := by
      congr 1
      omega
    have e1 := by_x x (i := m - 1 - i) (by omega)
    have e2 := x_append (I := J) (L := L) (ru := ru) (b := byN x (m - 1 - i)) a3 (by omega) (byN_lt _ _)
    have z := ih _ (show Fr [1, 2] [] I (u2 (u2 J 2 (t + i) (toB (nI (byN x (m - 1 - i))))) 1 1 (nI (t + i + 1))) ∧ _ from ⟨(a1.u (by decide)).u (by decide), fun j hj => (ux_j hj).trans ((ux_k (by decide)).trans (a2 j hj)), ux_at, fun j hj => (ux_k (by decide)).trans ((ux_j (by omega)).trans (a4 j hj)), fun j hj => by
      refine (ux_k (by decide)).trans ?_
      rw [ux_if]
      by_cases e : j = i
      · rw [if_pos (by omega), e]
      · rw [if_neg (by omega)]
        exact a5 j (by omega)⟩)
    rw [← hdn2] at z
    simp (config := { maxSteps := 2000000 }) (disch := omega) only [f72_H36, ux_at, ux_kk, ux_jo, gIx, pIx, pZx, gRx, aIx, sIx, aBx, sBx, lenx, clx, wshS, obS, reduceIte, Nat.one_ne_zero, Nat.zero_ne_one, Nat.reduceEqDiff, not_true_eq_false, not_false_eq_true, Nat.le_refl, ng_le, ng_lt, ng_nle, ng_nlt, ng_eq, ng_eq2, Bool.false_eq_true, lit_nI, nI_add, pk_mul, nI_leI, nI_ltI, nI_eq, hdn, Nat.not_lt_zero, e1, e2]
    exact z
theorem m_feedL {t m : Nat} {x : Int64} (hl : I 67 15 = nI t) (ht : t + m ≤ 300) (hm : m ≤ 8) (hn : 20 < n) : ∃ I', f110_H35 n (fun e0 w16 => ob (getI w16 11 e0 15) (fun x17 => some (x17, w16))) n 67 x (nI (m - 0) + -nI 1) (mW I L ru) = some (nI (t + m), mW I' L ru) ∧ Fr [76] [15] I I' ∧ I' 67 15 = nI (t + m) ∧ (∀ j, j < t → I' 76 j = I 76 j) ∧ ∀ j, j < m → I' 76 (t + j) = nI (byN x (m - 1 - j)) := by
  refine lpP (F := fun k i J => f110_H35 n (fun e0 w16 => ob (getI w16 11 e0 15) (fun x17 => some (x17, w16))) k 67 x (nI (m - i) + -nI 1) (mW J L ru)) (P := fun y => ∃ I', y = some (nI (t + m), mW I' L ru) ∧ Fr [76] [15] I I' ∧ I' 67 15 = nI (t + m) ∧ (∀ j, j < t → I' 76 j = I 76 j) ∧ ∀ j, j < m → I' 76 (t + j) = nI (byN x (m - 1 - j))) (J := fun i J => Fr [76] [15] I J ∧ J 67 15 = nI (t + i) ∧ (∀ j, j < t → J 76 j = I 76 j) ∧ ∀ j, j < i → J 76 (t + j) = nI (byN x (m - 1 - j))) m ?_ ?_ n 0 I (by omega) (by omega) ⟨Fr.rf, hl, fun _ _ => rfl, fun j hj => absurd hj (Nat.not_lt_zero _)⟩
  · rintro k J ⟨a1, a3, a4, a5⟩
    have e0 : nI (m - m) + -nI 1 = -nI 1 := by rw [Nat.sub_self]; exact dn_0
    simp (config := { maxSteps := 2000000 }) (disch := omega) only [f110_H35, ux_at, ux_kk, ux_jo, gIm, pIm, pZm, gRm, aIm, sIm, aBm, sBm, gLm, pLm, clm, wshS, obS, reduceIte, Nat.one_ne_zero, Nat.zero_ne_one, Nat.reduceEqDiff, not_true_eq_false, not_false_eq_true, Nat.le_refl, ng_le, ng_lt, ng_nle, ng_nlt, ng_eq, ng_eq2, Bool.false_eq_true, lit_nI, nI_add, pk_mul, nI_leI, nI_ltI, nI_eq, e0, a3]
    exact ⟨J, rfl, a1, a3, a4, a5⟩
  · rintro k i J hi ⟨a1, a3, a4, a5⟩ ih
    have hdn : nI (m - i) + -nI 1 = nI (m - 1 - i) := by
      rw [dn_nI (by omega)]
      congr 1
      omega
    have hdn2 : nI (m - 1 - i) = nI (m - (i + 1)) := by
      congr 1
      omega
    have e1 := by_m x (i := m - 1 - i) (by omega)
    have e3 : ∀ v, (u2 J 76 (t + i) v) 67 15 = nI (t + i) := fun v => (ux_k (by decide)).trans a3
    have z := ih _ (show Fr [76] [15] I (u2 (u2 J 76 (t + i) (nI (byN x (m - 1 - i)))) 67 15 (nI (t + i + 1))) ∧ _ from ⟨(a1.u (by decide)).uf (by decide), ux_at, fun j hj => (ux_k (by decide)).trans ((ux_j (by omega)).trans (a4 j hj)), fun j hj => by
      refine (ux_k (by decide)).trans ?_
      rw [ux_if]
      by_cases e : j = i
      · rw [if_pos (by omega), e]
      · rw [if_neg (by omega)]
        exact a5 j (by omega)⟩)
    rw [← hdn2] at z
    simp (config := { maxSteps := 2000000 }) (disch := omega) only [f110_H35, ux_at, ux_kk, ux_jo, gIm, pIm, pZm, gRm, aIm, sIm, aBm, sBm, gLm, pLm, clm, wshS, obS, reduceIte, Nat.one_ne_zero, Nat.zero_ne_one, Nat.reduceEqDiff, not_true_eq_false, not_false_eq_true, Nat.le_refl, ng_le, ng_lt, ng_nle, ng_nlt, ng_eq, ng_eq2, Bool.false_eq_true, lit_nI, nI_add, pk_mul, nI_leI, nI_ltI, nI_eq, lit_lN, hdn, Nat.not_lt_zero, a3, e1, e3]
    exact z
theorem q_feed (hI : INV I A) (y : Int32) (x : Int64) (hn : 1000 < n) : STEP I L ru (f72 n 0 y x) (f110 n 67 y x) := by
  have hI9 := hI
  obtain ⟨hM, hW, hC, hX, ⟨hS, hH, hR, hT, hL, hG⟩, sd, hsd, hs1, hs2⟩ := hI9
  have h6 := ns6 hW.1
  have h7 := p2_le (nsN A) (by omega)
  have h4 := nr4 hW
  have htx := hW.2.2.1
  rcases ixr y (a := 1) (b := 8) (by decide) (by decide) with hy | ⟨m, hm1, hm, rfl⟩
  · exact STEP.same hI (v := -nI 1000002) (by simp (config := { maxSteps := 2000000 }) (disch := omega) only [f72, ux_at, ux_kk, ux_jo, gIx, pIx, pZx, gRx, aIx, sIx, aBx, sBx, lenx, clx, wshS, obS, reduceIte, Nat.one_ne_zero, Nat.zero_ne_one, Nat.reduceEqDiff, not_true_eq_false, not_false_eq_true, Nat.le_refl, ng_le, ng_lt, ng_nle, ng_nlt, ng_eq, ng_eq2, Bool.false_eq_true, lit_nI, nI_add, pk_mul, nI_leI, nI_ltI, nI_eq, s0o hy]) (by simp (config := { maxSteps := 2000000 }) (disch := omega) only [f110, ux_at, ux_kk, ux_jo, gIm, pIm, pZm, gRm, aIm, sIm, aBm, sBm, gLm, pLm, clm, wshS, obS, reduceIte, Nat.one_ne_zero, Nat.zero_ne_one, Nat.reduceEqDiff, not_true_eq_false, not_false_eq_true, Nat.le_refl, ng_le, ng_lt, ng_nle, ng_nlt, ng_eq, ng_eq2, Bool.false_eq_true, lit_nI, nI_add, pk_mul, nI_leI, nI_ltI, nI_eq, lit_lN, s40o (show 1 < 2 ^ 31 by decide) (show 8 < 2 ^ 31 by decide) hy])
  by_cases q : txN A + m ≤ 300
  · have hs : nI m - nI 1 = nI (m - 0) + -nI 1 := by rw [Nat.sub_zero, Int32.sub_eq_add_neg]
    obtain ⟨I1, e1, f1, a1, a2, a3, a4⟩ := x_feedL (L := L) (ru := ru) (n := n) (x := x) hT.1 q hm (by omega)
    have hM1 := hM.fr f1 (by decide) (by decide) (by decide)
    have t1 : I1 67 15 = nI (txN A) := (hM1.1 15 (by decide)).trans htx.1
    obtain ⟨I2, e2, f2, b2, b3, b4⟩ := m_feedL (L := L) (ru := ru) (n := n) (x := x) t1 q hm (by omega)
    have f3 : Fr [1, 2, 76] [15] I I2 := (f1.mono (by decide) (by decide)).tr (f2.mono (by decide) (by decide))
    have g := agw_of hM f3 (by decide) (by decide) (by decide)
    have e16 := mc_f hM f3 (by decide) (j := 16) (by decide) (by decide)
    have e37 := mc_f hM f3 (by decide) (j := 37) (by decide) (by decide)
    have e56 := mc_f hM f3 (by decide) (j := 56) (by decide) (by decide)
    have kr := mc_k hM f3 (k := 84) (by decide) (by decide)
    have kl := mc_k hM f3 (k := 90) (by decide) (by decide)
    have ki := mc_k hM f3 (k := 93) (by decide) (by decide)
    have kk := mc_k hM f3 (k := 94) (by decide) (by decide)
    have s60 : I2 67 60 = nI sd := (f3.f (by decide) (by decide)).trans hs1
    have s34 : I2 34 4 = nI sd := by rw [f3.at (by decide) (by decide)]; exact hs2
    have t2 : txN I2 = txN A + m := by
      unfold txN at *
      rw [b2]
      exact nI_clamp (by omega)
    have tb : ∀ i, i < txN A + m → ∃ b, b < 256 ∧ I2 76 i = nI b ∧ I2 2 i = toB (nI b) := fun i hi => by
      by_cases e : i < txN A
      · obtain ⟨b, c1, c2, c3⟩ := hT.2.2 i e
        refine ⟨b, c1, ?_, ?_⟩
        · rw [b3 i e, hM1.2 76 (by decide)]
          exact c2
        · rw [f2.at (by decide) (by decide), a3 i e]
          exact c3
      · have z1 := b4 (i - txN A) (by omega)
        have z2 := a4 (i - txN A) (by omega)
        rw [show txN A + (i - txN A) = i by omega] at z1 z2
        refine ⟨_, byN_lt x _, z1, ?_⟩
        rw [f2.at (by decide) (by decide)]
        exact z2
    refine ⟨nI (txN A + m), mW I1 L ru, I2, L, ru, I2, ?_, ?_, rfl, MC.rf, ⟨ag_wf g.1 hW.1, wf_way g hW.2, ⟨by rw [b2, t2], by omega⟩, fun i hi => ?_, wf_nr e37 hW.2, wf_ru e37 kr hW.2, wf_lg e56 hW.2, ⟨sd, hsd, s60⟩, wf_im g.1 kk ki hW.2⟩, ag_ca g (hC.fr f3 (by decide) (by decide) (by decide)), ag_cx g (hX.fr f3 (by decide) (by decide)), ⟨ag_cs g.1 (hS.fr hW.1 f3 (by decide)), ag_ch g (hH.fr f3 (by decide) (by decide)), cr_ag e37 kr (hR.fr h4 f3 (by decide)), ⟨?_, ?_, fun i hi => ?_⟩, cl_ag e56 kl (hL.of (by rw [f3.at (by decide) (by decide)]) (f3.at (by decide) (by decide))), ci_ag g.1 kk ki (hG.fr f3 (by decide))⟩, sd, hsd, s60, s34⟩
    · have q2 : txN A + m ≤ 300 := q
      simp (config := { maxSteps := 2000000 }) (disch := omega) only [f72, ux_at, ux_kk, ux_jo, gIx, pIx, pZx, gRx, aIx, sIx, aBx, sBx, lenx, clx, wshS, obS, reduceIte, Nat.one_ne_zero, Nat.zero_ne_one, Nat.reduceEqDiff, not_true_eq_false, not_false_eq_true, Nat.le_refl, ng_le, ng_lt, ng_nle, ng_nlt, ng_eq, ng_eq2, Bool.false_eq_true, lit_nI, nI_add, pk_mul, nI_leI, nI_ltI, nI_eq, s0i, hT.1, q2, hs]
      exact e1
    · have q2 : txN A + m ≤ 300 := q
      simp (config := { maxSteps := 2000000 }) (disch := omega) only [f110, ux_at, ux_kk, ux_jo, gIm, pIm, pZm, gRm, aIm, sIm, aBm, sBm, gLm, pLm, clm, wshS, obS, reduceIte, Nat.one_ne_zero, Nat.zero_ne_one, Nat.reduceEqDiff, not_true_eq_false, not_false_eq_true, Nat.le_refl, ng_le, ng_lt, ng_nle, ng_nlt, ng_eq, ng_eq2, Bool.false_eq_true, lit_nI, nI_add, pk_mul, nI_leI, nI_ltI, nI_eq, lit_lN, s40i, t1, q2, hs]
      exact e2
    · rw [t2] at hi
      obtain ⟨b, c1, c2, -⟩ := tb i hi
      exact ⟨b, c1, c2⟩
    · rw [t2, f2.at (by decide) (by decide)]
      exact a2
    · rw [f2.at (by decide) (by decide), e16]
      exact (a1 5 (by decide)).trans hT.2.1
    · rw [t2] at hi
      exact tb i hi
  · have t1 : I 67 15 = nI (txN A) := (hM.1 15 (by decide)).trans htx.1
    exact STEP.same hI (v := -nI 1000004) (by simp (config := { maxSteps := 2000000 }) (disch := omega) only [f72, ux_at, ux_kk, ux_jo, gIx, pIx, pZx, gRx, aIx, sIx, aBx, sBx, lenx, clx, wshS, obS, reduceIte, Nat.one_ne_zero, Nat.zero_ne_one, Nat.reduceEqDiff, not_true_eq_false, not_false_eq_true, Nat.le_refl, ng_le, ng_lt, ng_nle, ng_nlt, ng_eq, ng_eq2, Bool.false_eq_true, lit_nI, nI_add, pk_mul, nI_leI, nI_ltI, nI_eq, s0i, hT.1, q]) (by simp (config := { maxSteps := 2000000 }) (disch := omega) only [f110, ux_at, ux_kk, ux_jo, gIm, pIm, pZm, gRm, aIm, sIm, aBm, sBm, gLm, pLm, clm, wshS, obS, reduceIte, Nat.one_ne_zero, Nat.zero_ne_one, Nat.reduceEqDiff, not_true_eq_false, not_false_eq_true, Nat.le_refl, ng_le, ng_lt, ng_nle, ng_nlt, ng_eq, ng_eq2, Bool.false_eq_true, lit_nI, nI_add, pk_mul, nI_leI, nI_ltI, nI_eq, lit_lN, s40i, t1, q])
end
