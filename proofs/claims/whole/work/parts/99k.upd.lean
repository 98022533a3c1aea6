/-! BOTH TOGETHER: keep, goBack -/
abbrev imK : List Nat := [39, 40, 41, 42, 43, 44, 45, 46]
section
variable {I A : St} {L : Lt} {ru n : Nat}
theorem im_sub {i : Nat} (hi : i < 2) : ∀ k, k ∈ [39 + 4 * i, 39 + 4 * i + 1, 39 + 4 * i + 2, 39 + 4 * i + 3] → k ∈ imK := by
  rcases (show i = 0 ∨ i = 1 by omega) with rfl | rfl
  · decide
  · decide
theorem q_keep (hI : INV I A) (x : Int32) (hn : 1000 < n) : STEP I L ru (f159 n 0 x) (f133 n 67 x) := by
  have hI9 := hI
  obtain ⟨hM, hW, hC, hX, ⟨hS, hH, hR, hT, hL, hG⟩, sd, hsd, hs1, hs2⟩ := hI9
  have h6 := ns6 hW.1
  have h7 := p2_le (nsN A) (by omega)
  have h4 := nr4 hW
  rcases ixc x (n := 2) (by decide) with hx | ⟨i, hi, rfl⟩
  · have e21 : nI 2 - nI 1 = nI 1 := by decide +kernel
    have a2 := fun w => s40co (w := w) (n := 2) (by decide) hx
    rw [e21, ← lN_w (by decide)] at a2
    exact STEP.same hI (v := -nI 1000001) (by simp (config := { maxSteps := 2000000 }) (disch := omega) only [f159, ux_at, ux_kk, ux_jo, gIx, pIx, pZx, gRx, aIx, sIx, aBx, sBx, lenx, clx, wshS, obS, reduceIte, Nat.one_ne_zero, Nat.zero_ne_one, Nat.reduceEqDiff, not_true_eq_false, not_false_eq_true, Nat.le_refl, ng_le, ng_lt, ng_nle, ng_nlt, ng_eq, ng_eq2, Bool.false_eq_true, lit_nI, nI_add, pk_mul, nI_leI, nI_ltI, nI_eq, x_noImageo hx]) (by simp (config := { maxSteps := 2000000 }) (disch := omega) only [f133, ux_at, ux_kk, ux_jo, gIm, pIm, pZm, gRm, aIm, sIm, aBm, sBm, gLm, pLm, clm, wshS, obS, reduceIte, Nat.one_ne_zero, Nat.zero_ne_one, Nat.reduceEqDiff, not_true_eq_false, not_false_eq_true, Nat.le_refl, ng_le, ng_lt, ng_nle, ng_nlt, ng_eq, ng_eq2, Bool.false_eq_true, lit_nI, nI_add, pk_mul, nI_leI, nI_ltI, nI_eq, lit_lN, a2])
  have hlg := hW.2.2.2.2.2.2.1
  obtain ⟨i0, i1, i2, i3, i4, i5, i6⟩ := img_fac (ru := ru) hi
  obtain ⟨J1, e1, f1, g1, g3, g4, gw, gt⟩ := x_heldBecome (I := I) (L := L) (ru := ru) (n := n) i0 sh_34 i1 i2 i3 (rr_34_0 ru) (rr_34_1 ru) (rr_34_2 ru) i4 i5 i6 sh_35 sh_36 sh_37 (Or.inr (by omega)) (by omega)
  have m0 : 39 + 4 * i ∈ [39 + 4 * i, 39 + 4 * i + 1, 39 + 4 * i + 2, 39 + 4 * i + 3] := by simp
  have f2 := f1.u (j := 5) (v := nI 1) m0
  have ez := pZ_of (I := J1) (L := L) (ru := ru) (j := 5) (v := nI 1) i0 o01
  have q5 : (u2 J1 (39 + 4 * i) 5 (nI 1)) (39 + 4 * i) 5 = nI 1 := ux_at
  have q3 : (u2 J1 (39 + 4 * i) 5 (nI 1)) (39 + 4 * i) 3 = nI (lgN A) := (ux_j (by decide)).trans (g3.trans hL.1)
  have q4 : (u2 J1 (39 + 4 * i) 5 (nI 1)) (39 + 4 * i) 4 = nI sd := (ux_j (by decide)).trans (g4.trans hs2)
  have qw : ∀ j, j < 6 → (u2 J1 (39 + 4 * i) 5 (nI 1)) (40 + 4 * i) j = I 35 j ∧ (u2 J1 (39 + 4 * i) 5 (nI 1)) (41 + 4 * i) j = I 36 j := fun j hj => by
    obtain ⟨a, b⟩ := gw j hj
    rw [show 40 + 4 * i = 39 + 4 * i + 1 by omega, show 41 + 4 * i = 39 + 4 * i + 2 by omega]
    exact ⟨(ux_k (by omega)).trans a, (ux_k (by omega)).trans b⟩
  have qt : ∀ j, j < 40 → (u2 J1 (39 + 4 * i) 5 (nI 1)) (42 + 4 * i) j = I 37 j := fun j hj => by
    rw [show 42 + 4 * i = 39 + 4 * i + 3 by omega]
    exact (ux_k (by omega)).trans (gt j hj)
  have ex : f159 n 0 (nI i) (mW I L ru) = some (nI 1, mW (u2 J1 (39 + 4 * i) 5 (nI 1)) L ru) := by
    have a := imgR I L ru i hi
    have b := imgR J1 L ru i hi
    have c : (nwS (39 + 4 * i)).map (fun q => q.1) = some 3 := cls_of i0
    simp (config := { maxSteps := 2000000 }) (disch := omega) only [f159, ux_at, ux_kk, ux_jo, gIx, pIx, pZx, gRx, aIx, sIx, aBx, sBx, lenx, clx, wshS, obS, reduceIte, Nat.one_ne_zero, Nat.zero_ne_one, Nat.reduceEqDiff, not_true_eq_false, not_false_eq_true, Nat.le_refl, ng_le, ng_lt, ng_nle, ng_nlt, ng_eq, ng_eq2, Bool.false_eq_true, lit_nI, nI_add, pk_mul, nI_leI, nI_ltI, nI_eq, x_noImage, a, b, c, e1, ez]
  generalize u2 J1 (39 + 4 * i) 5 (nI 1) = I1 at *
  have f2' := f2.mono (K' := imK) (F' := []) (im_sub hi) (by decide)
  have hM1 := hM.fr f2' (by decide) (by decide) (by decide)
  obtain ⟨I2, e2, f3, k1, k2, k3, k4, k5, k6⟩ := m_keep (I := I1) (L := L) (ru := ru) (n := n) hM1 hW hi ((f2'.f (by decide) (by decide)).trans hs1) (by omega)
  have f4 : Fr (imK ++ [93, 94]) [] I I2 := (f2'.mono (by decide) (by decide)).tr (f3.mono (by decide) (by decide))
  have g := agw_of hM f4 (by decide) (by decide) (by decide)
  have e15 := mc_f hM f4 (by decide) (j := 15) (by decide) (by decide)
  have e16 := mc_f hM f4 (by decide) (j := 16) (by decide) (by decide)
  have e37 := mc_f hM f4 (by decide) (j := 37) (by decide) (by decide)
  have e56 := mc_f hM f4 (by decide) (j := 56) (by decide) (by decide)
  have kt := mc_k hM f4 (k := 76) (by decide) (by decide)
  have kr := mc_k hM f4 (k := 84) (by decide) (by decide)
  have kl := mc_k hM f4 (k := 90) (by decide) (by decide)
  have s60 : I2 67 60 = nI sd := (f4.f (by decide) (by decide)).trans hs1
  have s34 : I2 34 4 = nI sd := by rw [f4.at (by decide) (by decide)]; exact hs2
  have hns := ag_ns g.1
  have c39 : ∀ i', i' < 2 → I2 (39 + 4 * i') = I1 (39 + 4 * i') ∧ I2 (40 + 4 * i') = I1 (40 + 4 * i') ∧ I2 (41 + 4 * i') = I1 (41 + 4 * i') ∧ I2 (42 + 4 * i') = I1 (42 + 4 * i') := fun i' hi' => by
    rcases (show i' = 0 ∨ i' = 1 by omega) with rfl | rfl
    · exact ⟨f3.at (by decide) (by decide), f3.at (by decide) (by decide), f3.at (by decide) (by decide), f3.at (by decide) (by decide)⟩
    · exact ⟨f3.at (by decide) (by decide), f3.at (by decide) (by decide), f3.at (by decide) (by decide), f3.at (by decide) (by decide)⟩
  have co : ∀ i', i' < 2 → i' ≠ i → I1 (39 + 4 * i') = I (39 + 4 * i') ∧ I1 (40 + 4 * i') = I (40 + 4 * i') ∧ I1 (41 + 4 * i') = I (41 + 4 * i') ∧ I1 (42 + 4 * i') = I (42 + 4 * i') := fun i' hi' hne => by
    have nm : ∀ k, k ≠ 39 + 4 * i → k ≠ 39 + 4 * i + 1 → k ≠ 39 + 4 * i + 2 → k ≠ 39 + 4 * i + 3 → k ≠ 67 → I1 k = I k := fun k a b c d e => f2.at (by simp; omega) e
    exact ⟨nm _ (by omega) (by omega) (by omega) (by omega) (by omega), nm _ (by omega) (by omega) (by omega) (by omega) (by omega), nm _ (by omega) (by omega) (by omega) (by omega) (by omega), nm _ (by omega) (by omega) (by omega) (by omega) (by omega)⟩
  refine ⟨nI 1, mW I1 L ru, I2, L, ru, I2, ex, e2, rfl, MC.rf, ⟨ag_wf g.1 hW.1, wf_way g hW.2, wf_tx e15 hW.2, wf_ty e15 kt hW.2, wf_nr e37 hW.2, wf_ru e37 kr hW.2, wf_lg e56 hW.2, ⟨sd, hsd, s60⟩, fun i' hi' => ?_⟩, ag_ca g (hC.fr f4 (by decide) (by decide) (by decide)), ag_cx g (hX.fr f4 (by decide) (by decide)), ⟨ag_cs g.1 (hS.fr hW.1 f4 (by decide)), ag_ch g (hH.fr f4 (by decide) (by decide)), cr_ag e37 kr (hR.fr h4 f4 (by decide)), ct_ag e15 e16 kt (hT.fr f4 (by decide) (by decide)), cl_ag e56 kl (hL.of (by rw [f4.at (by decide) (by decide)]) (f4.at (by decide) (by decide))), fun i' hi' => ?_⟩, sd, hsd, s60, s34⟩
  · by_cases e : i' = i
    · subst e
      refine Or.inr ⟨by rw [k1, if_pos rfl], fun s hs => ?_, ⟨lgN A, hlg.2, k3⟩, sd, hsd, k4⟩
      rw [hns] at hs
      rw [(k5 s (by omega)).1, (k5 s (by omega)).2]
      exact hW.2.1 s hs
    · have w := hW.2.2.2.2.2.2.2.2 i' hi'
      rw [k1, if_neg e, hns]
      have a := fun q (h1 : 60 * i' ≤ q) (h2 : q < 60 * i' + 60) => k2 q (by omega)
      refine w.imp (fun z => z) fun z => ⟨z.1, fun s hs => ?_, ?_, ?_⟩
      · rw [a _ (by omega) (by omega), a _ (by omega) (by omega)]
        exact z.2.1 s hs
      · rw [a _ (by omega) (by omega)]
        exact z.2.2.1
      · rw [a _ (by omega) (by omega)]
        exact z.2.2.2
  · obtain ⟨d1, d2, d3, d4⟩ := c39 i' hi'
    rw [d1, d2, d3, d4, hns, k1]
    by_cases e : i' = i
    · subst e
      rw [if_pos rfl, k3, k4]
      refine ⟨q5, fun _ => ⟨fun s hs => ?_, fun s h1 h2 => ?_, q3, q4, fun k hk => ?_⟩⟩
      · rw [(k5 s (by omega)).1, (k5 s (by omega)).2, (qw s (by omega)).1, (qw s (by omega)).2]
        exact hH.1 s hs
      · rw [(qw s h2).1]
        exact hH.2 s h1 h2
      · rw [nI_clamp (by omega)] at hk
        rw [k6 k (by omega), qt k (by omega)]
        exact hL.2 k hk
    · obtain ⟨c1, c2, c3, c4⟩ := co i' hi' e
      rw [if_neg e, c1, c2, c3, c4]
      have a := fun q (h1 : 60 * i' ≤ q) (h2 : q < 60 * i' + 60) => k2 q (by omega)
      have w := hG i' hi'
      refine ⟨w.1, fun z => ?_⟩
      obtain ⟨w1, w2, w3, w4, w5⟩ := w.2 z
      refine ⟨fun s hs => ?_, w2, ?_, ?_, fun k hk => ?_⟩
      · rw [a _ (by omega) (by omega), a _ (by omega) (by omega)]
        exact w1 s hs
      · rw [a _ (by omega) (by omega)]
        exact w3
      · rw [a _ (by omega) (by omega)]
        exact w4
      · rw [a (60 * i') (by omega) (by omega)] at hk
        have hk40 : k < 40 := by
          rcases hW.2.2.2.2.2.2.2.2 i' hi' with q | ⟨-, -, ⟨l, l1, l2⟩, -⟩
          · rw [q] at z
            exact absurd z (by decide +kernel)
          · rw [l2, nI_clamp (by omega)] at hk
            omega
        rw [a _ (by omega) (by omega)]
        exact w5 k hk
/-- an image is gone back to, by the reference -/
theorem m_goBack (hM : MC I A) {i : Nat} (hi : i < 2) (hk : A 94 i = nI 1) (hn : 100 < n) : ∃ I', f134 n 67 (nI i) (mW I L ru) = some (nI 1, mW I' L ru) ∧ Fr [72, 73, 90] [34, 56, 60] I I' ∧ I' 67 34 = nI 0 ∧ I' 67 56 = A 93 (60 * i) ∧ I' 67 60 = A 93 (60 * i + 1) ∧ (∀ s, s < 6 → I' 72 s = A 93 (60 * i + 2 + s) ∧ I' 73 s = A 93 (60 * i + 8 + s)) ∧ ∀ k, k < 40 → I' 90 k = A 93 (60 * i + 14 + k) := by
  have m93 := hM.2 93 (by decide)
  have key : ∃ I', f134_H56 n (fun e0 e2 w36 => f134_H103 n (fun e0 w46 => ob (putZ w46 11 e0 34 (0 : Int32)) (fun w47 => some ((1 : Int32), w47))) n e0 e2 (0 : Int32) w36) n 67 (nI (60 * i)) (nI 0) (mW (u2 (u2 I 67 56 (A 93 (60 * i))) 67 60 (A 93 (60 * i + 1))) L ru) = some (nI 1, mW I' L ru) ∧ Fr [72, 73, 90] [34, 56, 60] I I' ∧ I' 67 34 = nI 0 ∧ I' 67 56 = A 93 (60 * i) ∧ I' 67 60 = A 93 (60 * i + 1) ∧ (∀ s, s < 6 → I' 72 s = A 93 (60 * i + 2 + s) ∧ I' 73 s = A 93 (60 * i + 8 + s)) ∧ ∀ k, k < 40 → I' 90 k = A 93 (60 * i + 14 + k) := by
    refine lpP (F := fun k s J => f134_H56 n (fun e0 e2 w36 => f134_H103 n (fun e0 w46 => ob (putZ w46 11 e0 34 (0 : Int32)) (fun w47 => some ((1 : Int32), w47))) n e0 e2 (0 : Int32) w36) k 67 (nI (60 * i)) (nI s) (mW J L ru)) (P := fun x => ∃ I', x = some (nI 1, mW I' L ru) ∧ Fr [72, 73, 90] [34, 56, 60] I I' ∧ I' 67 34 = nI 0 ∧ I' 67 56 = A 93 (60 * i) ∧ I' 67 60 = A 93 (60 * i + 1) ∧ (∀ s, s < 6 → I' 72 s = A 93 (60 * i + 2 + s) ∧ I' 73 s = A 93 (60 * i + 8 + s)) ∧ ∀ k, k < 40 → I' 90 k = A 93 (60 * i + 14 + k)) (J := fun t J => Fr [72, 73] [56, 60] I J ∧ J 67 56 = A 93 (60 * i) ∧ J 67 60 = A 93 (60 * i + 1) ∧ ∀ s, s < t → J 72 s = A 93 (60 * i + 2 + s) ∧ J 73 s = A 93 (60 * i + 8 + s)) 6 ?_ ?_ n 0 _ (by omega) (by omega) ⟨(Fr.rf.uf (by decide)).uf (by decide), (ux_j (by decide)).trans ux_at, ux_at, fun s hs => absurd hs (Nat.not_lt_zero _)⟩
    · rintro k J ⟨a1, a2, a3, a4⟩
      simp (config := { maxSteps := 2000000 }) (disch := omega) only [f134_H56, ux_at, ux_kk, ux_jo, gIm, pIm, pZm, gRm, aIm, sIm, aBm, sBm, gLm, pLm, clm, wshS, obS, reduceIte, Nat.one_ne_zero, Nat.zero_ne_one, Nat.reduceEqDiff, not_true_eq_false, not_false_eq_true, Nat.le_refl, ng_le, ng_lt, ng_nle, ng_nlt, ng_eq, ng_eq2, Bool.false_eq_true, lit_nI, nI_add, pk_mul, nI_leI, nI_ltI, nI_eq]
      refine lpP (F := fun k s J => f134_H103 n (fun e0 w46 => ob (putZ w46 11 e0 34 (nI 0)) (fun w47 => some (nI 1, w47))) k 67 (nI (60 * i)) (nI s) (mW J L ru)) (P := fun x => ∃ I', x = some (nI 1, mW I' L ru) ∧ Fr [72, 73, 90] [34, 56, 60] I I' ∧ I' 67 34 = nI 0 ∧ I' 67 56 = A 93 (60 * i) ∧ I' 67 60 = A 93 (60 * i + 1) ∧ (∀ s, s < 6 → I' 72 s = A 93 (60 * i + 2 + s) ∧ I' 73 s = A 93 (60 * i + 8 + s)) ∧ ∀ k, k < 40 → I' 90 k = A 93 (60 * i + 14 + k)) (J := fun t J => Fr [72, 73, 90] [56, 60] I J ∧ J 67 56 = A 93 (60 * i) ∧ J 67 60 = A 93 (60 * i + 1) ∧ (∀ s, s < 6 → J 72 s = A 93 (60 * i + 2 + s) ∧ J 73 s = A 93 (60 * i + 8 + s)) ∧ ∀ k, k < t → J 90 k = A 93 (60 * i + 14 + k)) 40 ?_ ?_ n 0 J (by omega) (by omega) ⟨a1.mono (by decide) (by decide), a2, a3, a4, fun s hs => absurd hs (Nat.not_lt_zero _)⟩
      · rintro k J ⟨b1, b2, b3, b4, b5⟩
        simp (config := { maxSteps := 2000000 }) (disch := omega) only [f134_H103, ux_at, ux_kk, ux_jo, gIm, pIm, pZm, gRm, aIm, sIm, aBm, sBm, gLm, pLm, clm, wshS, obS, reduceIte, Nat.one_ne_zero, Nat.zero_ne_one, Nat.reduceEqDiff, not_true_eq_false, not_false_eq_true, Nat.le_refl, ng_le, ng_lt, ng_nle, ng_nlt, ng_eq, ng_eq2, Bool.false_eq_true, lit_nI, nI_add, pk_mul, nI_leI, nI_ltI, nI_eq]
        exact ⟨_, rfl, (b1.mono (by decide) (by decide)).uf (by decide), ux_at, (ux_j (by decide)).trans b2, (ux_j (by decide)).trans b3, fun s hs => ⟨(ux_k (by decide)).trans (b4 s hs).1, (ux_k (by decide)).trans (b4 s hs).2⟩, fun k hk => (ux_k (by decide)).trans (b5 k hk)⟩
      · rintro k t J ht ⟨b1, b2, b3, b4, b5⟩ ih
        have ht2 : ¬ 40 ≤ t := by omega
        have h93 : J 93 (60 * i + 14 + t) = A 93 (60 * i + 14 + t) := by rw [b1.at (by decide) (by decide), m93]
        simp (config := { maxSteps := 2000000 }) (disch := omega) only [f134_H103, ux_at, ux_kk, ux_jo, gIm, pIm, pZm, gRm, aIm, sIm, aBm, sBm, gLm, pLm, clm, wshS, obS, reduceIte, Nat.one_ne_zero, Nat.zero_ne_one, Nat.reduceEqDiff, not_true_eq_false, not_false_eq_true, Nat.le_refl, ng_le, ng_lt, ng_nle, ng_nlt, ng_eq, ng_eq2, Bool.false_eq_true, lit_nI, nI_add, pk_mul, nI_leI, nI_ltI, nI_eq, ht2, h93]
        refine ih _ ⟨b1.u (by decide), (ux_k (by decide)).trans b2, (ux_k (by decide)).trans b3, fun s hs => ⟨(ux_k (by decide)).trans (b4 s hs).1, (ux_k (by decide)).trans (b4 s hs).2⟩, fun k hk => ?_⟩
        rw [ux_if]
        by_cases e : k = t
        · rw [if_pos e, e]
        · rw [if_neg e]
          exact b5 k (by omega)
    · rintro k t J ht ⟨a1, a2, a3, a4⟩ ih
      have ht2 : ¬ 6 ≤ t := by omega
      have h1 : J 93 (60 * i + 2 + t) = A 93 (60 * i + 2 + t) := by rw [a1.at (by decide) (by decide), m93]
      have h2 : J 93 (60 * i + 8 + t) = A 93 (60 * i + 8 + t) := by rw [a1.at (by decide) (by decide), m93]
      simp (config := { maxSteps := 2000000 }) (disch := omega) only [f134_H56, ux_at, ux_kk, ux_jo, gIm, pIm, pZm, gRm, aIm, sIm, aBm, sBm, gLm, pLm, clm, wshS, obS, reduceIte, Nat.one_ne_zero, Nat.zero_ne_one, Nat.reduceEqDiff, not_true_eq_false, not_false_eq_true, Nat.le_refl, ng_le, ng_lt, ng_nle, ng_nlt, ng_eq, ng_eq2, Bool.false_eq_true, lit_nI, nI_add, pk_mul, nI_leI, nI_ltI, nI_eq, ht2, h1, h2]
      refine ih _ ⟨(a1.u (by decide)).u (by decide), (ux_k (by decide)).trans ((ux_k (by decide)).trans a2), (ux_k (by decide)).trans ((ux_k (by decide)).trans a3), fun s hs => ⟨?_, ?_⟩⟩
      · refine (ux_k (by decide)).trans ?_
        rw [ux_if]
        by_cases e : s = t
        · rw [if_pos e, e]
        · rw [if_neg e]
          exact (a4 s (by omega)).1
      · rw [ux_if]
        by_cases e : s = t
        · rw [if_pos e, e]
        · rw [if_neg e]
          exact (ux_k (by decide)).trans (a4 s (by omega)).2
  obtain ⟨I', k1, k2⟩ := key
  refine ⟨I', ?_, k2⟩
  simp (config := { maxSteps := 2000000 }) (disch := omega) only [f134, ux_at, ux_kk, ux_jo, gIm, pIm, pZm, gRm, aIm, sIm, aBm, sBm, gLm, pLm, clm, wshS, obS, reduceIte, Nat.one_ne_zero, Nat.zero_ne_one, Nat.reduceEqDiff, not_true_eq_false, not_false_eq_true, Nat.le_refl, ng_le, ng_lt, ng_nle, ng_nlt, ng_eq, ng_eq2, Bool.false_eq_true, lit_nI, nI_add, pk_mul, nI_leI, nI_ltI, nI_eq, lit_lN, s40i, mcA hM, hk]
  exact k1
theorem q_goBack (hI : INV I A) (x : Int32) (hn : 1000 < n) : STEP I L ru (f160 n 0 x) (f134 n 67 x) := by
  have hI9 := hI
  obtain ⟨hM, hW, hC, hX, ⟨hS, hH, hR, hT, hL, hG⟩, sd, hsd, hs1, hs2⟩ := hI9
  have h6 := ns6 hW.1
  have h7 := p2_le (nsN A) (by omega)
  have h4 := nr4 hW
  rcases ixc x (n := 2) (by decide) with hx | ⟨i, hi, rfl⟩
  · have e21 : nI 2 - nI 1 = nI 1 := by decide +kernel
    have a2 := fun w => s40co (w := w) (n := 2) (by decide) hx
    rw [e21, ← lN_w (by decide)] at a2
    exact STEP.same hI (v := -nI 1000001) (by simp (config := { maxSteps := 2000000 }) (disch := omega) only [f160, ux_at, ux_kk, ux_jo, gIx, pIx, pZx, gRx, aIx, sIx, aBx, sBx, lenx, clx, wshS, obS, reduceIte, Nat.one_ne_zero, Nat.zero_ne_one, Nat.reduceEqDiff, not_true_eq_false, not_false_eq_true, Nat.le_refl, ng_le, ng_lt, ng_nle, ng_nlt, ng_eq, ng_eq2, Bool.false_eq_true, lit_nI, nI_add, pk_mul, nI_leI, nI_ltI, nI_eq, x_noImageo hx]) (by simp (config := { maxSteps := 2000000 }) (disch := omega) only [f134, ux_at, ux_kk, ux_jo, gIm, pIm, pZm, gRm, aIm, sIm, aBm, sBm, gLm, pLm, clm, wshS, obS, reduceIte, Nat.one_ne_zero, Nat.zero_ne_one, Nat.reduceEqDiff, not_true_eq_false, not_false_eq_true, Nat.le_refl, ng_le, ng_lt, ng_nle, ng_nlt, ng_eq, ng_eq2, Bool.false_eq_true, lit_nI, nI_add, pk_mul, nI_leI, nI_ltI, nI_eq, lit_lN, a2])
  obtain ⟨i0, i1, i2, i3, i4, i5, i6⟩ := img_fac (ru := ru) hi
  have w := hG i hi
  have gk := gI_of (I := I) (L := L) (ru := ru) (j := 5) i0
  have im := imgR I L ru i hi
  rcases hW.2.2.2.2.2.2.2.2 i hi with q | ⟨q, p1, ⟨l, l1, l2⟩, ⟨v, v1, v2⟩⟩
  · have w1 : I (39 + 4 * i) 5 = nI 0 := w.1.trans q
    exact STEP.same hI (v := -nI 1000003) (by simp (config := { maxSteps := 2000000 }) (disch := omega) only [f160, ux_at, ux_kk, ux_jo, gIx, pIx, pZx, gRx, aIx, sIx, aBx, sBx, lenx, clx, wshS, obS, reduceIte, Nat.one_ne_zero, Nat.zero_ne_one, Nat.reduceEqDiff, not_true_eq_false, not_false_eq_true, Nat.le_refl, ng_le, ng_lt, ng_nle, ng_nlt, ng_eq, ng_eq2, Bool.false_eq_true, lit_nI, nI_add, pk_mul, nI_leI, nI_ltI, nI_eq, x_noImage, im, gk, w1]) (by simp (config := { maxSteps := 2000000 }) (disch := omega) only [f134, ux_at, ux_kk, ux_jo, gIm, pIm, pZm, gRm, aIm, sIm, aBm, sBm, gLm, pLm, clm, wshS, obS, reduceIte, Nat.one_ne_zero, Nat.zero_ne_one, Nat.reduceEqDiff, not_true_eq_false, not_false_eq_true, Nat.le_refl, ng_le, ng_lt, ng_nle, ng_nlt, ng_eq, ng_eq2, Bool.false_eq_true, lit_nI, nI_add, pk_mul, nI_leI, nI_ltI, nI_eq, lit_lN, s40i, mcA hM, q])
  have w1 : I (39 + 4 * i) 5 = nI 1 := w.1.trans q
  obtain ⟨w2, w3, w4, w5, w6⟩ := w.2 q
  obtain ⟨J1, e1, f1, g1, g3, g4, gw, gt⟩ := x_heldBecome (I := I) (L := L) (ru := ru) (n := n) sh_34 i0 (rr_34_0 ru) (rr_34_1 ru) (rr_34_2 ru) i1 i2 i3 sh_35 sh_36 sh_37 i4 i5 i6 (Or.inl (by omega)) (by omega)
  have f2 : Fr [34, 35, 36, 37, 47] [] I (u2 J1 47 2 (nI 0)) := (f1.mono (by decide) (by decide)).u (by decide)
  have c1 : (u2 J1 47 2 (nI 0)) 47 2 = nI 0 := ux_at
  have q3 : (u2 J1 47 2 (nI 0)) 34 3 = nI l := (ux_k (by decide)).trans (g3.trans (w4.trans l2))
  have q4 : (u2 J1 47 2 (nI 0)) 34 4 = nI v := (ux_k (by decide)).trans (g4.trans (w5.trans v2))
  have qw : ∀ j, j < 6 → (u2 J1 47 2 (nI 0)) 35 j = I (40 + 4 * i) j ∧ (u2 J1 47 2 (nI 0)) 36 j = I (41 + 4 * i) j := fun j hj => by
    obtain ⟨a, b⟩ := gw j hj
    rw [show 40 + 4 * i = 39 + 4 * i + 1 by omega, show 41 + 4 * i = 39 + 4 * i + 2 by omega]
    exact ⟨(ux_k (by decide)).trans a, (ux_k (by decide)).trans b⟩
  have qt : ∀ j, j < 40 → (u2 J1 47 2 (nI 0)) 37 j = I (42 + 4 * i) j := fun j hj => by
    rw [show 42 + 4 * i = 39 + 4 * i + 3 by omega]
    exact (ux_k (by decide)).trans (gt j hj)
  have ex : f160 n 0 (nI i) (mW I L ru) = some (nI 1, mW (u2 J1 47 2 (nI 0)) L ru) := by
    simp (config := { maxSteps := 2000000 }) (disch := omega) only [f160, ux_at, ux_kk, ux_jo, gIx, pIx, pZx, gRx, aIx, sIx, aBx, sBx, lenx, clx, wshS, obS, reduceIte, Nat.one_ne_zero, Nat.zero_ne_one, Nat.reduceEqDiff, not_true_eq_false, not_false_eq_true, Nat.le_refl, ng_le, ng_lt, ng_nle, ng_nlt, ng_eq, ng_eq2, Bool.false_eq_true, lit_nI, nI_add, pk_mul, nI_leI, nI_ltI, nI_eq, x_noImage, im, gk, w1, e1]
  generalize u2 J1 47 2 (nI 0) = I1 at *
  have hM1 := hM.fr f2 (by decide) (by decide) (by decide)
  obtain ⟨I2, e2, f3, k1, k2, k3, k4, k5⟩ := m_goBack (I := I1) (L := L) (ru := ru) (n := n) hM1 hi q (by omega)
  rw [l2] at k2
  rw [v2] at k3
  have f4 : Fr [34, 35, 36, 37, 47, 72, 73, 90] [34, 56, 60] I I2 := (f2.mono (by decide) (by decide)).tr (f3.mono (by decide) (by decide))
  have g := ags_of hM f4 (by decide) (by decide) (by decide)
  have e15 := mc_f hM f4 (by decide) (j := 15) (by decide) (by decide)
  have e16 := mc_f hM f4 (by decide) (j := 16) (by decide) (by decide)
  have e37 := mc_f hM f4 (by decide) (j := 37) (by decide) (by decide)
  have kt := mc_k hM f4 (k := 76) (by decide) (by decide)
  have kr := mc_k hM f4 (k := 84) (by decide) (by decide)
  have ki := mc_k hM f4 (k := 93) (by decide) (by decide)
  have kk := mc_k hM f4 (k := 94) (by decide) (by decide)
  have hns := ag_ns g
  have l0 : lgN I2 = l := by
    unfold lgN
    rw [k2]
    exact nI_clamp (by omega)
  refine ⟨nI 1, mW I1 L ru, I2, L, ru, I2, ex, e2, rfl, MC.rf, ⟨ag_wf g hW.1, fun s hs => ?_, wf_tx e15 hW.2, wf_ty e15 kt hW.2, wf_nr e37 hW.2, wf_ru e37 kr hW.2, ⟨by rw [k2, l0], by omega⟩, ⟨v, v1, k3⟩, wf_im g kk ki hW.2⟩, Or.inl k1, Or.inl (by rw [f3.at (by decide) (by decide)]; exact c1), ⟨ag_cs g (hS.fr hW.1 f4 (by decide)), ⟨fun s hs => ?_, fun s h1 h2 => ?_⟩, cr_ag e37 kr (hR.fr h4 f4 (by decide)), ct_ag e15 e16 kt (hT.fr f4 (by decide) (by decide)), ⟨?_, fun k hk => ?_⟩, ci_ag g kk ki (hG.fr f4 (by decide))⟩, v, v1, k3, ?_⟩
  · rw [hns] at hs
    rw [(k4 s (by omega)).1, (k4 s (by omega)).2]
    exact p1 s hs
  · rw [hns] at hs
    rw [(k4 s (by omega)).1, (k4 s (by omega)).2, f3.at (by decide) (by decide), f3.at (by decide) (by decide), (qw s (by omega)).1, (qw s (by omega)).2]
    exact w2 s hs
  · rw [hns] at h1
    rw [f3.at (by decide) (by decide), (qw s h2).1]
    exact w3 s h1 h2
  · rw [l0, f3.at (by decide) (by decide)]
    exact q3
  · rw [l0] at hk
    rw [k5 k (by omega), f3.at (by decide) (by decide), qt k (by omega)]
    exact w6 k (by rw [l2, nI_clamp (by omega)]; exact hk)
  · rw [f3.at (by decide) (by decide)]
    exact q4
end
