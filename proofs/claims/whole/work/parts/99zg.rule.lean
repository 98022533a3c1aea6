/-! BOTH TOGETHER: rule -/
theorem mc_most (w : Wd) : f43 (nI 109) (nI 111) (nI 115) (nI 116) w = some (lN (cW wMost), w) := congrArg (fun x => some (x, w)) (by decide +kernel)
theorem mc4_middle (w : Wd) : f43 (nI 109) (nI 105) (nI 100) (nI 100) w = some (lN (cW [109, 105, 100, 100]), w) := congrArg (fun x => some (x, w)) (by decide +kernel)
theorem mc5_middle (w : Wd) : f44 (lN (cW [109, 105, 100, 100])) (nI 108) w = some (lN (cW [109, 105, 100, 100, 108]), w) := congrArg (fun x => some (x, w)) (by decide +kernel)
theorem mc6_middle (w : Wd) : f44 (lN (cW [109, 105, 100, 100, 108])) (nI 101) w = some (lN (cW wMiddle), w) := congrArg (fun x => some (x, w)) (by decide +kernel)
theorem mc_mean (w : Wd) : f43 (nI 109) (nI 101) (nI 97) (nI 110) w = some (lN (cW wMean), w) := congrArg (fun x => some (x, w)) (by decide +kernel)
theorem mc4_turns (w : Wd) : f43 (nI 116) (nI 117) (nI 114) (nI 110) w = some (lN (cW [116, 117, 114, 110]), w) := congrArg (fun x => some (x, w)) (by decide +kernel)
theorem mc5_turns (w : Wd) : f44 (lN (cW [116, 117, 114, 110])) (nI 115) w = some (lN (cW wTurns), w) := congrArg (fun x => some (x, w)) (by decide +kernel)
theorem e_half : nI (0 + 1) / nI 2 = nI 0 := by decide +kernel
section
variable {I J A : St} {L : Lt} {ru n : Nat} {T : Nat → Nat} {N : Nat}
theorem m_zero5 {b : Nat} {K : Nat → Int32 → Wd → Option (Int32 × Wd)} (hb : b ≤ 15) (hn : 500 < n) : ∃ I', f204_H157 n K n 67 (nI b) (nI 1) (mW I L ru) = K 67 (nI b) (mW I' L ru) ∧ Fr ruK [] I I' ∧ (∀ q, q < b + 1 → I' 84 q = I 84 q) ∧ ∀ q, 1 ≤ q → q < 5 → I' 84 (b + q) = nI 0 := by
  refine lpP (F := fun k c (Z : St) => f204_H157 n K k 67 (nI b) (nI c) (mW Z L ru)) (P := fun y => ∃ I', y = K 67 (nI b) (mW I' L ru) ∧ Fr ruK [] I I' ∧ (∀ q, q < b + 1 → I' 84 q = I 84 q) ∧ ∀ q, 1 ≤ q → q < 5 → I' 84 (b + q) = nI 0) (J := fun t Z => 1 ≤ t ∧ Fr ruK [] I Z ∧ (∀ q, q < b + 1 → Z 84 q = I 84 q) ∧ ∀ q, 1 ≤ q → q < t → Z 84 (b + q) = nI 0) 5 ?_ ?_ n 1 I (by omega) (by omega) ⟨Nat.le_refl _, Fr.rf, fun _ _ => rfl, fun q h1 h2 => by omega⟩
  · rintro k Z ⟨_, a1, a2, a3⟩
    refine ⟨Z, ?_, a1, a2, a3⟩
    simp (config := { maxSteps := 2000000 }) (disch := omega) only [f204_H157, ux_at, ux_kk, ux_jo, gIm, pIm, pZm, gRm, aIm, sIm, aBm, sBm, gLm, pLm, clm, wshS, obS, reduceIte, Nat.one_ne_zero, Nat.zero_ne_one, Nat.reduceEqDiff, not_true_eq_false, not_false_eq_true, Nat.le_refl, ng_le, ng_lt, ng_nle, ng_nlt, ng_eq, ng_eq2, Bool.false_eq_true, lit_nI, nI_add, pk_mul, nI_leI, nI_ltI, nI_eq]
  · rintro k t Z ht ⟨a0, a1, a2, a3⟩ ih
    have ht2 : ¬ 5 ≤ t := by omega
    simp (config := { maxSteps := 2000000 }) (disch := omega) only [f204_H157, ux_at, ux_kk, ux_jo, gIm, pIm, pZm, gRm, aIm, sIm, aBm, sBm, gLm, pLm, clm, wshS, obS, reduceIte, Nat.one_ne_zero, Nat.zero_ne_one, Nat.reduceEqDiff, not_true_eq_false, not_false_eq_true, Nat.le_refl, ng_le, ng_lt, ng_nle, ng_nlt, ng_eq, ng_eq2, Bool.false_eq_true, lit_nI, nI_add, pk_mul, nI_leI, nI_ltI, nI_eq, ht2]
    refine ih _ ⟨by omega, a1.u (by decide), fun q hq => (ux_j (by omega)).trans (a2 q hq), fun q h1 h2 => ?_⟩
    rw [ux_if]
    by_cases e : q = t
    · rw [if_pos (by omega)]
    · rw [if_neg (by omega)]
      exact a3 q h1 (by omega)
/-- a rule's text -/
theorem p_rule (hT2 : ∀ i, T i < 256) (hn : 1000 < n) {r : Nat} {W : Nat → Int32} (hr : r < 4) (hS0 : XS J T N 0) : ∃ J' f p, f < 6 ∧ p ≤ 300 ∧ f218 n 33 1 (mW J L ru) = some (mW J' L ru) ∧ Fr spK [] J J' ∧ J' 1 4 = nI f ∧ (f = 0 → J' 1 5 = -nI 1 ∧ RvK J') ∧ (f ≠ 0 → J' 1 5 = nI p) ∧ ∀ I L2 ru2, MS I T N 0 → I 67 37 = nI r → (∀ q, q < 5 * r → I 84 q = W q) → ∃ I' L2', f204 n 67 (mW I L2 ru2) = some (nI f, mW I' L2' ru2) ∧ Fr ruK ruF I I' ∧ (∀ q, q < 5 * r → I' 84 q = I 84 q) ∧ (f = 0 → I' 67 16 = -nI 1 ∧ RQ I' J' (5 * r) W) ∧ (f ≠ 0 → I' 67 16 = nI p) := by
  have hN := hS0.1.2.1
  have hid := skN_id T N 0
  have g0 : Fr [33] [] J (u2 (u2 (u2 (u2 (u2 J 33 0 (nI 0)) 33 1 (nI 0)) 33 2 (nI 0)) 33 3 (nI 0)) 33 4 (nI 0)) := ((((Fr.rf.u (by decide)).u (by decide)).u (by decide)).u (by decide)).u (by decide)
  have sp0 : ∀ q, q < 5 → (u2 (u2 (u2 (u2 (u2 J 33 0 (nI 0)) 33 1 (nI 0)) 33 2 (nI 0)) 33 3 (nI 0)) 33 4 (nI 0)) 33 q = nI 0 := by
    intro q hq
    rcases (show q = 0 ∨ q = 1 ∨ q = 2 ∨ q = 3 ∨ q = 4 by omega) with rfl | rfl | rfl | rfl | rfl
    · simp (disch := decide) only [ux_at, ux_jo]
    · simp (disch := decide) only [ux_at, ux_jo]
    · simp (disch := decide) only [ux_at, ux_jo]
    · simp (disch := decide) only [ux_at, ux_jo]
    · simp (disch := decide) only [ux_at, ux_jo]
  have e0 : f15 33 (nI 0) (nI 0) (nI 0) (mW J L ru) = some (mW (u2 (u2 (u2 (u2 (u2 J 33 0 (nI 0)) 33 1 (nI 0)) 33 2 (nI 0)) 33 3 (nI 0)) 33 4 (nI 0)) L ru) := by
    simp (config := { maxSteps := 2000000 }) (disch := omega) only [f15, f15_J36, ux_at, ux_kk, ux_jo, gIx, pIx, pZx, gRx, aIx, sIx, aBx, sBx, lenx, clx, wshS, obS, reduceIte, Nat.one_ne_zero, Nat.zero_ne_one, Nat.reduceEqDiff, not_true_eq_false, not_false_eq_true, Nat.le_refl, ng_le, ng_lt, ng_nle, ng_nlt, ng_eq, ng_eq2, Bool.false_eq_true, lit_nI, nI_add, pk_mul, nI_leI, nI_ltI, nI_eq, e_half]
  generalize u2 (u2 (u2 (u2 (u2 J 33 0 (nI 0)) 33 1 (nI 0)) 33 2 (nI 0)) 33 3 (nI 0)) 33 4 (nI 0) = J0 at *
  have hS : XS J0 T N 0 := hS0.fr g0 (by decide) (by decide)
  have hc := skN_le (T := T) hS.2.1
  -- a kind is told
  have kind : ∀ k, k < 4 → ∀ J1, TF J0 J1 → XS J1 T N (wdN T N (skN T N 0)) → f218 n 33 1 (mW J L ru) = f218_J84 n 33 1 (mW (u2 J1 33 0 (nI k)) L ru) → (∀ I L2 ru2, MS I T N 0 → I 67 37 = nI r → ∃ Ib Lb, f204 n 67 (mW I L2 ru2) = f204_J121 n 67 (nI (5 * r)) (nI k) (mW Ib Lb ru2) ∧ Fr [] [17, 19] I Ib ∧ MS Ib T N (skN T N 0) ∧ Ib 67 19 = nI (wdN T N (skN T N 0))) → ∃ J' f p, f < 6 ∧ p ≤ 300 ∧ f218 n 33 1 (mW J L ru) = some (mW J' L ru) ∧ Fr spK [] J J' ∧ J' 1 4 = nI f ∧ (f = 0 → J' 1 5 = -nI 1 ∧ RvK J') ∧ (f ≠ 0 → J' 1 5 = nI p) ∧ ∀ I L2 ru2, MS I T N 0 → I 67 37 = nI r → (∀ q, q < 5 * r → I 84 q = W q) → ∃ I' L2', f204 n 67 (mW I L2 ru2) = some (nI f, mW I' L2' ru2) ∧ Fr ruK ruF I I' ∧ (∀ q, q < 5 * r → I' 84 q = I 84 q) ∧ (f = 0 → I' 67 16 = -nI 1 ∧ RQ I' J' (5 * r) W) ∧ (f ≠ 0 → I' 67 16 = nI p) := by
    intro k hk J1 f1 s1 ex hR
    have r33 : J1 33 = J0 33 := f1.1.at (by decide) (by decide)
    have s2 : XS (u2 J1 33 0 (nI k)) T N (wdN T N (skN T N 0)) := s1.fr (Fr.rf.u (K := [33]) (by decide)) (by decide) (by decide)
    have sq : ∀ q, q < 5 → (u2 J1 33 0 (nI k)) 33 q = if q = 0 then nI k else nI 0 := fun q hq => by
      rw [ux_if, r33, sp0 q hq]
    have hV : RvK (u2 J1 33 0 (nI k)) := ⟨⟨k, hk, ux_at⟩, ⟨0, by decide, sq 1 (by decide)⟩, ⟨0, by decide, sq 2 (by decide)⟩, Or.inl ⟨sq 3 (by decide), sq 4 (by decide)⟩⟩
    obtain ⟨J', f', p', z1, z2, z3, z4, z5, z6, z7, z8⟩ := r_need (L := L) (ru := ru) (W := W) (b := 5 * r) hT2 hn (by omega) (sq 2 (by decide)) s2 hV
    refine ⟨J', f', p', z1, z2, ex.trans z3, (((g0.mono (by decide) (by decide)).tr f1.sp).u (by decide)).tr z4, z5, z6, z7, fun I L2 ru2 hMS h37 hW => ?_⟩
    obtain ⟨Ib, Lb, x1, y1, w1, we⟩ := hR I L2 ru2 hMS h37
    have s5 : MS (u2 (u2 Ib 67 17 (nI (wdN T N (skN T N 0)))) 84 (5 * r) (nI k)) T N (wdN T N (skN T N 0)) := ⟨(w1.1.fr (Fr.rf.uf (K := []) (F := [17]) (by decide)) (by decide) (by decide) (by decide)).fr (Fr.rf.u (K := [84]) (F := []) (by decide)) (by decide) (by decide) (by decide), (ux_k (by decide)).trans ux_at, (ux_k (by decide)).trans ((ux_j (by decide)).trans w1.2.2)⟩
    obtain ⟨Ic, m1, m2, m3, m4⟩ := m_zero5 (I := u2 (u2 Ib 67 17 (nI (wdN T N (skN T N 0)))) 84 (5 * r) (nI k)) (L := Lb) (ru := ru2) (n := n) (b := 5 * r) (K := fun e0 e1 w40 => f204_H185 n (fun e6 w87 => some (e6, w87)) n e0 e1 (nI 0) (nI 0) w40) (by omega) (by omega)
    have r84 : (u2 Ib 67 17 (nI (wdN T N (skN T N 0)))) 84 = I 84 := (ux_kk (by decide)).trans (y1.at (by decide) (by decide))
    obtain ⟨I', L4, y2, y3, y6, y4, y5⟩ := z8 Ic Lb ru2 n _ (by omega) s2.2.1 rfl (s5.fr m2 (by decide) (by decide) (by decide) (by decide)) ⟨fun q hq => by
        rw [sq q hq]
        by_cases e : q = 0
        · rw [if_pos e, e, Nat.add_zero, m3 _ (by omega), ux_at]
        · rw [if_neg e]
          exact m4 q (by omega) hq, fun q hq => by
        rw [m3 q (by omega), ux_j (by omega), r84]
        exact hW q hq⟩
    have gb : Fr ruK ruF I (u2 (u2 Ib 67 17 (nI (wdN T N (skN T N 0)))) 84 (5 * r) (nI k)) := ((y1.mono (by decide) (by decide)).uf (by decide)).u (by decide)
    refine ⟨I', L4, x1.trans ?_, (gb.tr (m2.mono (by decide) (by decide))).tr y3, fun q hq => (y6 q hq).trans (by rw [m3 q (by omega), ux_j (by omega), r84]), y4, y5⟩
    simp (config := { maxSteps := 2000000 }) (disch := omega) only [f204_J121, ux_at, ux_kk, ux_jo, gIm, pIm, pZm, gRm, aIm, sIm, aBm, sBm, gLm, pLm, clm, wshS, obS, reduceIte, Nat.one_ne_zero, Nat.zero_ne_one, Nat.reduceEqDiff, not_true_eq_false, not_false_eq_true, Nat.le_refl, ng_le, ng_lt, ng_nle, ng_nlt, ng_eq, ng_eq2, Bool.false_eq_true, lit_nI, nI_add, pk_mul, nI_leI, nI_ltI, nI_eq, Nat.zero_le, we]
    exact m1.trans y2
  -- the reference, behind its first word
  have word : ∀ I L2 ru2, MS I T N 0 → ∃ I1 L2', f111 n 67 (mW I L2 ru2) = some (mW I1 L2' ru2) ∧ Fr [] [17, 19] I I1 ∧ MS I1 T N (skN T N 0) ∧ I1 67 19 = nI (wdN T N (skN T N 0)) ∧ L2' 67 18 = lN (sdNw T (skN T N 0) (wdN T N (skN T N 0) - skN T N 0)) := fun I L2 ru2 hMS => ms_word hT2 hMS (Nat.zero_le _) (by omega)
  have k0 := m_isW (T := T) (N := N) (b := skN T N 0) (v := cW wMost) lt_most rfl hT2 rfl
  have k1 := m_isW (T := T) (N := N) (b := skN T N 0) (v := cW wMiddle) lt_middle rfl hT2 rfl
  have k2 := m_isW (T := T) (N := N) (b := skN T N 0) (v := cW wMean) lt_mean rfl hT2 rfl
  have k3 := m_isW (T := T) (N := N) (b := skN T N 0) (v := cW wTurns) lt_turns rfl hT2 rfl
  by_cases q0 : isW T N (skN T N 0) wMost
  · obtain ⟨J1, e1, f1, s1⟩ := xs_wordY (L := L) (ru := ru) (n := n) hS wd_most lt_most q0 (by omega)
    have k0 := k0.mpr q0
    refine kind 0 (by decide) J1 f1 s1 ?_ fun I L2 ru2 hMS h37 => ?_
    · simp (config := { maxSteps := 2000000 }) (disch := omega) only [f218, ux_at, ux_kk, ux_jo, gIx, pIx, pZx, gRx, aIx, sIx, aBx, sBx, lenx, clx, wshS, obS, reduceIte, Nat.one_ne_zero, Nat.zero_ne_one, Nat.reduceEqDiff, not_true_eq_false, not_false_eq_true, Nat.le_refl, ng_le, ng_lt, ng_nle, ng_nlt, ng_eq, ng_eq2, Bool.false_eq_true, lit_nI, nI_add, pk_mul, nI_leI, nI_ltI, nI_eq, e0, e1]
    · obtain ⟨I1, L3, x1, y1, z1, w1, l1⟩ := word I L2 ru2 hMS
      refine ⟨I1, L3, ?_, y1, z1, w1⟩
      simp (config := { maxSteps := 2000000 }) (disch := omega) only [f204, ux_at, ux_kk, ux_jo, gIm, pIm, pZm, gRm, aIm, sIm, aBm, sBm, gLm, pLm, clm, wshS, obS, reduceIte, Nat.one_ne_zero, Nat.zero_ne_one, Nat.reduceEqDiff, not_true_eq_false, not_false_eq_true, Nat.le_refl, ng_le, ng_lt, ng_nle, ng_nlt, ng_eq, ng_eq2, Bool.false_eq_true, lit_nI, nI_add, pk_mul, nI_leI, nI_ltI, nI_eq, h37, x1, l1, mc4_middle, mc5_middle, mc6_middle, mc_most, k0]
  obtain ⟨J1, e1, f1, s1⟩ := xs_wordN (L := L) (ru := ru) (n := n) hS wd_most lt_most q0 (by omega)
  have k0 : ¬ _ := fun z => q0 (k0.mp z)
  by_cases q1 : isW T N (skN T N 0) wMiddle
  · obtain ⟨J2, e2, f2, s2⟩ := xs_wordY (L := L) (ru := ru) (n := n) s1 wd_middle lt_middle (by rw [hid]; exact q1) (by omega)
    rw [hid] at s2
    have k1 := k1.mpr q1
    refine kind 1 (by decide) J2 (f1.tr f2) s2 ?_ fun I L2 ru2 hMS h37 => ?_
    · simp (config := { maxSteps := 2000000 }) (disch := omega) only [f218, ux_at, ux_kk, ux_jo, gIx, pIx, pZx, gRx, aIx, sIx, aBx, sBx, lenx, clx, wshS, obS, reduceIte, Nat.one_ne_zero, Nat.zero_ne_one, Nat.reduceEqDiff, not_true_eq_false, not_false_eq_true, Nat.le_refl, ng_le, ng_lt, ng_nle, ng_nlt, ng_eq, ng_eq2, Bool.false_eq_true, lit_nI, nI_add, pk_mul, nI_leI, nI_ltI, nI_eq, e0, e1, e2]
    · obtain ⟨I1, L3, x1, y1, z1, w1, l1⟩ := word I L2 ru2 hMS
      refine ⟨I1, L3, ?_, y1, z1, w1⟩
      simp (config := { maxSteps := 2000000 }) (disch := omega) only [f204, ux_at, ux_kk, ux_jo, gIm, pIm, pZm, gRm, aIm, sIm, aBm, sBm, gLm, pLm, clm, wshS, obS, reduceIte, Nat.one_ne_zero, Nat.zero_ne_one, Nat.reduceEqDiff, not_true_eq_false, not_false_eq_true, Nat.le_refl, ng_le, ng_lt, ng_nle, ng_nlt, ng_eq, ng_eq2, Bool.false_eq_true, lit_nI, nI_add, pk_mul, nI_leI, nI_ltI, nI_eq, h37, x1, l1, mc4_middle, mc5_middle, mc6_middle, mc_most, k0, k1]
  obtain ⟨J2, e2, f2, s2⟩ := xs_wordN (L := L) (ru := ru) (n := n) s1 wd_middle lt_middle (by rw [hid]; exact q1) (by omega)
  rw [hid] at s2
  have k1 : ¬ _ := fun z => q1 (k1.mp z)
  by_cases q2 : isW T N (skN T N 0) wMean
  · obtain ⟨J3, e3, f3, s3⟩ := xs_wordY (L := L) (ru := ru) (n := n) s2 wd_mean lt_mean (by rw [hid]; exact q2) (by omega)
    rw [hid] at s3
    have k2 := k2.mpr q2
    refine kind 2 (by decide) J3 ((f1.tr f2).tr f3) s3 ?_ fun I L2 ru2 hMS h37 => ?_
    · simp (config := { maxSteps := 2000000 }) (disch := omega) only [f218, ux_at, ux_kk, ux_jo, gIx, pIx, pZx, gRx, aIx, sIx, aBx, sBx, lenx, clx, wshS, obS, reduceIte, Nat.one_ne_zero, Nat.zero_ne_one, Nat.reduceEqDiff, not_true_eq_false, not_false_eq_true, Nat.le_refl, ng_le, ng_lt, ng_nle, ng_nlt, ng_eq, ng_eq2, Bool.false_eq_true, lit_nI, nI_add, pk_mul, nI_leI, nI_ltI, nI_eq, e0, e1, e2, e3]
    · obtain ⟨I1, L3, x1, y1, z1, w1, l1⟩ := word I L2 ru2 hMS
      refine ⟨I1, L3, ?_, y1, z1, w1⟩
      simp (config := { maxSteps := 2000000 }) (disch := omega) only [f204, ux_at, ux_kk, ux_jo, gIm, pIm, pZm, gRm, aIm, sIm, aBm, sBm, gLm, pLm, clm, wshS, obS, reduceIte, Nat.one_ne_zero, Nat.zero_ne_one, Nat.reduceEqDiff, not_true_eq_false, not_false_eq_true, Nat.le_refl, ng_le, ng_lt, ng_nle, ng_nlt, ng_eq, ng_eq2, Bool.false_eq_true, lit_nI, nI_add, pk_mul, nI_leI, nI_ltI, nI_eq, h37, x1, l1, mc4_middle, mc5_middle, mc6_middle, mc_most, k0, k1, mc_mean, k2]
  obtain ⟨J3, e3, f3, s3⟩ := xs_wordN (L := L) (ru := ru) (n := n) s2 wd_mean lt_mean (by rw [hid]; exact q2) (by omega)
  rw [hid] at s3
  have k2 : ¬ _ := fun z => q2 (k2.mp z)
  by_cases q3 : isW T N (skN T N 0) wTurns
  · obtain ⟨J4, e4, f4, s4⟩ := xs_wordY (L := L) (ru := ru) (n := n) s3 wd_turns lt_turns (by rw [hid]; exact q3) (by omega)
    rw [hid] at s4
    have k3 := k3.mpr q3
    refine kind 3 (by decide) J4 (((f1.tr f2).tr f3).tr f4) s4 ?_ fun I L2 ru2 hMS h37 => ?_
    · simp (config := { maxSteps := 2000000 }) (disch := omega) only [f218, ux_at, ux_kk, ux_jo, gIx, pIx, pZx, gRx, aIx, sIx, aBx, sBx, lenx, clx, wshS, obS, reduceIte, Nat.one_ne_zero, Nat.zero_ne_one, Nat.reduceEqDiff, not_true_eq_false, not_false_eq_true, Nat.le_refl, ng_le, ng_lt, ng_nle, ng_nlt, ng_eq, ng_eq2, Bool.false_eq_true, lit_nI, nI_add, pk_mul, nI_leI, nI_ltI, nI_eq, e0, e1, e2, e3, e4]
    · obtain ⟨I1, L3, x1, y1, z1, w1, l1⟩ := word I L2 ru2 hMS
      refine ⟨I1, L3, ?_, y1, z1, w1⟩
      simp (config := { maxSteps := 2000000 }) (disch := omega) only [f204, ux_at, ux_kk, ux_jo, gIm, pIm, pZm, gRm, aIm, sIm, aBm, sBm, gLm, pLm, clm, wshS, obS, reduceIte, Nat.one_ne_zero, Nat.zero_ne_one, Nat.reduceEqDiff, not_true_eq_false, not_false_eq_true, Nat.le_refl, ng_le, ng_lt, ng_nle, ng_nlt, ng_eq, ng_eq2, Bool.false_eq_true, lit_nI, nI_add, pk_mul, nI_leI, nI_ltI, nI_eq, h37, x1, l1, mc4_middle, mc5_middle, mc6_middle, mc_most, k0, k1, mc_mean, k2, mc4_turns, mc5_turns, k3]
  obtain ⟨J4, e4, f4, s4⟩ := xs_wordN (L := L) (ru := ru) (n := n) s3 wd_turns lt_turns (by rw [hid]; exact q3) (by omega)
  rw [hid] at s4
  have k3 : ¬ _ := fun z => q3 (k3.mp z)
  obtain ⟨J5, e5, f5, z5⟩ := xs_fail (L := L) (ru := ru) (k := 1) (p := skN T N 0) s4 (by decide)
  obtain ⟨J6, e6, f6, z6⟩ := d84 (L := L) (ru := ru) (n := n) z5 (by decide) (by decide) (by omega)
  have s41 : J4 1 2 = nI (skN T N 0) := by
    obtain ⟨_, _, _, h⟩ := s4
    exact h.1
  refine ⟨J6, 1, skN T N 0, by decide, by omega, ?_, ((((((g0.mono (by decide) (by decide)).tr f1.sp).tr f2.sp).tr f3.sp).tr f4.sp).tr f5.sp).tr f6, xz_f z6, fun z => absurd z (by decide), fun _ => ?_, fun I L2 ru2 hMS h37 hW => ?_⟩
  · simp (config := { maxSteps := 2000000 }) (disch := omega) only [f218, ux_at, ux_kk, ux_jo, gIx, pIx, pZx, gRx, aIx, sIx, aBx, sBx, lenx, clx, wshS, obS, reduceIte, Nat.one_ne_zero, Nat.zero_ne_one, Nat.reduceEqDiff, not_true_eq_false, not_false_eq_true, Nat.le_refl, ng_le, ng_lt, ng_nle, ng_nlt, ng_eq, ng_eq2, Bool.false_eq_true, lit_nI, nI_add, pk_mul, nI_leI, nI_ltI, nI_eq, e0, e1, e2, e3, e4, s41, e5, e6]
  · obtain ⟨_, _, _, _, h⟩ := z6
    exact h.2.2.2
  · obtain ⟨I1, L3, x1, y1, z1, w1, l1⟩ := word I L2 ru2 hMS
    have h17 := z1.2.1
    have n0 : ¬ nI 0 ≤ -nI 1 := by decide +kernel
    refine ⟨u2 I1 67 16 (nI (skN T N 0)), L3, ?_, (y1.mono (by decide) (by decide)).uf (by decide), fun q _ => (ux_k (by decide)).trans (by rw [y1.at (by decide) (by decide)]), fun z => absurd z (by decide), fun _ => ux_at⟩
    simp (config := { maxSteps := 2000000 }) (disch := omega) only [f204, f204_J121, f46, ux_at, ux_kk, ux_jo, gIm, pIm, pZm, gRm, aIm, sIm, aBm, sBm, gLm, pLm, clm, wshS, obS, reduceIte, Nat.one_ne_zero, Nat.zero_ne_one, Nat.reduceEqDiff, not_true_eq_false, not_false_eq_true, Nat.le_refl, ng_le, ng_lt, ng_nle, ng_nlt, ng_eq, ng_eq2, Bool.false_eq_true, lit_nI, nI_add, pk_mul, nI_leI, nI_ltI, nI_eq, h37, x1, l1, mc4_middle, mc5_middle, mc6_middle, mc_most, k0, k1, mc_mean, k2, mc4_turns, mc5_turns, k3, n0, h17]
end
