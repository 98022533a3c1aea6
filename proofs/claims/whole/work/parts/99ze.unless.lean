/-! TEXTS: a rule's unless, its end: both sides -/
def RvK (J : St) : Prop := (∃ k, k < 4 ∧ J 33 0 = nI k) ∧ (∃ k, k ≤ 54 ∧ J 33 1 = nI k) ∧ (∃ k, k < 64 ∧ J 33 2 = nI k) ∧ ((J 33 3 = nI 0 ∧ J 33 4 = nI 0) ∨ ((J 33 3 = -nI 1 ∨ J 33 3 = nI 1) ∧ ∃ k, 1 ≤ k ∧ k ≤ 7 ∧ J 33 4 = nI k))
def RQ (I J : St) (b : Nat) (W : Nat → Int32) : Prop := (∀ q, q < 5 → I 84 (b + q) = J 33 q) ∧ ∀ q, q < b → I 84 q = W q
abbrev ruK : List Nat := [84]
abbrev ruF : List Nat := [16, 17, 19, 20, 21]
theorem mc_need (w : Wd) : f43 (nI 110) (nI 101) (nI 101) (nI 100) w = some (lN (cW wNeed), w) := congrArg (fun x => some (x, w)) (by decide +kernel)
theorem mc_bar : (1503 : Nat) = cW wBar := by decide +kernel
theorem mc4_unless (w : Wd) : f43 (nI 117) (nI 110) (nI 108) (nI 101) w = some (lN (cW [117, 110, 108, 101]), w) := congrArg (fun x => some (x, w)) (by decide +kernel)
theorem mc5_unless (w : Wd) : f44 (lN (cW [117, 110, 108, 101])) (nI 115) w = some (lN (cW [117, 110, 108, 101, 115]), w) := congrArg (fun x => some (x, w)) (by decide +kernel)
theorem mc6_unless (w : Wd) : f44 (lN (cW [117, 110, 108, 101, 115])) (nI 115) w = some (lN (cW wUnless), w) := congrArg (fun x => some (x, w)) (by decide +kernel)
theorem mc_left (w : Wd) : f43 (nI 108) (nI 101) (nI 102) (nI 116) w = some (lN (cW wLeft), w) := congrArg (fun x => some (x, w)) (by decide +kernel)
theorem mc4_right (w : Wd) : f43 (nI 114) (nI 105) (nI 103) (nI 104) w = some (lN (cW [114, 105, 103, 104]), w) := congrArg (fun x => some (x, w)) (by decide +kernel)
theorem mc5_right (w : Wd) : f44 (lN (cW [114, 105, 103, 104])) (nI 116) w = some (lN (cW wRight), w) := congrArg (fun x => some (x, w)) (by decide +kernel)
/-- the rest of a rule's text, read by both: the class from J at a; of the reference's parts 'last' was the last -/
def RNX (n : Nat) (T : Nat → Nat) (N : Nat) (L : Lt) (ru : Nat) (J : St) (b last a g : Nat) (W : Nat → Int32) (FX : Option Wd) : Prop :=
  ∃ J' f p, f < 6 ∧ p ≤ 300 ∧ FX = some (mW J' L ru) ∧ Fr spK [] J J' ∧ J' 1 4 = nI f ∧ (f = 0 → J' 1 5 = -nI 1 ∧ RvK J') ∧ (f ≠ 0 → J' 1 5 = nI p) ∧ ∀ I L2 ru2 km a0, g < km → a0 ≤ N → skN T N a0 = skN T N a → MS I T N a0 → RQ I J b W → ∃ I' L2', f204_H185 n (fun e6 w87 => some (e6, w87)) km 67 (nI b) (nI last) (nI 0) (mW I L2 ru2) = some (nI f, mW I' L2' ru2) ∧ Fr ruK ruF I I' ∧ (∀ q, q < b → I' 84 q = I 84 q) ∧ (f = 0 → I' 67 16 = -nI 1 ∧ RQ I' J' b W) ∧ (f ≠ 0 → I' 67 16 = nI p)
section
variable {I J : St} {L : Lt} {ru n : Nat} {T : Nat → Nat} {N : Nat}
theorem m_part (hT2 : ∀ i, T i < 256) (hn : 1000 < n) {b last a km : Nat} {K96 : Int32 → Wd → Option (Int32 × Wd)} (ha : a ≤ N) (hM : MS I T N a) (hlt : skN T N a < N) : ∃ Ib Lb, MS Ib T N (skN T N a) ∧ Fr [] [17, 19] I Ib ∧ Ib 67 19 = nI (wdN T N (skN T N a)) ∧
    (isW T N (skN T N a) wNeed → f204_H185 n K96 (km + 1) 67 (nI b) (nI last) (nI 0) (mW I L ru) = f204_J230 n (fun v0 v1 v5 v6 w => f204_H185 n K96 km v0 v1 v5 v6 w) K96 67 (nI b) (nI last) (nI 1) (mW Ib Lb ru))
    ∧ (¬ isW T N (skN T N a) wNeed → isW T N (skN T N a) wBar → f204_H185 n K96 (km + 1) 67 (nI b) (nI last) (nI 0) (mW I L ru) = f204_J230 n (fun v0 v1 v5 v6 w => f204_H185 n K96 km v0 v1 v5 v6 w) K96 67 (nI b) (nI last) (nI 2) (mW Ib Lb ru))
    ∧ (¬ isW T N (skN T N a) wNeed → ¬ isW T N (skN T N a) wBar → isW T N (skN T N a) wUnless → f204_H185 n K96 (km + 1) 67 (nI b) (nI last) (nI 0) (mW I L ru) = f204_J230 n (fun v0 v1 v5 v6 w => f204_H185 n K96 km v0 v1 v5 v6 w) K96 67 (nI b) (nI last) (nI 3) (mW Ib Lb ru))
    ∧ (¬ isW T N (skN T N a) wNeed → ¬ isW T N (skN T N a) wBar → ¬ isW T N (skN T N a) wUnless → f204_H185 n K96 (km + 1) 67 (nI b) (nI last) (nI 0) (mW I L ru) = f204_J230 n (fun v0 v1 v5 v6 w => f204_H185 n K96 km v0 v1 v5 v6 w) K96 67 (nI b) (nI last) (-nI 1) (mW Ib Lb ru)) := by
  obtain ⟨Ia, x1, y1, z1⟩ := ms_here (L := L) (ru := ru) (n := n) hM ha (by omega)
  have hb := skN_le (T := T) ha
  have hid := skN_id T N a
  obtain ⟨Ib, Lb, x2, y2, z2, w2, l2⟩ := ms_word (L := L) (ru := ru) (n := n) hT2 z1 hb (by omega)
  rw [hid] at z2 w2 l2
  rw [btI_lt hlt] at x1
  have n1 : ¬ nI (T (skN T N a)) < nI 0 := nI_pos (by have := hT2 (skN T N a); omega)
  have nm : -nI 1 ≤ nI 0 := by decide +kernel
  generalize skN T N a = c at *
  have k1 := m_isW (T := T) (N := N) (b := c) (v := cW wNeed) lt_need rfl hT2 rfl
  have k2 := m_isW (T := T) (N := N) (b := c) (v := 1503) lt_bar rfl hT2 mc_bar
  have k3 := m_isW (T := T) (N := N) (b := c) (v := cW wUnless) lt_unless rfl hT2 rfl
  refine ⟨Ib, Lb, z2, (y1.mono (by decide) (by decide)).tr y2, w2, fun q1 => ?_, fun q1 q2 => ?_, fun q1 q2 q3 => ?_, fun q1 q2 q3 => ?_⟩
  · have k1 := k1.mpr q1
    simp (config := { maxSteps := 2000000 }) (disch := omega) only [f204_H185, f125, f125_J51, ux_at, ux_kk, ux_jo, gIm, pIm, pZm, gRm, aIm, sIm, aBm, sBm, gLm, pLm, clm, wshS, obS, reduceIte, Nat.one_ne_zero, Nat.zero_ne_one, Nat.reduceEqDiff, not_true_eq_false, not_false_eq_true, Nat.le_refl, ng_le, ng_lt, ng_nle, ng_nlt, ng_eq, ng_eq2, Bool.false_eq_true, lit_nI, nI_add, pk_mul, nI_leI, nI_ltI, nI_eq, lit_lN, x1, n1, x2, l2, mc_need, k1, (by decide : ¬ 1 ≤ 0)]
  · have k1 : ¬ _ := fun z => q1 (k1.mp z)
    have k2 := k2.mpr q2
    simp (config := { maxSteps := 2000000 }) (disch := omega) only [f204_H185, f125, f125_J51, ux_at, ux_kk, ux_jo, gIm, pIm, pZm, gRm, aIm, sIm, aBm, sBm, gLm, pLm, clm, wshS, obS, reduceIte, Nat.one_ne_zero, Nat.zero_ne_one, Nat.reduceEqDiff, not_true_eq_false, not_false_eq_true, Nat.le_refl, ng_le, ng_lt, ng_nle, ng_nlt, ng_eq, ng_eq2, Bool.false_eq_true, lit_nI, nI_add, pk_mul, nI_leI, nI_ltI, nI_eq, lit_lN, x1, n1, x2, l2, mc_need, k1, k2, nm, (by decide : ¬ 2 ≤ 0), (by decide : ¬ 2 = 1)]
  · have k1 : ¬ _ := fun z => q1 (k1.mp z)
    have k2 : ¬ _ := fun z => q2 (k2.mp z)
    have k3 := k3.mpr q3
    simp (config := { maxSteps := 2000000 }) (disch := omega) only [f204_H185, f125, f125_J51, ux_at, ux_kk, ux_jo, gIm, pIm, pZm, gRm, aIm, sIm, aBm, sBm, gLm, pLm, clm, wshS, obS, reduceIte, Nat.one_ne_zero, Nat.zero_ne_one, Nat.reduceEqDiff, not_true_eq_false, not_false_eq_true, Nat.le_refl, ng_le, ng_lt, ng_nle, ng_nlt, ng_eq, ng_eq2, Bool.false_eq_true, lit_nI, nI_add, pk_mul, nI_leI, nI_ltI, nI_eq, lit_lN, x1, n1, x2, l2, mc_need, k1, k2, k3, mc4_unless, mc5_unless, mc6_unless, nm, (by decide : ¬ 2 = 1), (by decide : ¬ 3 = 1), (by decide : ¬ 3 = 2)]
  · have k1 : ¬ _ := fun z => q1 (k1.mp z)
    have k2 : ¬ _ := fun z => q2 (k2.mp z)
    have k3 : ¬ _ := fun z => q3 (k3.mp z)
    simp (config := { maxSteps := 2000000 }) (disch := omega) only [f204_H185, f125, f125_J51, ux_at, ux_kk, ux_jo, gIm, pIm, pZm, gRm, aIm, sIm, aBm, sBm, gLm, pLm, clm, wshS, obS, reduceIte, Nat.one_ne_zero, Nat.zero_ne_one, Nat.reduceEqDiff, not_true_eq_false, not_false_eq_true, Nat.le_refl, ng_le, ng_lt, ng_nle, ng_nlt, ng_eq, ng_eq2, Bool.false_eq_true, lit_nI, nI_add, pk_mul, nI_leI, nI_ltI, nI_eq, lit_lN, x1, n1, x2, l2, mc_need, k1, k2, k3, mc4_unless, mc5_unless, mc6_unless, nm, (by decide : ¬ 2 = 1), (by decide : ¬ 3 = 1), (by decide : ¬ 3 = 2)]
/-- the end -/
theorem r_end (hT2 : ∀ i, T i < 256) (hn : 1000 < n) {b last a : Nat} {W : Nat → Int32} (hb20 : b ≤ 15) (hl3 : last ≤ 3) (h1 : isW T N (skN T N a) wNeed → 1 ≤ last) (h2 : isW T N (skN T N a) wBar → 2 ≤ last) (h3 : isW T N (skN T N a) wUnless → 3 ≤ last) (hS : XS J T N a) (hV : RvK J) : RNX n T N L ru J b last a 1 W (f218_J132 n 1 (mW J L ru)) := by
  have ha := hS.2.1
  have hN := hS.1.2.1
  have hb := skN_le (T := T) ha
  obtain ⟨hT, _, na, hSt⟩ := id hS
  obtain ⟨J1, e1, f1, s1⟩ := x_ended (L := L) (ru := ru) (n := n) hT ha hSt (by omega)
  have r33 : J1 33 = J 33 := f1.1.at (by decide) (by decide)
  by_cases q : skN T N a < N
  · rw [if_pos q] at e1
    have s2 : XS J1 T N (skN T N a) := ⟨hT.tf f1, hb, na, s1⟩
    obtain ⟨J2, e2, f2, z2⟩ := xs_fail (L := L) (ru := ru) (k := 1) (p := skN T N a) s2 (by decide)
    have s11 := s1.1
    refine ⟨J2, 1, skN T N a, by decide, by omega, ?_, f1.sp.tr f2.sp, xz_f z2, fun y => absurd y (by decide), fun _ => ?_, fun I L2 ru2 km a0 hkm ha0 hsk hMS hRQ => ?_⟩
    · simp (config := { maxSteps := 2000000 }) (disch := omega) only [f218_J132, ux_at, ux_kk, ux_jo, gIx, pIx, pZx, gRx, aIx, sIx, aBx, sBx, lenx, clx, wshS, obS, reduceIte, Nat.one_ne_zero, Nat.zero_ne_one, Nat.reduceEqDiff, not_true_eq_false, not_false_eq_true, Nat.le_refl, ng_le, ng_lt, ng_nle, ng_nlt, ng_eq, ng_eq2, Bool.false_eq_true, lit_nI, nI_add, pk_mul, nI_leI, nI_ltI, nI_eq, e1, s11, e2]
    · obtain ⟨_, _, _, _, h⟩ := z2
      exact h.2.2.2
    · obtain ⟨km, rfl⟩ : ∃ z, km = z + 1 := ⟨km - 1, by omega⟩
      obtain ⟨Ib, Lb, y1, y2, y3, p1, p2, p3, p4⟩ := m_part (L := L2) (ru := ru2) (b := b) (last := last) (km := km) (K96 := fun e6 w87 => some (e6, w87)) hT2 hn ha0 hMS (by rw [hsk]; exact q)
      rw [hsk] at y1 y3 p1 p2 p3 p4
      have h17 := y1.2.1
      have fl : ∀ x, ¬ nI last < x → f204_J230 n (fun v0 v1 v5 v6 w => f204_H185 n (fun e6 w87 => some (e6, w87)) km v0 v1 v5 v6 w) (fun e6 w87 => some (e6, w87)) 67 (nI b) (nI last) x (mW Ib Lb ru2) = some (nI 1, mW (u2 Ib 67 16 (nI (skN T N a))) Lb ru2) := fun x hx => by
        simp (config := { maxSteps := 2000000 }) (disch := omega) only [f204_J230, f46, ux_at, ux_kk, ux_jo, gIm, pIm, pZm, gRm, aIm, sIm, aBm, sBm, gLm, pLm, clm, wshS, obS, reduceIte, Nat.one_ne_zero, Nat.zero_ne_one, Nat.reduceEqDiff, not_true_eq_false, not_false_eq_true, Nat.le_refl, ng_le, ng_lt, ng_nle, ng_nlt, ng_eq, ng_eq2, Bool.false_eq_true, lit_nI, nI_add, pk_mul, nI_leI, nI_ltI, nI_eq, hx, h17]
      have nl : ∀ k, k ≤ last → ¬ nI last < nI k := fun k hk => by
        rw [nI_ltI (by omega) (by omega)]
        omega
      refine ⟨u2 Ib 67 16 (nI (skN T N a)), Lb, ?_, (y2.mono (by decide) (by decide)).uf (by decide), fun q _ => (ux_k (by decide)).trans (by rw [y2.at (by decide) (by decide)]), fun y => absurd y (by decide), fun _ => ux_at⟩
      by_cases q1 : isW T N (skN T N a) wNeed
      · exact (p1 q1).trans (fl _ (nl 1 (h1 q1)))
      · by_cases q2 : isW T N (skN T N a) wBar
        · exact (p2 q1 q2).trans (fl _ (nl 2 (h2 q2)))
        · by_cases q3 : isW T N (skN T N a) wUnless
          · exact (p3 q1 q2 q3).trans (fl _ (nl 3 (h3 q3)))
          · refine (p4 q1 q2 q3).trans (fl _ fun z => ?_)
            rw [Int32.lt_iff_toInt_lt, nI_toInt (by omega)] at z
            have : (-nI 1).toInt = -1 := by decide +kernel
            omega
  · rw [if_neg q] at e1
    refine ⟨J1, 0, 0, by decide, by decide, ?_, f1.sp, s1.2.2.1, fun _ => ⟨s1.2.2.2, by unfold RvK; rw [r33]; exact hV⟩, fun y => absurd rfl y, fun I L2 ru2 km a0 hkm ha0 hsk hMS hRQ => ?_⟩
    · simp (config := { maxSteps := 2000000 }) (disch := omega) only [f218_J132, ux_at, ux_kk, ux_jo, gIx, pIx, pZx, gRx, aIx, sIx, aBx, sBx, lenx, clx, wshS, obS, reduceIte, Nat.one_ne_zero, Nat.zero_ne_one, Nat.reduceEqDiff, not_true_eq_false, not_false_eq_true, Nat.le_refl, ng_le, ng_lt, ng_nle, ng_nlt, ng_eq, ng_eq2, Bool.false_eq_true, lit_nI, nI_add, pk_mul, nI_leI, nI_ltI, nI_eq, e1]
    · obtain ⟨km, rfl⟩ : ∃ z, km = z + 1 := ⟨km - 1, by omega⟩
      obtain ⟨Ia, x1, y1, z1⟩ := ms_here (L := L2) (ru := ru2) (n := n) hMS ha0 (by omega)
      rw [hsk, btI_ge (by omega)] at x1
      have n1 : -nI 1 < nI 0 := by decide +kernel
      refine ⟨Ia, L2, ?_, y1.mono (by decide) (by decide), fun q _ => by rw [y1.at (by decide) (by decide)], fun _ => ⟨z1.2.2, ?_⟩, fun y => absurd rfl y⟩
      · simp (config := { maxSteps := 2000000 }) (disch := omega) only [f204_H185, ux_at, ux_kk, ux_jo, gIm, pIm, pZm, gRm, aIm, sIm, aBm, sBm, gLm, pLm, clm, wshS, obS, reduceIte, Nat.one_ne_zero, Nat.zero_ne_one, Nat.reduceEqDiff, not_true_eq_false, not_false_eq_true, Nat.le_refl, ng_le, ng_lt, ng_nle, ng_nlt, ng_eq, ng_eq2, Bool.false_eq_true, lit_nI, nI_add, pk_mul, nI_leI, nI_ltI, nI_eq, x1, n1]
      · unfold RQ
        rw [r33, y1.at (by decide) (by decide)]
        exact hRQ
/-- unless, behind its word -/
theorem p_unl (hT2 : ∀ i, T i < 256) (hn : 1000 < n) {b a : Nat} (hb : b ≤ 15) (hS : XS J T N a) : ∃ J' f p a', f < 6 ∧ p ≤ 300 ∧ f207 n 33 1 (mW J L ru) = some (mW J' L ru) ∧ Fr spK [] J J' ∧ (∀ q, q < 3 → J' 33 q = J 33 q) ∧ (f = 0 → XS J' T N a' ∧ (J' 33 3 = -nI 1 ∨ J' 33 3 = nI 1) ∧ ∃ k, 1 ≤ k ∧ k ≤ 7 ∧ J' 33 4 = nI k) ∧ (f ≠ 0 → XZ J' T N f p) ∧ ∀ I L2 ru2, MS I T N a → ∃ I' L2', f193 n 67 (nI b) (mW I L2 ru2) = some (nI f, mW I' L2' ru2) ∧ Fr ruK ruF I I' ∧ (∀ q, q < b + 3 → I' 84 q = I 84 q) ∧ (f = 0 → MS I' T N a' ∧ I' 84 (b + 3) = J' 33 3 ∧ I' 84 (b + 4) = J' 33 4) ∧ (f ≠ 0 → I' 67 16 = nI p) := by
  have ha := hS.2.1
  have hN := hS.1.2.1
  have hc := skN_le (T := T) ha
  -- behind the side
  have side : ∀ x, (x = -nI 1 ∨ x = nI 1) → ∀ J1, Fr spK [] J J1 → J1 33 = J 33 → XS J1 T N (wdN T N (skN T N a)) → f207 n 33 1 (mW J L ru) = f207_J43 n 33 1 (mW (u2 J1 33 3 x) L ru) → (∀ I L2 ru2, MS I T N a → ∃ I1 L2', f193 n 67 (nI b) (mW I L2 ru2) = f193_J91 n 67 (nI b) 84 (nI (b + 3)) x (mW I1 L2' ru2) ∧ Fr [] [17, 19] I I1 ∧ MS I1 T N (wdN T N (skN T N a))) → ∃ J' f p a', f < 6 ∧ p ≤ 300 ∧ f207 n 33 1 (mW J L ru) = some (mW J' L ru) ∧ Fr spK [] J J' ∧ (∀ q, q < 3 → J' 33 q = J 33 q) ∧ (f = 0 → XS J' T N a' ∧ (J' 33 3 = -nI 1 ∨ J' 33 3 = nI 1) ∧ ∃ k, 1 ≤ k ∧ k ≤ 7 ∧ J' 33 4 = nI k) ∧ (f ≠ 0 → XZ J' T N f p) ∧ ∀ I L2 ru2, MS I T N a → ∃ I' L2', f193 n 67 (nI b) (mW I L2 ru2) = some (nI f, mW I' L2' ru2) ∧ Fr ruK ruF I I' ∧ (∀ q, q < b + 3 → I' 84 q = I 84 q) ∧ (f = 0 → MS I' T N a' ∧ I' 84 (b + 3) = J' 33 3 ∧ I' 84 (b + 4) = J' 33 4) ∧ (f ≠ 0 → I' 67 16 = nI p) := by
    intro x hx J1 g1 r1 s1 ex hR
    have s2 : XS (u2 J1 33 3 x) T N (wdN T N (skN T N a)) := s1.fr (Fr.rf.u (K := [33]) (by decide)) (by decide) (by decide)
    obtain ⟨J2, v, f, p, a1, e2, f2, hf, hp, hna, c0, c1, hM⟩ := two_num (L := L) (ru := ru) (n := n) (lo := 1) (hi := 7) hT2 s2 (by decide) (by decide) (by omega)
    have r2 : J2 33 = (u2 J1 33 3 x) 33 := f2.1.at (by decide) (by decide)
    have h3 : (u2 J2 33 4 v) 33 3 = x := (ux_j (by decide)).trans (by rw [r2]; exact ux_at)
    refine ⟨u2 J2 33 4 v, f, p, a1, hf, hp, ?_, ((g1.u (by decide)).tr f2.sp).u (by decide), fun q hq => (ux_j (by omega)).trans (by rw [r2, ux_j (by omega), r1]), fun z => ?_, fun z => (c1 z).2.fr (Fr.rf.u (K := [33]) (by decide)) (by decide) (by decide), fun I L2 ru2 hMS => ?_⟩
    · rw [ex]
      simp (config := { maxSteps := 2000000 }) (disch := omega) only [f207_J43, ux_at, ux_kk, ux_jo, gIx, pIx, pZx, gRx, aIx, sIx, aBx, sBx, lenx, clx, wshS, obS, reduceIte, Nat.one_ne_zero, Nat.zero_ne_one, Nat.reduceEqDiff, not_true_eq_false, not_false_eq_true, Nat.le_refl, ng_le, ng_lt, ng_nle, ng_nlt, ng_eq, ng_eq2, Bool.false_eq_true, lit_nI, nI_add, pk_mul, nI_leI, nI_ltI, nI_eq, e2]
    · obtain ⟨s3, _, k, k1, k2, k3⟩ := c0 z
      exact ⟨s3.fr (Fr.rf.u (K := [33]) (by decide)) (by decide) (by decide), by rw [h3]; exact hx, k, k1, k2, ux_at.trans k3⟩
    · obtain ⟨I1, L3, x1, y1, z1⟩ := hR I L2 ru2 hMS
      have g5 : Fr [84] [] I1 (u2 I1 84 (b + 3) x) := Fr.rf.u (by decide)
      obtain ⟨I2, m1, m2, m3, m4, m5⟩ := hM _ L3 ru2 (z1.fr g5 (by decide) (by decide) (by decide) (by decide))
      have r84 : I2 84 = (u2 I1 84 (b + 3) x) 84 := m2.at (by decide) (by decide)
      have r84b : I1 84 = I 84 := y1.at (by decide) (by decide)
      have g6 : Fr [84] [] I2 (u2 I2 84 (b + 4) (I2 67 20)) := Fr.rf.u (by decide)
      refine ⟨u2 I2 84 (b + 4) (I2 67 20), L3, x1.trans ?_, (((y1.mono (by decide) (by decide)).tr (g5.mono (by decide) (by decide))).tr (m2.mono (by decide) (by decide))).tr (g6.mono (by decide) (by decide)), fun q hq => (ux_j (by omega)).trans (by rw [r84, ux_j (by omega), r84b]), fun z => ⟨(m4 z).1.fr g6 (by decide) (by decide) (by decide) (by decide), ?_, ?_⟩, fun z => (ux_k (by decide)).trans (m5 z)⟩
      · simp (config := { maxSteps := 2000000 }) (disch := omega) only [f193_J91, ux_at, ux_kk, ux_jo, gIm, pIm, pZm, gRm, aIm, sIm, aBm, sBm, gLm, pLm, clm, wshS, obS, reduceIte, Nat.one_ne_zero, Nat.zero_ne_one, Nat.reduceEqDiff, not_true_eq_false, not_false_eq_true, Nat.le_refl, ng_le, ng_lt, ng_nle, ng_nlt, ng_eq, ng_eq2, Bool.false_eq_true, lit_nI, nI_add, pk_mul, nI_leI, nI_ltI, nI_eq, m1]
      · rw [h3, ux_j (by omega), r84, ux_at]
      · rw [ux_at, ux_at]
        exact (m4 z).2
  have hid := skN_id T N a
  -- the reference, behind its word
  have word : ∀ I L2 ru2, MS I T N a → ∃ I1 L2', f111 n 67 (mW I L2 ru2) = some (mW I1 L2' ru2) ∧ Fr [] [17, 19] I I1 ∧ MS I1 T N (skN T N a) ∧ I1 67 19 = nI (wdN T N (skN T N a)) ∧ L2' 67 18 = lN (sdNw T (skN T N a) (wdN T N (skN T N a) - skN T N a)) := fun I L2 ru2 hMS => ms_word hT2 hMS ha (by omega)
  have k1 := m_isW (T := T) (N := N) (b := skN T N a) (v := cW wLeft) lt_left rfl hT2 rfl
  have k2 := m_isW (T := T) (N := N) (b := skN T N a) (v := cW wRight) lt_right rfl hT2 rfl
  by_cases q1 : isW T N (skN T N a) wLeft
  · obtain ⟨J1, e1, f1, s1⟩ := xs_wordY (L := L) (ru := ru) (n := n) hS wd_left lt_left q1 (by omega)
    have k1 := k1.mpr q1
    refine side (-nI 1) (Or.inl rfl) J1 f1.sp (f1.1.at (by decide) (by decide)) s1 ?_ fun I L2 ru2 hMS => ?_
    · simp (config := { maxSteps := 2000000 }) (disch := omega) only [f207, ux_at, ux_kk, ux_jo, gIx, pIx, pZx, gRx, aIx, sIx, aBx, sBx, lenx, clx, wshS, obS, reduceIte, Nat.one_ne_zero, Nat.zero_ne_one, Nat.reduceEqDiff, not_true_eq_false, not_false_eq_true, Nat.le_refl, ng_le, ng_lt, ng_nle, ng_nlt, ng_eq, ng_eq2, Bool.false_eq_true, lit_nI, nI_add, pk_mul, nI_leI, nI_ltI, nI_eq, e1]
    · obtain ⟨I1, L3, x1, y1, z1, w1, l1⟩ := word I L2 ru2 hMS
      refine ⟨u2 I1 67 17 (nI (wdN T N (skN T N a))), L3, ?_, y1.uf (by decide), z1.1.fr (Fr.rf.uf (K := []) (F := [17]) (by decide)) (by decide) (by decide) (by decide), ux_at, (ux_j (by decide)).trans z1.2.2⟩
      simp (config := { maxSteps := 2000000 }) (disch := omega) only [f193, f193_J28, f193_J67, ux_at, ux_kk, ux_jo, gIm, pIm, pZm, gRm, aIm, sIm, aBm, sBm, gLm, pLm, clm, wshS, obS, reduceIte, Nat.one_ne_zero, Nat.zero_ne_one, Nat.reduceEqDiff, not_true_eq_false, not_false_eq_true, Nat.le_refl, ng_le, ng_lt, ng_nle, ng_nlt, ng_eq, ng_eq2, Bool.false_eq_true, lit_nI, nI_add, pk_mul, nI_leI, nI_ltI, nI_eq, x1, l1, mc_left, k1, w1]
  · obtain ⟨J1, e1, f1, s1⟩ := xs_wordN (L := L) (ru := ru) (n := n) hS wd_left lt_left q1 (by omega)
    have k1 : ¬ _ := fun z => q1 (k1.mp z)
    by_cases q2 : isW T N (skN T N a) wRight
    · obtain ⟨J2, e2, f2, s2⟩ := xs_wordY (L := L) (ru := ru) (n := n) s1 wd_right lt_right (by rw [hid]; exact q2) (by omega)
      rw [hid] at s2
      have k2 := k2.mpr q2
      refine side (nI 1) (Or.inr rfl) J2 (f1.sp.tr f2.sp) ((f2.1.at (by decide) (by decide)).trans (f1.1.at (by decide) (by decide))) s2 ?_ fun I L2 ru2 hMS => ?_
      · simp (config := { maxSteps := 2000000 }) (disch := omega) only [f207, ux_at, ux_kk, ux_jo, gIx, pIx, pZx, gRx, aIx, sIx, aBx, sBx, lenx, clx, wshS, obS, reduceIte, Nat.one_ne_zero, Nat.zero_ne_one, Nat.reduceEqDiff, not_true_eq_false, not_false_eq_true, Nat.le_refl, ng_le, ng_lt, ng_nle, ng_nlt, ng_eq, ng_eq2, Bool.false_eq_true, lit_nI, nI_add, pk_mul, nI_leI, nI_ltI, nI_eq, e1, e2]
      · obtain ⟨I1, L3, x1, y1, z1, w1, l1⟩ := word I L2 ru2 hMS
        refine ⟨u2 I1 67 17 (nI (wdN T N (skN T N a))), L3, ?_, y1.uf (by decide), z1.1.fr (Fr.rf.uf (K := []) (F := [17]) (by decide)) (by decide) (by decide) (by decide), ux_at, (ux_j (by decide)).trans z1.2.2⟩
        simp (config := { maxSteps := 2000000 }) (disch := omega) only [f193, f193_J28, f193_J67, ux_at, ux_kk, ux_jo, gIm, pIm, pZm, gRm, aIm, sIm, aBm, sBm, gLm, pLm, clm, wshS, obS, reduceIte, Nat.one_ne_zero, Nat.zero_ne_one, Nat.reduceEqDiff, not_true_eq_false, not_false_eq_true, Nat.le_refl, ng_le, ng_lt, ng_nle, ng_nlt, ng_eq, ng_eq2, Bool.false_eq_true, lit_nI, nI_add, pk_mul, nI_leI, nI_ltI, nI_eq, x1, l1, mc_left, k1, mc4_right, mc5_right, k2, w1]
    · obtain ⟨J2, e2, f2, s2⟩ := xs_wordN (L := L) (ru := ru) (n := n) s1 wd_right lt_right (by rw [hid]; exact q2) (by omega)
      rw [hid] at s2
      have k2 : ¬ _ := fun z => q2 (k2.mp z)
      obtain ⟨J3, e3, f3, z3⟩ := xs_fail (L := L) (ru := ru) (k := 1) (p := skN T N a) s2 (by decide)
      obtain ⟨J4, e4, f4, z4⟩ := xz_num (L := L) (ru := ru) (n := n) (lo := nI 1) (hi := nI 7) z3 (by decide) (by decide) (by omega)
      have s21 : J2 1 2 = nI (skN T N a) := by
        obtain ⟨_, _, _, h⟩ := s2
        exact h.1
      refine ⟨u2 J4 33 4 (nI 0), 1, skN T N a, 0, by decide, by omega, ?_, (((f1.sp.tr f2.sp).tr f3.sp).tr f4.sp).u (by decide), fun q hq => (ux_j (by omega)).trans (by rw [f4.1.at (by decide) (by decide), f3.1.at (by decide) (by decide), f2.1.at (by decide) (by decide), f1.1.at (by decide) (by decide)]), fun z => absurd z (by decide), fun _ => z4.fr (Fr.rf.u (K := [33]) (by decide)) (by decide) (by decide), fun I L2 ru2 hMS => ?_⟩
      · simp (config := { maxSteps := 2000000 }) (disch := omega) only [f207, f207_J43, ux_at, ux_kk, ux_jo, gIx, pIx, pZx, gRx, aIx, sIx, aBx, sBx, lenx, clx, wshS, obS, reduceIte, Nat.one_ne_zero, Nat.zero_ne_one, Nat.reduceEqDiff, not_true_eq_false, not_false_eq_true, Nat.le_refl, ng_le, ng_lt, ng_nle, ng_nlt, ng_eq, ng_eq2, Bool.false_eq_true, lit_nI, nI_add, pk_mul, nI_leI, nI_ltI, nI_eq, e1, e2, s21, e3, e4]
      · obtain ⟨I1, L3, x1, y1, z1, w1, l1⟩ := word I L2 ru2 hMS
        have h17 := z1.2.1
        refine ⟨u2 I1 67 16 (nI (skN T N a)), L3, ?_, (y1.mono (by decide) (by decide)).uf (by decide), fun q hq => (ux_k (by decide)).trans (by rw [y1.at (by decide) (by decide)]), fun z => absurd z (by decide), fun _ => ux_at⟩
        simp (config := { maxSteps := 2000000 }) (disch := omega) only [f193, f193_J28, f46, ux_at, ux_kk, ux_jo, gIm, pIm, pZm, gRm, aIm, sIm, aBm, sBm, gLm, pLm, clm, wshS, obS, reduceIte, Nat.one_ne_zero, Nat.zero_ne_one, Nat.reduceEqDiff, not_true_eq_false, not_false_eq_true, Nat.le_refl, ng_le, ng_lt, ng_nle, ng_nlt, ng_eq, ng_eq2, Bool.false_eq_true, lit_nI, nI_add, pk_mul, nI_leI, nI_ltI, nI_eq, x1, l1, mc_left, k1, mc4_right, mc5_right, k2, h17]
end
