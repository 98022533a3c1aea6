/-! TEXTS: a rule's bars: both sides -/
theorem bar_or : ∀ m, m < 64 → ∀ c, c < 6 → nI m ||| (nI 1 <<< (nI c &&& nI 31)) = nI (m ||| 2 ^ c) ∧ m ||| 2 ^ c < 64 := by decide +kernel
theorem bN_tb {m c : Nat} : (bN m c = 0 ∧ m.testBit c = false) ∨ (bN m c = 1 ∧ m.testBit c = true) := by
  unfold bN
  cases m.testBit c
  · exact Or.inl ⟨rfl, rfl⟩
  · exact Or.inr ⟨rfl, rfl⟩
abbrev spK : List Nat := [1, 33]
section
variable {I J : St} {L : Lt} {ru n : Nat} {T : Nat → Nat} {N : Nat}
theorem TF.sp {J J' : St} (h : TF J J') : Fr spK [] J J' := h.1.mono (by decide) (by decide)
theorem bars_end {K : Wd → Option Wd} {v : Int32} {w : Wd} : ∀ k, 0 < k → f179_H4 n K k 33 1 (nI 0) v w = K w
  | 0, h => absurd h (Nat.not_lt_zero _)
  | k + 1, _ => by
    simp only [f179_H4, lit_nI, reduceIte, ite_self]
theorem mbars_end {K : Nat → Int32 → Int32 → Wd → Option (Int32 × Wd)} {x y : Int32} {w : Wd} : ∀ k, 0 < k → f192_H4 n K k 67 x y (nI 0) w = K 67 x y w
  | 0, h => absurd h (Nat.not_lt_zero _)
  | k + 1, _ => by
    simp only [f192_H4, lit_nI, reduceIte]
theorem p_bars_lp (hT2 : ∀ i, T i < 256) (hn : 1000 < n) {b : Nat} {K4 : Nat → Int32 → Int32 → Wd → Option (Int32 × Wd)} : ∀ m J a i kx s, XS J T N a → J 33 2 = nI s → s < 64 → cB (fun c => s.testBit c) 6 = i → N - a < m → N - a + 5 < kx →
    ∃ J' f p a' s', f < 6 ∧ p ≤ 300 ∧ f179_H4 n (fun w23 => some w23) kx 33 1 (nI 1) (nI i) (mW J L ru) = some (mW J' L ru) ∧ Fr spK [] J J' ∧ (∀ q, q ≠ 2 → J' 33 q = J 33 q) ∧ (f = 0 → XS J' T N a' ∧ a < a' ∧ s' < 64 ∧ J' 33 2 = nI s') ∧ (f ≠ 0 → XZ J' T N f p) ∧ ∀ I L2 ru2 km, N - a + 5 < km → MS I T N a → ∃ I', (f = 0 → f192_H4 n K4 km 67 (nI b) (nI s) (nI 1) (mW I L2 ru2) = K4 67 (nI b) (nI s') (mW I' L2 ru2)) ∧ (f ≠ 0 → f192_H4 n K4 km 67 (nI b) (nI s) (nI 1) (mW I L2 ru2) = some (nI f, mW I' L2 ru2)) ∧ Fr [] [16, 17, 20, 21] I I' ∧ (f = 0 → MS I' T N a') ∧ (f ≠ 0 → I' 67 16 = nI p) := by
  intro m
  induction m with
  | zero => intro J a i kx s _ _ _ _ h; omega
  | succ m ih =>
    intro J a i kx s hS hs hs64 hi hm hk
    obtain ⟨kx, rfl⟩ : ∃ z, kx = z + 1 := ⟨kx - 1, by omega⟩
    have i6 : i ≤ 6 := by rw [← hi]; exact cB_le _ _
    have i6' : ¬ 6 < i := by omega
    have kx0 : 0 < kx := by omega
    have he := fun v w => bars_end (n := n) (K := fun w23 => some w23) (v := v) (w := w) kx kx0
    obtain ⟨J1, v, f, p, a1, e1, f1, hf, hp, hna, c0, c1, hM⟩ := two_num (L := L) (ru := ru) (n := n) (lo := 0) (hi := 5) hT2 hS (by decide) (by decide) (by omega)
    have r33 : J1 33 = J 33 := f1.1.at (by decide) (by decide)
    have hs1 : J1 33 2 = nI s := by rw [r33]; exact hs
    by_cases hf0 : f = 0
    · subst hf0
      obtain ⟨s1, lt1, c, _, hc, rfl⟩ := c0 rfl
      have hc : c < 6 := Nat.lt_succ_of_le hc
      obtain ⟨ho, ho2⟩ := bar_or s hs64 c hc
      have eh := fun w => x_holds (m := s) (k := c) (by omega) (by omega) w
      rcases bN_tb (m := s) (c := c) with ⟨hb, ht⟩ | ⟨hb, ht⟩
      · simp only [hb] at eh
        have s2 : XS (u2 J1 33 2 (nI (s ||| 2 ^ c))) T N a1 := s1.fr (Fr.rf.u (K := [33]) (by decide)) (by decide) (by decide)
        obtain ⟨J2, cm, a2, hcm, e2, f2, s3, le2, hC⟩ := two_comma (L := L) (ru := ru) (n := n) s2 (by omega)
        have r2 : J2 33 = (u2 J1 33 2 (nI (s ||| 2 ^ c))) 33 := f2.1.at (by decide) (by decide)
        have g2 : Fr spK [] J J2 := (f1.sp.u (by decide)).tr f2.sp
        have q2 : ∀ q, q ≠ 2 → J2 33 q = J 33 q := fun q hq => by rw [r2, ux_j hq, r33]
        have b2 : J2 33 2 = nI (s ||| 2 ^ c) := by rw [r2]; exact ux_at
        have hR : ∀ I L2 ru2, MS I T N a → ∃ I1 I2, f161 n 67 (nI 0) (nI 5) (mW I L2 ru2) = some (nI 0, mW I1 L2 ru2) ∧ I1 67 20 = nI c ∧ f114 n 67 (mW I1 L2 ru2) = some (nI cm, mW I2 L2 ru2) ∧ Fr [] [16, 17, 20, 21] I I2 ∧ MS I2 T N a2 := by
          intro I L2 ru2 hMS
          obtain ⟨I1, m1, m2, m3, m4, m5⟩ := hM I L2 ru2 hMS
          obtain ⟨q1, q2⟩ := m4 rfl
          obtain ⟨I2, m6, m7, m8⟩ := hC I1 L2 ru2 q1
          exact ⟨I1, I2, m1, q2, m6, m2.tr (m7.mono (by decide) (by decide)), m8⟩
        have eM := fun w => s45 (a := s) (b := c) hs64 hc w
        simp only [hb] at eM
        rcases one_or hcm with rfl | rfl
        · refine ⟨J2, 0, 0, a2, s ||| 2 ^ c, by decide, by decide, ?_, g2, q2, fun _ => ⟨s3, by omega, ho2, b2⟩, fun y => absurd rfl y, fun I L2 ru2 km hkm hMS => ?_⟩
          · simp (config := { maxSteps := 2000000 }) (disch := omega) only [f179_H4, f179_J43, ux_at, ux_kk, ux_jo, gIx, pIx, pZx, gRx, aIx, sIx, aBx, sBx, lenx, clx, wshS, obS, reduceIte, Nat.one_ne_zero, Nat.zero_ne_one, Nat.reduceEqDiff, not_true_eq_false, not_false_eq_true, Nat.le_refl, ng_le, ng_lt, ng_nle, ng_nlt, ng_eq, ng_eq2, Bool.false_eq_true, lit_nI, nI_add, pk_mul, nI_leI, nI_ltI, nI_eq, i6', e1, hs1, eh, ho, e2, he]
          · obtain ⟨km, rfl⟩ : ∃ z, km = z + 1 := ⟨km - 1, by omega⟩
            obtain ⟨I1, I2, m1, m2, m3, m4, m5⟩ := hR I L2 ru2 hMS
            have hem := fun x y w => mbars_end (n := n) (K := K4) (x := x) (y := y) (w := w) km (by omega)
            refine ⟨I2, fun _ => ?_, fun y => absurd rfl y, m4, fun _ => m5, fun y => absurd rfl y⟩
            simp (config := { maxSteps := 2000000 }) (disch := omega) only [f192_H4, f192_J46, ux_at, ux_kk, ux_jo, gIm, pIm, pZm, gRm, aIm, sIm, aBm, sBm, gLm, pLm, clm, wshS, obS, reduceIte, Nat.one_ne_zero, Nat.zero_ne_one, Nat.reduceEqDiff, not_true_eq_false, not_false_eq_true, Nat.le_refl, ng_le, ng_lt, ng_nle, ng_nlt, ng_eq, ng_eq2, Bool.false_eq_true, lit_nI, nI_add, pk_mul, nI_leI, nI_ltI, nI_eq, m1, m2, eM, m3, ho, hem]
        · have cz : cB (fun c' => (s ||| 2 ^ c).testBit c') 6 = i + 1 := by
            rw [← hi]
            refine cB_set (c := c) 6 hc ht ?_ fun j hj => ?_
            · rw [lk_bit, decide_eq_true rfl, Bool.or_true]
            · rw [lk_bit, decide_eq_false (fun z => hj z.symm), Bool.or_false]
          obtain ⟨J', f', p', a', s', z1, z2, z3, z4, z5, z6, z7, z8⟩ := ih J2 a2 (i + 1) kx (s ||| 2 ^ c) s3 b2 ho2 cz (ar_m hm lt1 le2 s3.2.1) (ar_k hk lt1 le2 s3.2.1)
          refine ⟨J', f', p', a', s', z1, z2, ?_, g2.tr z4, fun q hq => (z5 q hq).trans (q2 q hq), fun y => ⟨(z6 y).1, Nat.lt_trans (Nat.lt_of_lt_of_le lt1 le2) (z6 y).2.1, (z6 y).2.2⟩, z7, fun I L2 ru2 km hkm hMS => ?_⟩
          · simp (config := { maxSteps := 2000000 }) (disch := omega) only [f179_H4, f179_J43, ux_at, ux_kk, ux_jo, gIx, pIx, pZx, gRx, aIx, sIx, aBx, sBx, lenx, clx, wshS, obS, reduceIte, Nat.one_ne_zero, Nat.zero_ne_one, Nat.reduceEqDiff, not_true_eq_false, not_false_eq_true, Nat.le_refl, ng_le, ng_lt, ng_nle, ng_nlt, ng_eq, ng_eq2, Bool.false_eq_true, lit_nI, nI_add, pk_mul, nI_leI, nI_ltI, nI_eq, i6', e1, hs1, eh, ho, e2]
            exact z3
          · obtain ⟨km, rfl⟩ : ∃ z, km = z + 1 := ⟨km - 1, by omega⟩
            obtain ⟨I1, I2, m1, m2, m3, m4, m5⟩ := hR I L2 ru2 hMS
            obtain ⟨I', y1, y2, y3, y4, y5⟩ := z8 I2 L2 ru2 km (ar_k hkm lt1 le2 s3.2.1) m5
            have hst : f192_H4 n K4 (km + 1) 67 (nI b) (nI s) (nI 1) (mW I L2 ru2) = f192_H4 n K4 km 67 (nI b) (nI (s ||| 2 ^ c)) (nI 1) (mW I2 L2 ru2) := by
              simp (config := { maxSteps := 2000000 }) (disch := omega) only [f192_H4, f192_J46, ux_at, ux_kk, ux_jo, gIm, pIm, pZm, gRm, aIm, sIm, aBm, sBm, gLm, pLm, clm, wshS, obS, reduceIte, Nat.one_ne_zero, Nat.zero_ne_one, Nat.reduceEqDiff, not_true_eq_false, not_false_eq_true, Nat.le_refl, ng_le, ng_lt, ng_nle, ng_nlt, ng_eq, ng_eq2, Bool.false_eq_true, lit_nI, nI_add, pk_mul, nI_leI, nI_ltI, nI_eq, m1, m2, eM, m3, ho]
            exact ⟨I', fun y => hst.trans (y1 y), fun y => hst.trans (y2 y), m4.tr y3, y4, y5⟩
      · simp only [hb] at eh
        obtain ⟨J2, e2, f2, z2⟩ := xs_fail (L := L) (ru := ru) (k := 4) (p := p) s1 (by decide)
        have r2 : J2 33 = J 33 := (f2.1.at (by decide) (by decide)).trans r33
        have hs2 : J2 33 2 = nI s := by rw [r2]; exact hs
        have z2' : XZ (u2 J2 33 2 (nI (s ||| 2 ^ c))) T N 4 p := z2.fr (Fr.rf.u (K := [33]) (by decide)) (by decide) (by decide)
        obtain ⟨J3, e3, f3, z3⟩ := xz_sign (L := L) (ru := ru) (n := n) (x := nI 44) z2' (by decide) (by decide) (by omega)
        refine ⟨J3, 4, p, 0, 0, by decide, hp, ?_, ((f1.sp.tr f2.sp).u (by decide)).tr f3.sp, fun q hq => by rw [f3.1.at (by decide) (by decide), ux_j hq, r2], fun y => absurd y (by decide), fun _ => z3, fun I L2 ru2 km hkm hMS => ?_⟩
        · simp (config := { maxSteps := 2000000 }) (disch := omega) only [f179_H4, f179_J43, ux_at, ux_kk, ux_jo, gIx, pIx, pZx, gRx, aIx, sIx, aBx, sBx, lenx, clx, wshS, obS, reduceIte, Nat.one_ne_zero, Nat.zero_ne_one, Nat.reduceEqDiff, not_true_eq_false, not_false_eq_true, Nat.le_refl, ng_le, ng_lt, ng_nle, ng_nlt, ng_eq, ng_eq2, Bool.false_eq_true, lit_nI, nI_add, pk_mul, nI_leI, nI_ltI, nI_eq, i6', e1, hs1, eh, hna, e2, hs2, ho, e3, he]
        · obtain ⟨km, rfl⟩ : ∃ z, km = z + 1 := ⟨km - 1, by omega⟩
          have eM := fun w => s45 (a := s) (b := c) hs64 hc w
          simp only [hb] at eM
          obtain ⟨I1, m1, m2, m3, m4, m5⟩ := hM I L2 ru2 hMS
          obtain ⟨q1, q2⟩ := m4 rfl
          refine ⟨u2 I1 67 16 (nI p), fun y => absurd y (by decide), fun _ => ?_, m2.uf (by decide), fun y => absurd y (by decide), fun _ => ux_at⟩
          simp (config := { maxSteps := 2000000 }) (disch := omega) only [f192_H4, f192_J46, f46, ux_at, ux_kk, ux_jo, gIm, pIm, pZm, gRm, aIm, sIm, aBm, sBm, gLm, pLm, clm, wshS, obS, reduceIte, Nat.one_ne_zero, Nat.zero_ne_one, Nat.reduceEqDiff, not_true_eq_false, not_false_eq_true, Nat.le_refl, ng_le, ng_lt, ng_nle, ng_nlt, ng_eq, ng_eq2, Bool.false_eq_true, lit_nI, nI_add, pk_mul, nI_leI, nI_ltI, nI_eq, m1, q2, eM, m3, (by decide : ¬ 4 ≤ 0)]
    · obtain ⟨rfl, z1⟩ := c1 hf0
      obtain ⟨ho, ho2⟩ := bar_or s hs64 0 (by decide)
      have eh := fun w => x_holds (m := s) (k := 0) (by omega) (by omega) w
      have z2' : XZ (u2 J1 33 2 (nI (s ||| 2 ^ 0))) T N f p := z1.fr (Fr.rf.u (K := [33]) (by decide)) (by decide) (by decide)
      obtain ⟨J3, e3, f3, z3⟩ := xz_sign (L := L) (ru := ru) (n := n) (x := nI 44) z2' hf0 hf (by omega)
      have ef := fun y => xz_fail (L := L) (ru := ru) (x := nI 4) (y := y) z1 hf0 hf
      refine ⟨J3, f, p, 0, 0, hf, hp, ?_, (f1.sp.u (by decide)).tr f3.sp, fun q hq => by rw [f3.1.at (by decide) (by decide), ux_j hq, r33], fun y => absurd y hf0, fun _ => z3, fun I L2 ru2 km hkm hMS => ?_⟩
      · rcases bN_tb (m := s) (c := 0) with ⟨hb, ht⟩ | ⟨hb, ht⟩
        · simp only [hb] at eh
          simp (config := { maxSteps := 2000000 }) (disch := omega) only [f179_H4, f179_J43, ux_at, ux_kk, ux_jo, gIx, pIx, pZx, gRx, aIx, sIx, aBx, sBx, lenx, clx, wshS, obS, reduceIte, Nat.one_ne_zero, Nat.zero_ne_one, Nat.reduceEqDiff, not_true_eq_false, not_false_eq_true, Nat.le_refl, ng_le, ng_lt, ng_nle, ng_nlt, ng_eq, ng_eq2, Bool.false_eq_true, lit_nI, nI_add, pk_mul, nI_leI, nI_ltI, nI_eq, i6', e1, hs1, eh, ho, e3, he]
        · simp only [hb] at eh
          simp (config := { maxSteps := 2000000 }) (disch := omega) only [f179_H4, f179_J43, ux_at, ux_kk, ux_jo, gIx, pIx, pZx, gRx, aIx, sIx, aBx, sBx, lenx, clx, wshS, obS, reduceIte, Nat.one_ne_zero, Nat.zero_ne_one, Nat.reduceEqDiff, not_true_eq_false, not_false_eq_true, Nat.le_refl, ng_le, ng_lt, ng_nle, ng_nlt, ng_eq, ng_eq2, Bool.false_eq_true, lit_nI, nI_add, pk_mul, nI_leI, nI_ltI, nI_eq, i6', e1, hs1, eh, ef, ho, e3, he]
      · obtain ⟨km, rfl⟩ : ∃ z, km = z + 1 := ⟨km - 1, by omega⟩
        obtain ⟨I1, m1, m2, m3, m4, m5⟩ := hM I L2 ru2 hMS
        have h0 : ¬ f ≤ 0 := Nat.not_le_of_gt (Nat.pos_of_ne_zero hf0)
        refine ⟨I1, fun y => absurd y hf0, fun _ => ?_, m2, fun y => absurd y hf0, m5⟩
        simp (config := { maxSteps := 2000000 }) (disch := omega) only [f192_H4, f192_J46, ux_at, ux_kk, ux_jo, gIm, pIm, pZm, gRm, aIm, sIm, aBm, sBm, gLm, pLm, clm, wshS, obS, reduceIte, Nat.one_ne_zero, Nat.zero_ne_one, Nat.reduceEqDiff, not_true_eq_false, not_false_eq_true, Nat.le_refl, ng_le, ng_lt, ng_nle, ng_nlt, ng_eq, ng_eq2, Bool.false_eq_true, lit_nI, nI_add, pk_mul, nI_leI, nI_ltI, nI_eq, m1, hf0, h0]
end
