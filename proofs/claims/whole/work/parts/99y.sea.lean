/-! TEXTS: sea's reading as a whole -/
section
variable {I J : St} {L : Lt} {ru n : Nat} {T : Nat → Nat} {N : Nat}
theorem p_read (hT2 : ∀ i, T i < 256) (hn : 1000 < n) {na : Int32} (hT : XT J T N) (hS : TS J 0 na 0 (-nI 1)) :
    ∃ J' f p, f < 6 ∧ p ≤ 300 ∧ f232 n 27 (mW J L ru) = some (mW J' L ru) ∧ Fr dxK [] J J' ∧ J' 1 4 = nI f ∧ (f = 0 → J' 1 5 = -nI 1 ∧ DrK J' ∧ ∃ k, k < 64 ∧ J' 15 0 = nI k ∧ J' 26 k = nI 0) ∧ (f ≠ 0 → J' 1 5 = nI p) ∧ ∀ I L2 ru2, MT I T N → ∃ I' L2', f243 n 67 (mW I L2 ru2) = f243_J64 n 67 (nI f) (mW I' L2' ru2) ∧ Fr dmK dmF I I' ∧ (f = 0 → I' 67 16 = -nI 1 ∧ RDr I' J' (soD J')) ∧ (f ≠ 0 → I' 67 16 = nI p) := by
  have hN := hT.2.1
  obtain ⟨J1, e1, f1, b0, b1, b2, b3, b4, b5, b6⟩ := x_sempty (J := J) (L := L) (ru := ru) (n := n) (by omega)
  have g2 : Fr dxK [] J (u2 J1 27 2 (nI 0)) := (f1.mono (by decide) (by decide)).u (by decide)
  have g2' : Fr [15, 26, 27] [] J (u2 J1 27 2 (nI 0)) := (f1.mono (by decide) (by decide)).u (by decide)
  have c15 : (u2 J1 27 2 (nI 0)) 15 = J1 15 := ux_kk (by decide)
  have c26 : (u2 J1 27 2 (nI 0)) 26 = J1 26 := ux_kk (by decide)
  have c27 : (u2 J1 27 2 (nI 0)) 27 2 = nI 0 := ux_at
  have ex1 : f232 n 27 (mW J L ru) = f232_H14 n (fun e0 w41 => f232_J85 n e0 w41) n 27 (nI 0) (mW (u2 J1 27 2 (nI 0)) L ru) := by
    simp (config := { maxSteps := 2000000 }) (disch := omega) only [f232, ux_at, ux_kk, ux_jo, gIx, pIx, pZx, gRx, aIx, sIx, aBx, sBx, lenx, clx, wshS, obS, reduceIte, Nat.one_ne_zero, Nat.zero_ne_one, Nat.reduceEqDiff, not_true_eq_false, not_false_eq_true, Nat.le_refl, ng_le, ng_lt, ng_nle, ng_nlt, ng_eq, ng_eq2, Bool.false_eq_true, lit_nI, nI_add, pk_mul, nI_leI, nI_ltI, nI_eq, e1]
  generalize u2 J1 27 2 (nI 0) = J2 at *
  have s2 : XS J2 T N 0 := ⟨hT.fr g2' (by decide) (by decide), Nat.zero_le _, na, hS.fr g2' (by decide)⟩
  have so0 : soD J2 = 0 := by
    unfold soD
    rw [c15, b5]
    decide +kernel
  have d2 : DrK J2 := by
    unfold DrK DrT
    rw [so0, c15, c26, c27, b0, b1, b3, b4, b5]
    exact ⟨⟨0, by decide, rfl⟩, ⟨4, by decide, rfl⟩, Or.inl rfl, ⟨0, by decide, rfl⟩, ⟨rfl, by decide⟩, fun c hc => Or.inl (b6 c hc), fun s hs => absurd hs (Nat.not_lt_zero _), 0, by decide, rfl, fun _ c hc => b6 c hc⟩
  obtain ⟨J3, f, p, hf, hp, e3, f3, c0, c1, hM⟩ := p_read_lp (L := L) (ru := ru) (K := fun e0 w41 => f232_J85 n e0 w41) (K2 := fun e0 e1 w15 => f243_J35 n e0 e1 w15) hT2 hn 301 J2 0 0 n s2 d2 (by decide) (by omega) (by omega)
  have fx := g2.tr f3
  -- the reference, behind its loop
  have hR : ∀ I L2 ru2, MT I T N → ∃ I' L2', f243 n 67 (mW I L2 ru2) = f243_J35 n 67 (nI f) (mW I' L2' ru2) ∧ Fr dmK dmF I I' ∧ I' 67 15 = nI N ∧ (f = 0 → I' 67 16 = -nI 1 ∧ RDr I' J3 (soD J3)) ∧ (f ≠ 0 → I' 67 16 = nI p) := by
    intro I L2 ru2 hMT
    have g4 : Fr [] [16, 17] I (u2 (u2 I 67 16 (-nI 1)) 67 17 (nI 0)) := (Fr.rf.uf (by decide)).uf (by decide)
    have t16 : (u2 (u2 I 67 16 (-nI 1)) 67 17 (nI 0)) 67 16 = -nI 1 := (ux_j (by decide)).trans ux_at
    have t17 : (u2 (u2 I 67 16 (-nI 1)) 67 17 (nI 0)) 67 17 = nI 0 := ux_at
    obtain ⟨I1, x1, y1, r0, r1, r2, r3, r4, r5, r6, r7⟩ := m_sbare (I := u2 (u2 I 67 16 (-nI 1)) 67 17 (nI 0)) (L := L2) (ru := ru2) (n := n) (by omega)
    have m1 : MS I1 T N 0 := ⟨(hMT.fr g4 (by decide) (by decide) (by decide)).fr y1 (by decide) (by decide) (by decide), (y1.f (by decide) (by decide)).trans t17, (y1.f (by decide) (by decide)).trans t16⟩
    have q1 : RDr I1 J2 0 := by
      unfold RDr
      rw [so0, c15, c26, c27, b0, b1, b3, b4, r0, r1, r2, r3, r4, r5, r6]
      exact ⟨rfl, rfl, Or.inl ⟨rfl, rfl, rfl⟩, rfl, rfl, ⟨0, by decide, rfl, rfl⟩, fun c hc => by rw [r7 c hc, b6 c hc], fun s hs => absurd hs (Nat.not_lt_zero _)⟩
    rw [so0] at hM
    obtain ⟨I2, L3, x2, y2, z2, w2⟩ := hM I1 L2 ru2 n (by omega) m1 q1
    have y3 : Fr dmK dmF I I2 := ((g4.mono (by decide) (by decide)).tr (y1.mono (by decide) (by decide))).tr y2
    refine ⟨I2, L3, ?_, y3, (y3.f (by decide) (by decide)).trans hMT.1, z2, w2⟩
    simp (config := { maxSteps := 2000000 }) (disch := omega) only [f243, ux_at, ux_kk, ux_jo, gIm, pIm, pZm, gRm, aIm, sIm, aBm, sBm, gLm, pLm, clm, wshS, obS, reduceIte, Nat.one_ne_zero, Nat.zero_ne_one, Nat.reduceEqDiff, not_true_eq_false, not_false_eq_true, Nat.le_refl, ng_le, ng_lt, ng_nle, ng_nlt, ng_eq, ng_eq2, Bool.false_eq_true, lit_nI, nI_add, pk_mul, nI_leI, nI_ltI, nI_eq, x1]
    exact x2
  by_cases hf0 : f = 0
  · subst hf0
    obtain ⟨⟨a', s3⟩, d3⟩ := c0 rfl
    have xf := xs_f s3
    have hlen : J3 1 1 = nI N := s3.1.1
    have hfa : J3 1 5 = -nI 1 := by
      obtain ⟨_, _, _, h⟩ := s3
      exact h.2.2.2
    obtain ⟨k, hk, hsh⟩ := d3.1
    have hr := d3.2.2.2.2.2.1 k hk
    have ei := dr_isRock (J := J3) (L := L) (ru := ru) (c := k) hk hr
    rcases hr with hr | hr
    · rw [hr] at ei
      refine ⟨J3, 0, 0, by decide, by decide, ?_, fx, xf, fun _ => ⟨hfa, d3, k, hk, hsh, hr⟩, fun z => absurd rfl z, fun I L2 ru2 hMT => ?_⟩
      · rw [ex1, e3]
        simp (config := { maxSteps := 2000000 }) (disch := omega) only [f232_J85, ux_at, ux_kk, ux_jo, gIx, pIx, pZx, gRx, aIx, sIx, aBx, sBx, lenx, clx, wshS, obS, reduceIte, Nat.one_ne_zero, Nat.zero_ne_one, Nat.reduceEqDiff, not_true_eq_false, not_false_eq_true, Nat.le_refl, ng_le, ng_lt, ng_nle, ng_nlt, ng_eq, ng_eq2, Bool.false_eq_true, lit_nI, nI_add, pk_mul, nI_leI, nI_ltI, nI_eq, xf, hsh, ei]
      · obtain ⟨I', L3, x1, y1, t1, z1, w1⟩ := hR I L2 ru2 hMT
        obtain ⟨u1, q1⟩ := z1 rfl
        have h22 : I' 67 22 = nI k := q1.1.trans hsh
        have h77 : I' 77 k = nI 0 := (q1.2.2.2.2.2.2.1 k hk).trans hr
        refine ⟨I', L3, x1.trans ?_, y1, fun _ => ⟨u1, q1⟩, fun z => absurd rfl z⟩
        simp (config := { maxSteps := 2000000 }) (disch := omega) only [f243_J35, ux_at, ux_kk, ux_jo, gIm, pIm, pZm, gRm, aIm, sIm, aBm, sBm, gLm, pLm, clm, wshS, obS, reduceIte, Nat.one_ne_zero, Nat.zero_ne_one, Nat.reduceEqDiff, not_true_eq_false, not_false_eq_true, Nat.le_refl, ng_le, ng_lt, ng_nle, ng_nlt, ng_eq, ng_eq2, Bool.false_eq_true, lit_nI, nI_add, pk_mul, nI_leI, nI_ltI, nI_eq, h22, h77]
    · rw [hr] at ei
      obtain ⟨J4, e4, f4, z4⟩ := xs_fail (L := L) (ru := ru) (k := 5) (p := N) s3 (by decide)
      refine ⟨J4, 5, N, by decide, hN, ?_, fx.tr f4.dx, xz_f z4, fun z => absurd z (by decide), fun _ => ?_, fun I L2 ru2 hMT => ?_⟩
      · rw [ex1, e3]
        simp (config := { maxSteps := 2000000 }) (disch := omega) only [f232_J85, ux_at, ux_kk, ux_jo, gIx, pIx, pZx, gRx, aIx, sIx, aBx, sBx, lenx, clx, wshS, obS, reduceIte, Nat.one_ne_zero, Nat.zero_ne_one, Nat.reduceEqDiff, not_true_eq_false, not_false_eq_true, Nat.le_refl, ng_le, ng_lt, ng_nle, ng_nlt, ng_eq, ng_eq2, Bool.false_eq_true, lit_nI, nI_add, pk_mul, nI_leI, nI_ltI, nI_eq, xf, hsh, ei, hlen, e4]
      · obtain ⟨_, _, _, _, h⟩ := z4
        exact h.2.2.2
      · obtain ⟨I', L3, x1, y1, t1, z1, w1⟩ := hR I L2 ru2 hMT
        obtain ⟨u1, q1⟩ := z1 rfl
        have h22 : I' 67 22 = nI k := q1.1.trans hsh
        have h77 : I' 77 k = nI 1 := (q1.2.2.2.2.2.2.1 k hk).trans hr
        refine ⟨u2 I' 67 16 (nI N), L3, x1.trans ?_, y1.uf (by decide), fun z => absurd z (by decide), fun _ => ux_at⟩
        simp (config := { maxSteps := 2000000 }) (disch := omega) only [f243_J35, f46, ux_at, ux_kk, ux_jo, gIm, pIm, pZm, gRm, aIm, sIm, aBm, sBm, gLm, pLm, clm, wshS, obS, reduceIte, Nat.one_ne_zero, Nat.zero_ne_one, Nat.reduceEqDiff, not_true_eq_false, not_false_eq_true, Nat.le_refl, ng_le, ng_lt, ng_nle, ng_nlt, ng_eq, ng_eq2, Bool.false_eq_true, lit_nI, nI_add, pk_mul, nI_leI, nI_ltI, nI_eq, h22, h77, t1]
  · have z3 := c1 hf0
    have xf := xz_f z3
    refine ⟨J3, f, p, hf, hp, ?_, fx, xf, fun z => absurd z hf0, fun _ => ?_, fun I L2 ru2 hMT => ?_⟩
    · rw [ex1, e3]
      simp (config := { maxSteps := 2000000 }) (disch := omega) only [f232_J85, ux_at, ux_kk, ux_jo, gIx, pIx, pZx, gRx, aIx, sIx, aBx, sBx, lenx, clx, wshS, obS, reduceIte, Nat.one_ne_zero, Nat.zero_ne_one, Nat.reduceEqDiff, not_true_eq_false, not_false_eq_true, Nat.le_refl, ng_le, ng_lt, ng_nle, ng_nlt, ng_eq, ng_eq2, Bool.false_eq_true, lit_nI, nI_add, pk_mul, nI_leI, nI_ltI, nI_eq, xf, hf0]
    · obtain ⟨_, _, _, _, h⟩ := z3
      exact h.2.2.2
    · obtain ⟨I', L3, x1, y1, t1, z1, w1⟩ := hR I L2 ru2 hMT
      refine ⟨I', L3, x1.trans ?_, y1, fun z => absurd z hf0, w1⟩
      simp (config := { maxSteps := 2000000 }) (disch := omega) only [f243_J35, ux_at, ux_kk, ux_jo, gIm, pIm, pZm, gRm, aIm, sIm, aBm, sBm, gLm, pLm, clm, wshS, obS, reduceIte, Nat.one_ne_zero, Nat.zero_ne_one, Nat.reduceEqDiff, not_true_eq_false, not_false_eq_true, Nat.le_refl, ng_le, ng_lt, ng_nle, ng_nlt, ng_eq, ng_eq2, Bool.false_eq_true, lit_nI, nI_add, pk_mul, nI_leI, nI_ltI, nI_eq, hf0]
end
/-! what a sea that is kept tells: worths, goals -/
theorem farN_sym : ∀ a, a < 64 → ∀ b, b < 64 → farN a b = farN b a := by decide +kernel
def nbP (rk : Nat → Nat) (c : Nat) : Nat → Nat := fun d => if rk d = 0 then 0 else if 1 < farN c d then 0 else 1
def nbN (rk : Nat → Nat) (c : Nat) : Nat := sumN (nbP rk c) 64
def wP (rk : Nat → Nat) (fe : Int32) (li : Nat → Int32) (c : Nat) : Int32 := if rk c = 0 then li c - fe * nI (nbN rk c) else -nI 99
def gN (rk : Nat → Nat) (w : Nat → Int32) : Nat → Nat
  | 0 => 64
  | n + 1 => if rk n = 0 then (if gN rk w n = 64 then n else if w n ≤ w (gN rk w n) then gN rk w n else n) else gN rk w n
def gI (g : Nat) : Int32 := if g = 64 then -nI 1 else nI g
theorem gN_le (rk : Nat → Nat) (w : Nat → Int32) : ∀ n, n ≤ 64 → gN rk w n = 64 ∨ gN rk w n < n
  | 0, _ => Or.inl rfl
  | n + 1, h => by
    have ih := gN_le rk w n (by omega)
    show (if rk n = 0 then (if gN rk w n = 64 then n else if w n ≤ w (gN rk w n) then gN rk w n else n) else gN rk w n) = 64 ∨ (if rk n = 0 then (if gN rk w n = 64 then n else if w n ≤ w (gN rk w n) then gN rk w n else n) else gN rk w n) < n + 1
    split
    · split
      · exact Or.inr (by omega)
      · split
        · omega
        · exact Or.inr (by omega)
    · omega
def rkD (J : St) (c : Nat) : Nat := (J 26 c).toNatClampNeg
theorem rkD_01 {J : St} (h : DrK J) {c : Nat} (hc : c < 64) : J 26 c = nI (rkD J c) ∧ rkD J c ≤ 1 := by
  unfold rkD
  rcases h.2.2.2.2.2.1 c hc with e | e
  · rw [e]; decide +kernel
  · rw [e]; decide +kernel
section
variable {I J : St} {L : Lt} {ru n : Nat}
theorem x_near (hr : ∀ c, c < 64 → J 26 c = nI (rkD J c) ∧ rkD J c ≤ 1) {c : Nat} (hc : c < 64) (hn : 500 < n) : f142 n 15 (nI c) (mW J L ru) = some (nI (nbN (rkD J) c), mW J L ru) := by
  refine lpP (F := fun k d (s : Nat) => f142_H4 n (fun e2 w9 => some (e2, w9)) k 15 (nI c) (nI s) (nI d) (mW J L ru)) (P := fun y => y = some (nI (nbN (rkD J) c), mW J L ru)) (J := fun t s => s = sumN (nbP (rkD J) c) t) 64 ?_ ?_ n 0 0 (by omega) (by omega) rfl
  · rintro k s rfl
    simp (config := { maxSteps := 2000000 }) (disch := omega) only [f142_H4, ux_at, ux_kk, ux_jo, gIx, pIx, pZx, gRx, aIx, sIx, aBx, sBx, lenx, clx, wshS, obS, reduceIte, Nat.one_ne_zero, Nat.zero_ne_one, Nat.reduceEqDiff, not_true_eq_false, not_false_eq_true, Nat.le_refl, ng_le, ng_lt, ng_nle, ng_nlt, ng_eq, ng_eq2, Bool.false_eq_true, lit_nI, nI_add, pk_mul, nI_leI, nI_ltI, nI_eq]
    rfl
  · rintro k t s ht rfl ih
    have ht2 : ¬ 64 ≤ t := by omega
    obtain ⟨h1, h2⟩ := hr t ht
    have ei := dr_isRock (J := J) (L := L) (ru := ru) (c := t) ht (by rw [h1]; rcases one_or h2 with e | e <;> rw [e] <;> simp)
    rw [h1] at ei
    have es : sumN (nbP (rkD J) c) (t + 1) = sumN (nbP (rkD J) c) t + nbP (rkD J) c t := rfl
    have ef := x_far (w := mW J L ru) ht hc
    rw [farN_sym t ht c hc] at ef
    have hfl : farN c t < 64 := by
      have : ∀ a, a < 64 → ∀ b, b < 64 → farN a b < 64 := by decide +kernel
      exact this c hc t ht
    rcases one_or h2 with e | e
    · rw [e] at ei
      have ez : nbP (rkD J) c t = 0 := if_pos e
      simp (config := { maxSteps := 2000000 }) (disch := omega) only [f142_H4, ux_at, ux_kk, ux_jo, gIx, pIx, pZx, gRx, aIx, sIx, aBx, sBx, lenx, clx, wshS, obS, reduceIte, Nat.one_ne_zero, Nat.zero_ne_one, Nat.reduceEqDiff, not_true_eq_false, not_false_eq_true, Nat.le_refl, ng_le, ng_lt, ng_nle, ng_nlt, ng_eq, ng_eq2, Bool.false_eq_true, lit_nI, nI_add, pk_mul, nI_leI, nI_ltI, nI_eq, ht2, ei]
      exact ih _ (by rw [es, ez, Nat.add_zero])
    · rw [e] at ei
      by_cases q : 1 < farN c t
      · have ez : nbP (rkD J) c t = 0 := by unfold nbP; rw [if_neg (by omega), if_pos q]
        simp (config := { maxSteps := 2000000 }) (disch := omega) only [f142_H4, ux_at, ux_kk, ux_jo, gIx, pIx, pZx, gRx, aIx, sIx, aBx, sBx, lenx, clx, wshS, obS, reduceIte, Nat.one_ne_zero, Nat.zero_ne_one, Nat.reduceEqDiff, not_true_eq_false, not_false_eq_true, Nat.le_refl, ng_le, ng_lt, ng_nle, ng_nlt, ng_eq, ng_eq2, Bool.false_eq_true, lit_nI, nI_add, pk_mul, nI_leI, nI_ltI, nI_eq, ht2, ei, ef, q]
        exact ih _ (by rw [es, ez, Nat.add_zero])
      · have ez : nbP (rkD J) c t = 1 := by unfold nbP; rw [if_neg (by omega), if_neg q]
        simp (config := { maxSteps := 2000000 }) (disch := omega) only [f142_H4, ux_at, ux_kk, ux_jo, gIx, pIx, pZx, gRx, aIx, sIx, aBx, sBx, lenx, clx, wshS, obS, reduceIte, Nat.one_ne_zero, Nat.zero_ne_one, Nat.reduceEqDiff, not_true_eq_false, not_false_eq_true, Nat.le_refl, ng_le, ng_lt, ng_nle, ng_nlt, ng_eq, ng_eq2, Bool.false_eq_true, lit_nI, nI_add, pk_mul, nI_leI, nI_ltI, nI_eq, ht2, ei, ef, q]
        exact ih _ (by rw [es, ez])
end
