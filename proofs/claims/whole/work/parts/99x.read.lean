/-! TEXTS: a sea on both sides -/
section
variable {I J : St} {L : Lt} {ru n : Nat} {T : Nat → Nat} {N : Nat}
theorem x_sempty (hn : 500 < n) : ∃ J', f3 n 15 (mW J L ru) = some (mW J' L ru) ∧ Fr [15, 26] [] J J' ∧ J' 15 0 = nI 0 ∧ J' 15 1 = nI 4 ∧ J' 15 2 = nI 0 ∧ J' 15 3 = nI 0 ∧ J' 15 4 = nI 0 ∧ J' 15 5 = nI 0 ∧ ∀ c, c < 64 → J' 26 c = nI 0 := by
  have key : ∀ Z, ∃ J', f3_H32 n (fun w22 => some w22) n 15 (nI 0) (mW Z L ru) = some (mW J' L ru) ∧ Fr [26] [] Z J' ∧ ∀ c, c < 64 → J' 26 c = nI 0 := by
    intro Z0
    refine lpP (F := fun k c (Z : St) => f3_H32 n (fun w22 => some w22) k 15 (nI c) (mW Z L ru)) (P := fun y => ∃ J', y = some (mW J' L ru) ∧ Fr [26] [] Z0 J' ∧ ∀ c, c < 64 → J' 26 c = nI 0) (J := fun t Z => Fr [26] [] Z0 Z ∧ ∀ c, c < t → Z 26 c = nI 0) 64 ?_ ?_ n 0 Z0 (by omega) (by omega) ⟨Fr.rf, fun c hc => absurd hc (Nat.not_lt_zero _)⟩
    · rintro k Z ⟨a1, a2⟩
      simp (config := { maxSteps := 2000000 }) (disch := omega) only [f3_H32, ux_at, ux_kk, ux_jo, gIx, pIx, pZx, gRx, aIx, sIx, aBx, sBx, lenx, clx, wshS, obS, reduceIte, Nat.one_ne_zero, Nat.zero_ne_one, Nat.reduceEqDiff, not_true_eq_false, not_false_eq_true, Nat.le_refl, ng_le, ng_lt, ng_nle, ng_nlt, ng_eq, ng_eq2, Bool.false_eq_true, lit_nI, nI_add, pk_mul, nI_leI, nI_ltI, nI_eq]
      exact ⟨Z, rfl, a1, a2⟩
    · rintro k t Z ht ⟨a1, a2⟩ ih
      have ht2 : ¬ 64 ≤ t := by omega
      simp (config := { maxSteps := 2000000 }) (disch := omega) only [f3_H32, ux_at, ux_kk, ux_jo, gIx, pIx, pZx, gRx, aIx, sIx, aBx, sBx, lenx, clx, wshS, obS, reduceIte, Nat.one_ne_zero, Nat.zero_ne_one, Nat.reduceEqDiff, not_true_eq_false, not_false_eq_true, Nat.le_refl, ng_le, ng_lt, ng_nle, ng_nlt, ng_eq, ng_eq2, Bool.false_eq_true, lit_nI, nI_add, pk_mul, nI_leI, nI_ltI, nI_eq, ht2, e0_and]
      refine ih _ ⟨a1.u (by decide), fun c hc => ?_⟩
      rw [ux_if]
      by_cases e : c = t
      · rw [if_pos e]
      · rw [if_neg e]
        exact a2 c (by omega)
  obtain ⟨J', e1, f1, r1⟩ := key (u2 (u2 (u2 (u2 (u2 (u2 J 15 0 (nI 0)) 15 1 (nI 4)) 15 2 (nI 0)) 15 3 (nI 0)) 15 4 (nI 0)) 15 5 (nI 0))
  have e15 : J' 15 = _ := f1.at (by decide) (by decide)
  refine ⟨J', ?_, ((((((Fr.rf.u (by decide)).u (by decide)).u (by decide)).u (by decide)).u (by decide)).u (by decide)).tr (f1.mono (by decide) (by decide)), ?_, ?_, ?_, ?_, ?_, ?_, r1⟩
  · simp (config := { maxSteps := 2000000 }) (disch := omega) only [f3, ux_at, ux_kk, ux_jo, gIx, pIx, pZx, gRx, aIx, sIx, aBx, sBx, lenx, clx, wshS, obS, reduceIte, Nat.one_ne_zero, Nat.zero_ne_one, Nat.reduceEqDiff, not_true_eq_false, not_false_eq_true, Nat.le_refl, ng_le, ng_lt, ng_nle, ng_nlt, ng_eq, ng_eq2, Bool.false_eq_true, lit_nI, nI_add, pk_mul, nI_leI, nI_ltI, nI_eq]
    exact e1
  · rw [e15]; simp (disch := decide) only [ux_at, ux_jo]
  · rw [e15]; simp (disch := decide) only [ux_at, ux_jo]
  · rw [e15]; simp (disch := decide) only [ux_at, ux_jo]
  · rw [e15]; simp (disch := decide) only [ux_at, ux_jo]
  · rw [e15]; simp (disch := decide) only [ux_at, ux_jo]
  · rw [e15]; simp (disch := decide) only [ux_at, ux_jo]
theorem m_sbare (hn : 500 < n) : ∃ I', f41 n 67 (mW I L ru) = some (mW I' L ru) ∧ Fr [77] [22, 23, 25, 26, 27, 28, 33] I I' ∧ I' 67 22 = nI 0 ∧ I' 67 23 = nI 4 ∧ I' 67 25 = -nI 1 ∧ I' 67 26 = -nI 1 ∧ I' 67 27 = nI 0 ∧ I' 67 28 = nI 0 ∧ I' 67 33 = nI 0 ∧ ∀ c, c < 64 → I' 77 c = nI 0 := by
  have key : ∀ Z, ∃ J', f41_H37 n (fun w20 => some w20) n 67 (nI 0) (mW Z L ru) = some (mW J' L ru) ∧ Fr [77] [] Z J' ∧ ∀ c, c < 64 → J' 77 c = nI 0 := by
    intro Z0
    refine lpP (F := fun k c (Z : St) => f41_H37 n (fun w20 => some w20) k 67 (nI c) (mW Z L ru)) (P := fun y => ∃ J', y = some (mW J' L ru) ∧ Fr [77] [] Z0 J' ∧ ∀ c, c < 64 → J' 77 c = nI 0) (J := fun t Z => Fr [77] [] Z0 Z ∧ ∀ c, c < t → Z 77 c = nI 0) 64 ?_ ?_ n 0 Z0 (by omega) (by omega) ⟨Fr.rf, fun c hc => absurd hc (Nat.not_lt_zero _)⟩
    · rintro k Z ⟨a1, a2⟩
      simp (config := { maxSteps := 2000000 }) (disch := omega) only [f41_H37, ux_at, ux_kk, ux_jo, gIm, pIm, pZm, gRm, aIm, sIm, aBm, sBm, gLm, pLm, clm, wshS, obS, reduceIte, Nat.one_ne_zero, Nat.zero_ne_one, Nat.reduceEqDiff, not_true_eq_false, not_false_eq_true, Nat.le_refl, ng_le, ng_lt, ng_nle, ng_nlt, ng_eq, ng_eq2, Bool.false_eq_true, lit_nI, nI_add, pk_mul, nI_leI, nI_ltI, nI_eq]
      exact ⟨Z, rfl, a1, a2⟩
    · rintro k t Z ht ⟨a1, a2⟩ ih
      have ht2 : ¬ 64 ≤ t := by omega
      simp (config := { maxSteps := 2000000 }) (disch := omega) only [f41_H37, ux_at, ux_kk, ux_jo, gIm, pIm, pZm, gRm, aIm, sIm, aBm, sBm, gLm, pLm, clm, wshS, obS, reduceIte, Nat.one_ne_zero, Nat.zero_ne_one, Nat.reduceEqDiff, not_true_eq_false, not_false_eq_true, Nat.le_refl, ng_le, ng_lt, ng_nle, ng_nlt, ng_eq, ng_eq2, Bool.false_eq_true, lit_nI, nI_add, pk_mul, nI_leI, nI_ltI, nI_eq, ht2, e0_and]
      refine ih _ ⟨a1.u (by decide), fun c hc => ?_⟩
      rw [ux_if]
      by_cases e : c = t
      · rw [if_pos e]
      · rw [if_neg e]
        exact a2 c (by omega)
  obtain ⟨J', e1, f1, r1⟩ := key (u2 (u2 (u2 (u2 (u2 (u2 (u2 I 67 22 (nI 0)) 67 23 (nI 4)) 67 25 (-nI 1)) 67 26 (-nI 1)) 67 27 (nI 0)) 67 28 (nI 0)) 67 33 (nI 0))
  have e67 : ∀ j, J' 67 j = _ := fun j => f1.f (j := j) (by decide) List.not_mem_nil
  refine ⟨J', ?_, (((((((Fr.rf.uf (by decide)).uf (by decide)).uf (by decide)).uf (by decide)).uf (by decide)).uf (by decide)).uf (by decide)).tr (f1.mono (by decide) (by decide)), ?_, ?_, ?_, ?_, ?_, ?_, ?_, r1⟩
  · simp (config := { maxSteps := 2000000 }) (disch := omega) only [f41, ux_at, ux_kk, ux_jo, gIm, pIm, pZm, gRm, aIm, sIm, aBm, sBm, gLm, pLm, clm, wshS, obS, reduceIte, Nat.one_ne_zero, Nat.zero_ne_one, Nat.reduceEqDiff, not_true_eq_false, not_false_eq_true, Nat.le_refl, ng_le, ng_lt, ng_nle, ng_nlt, ng_eq, ng_eq2, Bool.false_eq_true, lit_nI, nI_add, pk_mul, nI_leI, nI_ltI, nI_eq]
    exact e1
  · rw [e67]; simp (disch := decide) only [ux_at, ux_jo]
  · rw [e67]; simp (disch := decide) only [ux_at, ux_jo]
  · rw [e67]; simp (disch := decide) only [ux_at, ux_jo]
  · rw [e67]; simp (disch := decide) only [ux_at, ux_jo]
  · rw [e67]; simp (disch := decide) only [ux_at, ux_jo]
  · rw [e67]; simp (disch := decide) only [ux_at, ux_jo]
  · rw [e67]; simp (disch := decide) only [ux_at, ux_jo]
theorem read_end {f p : Nat} {v : Int32} {K : Nat → Wd → Option Wd} (h : XZ J T N f p) (hf : f ≠ 0) (h6 : f < 6) : ∀ k, 0 < k → f232_H14 n K k 27 v (mW J L ru) = K 27 (mW J L ru)
  | 0, h => absurd h (Nat.not_lt_zero _)
  | k + 1, _ => by
    have xf := xz_f h
    simp (config := { maxSteps := 2000000 }) (disch := omega) only [f232_H14, ux_at, ux_kk, ux_jo, gIx, pIx, pZx, gRx, aIx, sIx, aBx, sBx, lenx, clx, wshS, obS, reduceIte, Nat.one_ne_zero, Nat.zero_ne_one, Nat.reduceEqDiff, not_true_eq_false, not_false_eq_true, Nat.le_refl, ng_le, ng_lt, ng_nle, ng_nlt, ng_eq, ng_eq2, Bool.false_eq_true, lit_nI, nI_add, pk_mul, nI_leI, nI_ltI, nI_eq, xf, hf, ite_self]
theorem p_read_lp (hT2 : ∀ i, T i < 256) (hn : 1000 < n) {K : Nat → Wd → Option Wd} {K2 : Nat → Int32 → Wd → Option (Int32 × Wd)} : ∀ m J a i kx, XS J T N a → DrK J → i ≤ a → N - a < m → N - a + 5 < kx →
    ∃ J' f p, f < 6 ∧ p ≤ 300 ∧ f232_H14 n K kx 27 (nI i) (mW J L ru) = K 27 (mW J' L ru) ∧ Fr dxK [] J J' ∧ (f = 0 → (∃ a', XS J' T N a') ∧ DrK J') ∧ (f ≠ 0 → XZ J' T N f p) ∧ ∀ I L2 ru2 km, N - a + 5 < km → MS I T N a → RDr I J (soD J) → ∃ I' L2', f243_H16 n K2 km 67 (nI 0) (mW I L2 ru2) = K2 67 (nI f) (mW I' L2' ru2) ∧ Fr dmK dmF I I' ∧ (f = 0 → I' 67 16 = -nI 1 ∧ RDr I' J' (soD J')) ∧ (f ≠ 0 → I' 67 16 = nI p) := by
  intro m
  induction m with
  | zero => intro J a i kx _ _ _ h; omega
  | succ m ih =>
    intro J a i kx hS hD hi hm hk
    obtain ⟨kx, rfl⟩ : ∃ z, kx = z + 1 := ⟨kx - 1, by omega⟩
    have ha := hS.2.1
    have hN := hS.1.2.1
    have kx0 : 0 < kx := by omega
    have h66 := hD.2.2.2.2.1.2
    have hb := skN_le (T := T) ha
    have hg := skN_ge T N a
    have hid := skN_id T N a
    have xf := xs_f hS
    -- nothing is left
    have done : ¬ skN T N a < N → ∀ J1, TF J J1 → (∃ a', XS J1 T N a') → f232_H14 n K (kx + 1) 27 (nI i) (mW J L ru) = K 27 (mW J1 L ru) → ∃ J' f p, f < 6 ∧ p ≤ 300 ∧ f232_H14 n K (kx + 1) 27 (nI i) (mW J L ru) = K 27 (mW J' L ru) ∧ Fr dxK [] J J' ∧ (f = 0 → (∃ a', XS J' T N a') ∧ DrK J') ∧ (f ≠ 0 → XZ J' T N f p) ∧ ∀ I L2 ru2 km, N - a + 5 < km → MS I T N a → RDr I J (soD J) → ∃ I' L2', f243_H16 n K2 km 67 (nI 0) (mW I L2 ru2) = K2 67 (nI f) (mW I' L2' ru2) ∧ Fr dmK dmF I I' ∧ (f = 0 → I' 67 16 = -nI 1 ∧ RDr I' J' (soD J')) ∧ (f ≠ 0 → I' 67 16 = nI p) := by
      intro q J1 f1 s1 e1
      have es : soD J1 = soD J := by unfold soD; rw [f1.1.at (by decide) (by decide)]
      refine ⟨J1, 0, 0, by decide, by decide, e1, f1.dx, fun _ => ⟨s1, hD.fr f1.1 (by decide)⟩, fun z => absurd rfl z, fun I L2 ru2 km hkm hMS hRD => ?_⟩
      obtain ⟨km, rfl⟩ : ∃ z, km = z + 1 := ⟨km - 1, by omega⟩
      obtain ⟨I1, x1, y1, z1⟩ := ms_here (L := L2) (ru := ru2) (n := n) hMS ha (by omega)
      rw [btI_ge (by omega)] at x1
      have n1 : -nI 1 < nI 0 := by decide +kernel
      rw [es]
      refine ⟨I1, L2, ?_, y1.mono (by decide) (by decide), fun _ => ⟨z1.2.2, (hRD.x h66 f1.1 (by decide)).m y1 (by decide) (by decide)⟩, fun z => absurd rfl z⟩
      simp (config := { maxSteps := 2000000 }) (disch := omega) only [f243_H16, ux_at, ux_kk, ux_jo, gIm, pIm, pZm, gRm, aIm, sIm, aBm, sBm, gLm, pLm, clm, wshS, obS, reduceIte, Nat.one_ne_zero, Nat.zero_ne_one, Nat.reduceEqDiff, not_true_eq_false, not_false_eq_true, Nat.le_refl, ng_le, ng_lt, ng_nle, ng_nlt, ng_eq, ng_eq2, Bool.false_eq_true, lit_nI, nI_add, pk_mul, nI_leI, nI_ltI, nI_eq, x1, n1]
    by_cases hi3 : 300 ≤ i
    · have q : ¬ skN T N a < N := by omega
      refine done q J TF.rf ⟨a, hS⟩ ?_
      simp (config := { maxSteps := 2000000 }) (disch := omega) only [f232_H14, ux_at, ux_kk, ux_jo, gIx, pIx, pZx, gRx, aIx, sIx, aBx, sBx, lenx, clx, wshS, obS, reduceIte, Nat.one_ne_zero, Nat.zero_ne_one, Nat.reduceEqDiff, not_true_eq_false, not_false_eq_true, Nat.le_refl, ng_le, ng_lt, ng_nle, ng_nlt, ng_eq, ng_eq2, Bool.false_eq_true, lit_nI, nI_add, pk_mul, nI_leI, nI_ltI, nI_eq, hi3]
    · obtain ⟨hT, _, na, hSt⟩ := id hS
      obtain ⟨J1, e1, f1, s1⟩ := x_ended (L := L) (ru := ru) (n := n) hT ha hSt (by omega)
      have s1 : XS J1 T N (skN T N a) := ⟨hT.tf f1, hb, na, s1⟩
      by_cases q : skN T N a < N
      · rw [if_pos q] at e1
        have d1 := hD.fr f1.1 (by decide)
        have es1 : soD J1 = soD J := by unfold soD; rw [f1.1.at (by decide) (by decide)]
        have a2 : J1 1 2 = nI (skN T N a) := by
          obtain ⟨_, _, _, h⟩ := s1
          exact h.1
        obtain ⟨J2, f, p, a', hf, hp, e2, f2, c0, c1, hM⟩ := c_all (L := L) (ru := ru) hT2 hn s1 hid d1
        rw [es1] at hM
        -- the reference, up to the clause's end
        have hR : ∀ I L2 ru2 km, MS I T N a → RDr I J (soD J) → ∃ I' L2', f243_H16 n K2 (km + 1) 67 (nI 0) (mW I L2 ru2) = f243_H16 n K2 km 67 (nI (stF T N f a')) (mW I' L2' ru2) ∧ Fr dmK dmF I I' ∧ (stF T N f a' = 0 → MS I' T N (skN T N a' + 1) ∧ RDr I' J2 (soD J2)) ∧ (stF T N f a' ≠ 0 → I' 67 16 = nI (stP T N f p a')) := by
          intro I L2 ru2 km hMS hRD
          obtain ⟨I1, x1, y1, z1⟩ := ms_here (L := L2) (ru := ru2) (n := n) hMS ha (by omega)
          rw [btI_lt q] at x1
          obtain ⟨I2, L3, x2, y2, z2, w2⟩ := hM I1 L2 ru2 z1 ((hRD.x h66 f1.1 (by decide)).m y1 (by decide) (by decide))
          have n1 : ¬ nI (T (skN T N a)) < nI 0 := nI_pos (by have := hT2 (skN T N a); omega)
          refine ⟨I2, L3, ?_, (y1.mono (by decide) (by decide)).tr y2, z2, w2⟩
          simp (config := { maxSteps := 2000000 }) (disch := omega) only [f243_H16, ux_at, ux_kk, ux_jo, gIm, pIm, pZm, gRm, aIm, sIm, aBm, sBm, gLm, pLm, clm, wshS, obS, reduceIte, Nat.one_ne_zero, Nat.zero_ne_one, Nat.reduceEqDiff, not_true_eq_false, not_false_eq_true, Nat.le_refl, ng_le, ng_lt, ng_nle, ng_nlt, ng_eq, ng_eq2, Bool.false_eq_true, lit_nI, nI_add, pk_mul, nI_leI, nI_ltI, nI_eq, x1, n1, x2]
        have dead : ∀ J3 g pg, g ≠ 0 → g < 6 → pg ≤ 300 → f232_H14 n K (kx + 1) 27 (nI i) (mW J L ru) = K 27 (mW J3 L ru) → Fr dxK [] J J3 → XZ J3 T N g pg → stF T N f a' = g → stP T N f p a' = pg → ∃ J' f p, f < 6 ∧ p ≤ 300 ∧ f232_H14 n K (kx + 1) 27 (nI i) (mW J L ru) = K 27 (mW J' L ru) ∧ Fr dxK [] J J' ∧ (f = 0 → (∃ a', XS J' T N a') ∧ DrK J') ∧ (f ≠ 0 → XZ J' T N f p) ∧ ∀ I L2 ru2 km, N - a + 5 < km → MS I T N a → RDr I J (soD J) → ∃ I' L2', f243_H16 n K2 km 67 (nI 0) (mW I L2 ru2) = K2 67 (nI f) (mW I' L2' ru2) ∧ Fr dmK dmF I I' ∧ (f = 0 → I' 67 16 = -nI 1 ∧ RDr I' J' (soD J')) ∧ (f ≠ 0 → I' 67 16 = nI p) := by
          intro J3 g pg hg hg6 hpg ex fx zx est esp
          refine ⟨J3, g, pg, hg6, hpg, ex, fx, fun z => absurd z hg, fun _ => zx, fun I L2 ru2 km hkm hMS hRD => ?_⟩
          obtain ⟨km, rfl⟩ : ∃ z, km = z + 2 := ⟨km - 2, by omega⟩
          obtain ⟨I1, L3, x1, y1, z1, w1⟩ := hR I L2 ru2 (km + 1) hMS hRD
          rw [est] at x1 w1
          rw [esp] at w1
          refine ⟨I1, L3, x1.trans ?_, y1, fun z => absurd z hg, fun _ => w1 hg⟩
          simp (config := { maxSteps := 2000000 }) (disch := omega) only [f243_H16, ux_at, ux_kk, ux_jo, gIm, pIm, pZm, gRm, aIm, sIm, aBm, sBm, gLm, pLm, clm, wshS, obS, reduceIte, Nat.one_ne_zero, Nat.zero_ne_one, Nat.reduceEqDiff, not_true_eq_false, not_false_eq_true, Nat.le_refl, ng_le, ng_lt, ng_nle, ng_nlt, ng_eq, ng_eq2, Bool.false_eq_true, lit_nI, nI_add, pk_mul, nI_leI, nI_ltI, nI_eq, hg]
        by_cases hf0 : f = 0
        · subst hf0
          obtain ⟨s2, lt2, d2⟩ := c0 rfl
          obtain ⟨hTb, hab, nb, hSb⟩ := id s2
          obtain ⟨J3, e3, f3, s3⟩ := x_takesC (L := L) (ru := ru) (n := n) (c := 59) hTb hab hSb (by decide) (by omega)
          have hb2 := skN_le (T := T) hab
          have hg2 := skN_ge T N a'
          have d3 := d2.fr f3.1 (by decide)
          have es3 : soD J3 = soD J2 := by unfold soD; rw [f3.1.at (by decide) (by decide)]
          by_cases q2 : skN T N a' < N ∧ T (skN T N a') = 59
          · rw [if_pos q2] at e3 s3
            have est : stF T N 0 a' = 0 := by unfold stF; rw [if_pos rfl, if_pos q2]
            have s4 : XS J3 T N (skN T N a' + 1) := ⟨hTb.tf f3, by omega, nb, s3⟩
            obtain ⟨J', g, pg, z1, z2, z3, z4, z5, z6, z7⟩ := ih J3 (skN T N a' + 1) (i + 1) kx s4 d3 (by omega) (by omega) (by omega)
            refine ⟨J', g, pg, z1, z2, ?_, ((f1.dx.tr f2).tr f3.dx).tr z4, z5, z6, fun I L2 ru2 km hkm hMS hRD => ?_⟩
            · simp (config := { maxSteps := 2000000 }) (disch := omega) only [f232_H14, ux_at, ux_kk, ux_jo, gIx, pIx, pZx, gRx, aIx, sIx, aBx, sBx, lenx, clx, wshS, obS, reduceIte, Nat.one_ne_zero, Nat.zero_ne_one, Nat.reduceEqDiff, not_true_eq_false, not_false_eq_true, Nat.le_refl, ng_le, ng_lt, ng_nle, ng_nlt, ng_eq, ng_eq2, Bool.false_eq_true, lit_nI, nI_add, pk_mul, nI_leI, nI_ltI, nI_eq, hi3, xf, e1, a2, e2, e3]
              exact z3
            · obtain ⟨km, rfl⟩ : ∃ z, km = z + 1 := ⟨km - 1, by omega⟩
              obtain ⟨I1, L3, x1, y1, w1, w2⟩ := hR I L2 ru2 km hMS hRD
              rw [est] at x1
              obtain ⟨m1, r1⟩ := w1 est
              have r2 := r1.x d2.2.2.2.2.1.2 f3.1 (by decide)
              rw [← es3] at r2
              obtain ⟨I', L4, y2, y3, y4, y5⟩ := z7 I1 L3 ru2 km (by omega) m1 r2
              exact ⟨I', L4, x1.trans y2, y1.tr y3, y4, y5⟩
          · rw [if_neg q2] at e3 s3
            have est : stF T N 0 a' = 1 := by unfold stF; rw [if_pos rfl, if_neg q2]
            have esp : stP T N 0 p a' = skN T N a' := by unfold stP; rw [if_pos rfl]
            have s4 : XS J3 T N (skN T N a') := ⟨hTb.tf f3, hb2, nb, s3⟩
            obtain ⟨J4, e4, f4, z4⟩ := xs_fail (L := L) (ru := ru) (k := 1) (p := skN T N a') s4 (by decide)
            have re := read_end (L := L) (ru := ru) (n := n) (K := K) (v := nI (i + 1)) z4 (by decide) (by decide) kx kx0
            refine dead J4 1 (skN T N a') (by decide) (by decide) (by omega) ?_ (((f1.dx.tr f2).tr f3.dx).tr f4.dx) z4 est esp
            have s31 := s3.1
            simp (config := { maxSteps := 2000000 }) (disch := omega) only [f232_H14, ux_at, ux_kk, ux_jo, gIx, pIx, pZx, gRx, aIx, sIx, aBx, sBx, lenx, clx, wshS, obS, reduceIte, Nat.one_ne_zero, Nat.zero_ne_one, Nat.reduceEqDiff, not_true_eq_false, not_false_eq_true, Nat.le_refl, ng_le, ng_lt, ng_nle, ng_nlt, ng_eq, ng_eq2, Bool.false_eq_true, lit_nI, nI_add, pk_mul, nI_leI, nI_ltI, nI_eq, hi3, xf, e1, a2, e2, e3, s31, e4, re]
        · have z2 := c1 hf0
          obtain ⟨J3, e3, f3, z3⟩ := xz_sign (L := L) (ru := ru) (n := n) (x := nI 59) z2 hf0 hf (by omega)
          have re := read_end (L := L) (ru := ru) (n := n) (K := K) (v := nI (i + 1)) z3 hf0 hf kx kx0
          have ef := fun y => xz_fail (L := L) (ru := ru) (x := nI 1) (y := y) z3 hf0 hf
          refine dead J3 f p hf0 hf hp ?_ ((f1.dx.tr f2).tr f3.dx) z3 (if_neg hf0) (if_neg hf0)
          simp (config := { maxSteps := 2000000 }) (disch := omega) only [f232_H14, ux_at, ux_kk, ux_jo, gIx, pIx, pZx, gRx, aIx, sIx, aBx, sBx, lenx, clx, wshS, obS, reduceIte, Nat.one_ne_zero, Nat.zero_ne_one, Nat.reduceEqDiff, not_true_eq_false, not_false_eq_true, Nat.le_refl, ng_le, ng_lt, ng_nle, ng_nlt, ng_eq, ng_eq2, Bool.false_eq_true, lit_nI, nI_add, pk_mul, nI_leI, nI_ltI, nI_eq, hi3, xf, e1, a2, e2, e3, ef, re]
      · rw [if_neg q] at e1
        refine done q J1 f1 ⟨_, s1⟩ ?_
        simp (config := { maxSteps := 2000000 }) (disch := omega) only [f232_H14, ux_at, ux_kk, ux_jo, gIx, pIx, pZx, gRx, aIx, sIx, aBx, sBx, lenx, clx, wshS, obS, reduceIte, Nat.one_ne_zero, Nat.zero_ne_one, Nat.reduceEqDiff, not_true_eq_false, not_false_eq_true, Nat.le_refl, ng_le, ng_lt, ng_nle, ng_nlt, ng_eq, ng_eq2, Bool.false_eq_true, lit_nI, nI_add, pk_mul, nI_leI, nI_ltI, nI_eq, hi3, xf, e1]
end
