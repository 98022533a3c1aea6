/-! TEXTS: a sea that is kept: the class's settling, the reference's keeping -/
def wsD (J : St) (s : Nat) : Nat → Int32 := wP (rkD J) (J 17 s) (J (20 + s))
def peD (J : St) (s : Nat) : Nat := (J 16 s).toNatClampNeg
theorem peD_is {J : St} (h : DrK J) {s : Nat} (hs : s < soD J) : J 16 s = nI (peD J s) ∧ 1 ≤ peD J s ∧ peD J s ≤ 9 := by
  obtain ⟨⟨k, h1, h2, h3⟩, _⟩ := h.2.2.2.2.2.2.1 s hs
  unfold peD
  rw [h3, nI_clamp (by omega)]
  exact ⟨rfl, h1, h2⟩
theorem gI_64 : gI 64 = -nI 1 := if_pos rfl
theorem gI_lt {g : Nat} (h : g < 64) : gI g = nI g := if_neg (by omega)
abbrev sK : List Nat := [15, 18, 20, 21, 22, 23, 24, 25]
theorem row_sK {s : Nat} (h : s < 6) : 20 + s ∈ sK := by
  rcases (show s = 0 ∨ s = 1 ∨ s = 2 ∨ s = 3 ∨ s = 4 ∨ s = 5 by omega) with rfl | rfl | rfl | rfl | rfl | rfl <;> decide
/-- the state of the settling: sorts below s are done, rows from b on untouched -/
def StO (J Z : St) (p s b : Nat) : Prop := Fr sK [] J Z ∧ (∀ j, j ≠ 6 → j ≠ 7 → Z 15 j = J 15 j) ∧ Z 15 6 = nI p ∧ Z 15 7 = nI (sumN (rkD J) 64) ∧ (∀ s', s' < s → Z 18 s' = gI (gN (rkD J) (wsD J s') 64) ∧ ∀ c, c < 64 → Z (20 + s') c = wsD J s' c) ∧ ∀ s', b ≤ s' → s' < 6 → Z (20 + s') = J (20 + s')
section
variable {I J Z : St} {L : Lt} {ru n : Nat}
theorem dr_worthTo {s c : Nat} (h5 : J 15 5 = nI (soD J)) (h6 : soD J ≤ 6) (hs : s < soD J) (hc : c < 64) : f81 15 (nI s) (nI c) (mW J L ru) = some (J (20 + s) c, mW J L ru) := by
  simp (config := { maxSteps := 2000000 }) (disch := omega) only [f81, ux_at, ux_kk, ux_jo, gIx, pIx, pZx, gRx, aIx, sIx, aBx, sBx, lenx, clx, wshS, obS, reduceIte, Nat.one_ne_zero, Nat.zero_ne_one, Nat.reduceEqDiff, not_true_eq_false, not_false_eq_true, Nat.le_refl, ng_le, ng_lt, ng_nle, ng_nlt, ng_eq, ng_eq2, Bool.false_eq_true, lit_nI, nI_add, pk_mul, nI_leI, nI_ltI, nI_eq, dr_isSort h5 h6 hs, x_noCell, dthR, dth_a]
theorem x_setIn (hD : DrK J) {s p : Nat} (hs : s < soD J) {R25 : Nat → Int32 → Wd → Option Wd} {K25 : Wd → Option Wd} {K : Nat → Int32 → Wd → Option Wd} (hn : 500 < n) (h0 : StO J Z p s (s + 1)) (hr : Z (20 + s) = J (20 + s)) (hg : Z 18 s = -nI 1) : ∃ Y, f178_H82 n R25 K25 K n 15 (nI s) (nI 0) (mW Z L ru) = K 15 (nI s) (mW Y L ru) ∧ StO J Y p (s + 1) (s + 1) := by
  have h66 := hD.2.2.2.2.1.2
  have h55 := hD.2.2.2.2.1.1
  have s6 : s < 6 := by omega
  refine lpP (F := fun k c (Y : St) => f178_H82 n R25 K25 K k 15 (nI s) (nI c) (mW Y L ru)) (P := fun y => ∃ Y, y = K 15 (nI s) (mW Y L ru) ∧ StO J Y p (s + 1) (s + 1)) (J := fun t Y => StO J Y p s (s + 1) ∧ (∀ c, c < 64 → Y (20 + s) c = if c < t then wsD J s c else J (20 + s) c) ∧ Y 18 s = gI (gN (rkD J) (wsD J s) t)) 64 ?_ ?_ n 0 Z (by omega) (by omega) ⟨h0, fun c hc => by rw [if_neg (Nat.not_lt_zero _), hr], hg⟩
  · rintro k Y ⟨⟨a1, a2, a3, a4, a5, a6⟩, b1, b2⟩
    refine ⟨Y, ?_, a1, a2, a3, a4, fun s' hs' => ?_, a6⟩
    · simp (config := { maxSteps := 2000000 }) (disch := omega) only [f178_H82, ux_at, ux_kk, ux_jo, gIx, pIx, pZx, gRx, aIx, sIx, aBx, sBx, lenx, clx, wshS, obS, reduceIte, Nat.one_ne_zero, Nat.zero_ne_one, Nat.reduceEqDiff, not_true_eq_false, not_false_eq_true, Nat.le_refl, ng_le, ng_lt, ng_nle, ng_nlt, ng_eq, ng_eq2, Bool.false_eq_true, lit_nI, nI_add, pk_mul, nI_leI, nI_ltI, nI_eq]
    · by_cases e : s' = s
      · rw [e]
        exact ⟨b2, fun c hc => by rw [b1 c hc, if_pos hc]⟩
      · exact a5 s' (by omega)
  · rintro k t Y ht ⟨⟨a1, a2, a3, a4, a5, a6⟩, b1, b2⟩ ih
    have ht2 : ¬ 64 ≤ t := by omega
    have r26 : Y 26 = J 26 := a1.at (by decide) (by decide)
    have r17 : Y 17 = J 17 := a1.at (by decide) (by decide)
    have rkY : rkD Y = rkD J := funext fun c => by unfold rkD; rw [r26]
    have esY : soD Y = soD J := by unfold soD; rw [a2 5 (by decide) (by decide)]
    have h5Y : Y 15 5 = nI (soD Y) := by rw [a2 5 (by decide) (by decide), esY]; exact h55
    obtain ⟨k1, k2⟩ := rkD_01 hD ht
    have hrk : Y 26 t = nI (rkD J t) := by rw [r26]; exact k1
    have ei := dr_isRock (J := Y) (L := L) (ru := ru) (c := t) ht (by rw [hrk]; rcases one_or k2 with e | e <;> rw [e] <;> simp)
    rw [hrk] at ei
    have hyt : Y (20 + s) t = J (20 + s) t := by rw [b1 t ht, if_neg (Nat.lt_irrefl _)]
    have en := x_near (J := Y) (L := L) (ru := ru) (n := n) (fun c hc => by rw [r26, rkY]; exact rkD_01 hD hc) ht hn
    rw [rkY] at en
    -- the row with this cell's worth
    have st1 : StO J (u2 Y (20 + s) t (wsD J s t)) p s (s + 1) ∧ (∀ c, c < 64 → (u2 Y (20 + s) t (wsD J s t)) (20 + s) c = if c < t + 1 then wsD J s c else J (20 + s) c) ∧ (u2 Y (20 + s) t (wsD J s t)) 18 s = gI (gN (rkD J) (wsD J s) t) := by
      refine ⟨⟨a1.u (row_sK s6), fun j h1 h2 => (ux_k (by omega)).trans (a2 j h1 h2), (ux_k (by omega)).trans a3, (ux_k (by omega)).trans a4, fun s' hs' => ⟨(ux_k (by omega)).trans (a5 s' hs').1, fun c hc => (ux_k (by omega)).trans ((a5 s' hs').2 c hc)⟩, fun s' h1 h2 => (ux_kk (by omega)).trans (a6 s' h1 h2)⟩, fun c hc => ?_, (ux_k (by omega)).trans b2⟩
      rw [ux_if]
      by_cases e : c = t
      · rw [if_pos e, if_pos (by omega), e]
      · rw [if_neg e, b1 c hc]
        by_cases e2 : c < t
        · rw [if_pos e2, if_pos (by omega)]
        · rw [if_neg e2, if_neg (by omega)]
    obtain ⟨s1, s2, s3⟩ := st1
    have c15 : (u2 Y (20 + s) t (wsD J s t)) 15 = Y 15 := ux_kk (by omega)
    have c26 : (u2 Y (20 + s) t (wsD J s t)) 26 = Y 26 := ux_kk (by omega)
    have hrk1 : (u2 Y (20 + s) t (wsD J s t)) 26 t = nI (rkD J t) := by rw [c26]; exact hrk
    have hy1 : ∀ v, v = wsD J s t → astI (mW Y L ru) (20 + s) (nI t) v = some (mW (u2 Y (20 + s) t (wsD J s t)) L ru) := fun v hv => by rw [hv]; exact dth_s s6 ht
    have es1 : soD (u2 Y (20 + s) t (wsD J s t)) = soD J := by unfold soD; rw [c15]; exact esY
    have h51 : (u2 Y (20 + s) t (wsD J s t)) 15 5 = nI (soD (u2 Y (20 + s) t (wsD J s t))) := by rw [c15, es1, a2 5 (by decide) (by decide)]; exact h55
    have hwt : (u2 Y (20 + s) t (wsD J s t)) (20 + s) t = wsD J s t := ux_at
    have hgl := gN_le (rkD J) (wsD J s) t (by omega)
    have egs : gN (rkD J) (wsD J s) (t + 1) = if rkD J t = 0 then (if gN (rkD J) (wsD J s) t = 64 then t else if wsD J s t ≤ wsD J s (gN (rkD J) (wsD J s) t) then gN (rkD J) (wsD J s) t else t) else gN (rkD J) (wsD J s) t := rfl
    generalize hY1 : u2 Y (20 + s) t (wsD J s t) = Y1 at *
    have ei1 := dr_isRock (J := Y1) (L := L) (ru := ru) (c := t) ht (by rw [hrk1]; rcases one_or k2 with e | e <;> rw [e] <;> simp)
    rw [hrk1] at ei1
    have big : ∀ Y2, Y2 = u2 Y1 18 s (nI t) → gN (rkD J) (wsD J s) (t + 1) = t → StO J Y2 p s (s + 1) ∧ (∀ c, c < 64 → Y2 (20 + s) c = if c < t + 1 then wsD J s c else J (20 + s) c) ∧ Y2 18 s = gI (gN (rkD J) (wsD J s) (t + 1)) := by
      rintro Y2 rfl eg
      obtain ⟨d1, d2, d3, d4, d5, d6⟩ := s1
      refine ⟨⟨d1.u (by decide), fun j h1 h2 => (ux_k (by decide)).trans (d2 j h1 h2), (ux_k (by decide)).trans d3, (ux_k (by decide)).trans d4, fun s' hs' => ⟨(ux_j (by omega)).trans (d5 s' hs').1, fun c hc => (ux_k (by omega)).trans ((d5 s' hs').2 c hc)⟩, fun s' h1 h2 => (ux_kk (by omega)).trans (d6 s' h1 h2)⟩, fun c hc => (ux_k (by omega)).trans (s2 c hc), ?_⟩
      rw [ux_at, eg, gI_lt ht]
    rcases one_or k2 with e | e
    · rw [e] at ei ei1
      have hv : J (20 + s) t - J 17 s * nI (nbN (rkD J) t) = wsD J s t := by
        unfold wsD wP
        rw [if_pos e]
      have es := hy1 _ hv
      rw [if_pos e] at egs
      rcases hgl with g64 | glt
      · rw [if_pos g64] at egs
        rw [g64, gI_64] at s3
        simp (config := { maxSteps := 2000000 }) (disch := omega) only [f178_H82, f178_J129, f178_J170, ux_at, ux_kk, ux_jo, gIx, pIx, pZx, gRx, aIx, sIx, aBx, sBx, lenx, clx, wshS, obS, reduceIte, Nat.one_ne_zero, Nat.zero_ne_one, Nat.reduceEqDiff, not_true_eq_false, not_false_eq_true, Nat.le_refl, ng_le, ng_lt, ng_nle, ng_nlt, ng_eq, ng_eq2, Bool.false_eq_true, lit_nI, nI_add, pk_mul, nI_leI, nI_ltI, nI_eq, ht2, dthR, dth_a, ei, hyt, r17, en, es, ei1, s3]
        exact ih _ (big _ rfl egs)
      · have g64 : ¬ gN (rkD J) (wsD J s) t = 64 := by omega
        rw [if_neg g64] at egs
        have gl : gN (rkD J) (wsD J s) t < 64 := by omega
        have s3' := s3
        rw [gI_lt gl] at s3
        have ew := dr_worthTo (J := Y1) (L := L) (ru := ru) (s := s) (c := gN (rkD J) (wsD J s) t) h51 (by omega) (by omega) gl
        rw [s2 _ gl, if_pos (by omega)] at ew
        have n1 : ¬ nI (gN (rkD J) (wsD J s) t) = -nI 1 := by
          intro z
          have z2 : (nI (gN (rkD J) (wsD J s) t)).toInt = (-nI 1).toInt := by rw [z]
          rw [nI_toInt (by omega)] at z2
          have : (-nI 1).toInt = -1 := by decide +kernel
          omega
        by_cases q : wsD J s t ≤ wsD J s (gN (rkD J) (wsD J s) t)
        · rw [if_pos q] at egs
          simp (config := { maxSteps := 2000000 }) (disch := omega) only [f178_H82, f178_J129, f178_J170, ux_at, ux_kk, ux_jo, gIx, pIx, pZx, gRx, aIx, sIx, aBx, sBx, lenx, clx, wshS, obS, reduceIte, Nat.one_ne_zero, Nat.zero_ne_one, Nat.reduceEqDiff, not_true_eq_false, not_false_eq_true, Nat.le_refl, ng_le, ng_lt, ng_nle, ng_nlt, ng_eq, ng_eq2, Bool.false_eq_true, lit_nI, nI_add, pk_mul, nI_leI, nI_ltI, nI_eq, ht2, dthR, dth_a, ei, hyt, r17, en, es, ei1, s3, n1, hwt, ew, q]
          exact ih _ ⟨s1, s2, by rw [egs]; exact s3'⟩
        · rw [if_neg q] at egs
          simp (config := { maxSteps := 2000000 }) (disch := omega) only [f178_H82, f178_J129, f178_J170, ux_at, ux_kk, ux_jo, gIx, pIx, pZx, gRx, aIx, sIx, aBx, sBx, lenx, clx, wshS, obS, reduceIte, Nat.one_ne_zero, Nat.zero_ne_one, Nat.reduceEqDiff, not_true_eq_false, not_false_eq_true, Nat.le_refl, ng_le, ng_lt, ng_nle, ng_nlt, ng_eq, ng_eq2, Bool.false_eq_true, lit_nI, nI_add, pk_mul, nI_leI, nI_ltI, nI_eq, ht2, dthR, dth_a, ei, hyt, r17, en, es, ei1, s3, n1, hwt, ew, q]
          exact ih _ (big _ rfl egs)
    · rw [e] at ei ei1
      have hv : -nI 99 = wsD J s t := by
        unfold wsD wP
        rw [if_neg (by omega)]
      have es := hy1 _ hv
      rw [if_neg (by omega)] at egs
      simp (config := { maxSteps := 2000000 }) (disch := omega) only [f178_H82, f178_J129, ux_at, ux_kk, ux_jo, gIx, pIx, pZx, gRx, aIx, sIx, aBx, sBx, lenx, clx, wshS, obS, reduceIte, Nat.one_ne_zero, Nat.zero_ne_one, Nat.reduceEqDiff, not_true_eq_false, not_false_eq_true, Nat.le_refl, ng_le, ng_lt, ng_nle, ng_nlt, ng_eq, ng_eq2, Bool.false_eq_true, lit_nI, nI_add, pk_mul, nI_leI, nI_ltI, nI_eq, ht2, dthR, ei, es, ei1]
      exact ih _ ⟨s1, s2, by rw [egs]; exact s3⟩
theorem x_settle (hD : DrK J) (hn : 500 < n) : ∃ J', f178 n 15 (mW J L ru) = some (mW J' L ru) ∧ StO J J' (sumN (peD J) (soD J)) (soD J) 6 := by
  have h66 := hD.2.2.2.2.1.2
  have h55 := hD.2.2.2.2.1.1
  -- the sorts
  have sorts : ∀ Z, StO J Z 0 0 0 → ∃ J', f178_H44 n (fun w83 => some w83) n 15 (nI 0) (mW Z L ru) = some (mW J' L ru) ∧ StO J J' (sumN (peD J) (soD J)) (soD J) 6 := by
    intro Z0 hz
    refine lpP (F := fun k s (Z : St) => f178_H44 n (fun w83 => some w83) k 15 (nI s) (mW Z L ru)) (P := fun y => ∃ J', y = some (mW J' L ru) ∧ StO J J' (sumN (peD J) (soD J)) (soD J) 6) (J := fun s Z => StO J Z (sumN (peD J) s) s s) (soD J) ?_ ?_ n 0 Z0 (by omega) (by omega) hz
    · rintro k Z ⟨a1, a2, a3, a4, a5, a6⟩
      have h5 : Z 15 5 = nI (soD J) := (a2 5 (by decide) (by decide)).trans h55
      refine ⟨Z, ?_, a1, a2, a3, a4, a5, fun s' h1 h2 => by omega⟩
      simp (config := { maxSteps := 2000000 }) (disch := omega) only [f178_H44, ux_at, ux_kk, ux_jo, gIx, pIx, pZx, gRx, aIx, sIx, aBx, sBx, lenx, clx, wshS, obS, reduceIte, Nat.one_ne_zero, Nat.zero_ne_one, Nat.reduceEqDiff, not_true_eq_false, not_false_eq_true, Nat.le_refl, ng_le, ng_lt, ng_nle, ng_nlt, ng_eq, ng_eq2, Bool.false_eq_true, lit_nI, nI_add, pk_mul, nI_leI, nI_ltI, nI_eq, h5]
    · rintro k s Z hs ⟨a1, a2, a3, a4, a5, a6⟩ ih
      have hs2 : ¬ soD J ≤ s := by omega
      have hs6 : ¬ 6 ≤ s := by omega
      have h5 : Z 15 5 = nI (soD J) := (a2 5 (by decide) (by decide)).trans h55
      obtain ⟨p1, p2, p3⟩ := peD_is hD hs
      have hp : Z 16 s = nI (peD J s) := by rw [a1.at (by decide) (by decide)]; exact p1
      have o1 : StO J (u2 (u2 Z 15 6 (nI (sumN (peD J) s + peD J s))) 18 s (-nI 1)) (sumN (peD J) (s + 1)) s (s + 1) := ⟨(a1.u (by decide)).u (by decide), fun j h1 h2 => (ux_k (by decide)).trans ((ux_j h1).trans (a2 j h1 h2)), (ux_k (by decide)).trans ux_at, (ux_k (by decide)).trans ((ux_j (by decide)).trans a4), fun s' hs' => ⟨(ux_j (by omega)).trans ((ux_k (by decide)).trans (a5 s' hs').1), fun c hc => (ux_k (by omega)).trans ((ux_k (by omega)).trans ((a5 s' hs').2 c hc))⟩, fun s' h1 h2 => (ux_kk (by omega)).trans ((ux_kk (by omega)).trans (a6 s' (by omega) h2))⟩
      obtain ⟨Y, e1, o2⟩ := x_setIn (Z := u2 (u2 Z 15 6 (nI (sumN (peD J) s + peD J s))) 18 s (-nI 1)) (L := L) (ru := ru) (n := n) (R25 := fun v0 v1 w => f178_H44 n (fun w83 => some w83) k v0 v1 w) (K25 := fun w83 => some w83) (K := fun e0 e1 w80 => f178_H44 n (fun w83 => some w83) k e0 (e1 + nI 1) w80) hD hs hn o1 ((ux_kk (by omega)).trans ((ux_kk (by omega)).trans (a6 s (Nat.le_refl _) (by omega)))) ux_at
      simp (config := { maxSteps := 2000000 }) (disch := omega) only [f178_H44, ux_at, ux_kk, ux_jo, gIx, pIx, pZx, gRx, aIx, sIx, aBx, sBx, lenx, clx, wshS, obS, reduceIte, Nat.one_ne_zero, Nat.zero_ne_one, Nat.reduceEqDiff, not_true_eq_false, not_false_eq_true, Nat.le_refl, ng_le, ng_lt, ng_nle, ng_nlt, ng_eq, ng_eq2, Bool.false_eq_true, lit_nI, nI_add, pk_mul, nI_leI, nI_ltI, nI_eq, h5, hs2, hs6, a3, hp]
      refine Eq.mpr ?_ (ih Y o2)
      rw [e1, nI_add]
  -- the rocks
  have key : ∀ Z, Fr sK [] J Z → (∀ j, j ≠ 6 → j ≠ 7 → Z 15 j = J 15 j) → Z 15 6 = nI 0 → Z 15 7 = nI 0 → (∀ s', s' < 6 → Z (20 + s') = J (20 + s')) → ∃ J', f178_H12 n (fun e0 w14 => f178_H44 n (fun w83 => some w83) n e0 (nI 0) w14) n 15 (nI 0) (mW Z L ru) = some (mW J' L ru) ∧ StO J J' (sumN (peD J) (soD J)) (soD J) 6 := by
    intro Z0 z1 z2 z3 z4 z5
    refine lpP (F := fun k c (Z : St) => f178_H12 n (fun e0 w14 => f178_H44 n (fun w83 => some w83) n e0 (nI 0) w14) k 15 (nI c) (mW Z L ru)) (P := fun y => ∃ J', y = some (mW J' L ru) ∧ StO J J' (sumN (peD J) (soD J)) (soD J) 6) (J := fun c Z => Fr sK [] J Z ∧ (∀ j, j ≠ 6 → j ≠ 7 → Z 15 j = J 15 j) ∧ Z 15 6 = nI 0 ∧ Z 15 7 = nI (sumN (rkD J) c) ∧ ∀ s', s' < 6 → Z (20 + s') = J (20 + s')) 64 ?_ ?_ n 0 Z0 (by omega) (by omega) ⟨z1, z2, z3, z4, z5⟩
    · rintro k Z ⟨a1, a2, a3, a4, a5⟩
      simp (config := { maxSteps := 2000000 }) (disch := omega) only [f178_H12, ux_at, ux_kk, ux_jo, gIx, pIx, pZx, gRx, aIx, sIx, aBx, sBx, lenx, clx, wshS, obS, reduceIte, Nat.one_ne_zero, Nat.zero_ne_one, Nat.reduceEqDiff, not_true_eq_false, not_false_eq_true, Nat.le_refl, ng_le, ng_lt, ng_nle, ng_nlt, ng_eq, ng_eq2, Bool.false_eq_true, lit_nI, nI_add, pk_mul, nI_leI, nI_ltI, nI_eq]
      exact sorts Z ⟨a1, a2, a3, a4, fun s' h => absurd h (Nat.not_lt_zero _), fun s' _ h => a5 s' h⟩
    · rintro k t Z ht ⟨a1, a2, a3, a4, a5⟩ ih
      have ht2 : ¬ 64 ≤ t := by omega
      obtain ⟨k1, k2⟩ := rkD_01 hD ht
      have hrk : Z 26 t = nI (rkD J t) := by rw [a1.at (by decide) (by decide)]; exact k1
      have ei := dr_isRock (J := Z) (L := L) (ru := ru) (c := t) ht (by rw [hrk]; rcases one_or k2 with e | e <;> rw [e] <;> simp)
      rw [hrk] at ei
      have es : sumN (rkD J) (t + 1) = sumN (rkD J) t + rkD J t := rfl
      rcases one_or k2 with e | e
      · rw [e] at ei es
        simp (config := { maxSteps := 2000000 }) (disch := omega) only [f178_H12, ux_at, ux_kk, ux_jo, gIx, pIx, pZx, gRx, aIx, sIx, aBx, sBx, lenx, clx, wshS, obS, reduceIte, Nat.one_ne_zero, Nat.zero_ne_one, Nat.reduceEqDiff, not_true_eq_false, not_false_eq_true, Nat.le_refl, ng_le, ng_lt, ng_nle, ng_nlt, ng_eq, ng_eq2, Bool.false_eq_true, lit_nI, nI_add, pk_mul, nI_leI, nI_ltI, nI_eq, ht2, ei]
        exact ih _ ⟨a1, a2, a3, by rw [es]; exact a4, a5⟩
      · rw [e] at ei es
        simp (config := { maxSteps := 2000000 }) (disch := omega) only [f178_H12, ux_at, ux_kk, ux_jo, gIx, pIx, pZx, gRx, aIx, sIx, aBx, sBx, lenx, clx, wshS, obS, reduceIte, Nat.one_ne_zero, Nat.zero_ne_one, Nat.reduceEqDiff, not_true_eq_false, not_false_eq_true, Nat.le_refl, ng_le, ng_lt, ng_nle, ng_nlt, ng_eq, ng_eq2, Bool.false_eq_true, lit_nI, nI_add, pk_mul, nI_leI, nI_ltI, nI_eq, ht2, ei, a4]
        exact ih _ ⟨a1.u (by decide), fun j h1 h2 => (ux_j h2).trans (a2 j h1 h2), (ux_j (by decide)).trans a3, by rw [es]; exact ux_at, fun s' hs' => (ux_kk (by omega)).trans (a5 s' hs')⟩
  have k := key (u2 (u2 J 15 6 (nI 0)) 15 7 (nI 0)) ((Fr.rf.u (by decide)).u (by decide)) (fun j h1 h2 => (ux_j h2).trans (ux_j h1)) ((ux_j (by decide)).trans ux_at) ux_at fun s' hs' => (ux_kk (by omega)).trans (ux_kk (by omega))
  simp (config := { maxSteps := 2000000 }) (disch := omega) only [f178, ux_at, ux_kk, ux_jo, gIx, pIx, pZx, gRx, aIx, sIx, aBx, sBx, lenx, clx, wshS, obS, reduceIte, Nat.one_ne_zero, Nat.zero_ne_one, Nat.reduceEqDiff, not_true_eq_false, not_false_eq_true, Nat.le_refl, ng_le, ng_lt, ng_nle, ng_nlt, ng_eq, ng_eq2, Bool.false_eq_true, lit_nI, nI_add, pk_mul, nI_leI, nI_ltI, nI_eq]
  exact k
end
