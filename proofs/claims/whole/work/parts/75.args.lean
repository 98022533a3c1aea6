/-! ARGUMENTS: in their bounds or not; both sides' checks -/
/-- an int is below 0, from n on, or one of 0 .. n - 1 -/
theorem ixc (x : Int32) {n : Nat} (hn : n < 2 ^ 31) : (x < nI 0 ∨ nI n ≤ x) ∨ ∃ j, j < n ∧ x = nI j := by
  rcases pk_ix x hn with h | h | h
  · exact Or.inl (Or.inl h)
  · exact Or.inl (Or.inr h)
  · exact Or.inr h
theorem ixr (x : Int32) {a b : Nat} (ha : a < 2 ^ 31) (hb : b < 2 ^ 31) : (x < nI a ∨ nI b < x) ∨ ∃ j, a ≤ j ∧ j ≤ b ∧ x = nI j := by
  by_cases h1 : x < nI a
  · exact Or.inl (Or.inl h1)
  · by_cases h2 : nI b < x
    · exact Or.inl (Or.inr h2)
    · refine Or.inr ⟨x.toInt.toNat, ?_⟩
      rw [Int32.lt_iff_toInt_lt, nI_toInt ha] at h1
      rw [Int32.lt_iff_toInt_lt, nI_toInt hb] at h2
      refine ⟨by omega, by omega, Int32.toInt_inj.mp ?_⟩
      rw [nI_toInt (by omega)]
      omega
theorem ixt (x : Int32) : (x < -nI 1 ∨ nI 1 < x) ∨ ∃ k, k < 3 ∧ x = tI k := by
  by_cases h1 : x < -nI 1
  · exact Or.inl (Or.inl h1)
  · by_cases h2 : nI 1 < x
    · exact Or.inl (Or.inr h2)
    · have m1 : (-nI 1).toInt = -1 := by decide +kernel
      rw [Int32.lt_iff_toInt_lt, m1] at h1
      rw [Int32.lt_iff_toInt_lt, nI_toInt (by omega)] at h2
      have h3 : x.toInt = -1 ∨ x.toInt = 0 ∨ x.toInt = 1 := by omega
      refine Or.inr ?_
      rcases h3 with e | e | e
      · exact ⟨0, by decide, Int32.toInt_inj.mp (by rw [e]; decide +kernel)⟩
      · exact ⟨1, by decide, Int32.toInt_inj.mp (by rw [e]; decide +kernel)⟩
      · exact ⟨2, by decide, Int32.toInt_inj.mp (by rw [e]; decide +kernel)⟩
theorem lgc_lt {x y : Int64} : lg_cmp x y < 0 ↔ x < y := by
  unfold lg_cmp
  by_cases h1 : x > y
  · rw [if_pos h1]
    have h1 : y < x := h1
    rw [Int64.lt_iff_toInt_lt] at h1 ⊢
    constructor
    · intro h; exact absurd h (by decide +kernel)
    · intro h; omega
  · rw [if_neg h1]
    have h1 : ¬ y < x := h1
    rw [Int64.lt_iff_toInt_lt] at h1 ⊢
    by_cases h2 : x = y
    · rw [if_pos h2, h2]
      constructor
      · intro h; exact absurd h (by decide +kernel)
      · intro h; omega
    · rw [if_neg h2]
      constructor
      · intro _
        have h3 : x.toInt ≠ y.toInt := fun e => h2 (Int64.toInt_inj.mp e)
        omega
      · intro _; decide +kernel
theorem lgc_gt {x y : Int64} : 0 < lg_cmp x y ↔ y < x := by
  unfold lg_cmp
  by_cases h1 : x > y
  · rw [if_pos h1]
    exact ⟨fun _ => h1, fun _ => by decide +kernel⟩
  · rw [if_neg h1]
    have h1 : ¬ y < x := h1
    by_cases h2 : x = y
    · rw [if_pos h2]
      exact ⟨fun h => absurd h (by decide +kernel), fun h => absurd h h1⟩
    · rw [if_neg h2]
      exact ⟨fun h => absurd h (by decide +kernel), fun h => absurd h h1⟩
theorem w_lt (a b : Int32) : a.toInt64 < b.toInt64 ↔ a < b := by rw [Int64.lt_iff_toInt_lt, Int32.lt_iff_toInt_lt, Int32.toInt_toInt64, Int32.toInt_toInt64]
/-- 'in' over ints taken as longs -/
theorem s40w (x a b : Int32) (w : Wd) : f40 (Int32.toInt64 x) (Int32.toInt64 a) (Int32.toInt64 b) w = some (if x < a then nI 0 else if b < x then nI 0 else nI 1, w) := by
  rw [s40]
  unfold inV
  simp only [lgc_lt, lgc_gt, w_lt]
  rfl
theorem lN_w {n : Nat} (h : n < 2 ^ 31) : lN n = Int32.toInt64 (nI n) := (nI_l h).symm
theorem lN_m1 : (-1 : Int64) = Int32.toInt64 (-nI 1) := by decide +kernel
theorem lN_m2 : (-2 : Int64) = Int32.toInt64 (-nI 2) := by decide +kernel
theorem z01 : nI 0 = 0 ∨ nI 0 = 1 := Or.inl rfl
theorem o01 : nI 1 = 0 ∨ nI 1 = 1 := Or.inr rfl
section
variable {x : Int32} {w : Wd} {a b j : Nat}
theorem s40o (ha : a < 2 ^ 31) (hb : b < 2 ^ 31) (h : x < nI a ∨ nI b < x) : f40 (Int32.toInt64 x) (lN a) (lN b) w = some (nI 0, w) := by
  rw [lN_w ha, lN_w hb, s40w]
  rcases h with h | h
  · rw [if_pos h]
  · by_cases h2 : x < nI a
    · rw [if_pos h2]
    · rw [if_neg h2, if_pos h]
theorem s40i (h1 : a ≤ j) (h2 : j ≤ b) (hb : b < 2 ^ 31) : f40 (Int32.toInt64 (nI j)) (lN a) (lN b) w = some (nI 1, w) := by
  rw [lN_w (by omega), lN_w hb, s40w, if_neg (nI_nlt h1 (by omega)), if_neg (nI_nlt h2 hb)]
theorem s40t (k : Nat) (hk : k < 3) : f40 (Int32.toInt64 (tI k)) (-1 : Int64) (lN 1) w = some (nI 1, w) := by
  rw [lN_m1, lN_w (by decide), s40w]
  rcases k3 hk with rfl | rfl | rfl <;> rfl
theorem s40to (h : x < -nI 1 ∨ nI 1 < x) : f40 (Int32.toInt64 x) (-1 : Int64) (lN 1) w = some (nI 0, w) := by
  rw [lN_m1, lN_w (by decide), s40w]
  rcases h with h | h
  · rw [if_pos h]
  · by_cases h2 : x < -nI 1
    · rw [if_pos h2]
    · rw [if_neg h2, if_pos h]
/-- the component's 'outside' -/
theorem s0o (h : x < nI a ∨ nI b < x) : f0 x (nI a) (nI b) w = some (nI 1, w) := by
  unfold f0
  rcases h with h | h
  · rw [if_pos h]; rfl
  · have h3 : ¬ x ≤ nI b := by rw [Int32.not_le]; exact h
    by_cases h2 : x < nI a
    · rw [if_pos h2]; rfl
    · rw [if_neg h2, if_neg h3]; rfl
theorem s0i (h1 : a ≤ j) (h2 : j ≤ b) (hb : b < 2 ^ 31) : f0 (nI j) (nI a) (nI b) w = some (nI 0, w) := by
  unfold f0
  rw [if_neg (nI_nlt h1 (by omega)), if_pos (nI_le h2 hb)]
  rfl
theorem s0t {k : Nat} (hk : k < 3) : f0 (tI k) (-nI 1) (nI 1) w = some (nI 0, w) := by
  unfold f0
  rcases k3 hk with rfl | rfl | rfl <;> rfl
theorem s0to (h : x < -nI 1 ∨ nI 1 < x) : f0 x (-nI 1) (nI 1) w = some (nI 1, w) := by
  unfold f0
  rcases h with h | h
  · rw [if_pos h]; rfl
  · have h3 : ¬ x ≤ nI 1 := by rw [Int32.not_le]; exact h
    by_cases h2 : x < -nI 1
    · rw [if_pos h2]; rfl
    · rw [if_neg h2, if_neg h3]; rfl
/-- 0 .. n - 1, where the bound is written n - 1 -/
theorem s0co {n : Nat} (hn : n < 2 ^ 31) (h : x < nI 0 ∨ nI n ≤ x) : f0 x (nI 0) (nI n - nI 1) w = some (nI 1, w) := by
  unfold f0
  rcases h with h | h
  · rw [if_pos h]; rfl
  · have h3 : ¬ x ≤ nI n - nI 1 := by
      by_cases h0 : n = 0
      · subst h0
        intro q
        have e : nI 0 - nI 1 = -nI 1 := by decide +kernel
        have m1 : (-nI 1).toInt = -1 := by decide +kernel
        rw [e, Int32.le_iff_toInt_le, m1] at q
        rw [Int32.le_iff_toInt_le, nI_toInt (by decide)] at h
        omega
      · rw [pk_sub (by omega)]
        intro q
        rw [Int32.le_iff_toInt_le, nI_toInt (by omega)] at q h
        omega
    by_cases h2 : x < nI 0
    · rw [if_pos h2]; rfl
    · rw [if_neg h2, if_neg h3]; rfl
theorem s0ci {n : Nat} (hn : n < 2 ^ 31) (h : j < n) : f0 (nI j) (nI 0) (nI n - nI 1) w = some (nI 0, w) := by
  rw [pk_sub (by omega)]
  exact s0i (Nat.zero_le _) (by omega) (by omega)
theorem s40co {n : Nat} (hn : n < 2 ^ 31) (h : x < nI 0 ∨ nI n ≤ x) : f40 (Int32.toInt64 x) (lN 0) (Int32.toInt64 (nI n - nI 1)) w = some (nI 0, w) := by
  rw [lN_w (by decide), s40w]
  rcases h with h | h
  · rw [if_pos h]
  · have h3 : nI n - nI 1 < x := by
      by_cases h0 : n = 0
      · subst h0
        have e : nI 0 - nI 1 = -nI 1 := by decide +kernel
        have m1 : (-nI 1).toInt = -1 := by decide +kernel
        rw [e, Int32.lt_iff_toInt_lt, m1]
        rw [Int32.le_iff_toInt_le, nI_toInt (by decide)] at h
        omega
      · rw [pk_sub (by omega)]
        rw [Int32.lt_iff_toInt_lt, nI_toInt (by omega)]
        rw [Int32.le_iff_toInt_le, nI_toInt (by omega)] at h
        omega
    by_cases h2 : x < nI 0
    · rw [if_pos h2]
    · rw [if_neg h2, if_pos h3]
theorem s40ci {n : Nat} (hn : n < 2 ^ 31) (h : j < n) : f40 (Int32.toInt64 (nI j)) (lN 0) (Int32.toInt64 (nI n - nI 1)) w = some (nI 1, w) := by
  rw [pk_sub (by omega), lN_w (by decide), s40w, if_neg (nI_nlt (Nat.zero_le _) (by omega)), if_neg (nI_nlt (by omega) (by omega))]
end
theorem shl_nI : ∀ k, k < 7 → nI 1 <<< (nI k &&& nI 31) = nI (2 ^ k) := by decide +kernel
theorem p2_le : ∀ k, k < 7 → 2 ^ k ≤ 64 := by decide +kernel
section
variable {I A : St} {L : Lt} {ru n : Nat} {x : Int32} {j : Nat}
/-! the reference's -/
theorem s118o (h : x < nI 0 ∨ nI 64 ≤ x) {w : Wd} : f118 x w = some (nI 0, w) := by
  have e : nI 64 - nI 1 = nI 63 := by decide +kernel
  have e2 := s40co (x := x) (w := w) (n := 64) (by decide) h
  rw [e, ← lN_w (by decide)] at e2
  simp only [f118, lit_lN, e2, obS, z01, reduceIte]
theorem s118 (h : j < 64) {w : Wd} : f118 (nI j) w = some (nI 1, w) := by
  simp (config := { maxSteps := 2000000 }) (disch := omega) only [f118, lit_lN, s40i, obS, o01, reduceIte]
theorem s122o (h : x < nI 0 ∨ nI 8 ≤ x) {w : Wd} : f122 x w = some (nI 0, w) := by
  have e : nI 8 - nI 1 = nI 7 := by decide +kernel
  have e2 := s40co (x := x) (w := w) (n := 8) (by decide) h
  rw [e, ← lN_w (by decide)] at e2
  simp only [f122, lit_lN, e2, obS, z01, reduceIte]
theorem s122 (h : j < 8) {w : Wd} : f122 (nI j) w = some (nI 1, w) := by
  simp (config := { maxSteps := 2000000 }) (disch := omega) only [f122, lit_lN, s40i, obS, o01, reduceIte]
theorem s131o (h : x < nI 1 ∨ nI 24 < x) {w : Wd} : f131 x w = some (nI 0, w) := by
  simp only [f131, lit_lN, s40o (show 1 < 2 ^ 31 by decide) (show 24 < 2 ^ 31 by decide) h, obS, z01, reduceIte]
theorem s131 (h1 : 1 ≤ j) (h : j ≤ 24) {w : Wd} : f131 (nI j) w = some (nI 1, w) := by
  simp (config := { maxSteps := 2000000 }) (disch := omega) only [f131, lit_lN, s40i, obS, o01, reduceIte]
theorem s121o (hM : MC I A) (hW : WFs A) (h : x < nI 0 ∨ nI (nsN A) ≤ x) : f121 67 x (mW I L ru) = some (nI 0, mW I L ru) := by
  have h6 := ns6 hW
  have e := s40co (x := x) (w := mW I L ru) (n := nsN A) (by omega) h
  simp only [f121, ux_at, ux_kk, ux_jo, gIm, pIm, pZm, gRm, aIm, sIm, aBm, sBm, gLm, pLm, clm, wshS, obS, reduceIte, mcA hM, wfA hW, lit_lN, lit_nI, e, true_or, or_true]
theorem s121 (hM : MC I A) (hW : WFs A) (h : j < nsN A) : f121 67 (nI j) (mW I L ru) = some (nI 1, mW I L ru) := by
  have h6 := ns6 hW
  have e := s40ci (w := mW I L ru) (n := nsN A) (by omega) h
  simp only [f121, ux_at, ux_kk, ux_jo, gIm, pIm, pZm, gRm, aIm, sIm, aBm, sBm, gLm, pLm, clm, wshS, obS, reduceIte, mcA hM, wfA hW, lit_lN, lit_nI, e, true_or, or_true]
theorem s119o (hM : MC I A) (hW : WFs A) (h : x < nI 0 ∨ nI (2 ^ nsN A) ≤ x) : f119 67 x (mW I L ru) = some (nI 0, mW I L ru) := by
  have h6 := ns6 hW
  have h7 := p2_le (nsN A) (by omega)
  have e := s40co (x := x) (w := mW I L ru) (n := 2 ^ nsN A) (by omega) h
  simp only [f119, ux_at, ux_kk, ux_jo, gIm, pIm, pZm, gRm, aIm, sIm, aBm, sBm, gLm, pLm, clm, wshS, obS, reduceIte, mcA hM, wfA hW, lit_lN, lit_nI, shl_nI (nsN A) (by omega), e, true_or, or_true]
theorem s119 (hM : MC I A) (hW : WFs A) (h : j < 2 ^ nsN A) : f119 67 (nI j) (mW I L ru) = some (nI 1, mW I L ru) := by
  have h6 := ns6 hW
  have h7 := p2_le (nsN A) (by omega)
  have e := s40ci (w := mW I L ru) (n := 2 ^ nsN A) (by omega) h
  simp only [f119, ux_at, ux_kk, ux_jo, gIm, pIm, pZm, gRm, aIm, sIm, aBm, sBm, gLm, pLm, clm, wshS, obS, reduceIte, mcA hM, wfA hW, lit_lN, lit_nI, shl_nI (nsN A) (by omega), e, true_or, or_true]
theorem s126o (hM : MC I A) (hW : WFr A) (h : x < nI 0 ∨ nI (nrN A) ≤ x) : f126 67 x (mW I L ru) = some (nI 0, mW I L ru) := by
  have h4 := hW.2.2.2.1
  have e := s40co (x := x) (w := mW I L ru) (n := nrN A) (by omega) h
  simp only [f126, ux_at, ux_kk, ux_jo, gIm, pIm, pZm, gRm, aIm, sIm, aBm, sBm, gLm, pLm, clm, wshS, obS, reduceIte, mcA hM, h4.1, lit_lN, lit_nI, e, true_or, or_true]
theorem s126 (hM : MC I A) (hW : WFr A) (h : j < nrN A) : f126 67 (nI j) (mW I L ru) = some (nI 1, mW I L ru) := by
  have h4 := hW.2.2.2.1
  have e := s40ci (w := mW I L ru) (n := nrN A) (by omega) h
  simp only [f126, ux_at, ux_kk, ux_jo, gIm, pIm, pZm, gRm, aIm, sIm, aBm, sBm, gLm, pLm, clm, wshS, obS, reduceIte, mcA hM, h4.1, lit_lN, lit_nI, e, true_or, or_true]
end
