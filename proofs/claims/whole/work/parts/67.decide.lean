/-! COUNTING, 3: the reference's middleOf, decided, pressBlind -/
theorem dn_nI {i : Nat} (h : 1 ≤ i) : nI i + -nI 1 = nI (i - 1) := by
  obtain ⟨j, rfl⟩ : ∃ j, i = j + 1 := ⟨i - 1, by omega⟩
  rw [Nat.add_sub_cancel, ← nI_add]
  grind
theorem dn_0 : nI 0 + -nI 1 = -nI 1 := by decide +kernel
theorem sg_pI : ∀ u, u < 5 → sgN (pI u) = sdN u := by decide +kernel
section
variable {I A : St} {L : Lt} {ru n : Nat}
theorem l128a {q : Nat → Nat} (hq : ∀ v, v < 5 → I 85 v = nI (q v)) {rec10 : Nat → Int32 → Int32 → Int32 → Wd → Option (Int32 × Wd)} {K10 : Int32 → Wd → Option (Int32 × Wd)} {K16 : Nat → Int32 → Int32 → Int32 → Int32 → Wd → Option (Int32 × Wd)} {a fd : Int32} {i : Nat} (hi : i < 5) (hn : 5 < n) : f128_H22 n rec10 K10 K16 n 67 a fd (nI i) (nI 0) (nI 0) (mW I L ru) = K16 67 a fd (nI i) (nI (sumN q i)) (mW I L ru) := by
  refine lpE (F := fun k j s => f128_H22 n rec10 K10 K16 k 67 a fd (nI i) s (nI j) (mW I L ru)) (J := fun j => nI (sumN q j)) i ?_ ?_ n 0 (Nat.zero_le _) (by omega)
  · intro k
    simp (config := { maxSteps := 2000000 }) (disch := omega) only [f128_H22, ux_at, ux_kk, ux_jo, gIm, pIm, pZm, gRm, aIm, sIm, aBm, sBm, gLm, pLm, clm, wshS, obS, reduceIte, Nat.one_ne_zero, Nat.zero_ne_one, Nat.reduceEqDiff, not_true_eq_false, not_false_eq_true, Nat.le_refl, ng_le, ng_lt, ng_nle, ng_nlt, ng_eq, ng_eq2, Bool.false_eq_true, lit_nI, nI_add, pk_mul, nI_leI, nI_ltI, nI_eq, Nat.le_refl]
  · intro k j hj
    have hj2 : ¬ i ≤ j := by omega
    simp (config := { maxSteps := 2000000 }) (disch := omega) only [f128_H22, ux_at, ux_kk, ux_jo, gIm, pIm, pZm, gRm, aIm, sIm, aBm, sBm, gLm, pLm, clm, wshS, obS, reduceIte, Nat.one_ne_zero, Nat.zero_ne_one, Nat.reduceEqDiff, not_true_eq_false, not_false_eq_true, Nat.le_refl, ng_le, ng_lt, ng_nle, ng_nlt, ng_eq, ng_eq2, Bool.false_eq_true, lit_nI, nI_add, pk_mul, nI_leI, nI_ltI, nI_eq, hj2, hq, sumN]
theorem l128b {q : Nat → Nat} (hq : ∀ v, v < 5 → I 85 v = nI (q v)) {K : Int32 → Wd → Option (Int32 × Wd)} {fd : Int32} {a i k : Nat} (hi : i < 5) (ha : a < 1000) (hS : sumN q 5 < 1000) (hn : 5 < n) : f128_H11 n K (k + 1) 67 (nI a) fd (nI i) (mW I L ru) = f128_H11 n K k 67 (nI a) (if sumN q i ≤ a ∧ a < sumN q (i + 1) then nI i else fd) (nI i + -nI 1) (mW I L ru) := by
  have h1 : sumN q i ≤ sumN q 5 := sumN_mono (by omega)
  have h2 : sumN q (i + 1) ≤ sumN q 5 := sumN_mono (by omega)
  have h3 : sumN q (i + 1) = sumN q i + q i := rfl
  have hd : (a < sumN q i) ∨ (sumN q i + q i ≤ a ∧ ¬ a < sumN q i) ∨ (¬ sumN q i + q i ≤ a ∧ ¬ a < sumN q i) := by omega
  have hx := fun K16 => l128a (rec10 := fun v0 v2 v3 v4 w => f128_H11 n K k v0 v2 v3 v4 w) (K10 := K) (K16 := K16) (L := L) (ru := ru) (a := nI a) (fd := fd) hq hi hn
  rcases hd with d | ⟨d, d2⟩ | ⟨d, d2⟩
  · have d3 : ¬ (sumN q i ≤ a ∧ a < sumN q (i + 1)) := by omega
    rw [if_neg d3]
    simp (config := { maxSteps := 2000000 }) (disch := omega) only [f128_H11, ux_at, ux_kk, ux_jo, gIm, pIm, pZm, gRm, aIm, sIm, aBm, sBm, gLm, pLm, clm, wshS, obS, reduceIte, Nat.one_ne_zero, Nat.zero_ne_one, Nat.reduceEqDiff, not_true_eq_false, not_false_eq_true, Nat.le_refl, ng_le, ng_lt, ng_nle, ng_nlt, ng_eq, ng_eq2, Bool.false_eq_true, lit_nI, nI_add, pk_mul, nI_leI, nI_ltI, nI_eq, hx, d, hq, Nat.not_lt_zero]
  · have d3 : ¬ (sumN q i ≤ a ∧ a < sumN q (i + 1)) := by omega
    rw [if_neg d3]
    simp (config := { maxSteps := 2000000 }) (disch := omega) only [f128_H11, ux_at, ux_kk, ux_jo, gIm, pIm, pZm, gRm, aIm, sIm, aBm, sBm, gLm, pLm, clm, wshS, obS, reduceIte, Nat.one_ne_zero, Nat.zero_ne_one, Nat.reduceEqDiff, not_true_eq_false, not_false_eq_true, Nat.le_refl, ng_le, ng_lt, ng_nle, ng_nlt, ng_eq, ng_eq2, Bool.false_eq_true, lit_nI, nI_add, pk_mul, nI_leI, nI_ltI, nI_eq, hx, d, d2, hq, Nat.not_lt_zero]
  · have d3 : sumN q i ≤ a ∧ a < sumN q (i + 1) := by omega
    rw [if_pos d3]
    simp (config := { maxSteps := 2000000 }) (disch := omega) only [f128_H11, ux_at, ux_kk, ux_jo, gIm, pIm, pZm, gRm, aIm, sIm, aBm, sBm, gLm, pLm, clm, wshS, obS, reduceIte, Nat.one_ne_zero, Nat.zero_ne_one, Nat.reduceEqDiff, not_true_eq_false, not_false_eq_true, Nat.le_refl, ng_le, ng_lt, ng_nle, ng_nlt, ng_eq, ng_eq2, Bool.false_eq_true, lit_nI, nI_add, pk_mul, nI_leI, nI_ltI, nI_eq, hx, d, d2, hq, Nat.not_lt_zero]
theorem l128c {q : Nat → Nat} (hq : ∀ v, v < 5 → I 85 v = nI (q v)) {K : Int32 → Wd → Option (Int32 × Wd)} {a k : Nat} (ha : a < sumN q 5) (hS : sumN q 5 < 1000) (hn : 5 < n) : ∃ f, f < 5 ∧ sumN q f ≤ a ∧ a < sumN q (f + 1) ∧ f128_H11 n K (k + 6) 67 (nI a) (nI 2) (nI 4) (mW I L ru) = K (nI f) (mW I L ru) := by
  have s1 := l128b (K := K) (L := L) (ru := ru) (fd := nI 2) (a := a) (i := 4) (k := k + 5) hq (by omega) (by omega) hS hn
  rw [dn_nI (by decide)] at s1
  have s2 := fun fd => l128b (K := K) (L := L) (ru := ru) (fd := fd) (a := a) (i := 3) (k := k + 4) hq (by omega) (by omega) hS hn
  have s3 := fun fd => l128b (K := K) (L := L) (ru := ru) (fd := fd) (a := a) (i := 2) (k := k + 3) hq (by omega) (by omega) hS hn
  have s4 := fun fd => l128b (K := K) (L := L) (ru := ru) (fd := fd) (a := a) (i := 1) (k := k + 2) hq (by omega) (by omega) hS hn
  have s5 := fun fd => l128b (K := K) (L := L) (ru := ru) (fd := fd) (a := a) (i := 0) (k := k + 1) hq (by omega) (by omega) hS hn
  have s6 : ∀ fd, f128_H11 n K (k + 1) 67 (nI a) fd (-nI 1) (mW I L ru) = K fd (mW I L ru) := fun fd => by
    simp (config := { maxSteps := 2000000 }) (disch := omega) only [f128_H11, ux_at, ux_kk, ux_jo, gIm, pIm, pZm, gRm, aIm, sIm, aBm, sBm, gLm, pLm, clm, wshS, obS, reduceIte, Nat.one_ne_zero, Nat.zero_ne_one, Nat.reduceEqDiff, not_true_eq_false, not_false_eq_true, Nat.le_refl, ng_le, ng_lt, ng_nle, ng_nlt, ng_eq, ng_eq2, Bool.false_eq_true, lit_nI, nI_add, pk_mul, nI_leI, nI_ltI, nI_eq]
  simp only [dn_nI (show 1 ≤ 3 by decide), dn_nI (show 1 ≤ 2 by decide), dn_nI (show 1 ≤ 1 by decide), dn_0] at s2 s3 s4 s5
  have m1 : sumN q 1 = sumN q 0 + q 0 := rfl
  have m2 : sumN q 2 = sumN q 1 + q 1 := rfl
  have m3 : sumN q 3 = sumN q 2 + q 2 := rfl
  have m4 : sumN q 4 = sumN q 3 + q 3 := rfl
  have m5 : sumN q 5 = sumN q 4 + q 4 := rfl
  have m0 : sumN q 0 = 0 := rfl
  have e := ((s1.trans (s2 _)).trans (s3 _)).trans ((s4 _).trans ((s5 _).trans (s6 _)))
  have hc : a < sumN q 1 ∨ (¬ a < sumN q 1 ∧ a < sumN q 2) ∨ (¬ a < sumN q 2 ∧ a < sumN q 3) ∨ (¬ a < sumN q 3 ∧ a < sumN q 4) ∨ ¬ a < sumN q 4 := by omega
  rcases hc with c | ⟨c0, c⟩ | ⟨c0, c⟩ | ⟨c0, c⟩ | c
  · refine ⟨0, by decide, by omega, c, e.trans ?_⟩
    rw [if_pos ⟨by omega, c⟩]
  · refine ⟨1, by decide, by omega, c, e.trans ?_⟩
    rw [if_neg (fun z => c0 z.2), if_pos ⟨by omega, c⟩]
  · refine ⟨2, by decide, by omega, c, e.trans ?_⟩
    have x0 : ¬ (sumN q 0 ≤ a ∧ a < sumN q (0 + 1)) := fun z => by have h9 : a < sumN q 1 := z.2; omega
    have x1 : ¬ (sumN q 1 ≤ a ∧ a < sumN q (1 + 1)) := fun z => by have h9 : a < sumN q 2 := z.2; omega
    rw [if_neg x0, if_neg x1, if_pos ⟨by omega, c⟩]
  · refine ⟨3, by decide, by omega, c, e.trans ?_⟩
    have x0 : ¬ (sumN q 0 ≤ a ∧ a < sumN q (0 + 1)) := fun z => by have h9 : a < sumN q 1 := z.2; omega
    have x1 : ¬ (sumN q 1 ≤ a ∧ a < sumN q (1 + 1)) := fun z => by have h9 : a < sumN q 2 := z.2; omega
    have x2 : ¬ (sumN q 2 ≤ a ∧ a < sumN q (2 + 1)) := fun z => by have h9 : a < sumN q 3 := z.2; omega
    rw [if_neg x0, if_neg x1, if_neg x2, if_pos ⟨by omega, c⟩]
  · refine ⟨4, by decide, by omega, by show a < sumN q 5; omega, e.trans ?_⟩
    have x0 : ¬ (sumN q 0 ≤ a ∧ a < sumN q (0 + 1)) := fun z => by have h9 : a < sumN q 1 := z.2; omega
    have x1 : ¬ (sumN q 1 ≤ a ∧ a < sumN q (1 + 1)) := fun z => by have h9 : a < sumN q 2 := z.2; omega
    have x2 : ¬ (sumN q 2 ≤ a ∧ a < sumN q (2 + 1)) := fun z => by have h9 : a < sumN q 3 := z.2; omega
    have x3 : ¬ (sumN q 3 ≤ a ∧ a < sumN q (3 + 1)) := fun z => by have h9 : a < sumN q 4 := z.2; omega
    rw [if_neg x0, if_neg x1, if_neg x2, if_neg x3, if_pos ⟨by omega, by show a < sumN q 5; omega⟩]
theorem s128 {q : Nat → Nat} (hq : ∀ v, v < 5 → I 85 v = nI (q v)) {N : Nat} (hN : N = q 0 + q 1 + q 2 + (q 3 + q 4)) (h1 : 0 < N) (h2 : N < 1000) (hn : 6 < n) : f128 n 67 (nI N) (mW I L ru) = some (tI (midN (q 0 + q 1) (q 2) (q 3 + q 4)), mW I L ru) := by
  have m1 : sumN q 1 = sumN q 0 + q 0 := rfl
  have m2 : sumN q 2 = sumN q 1 + q 1 := rfl
  have m3 : sumN q 3 = sumN q 2 + q 2 := rfl
  have m4 : sumN q 4 = sumN q 3 + q 3 := rfl
  have m5 : sumN q 5 = sumN q 4 + q 4 := rfl
  have m0 : sumN q 0 = 0 := rfl
  obtain ⟨f, f1, f2, f3, e⟩ := l128c (n := n) (K := fun e w => ob (f56 (e - (2 : Int32)) w) (fun p => some (p.1, p.2))) (L := L) (ru := ru) (a := (N - 1) / 2) (k := n - 6) hq (by omega) (by omega) (by omega)
  rw [Nat.sub_add_cancel (by omega)] at e
  have e2 : (nI N - 1) / 2 = nI ((N - 1) / 2) := by
    show (nI N - nI 1) / nI 2 = _
    rw [pk_sub (by omega), pk_div (by omega) (by omega) (by omega)]
  unfold f128
  rw [e2]
  refine e.trans ?_
  show ob (f56 (pI f) _) _ = _
  rw [s56, sg_pI f f1]
  show some (tI (sdN f), _) = some (tI (midN _ _ _), _)
  have e3 : sdN f = midN (q 0 + q 1) (q 2) (q 3 + q 4) := by
    have hf : f = 0 ∨ f = 1 ∨ f = 2 ∨ f = 3 ∨ f = 4 := by omega
    unfold midN sdN
    rcases hf with rfl | rfl | rfl | rfl | rfl
    · have : sumN q (0 + 1) = sumN q 1 := rfl
      rw [if_pos (by decide), if_pos (by omega)]
    · have : sumN q (1 + 1) = sumN q 2 := rfl
      rw [if_pos (by decide), if_pos (by omega)]
    · have : sumN q (2 + 1) = sumN q 3 := rfl
      rw [if_neg (by decide), if_pos rfl, if_neg (by omega), if_pos (by omega)]
    · have : sumN q (3 + 1) = sumN q 4 := rfl
      rw [if_neg (by decide), if_neg (by decide), if_neg (by omega), if_neg (by omega)]
    · have : sumN q (4 + 1) = sumN q 5 := rfl
      rw [if_neg (by decide), if_neg (by decide), if_neg (by omega), if_neg (by omega)]
  rw [e3]
/-- decided, from the turn that is wanted -/
theorem s172b {l r nd bl br k : Nat} (hl : l < 1000) (hr : r < 1000) (hnd : nd < 1000) (hbl : bl ≤ 1) (hbr : br ≤ 1) (hk : k < 3) (h40 : I 67 40 = nI nd) (h45 : I 67 45 = nI bl) (h46 : I 67 46 = nI br) :
    f172_J165 n 67 (nI l) (nI r) (tI k) (mW I L ru) = some (tI (if k = 0 then (if l < nd ∨ br = 1 then 1 else 0) else if k = 2 then (if r < nd ∨ bl = 1 then 1 else 2) else 1), mW I L ru) := by
  rcases one_or hbl with rfl | rfl <;> rcases one_or hbr with rfl | rfl <;> rcases k3 hk with rfl | rfl | rfl <;> by_cases d1 : l < nd <;> by_cases d2 : r < nd <;>
    simp (config := { maxSteps := 2000000 }) (disch := omega) only [f172_J165, f172_J220, ux_at, ux_kk, ux_jo, gIm, pIm, pZm, gRm, aIm, sIm, aBm, sBm, gLm, pLm, clm, wshS, obS, reduceIte, Nat.one_ne_zero, Nat.zero_ne_one, Nat.reduceEqDiff, not_true_eq_false, not_false_eq_true, Nat.le_refl, ng_le, ng_lt, ng_nle, ng_nlt, ng_eq, ng_eq2, Bool.false_eq_true, lit_nI, nI_add, pk_mul, nI_leI, nI_ltI, nI_eq, tI_0, tI_1, tI_2, h40, h45, h46, d1, d2, Nat.le_refl, Nat.reduceEqDiff, Nat.one_ne_zero, or_true, or_false, true_or, false_or, Nat.reduceLeDiff, Nat.zero_ne_one]
end
