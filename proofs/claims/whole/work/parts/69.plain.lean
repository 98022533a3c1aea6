/-! WHOLE NUMBERS AS INTS; the plain press -/
def iI (z : Int) : Int32 := Int32.ofInt z
theorem iI_add (a b : Int) : iI a + iI b = iI (a + b) := (Int32.ofInt_add a b).symm
theorem iI_self (x : Int32) : iI x.toInt = x := Int32.ofInt_toInt x
theorem iI_toInt {z : Int} (h1 : -2147483648 ≤ z) (h2 : z < 2147483648) : (iI z).toInt = z := Int32.toInt_ofInt_of_le h1 h2
theorem iI_le {a b : Int} (h1 : -2147483648 ≤ a) (h2 : a < 2147483648) (h3 : -2147483648 ≤ b) (h4 : b < 2147483648) : iI a ≤ iI b ↔ a ≤ b := by
  rw [Int32.le_iff_toInt_le, iI_toInt h1 h2, iI_toInt h3 h4]
theorem iI_lt {a b : Int} (h1 : -2147483648 ≤ a) (h2 : a < 2147483648) (h3 : -2147483648 ≤ b) (h4 : b < 2147483648) : iI a < iI b ↔ a < b := by
  rw [Int32.lt_iff_toInt_lt, iI_toInt h1 h2, iI_toInt h3 h4]
theorem iI_nI (n : Nat) : iI (n : Int) = nI n := Int32.ofInt_eq_ofNat
theorem iI_0 : iI 0 = nI 0 := by decide +kernel
/-- the best of three by a number, straight first, then left, then right; the greatest -/
def best3 (f : Nat → Int) : Nat := if f (if f 1 < f 0 then 0 else 1) < f 2 then 2 else if f 1 < f 0 then 0 else 1
theorem best3_lt (f : Nat → Int) : best3 f < 3 := by
  unfold best3
  repeat' split
  all_goals decide
def golN (A : St) (s : Nat) : Nat := (A 75 s).toNatClampNeg
def offN (A : St) (s c h k : Nat) : Nat := if rkN A (goN c (tuN h k)) = 1 then 99 else farN (goN c (tuN h k)) (golN A s)
/-- the plain press, as a turn's number -/
def plnN (A : St) (s c h : Nat) : Nat := if A 75 s = -1 then 1 else best3 (fun k => -(offN A s c h k : Int))
theorem plnN_lt (A : St) (s c h : Nat) : plnN A s c h < 3 := by
  unfold plnN
  split
  · decide
  · exact best3_lt _
theorem farN_le : ∀ a, a < 64 → ∀ b, b < 64 → farN a b ≤ 7 := by decide +kernel
theorem gol_ok {A : St} (h : WFs A) {s : Nat} (hs : s < nsN A) : A 75 s = -1 ∨ (A 75 s = nI (golN A s) ∧ golN A s < 64 ∧ ¬ A 75 s = -1) := by
  rcases h.2.2.2.2.2.2.2.2.2 s hs with e | ⟨g, g1, g2⟩
  · exact Or.inl e
  · refine Or.inr ⟨?_, ?_, ?_⟩
    · unfold golN
      rw [g2, nI_clamp (by omega)]
    · unfold golN
      rw [g2, nI_clamp (by omega)]
      exact g1
    · rw [g2]
      intro e
      have h1 : (nI g = -nI 1) := e
      rw [ng_eq2 (by omega)] at h1
      exact h1
section
variable {I A : St} {L : Lt} {ru n : Nat}
theorem offN_le (hW : WFs A) {s c h k : Nat} (hc : c < 64) (hg : golN A s < 64) : offN A s c h k ≤ 99 := by
  have h1 := goN_lt c hc _ (tuN_lt h k)
  have := farN_le _ h1 _ hg
  unfold offN
  split <;> omega
theorem l168 (hM : MC I A) (hW : WFs A) {s c h : Nat} (hs : s < nsN A) (hc : c < 64) (hh : h < 8) (hg : A 75 s = nI (golN A s)) (hg2 : golN A s < 64) {K : Int32 → Wd → Option (Int32 × Wd)} {k i l : Nat} {b : Int32} (hi : i < 3) (hl : l < 1000) :
    f168_H9 n K (k + 1) 67 (nI s) (nI c) (nI h) b (nI l) (nI i) (mW I L ru) = f168_H9 n K k 67 (nI s) (nI c) (nI h) (if i = 0 ∨ offN A s c h (toN i) < l then tI (toN i) else b) (nI (if i = 0 ∨ offN A s c h (toN i) < l then offN A s c h (toN i) else l)) (nI (i + 1)) (mW I L ru) := by
  have h6 := ns6 hW
  have h8 := tuN_lt h (toN i)
  have h3 := toN_lt i
  have h1 := goN_lt c hc _ h8
  have hr := rk_le hW h1
  have hi2 : ¬ 3 ≤ i := by omega
  have hf := farN_le _ h1 _ hg2
  generalize ho : offN A s c h (toN i) = o
  have o99 : o ≤ 99 := ho ▸ offN_le hW hc hg2
  have hd : (i = 0) ∨ (¬ i = 0 ∧ o < l ∧ ¬ l ≤ o) ∨ (¬ i = 0 ∧ ¬ o < l ∧ l ≤ o) := by omega
  unfold offN at ho
  rcases one_or hr with e | e
  · rw [e, if_neg (by decide)] at ho
    rcases hd with d | ⟨d, d2, d3⟩ | ⟨d, d2, d3⟩
    · simp (config := { maxSteps := 2000000 }) (disch := omega) only [f168_H9, f168_J65, f168_J79, f168_J89, ux_at, ux_kk, ux_jo, gIm, pIm, pZm, gRm, aIm, sIm, aBm, sBm, gLm, pLm, clm, wshS, obS, reduceIte, Nat.one_ne_zero, Nat.zero_ne_one, Nat.reduceEqDiff, not_true_eq_false, not_false_eq_true, Nat.le_refl, ng_le, ng_lt, ng_nle, ng_nlt, ng_eq, ng_eq2, Bool.false_eq_true, lit_nI, nI_add, pk_mul, nI_leI, nI_ltI, nI_eq, mcA hM, wfA hW, hg, hi2, s52, s51, s123, s48, e, ho, eq_true d, true_or, Nat.not_lt_zero]
    · simp (config := { maxSteps := 2000000 }) (disch := omega) only [f168_H9, f168_J65, f168_J79, f168_J89, ux_at, ux_kk, ux_jo, gIm, pIm, pZm, gRm, aIm, sIm, aBm, sBm, gLm, pLm, clm, wshS, obS, reduceIte, Nat.one_ne_zero, Nat.zero_ne_one, Nat.reduceEqDiff, not_true_eq_false, not_false_eq_true, Nat.le_refl, ng_le, ng_lt, ng_nle, ng_nlt, ng_eq, ng_eq2, Bool.false_eq_true, lit_nI, nI_add, pk_mul, nI_leI, nI_ltI, nI_eq, mcA hM, wfA hW, hg, hi2, s52, s51, s123, s48, e, ho, d, d2, d3, or_true, Nat.not_lt_zero]
    · simp (config := { maxSteps := 2000000 }) (disch := omega) only [f168_H9, f168_J65, f168_J79, f168_J89, ux_at, ux_kk, ux_jo, gIm, pIm, pZm, gRm, aIm, sIm, aBm, sBm, gLm, pLm, clm, wshS, obS, reduceIte, Nat.one_ne_zero, Nat.zero_ne_one, Nat.reduceEqDiff, not_true_eq_false, not_false_eq_true, Nat.le_refl, ng_le, ng_lt, ng_nle, ng_nlt, ng_eq, ng_eq2, Bool.false_eq_true, lit_nI, nI_add, pk_mul, nI_leI, nI_ltI, nI_eq, mcA hM, wfA hW, hg, hi2, s52, s51, s123, s48, e, ho, d, d2, d3, or_self, Nat.not_lt_zero]
  · rw [e, if_pos rfl] at ho
    subst ho
    rcases hd with d | ⟨d, d2, d3⟩ | ⟨d, d2, d3⟩
    · simp (config := { maxSteps := 2000000 }) (disch := omega) only [f168_H9, f168_J65, f168_J79, f168_J89, ux_at, ux_kk, ux_jo, gIm, pIm, pZm, gRm, aIm, sIm, aBm, sBm, gLm, pLm, clm, wshS, obS, reduceIte, Nat.one_ne_zero, Nat.zero_ne_one, Nat.reduceEqDiff, not_true_eq_false, not_false_eq_true, Nat.le_refl, ng_le, ng_lt, ng_nle, ng_nlt, ng_eq, ng_eq2, Bool.false_eq_true, lit_nI, nI_add, pk_mul, nI_leI, nI_ltI, nI_eq, mcA hM, wfA hW, hg, hi2, s52, s51, s123, s48, e, eq_true d, true_or, Nat.not_lt_zero, Nat.one_ne_zero]
    · simp (config := { maxSteps := 2000000 }) (disch := omega) only [f168_H9, f168_J65, f168_J79, f168_J89, ux_at, ux_kk, ux_jo, gIm, pIm, pZm, gRm, aIm, sIm, aBm, sBm, gLm, pLm, clm, wshS, obS, reduceIte, Nat.one_ne_zero, Nat.zero_ne_one, Nat.reduceEqDiff, not_true_eq_false, not_false_eq_true, Nat.le_refl, ng_le, ng_lt, ng_nle, ng_nlt, ng_eq, ng_eq2, Bool.false_eq_true, lit_nI, nI_add, pk_mul, nI_leI, nI_ltI, nI_eq, mcA hM, wfA hW, hg, hi2, s52, s51, s123, s48, e, d, d2, d3, or_true, Nat.not_lt_zero, Nat.one_ne_zero]
    · simp (config := { maxSteps := 2000000 }) (disch := omega) only [f168_H9, f168_J65, f168_J79, f168_J89, ux_at, ux_kk, ux_jo, gIm, pIm, pZm, gRm, aIm, sIm, aBm, sBm, gLm, pLm, clm, wshS, obS, reduceIte, Nat.one_ne_zero, Nat.zero_ne_one, Nat.reduceEqDiff, not_true_eq_false, not_false_eq_true, Nat.le_refl, ng_le, ng_lt, ng_nle, ng_nlt, ng_eq, ng_eq2, Bool.false_eq_true, lit_nI, nI_add, pk_mul, nI_leI, nI_ltI, nI_eq, mcA hM, wfA hW, hg, hi2, s52, s51, s123, s48, e, d, d2, d3, or_self, Nat.not_lt_zero, Nat.one_ne_zero]
theorem s168 (hM : MC I A) (hW : WFs A) {s c h : Nat} (hs : s < nsN A) (hc : c < 64) (hh : h < 8) (hn : 6 < n) : f168 n 67 (nI s) (nI c) (nI h) (mW I L ru) = some (tI (plnN A s c h), mW I L ru) := by
  have h6 := ns6 hW
  rcases gol_ok hW hs with e | ⟨e1, e2, e3⟩
  · have e4 : plnN A s c h = 1 := if_pos e
    obtain ⟨k, rfl⟩ : ∃ k, n = k + 1 := ⟨n - 1, by omega⟩
    simp (config := { maxSteps := 2000000 }) (disch := omega) only [f168, f168_H9, ux_at, ux_kk, ux_jo, gIm, pIm, pZm, gRm, aIm, sIm, aBm, sBm, gLm, pLm, clm, wshS, obS, reduceIte, Nat.one_ne_zero, Nat.zero_ne_one, Nat.reduceEqDiff, not_true_eq_false, not_false_eq_true, Nat.le_refl, ng_le, ng_lt, ng_nle, ng_nlt, ng_eq, ng_eq2, Bool.false_eq_true, lit_nI, nI_add, pk_mul, nI_leI, nI_ltI, nI_eq, mcA hM, wfA hW, e, e4, tI_1, Nat.reduceLeDiff]
  · have e4 : plnN A s c h = best3 (fun k => -(offN A s c h k : Int)) := if_neg e3
    have o0 := offN_le hW hc e2 (s := s) (h := h) (k := 0)
    have o1 := offN_le hW hc e2 (s := s) (h := h) (k := 1)
    have o2 := offN_le hW hc e2 (s := s) (h := h) (k := 2)
    have st := fun (k i l : Nat) (b : Int32) (hi : i < 3) (hl : l < 1000) => l168 (n := n) (L := L) (ru := ru) hM hW hs hc hh e1 e2 (K := fun e w => some (e, w)) (k := k) (i := i) (l := l) (b := b) hi hl
    have t0 : toN 0 = 1 := rfl
    have t1 : toN 1 = 0 := rfl
    have t2 : toN 2 = 2 := rfl
    have s0 := st (n - 1) 0 0 (nI 0) (by decide) (by decide)
    simp only [t0, true_or, reduceIte, Nat.zero_add] at s0
    have s1 := st (n - 2) 1 (offN A s c h 1) (tI 1) (by decide) (by omega)
    simp only [t1, Nat.one_ne_zero, false_or, reduceIte, Nat.reduceAdd] at s1
    have s2 := st (n - 3) 2 (if offN A s c h 0 < offN A s c h 1 then offN A s c h 0 else offN A s c h 1) (if offN A s c h 0 < offN A s c h 1 then tI 0 else tI 1) (by decide) (by split <;> omega)
    simp only [t2, Nat.reduceEqDiff, false_or, Nat.reduceAdd] at s2
    rw [show n - 2 + 1 = n - 1 by omega] at s1
    rw [show n - 3 + 1 = n - 2 by omega] at s2
    rw [show n - 1 + 1 = n by omega] at s0
    have s3 : ∀ b l, f168_H9 n (fun e w => some (e, w)) (n - 3) 67 (nI s) (nI c) (nI h) b l (nI 3) (mW I L ru) = some (b, mW I L ru) := fun b l => by
      obtain ⟨k, hk⟩ : ∃ k, n - 3 = k + 1 := ⟨n - 4, by omega⟩
      rw [hk]
      simp (config := { maxSteps := 2000000 }) (disch := omega) only [f168_H9, ux_at, ux_kk, ux_jo, gIm, pIm, pZm, gRm, aIm, sIm, aBm, sBm, gLm, pLm, clm, wshS, obS, reduceIte, Nat.one_ne_zero, Nat.zero_ne_one, Nat.reduceEqDiff, not_true_eq_false, not_false_eq_true, Nat.le_refl, ng_le, ng_lt, ng_nle, ng_nlt, ng_eq, ng_eq2, Bool.false_eq_true, lit_nI, nI_add, pk_mul, nI_leI, nI_ltI, nI_eq, Nat.le_refl]
    refine (s0.trans (s1.trans (s2.trans (s3 _ _)))).trans ?_
    rw [e4]
    unfold best3
    have c1 : ((-(offN A s c h 1 : Int)) < -(offN A s c h 0 : Int)) = (offN A s c h 0 < offN A s c h 1) := propext (by omega)
    simp only [c1]
    by_cases d1 : offN A s c h 0 < offN A s c h 1
    · have c2 : ((-(offN A s c h 0 : Int)) < -(offN A s c h 2 : Int)) = (offN A s c h 2 < offN A s c h 0) := propext (by omega)
      simp only [d1, reduceIte, c2]
      by_cases d2 : offN A s c h 2 < offN A s c h 0
      · simp only [d2, reduceIte]
      · simp only [d2, reduceIte]
    · have c2 : ((-(offN A s c h 1 : Int)) < -(offN A s c h 2 : Int)) = (offN A s c h 2 < offN A s c h 1) := propext (by omega)
      simp only [d1, reduceIte, c2]
      by_cases d2 : offN A s c h 2 < offN A s c h 1
      · simp only [d2, reduceIte]
      · simp only [d2, reduceIte]
end
