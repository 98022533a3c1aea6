/-! THE REFERENCE'S READERS -/
def allN (A : St) : Nat := sumN (perN A) (nsN A)
theorem nI_cl {x : Int32} {n : Nat} (h : x = nI n) (hn : n < 2 ^ 31) : x.toNatClampNeg = n := by rw [h, nI_clamp hn]
theorem ns6 {A : St} (h : WFs A) : nsN A ≤ 6 := h.1.2
theorem allN_le {A : St} (h : WFs A) : allN A ≤ 54 := by
  have h1 := sumN_le (f := perN A) (c := 9) (n := nsN A) fun s hs => (h.2.2.2.2.2.1 s hs).2.2
  have := ns6 h
  unfold allN
  omega
theorem per_le {A : St} (h : WFs A) {s : Nat} (hs : s < nsN A) : 1 ≤ perN A s ∧ perN A s ≤ 9 := (h.2.2.2.2.2.1 s hs).2
theorem rk_le {A : St} (h : WFs A) {c : Nat} (hc : c < 64) : rkN A c ≤ 1 := (h.2.2.2.2.2.2.1 c hc).2
section
variable {I A : St} {L : Lt} {ru n : Nat}
theorem l50 (hM : MC I A) (hW : WFs A) {K : Int32 → Wd → Option (Int32 × Wd)} : ∀ k i, i ≤ nsN A → nsN A - i < k → f50_H4 n K k 67 (nI (sumN (perN A) i)) (nI i) (mW I L ru) = K (nI (allN A)) (mW I L ru) := by
  have h6 := ns6 hW
  refine lpE (F := fun k i s => f50_H4 n K k 67 s (nI i) (mW I L ru)) (J := fun i => nI (sumN (perN A) i)) (nsN A) ?_ ?_
  · intro k
    simp (config := { maxSteps := 2000000 }) (disch := omega) only [f50_H4, ux_at, ux_kk, ux_jo, gIm, pIm, pZm, gRm, aIm, sIm, aBm, sBm, gLm, pLm, clm, wshS, obS, reduceIte, mcA hM, wfA hW, Nat.one_ne_zero, Nat.zero_ne_one, Nat.reduceEqDiff, not_true_eq_false, not_false_eq_true, Nat.le_refl, ng_le, ng_lt, ng_nle, ng_nlt, ng_eq, ng_eq2, Bool.false_eq_true, lit_nI, nI_add, pk_mul, nI_leI, nI_ltI, nI_eq, Nat.le_refl, allN]
  · intro k i hi
    have hi2 : ¬ nsN A ≤ i := by omega
    simp (config := { maxSteps := 2000000 }) (disch := omega) only [f50_H4, ux_at, ux_kk, ux_jo, gIm, pIm, pZm, gRm, aIm, sIm, aBm, sBm, gLm, pLm, clm, wshS, obS, reduceIte, mcA hM, wfA hW, Nat.one_ne_zero, Nat.zero_ne_one, Nat.reduceEqDiff, not_true_eq_false, not_false_eq_true, Nat.le_refl, ng_le, ng_lt, ng_nle, ng_nlt, ng_eq, ng_eq2, Bool.false_eq_true, lit_nI, nI_add, pk_mul, nI_leI, nI_ltI, nI_eq, hi2, sumN]
theorem s50 (hM : MC I A) (hW : WFs A) (hn : 6 < n) : f50 n 67 (mW I L ru) = some (nI (allN A), mW I L ru) := by
  have h6 := ns6 hW
  exact l50 hM hW n 0 (Nat.zero_le _) (by omega)
/-- worth of a cell to a set -/
def wSet (A : St) (c m : Nat) : Int32 := sumI (fun s => if m.testBit s then A 69 s * A 74 (64 * s + c) else nI 0) (nsN A)
def pSet (A : St) (m : Nat) : Int32 := sumI (fun s => if m.testBit s then A 69 s else nI 0) (nsN A)
theorem s120 (hM : MC I A) (hW : WFs A) (hn : 6 < n) {c m : Nat} (hc : c < 64) (hm : m < 64) : f120 n 67 (nI c) (nI m) (mW I L ru) = some (wSet A c m, mW I L ru) := by
  have h6 := ns6 hW
  refine lpE (F := fun k i s => f120_H5 n (fun e w => some (e, w)) k 67 (nI c) (nI m) s (nI i) (mW I L ru)) (J := sumI (fun s => if m.testBit s then A 69 s * A 74 (64 * s + c) else nI 0)) (nsN A) ?_ ?_ n 0 (Nat.zero_le _) (by omega)
  · intro k
    simp (config := { maxSteps := 2000000 }) (disch := omega) only [f120_H5, ux_at, ux_kk, ux_jo, gIm, pIm, pZm, gRm, aIm, sIm, aBm, sBm, gLm, pLm, clm, wshS, obS, reduceIte, mcA hM, hW.1.1, Nat.one_ne_zero, Nat.zero_ne_one, Nat.reduceEqDiff, not_true_eq_false, not_false_eq_true, Nat.le_refl, ng_le, ng_lt, ng_nle, ng_nlt, ng_eq, ng_eq2, Bool.false_eq_true, lit_nI, nI_add, pk_mul, nI_leI, nI_ltI, nI_eq, Nat.le_refl, wSet]
  · intro k i hi
    have hi2 : ¬ nsN A ≤ i := by omega
    have hb : i < 6 := by omega
    by_cases h : m.testBit i
    · simp (config := { maxSteps := 2000000 }) (disch := omega) only [f120_H5, f120_J48, ux_at, ux_kk, ux_jo, gIm, pIm, pZm, gRm, aIm, sIm, aBm, sBm, gLm, pLm, clm, wshS, obS, reduceIte, mcA hM, hW.1.1, Nat.one_ne_zero, Nat.zero_ne_one, Nat.reduceEqDiff, not_true_eq_false, not_false_eq_true, Nat.le_refl, ng_le, ng_lt, ng_nle, ng_nlt, ng_eq, ng_eq2, Bool.false_eq_true, lit_nI, nI_add, pk_mul, nI_leI, nI_ltI, nI_eq, hi2, s45, bN, h, sumI, Nat.one_ne_zero]
    · simp (config := { maxSteps := 2000000 }) (disch := omega) only [f120_H5, f120_J48, ux_at, ux_kk, ux_jo, gIm, pIm, pZm, gRm, aIm, sIm, aBm, sBm, gLm, pLm, clm, wshS, obS, reduceIte, mcA hM, hW.1.1, Nat.one_ne_zero, Nat.zero_ne_one, Nat.reduceEqDiff, not_true_eq_false, not_false_eq_true, Nat.le_refl, ng_le, ng_lt, ng_nle, ng_nlt, ng_eq, ng_eq2, Bool.false_eq_true, lit_nI, nI_add, pk_mul, nI_leI, nI_ltI, nI_eq, hi2, s45, bN, h, sumI]
theorem s132 (hM : MC I A) (hW : WFs A) (hn : 6 < n) {m : Nat} (hm : m < 64) : f132 n 67 (nI m) (mW I L ru) = some (pSet A m, mW I L ru) := by
  have h6 := ns6 hW
  refine lpE (F := fun k i s => f132_H4 n (fun e w => some (e, w)) k 67 (nI m) s (nI i) (mW I L ru)) (J := sumI (fun s => if m.testBit s then A 69 s else nI 0)) (nsN A) ?_ ?_ n 0 (Nat.zero_le _) (by omega)
  · intro k
    simp (config := { maxSteps := 2000000 }) (disch := omega) only [f132_H4, ux_at, ux_kk, ux_jo, gIm, pIm, pZm, gRm, aIm, sIm, aBm, sBm, gLm, pLm, clm, wshS, obS, reduceIte, mcA hM, hW.1.1, Nat.one_ne_zero, Nat.zero_ne_one, Nat.reduceEqDiff, not_true_eq_false, not_false_eq_true, Nat.le_refl, ng_le, ng_lt, ng_nle, ng_nlt, ng_eq, ng_eq2, Bool.false_eq_true, lit_nI, nI_add, pk_mul, nI_leI, nI_ltI, nI_eq, Nat.le_refl, pSet]
  · intro k i hi
    have hi2 : ¬ nsN A ≤ i := by omega
    have hb : i < 6 := by omega
    by_cases h : m.testBit i
    · simp (config := { maxSteps := 2000000 }) (disch := omega) only [f132_H4, f132_J31, ux_at, ux_kk, ux_jo, gIm, pIm, pZm, gRm, aIm, sIm, aBm, sBm, gLm, pLm, clm, wshS, obS, reduceIte, mcA hM, hW.1.1, Nat.one_ne_zero, Nat.zero_ne_one, Nat.reduceEqDiff, not_true_eq_false, not_false_eq_true, Nat.le_refl, ng_le, ng_lt, ng_nle, ng_nlt, ng_eq, ng_eq2, Bool.false_eq_true, lit_nI, nI_add, pk_mul, nI_leI, nI_ltI, nI_eq, hi2, s45, bN, h, sumI, Nat.one_ne_zero]
    · simp (config := { maxSteps := 2000000 }) (disch := omega) only [f132_H4, f132_J31, ux_at, ux_kk, ux_jo, gIm, pIm, pZm, gRm, aIm, sIm, aBm, sBm, gLm, pLm, clm, wshS, obS, reduceIte, mcA hM, hW.1.1, Nat.one_ne_zero, Nat.zero_ne_one, Nat.reduceEqDiff, not_true_eq_false, not_false_eq_true, Nat.le_refl, ng_le, ng_lt, ng_nle, ng_nlt, ng_eq, ng_eq2, Bool.false_eq_true, lit_nI, nI_add, pk_mul, nI_leI, nI_ltI, nI_eq, hi2, s45, bN, h, sumI]
/-- where she is behind a turn in an hour -/
def stpN (A : St) (c h hour k : Nat) : Nat := if dEv A ≠ 0 ∧ (hour + 1) % dEv A = 0 ∧ rkN A (goN c (tuN h k)) = 0 then goN (goN c (tuN h k)) (dHd A) else goN c (tuN h k)
theorem drift_ok {A : St} (h : WFs A) : (A 67 4 = -1 ∧ dEv A = 0) ∨ (A 67 4 = nI (dEv A) ∧ A 67 3 = nI (dHd A) ∧ 1 ≤ dEv A ∧ dEv A ≤ 9 ∧ dHd A < 8) := by
  rcases h.2.2.2.1 with ⟨h1, -⟩ | h1
  · refine Or.inl ⟨h1, ?_⟩
    unfold dEv
    rw [h1]
    decide +kernel
  · exact Or.inr h1
theorem stpN_lt {A : St} (hW : WFs A) {c h hour k : Nat} (hc : c < 64) : stpN A c h hour k < 64 := by
  have h1 := goN_lt c hc _ (tuN_lt h k)
  unfold stpN
  split
  · rename_i hh
    rcases drift_ok hW with ⟨-, h2⟩ | h2
    · exact absurd h2 hh.1
    · exact goN_lt _ h1 _ h2.2.2.2.2
  · exact h1
theorem s166 (hM : MC I A) (hW : WFs A) {c h hour k : Nat} (hc : c < 64) (hh : h < 8) (ho : hour < 1000) (hk : k < 3) : f166 67 (nI c) (nI h) (nI hour) (tI k) (mW I L ru) = some (nI (stpN A c h hour k), mW I L ru) := by
  have h8 := tuN_lt h k
  have h1 := goN_lt c hc _ h8
  have hr := rk_le hW h1
  rcases drift_ok hW with ⟨e1, e2⟩ | ⟨e1, e2, e3, e4, e5⟩
  · simp (config := { maxSteps := 2000000 }) (disch := omega) only [f166, f166_J35, ux_at, ux_kk, ux_jo, gIm, pIm, pZm, gRm, aIm, sIm, aBm, sBm, gLm, pLm, clm, wshS, obS, reduceIte, mcA hM, wfA hW, s51, s123, e1, Nat.one_ne_zero, Nat.zero_ne_one, Nat.reduceEqDiff, not_true_eq_false, not_false_eq_true, Nat.le_refl, ng_le, ng_lt, ng_nle, ng_nlt, ng_eq, ng_eq2, Bool.false_eq_true, lit_nI, nI_add, pk_mul, nI_leI, nI_ltI, nI_eq, stpN, e2, ne_eq, not_true_eq_false, false_and]
  · have e6 : ¬ dEv A = 0 := by omega
    have e7 : ¬ dEv A ≤ 0 := by omega
    by_cases hd : (hour + 1) % dEv A = 0
    · by_cases hr2 : rkN A (goN c (tuN h k)) = 0
      · simp (config := { maxSteps := 2000000 }) (disch := omega) only [f166, f166_J35, ux_at, ux_kk, ux_jo, gIm, pIm, pZm, gRm, aIm, sIm, aBm, sBm, gLm, pLm, clm, wshS, obS, reduceIte, mcA hM, wfA hW, s51, s123, e1, e2, Nat.one_ne_zero, Nat.zero_ne_one, Nat.reduceEqDiff, not_true_eq_false, not_false_eq_true, Nat.le_refl, ng_le, ng_lt, ng_nle, ng_nlt, ng_eq, ng_eq2, Bool.false_eq_true, lit_nI, nI_add, pk_mul, nI_leI, nI_ltI, nI_eq, e6, e7, irm_nI, hd, hr2, stpN, ne_eq, not_false_eq_true, and_self, not_true_eq_false, Nat.one_ne_zero]
      · simp (config := { maxSteps := 2000000 }) (disch := omega) only [f166, f166_J35, ux_at, ux_kk, ux_jo, gIm, pIm, pZm, gRm, aIm, sIm, aBm, sBm, gLm, pLm, clm, wshS, obS, reduceIte, mcA hM, wfA hW, s51, s123, e1, e2, Nat.one_ne_zero, Nat.zero_ne_one, Nat.reduceEqDiff, not_true_eq_false, not_false_eq_true, Nat.le_refl, ng_le, ng_lt, ng_nle, ng_nlt, ng_eq, ng_eq2, Bool.false_eq_true, lit_nI, nI_add, pk_mul, nI_leI, nI_ltI, nI_eq, e6, e7, irm_nI, hd, hr2, stpN, ne_eq, not_false_eq_true, and_false, not_true_eq_false, Nat.one_ne_zero]
    · have hm : (hour + 1) % dEv A < dEv A := Nat.mod_lt _ (by omega)
      simp (config := { maxSteps := 2000000 }) (disch := omega) only [f166, f166_J35, ux_at, ux_kk, ux_jo, gIm, pIm, pZm, gRm, aIm, sIm, aBm, sBm, gLm, pLm, clm, wshS, obS, reduceIte, mcA hM, wfA hW, s51, s123, e1, e2, Nat.one_ne_zero, Nat.zero_ne_one, Nat.reduceEqDiff, not_true_eq_false, not_false_eq_true, Nat.le_refl, ng_le, ng_lt, ng_nle, ng_nlt, ng_eq, ng_eq2, Bool.false_eq_true, lit_nI, nI_add, pk_mul, nI_leI, nI_ltI, nI_eq, e6, e7, irm_nI, hd, stpN, ne_eq, not_false_eq_true, and_false, false_and]
end
