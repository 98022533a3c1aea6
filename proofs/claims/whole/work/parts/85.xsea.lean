/-! THE CLASS: its sea is the picture's; geometry, readers -/
/-- the sea's cells -/
def CS (I A : St) : Prop :=
  I 3 0 = nI (shN A) ∧ I 3 1 = nI (hdN A) ∧ I 3 3 = nI (dEv A) ∧ (dEv A ≠ 0 → I 3 2 = nI (dHd A)) ∧ I 3 4 = nI (lagN A) ∧ I 3 5 = nI (nsN A) ∧ I 3 6 = nI (allN A) ∧ I 3 7 = nI (sumN (rkN A) 64)
  ∧ (∀ s, s < nsN A → I 4 s = A 69 s) ∧ (∀ s, s < nsN A → I 5 s = A 70 s) ∧ (∀ s, s < nsN A → I 6 s = A 75 s) ∧ (∀ s c, s < nsN A → c < 64 → I (8 + s) c = A 74 (64 * s + c)) ∧ (∀ c, c < 64 → I 14 c = nI (rkN A c))
abbrev csK : List Nat := [3, 4, 5, 6, 8, 9, 10, 11, 12, 13, 14]
theorem csA {I A : St} (h : CS I A) : I 3 0 = nI (shN A) ∧ I 3 1 = nI (hdN A) ∧ I 3 3 = nI (dEv A) ∧ I 3 4 = nI (lagN A) ∧ I 3 5 = nI (nsN A) ∧ I 3 6 = nI (allN A) ∧ I 3 7 = nI (sumN (rkN A) 64) ∧ (∀ s, s < nsN A → I 4 s = A 69 s) ∧ (∀ s, s < nsN A → I 5 s = A 70 s) ∧ (∀ s, s < nsN A → I 6 s = A 75 s) ∧ (∀ s c, s < nsN A → c < 64 → I (8 + s) c = A 74 (64 * s + c)) ∧ (∀ c, c < 64 → I 14 c = nI (rkN A c)) :=
  ⟨h.1, h.2.1, h.2.2.1, h.2.2.2.2.1, h.2.2.2.2.2.1, h.2.2.2.2.2.2.1, h.2.2.2.2.2.2.2.1, h.2.2.2.2.2.2.2.2.1, h.2.2.2.2.2.2.2.2.2.1, h.2.2.2.2.2.2.2.2.2.2.1, h.2.2.2.2.2.2.2.2.2.2.2.1, h.2.2.2.2.2.2.2.2.2.2.2.2⟩
theorem CS.fr {I I' A : St} (hW : WFs A) (h : CS I A) {K F : List Nat} (f : Fr K F I I') (hK : ∀ k, k ∈ csK → k ∉ K) : CS I' A := by
  have hA := ns6 hW
  have e : ∀ k, k ∈ csK → I' k = I k := fun k hk => f.at (hK k hk) (fun q => by subst q; exact absurd hk (by decide))
  have r : ∀ s, s < 6 → I' (8 + s) = I (8 + s) := fun s hs => by
    have hh : s = 0 ∨ s = 1 ∨ s = 2 ∨ s = 3 ∨ s = 4 ∨ s = 5 := by omega
    rcases hh with rfl | rfl | rfl | rfl | rfl | rfl <;> exact e _ (by decide)
  have e3 := e 3 (by decide)
  obtain ⟨h1, h2, h3, h4, h5, h6, h7, h8, h9, h10, h11, h12, h13⟩ := h
  refine ⟨?_, ?_, ?_, ?_, ?_, ?_, ?_, ?_, fun s hs => ?_, fun s hs => ?_, fun s hs => ?_, fun s c hs hc => ?_, fun c hc => ?_⟩
  · rw [e3]; exact h1
  · rw [e3]; exact h2
  · rw [e3]; exact h3
  · rw [e3]; exact h4
  · rw [e3]; exact h5
  · rw [e3]; exact h6
  · rw [e3]; exact h7
  · rw [e3]; exact h8
  · rw [e 4 (by decide)]; exact h9 s hs
  · rw [e 5 (by decide)]; exact h10 s hs
  · rw [e 6 (by decide)]; exact h11 s hs
  · rw [r s (by omega)]; exact h12 s c hs hc
  · rw [e 14 (by decide)]; exact h13 c hc
/-! geometry -/
def trP (p k : Nat) : Nat := 8 * goN (p / 8) (tuN (p % 8) k) + tuN (p % 8) k
theorem x_cellOf {p : Nat} (hp : p < 1024) (w : Wd) : f20 (nI p) w = some (nI (p / 8), w) := by
  have e : nI p >>> ((3 : Int32) &&& 31) = nI (p / 2 ^ 3) := pk_shrN (by omega) _ 3 (by decide +kernel)
  show some (nI p >>> ((3 : Int32) &&& 31), w) = _
  rw [e]
theorem x_headingOf {p : Nat} (hp : p < 1024) (w : Wd) : f21 (nI p) w = some (nI (p % 8), w) := by
  have e : nI p &&& (7 : Int32) = nI (p % 2 ^ 3) := pk_andN (by omega) 3 (by decide +kernel)
  show some (nI p &&& (7 : Int32), w) = _
  rw [e]
theorem pu93 (a b : Int32) : PU (f93 a b) := by
  unfold f93 f93_J70 f93_J89 f20 f21
  simp only [obS]
  refine PU_obc fun x => PU_obc fun y => ?_
  repeat' first | refine PU_ite ?_ ?_ | exact PU_some _
theorem dec93 : ∀ p, p < 512 → ∀ k, k < 3 → (f93 (nI p) (tI k) W0).map (fun o => o.1) = some (nI (trP p k)) := by decide +kernel
theorem x_turnedP {p k : Nat} (hp : p < 512) (hk : k < 3) (w : Wd) : f93 (nI p) (tI k) w = some (nI (trP p k), w) := PU_val (pu93 _ _) (dec93 p hp k hk) w
theorem trP_ch {c h k : Nat} (hh : h < 8) : trP (8 * c + h) k = 8 * goN c (tuN h k) + tuN h k := by
  unfold trP
  rw [show (8 * c + h) / 8 = c by omega, show (8 * c + h) % 8 = h by omega]
theorem x_turned {c h k : Nat} (hc : c < 64) (hh : h < 8) (hk : k < 3) (w : Wd) : f93 (nI (8 * c + h)) (tI k) w = some (nI (8 * goN c (tuN h k) + tuN h k), w) := by
  rw [x_turnedP (by omega) hk, trP_ch hh]
theorem x_turned0 {c h : Nat} (hc : c < 64) (hh : h < 8) (w : Wd) : f93 (nI (8 * c + h)) (nI 0) w = some (nI (8 * goN c h + h), w) := by
  have e := x_turned hc hh (show 1 < 3 by decide) w
  have e2 : tuN h 1 = h := by unfold tuN; omega
  rw [tI_1, e2] at e
  exact e
theorem pu80 (a b : Int32) : PU (f80 a b) := by
  unfold f80
  exact PU_some _
theorem dec80 : ∀ a, a < 64 → ∀ b, b < 64 → (f80 (nI a) (nI b) W0).map (fun o => o.1) = some (nI (farN a b)) := by decide +kernel
theorem x_far {a b : Nat} (ha : a < 64) (hb : b < 64) (w : Wd) : f80 (nI a) (nI b) w = some (nI (farN a b), w) := PU_val (pu80 _ _) (dec80 a ha b hb) w
/-- a bit of a number below 2^31 -/
theorem s_lB : ∀ n, n < 32 → ((nI n &&& 31).toBitVec.smod 32).toNat = n := by decide +kernel
theorem x_holds {m k : Nat} (hm : m < 2 ^ 31) (hk : k < 31) (w : Wd) : f16 (nI m) (nI k) w = some (nI (bN m k), w) := by
  have e1 : nI m >>> (nI k &&& 31) = nI (m / 2 ^ k) := pk_shrN hm _ k (s_lB k (by omega))
  have e2 : nI (m / 2 ^ k) &&& (1 : Int32) = nI (m / 2 ^ k % 2 ^ 1) := pk_andN (Nat.lt_of_le_of_lt (Nat.div_le_self _ _) (by omega)) 1 (by decide +kernel)
  unfold f16 bN
  rw [e1, e2, Nat.testBit_eq_decide_div_mod_eq, Nat.pow_one]
  have h3 : m / 2 ^ k % 2 = 0 ∨ m / 2 ^ k % 2 = 1 := by omega
  rcases h3 with h | h <;> rw [h] <;> rfl
theorem x_noCell {j : Nat} (h : j < 64) (w : Wd) : f10 (nI j) w = some (nI 0, w) := by
  simp (config := { maxSteps := 2000000 }) (disch := omega) only [f10, Nat.one_ne_zero, Nat.zero_ne_one, Nat.reduceEqDiff, not_true_eq_false, not_false_eq_true, Nat.le_refl, ng_le, ng_lt, ng_nle, ng_nlt, ng_eq, ng_eq2, Bool.false_eq_true, lit_nI, nI_add, pk_mul, nI_leI, nI_ltI, nI_eq, Nat.not_lt_zero, h, reduceIte]
theorem x_noCello {x : Int32} (h : x < nI 0 ∨ nI 64 ≤ x) (w : Wd) : f10 x w = some (nI 1, w) := by
  unfold f10
  by_cases h2 : x < 0
  · rw [if_pos h2]; rfl
  · have h3 : ¬ x < 64 := by
      rcases h with h | h
      · exact absurd h h2
      · rw [Int32.not_lt]; exact h
    rw [if_neg h2, if_neg h3]; rfl
section
variable {I A : St} {L : Lt} {ru n : Nat}
theorem x_wrow {s c : Nat} (hs : s < 6) (hc : c < 64) : aldI (mW I L ru) (8 + s) (nI c) = some (I (8 + s) c) := aI_of (wthRS s hs) hc (by decide)
theorem x_isRock (hS : CS I A) (hW : WFs A) {c : Nat} (hc : c < 64) : f9 3 (nI c) (mW I L ru) = some (nI (rkN A c), mW I L ru) := by
  have hc2 : ¬ 64 ≤ c := by omega
  rcases one_or (rk_le hW hc) with e | e
  · simp (config := { maxSteps := 2000000 }) (disch := omega) only [f9, ux_at, ux_kk, ux_jo, gIx, pIx, pZx, gRx, aIx, sIx, aBx, sBx, lenx, clx, wshS, obS, reduceIte, Nat.one_ne_zero, Nat.zero_ne_one, Nat.reduceEqDiff, not_true_eq_false, not_false_eq_true, Nat.le_refl, ng_le, ng_lt, ng_nle, ng_nlt, ng_eq, ng_eq2, Bool.false_eq_true, lit_nI, nI_add, pk_mul, nI_leI, nI_ltI, nI_eq, csA hS, Nat.not_lt_zero, hc2, e]
  · simp (config := { maxSteps := 2000000 }) (disch := omega) only [f9, ux_at, ux_kk, ux_jo, gIx, pIx, pZx, gRx, aIx, sIx, aBx, sBx, lenx, clx, wshS, obS, reduceIte, Nat.one_ne_zero, Nat.zero_ne_one, Nat.reduceEqDiff, not_true_eq_false, not_false_eq_true, Nat.le_refl, ng_le, ng_lt, ng_nle, ng_nlt, ng_eq, ng_eq2, Bool.false_eq_true, lit_nI, nI_add, pk_mul, nI_leI, nI_ltI, nI_eq, csA hS, Nat.not_lt_zero, hc2, e]
theorem x_isSort (hS : CS I A) (hW : WFs A) {s : Nat} (hs : s < nsN A) : f12 3 (nI s) (mW I L ru) = some (nI 1, mW I L ru) := by
  have h6 := ns6 hW
  have h1 : ¬ nsN A ≤ s := by omega
  have h2 : ¬ 6 ≤ s := by omega
  simp (config := { maxSteps := 2000000 }) (disch := omega) only [f12, ux_at, ux_kk, ux_jo, gIx, pIx, pZx, gRx, aIx, sIx, aBx, sBx, lenx, clx, wshS, obS, reduceIte, Nat.one_ne_zero, Nat.zero_ne_one, Nat.reduceEqDiff, not_true_eq_false, not_false_eq_true, Nat.le_refl, ng_le, ng_lt, ng_nle, ng_nlt, ng_eq, ng_eq2, Bool.false_eq_true, lit_nI, nI_add, pk_mul, nI_leI, nI_ltI, nI_eq, csA hS, Nat.not_lt_zero, h1, h2]
theorem x_isSorto (hS : CS I A) (hW : WFs A) {s : Nat} (hs : nsN A ≤ s) (hs2 : s < 100) : f12 3 (nI s) (mW I L ru) = some (nI 0, mW I L ru) := by
  have h6 := ns6 hW
  simp (config := { maxSteps := 2000000 }) (disch := omega) only [f12, ux_at, ux_kk, ux_jo, gIx, pIx, pZx, gRx, aIx, sIx, aBx, sBx, lenx, clx, wshS, obS, reduceIte, Nat.one_ne_zero, Nat.zero_ne_one, Nat.reduceEqDiff, not_true_eq_false, not_false_eq_true, Nat.le_refl, ng_le, ng_lt, ng_nle, ng_nlt, ng_eq, ng_eq2, Bool.false_eq_true, lit_nI, nI_add, pk_mul, nI_leI, nI_ltI, nI_eq, csA hS, Nat.not_lt_zero, hs]
theorem x_personsOf (hS : CS I A) (hW : WFs A) {s : Nat} (hs : s < nsN A) : f84 3 (nI s) (mW I L ru) = some (A 69 s, mW I L ru) := by
  have h6 := ns6 hW
  simp (config := { maxSteps := 2000000 }) (disch := omega) only [f84, ux_at, ux_kk, ux_jo, gIx, pIx, pZx, gRx, aIx, sIx, aBx, sBx, lenx, clx, wshS, obS, reduceIte, Nat.one_ne_zero, Nat.zero_ne_one, Nat.reduceEqDiff, not_true_eq_false, not_false_eq_true, Nat.le_refl, ng_le, ng_lt, ng_nle, ng_nlt, ng_eq, ng_eq2, Bool.false_eq_true, lit_nI, nI_add, pk_mul, nI_leI, nI_ltI, nI_eq, x_isSort hS hW hs, csA hS]
theorem x_personsOfo (hS : CS I A) (hW : WFs A) {s : Nat} (hs : nsN A ≤ s) (hs2 : s < 100) : f84 3 (nI s) (mW I L ru) = some (nI 0, mW I L ru) := by
  have h6 := ns6 hW
  simp (config := { maxSteps := 2000000 }) (disch := omega) only [f84, ux_at, ux_kk, ux_jo, gIx, pIx, pZx, gRx, aIx, sIx, aBx, sBx, lenx, clx, wshS, obS, reduceIte, Nat.one_ne_zero, Nat.zero_ne_one, Nat.reduceEqDiff, not_true_eq_false, not_false_eq_true, Nat.le_refl, ng_le, ng_lt, ng_nle, ng_nlt, ng_eq, ng_eq2, Bool.false_eq_true, lit_nI, nI_add, pk_mul, nI_leI, nI_ltI, nI_eq, x_isSorto hS hW hs hs2]
theorem x_goalOf (hS : CS I A) (hW : WFs A) {s : Nat} (hs : s < nsN A) : f87 3 (nI s) (mW I L ru) = some (A 75 s, mW I L ru) := by
  have h6 := ns6 hW
  simp (config := { maxSteps := 2000000 }) (disch := omega) only [f87, ux_at, ux_kk, ux_jo, gIx, pIx, pZx, gRx, aIx, sIx, aBx, sBx, lenx, clx, wshS, obS, reduceIte, Nat.one_ne_zero, Nat.zero_ne_one, Nat.reduceEqDiff, not_true_eq_false, not_false_eq_true, Nat.le_refl, ng_le, ng_lt, ng_nle, ng_nlt, ng_eq, ng_eq2, Bool.false_eq_true, lit_nI, nI_add, pk_mul, nI_leI, nI_ltI, nI_eq, x_isSort hS hW hs, csA hS]
theorem x_fearOf (hS : CS I A) (hW : WFs A) {s : Nat} (hs : s < nsN A) : f86 3 (nI s) (mW I L ru) = some (A 70 s, mW I L ru) := by
  have h6 := ns6 hW
  simp (config := { maxSteps := 2000000 }) (disch := omega) only [f86, ux_at, ux_kk, ux_jo, gIx, pIx, pZx, gRx, aIx, sIx, aBx, sBx, lenx, clx, wshS, obS, reduceIte, Nat.one_ne_zero, Nat.zero_ne_one, Nat.reduceEqDiff, not_true_eq_false, not_false_eq_true, Nat.le_refl, ng_le, ng_lt, ng_nle, ng_nlt, ng_eq, ng_eq2, Bool.false_eq_true, lit_nI, nI_add, pk_mul, nI_leI, nI_ltI, nI_eq, x_isSort hS hW hs, csA hS]
theorem x_worthTo (hS : CS I A) (hW : WFs A) {s c : Nat} (hs : s < nsN A) (hc : c < 64) : f81 3 (nI s) (nI c) (mW I L ru) = some (A 74 (64 * s + c), mW I L ru) := by
  have h6 := ns6 hW
  simp (config := { maxSteps := 2000000 }) (disch := omega) only [f81, ux_at, ux_kk, ux_jo, gIx, pIx, pZx, gRx, aIx, sIx, aBx, sBx, lenx, clx, wshS, obS, reduceIte, Nat.one_ne_zero, Nat.zero_ne_one, Nat.reduceEqDiff, not_true_eq_false, not_false_eq_true, Nat.le_refl, ng_le, ng_lt, ng_nle, ng_nlt, ng_eq, ng_eq2, Bool.false_eq_true, lit_nI, nI_add, pk_mul, nI_leI, nI_ltI, nI_eq, x_isSort hS hW hs, x_noCell, wthR, x_wrow, csA hS]
theorem x_worthToSet (hS : CS I A) (hW : WFs A) {c m : Nat} (hc : c < 64) (hm : m < 64) (hn : 6 < n) : f143 n 3 (nI c) (nI m) (mW I L ru) = some (wSet A c m, mW I L ru) := by
  have h6 := ns6 hW
  refine lpE (F := fun k i s => f143_H5 n (fun e w => some (e, w)) k 3 (nI c) (nI m) s (nI i) (mW I L ru)) (J := sumI (fun s => if m.testBit s then A 69 s * A 74 (64 * s + c) else nI 0)) (nsN A) ?_ ?_ n 0 (Nat.zero_le _) (by omega)
  · intro k
    simp (config := { maxSteps := 2000000 }) (disch := omega) only [f143_H5, ux_at, ux_kk, ux_jo, gIx, pIx, pZx, gRx, aIx, sIx, aBx, sBx, lenx, clx, wshS, obS, reduceIte, Nat.one_ne_zero, Nat.zero_ne_one, Nat.reduceEqDiff, not_true_eq_false, not_false_eq_true, Nat.le_refl, ng_le, ng_lt, ng_nle, ng_nlt, ng_eq, ng_eq2, Bool.false_eq_true, lit_nI, nI_add, pk_mul, nI_leI, nI_ltI, nI_eq, csA hS, wSet]
  · intro k i hi
    have hi2 : ¬ nsN A ≤ i := by omega
    by_cases h : m.testBit i
    · simp (config := { maxSteps := 2000000 }) (disch := omega) only [f143_H5, ux_at, ux_kk, ux_jo, gIx, pIx, pZx, gRx, aIx, sIx, aBx, sBx, lenx, clx, wshS, obS, reduceIte, Nat.one_ne_zero, Nat.zero_ne_one, Nat.reduceEqDiff, not_true_eq_false, not_false_eq_true, Nat.le_refl, ng_le, ng_lt, ng_nle, ng_nlt, ng_eq, ng_eq2, Bool.false_eq_true, lit_nI, nI_add, pk_mul, nI_leI, nI_ltI, nI_eq, csA hS, hi2, x_holds, bN, h, sumI, x_personsOf hS hW hi, x_worthTo hS hW hi hc]
    · have z : ∀ y : Int32, y + nI 0 = y := fun y => Int32.add_zero y
      simp (config := { maxSteps := 2000000 }) (disch := omega) only [f143_H5, ux_at, ux_kk, ux_jo, gIx, pIx, pZx, gRx, aIx, sIx, aBx, sBx, lenx, clx, wshS, obS, reduceIte, Nat.one_ne_zero, Nat.zero_ne_one, Nat.reduceEqDiff, not_true_eq_false, not_false_eq_true, Nat.le_refl, ng_le, ng_lt, ng_nle, ng_nlt, ng_eq, ng_eq2, Bool.false_eq_true, lit_nI, nI_add, pk_mul, nI_leI, nI_ltI, nI_eq, csA hS, hi2, x_holds, bN, h, sumI, z]
theorem x_personsIn (hS : CS I A) (hW : WFs A) {m : Nat} (hm : m < 64) (hn : 6 < n) : f158 n 3 (nI m) (mW I L ru) = some (pSet A m, mW I L ru) := by
  have h6 := ns6 hW
  refine lpE (F := fun k i s => f158_H4 n (fun e w => some (e, w)) k 3 (nI m) s (nI i) (mW I L ru)) (J := sumI (fun s => if m.testBit s then A 69 s else nI 0)) (nsN A) ?_ ?_ n 0 (Nat.zero_le _) (by omega)
  · intro k
    simp (config := { maxSteps := 2000000 }) (disch := omega) only [f158_H4, ux_at, ux_kk, ux_jo, gIx, pIx, pZx, gRx, aIx, sIx, aBx, sBx, lenx, clx, wshS, obS, reduceIte, Nat.one_ne_zero, Nat.zero_ne_one, Nat.reduceEqDiff, not_true_eq_false, not_false_eq_true, Nat.le_refl, ng_le, ng_lt, ng_nle, ng_nlt, ng_eq, ng_eq2, Bool.false_eq_true, lit_nI, nI_add, pk_mul, nI_leI, nI_ltI, nI_eq, csA hS, pSet]
  · intro k i hi
    have hi2 : ¬ nsN A ≤ i := by omega
    by_cases h : m.testBit i
    · simp (config := { maxSteps := 2000000 }) (disch := omega) only [f158_H4, ux_at, ux_kk, ux_jo, gIx, pIx, pZx, gRx, aIx, sIx, aBx, sBx, lenx, clx, wshS, obS, reduceIte, Nat.one_ne_zero, Nat.zero_ne_one, Nat.reduceEqDiff, not_true_eq_false, not_false_eq_true, Nat.le_refl, ng_le, ng_lt, ng_nle, ng_nlt, ng_eq, ng_eq2, Bool.false_eq_true, lit_nI, nI_add, pk_mul, nI_leI, nI_ltI, nI_eq, csA hS, hi2, x_holds, bN, h, sumI, x_personsOf hS hW hi]
    · have z : ∀ y : Int32, y + nI 0 = y := fun y => Int32.add_zero y
      simp (config := { maxSteps := 2000000 }) (disch := omega) only [f158_H4, ux_at, ux_kk, ux_jo, gIx, pIx, pZx, gRx, aIx, sIx, aBx, sBx, lenx, clx, wshS, obS, reduceIte, Nat.one_ne_zero, Nat.zero_ne_one, Nat.reduceEqDiff, not_true_eq_false, not_false_eq_true, Nat.le_refl, ng_le, ng_lt, ng_nle, ng_nlt, ng_eq, ng_eq2, Bool.false_eq_true, lit_nI, nI_add, pk_mul, nI_leI, nI_ltI, nI_eq, csA hS, hi2, x_holds, bN, h, sumI, z]
theorem x_start (hS : CS I A) (hW : WFs A) : f30 3 (mW I L ru) = some (nI (8 * shN A + hdN A), mW I L ru) := by
  simp (config := { maxSteps := 2000000 }) (disch := omega) only [f30, ux_at, ux_kk, ux_jo, gIx, pIx, pZx, gRx, aIx, sIx, aBx, sBx, lenx, clx, wshS, obS, reduceIte, Nat.one_ne_zero, Nat.zero_ne_one, Nat.reduceEqDiff, not_true_eq_false, not_false_eq_true, Nat.le_refl, ng_le, ng_lt, ng_nle, ng_nlt, ng_eq, ng_eq2, Bool.false_eq_true, lit_nI, nI_add, pk_mul, nI_leI, nI_ltI, nI_eq, csA hS, Nat.mul_comm]
theorem x_period (hS : CS I A) (hW : WFs A) : f102 3 (mW I L ru) = some (nI (prdN A), mW I L ru) := by
  have ha := allN_le hW
  have hd : dEv A ≤ 9 := by
    rcases drift_ok hW with ⟨-, e⟩ | ⟨-, -, -, e, -⟩ <;> omega
  have e1 : (if 1 < allN A then nI (allN A) else nI 1) = nI (if allN A = 0 then 1 else allN A) := by
    by_cases h0 : allN A = 0
    · rw [if_neg (by omega), if_pos h0]
    · rw [if_neg h0]
      split
      · rfl
      · congr 1
        omega
  have e2 : (if 1 < dEv A then nI (dEv A) else nI 1) = nI (if dEv A = 0 then 1 else dEv A) := by
    by_cases h0 : dEv A = 0
    · rw [if_neg (by omega), if_pos h0]
    · rw [if_neg h0]
      split
      · rfl
      · congr 1
        omega
  simp (config := { maxSteps := 2000000 }) (disch := omega) only [f102, ux_at, ux_kk, ux_jo, gIx, pIx, pZx, gRx, aIx, sIx, aBx, sBx, lenx, clx, wshS, obS, reduceIte, Nat.one_ne_zero, Nat.zero_ne_one, Nat.reduceEqDiff, not_true_eq_false, not_false_eq_true, Nat.le_refl, ng_le, ng_lt, ng_nle, ng_nlt, ng_eq, ng_eq2, Bool.false_eq_true, lit_nI, nI_add, pk_mul, nI_leI, nI_ltI, nI_eq, csA hS, e1, e2, prdN]
theorem x_moved (hS : CS I A) (hW : WFs A) {c h hour k : Nat} (hc : c < 64) (hh : h < 8) (ho : hour < 1000) (hk : k < 3) : f145 3 (nI (8 * c + h)) (tI k) (nI hour) (mW I L ru) = some (nI (8 * stpN A c h hour k + tuN h k), mW I L ru) := by
  have h8 := tuN_lt h k
  have h1 := goN_lt c hc _ h8
  have d1 : (8 * goN c (tuN h k) + tuN h k) / 8 = goN c (tuN h k) := by omega
  have d2 : (8 * goN c (tuN h k) + tuN h k) % 8 = tuN h k := by omega
  rcases one_or (rk_le hW h1) with e | e
  · rcases drift_ok hW with ⟨e1, e2⟩ | ⟨e1, e2, e3, e4, e5⟩
    · simp (config := { maxSteps := 2000000 }) (disch := omega) only [f145, ux_at, ux_kk, ux_jo, gIx, pIx, pZx, gRx, aIx, sIx, aBx, sBx, lenx, clx, wshS, obS, reduceIte, Nat.one_ne_zero, Nat.zero_ne_one, Nat.reduceEqDiff, not_true_eq_false, not_false_eq_true, Nat.le_refl, ng_le, ng_lt, ng_nle, ng_nlt, ng_eq, ng_eq2, Bool.false_eq_true, lit_nI, nI_add, pk_mul, nI_leI, nI_ltI, nI_eq, x_turned, x_cellOf, d1, x_isRock hS hW h1, e, csA hS, e2, stpN, ne_eq, false_and]
    · have e6 : ¬ dEv A = 0 := by omega
      have e7 : ¬ dEv A ≤ 0 := by omega
      have e9 := hS.2.2.2.1 e6
      by_cases hd : (hour + 1) % dEv A = 0
      · have g1 := goN_lt _ h1 _ e5
        have d3 : (8 * goN (goN c (tuN h k)) (dHd A) + dHd A) / 8 = goN (goN c (tuN h k)) (dHd A) := by omega
        have d4 : goN c (tuN h k) * 8 = 8 * goN c (tuN h k) := Nat.mul_comm _ _
        have d5 : goN (goN c (tuN h k)) (dHd A) * 8 = 8 * goN (goN c (tuN h k)) (dHd A) := Nat.mul_comm _ _
        simp (config := { maxSteps := 2000000 }) (disch := omega) only [f145, ux_at, ux_kk, ux_jo, gIx, pIx, pZx, gRx, aIx, sIx, aBx, sBx, lenx, clx, wshS, obS, reduceIte, Nat.one_ne_zero, Nat.zero_ne_one, Nat.reduceEqDiff, not_true_eq_false, not_false_eq_true, Nat.le_refl, ng_le, ng_lt, ng_nle, ng_nlt, ng_eq, ng_eq2, Bool.false_eq_true, lit_nI, nI_add, pk_mul, nI_leI, nI_ltI, nI_eq, x_turned, x_cellOf, x_headingOf, d1, d2, x_isRock hS hW h1, e, csA hS, e9, e6, e7, irm_nI, hd, d4, x_turned0, d3, d5, stpN, ne_eq, and_self]
      · have hm : (hour + 1) % dEv A < dEv A := Nat.mod_lt _ (by omega)
        simp (config := { maxSteps := 2000000 }) (disch := omega) only [f145, ux_at, ux_kk, ux_jo, gIx, pIx, pZx, gRx, aIx, sIx, aBx, sBx, lenx, clx, wshS, obS, reduceIte, Nat.one_ne_zero, Nat.zero_ne_one, Nat.reduceEqDiff, not_true_eq_false, not_false_eq_true, Nat.le_refl, ng_le, ng_lt, ng_nle, ng_nlt, ng_eq, ng_eq2, Bool.false_eq_true, lit_nI, nI_add, pk_mul, nI_leI, nI_ltI, nI_eq, x_turned, x_cellOf, d1, x_isRock hS hW h1, e, csA hS, e6, e7, irm_nI, hd, stpN, ne_eq, and_false, false_and]
  · simp (config := { maxSteps := 2000000 }) (disch := omega) only [f145, ux_at, ux_kk, ux_jo, gIx, pIx, pZx, gRx, aIx, sIx, aBx, sBx, lenx, clx, wshS, obS, reduceIte, Nat.one_ne_zero, Nat.zero_ne_one, Nat.reduceEqDiff, not_true_eq_false, not_false_eq_true, Nat.le_refl, ng_le, ng_lt, ng_nle, ng_nlt, ng_eq, ng_eq2, Bool.false_eq_true, lit_nI, nI_add, pk_mul, nI_leI, nI_ltI, nI_eq, x_turned, x_cellOf, d1, x_isRock hS hW h1, e, stpN, and_false]
end
