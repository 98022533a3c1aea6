/-! THE REFERENCE'S roundAt, valueOf -/
theorem iI_sub (a b : Int) : iI a - iI b = iI (a - b) := (Int32.ofInt_sub a b).symm
theorem iI_subN {t m : Nat} (h : m ≤ t) : iI ((t : Int) - (m : Int)) = nI (t - m) := by
  rw [← iI_nI]
  congr 1
  omega
theorem iI_neg {t m : Nat} (h : t < m) (hm : m < 2 ^ 30) : iI ((t : Int) - (m : Int)) < nI 0 := by
  rw [Int32.lt_iff_toInt_lt, iI_toInt (by omega) (by omega), nI_toInt (by decide)]
  omega
theorem latN_lt {g : Nat} {S : Sh} (h : ShOk S) : latN g S < 9 := by
  obtain ⟨-, -, h3, h4⟩ := h
  unfold latN
  split
  · omega
  · split <;> omega
section
variable {I A : St} {L : Lt} {ru n : Nat}
theorem l173 {g G t b : Nat} {S : Nat → Sh} {T : Nat → Nat} (hN : RN I A g S T G) (hg : g ≤ 2) (hO : ∀ t, ShOk (S t)) (hL : ∀ t, LtOk g (S t)) (hG : G ≤ 400) (ht : t ≤ G) (hb : 1 ≤ b) (hb2 : b ≤ 500) (hn : 500 < n) {rec5 : _} {K5 : _} {K16 : Nat → Int32 → Int32 → Wd → Option (Int32 × Wd)} {P : Option (Int32 × Wd) → Prop}
    (hno : (∀ j, ¬ RDat S b t j) → P (K16 67 (nI b) (nI t) (mW I L ru))) (hyes : ∀ j, RDat S b t j → (∀ i, i < j → ¬ RDat S b t i) → P (some (nI t, mW (u2 I 67 55 (nI (t - j * b))) L ru))) : P (f173_H26 n rec5 K5 K16 n 67 (nI b) (nI t) (nI t - nI b) (mW I L ru)) := by
  have hdm : t / b * b ≤ t := Nat.div_mul_le_self t b
  have hdm2 : t < t / b * b + b := by
    have := Nat.lt_div_mul_add (a := t) (b := b) (by omega)
    omega
  have hde : t / b ≤ t := Nat.div_le_self _ _
  have hst : nI t - nI b = iI ((t : Int) - ((0 * b + b : Nat) : Int)) := by
    rw [← iI_nI, ← iI_nI, iI_sub]
    congr 2
    omega
  rw [hst]
  obtain ⟨t1, t2, t3⟩ := hN.1 t ht
  obtain ⟨o1, o2, o3, o4⟩ := hO t
  refine lpP (F := fun k i (_ : Unit) => f173_H26 n rec5 K5 K16 k 67 (nI b) (nI t) (iI ((t : Int) - ((i * b + b : Nat) : Int))) (mW I L ru)) (P := P) (J := fun i _ => ∀ j, j ≤ i → ¬ RDat S b t j) (t / b) ?_ ?_ n 0 () (Nat.zero_le _) (by omega) (fun j hj q => ?_)
  · intro k _ hJ
    have hneg := iI_neg hdm2 (by omega)
    simp (config := { maxSteps := 2000000 }) (disch := omega) only [f173_H26, ux_at, ux_kk, ux_jo, gIm, pIm, pZm, gRm, aIm, sIm, aBm, sBm, gLm, pLm, clm, wshS, obS, reduceIte, lit_nI, hneg]
    refine hno fun j q => ?_
    by_cases e : j ≤ t / b
    · exact hJ j e q
    · have h1 := q.2.1
      have h2 : (t / b + 1) * b ≤ j * b := Nat.mul_le_mul_right _ (by omega)
      rw [Nat.add_mul, Nat.one_mul] at h2
      omega
  · intro k i _ hi hJ ih
    have h1 : (i + 1) * b ≤ t / b * b := Nat.mul_le_mul_right _ (by omega)
    have h0 : (i + 1) * b = i * b + b := by rw [Nat.add_mul, Nat.one_mul]
    have h2 : i * b + b ≤ t := by omega
    have hu : t - (i * b + b) ≤ G := by omega
    have hnx : nI (t - (i * b + b)) - nI b = iI ((t : Int) - (((i + 1) * b + b : Nat) : Int)) := by
      rw [← iI_nI, ← iI_nI, iI_sub]
      congr 1
      omega
    have hcont : ¬ S (t - (i * b + b)) = S t → P (f173_H26 n rec5 K5 K16 k 67 (nI b) (nI t) (iI ((t : Int) - (((i + 1) * b + b : Nat) : Int))) (mW I L ru)) := fun q => by
      refine ih () fun j hj z => ?_
      by_cases e : j = i + 1
      · have z2 := z.2.2
        rw [e, h0] at z2
        exact q z2
      · exact hJ j (by omega) z
    obtain ⟨u1, u2', u3⟩ := hN.1 _ hu
    obtain ⟨p1, p2, p3, p4⟩ := hO (t - (i * b + b))
    have hl1 : latN g (S (t - (i * b + b))) < 9 := latN_lt (hO _)
    have hl2 : latN g (S t) < 9 := latN_lt (hO _)
    have hge : ¬ nI (t - (i * b + b)) < nI 0 := by
      rw [nI_ltI (by omega) (by omega)]
      omega
    by_cases q1 : (S (t - (i * b + b))).1 = (S t).1
    · by_cases q2 : (S (t - (i * b + b))).2.1 = (S t).2.1
      · by_cases q3 : latN g (S (t - (i * b + b))) = latN g (S t)
        · have e : S (t - (i * b + b)) = S t := latN_inj hg (hL _) (hL _) (hO _) (hO _) q1 q2 q3
          have hfin := hyes (i + 1) ⟨by omega, by omega, by rw [h0]; exact e⟩ fun j hj => hJ j (by omega)
          rw [h0] at hfin
          simp (config := { maxSteps := 2000000 }) (disch := omega) only [f173_H26, ux_at, ux_kk, ux_jo, gIm, pIm, pZm, gRm, aIm, sIm, aBm, sBm, gLm, pLm, clm, wshS, obS, reduceIte, Nat.one_ne_zero, Nat.zero_ne_one, Nat.reduceEqDiff, not_true_eq_false, not_false_eq_true, Nat.le_refl, ng_le, ng_lt, ng_nle, ng_nlt, ng_eq, ng_eq2, Bool.false_eq_true, lit_nI, nI_add, pk_mul, nI_leI, nI_ltI, nI_eq, iI_subN h2, hge, Nat.not_lt_zero, u1, u2', u3, t1, t2, t3, q1, q2, q3]
          exact hfin
        · have := hcont fun e => q3 (by rw [e])
          simp (config := { maxSteps := 2000000 }) (disch := omega) only [f173_H26, f173_J82, ux_at, ux_kk, ux_jo, gIm, pIm, pZm, gRm, aIm, sIm, aBm, sBm, gLm, pLm, clm, wshS, obS, reduceIte, Nat.one_ne_zero, Nat.zero_ne_one, Nat.reduceEqDiff, not_true_eq_false, not_false_eq_true, Nat.le_refl, ng_le, ng_lt, ng_nle, ng_nlt, ng_eq, ng_eq2, Bool.false_eq_true, lit_nI, nI_add, pk_mul, nI_leI, nI_ltI, nI_eq, iI_subN h2, hge, Nat.not_lt_zero, u1, u2', u3, t1, t2, t3, q1, q2, q3, hnx]
          exact this
      · have := hcont fun e => q2 (by rw [e])
        simp (config := { maxSteps := 2000000 }) (disch := omega) only [f173_H26, f173_J82, ux_at, ux_kk, ux_jo, gIm, pIm, pZm, gRm, aIm, sIm, aBm, sBm, gLm, pLm, clm, wshS, obS, reduceIte, Nat.one_ne_zero, Nat.zero_ne_one, Nat.reduceEqDiff, not_true_eq_false, not_false_eq_true, Nat.le_refl, ng_le, ng_lt, ng_nle, ng_nlt, ng_eq, ng_eq2, Bool.false_eq_true, lit_nI, nI_add, pk_mul, nI_leI, nI_ltI, nI_eq, iI_subN h2, hge, Nat.not_lt_zero, u1, u2', u3, t1, t2, t3, q1, q2, hnx]
        exact this
    · have := hcont fun e => q1 (by rw [e])
      simp (config := { maxSteps := 2000000 }) (disch := omega) only [f173_H26, f173_J82, ux_at, ux_kk, ux_jo, gIm, pIm, pZm, gRm, aIm, sIm, aBm, sBm, gLm, pLm, clm, wshS, obS, reduceIte, Nat.one_ne_zero, Nat.zero_ne_one, Nat.reduceEqDiff, not_true_eq_false, not_false_eq_true, Nat.le_refl, ng_le, ng_lt, ng_nle, ng_nlt, ng_eq, ng_eq2, Bool.false_eq_true, lit_nI, nI_add, pk_mul, nI_leI, nI_ltI, nI_eq, iI_subN h2, hge, Nat.not_lt_zero, u1, u2', u3, t1, t2, t3, q1, hnx]
      exact this
  · have := q.1
    omega
/-- roundAt -/
theorem s173 (hM : MC I A) (hW : WFs A) {g G : Nat} {S : Nat → Sh} {T : Nat → Nat} (hN : RN I A g S T G) (hg : g ≤ 2) (hO : ∀ t, ShOk (S t)) (hL : ∀ t, LtOk g (S t)) (hG : G ≤ 400) (hns : ¬ (G ≠ 0 ∧ rkN A (S G).1 = 1)) (hn : 500 < n) :
    (RDn S (prdN A) G ∧ f173 n 67 (mW I L ru) = some (-nI 1, mW I L ru)) ∨ ∃ t j, RDy S (prdN A) G t j ∧ f173 n 67 (mW I L ru) = some (nI t, mW (u2 I 67 55 (nI (t - j * prdN A))) L ru) := by
  have hp1 := prdN_pos A
  have hp2 := prdN_le hW
  have e3 := hN.2.2.1
  have e4 := hN.2.2.2
  rw [if_neg hns] at e4
  simp (config := { maxSteps := 2000000 }) (disch := omega) only [f173, ux_at, ux_kk, ux_jo, gIm, pIm, pZm, gRm, aIm, sIm, aBm, sBm, gLm, pLm, clm, wshS, obS, reduceIte, s129 hM hW (show 6 < n by omega)]
  refine lpP (F := fun k t (_ : Unit) => f173_H7 n (fun w40 => some ((-1 : Int32), w40)) k 67 (nI (prdN A)) (nI t) (mW I L ru)) (P := fun x => (RDn S (prdN A) G ∧ x = some (-nI 1, mW I L ru)) ∨ ∃ t j, RDy S (prdN A) G t j ∧ x = some (nI t, mW (u2 I 67 55 (nI (t - j * prdN A))) L ru)) (J := fun t _ => ∀ u, u < t → ∀ j, ¬ RDat S (prdN A) u j) (G + 1) ?_ ?_ n 1 () (by omega) (by omega) (fun u hu j q => ?_)
  · intro k _ hJ
    have hlt : G < G + 1 := by omega
    simp (config := { maxSteps := 2000000 }) (disch := omega) only [f173_H7, ux_at, ux_kk, ux_jo, gIm, pIm, pZm, gRm, aIm, sIm, aBm, sBm, gLm, pLm, clm, wshS, obS, reduceIte, Nat.one_ne_zero, Nat.zero_ne_one, Nat.reduceEqDiff, not_true_eq_false, not_false_eq_true, Nat.le_refl, ng_le, ng_lt, ng_nle, ng_nlt, ng_eq, ng_eq2, Bool.false_eq_true, lit_nI, nI_add, pk_mul, nI_leI, nI_ltI, nI_eq, e3, hlt]
    exact Or.inl ⟨fun t ht => hJ t (by omega), trivial⟩
  · intro k t _ ht hJ ih
    have h1 : ¬ G < t := by omega
    simp (config := { maxSteps := 2000000 }) (disch := omega) only [f173_H7, ux_at, ux_kk, ux_jo, gIm, pIm, pZm, gRm, aIm, sIm, aBm, sBm, gLm, pLm, clm, wshS, obS, reduceIte, Nat.one_ne_zero, Nat.zero_ne_one, Nat.reduceEqDiff, not_true_eq_false, not_false_eq_true, Nat.le_refl, ng_le, ng_lt, ng_nle, ng_nlt, ng_eq, ng_eq2, Bool.false_eq_true, lit_nI, nI_add, pk_mul, nI_leI, nI_ltI, nI_eq, e3, e4, h1]
    refine l173 (P := fun x => (RDn S (prdN A) G ∧ x = some (-nI 1, mW I L ru)) ∨ ∃ t j, RDy S (prdN A) G t j ∧ x = some (nI t, mW (u2 I 67 55 (nI (t - j * prdN A))) L ru)) hN hg hO hL hG (by omega) hp1 (by omega) hn (fun hno => ?_) (fun j hj hmin => ?_)
    · simp (config := { maxSteps := 2000000 }) (disch := omega) only [Nat.one_ne_zero, Nat.zero_ne_one, Nat.reduceEqDiff, not_true_eq_false, not_false_eq_true, Nat.le_refl, ng_le, ng_lt, ng_nle, ng_nlt, ng_eq, ng_eq2, Bool.false_eq_true, lit_nI, nI_add, pk_mul, nI_leI, nI_ltI, nI_eq]
      refine ih () fun u hu => ?_
      by_cases e : u = t
      · rw [e]; exact hno
      · exact hJ u (by omega)
    · exact Or.inr ⟨t, j, ⟨by omega, hj, hJ, hmin⟩, rfl⟩
  · have h1 := q.1
    have h2 := q.2.1
    have h3 : 1 * prdN A ≤ j * prdN A := Nat.mul_le_mul_right _ h1
    omega
theorem s173s (hM : MC I A) (hW : WFs A) {g G : Nat} {S : Nat → Sh} {T : Nat → Nat} (hN : RN I A g S T G) (hG : G ≤ 400) (hs : G ≠ 0 ∧ rkN A (S G).1 = 1) (hn : 500 < n) : f173 n 67 (mW I L ru) = some (-nI 1, mW I L ru) := by
  have e3 := hN.2.2.1
  have e4 := hN.2.2.2
  rw [if_pos hs] at e4
  obtain ⟨k, rfl⟩ : ∃ k, n = k + 1 := ⟨n - 1, by omega⟩
  have h1 : ¬ G < 1 := by omega
  simp (config := { maxSteps := 2000000 }) (disch := omega) only [f173, f173_H7, ux_at, ux_kk, ux_jo, gIm, pIm, pZm, gRm, aIm, sIm, aBm, sBm, gLm, pLm, clm, wshS, obS, reduceIte, Nat.one_ne_zero, Nat.zero_ne_one, Nat.reduceEqDiff, not_true_eq_false, not_false_eq_true, Nat.le_refl, ng_le, ng_lt, ng_nle, ng_nlt, ng_eq, ng_eq2, Bool.false_eq_true, lit_nI, nI_add, pk_mul, nI_leI, nI_ltI, nI_eq, s129 hM hW (show 6 < k + 1 by omega), e3, e4, h1, Nat.zero_le]
/-- what an hour of a run is worth to a set -/
def vtI (A : St) (m : Nat) (S : Nat → Sh) (G t : Nat) : Int32 := if G < t then -nI 99 * pSet A m else if rkN A (S t).1 = 1 then -nI 99 * pSet A m else wSet A (S t).1 m
def valI (A : St) (m : Nat) (S : Nat → Sh) (G hours : Nat) : Int32 := sumI (fun i => vtI A m S G (i + 1)) hours
theorem l245 (hM : MC I A) (hW : WFs A) {g G m hours : Nat} {S : Nat → Sh} {T : Nat → Nat} (hN : RN I A g S T G) (hO : ∀ t, ShOk (S t)) (hm : m < 64) (hG : G ≤ 400) (hh : hours ≤ 400) (hn : 500 < n) : f245_H20 n (fun e w => some (e, w)) n 67 (nI m) (nI hours) (nI 0) (nI 1) (mW I L ru) = some (valI A m S G hours, mW I L ru) := by
  have e3 := hN.2.2.1
  refine lpE (F := fun k i s => f245_H20 n (fun e w => some (e, w)) k 67 (nI m) (nI hours) s (nI (i + 1)) (mW I L ru)) (J := sumI (fun i => vtI A m S G (i + 1))) hours ?_ ?_ n 0 (Nat.zero_le _) (by omega)
  · intro k
    have h1 : hours < hours + 1 := by omega
    simp (config := { maxSteps := 2000000 }) (disch := omega) only [f245_H20, ux_at, ux_kk, ux_jo, gIm, pIm, pZm, gRm, aIm, sIm, aBm, sBm, gLm, pLm, clm, wshS, obS, reduceIte, Nat.one_ne_zero, Nat.zero_ne_one, Nat.reduceEqDiff, not_true_eq_false, not_false_eq_true, Nat.le_refl, ng_le, ng_lt, ng_nle, ng_nlt, ng_eq, ng_eq2, Bool.false_eq_true, lit_nI, nI_add, pk_mul, nI_leI, nI_ltI, nI_eq, h1, valI]
  · intro k i hi
    have h1 : ¬ hours < i + 1 := by omega
    have hs : sumI (fun i => vtI A m S G (i + 1)) (i + 1) = sumI (fun i => vtI A m S G (i + 1)) i + vtI A m S G (i + 1) := rfl
    rw [hs]
    generalize sumI (fun i => vtI A m S G (i + 1)) i = z
    by_cases h2 : G < i + 1
    · simp (config := { maxSteps := 2000000 }) (disch := omega) only [f245_H20, f245_J52, f245_J75, ux_at, ux_kk, ux_jo, gIm, pIm, pZm, gRm, aIm, sIm, aBm, sBm, gLm, pLm, clm, wshS, obS, reduceIte, Nat.one_ne_zero, Nat.zero_ne_one, Nat.reduceEqDiff, not_true_eq_false, not_false_eq_true, Nat.le_refl, ng_le, ng_lt, ng_nle, ng_nlt, ng_eq, ng_eq2, Bool.false_eq_true, lit_nI, nI_add, pk_mul, nI_leI, nI_ltI, nI_eq, h1, e3, h2, s132 hM hW (show 6 < n by omega) hm, vtI]
    · obtain ⟨u1, -, -⟩ := hN.1 (i + 1) (by omega)
      have o1 := (hO (i + 1)).1
      rcases one_or (rk_le hW o1) with e | e
      · simp (config := { maxSteps := 2000000 }) (disch := omega) only [f245_H20, f245_J52, f245_J75, ux_at, ux_kk, ux_jo, gIm, pIm, pZm, gRm, aIm, sIm, aBm, sBm, gLm, pLm, clm, wshS, obS, reduceIte, Nat.one_ne_zero, Nat.zero_ne_one, Nat.reduceEqDiff, not_true_eq_false, not_false_eq_true, Nat.le_refl, ng_le, ng_lt, ng_nle, ng_nlt, ng_eq, ng_eq2, Bool.false_eq_true, lit_nI, nI_add, pk_mul, nI_leI, nI_ltI, nI_eq, mcA hM, wfA hW, h1, e3, h2, u1, e, s120 hM hW (show 6 < n by omega) o1 hm, vtI]
      · simp (config := { maxSteps := 2000000 }) (disch := omega) only [f245_H20, f245_J52, f245_J75, ux_at, ux_kk, ux_jo, gIm, pIm, pZm, gRm, aIm, sIm, aBm, sBm, gLm, pLm, clm, wshS, obS, reduceIte, Nat.one_ne_zero, Nat.zero_ne_one, Nat.reduceEqDiff, not_true_eq_false, not_false_eq_true, Nat.le_refl, ng_le, ng_lt, ng_nle, ng_nlt, ng_eq, ng_eq2, Bool.false_eq_true, lit_nI, nI_add, pk_mul, nI_leI, nI_ltI, nI_eq, mcA hM, wfA hW, h1, e3, h2, u1, e, s132 hM hW (show 6 < n by omega) hm, vtI]
/-- the run from her place -/
def shS (A : St) (ρ : Nat → Nat) (g : Nat) : Nat → Sh := rnS A ρ g (shN A) (hdN A)
theorem s245 (hM : MC I A) (hW : WF A) {f : Nat} (hC : CF f I A) {ρ : Nat → Nat} (hU : RU I ρ) (hR : RK ρ) {g m hours : Nat} (hg : g ≤ 2) (hm : m < 64) (hh : hours ≤ 400) (hn : 500 < n) :
    ∃ I', f245 n 67 (nI m) (nI hours) (nI g) (mW I L ru) = some (valI A m (shS A ρ g) (gonN A (shS A ρ g) hours) hours, mW I' L ru) ∧ Fr [82, 83, 85, 86, 87, 88, 89] [34, 45, 46, 47, 52, 53, 54] I I' ∧ CF f I' A := by
  have hs := hW.1.2.1.2
  have hd := hW.1.2.2.1.2
  obtain ⟨I1, e1, f1, c1, r1⟩ := s228 (L := L) (ru := ru) hM hW hC hU hR hg hs hd hW.1.2.2.2.2.2.2.2.1 hh hn
  have hM1 := hM.fr f1 (by decide) (by decide) (by decide)
  have e2 := l245 (L := L) (ru := ru) hM1 hW.1 r1 (fun t => rnS_ok hW.1 hR hs hd t) hm (Nat.le_trans (gonN_le _ _ _) hh) hh hn
  refine ⟨I1, ?_, f1, c1⟩
  simp (config := { maxSteps := 2000000 }) (disch := omega) only [f245, ux_at, ux_kk, ux_jo, gIm, pIm, pZm, gRm, aIm, sIm, aBm, sBm, gLm, pLm, clm, wshS, obS, reduceIte, Nat.one_ne_zero, Nat.zero_ne_one, Nat.reduceEqDiff, not_true_eq_false, not_false_eq_true, Nat.le_refl, ng_le, ng_lt, ng_nle, ng_nlt, ng_eq, ng_eq2, Bool.false_eq_true, lit_nI, nI_add, pk_mul, nI_leI, nI_ltI, nI_eq, mcA hM, wfA hW.1, e1]
  exact e2
end
