/-! THE TURNS THAT A SET CAN BRING ABOUT: the reference's tryAll, mayTurn -/
theorem pI_s (u : Nat) : pI u + nI 1 = pI (u + 1) := by
  unfold pI
  rw [← nI_add]
  grind
theorem pI_gt2 : ∀ u, u < 6 → (nI 2 < pI u) = (u = 5) := by decide +kernel
theorem or_nI : ∀ a, a < 8 → ∀ k, k < 3 → nI a ||| nI (2 ^ k) = nI (a ||| 2 ^ k) := by decide +kernel
theorem or_lt8 : ∀ a, a < 8 → ∀ k, k < 3 → a ||| 2 ^ k < 8 := by decide +kernel
/-- presses, a set pressing u alike -/
def alkN (A : St) (m c h u : Nat) : Nat → Nat := pBN A m (fun s => if m.testBit s then u else tbcN A s c h)
def mskN (A : St) (ρ : Nat → Nat) (m c h hour : Nat) : Nat → Nat
  | 0 => 0
  | u + 1 => mskN A ρ m c h hour u ||| 2 ^ cntN A ρ (alkN A m c h u) hour
theorem mskN_lt (A : St) (ρ : Nat → Nat) (m c h hour : Nat) : ∀ u, mskN A ρ m c h hour u < 8
  | 0 => by show 0 < 8; decide
  | u + 1 => or_lt8 _ (mskN_lt A ρ m c h hour u) _ (cntN_lt _ _ _ _)
/-- the turns, as a set -/
def mayN (A : St) (ρ : Nat → Nat) (m hour c h : Nat) : Nat := if unN A c h (ρ 4) = 1 then 2 ^ ρ 3 else mskN A ρ m c h hour 5
theorem p2_lt8 : ∀ k, k < 3 → 2 ^ k < 8 := by decide
theorem mayN_lt {A : St} {ρ : Nat → Nat} (hR : RK ρ) (m hour c h : Nat) : mayN A ρ m hour c h < 8 := by
  unfold mayN
  split
  · exact p2_lt8 _ hR.2.2.2.1
  · exact mskN_lt _ _ _ _ _ _ _
section
variable {I A : St} {L : Lt} {ru n : Nat}
theorem l195 (hM : MC I A) (hW : WF A) (hT : TB I A) {m c h u : Nat} (hm : m < 64) (hc : c < 64) (hh : h < 8) (hr : rkN A c = 0) (hn : 6 < n) {rec4 : _} {K4 : _} {hour may : Int32} {K9 : Nat → Int32 → Int32 → Int32 → Int32 → Int32 → Int32 → Wd → Option (Int32 × Wd)} {P : Option (Int32 × Wd) → Prop}
    (hK : ∀ J, Fr [83] [] I J → (∀ s, s < nsN A → J 83 s = pI (if m.testBit s then u else tbcN A s c h)) → P (K9 67 (nI m) (nI c) (nI h) hour may (pI u) (mW J L ru))) : P (f195_H16 n rec4 K4 K9 n 67 (nI m) (nI c) (nI h) hour may (pI u) (nI 0) (mW I L ru)) := by
  have h6 := ns6 hW.1
  refine lpP (F := fun k i J => f195_H16 n rec4 K4 K9 k 67 (nI m) (nI c) (nI h) hour may (pI u) (nI i) (mW J L ru)) (P := P) (J := fun i J => Fr [83] [] I J ∧ ∀ s, s < i → J 83 s = pI (if m.testBit s then u else tbcN A s c h)) (nsN A) ?_ ?_ n 0 I (by omega) (by omega) ⟨Fr.rf, fun s hs => absurd hs (Nat.not_lt_zero _)⟩
  · intro k J hJ
    have hM2 := hM.fr hJ.1 (by decide) (by decide) (by decide)
    simp (config := { maxSteps := 2000000 }) (disch := omega) only [f195_H16, ux_at, ux_kk, ux_jo, gIm, pIm, pZm, gRm, aIm, sIm, aBm, sBm, gLm, pLm, clm, wshS, obS, reduceIte, Nat.one_ne_zero, Nat.zero_ne_one, Nat.reduceEqDiff, not_true_eq_false, not_false_eq_true, Nat.le_refl, ng_le, ng_lt, ng_nle, ng_nlt, ng_eq, ng_eq2, Bool.false_eq_true, lit_nI, nI_add, pk_mul, nI_leI, nI_ltI, nI_eq, mcA hM2, wfA hW.1]
    exact hK J hJ.1 hJ.2
  · intro k i J hi hJ ih
    have hM2 := hM.fr hJ.1 (by decide) (by decide) (by decide)
    have hi2 : ¬ nsN A ≤ i := by omega
    have t2 := TB.at (DN.fr hT hJ.1 (by decide)) hi hc hh hr
    have hst : ∀ v, v = pI (if m.testBit i then u else tbcN A i c h) → Fr [83] [] I (u2 J 83 i v) ∧ ∀ s, s < i + 1 → (u2 J 83 i v) 83 s = pI (if m.testBit s then u else tbcN A s c h) := fun v hv => by
      refine ⟨hJ.1.u (by decide), fun s hs => ?_⟩
      rw [ux_if]
      split
      · rename_i q
        rw [q, hv]
      · exact hJ.2 s (by omega)
    by_cases hb : m.testBit i
    · simp (config := { maxSteps := 2000000 }) (disch := omega) only [f195_H16, ux_at, ux_kk, ux_jo, gIm, pIm, pZm, gRm, aIm, sIm, aBm, sBm, gLm, pLm, clm, wshS, obS, reduceIte, Nat.one_ne_zero, Nat.zero_ne_one, Nat.reduceEqDiff, not_true_eq_false, not_false_eq_true, Nat.le_refl, ng_le, ng_lt, ng_nle, ng_nlt, ng_eq, ng_eq2, Bool.false_eq_true, lit_nI, nI_add, pk_mul, nI_leI, nI_ltI, nI_eq, mcA hM2, wfA hW.1, hi2, s45, bN, hb]
      exact ih _ (hst _ (by rw [if_pos hb]))
    · simp (config := { maxSteps := 2000000 }) (disch := omega) only [f195_H16, ux_at, ux_kk, ux_jo, gIm, pIm, pZm, gRm, aIm, sIm, aBm, sBm, gLm, pLm, clm, wshS, obS, reduceIte, Nat.one_ne_zero, Nat.zero_ne_one, Nat.reduceEqDiff, not_true_eq_false, not_false_eq_true, Nat.le_refl, ng_le, ng_lt, ng_nle, ng_nlt, ng_eq, ng_eq2, Bool.false_eq_true, lit_nI, nI_add, pk_mul, nI_leI, nI_ltI, nI_eq, mcA hM2, wfA hW.1, hi2, s45, bN, hb, t2]
      exact ih _ (hst _ (by rw [if_neg hb]))
theorem s195 (hM : MC I A) (hW : WF A) (hT : TB I A) {ρ : Nat → Nat} (hU : RU I ρ) (hR : RK ρ) {m c h hour : Nat} (hm : m < 64) (hc : c < 64) (hh : h < 8) (hr : rkN A c = 0) (ho : hour < 1000) (hn : 100 < n) :
    ∃ I', f195 n 67 (nI m) (nI c) (nI h) (nI hour) (mW I L ru) = some (nI (mskN A ρ m c h hour 5), mW I' L ru) ∧ Fr [83, 85] [45, 46, 47] I I' := by
  have p0 : (-2 : Int32) = pI 0 := by decide +kernel
  unfold f195
  rw [p0, show (0 : Int32) = nI 0 from rfl]
  refine lpP (F := fun k u (t : Nat × St) => f195_H7 n (fun e w => some (e, w)) k 67 (nI m) (nI c) (nI h) (nI hour) (nI t.1) (pI u) (mW t.2 L ru)) (P := fun x => ∃ I', x = some (nI (mskN A ρ m c h hour 5), mW I' L ru) ∧ Fr [83, 85] [45, 46, 47] I I') (J := fun u t => t.1 = mskN A ρ m c h hour u ∧ Fr [83, 85] [45, 46, 47] I t.2) 5 ?_ ?_ n 0 (0, I) (by omega) (by omega) ⟨rfl, Fr.rf⟩
  · rintro k ⟨x, J⟩ ⟨h1, h2⟩
    have h1 : x = mskN A ρ m c h hour 5 := h1
    simp (config := { maxSteps := 2000000 }) (disch := omega) only [f195_H7, ux_at, ux_kk, ux_jo, gIm, pIm, pZm, gRm, aIm, sIm, aBm, sBm, gLm, pLm, clm, wshS, obS, reduceIte, Nat.one_ne_zero, Nat.zero_ne_one, Nat.reduceEqDiff, not_true_eq_false, not_false_eq_true, Nat.le_refl, ng_le, ng_lt, ng_nle, ng_nlt, ng_eq, ng_eq2, Bool.false_eq_true, lit_nI, nI_add, pk_mul, nI_leI, nI_ltI, nI_eq, pI_gt2, h1]
    exact ⟨J, rfl, h2⟩
  · rintro k u ⟨x, J⟩ hu ⟨h1, h2⟩ ih
    have h1 : x = mskN A ρ m c h hour u := h1
    have h2 : Fr [83, 85] [45, 46, 47] I J := h2
    have hM2 := hM.fr h2 (by decide) (by decide) (by decide)
    have hU2 := hU.fr h2 (by decide) (by decide) (by decide) (by decide) (by decide) (by decide)
    have hu5 : ¬ u = 5 := by omega
    have hx8 : x < 8 := by rw [h1]; exact mskN_lt _ _ _ _ _ _ _
    simp (config := { maxSteps := 2000000 }) (disch := omega) only [f195_H7, ux_at, ux_kk, ux_jo, gIm, pIm, pZm, gRm, aIm, sIm, aBm, sBm, gLm, pLm, clm, wshS, obS, reduceIte, Nat.one_ne_zero, Nat.zero_ne_one, Nat.reduceEqDiff, not_true_eq_false, not_false_eq_true, Nat.le_refl, ng_le, ng_lt, ng_nle, ng_nlt, ng_eq, ng_eq2, Bool.false_eq_true, lit_nI, nI_add, pk_mul, nI_leI, nI_ltI, nI_eq, pI_gt2, hu5]
    refine l195 (P := fun x => ∃ I', x = some (nI (mskN A ρ m c h hour 5), mW I' L ru) ∧ Fr [83, 85] [45, 46, 47] I I') hM2 hW (DN.fr hT h2 (by decide)) hm hc hh hr (by omega) fun J1 f1 p1 => ?_
    have hM3 := hM2.fr f1 (by decide) (by decide) (by decide)
    have hP : PRS J1 A (fun s => if m.testBit s then u else tbcN A s c h) := fun s hs => ⟨p1 s hs, by
      show (if m.testBit s then u else tbcN A s c h) < 5
      split
      · exact hu
      · exact tbcN_lt hW.2 hs c h⟩
    obtain ⟨J2, e2, f2, r2⟩ := s124 (L := L) (ru := ru) hM3 hW hP hm (show 6 < n by omega)
    have hM4 := hM3.fr f2 (by decide) (by decide) (by decide)
    have hU4 := (hU2.fr f1 (by decide) (by decide) (by decide) (by decide) (by decide) (by decide)).fr f2 (by decide) (by decide) (by decide) (by decide) (by decide) (by decide)
    obtain ⟨J3, f3, e3, e4⟩ := s171d (L := L) (ru := ru) hM4 hW hU4 hR r2 ho hn
    have hk := cntN_lt A ρ (pBN A m (fun s => if m.testBit s then u else tbcN A s c h)) hour
    have e5 : mskN A ρ m c h hour (u + 1) = x ||| 2 ^ cntN A ρ (pBN A m (fun s => if m.testBit s then u else tbcN A s c h)) hour := by rw [h1]; rfl
    simp (config := { maxSteps := 2000000 }) (disch := omega) only [ux_at, ux_kk, ux_jo, gIm, pIm, pZm, gRm, aIm, sIm, aBm, sBm, gLm, pLm, clm, wshS, obS, reduceIte, lit_nI, e2, e3, e4, tI_p1, shl_nI, or_nI, pI_s]
    refine ih (_, J3) ⟨e5.symm, h2.tr ((f1.mono (by decide) (by decide)).tr ((f2.mono (by decide) (by decide)).tr (f3.mono (by decide) (by decide))))⟩
theorem s205 (hM : MC I A) (hW : WF A) (hT : TB I A) {ρ : Nat → Nat} (hU : RU I ρ) (hR : RK ρ) {m c h hour : Nat} (hm : m < 64) (hc : c < 64) (hh : h < 8) (hr : rkN A c = 0) (ho : hour < 1000) (hn : 100 < n) :
    ∃ I', f205 n 67 (nI m) (nI c) (nI h) (nI hour) (mW I L ru) = some (nI (mayN A ρ m hour c h), mW I' L ru) ∧ Fr [83, 85] [45, 46, 47] I I' := by
  have e1 := s170 (L := L) (ru := ru) (n := n) hM hW.1 hU hR hc hh (by omega)
  have h3 := hR.2.2.2.1
  rcases one_or (unN_le hW.1 hc hh (ρ 4)) with u | u
  · obtain ⟨I', e2, f2⟩ := s195 (L := L) (ru := ru) hM hW hT hU hR hm hc hh hr ho hn
    refine ⟨I', ?_, f2⟩
    simp (config := { maxSteps := 2000000 }) (disch := omega) only [f205, ux_at, ux_kk, ux_jo, gIm, pIm, pZm, gRm, aIm, sIm, aBm, sBm, gLm, pLm, clm, wshS, obS, reduceIte, Nat.one_ne_zero, Nat.zero_ne_one, Nat.reduceEqDiff, not_true_eq_false, not_false_eq_true, Nat.le_refl, ng_le, ng_lt, ng_nle, ng_nlt, ng_eq, ng_eq2, Bool.false_eq_true, lit_nI, nI_add, pk_mul, nI_leI, nI_ltI, nI_eq, e1, u, e2, mayN]
  · refine ⟨I, ?_, Fr.rf⟩
    simp (config := { maxSteps := 2000000 }) (disch := omega) only [f205, ux_at, ux_kk, ux_jo, gIm, pIm, pZm, gRm, aIm, sIm, aBm, sBm, gLm, pLm, clm, wshS, obS, reduceIte, Nat.one_ne_zero, Nat.zero_ne_one, Nat.reduceEqDiff, not_true_eq_false, not_false_eq_true, Nat.le_refl, ng_le, ng_lt, ng_nle, ng_nlt, ng_eq, ng_eq2, Bool.false_eq_true, lit_nI, nI_add, pk_mul, nI_leI, nI_ltI, nI_eq, e1, u, hU.2.2.2.1, tI_p1, shl_nI, mayN]
end
