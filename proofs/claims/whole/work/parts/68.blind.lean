/-! COUNTING, 4: the reference's decided, pressBlind -/
def WF (A : St) : Prop := WFs A ∧ WFr A
theorem way_of {w v : Int32} (h : wayOk w v) : w = nI w.toNatClampNeg ∧ w.toNatClampNeg ≤ 4 := by
  rcases h with ⟨rfl, -⟩ | ⟨rfl, -⟩ | ⟨rfl, -⟩ | ⟨rfl, -⟩ | ⟨rfl, -⟩ <;> decide +kernel
theorem way_nI {A : St} (h : WFr A) {s : Nat} (hs : s < nsN A) : A 72 s = nI (wayN A s) ∧ wayN A s ≤ 4 := way_of (h.1 s hs)
/-- blind, though not of a set that sees -/
def blD (A : St) (m s : Nat) : Bool := (wayN A s == 3) && !(m.testBit s)
def c3N (A : St) (m : Nat) (p : Nat → Nat) (d i : Nat) : Nat := sumN (fun s => if blD A m s then 0 else if sdN (p s) = d then perN A s else 0) i
/-- presses with the blind ones' -/
def pBN (A : St) (m : Nat) (p : Nat → Nat) (s : Nat) : Nat := if blD A m s then mostN (c3N A m p 0 (nsN A)) (c3N A m p 1 (nsN A)) (c3N A m p 2 (nsN A)) + 1 else p s
section
variable {I A : St} {L : Lt} {ru n : Nat}
theorem c3N_le (hW : WFs A) {m : Nat} {p : Nat → Nat} {d i : Nat} (hi : i ≤ nsN A) : c3N A m p d i ≤ 54 := by
  have h := sumN_le (f := fun s => if blD A m s then 0 else if sdN (p s) = d then perN A s else 0) (c := 9) (n := i) fun s hs => by
    have := (per_le hW (show s < nsN A by omega)).2
    show (if _ then _ else _) ≤ 9
    split
    · omega
    · split <;> omega
  have := ns6 hW
  unfold c3N
  omega
theorem s172 {b k nd tp : Nat} {E : Tl} (hR : RT I b E) (h5 : ∀ e, e ∈ E → e.2.1 < 5) (hN : tnN E < 1000) (h39 : I 67 39 = nI k) (hk : k < 4) (h40 : I 67 40 = nI nd) (hnd : nd < 1000) (h47 : I 67 47 = pI tp) (htp : tp < 5) (hn : 6 < n) : f172 n 67 (mW I L ru) = some (tI (decN k nd b E tp), mW I L ru) := by
  have q0 := hR.1 0 (by decide)
  have q1 := hR.1 1 (by decide)
  have q2 := hR.1 2 (by decide)
  have q3 := hR.1 3 (by decide)
  have q4 := hR.1 4 (by decide)
  have eN : tnN E = tqN 0 E + tqN 1 E + tqN 2 E + (tqN 3 E + tqN 4 E) := rfl
  have eS : nI (2 * tqN 4 E + tqN 3 E) - nI (tqN 1 E) - nI (2 * tqN 0 E) = tsI E := by rw [tsI_q E h5, pk_mul, nI_add, pk_mul]
  by_cases hz : tqN 0 E + tqN 1 E + tqN 2 E + (tqN 3 E + tqN 4 E) = 0
  · have e1 : decN k nd b E tp = 1 := if_pos (eN.trans hz)
    rw [e1]
    simp (config := { maxSteps := 2000000 }) (disch := omega) only [f172, ux_at, ux_kk, ux_jo, gIm, pIm, pZm, gRm, aIm, sIm, aBm, sBm, gLm, pLm, clm, wshS, obS, reduceIte, lit_nI, nI_add, q0, q1, q2, q3, q4, hz, nI_eq, not_true_eq_false, tI_1]
  · have hdec : decN k nd b E tp = if wntN k E tp = 0 then (if tlN E < nd ∨ tbrN b 2 E = 1 then 1 else 0) else if wntN k E tp = 2 then (if trN E < nd ∨ tbrN b 0 E = 1 then 1 else 2) else 1 := if_neg (by rw [eN]; exact hz)
    have key := s172b (L := L) (ru := ru) (n := n) (l := tlN E) (r := trN E) (k := wntN k E tp) (by unfold tlN; omega) (by unfold trN; omega) hnd (tbrN_le b 0 E) (tbrN_le b 2 E) (wntN_lt k E tp) h40 hR.2.1 hR.2.2
    rw [← hdec] at key
    refine Eq.trans ?_ key
    have hc : k = 0 ∨ k = 1 ∨ k = 2 ∨ k = 3 := by omega
    rcases hc with rfl | rfl | rfl | rfl
    · simp (config := { maxSteps := 2000000 }) (disch := omega) only [f172, ux_at, ux_kk, ux_jo, gIm, pIm, pZm, gRm, aIm, sIm, aBm, sBm, gLm, pLm, clm, wshS, obS, reduceIte, lit_nI, nI_add, q0, q1, q2, q3, q4, hz, nI_eq, not_true_eq_false, not_false_eq_true, h39, s53, wntN, tlN, trN]
    · have e := s128 (L := L) (ru := ru) (n := n) hR.1 rfl (by omega) (by omega) hn
      simp (config := { maxSteps := 2000000 }) (disch := omega) only [f172, ux_at, ux_kk, ux_jo, gIm, pIm, pZm, gRm, aIm, sIm, aBm, sBm, gLm, pLm, clm, wshS, obS, reduceIte, lit_nI, nI_add, q0, q1, q2, q3, q4, hz, nI_eq, not_true_eq_false, not_false_eq_true, h39, e, wntN, tlN, trN, Nat.one_ne_zero]
    · by_cases h0 : tsI E = nI 0
      · simp (config := { maxSteps := 2000000 }) (disch := omega) only [f172, ux_at, ux_kk, ux_jo, gIm, pIm, pZm, gRm, aIm, sIm, aBm, sBm, gLm, pLm, clm, wshS, obS, reduceIte, lit_nI, nI_add, pk_mul, q0, q1, q2, q3, q4, hz, nI_eq, not_true_eq_false, not_false_eq_true, h39, eS, h0, wntN, menN, tlN, trN, Nat.reduceEqDiff, tI_1]
      · have hz2 : ¬ 2 * (tqN 0 E + tqN 1 E + tqN 2 E + (tqN 3 E + tqN 4 E)) = 0 := by omega
        by_cases h1 : nI 0 < tsI E
        · have h2 : ¬ tsI E ≤ nI 0 := by rw [Int32.not_le]; exact h1
          simp (config := { maxSteps := 2000000 }) (disch := omega) only [f172, f172_J157, ux_at, ux_kk, ux_jo, gIm, pIm, pZm, gRm, aIm, sIm, aBm, sBm, gLm, pLm, clm, wshS, obS, reduceIte, lit_nI, nI_add, pk_mul, q0, q1, q2, q3, q4, hz, hz2, nI_eq, not_true_eq_false, not_false_eq_true, h39, eS, h0, h1, h2, wntN, menN, tlN, trN, tnN, Nat.reduceEqDiff, s56]
        · have h2 : tsI E ≤ nI 0 := by rw [← Int32.not_lt]; exact h1
          simp (config := { maxSteps := 2000000 }) (disch := omega) only [f172, f172_J157, ux_at, ux_kk, ux_jo, gIm, pIm, pZm, gRm, aIm, sIm, aBm, sBm, gLm, pLm, clm, wshS, obS, reduceIte, lit_nI, nI_add, pk_mul, q0, q1, q2, q3, q4, hz, hz2, nI_eq, not_true_eq_false, not_false_eq_true, h39, eS, h0, h1, h2, wntN, menN, tlN, trN, tnN, Nat.reduceEqDiff, s56]
    · simp (config := { maxSteps := 2000000 }) (disch := omega) only [f172, ux_at, ux_kk, ux_jo, gIm, pIm, pZm, gRm, aIm, sIm, aBm, sBm, gLm, pLm, clm, wshS, obS, reduceIte, lit_nI, nI_add, q0, q1, q2, q3, q4, hz, nI_eq, not_true_eq_false, not_false_eq_true, h39, h47, s56, sg_pI, wntN, tlN, trN, Nat.reduceEqDiff]
theorem l124a (hM : MC I A) (hW : WF A) {p : Nat → Nat} (hP : PRS I A p) {m : Nat} (hm : m < 64) {K : Nat → Int32 → Int32 → Int32 → Int32 → Wd → Option Wd} (hn : 6 < n) : f124_H10 n K n 67 (nI m) (nI 0) (nI 0) (nI 0) (nI 0) (mW I L ru) = K 67 (nI m) (nI (c3N A m p 0 (nsN A))) (nI (c3N A m p 1 (nsN A))) (nI (c3N A m p 2 (nsN A))) (mW I L ru) := by
  have h6 := ns6 hW.1
  refine lpE (F := fun k i (s : Int32 × Int32 × Int32) => f124_H10 n K k 67 (nI m) s.1 s.2.1 s.2.2 (nI i) (mW I L ru)) (J := fun i => (nI (c3N A m p 0 i), nI (c3N A m p 1 i), nI (c3N A m p 2 i))) (nsN A) ?_ ?_ n 0 (Nat.zero_le _) (by omega)
  · intro k
    simp (config := { maxSteps := 2000000 }) (disch := omega) only [f124_H10, ux_at, ux_kk, ux_jo, gIm, pIm, pZm, gRm, aIm, sIm, aBm, sBm, gLm, pLm, clm, wshS, obS, reduceIte, mcA hM, hW.1.1.1, Nat.one_ne_zero, Nat.zero_ne_one, Nat.reduceEqDiff, not_true_eq_false, not_false_eq_true, Nat.le_refl, ng_le, ng_lt, ng_nle, ng_nlt, ng_eq, ng_eq2, Bool.false_eq_true, lit_nI, nI_add, pk_mul, nI_leI, nI_ltI, nI_eq, Nat.le_refl]
  · intro k i hi
    have hi2 : ¬ nsN A ≤ i := by omega
    obtain ⟨e83, h5⟩ := hP i hi
    obtain ⟨w1, w2⟩ := way_nI hW.2 hi
    have c0 : ∀ d, c3N A m p d (i + 1) = c3N A m p d i + (if blD A m i then 0 else if sdN (p i) = d then perN A i else 0) := fun d => rfl
    have hs : p i < 2 ∨ p i = 2 ∨ 2 < p i := by omega
    by_cases h3 : wayN A i = 3
    · by_cases hb : m.testBit i
      · have b1 : blD A m i = false := by unfold blD; rw [hb]; simp
        rcases hs with h | h | h
        · have d0 : sdN (p i) = 0 := if_pos h
          have d1 : ¬ 2 ≤ p i := by omega
          have d2 : ¬ p i = 2 := by omega
          have d3 : p i ≤ 2 := by omega
          simp (config := { maxSteps := 2000000 }) (disch := omega) only [f124_H10, f124_J39, f124_J61, f124_J85, ux_at, ux_kk, ux_jo, gIm, pIm, pZm, gRm, aIm, sIm, aBm, sBm, gLm, pLm, clm, wshS, obS, reduceIte, mcA hM, wfA hW.1, Nat.one_ne_zero, Nat.zero_ne_one, Nat.reduceEqDiff, not_true_eq_false, not_false_eq_true, Nat.le_refl, ng_le, ng_lt, ng_nle, ng_nlt, ng_eq, ng_eq2, Bool.false_eq_true, lit_nI, nI_add, pk_mul, nI_leI, nI_ltI, nI_eq, hi2, w1, h3, s45, bN, hb, e83, c0, b1, d0, pI_0le, pI_le0, pI_eq0, d1, d2, d3, not_true_eq_false, not_false_eq_true, Nat.one_ne_zero, Nat.reduceEqDiff, Nat.zero_ne_one]
        · have d0 : sdN 2 = 1 := rfl
          simp (config := { maxSteps := 2000000 }) (disch := omega) only [f124_H10, f124_J39, f124_J61, f124_J85, ux_at, ux_kk, ux_jo, gIm, pIm, pZm, gRm, aIm, sIm, aBm, sBm, gLm, pLm, clm, wshS, obS, reduceIte, mcA hM, wfA hW.1, Nat.one_ne_zero, Nat.zero_ne_one, Nat.reduceEqDiff, not_true_eq_false, not_false_eq_true, Nat.le_refl, ng_le, ng_lt, ng_nle, ng_nlt, ng_eq, ng_eq2, Bool.false_eq_true, lit_nI, nI_add, pk_mul, nI_leI, nI_ltI, nI_eq, hi2, w1, h3, s45, bN, hb, e83, c0, b1, d0, pI_0le, pI_le0, pI_eq0, h, Nat.le_refl, not_true_eq_false, not_false_eq_true, Nat.one_ne_zero, Nat.reduceEqDiff]
        · have d0 : sdN (p i) = 2 := by unfold sdN; rw [if_neg (by omega), if_neg (by omega)]
          have d1 : 2 ≤ p i := by omega
          have d2 : ¬ p i = 2 := by omega
          have d3 : ¬ p i ≤ 2 := by omega
          simp (config := { maxSteps := 2000000 }) (disch := omega) only [f124_H10, f124_J39, f124_J61, f124_J85, ux_at, ux_kk, ux_jo, gIm, pIm, pZm, gRm, aIm, sIm, aBm, sBm, gLm, pLm, clm, wshS, obS, reduceIte, mcA hM, wfA hW.1, Nat.one_ne_zero, Nat.zero_ne_one, Nat.reduceEqDiff, not_true_eq_false, not_false_eq_true, Nat.le_refl, ng_le, ng_lt, ng_nle, ng_nlt, ng_eq, ng_eq2, Bool.false_eq_true, lit_nI, nI_add, pk_mul, nI_leI, nI_ltI, nI_eq, hi2, w1, h3, s45, bN, hb, e83, c0, b1, d0, pI_0le, pI_le0, pI_eq0, d1, d2, d3, not_true_eq_false, not_false_eq_true, Nat.one_ne_zero, Nat.reduceEqDiff]
      · have b1 : blD A m i = true := by unfold blD; rw [h3]; simp [hb]
        simp (config := { maxSteps := 2000000 }) (disch := omega) only [f124_H10, ux_at, ux_kk, ux_jo, gIm, pIm, pZm, gRm, aIm, sIm, aBm, sBm, gLm, pLm, clm, wshS, obS, reduceIte, mcA hM, wfA hW.1, Nat.one_ne_zero, Nat.zero_ne_one, Nat.reduceEqDiff, not_true_eq_false, not_false_eq_true, Nat.le_refl, ng_le, ng_lt, ng_nle, ng_nlt, ng_eq, ng_eq2, Bool.false_eq_true, lit_nI, nI_add, pk_mul, nI_leI, nI_ltI, nI_eq, hi2, w1, h3, s45, bN, hb, c0, b1, not_true_eq_false, Nat.add_zero]
    · have b1 : blD A m i = false := by unfold blD; simp [h3]
      rcases hs with h | h | h
      · have d0 : sdN (p i) = 0 := if_pos h
        have d1 : ¬ 2 ≤ p i := by omega
        have d2 : ¬ p i = 2 := by omega
        have d3 : p i ≤ 2 := by omega
        simp (config := { maxSteps := 2000000 }) (disch := omega) only [f124_H10, f124_J39, f124_J61, f124_J85, ux_at, ux_kk, ux_jo, gIm, pIm, pZm, gRm, aIm, sIm, aBm, sBm, gLm, pLm, clm, wshS, obS, reduceIte, mcA hM, wfA hW.1, Nat.one_ne_zero, Nat.zero_ne_one, Nat.reduceEqDiff, not_true_eq_false, not_false_eq_true, Nat.le_refl, ng_le, ng_lt, ng_nle, ng_nlt, ng_eq, ng_eq2, Bool.false_eq_true, lit_nI, nI_add, pk_mul, nI_leI, nI_ltI, nI_eq, hi2, w1, h3, e83, c0, b1, d0, pI_0le, pI_le0, pI_eq0, d1, d2, d3, not_true_eq_false, not_false_eq_true, Nat.one_ne_zero, Nat.reduceEqDiff, Nat.zero_ne_one]
      · have d0 : sdN 2 = 1 := rfl
        simp (config := { maxSteps := 2000000 }) (disch := omega) only [f124_H10, f124_J39, f124_J61, f124_J85, ux_at, ux_kk, ux_jo, gIm, pIm, pZm, gRm, aIm, sIm, aBm, sBm, gLm, pLm, clm, wshS, obS, reduceIte, mcA hM, wfA hW.1, Nat.one_ne_zero, Nat.zero_ne_one, Nat.reduceEqDiff, not_true_eq_false, not_false_eq_true, Nat.le_refl, ng_le, ng_lt, ng_nle, ng_nlt, ng_eq, ng_eq2, Bool.false_eq_true, lit_nI, nI_add, pk_mul, nI_leI, nI_ltI, nI_eq, hi2, w1, h3, e83, c0, b1, d0, pI_0le, pI_le0, pI_eq0, h, Nat.le_refl, not_true_eq_false, not_false_eq_true, Nat.one_ne_zero, Nat.reduceEqDiff]
      · have d0 : sdN (p i) = 2 := by unfold sdN; rw [if_neg (by omega), if_neg (by omega)]
        have d1 : 2 ≤ p i := by omega
        have d2 : ¬ p i = 2 := by omega
        have d3 : ¬ p i ≤ 2 := by omega
        simp (config := { maxSteps := 2000000 }) (disch := omega) only [f124_H10, f124_J39, f124_J61, f124_J85, ux_at, ux_kk, ux_jo, gIm, pIm, pZm, gRm, aIm, sIm, aBm, sBm, gLm, pLm, clm, wshS, obS, reduceIte, mcA hM, wfA hW.1, Nat.one_ne_zero, Nat.zero_ne_one, Nat.reduceEqDiff, not_true_eq_false, not_false_eq_true, Nat.le_refl, ng_le, ng_lt, ng_nle, ng_nlt, ng_eq, ng_eq2, Bool.false_eq_true, lit_nI, nI_add, pk_mul, nI_leI, nI_ltI, nI_eq, hi2, w1, h3, e83, c0, b1, d0, pI_0le, pI_le0, pI_eq0, d1, d2, d3, not_true_eq_false, not_false_eq_true, Nat.one_ne_zero, Nat.reduceEqDiff]
theorem s124 (hM : MC I A) (hW : WF A) {p : Nat → Nat} (hP : PRS I A p) {m : Nat} (hm : m < 64) (hn : 6 < n) : ∃ I', f124 n 67 (nI m) (mW I L ru) = some (mW I' L ru) ∧ Fr [83] [] I I' ∧ PRS I' A (pBN A m p) := by
  have h6 := ns6 hW.1
  unfold f124
  rw [show (0 : Int32) = nI 0 from rfl, l124a hM hW hP hm hn]
  generalize hl : c3N A m p 0 (nsN A) = l
  generalize hz : c3N A m p 1 (nsN A) = z
  generalize hr : c3N A m p 2 (nsN A) = r
  have l1 : l ≤ 54 := hl ▸ c3N_le hW.1 (Nat.le_refl _)
  have z1 : z ≤ 54 := hz ▸ c3N_le hW.1 (Nat.le_refl _)
  have r1 : r ≤ 54 := hr ▸ c3N_le hW.1 (Nat.le_refl _)
  have hk := mostN_lt l z r
  have hp : ∀ s, pBN A m p s = if blD A m s then mostN l z r + 1 else p s := fun s => by unfold pBN; rw [hl, hz, hr]
  refine lpP (F := fun k i J => f124_H122 n (fun w => some w) k 67 (nI m) (nI l) (nI z) (nI r) (nI i) (mW J L ru)) (P := fun x => ∃ I', x = some (mW I' L ru) ∧ Fr [83] [] I I' ∧ PRS I' A (pBN A m p)) (J := fun i J => Fr [83] [] I J ∧ ∀ s, s < nsN A → J 83 s = pI (if s < i then pBN A m p s else p s)) (nsN A) ?_ ?_ n 0 I (by omega) (by omega) ⟨Fr.rf, fun s hs => (hP s hs).1⟩
  · intro k J hJ
    have hM2 := hM.fr hJ.1 (by decide) (by decide) (by decide)
    simp (config := { maxSteps := 2000000 }) (disch := omega) only [f124_H122, ux_at, ux_kk, ux_jo, gIm, pIm, pZm, gRm, aIm, sIm, aBm, sBm, gLm, pLm, clm, wshS, obS, reduceIte, Nat.one_ne_zero, Nat.zero_ne_one, Nat.reduceEqDiff, not_true_eq_false, not_false_eq_true, Nat.le_refl, ng_le, ng_lt, ng_nle, ng_nlt, ng_eq, ng_eq2, Bool.false_eq_true, lit_nI, nI_add, pk_mul, nI_leI, nI_ltI, nI_eq, mcA hM2, hW.1.1.1, Nat.le_refl]
    refine ⟨_, rfl, hJ.1, fun s hs => ⟨by rw [hJ.2 s hs, if_pos hs], ?_⟩⟩
    rw [hp]
    split
    · omega
    · exact (hP s hs).2
  · intro k i J hi hJ ih
    have hM2 := hM.fr hJ.1 (by decide) (by decide) (by decide)
    have hi2 : ¬ nsN A ≤ i := by omega
    obtain ⟨w1, w2⟩ := way_nI hW.2 hi
    have hstay : blD A m i = false → (∀ s, s < nsN A → J 83 s = pI (if s < i + 1 then pBN A m p s else p s)) := fun hb s hs => by
      rw [hJ.2 s hs]
      by_cases e : s = i
      · subst e
        rw [if_neg (by omega), if_pos (by omega), hp, hb]
        rfl
      · by_cases h : s < i
        · rw [if_pos h, if_pos (by omega)]
        · rw [if_neg h, if_neg (by omega)]
    by_cases h3 : wayN A i = 3
    · by_cases hb : m.testBit i
      · have b1 : blD A m i = false := by unfold blD; rw [hb]; simp
        simp (config := { maxSteps := 2000000 }) (disch := omega) only [f124_H122, ux_at, ux_kk, ux_jo, gIm, pIm, pZm, gRm, aIm, sIm, aBm, sBm, gLm, pLm, clm, wshS, obS, reduceIte, mcA hM2, wfA hW.1, Nat.one_ne_zero, Nat.zero_ne_one, Nat.reduceEqDiff, not_true_eq_false, not_false_eq_true, Nat.le_refl, ng_le, ng_lt, ng_nle, ng_nlt, ng_eq, ng_eq2, Bool.false_eq_true, lit_nI, nI_add, pk_mul, nI_leI, nI_ltI, nI_eq, hi2, w1, h3, s45, bN, hb, not_true_eq_false, Nat.one_ne_zero, not_false_eq_true]
        exact ih _ ⟨hJ.1, hstay b1⟩
      · have b1 : blD A m i = true := by unfold blD; rw [h3]; simp [hb]
        simp (config := { maxSteps := 2000000 }) (disch := omega) only [f124_H122, ux_at, ux_kk, ux_jo, gIm, pIm, pZm, gRm, aIm, sIm, aBm, sBm, gLm, pLm, clm, wshS, obS, reduceIte, mcA hM2, wfA hW.1, Nat.one_ne_zero, Nat.zero_ne_one, Nat.reduceEqDiff, not_true_eq_false, not_false_eq_true, Nat.le_refl, ng_le, ng_lt, ng_nle, ng_nlt, ng_eq, ng_eq2, Bool.false_eq_true, lit_nI, nI_add, pk_mul, nI_leI, nI_ltI, nI_eq, hi2, w1, h3, s45, bN, hb, not_true_eq_false, s53]
        refine ih _ ⟨hJ.1.u (by decide), fun s hs => ?_⟩
        rw [ux_if]
        by_cases e : s = i
        · subst e
          rw [if_pos rfl, if_pos (by omega), hp, b1, pI_t]
          rfl
        · rw [if_neg e, hJ.2 s hs]
          by_cases h : s < i
          · rw [if_pos h, if_pos (by omega)]
          · rw [if_neg h, if_neg (by omega)]
    · have b1 : blD A m i = false := by unfold blD; simp [h3]
      simp (config := { maxSteps := 2000000 }) (disch := omega) only [f124_H122, ux_at, ux_kk, ux_jo, gIm, pIm, pZm, gRm, aIm, sIm, aBm, sBm, gLm, pLm, clm, wshS, obS, reduceIte, mcA hM2, wfA hW.1, Nat.one_ne_zero, Nat.zero_ne_one, Nat.reduceEqDiff, not_true_eq_false, not_false_eq_true, Nat.le_refl, ng_le, ng_lt, ng_nle, ng_nlt, ng_eq, ng_eq2, Bool.false_eq_true, lit_nI, nI_add, pk_mul, nI_leI, nI_ltI, nI_eq, hi2, w1, h3, not_false_eq_true]
      exact ih _ ⟨hJ.1, hstay b1⟩
end
