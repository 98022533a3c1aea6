/-! LOOKING AHEAD: the reference does it -/
section
variable {I A : St} {L : Lt} {ru n : Nat}
theorem l169a (hM : MC I A) {s Kk : Nat} (hs : s < 6) (hK : A 73 s = nI Kk) (hK4 : Kk ≤ 4) {c h : Int32} {K : Nat → Int32 → Int32 → Int32 → Int32 → Wd → Option (Int32 × Wd)} (hn : 5 < n) : f169_H6 n K n 67 (nI s) c h (nI 1) (nI 0) (mW I L ru) = K 67 (nI s) c h (nI (3 ^ Kk)) (mW I L ru) := by
  refine lpE (F := fun k i t => f169_H6 n K k 67 (nI s) c h t (nI i) (mW I L ru)) (J := fun i => nI (3 ^ i)) Kk ?_ ?_ n 0 (Nat.zero_le _) (by omega)
  · intro k
    simp (config := { maxSteps := 2000000 }) (disch := omega) only [f169_H6, ux_at, ux_kk, ux_jo, gIm, pIm, pZm, gRm, aIm, sIm, aBm, sBm, gLm, pLm, clm, wshS, obS, reduceIte, mcA hM, hK, Nat.one_ne_zero, Nat.zero_ne_one, Nat.reduceEqDiff, not_true_eq_false, not_false_eq_true, Nat.le_refl, ng_le, ng_lt, ng_nle, ng_nlt, ng_eq, ng_eq2, Bool.false_eq_true, lit_nI, nI_add, pk_mul, nI_leI, nI_ltI, nI_eq, Nat.le_refl]
  · intro k i hi
    have hi2 : ¬ Kk ≤ i := by omega
    simp (config := { maxSteps := 2000000 }) (disch := omega) only [f169_H6, ux_at, ux_kk, ux_jo, gIm, pIm, pZm, gRm, aIm, sIm, aBm, sBm, gLm, pLm, clm, wshS, obS, reduceIte, mcA hM, hK, Nat.one_ne_zero, Nat.zero_ne_one, Nat.reduceEqDiff, not_true_eq_false, not_false_eq_true, Nat.le_refl, ng_le, ng_lt, ng_nle, ng_nlt, ng_eq, ng_eq2, Bool.false_eq_true, lit_nI, nI_add, pk_mul, nI_leI, nI_ltI, nI_eq, hi2, Nat.pow_succ]
theorem l169b (hM : MC I A) (hW : WFs A) {s Kk c h row : Nat} (hs : s < nsN A) (hK : A 73 s = nI Kk) (hK4 : Kk ≤ 4) (hc : c < 64) (hh : h < 8) (hrow : row < 100) {rec22 : _} {K22 : _} {K35 : _} {c0 h0 rows best most : Int32} (hn : 5 < n) :
    f169_H61 n rec22 K22 K35 n 67 (nI s) c0 h0 rows best most (nI row) (nI (3 ^ Kk)) (nI c) (nI h) (nI 0) (nI 0) (mW I L ru) = K35 67 (nI s) c0 h0 rows best most (nI row) (iI (rowV A s Kk c h row)) (mW I L ru) := by
  have h6 := ns6 hW
  refine lpP (F := fun k i (t : Nat × Nat × Int) => f169_H61 n rec22 K22 K35 k 67 (nI s) c0 h0 rows best most (nI row) (nI (3 ^ (Kk - i))) (nI t.1) (nI t.2.1) (iI t.2.2) (nI i) (mW I L ru)) (P := fun x => x = K35 67 (nI s) c0 h0 rows best most (nI row) (iI (rowV A s Kk c h row)) (mW I L ru)) (J := fun i t => t.1 < 64 ∧ t.2.1 < 8 ∧ t.2.2 + rowV A s (Kk - i) t.1 t.2.1 row = rowV A s Kk c h row) Kk ?_ ?_ n 0 (c, h, 0) (Nat.zero_le _) (by omega) ⟨hc, hh, by show 0 + rowV A s (Kk - 0) c h row = _; rw [Nat.sub_zero, Int.zero_add]⟩
  · rintro k ⟨a, b, z⟩ ⟨-, -, h3⟩
    have h3 : z + rowV A s (Kk - Kk) a b row = rowV A s Kk c h row := h3
    rw [Nat.sub_self] at h3
    have h4 : z + 0 = rowV A s Kk c h row := h3
    rw [Int.add_zero] at h4
    simp (config := { maxSteps := 2000000 }) (disch := omega) only [f169_H61, ux_at, ux_kk, ux_jo, gIm, pIm, pZm, gRm, aIm, sIm, aBm, sBm, gLm, pLm, clm, wshS, obS, reduceIte, mcA hM, hK, Nat.one_ne_zero, Nat.zero_ne_one, Nat.reduceEqDiff, not_true_eq_false, not_false_eq_true, Nat.le_refl, ng_le, ng_lt, ng_nle, ng_nlt, ng_eq, ng_eq2, Bool.false_eq_true, lit_nI, nI_add, pk_mul, nI_leI, nI_ltI, nI_eq, Nat.le_refl, h4]
  · rintro k i ⟨a, b, z⟩ hi ⟨h1, h2, h3⟩ ih
    have h1 : a < 64 := h1
    have h2 : b < 8 := h2
    have h3 : z + rowV A s (Kk - i) a b row = rowV A s Kk c h row := h3
    obtain ⟨r, hr⟩ : ∃ r, Kk - i = r + 1 := ⟨Kk - i - 1, by omega⟩
    have hr2 : Kk - (i + 1) = r := by omega
    rw [hr] at h3
    have hi2 : ¬ Kk ≤ i := by omega
    have p0 : 0 < 3 ^ r := Nat.pow_pos (by decide)
    have p1 : 3 ^ r ≤ 81 := p3_le r (by omega)
    have p2 : 3 ^ (r + 1) = 3 ^ r * 3 := Nat.pow_succ _ _
    have p3 : 3 ^ r * 3 / 3 = 3 ^ r := Nat.mul_div_cancel _ (by decide)
    have p4 : ¬ 3 ^ r = 0 := by omega
    have q1 : row / 3 ^ r ≤ row := Nat.div_le_self _ _
    have d3 := toN_lt (row / 3 ^ r % 3)
    have k8 := tuN_lt b (toN (row / 3 ^ r % 3))
    have g1 := goN_lt a h1 _ k8
    have rk := rk_le hW h1
    simp only [hr2] at ih
    rcases one_or rk with e | e
    · have e1 : rowV A s (r + 1) a b row = wvZ A s (goN a (tuN b (toN (row / 3 ^ r % 3)))) + rowV A s r (goN a (tuN b (toN (row / 3 ^ r % 3)))) (tuN b (toN (row / 3 ^ r % 3))) row := rowV_1 (by omega)
      have ih2 := ih (goN a (tuN b (toN (row / 3 ^ r % 3))), tuN b (toN (row / 3 ^ r % 3)), z + wvZ A s (goN a (tuN b (toN (row / 3 ^ r % 3))))) ⟨g1, k8, (Int.add_assoc z _ _).trans (by rw [← h3, e1])⟩
      have w1 : A 74 (64 * s + goN a (tuN b (toN (row / 3 ^ r % 3)))) = iI (wvZ A s (goN a (tuN b (toN (row / 3 ^ r % 3))))) := (iI_self _).symm
      simp (config := { maxSteps := 2000000 }) (disch := omega) only [f169_H61, f169_J117, ux_at, ux_kk, ux_jo, gIm, pIm, pZm, gRm, aIm, sIm, aBm, sBm, gLm, pLm, clm, wshS, obS, reduceIte, mcA hM, wfA hW, hK, Nat.one_ne_zero, Nat.zero_ne_one, Nat.reduceEqDiff, not_true_eq_false, not_false_eq_true, Nat.le_refl, ng_le, ng_lt, ng_nle, ng_nlt, ng_eq, ng_eq2, Bool.false_eq_true, lit_nI, nI_add, pk_mul, nI_leI, nI_ltI, nI_eq, hi2, hr, p2, pk_div, p3, p4, not_false_eq_true, irm_nI, s52, s51, s123, e, w1, iI_add]
      exact ih2
    · have e1 : rowV A s (r + 1) a b row = wvZ A s a + rowV A s r a (tuN b (toN (row / 3 ^ r % 3))) row := by
        show wvZ A s (if rkN A a = 1 then a else _) + rowV A s r (if rkN A a = 1 then a else _) _ _ = _
        rw [if_pos e]
      have ih2 := ih (a, tuN b (toN (row / 3 ^ r % 3)), z + wvZ A s a) ⟨h1, k8, (Int.add_assoc z _ _).trans (by rw [← h3, e1])⟩
      have w1 : A 74 (64 * s + a) = iI (wvZ A s a) := (iI_self _).symm
      simp (config := { maxSteps := 2000000 }) (disch := omega) only [f169_H61, f169_J117, ux_at, ux_kk, ux_jo, gIm, pIm, pZm, gRm, aIm, sIm, aBm, sBm, gLm, pLm, clm, wshS, obS, reduceIte, mcA hM, wfA hW, hK, Nat.one_ne_zero, Nat.zero_ne_one, Nat.reduceEqDiff, not_true_eq_false, not_false_eq_true, Nat.le_refl, ng_le, ng_lt, ng_nle, ng_nlt, ng_eq, ng_eq2, Bool.false_eq_true, lit_nI, nI_add, pk_mul, nI_leI, nI_ltI, nI_eq, hi2, hr, p2, pk_div, p3, p4, not_false_eq_true, irm_nI, s52, s51, s123, e, w1, iI_add, Nat.one_ne_zero]
      exact ih2
theorem l169c (hM : MC I A) (hW : WFs A) {s Kk c h : Nat} (hs : s < nsN A) (hK : A 73 s = nI Kk) (hK4 : Kk ≤ 4) (hc : c < 64) (hh : h < 8) {K22 : Int32 → Int32 → Wd → Option (Int32 × Wd)} (hn : 100 < n) :
    ∃ b, b < 3 ^ Kk ∧ (∀ row, row < 3 ^ Kk → rowV A s Kk c h row ≤ rowV A s Kk c h b) ∧ (∀ row, row < b → rowV A s Kk c h row < rowV A s Kk c h b) ∧ f169_H38 n K22 n 67 (nI s) (nI c) (nI h) (nI (3 ^ Kk)) (nI 0) (nI 0) (nI 0) (mW I L ru) = K22 (nI (3 ^ Kk)) (nI b) (mW I L ru) := by
  have p0 : 0 < 3 ^ Kk := Nat.pow_pos (by decide)
  have p1 : 3 ^ Kk ≤ 81 := p3_le Kk (by omega)
  generalize hV : rowV A s Kk c h = V
  have hbd : ∀ row, -99 * (Kk : Int) ≤ V row ∧ V row ≤ 9 * (Kk : Int) := fun row => by rw [← hV]; exact rowV_bd hW hs Kk c h row hc
  rw [← iI_0]
  refine lpP (F := fun k i (t : Nat × Int) => f169_H38 n K22 k 67 (nI s) (nI c) (nI h) (nI (3 ^ Kk)) (nI t.1) (iI t.2) (nI i) (mW I L ru)) (P := fun x => ∃ b, b < 3 ^ Kk ∧ (∀ row, row < 3 ^ Kk → V row ≤ V b) ∧ (∀ row, row < b → V row < V b) ∧ x = K22 (nI (3 ^ Kk)) (nI b) (mW I L ru)) (J := fun i t => (i = 0 ∧ t = (0, 0)) ∨ (t.1 < i ∧ t.2 = V t.1 ∧ (∀ row, row < i → V row ≤ V t.1) ∧ ∀ row, row < t.1 → V row < V t.1)) (3 ^ Kk) ?_ ?_ n 0 (0, 0) (Nat.zero_le _) (by omega) (Or.inl ⟨rfl, rfl⟩)
  · rintro k ⟨b, z⟩ hJ
    rcases hJ with ⟨h0, -⟩ | ⟨h1, -, h2, h3⟩
    · omega
    · refine ⟨b, h1, h2, h3, ?_⟩
      simp (config := { maxSteps := 2000000 }) (disch := omega) only [f169_H38, ux_at, ux_kk, ux_jo, gIm, pIm, pZm, gRm, aIm, sIm, aBm, sBm, gLm, pLm, clm, wshS, obS, reduceIte, Nat.one_ne_zero, Nat.zero_ne_one, Nat.reduceEqDiff, not_true_eq_false, not_false_eq_true, Nat.le_refl, ng_le, ng_lt, ng_nle, ng_nlt, ng_eq, ng_eq2, Bool.false_eq_true, lit_nI, nI_add, pk_mul, nI_leI, nI_ltI, nI_eq, Nat.le_refl]
  · rintro k i ⟨b, z⟩ hi hJ ih
    have hi2 : ¬ 3 ^ Kk ≤ i := by omega
    have hx := fun {rec22 : _} {K22 : _} {K35 : _} {c0 h0 rows best most : Int32} => l169b (I := I) (L := L) (ru := ru) (n := n) (rec22 := rec22) (K22 := K22) (K35 := K35) (c0 := c0) (h0 := h0) (rows := rows) (best := best) (most := most) hM hW hs hK hK4 hc hh (show i < 100 by omega) (by omega)
    have b1 := hbd i
    rw [hV] at hx
    rcases hJ with ⟨h0, h9⟩ | ⟨h1, h4, h2, h3⟩
    · cases h9
      subst h0
      simp (config := { maxSteps := 2000000 }) (disch := omega) only [f169_H38, f169_J161, ux_at, ux_kk, ux_jo, gIm, pIm, pZm, gRm, aIm, sIm, aBm, sBm, gLm, pLm, clm, wshS, obS, reduceIte, Nat.one_ne_zero, Nat.zero_ne_one, Nat.reduceEqDiff, not_true_eq_false, not_false_eq_true, Nat.le_refl, ng_le, ng_lt, ng_nle, ng_nlt, ng_eq, ng_eq2, Bool.false_eq_true, lit_nI, nI_add, pk_mul, nI_leI, nI_ltI, nI_eq, hi2, hx]
      refine ih (0, V 0) (Or.inr ⟨by show 0 < 0 + 1; omega, rfl, fun row hr => ?_, fun row hr => absurd hr (Nat.not_lt_zero _)⟩)
      rw [show row = 0 by omega]
      exact Int.le_refl _
    · have h1 : b < i := h1
      have h4 : z = V b := h4
      have h2 : ∀ row, row < i → V row ≤ V b := h2
      have h3 : ∀ row, row < b → V row < V b := h3
      subst h4
      have b2 := hbd b
      have h0 : ¬ i = 0 := by omega
      by_cases hc2 : V i ≤ V b
      · have hc3 : iI (V i) ≤ iI (V b) := (iI_le (by omega) (by omega) (by omega) (by omega)).mpr hc2
        simp (config := { maxSteps := 2000000 }) (disch := omega) only [f169_H38, f169_J161, ux_at, ux_kk, ux_jo, gIm, pIm, pZm, gRm, aIm, sIm, aBm, sBm, gLm, pLm, clm, wshS, obS, reduceIte, Nat.one_ne_zero, Nat.zero_ne_one, Nat.reduceEqDiff, not_true_eq_false, not_false_eq_true, Nat.le_refl, ng_le, ng_lt, ng_nle, ng_nlt, ng_eq, ng_eq2, Bool.false_eq_true, lit_nI, nI_add, pk_mul, nI_leI, nI_ltI, nI_eq, hi2, hx, h0, hc3]
        refine ih (b, V b) (Or.inr ⟨by show b < i + 1; omega, rfl, fun row hr => ?_, h3⟩)
        by_cases e : row = i
        · rw [e]; exact hc2
        · exact h2 row (by omega)
      · have hc3 : ¬ iI (V i) ≤ iI (V b) := fun q => hc2 ((iI_le (by omega) (by omega) (by omega) (by omega)).mp q)
        simp (config := { maxSteps := 2000000 }) (disch := omega) only [f169_H38, f169_J161, ux_at, ux_kk, ux_jo, gIm, pIm, pZm, gRm, aIm, sIm, aBm, sBm, gLm, pLm, clm, wshS, obS, reduceIte, Nat.one_ne_zero, Nat.zero_ne_one, Nat.reduceEqDiff, not_true_eq_false, not_false_eq_true, Nat.le_refl, ng_le, ng_lt, ng_nle, ng_nlt, ng_eq, ng_eq2, Bool.false_eq_true, lit_nI, nI_add, pk_mul, nI_leI, nI_ltI, nI_eq, hi2, hx, h0, hc3]
        refine ih (i, V i) (Or.inr ⟨by show i < i + 1; omega, rfl, fun row hr => ?_, fun row hr => ?_⟩)
        · show V row ≤ V i
          by_cases e : row = i
          · rw [e]; exact Int.le_refl _
          · have := h2 row (by omega)
            omega
        · have := h2 row hr
          show V row < V i
          omega
theorem s169 (hM : MC I A) (hW : WFs A) {s Kk c h : Nat} (hs : s < nsN A) (hK : A 73 s = nI (Kk + 1)) (hK4 : Kk < 4) (hc : c < 64) (hh : h < 8) (hr : rkN A c = 0) (hn : 100 < n) : f169 n 67 (nI s) (nI c) (nI h) (mW I L ru) = some (tI (ahdN A s Kk c h), mW I L ru) := by
  have h6 := ns6 hW
  obtain ⟨b, b1, b2, b3, e⟩ := l169c (n := n) (L := L) (ru := ru) hM hW hs hK (by omega) hc hh (K22 := fun e4 e5 w => (if ¬ (e4 / (3 : Int32)) = 0 then ob (f52 (e5 / (e4 / (3 : Int32))) w) (fun p35 => some (p35.1, p35.2)) else none)) hn
  have hf := row_first hW hs hK4 hc (by omega) b1 b2 b3
  have p0 : 0 < 3 ^ Kk := Nat.pow_pos (by decide)
  have p1 : 3 ^ Kk ≤ 81 := p3_le Kk (by omega)
  have p2 : 3 ^ (Kk + 1) = 3 ^ Kk * 3 := Nat.pow_succ _ _
  have p3 : 3 ^ Kk * 3 / 3 = 3 ^ Kk := Nat.mul_div_cancel _ (by decide)
  have p4 : ¬ 3 ^ Kk = 0 := by omega
  have hd : b / 3 ^ Kk < 3 := by
    rw [Nat.div_lt_iff_lt_mul p0, Nat.mul_comm, ← Nat.pow_succ]
    exact b1
  have hb : b < 300 := by omega
  unfold f169
  rw [show (1 : Int32) = nI 1 from rfl, show (0 : Int32) = nI 0 from rfl, l169a hM (by omega) hK (by omega) (by omega)]
  refine e.trans ?_
  simp (config := { maxSteps := 2000000 }) (disch := omega) only [ux_at, ux_kk, ux_jo, gIm, pIm, pZm, gRm, aIm, sIm, aBm, sBm, gLm, pLm, clm, wshS, obS, reduceIte, Nat.one_ne_zero, Nat.zero_ne_one, Nat.reduceEqDiff, not_true_eq_false, not_false_eq_true, Nat.le_refl, ng_le, ng_lt, ng_nle, ng_nlt, ng_eq, ng_eq2, Bool.false_eq_true, lit_nI, nI_add, pk_mul, nI_leI, nI_ltI, nI_eq, p2, pk_div, p3, p4, not_false_eq_true, s52, hf]
end
