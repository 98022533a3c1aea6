/-! LOOKING AHEAD: the best row of turns, and the best first turn -/
def wvZ (A : St) (s c : Nat) : Int := (A 74 (64 * s + c)).toInt
def fzZ (A : St) (s : Nat) (M : Nat → Nat → Int) (r c h k : Nat) : Int := if rkN A (goN c (tuN h k)) = 1 then -99 * ((r : Int) + 1) else wvZ A s (goN c (tuN h k)) + M (goN c (tuN h k)) (tuN h k)
/-- the most that r hours bring -/
def bvZ (A : St) (s : Nat) : Nat → Nat → Nat → Int
  | 0, _, _ => 0
  | r + 1, c, h => fzZ A s (bvZ A s r) r c h (best3 (fun k => fzZ A s (bvZ A s r) r c h k))
/-- the first turn of the best row of r + 1 -/
def ahdN (A : St) (s r c h : Nat) : Nat := best3 (fun k => fzZ A s (bvZ A s r) r c h k)
/-- what a row of r turns brings -/
def rowV (A : St) (s : Nat) : Nat → Nat → Nat → Nat → Int
  | 0, _, _, _ => 0
  | r + 1, c, h, row => wvZ A s (if rkN A c = 1 then c else goN c (tuN h (toN (row / 3 ^ r % 3)))) + rowV A s r (if rkN A c = 1 then c else goN c (tuN h (toN (row / 3 ^ r % 3)))) (tuN h (toN (row / 3 ^ r % 3))) row
theorem best3_max (f : Nat → Int) {k : Nat} (hk : k < 3) : f k ≤ f (best3 f) := by
  unfold best3
  by_cases h1 : f 1 < f 0
  · simp only [h1, reduceIte]
    by_cases h2 : f 0 < f 2
    · simp only [h2, reduceIte]
      rcases k3 hk with rfl | rfl | rfl <;> omega
    · simp only [h2, reduceIte]
      rcases k3 hk with rfl | rfl | rfl <;> omega
  · simp only [h1, reduceIte]
    by_cases h2 : f 1 < f 2
    · simp only [h2, reduceIte]
      rcases k3 hk with rfl | rfl | rfl <;> omega
    · simp only [h2, reduceIte]
      rcases k3 hk with rfl | rfl | rfl <;> omega
theorem best3_of {f : Nat → Int} {d : Nat} (hd : d < 3) (h1 : ∀ e, e < 3 → f (toN e) ≤ f (toN d)) (h2 : ∀ e, e < d → f (toN e) < f (toN d)) : toN d = best3 f := by
  have a0 := h1 0 (by decide)
  have a1 := h1 1 (by decide)
  have a2 := h1 2 (by decide)
  have t0 : toN 0 = 1 := rfl
  have t1 : toN 1 = 0 := rfl
  have t2 : toN 2 = 2 := rfl
  unfold best3
  rcases k3 hd with rfl | rfl | rfl
  · simp only [t0, t1, t2] at a0 a1 a2 ⊢
    have c1 : ¬ f 1 < f 0 := by omega
    have c2 : ¬ f 1 < f 2 := by omega
    simp only [c1, c2, reduceIte]
  · have b0 := h2 0 (by decide)
    simp only [t0, t1, t2] at a0 a1 a2 b0 ⊢
    have c1 : f 1 < f 0 := by omega
    have c2 : ¬ f 0 < f 2 := by omega
    simp only [c1, c2, reduceIte]
  · have b0 := h2 0 (by decide)
    have b1 := h2 1 (by decide)
    simp only [t0, t1, t2] at a0 a1 a2 b0 b1 ⊢
    by_cases c1 : f 1 < f 0
    · simp only [c1, b1, reduceIte]
    · simp only [c1, b0, reduceIte]
theorem dig_lo : ∀ r, r < 5 → ∀ d, d < 3 → ∀ t, t < 81 → ∀ i, i < r → (d * 3 ^ r + t) / 3 ^ i % 3 = t / 3 ^ i % 3 := by decide +kernel
theorem dig_hi : ∀ r, r < 5 → ∀ d, d < 3 → ∀ t, t < 3 ^ r → (d * 3 ^ r + t) / 3 ^ r % 3 = d := by decide +kernel
theorem toN_sur : ∀ k, k < 3 → ∃ d, d < 3 ∧ toN d = k := by decide +kernel
theorem p3_le : ∀ r, r < 5 → 3 ^ r ≤ 81 := by decide +kernel
section
variable {A : St} {s : Nat}
theorem wv_rock (hW : WFs A) (hs : s < nsN A) {c : Nat} (hc : c < 64) (h : rkN A c = 1) : wvZ A s c = -99 := by
  have h1 := (hW.2.2.2.2.2.2.2.2.1 s hs c hc).2.2 h
  unfold wvZ
  rw [h1]
  decide +kernel
theorem wv_bd (hW : WFs A) (hs : s < nsN A) {c : Nat} (hc : c < 64) : -99 ≤ wvZ A s c ∧ wvZ A s c ≤ 9 := by
  have h1 := hW.2.2.2.2.2.2.2.2.1 s hs c hc
  exact ⟨h1.1, h1.2.1⟩
theorem nx_lt {c h d : Nat} (hc : c < 64) : (if rkN A c = 1 then c else goN c (tuN h d)) < 64 := by
  split
  · exact hc
  · exact goN_lt c hc _ (tuN_lt h d)
theorem rowV_rock (hW : WFs A) (hs : s < nsN A) : ∀ r c h row, c < 64 → rkN A c = 1 → rowV A s r c h row = -99 * (r : Int)
  | 0, _, _, _, _, _ => rfl
  | r + 1, c, h, row, hc, hr => by
    have h1 : rowV A s (r + 1) c h row = wvZ A s c + rowV A s r c (tuN h (toN (row / 3 ^ r % 3))) row := by
      show wvZ A s (if rkN A c = 1 then c else _) + rowV A s r (if rkN A c = 1 then c else _) _ _ = _
      rw [if_pos hr]
    rw [h1, wv_rock hW hs hc hr, rowV_rock hW hs r c _ row hc hr]
    omega
theorem rowV_bd (hW : WFs A) (hs : s < nsN A) : ∀ (r c h row : Nat), c < 64 → -99 * (r : Int) ≤ rowV A s r c h row ∧ rowV A s r c h row ≤ 9 * (r : Int)
  | 0, _, _, _, _ => ⟨Int.le_refl _, Int.le_refl _⟩
  | r + 1, c, h, row, hc => by
    have h2 := nx_lt (A := A) (h := h) (d := toN (row / 3 ^ r % 3)) hc
    have h3 := wv_bd hW hs h2
    have h4 := rowV_bd hW hs r _ (tuN h (toN (row / 3 ^ r % 3))) row h2
    show -99 * ((r + 1 : Nat) : Int) ≤ wvZ A s _ + rowV A s r _ _ row ∧ wvZ A s _ + rowV A s r _ _ row ≤ _
    omega
theorem rowV_lo {R d t : Nat} (hR : R < 5) (hd : d < 3) (ht : t < 81) : ∀ r, r ≤ R → ∀ c h, rowV A s r c h (d * 3 ^ R + t) = rowV A s r c h t
  | 0, _, _, _ => rfl
  | r + 1, hr, c, h => by
    show wvZ A s (if rkN A c = 1 then c else goN c (tuN h (toN ((d * 3 ^ R + t) / 3 ^ r % 3)))) + rowV A s r (if rkN A c = 1 then c else goN c (tuN h (toN ((d * 3 ^ R + t) / 3 ^ r % 3)))) (tuN h (toN ((d * 3 ^ R + t) / 3 ^ r % 3))) (d * 3 ^ R + t) = _
    rw [dig_lo R hR d hd t ht r (by omega), rowV_lo hR hd ht r (by omega)]
    rfl
theorem rowV_1 {r c h row : Nat} (hr : ¬ rkN A c = 1) : rowV A s (r + 1) c h row = wvZ A s (goN c (tuN h (toN (row / 3 ^ r % 3)))) + rowV A s r (goN c (tuN h (toN (row / 3 ^ r % 3)))) (tuN h (toN (row / 3 ^ r % 3))) row := by
  show wvZ A s (if rkN A c = 1 then c else _) + rowV A s r (if rkN A c = 1 then c else _) _ _ = _
  rw [if_neg hr]
theorem rowV_le (hW : WFs A) (hs : s < nsN A) : ∀ r c h row, c < 64 → ¬ rkN A c = 1 → rowV A s r c h row ≤ bvZ A s r c h
  | 0, _, _, _, _, _ => Int.le_refl _
  | r + 1, c, h, row, hc, hr => by
    have hk := toN_lt (row / 3 ^ r % 3)
    have h2 := goN_lt c hc _ (tuN_lt h (toN (row / 3 ^ r % 3)))
    have hm : fzZ A s (bvZ A s r) r c h (toN (row / 3 ^ r % 3)) ≤ bvZ A s (r + 1) c h := best3_max (fun k => fzZ A s (bvZ A s r) r c h k) hk
    refine Int.le_trans ?_ hm
    rw [rowV_1 hr]
    unfold fzZ
    by_cases e : rkN A (goN c (tuN h (toN (row / 3 ^ r % 3)))) = 1
    · rw [if_pos e, wv_rock hW hs h2 e, rowV_rock hW hs r _ _ row h2 e]
      omega
    · rw [if_neg e]
      have := rowV_le hW hs r _ (tuN h (toN (row / 3 ^ r % 3))) row h2 e
      omega
theorem row_up (hW : WFs A) (hs : s < nsN A) {r c h row : Nat} (hc : c < 64) (hr : ¬ rkN A c = 1) : rowV A s (r + 1) c h row ≤ fzZ A s (bvZ A s r) r c h (toN (row / 3 ^ r % 3)) := by
  have h2 := goN_lt c hc _ (tuN_lt h (toN (row / 3 ^ r % 3)))
  rw [rowV_1 hr]
  unfold fzZ
  by_cases e : rkN A (goN c (tuN h (toN (row / 3 ^ r % 3)))) = 1
  · rw [if_pos e, wv_rock hW hs h2 e, rowV_rock hW hs r _ _ row h2 e]
    omega
  · rw [if_neg e]
    have := rowV_le hW hs r _ (tuN h (toN (row / 3 ^ r % 3))) row h2 e
    omega
theorem fz_ex (hW : WFs A) (hs : s < nsN A) {r c h d : Nat} (hr4 : r < 5) (hc : c < 64) (hr : ¬ rkN A c = 1) (hd : d < 3) (ih : ∀ c h, c < 64 → ¬ rkN A c = 1 → ∃ t, t < 3 ^ r ∧ rowV A s r c h t = bvZ A s r c h) : ∃ t, t < 3 ^ r ∧ rowV A s (r + 1) c h (d * 3 ^ r + t) = fzZ A s (bvZ A s r) r c h (toN d) := by
  have h2 := goN_lt c hc _ (tuN_lt h (toN d))
  by_cases e : rkN A (goN c (tuN h (toN d))) = 1
  · refine ⟨0, Nat.pow_pos (by decide), ?_⟩
    rw [rowV_1 hr, dig_hi r hr4 d hd 0 (Nat.pow_pos (by decide)), wv_rock hW hs h2 e, rowV_rock hW hs r _ _ _ h2 e]
    unfold fzZ
    rw [if_pos e]
    omega
  · obtain ⟨t, t1, t2⟩ := ih _ (tuN h (toN d)) h2 e
    have t3 := Nat.lt_of_lt_of_le t1 (p3_le r hr4)
    refine ⟨t, t1, ?_⟩
    rw [rowV_1 hr, dig_hi r hr4 d hd t t1, rowV_lo hr4 hd t3 r (Nat.le_refl _), t2]
    unfold fzZ
    rw [if_neg e]
theorem rowV_ex (hW : WFs A) (hs : s < nsN A) : ∀ r, r < 5 → ∀ c h, c < 64 → ¬ rkN A c = 1 → ∃ t, t < 3 ^ r ∧ rowV A s r c h t = bvZ A s r c h
  | 0, _, _, _, _, _ => ⟨0, by decide, rfl⟩
  | r + 1, h5, c, h, hc, hr => by
    obtain ⟨d, d1, d2⟩ := toN_sur _ (best3_lt (fun k => fzZ A s (bvZ A s r) r c h k))
    obtain ⟨t, t1, t2⟩ := fz_ex (h := h) hW hs (show r < 5 by omega) hc hr d1 (rowV_ex hW hs r (by omega))
    refine ⟨d * 3 ^ r + t, ?_, ?_⟩
    · rw [Nat.pow_succ]
      have : d * 3 ^ r ≤ 2 * 3 ^ r := Nat.mul_le_mul_right _ (by omega)
      omega
    · rw [t2, d2]
      rfl
/-- the first of the best rows begins with the best first turn -/
theorem row_first (hW : WFs A) (hs : s < nsN A) {r c h b : Nat} (hr4 : r < 4) (hc : c < 64) (hr : ¬ rkN A c = 1) (hb : b < 3 ^ (r + 1)) (h1 : ∀ row, row < 3 ^ (r + 1) → rowV A s (r + 1) c h row ≤ rowV A s (r + 1) c h b) (h2 : ∀ row, row < b → rowV A s (r + 1) c h row < rowV A s (r + 1) c h b) : toN (b / 3 ^ r) = ahdN A s r c h := by
  have hp : 0 < 3 ^ r := Nat.pow_pos (by decide)
  have hd : b / 3 ^ r < 3 := by
    rw [Nat.div_lt_iff_lt_mul hp, Nat.mul_comm, ← Nat.pow_succ]
    exact hb
  have hdm : b / 3 ^ r % 3 = b / 3 ^ r := Nat.mod_eq_of_lt hd
  have up := row_up (h := h) (row := b) hW hs hc hr (r := r)
  rw [hdm] at up
  refine best3_of hd (fun e he => ?_) (fun e he => ?_)
  · obtain ⟨t, t1, t2⟩ := fz_ex (h := h) hW hs (show r < 5 by omega) hc hr he (rowV_ex hW hs r (by omega))
    have h3 := h1 (e * 3 ^ r + t) (by
      rw [Nat.pow_succ]
      have : e * 3 ^ r ≤ 2 * 3 ^ r := Nat.mul_le_mul_right _ (by omega)
      omega)
    rw [t2] at h3
    exact Int.le_trans h3 up
  · obtain ⟨t, t1, t2⟩ := fz_ex (h := h) hW hs (show r < 5 by omega) hc hr (show e < 3 by omega) (rowV_ex hW hs r (by omega))
    have h3 := h2 (e * 3 ^ r + t) (by
      have h5 : (e + 1) * 3 ^ r ≤ b / 3 ^ r * 3 ^ r := Nat.mul_le_mul_right _ (by omega)
      have h6 := Nat.div_mul_le_self b (3 ^ r)
      rw [Nat.add_mul, Nat.one_mul] at h5
      omega)
    rw [t2] at h3
    exact Int.lt_of_lt_of_le h3 up
end
