/-! COURSES: plain facts of the best -/
theorem iI_ex (x : Int32) : x = iI x.toInt := (iI_self x).symm
/-- so much at most, either way -/
def Bd (x : Int32) (b : Int) : Prop := ∃ z : Int, x = iI z ∧ -b ≤ z ∧ z ≤ b
theorem Bd.add {x y : Int32} {a b c : Int} (h : Bd x a) (h2 : Bd y b) (hc : c = a + b) : Bd (x + y) c := by
  obtain ⟨z, rfl, z1, z2⟩ := h
  obtain ⟨u, rfl, u1, u2⟩ := h2
  exact ⟨z + u, iI_add z u, by omega, by omega⟩
theorem Bd.mono {x : Int32} {a b : Int} (h : Bd x a) (hab : a ≤ b) : Bd x b := by
  obtain ⟨z, rfl, z1, z2⟩ := h
  exact ⟨z, rfl, by omega, by omega⟩
theorem Bd.zero {a : Int} (h : 0 ≤ a) : Bd (nI 0) a := ⟨0, iI_0.symm, by omega, by omega⟩
theorem pw_bd {p : Nat} {w : Int} (h1 : 1 ≤ p) (h9 : p ≤ 9) (w1 : -99 ≤ w) (w2 : w ≤ 9) : -891 ≤ (p : Int) * w ∧ (p : Int) * w ≤ 891 := by
  have hc : p = 1 ∨ p = 2 ∨ p = 3 ∨ p = 4 ∨ p = 5 ∨ p = 6 ∨ p = 7 ∨ p = 8 ∨ p = 9 := by omega
  rcases hc with rfl | rfl | rfl | rfl | rfl | rfl | rfl | rfl | rfl <;> omega
theorem wSet_bd {A : St} (hW : WFs A) {c m : Nat} (hc : c < 64) : Bd (wSet A c m) 5346 := by
  have h6 := ns6 hW
  have key : ∀ i, i ≤ nsN A → Bd (sumI (fun s => if m.testBit s then A 69 s * A 74 (64 * s + c) else nI 0) i) (891 * (i : Int)) := by
    intro i
    induction i with
    | zero => intro _; exact Bd.zero (by omega)
    | succ i ih =>
      intro hi
      have ih := ih (by omega)
      have e4 : A 69 i = nI (perN A i) := (wfA hW).2.2.2.2.1 i (by omega)
      have hp := per_le hW (show i < nsN A by omega)
      obtain ⟨w1, w2, -⟩ := hW.2.2.2.2.2.2.2.2.1 i (by omega) c hc
      have hpw := pw_bd hp.1 hp.2 w1 w2
      refine Bd.add ih (b := 891) ?_ (by omega)
      show Bd (if m.testBit i then A 69 i * A 74 (64 * i + c) else nI 0) 891
      split
      · refine ⟨(perN A i : Int) * (A 74 (64 * i + c)).toInt, ?_, hpw.1, hpw.2⟩
        rw [← iI_mul, iI_nI, iI_self, e4]
      · exact Bd.zero (by omega)
  exact (key (nsN A) (Nat.le_refl _)).mono (by omega)
/-- how many persons a set has -/
def pcN (A : St) (m : Nat) : Nat := sumN (fun s => if m.testBit s then perN A s else 0) (nsN A)
theorem pSet_nI {A : St} (hW : WFs A) (m : Nat) : pSet A m = nI (pcN A m) ∧ pcN A m ≤ 54 := by
  have h6 := ns6 hW
  constructor
  · unfold pSet pcN
    rw [← sumI_nI]
    refine sumI_congr fun s hs => ?_
    have e4 : A 69 s = nI (perN A s) := (wfA hW).2.2.2.2.1 s hs
    split
    · exact e4
    · rfl
  · have : pcN A m ≤ 9 * nsN A := sumN_le fun s hs => by
      split
      · exact (per_le hW hs).2
      · exact Nat.zero_le _
    omega
theorem iI_muln (a : Int) (n : Nat) : iI a * nI n = iI (a * n) := by rw [← iI_nI, iI_mul]
/-- what is lost -/
theorem lossI {A : St} (hW : WFs A) (m d : Nat) : -nI 99 * pSet A m * nI d = iI (-99 * (pcN A m : Int) * (d : Int)) := by
  rw [(pSet_nI hW m).1, ← iI_nI 99, iI_neg1, iI_muln, iI_muln]
  congr 1
theorem loss_bd {P d : Nat} (hP : P ≤ 54) : -(5346 * (d : Int)) ≤ -99 * (P : Int) * (d : Int) ∧ -99 * (P : Int) * (d : Int) ≤ 5346 * (d : Int) := by
  have h1 : P * d ≤ 54 * d := Nat.mul_le_mul_right d hP
  have h2 : -99 * (P : Int) * (d : Int) = -99 * ((P * d : Nat) : Int) := by
    rw [Int.mul_assoc]
    congr 1
  rw [h2]
  omega
theorem c3S_mem {mask : Nat} {v : Nat → Int32} : ∀ i, i ≤ 3 → (c3S mask v i).1 = nI 0 ∨ ∃ k, k < 3 ∧ (c3S mask v i).1 = v k
  | 0, _ => Or.inl rfl
  | i + 1, hi => by
    have ih := c3S_mem (mask := mask) (v := v) i (by omega)
    have h3 := toN_lt i
    unfold c3S
    split
    · dsimp only
      split
      · exact Or.inr ⟨_, h3, rfl⟩
      · split
        · exact ih
        · exact Or.inr ⟨_, h3, rfl⟩
    · exact ih
theorem brI_bd {A : St} (hW : WFs A) {m hours hour c h k : Nat} {M : Nat → Nat → Int32} {r : Nat} (hr : hours - hour = r + 1) (hc : c < 64) (hk : k < 3) (hM : ∀ c h, c < 64 → h < 8 → Bd (M c h) (5346 * (r : Int))) : Bd (brI A m hours hour M c h k) (5346 * ((r : Int) + 1)) := by
  have h1 := stpN_lt hW hc (h := h) (hour := hour) (k := k)
  unfold brI
  split
  · rw [pk_sub (by omega), hr, lossI hW]
    have := loss_bd (P := pcN A m) (d := r + 1) (pSet_nI hW m).2
    exact ⟨_, rfl, by omega, by omega⟩
  · exact (wSet_bd hW h1).add (hM _ _ h1 (tuN_lt _ _)) (by omega)
theorem bvI_bd {A : St} (hW : WFs A) {m hours : Nat} {mf : Nat → Nat → Nat → Nat} : ∀ r, r ≤ hours → ∀ c h, c < 64 → h < 8 → Bd (bvI A m hours mf r c h) (5346 * (r : Int))
  | 0, _, _, _, _, _ => Bd.zero (by omega)
  | r + 1, hr, c, h, hc, hh => by
    have ih := bvI_bd hW (m := m) (hours := hours) (mf := mf) r (by omega)
    show Bd (c3S (mf (hours - (r + 1)) c h) (brI A m hours (hours - (r + 1)) (bvI A m hours mf r) c h) 3).1 (5346 * ((r + 1 : Nat) : Int))
    rcases c3S_mem (mask := mf (hours - (r + 1)) c h) (v := brI A m hours (hours - (r + 1)) (bvI A m hours mf r) c h) 3 (Nat.le_refl _) with e | ⟨k, hk, e⟩
    · rw [e]
      exact Bd.zero (by omega)
    · rw [e]
      have z := brI_bd (m := m) (hours := hours) (hour := hours - (r + 1)) (h := h) (M := bvI A m hours mf r) hW (r := r) (by omega) hc hk ih
      exact z.mono (by omega)
theorem Bd.gt {x : Int32} {b : Int} (h : Bd x b) (hb : b ≤ 200000) : ¬ x ≤ iI (-1000000000) := by
  obtain ⟨z, rfl, z1, z2⟩ := h
  intro q
  have := (iI_le (by omega) (by omega) (by omega) (by omega)).mp q
  omega
/-- the class's choice: the greatest so far, its turn -/
def chF (mask : Nat) (v : Nat → Int32) : Nat → Int32 × Nat
  | 0 => (iI (-1000000000), 1)
  | i + 1 => if mask.testBit (toN i) then (if v (toN i) ≤ (chF mask v i).1 then chF mask v i else (v (toN i), toN i)) else chF mask v i
theorem chF_lt (mask : Nat) (v : Nat → Int32) : ∀ i, (chF mask v i).2 < 3
  | 0 => by show 1 < 3; decide
  | i + 1 => by
    unfold chF
    split
    · split
      · exact chF_lt mask v i
      · exact toN_lt i
    · exact chF_lt mask v i
theorem chF_c3 {mask : Nat} {v : Nat → Int32} (hv : ∀ k, k < 3 → ¬ v k ≤ iI (-1000000000)) : ∀ i, ((c3S mask v i).2 = 0 ∧ (chF mask v i).1 = iI (-1000000000)) ∨ ((c3S mask v i).2 = 1 ∧ (chF mask v i).1 = (c3S mask v i).1)
  | 0 => Or.inl ⟨rfl, rfl⟩
  | i + 1 => by
    have ih := chF_c3 (mask := mask) hv i
    have h3 := hv _ (toN_lt i)
    unfold c3S chF
    by_cases b : mask.testBit (toN i) = true
    · rw [if_pos b, if_pos b]
      rcases ih with ⟨i1, i2⟩ | ⟨i1, i2⟩
      · rw [i2, if_neg h3, if_pos i1]
        exact Or.inr ⟨rfl, rfl⟩
      · rw [i2, if_neg (show ¬ (c3S mask v i).2 = 0 by omega)]
        refine Or.inr ⟨rfl, ?_⟩
        split
        · exact i2
        · rfl
    · rw [if_neg b, if_neg b]
      exact ih
theorem c3S_mono {mask : Nat} {v : Nat → Int32} {i : Nat} (h : (c3S mask v i).2 = 1) : (c3S mask v (i + 1)).2 = 1 := by
  unfold c3S
  split
  · rfl
  · exact h
theorem tb_ex : ∀ mask, mask < 8 → mask ≠ 0 → mask.testBit (toN 0) = true ∨ mask.testBit (toN 1) = true ∨ mask.testBit (toN 2) = true := by decide
theorem c3S_1 {mask : Nat} {v : Nat → Int32} (h8 : mask < 8) (h0 : mask ≠ 0) : (c3S mask v 3).2 = 1 := by
  have st : ∀ i, mask.testBit (toN i) = true → (c3S mask v (i + 1)).2 = 1 := fun i hb => by
    unfold c3S
    rw [if_pos hb]
  rcases tb_ex mask h8 h0 with b | b | b
  · exact c3S_mono (c3S_mono (st 0 b))
  · exact c3S_mono (st 1 b)
  · exact st 2 b
theorem chF_1 {mask : Nat} {v : Nat → Int32} (h8 : mask < 8) (h0 : mask ≠ 0) (hv : ∀ k, k < 3 → ¬ v k ≤ iI (-1000000000)) : (chF mask v 3).1 = (c3S mask v 3).1 := by
  rcases chF_c3 (mask := mask) hv 3 with ⟨i1, -⟩ | ⟨-, i2⟩
  · have := c3S_1 (v := v) h8 h0
    omega
  · exact i2
theorem chF_2 {v : Nat → Int32} (hv : ∀ k, k < 3 → ¬ v k ≤ iI (-1000000000)) : (chF 7 v 3).2 = fkN v (c3S 7 v 3).1 := by
  have t0 : toN 0 = 1 := rfl
  have t1 : toN 1 = 0 := rfl
  have t2 : toN 2 = 2 := rfl
  have b0 : Nat.testBit 7 0 = true := rfl
  have b1 : Nat.testBit 7 1 = true := rfl
  have b2 : Nat.testBit 7 2 = true := rfl
  have ne : ∀ a b : Int32, ¬ a ≤ b → ¬ b = a := fun a b q e => q (by rw [e]; exact Int32.le_refl _)
  have tr : ∀ a b c : Int32, a ≤ b → ¬ c ≤ b → ¬ c ≤ a := fun a b c q1 q2 q3 => q2 (Int32.le_trans q3 q1)
  have tr2 : ∀ a b c : Int32, ¬ b ≤ a → ¬ c ≤ b → ¬ c ≤ a := fun a b c q1 q2 q3 => q2 (Int32.le_trans q3 (Int32.le_of_lt (Int32.not_le.mp q1)))
  have q1 := hv 1 (by decide)
  simp only [chF, c3S, t0, t1, t2, b0, b1, b2, reduceIte, q1, Nat.one_ne_zero, fkN]
  by_cases a : v 0 ≤ v 1
  · simp only [a, reduceIte]
    by_cases b : v 2 ≤ v 1
    · simp only [b, reduceIte]
    · have n1 := ne _ _ b
      have n2 := ne _ _ (tr _ _ _ a b)
      simp only [b, reduceIte, n1, n2]
  · simp only [a, reduceIte]
    by_cases b : v 2 ≤ v 0
    · have n1 := ne _ _ a
      simp only [b, reduceIte, n1]
    · have n1 := ne _ _ b
      have n2 := ne _ _ (tr2 _ _ _ a b)
      simp only [b, reduceIte, n1, n2]
/-! the best course where each place has but one turn is the run -/
theorem c3S_p2 {v : Nat → Int32} {k : Nat} (hk : k < 3) : (c3S (2 ^ k) v 3).1 = v k := by
  have t0 : toN 0 = 1 := rfl
  have t1 : toN 1 = 0 := rfl
  have t2 : toN 2 = 2 := rfl
  rcases k3 hk with rfl | rfl | rfl
  · have b0 : Nat.testBit (2 ^ 0) 0 = true := rfl
    have b1 : Nat.testBit (2 ^ 0) 1 = false := rfl
    have b2 : Nat.testBit (2 ^ 0) 2 = false := rfl
    simp only [c3S, t0, t1, t2, b0, b1, b2, reduceIte, Bool.false_eq_true]
  · have b0 : Nat.testBit (2 ^ 1) 0 = false := rfl
    have b1 : Nat.testBit (2 ^ 1) 1 = true := rfl
    have b2 : Nat.testBit (2 ^ 1) 2 = false := rfl
    simp only [c3S, t0, t1, t2, b0, b1, b2, reduceIte, Bool.false_eq_true]
  · have b0 : Nat.testBit (2 ^ 2) 0 = false := rfl
    have b1 : Nat.testBit (2 ^ 2) 1 = false := rfl
    have b2 : Nat.testBit (2 ^ 2) 2 = true := rfl
    simp only [c3S, t0, t1, t2, b0, b1, b2, reduceIte, Bool.false_eq_true]
theorem sumI_cst {f : Nat → Int32} {q : Int32} {a : Nat} : ∀ d, (∀ i, a ≤ i → i < a + d → f i = q) → sumI f (a + d) = sumI f a + q * nI d
  | 0, _ => by
    show sumI f a = sumI f a + q * nI 0
    have : q * nI 0 = nI 0 := Int32.mul_zero
    rw [this]
    exact (Int32.add_zero _).symm
  | d + 1, h => by
    have ih := sumI_cst (f := f) (q := q) (a := a) d fun i h1 h2 => h i h1 (by omega)
    have e : sumI f (a + (d + 1)) = sumI f (a + d) + f (a + d) := rfl
    rw [e, ih, h (a + d) (by omega) (by omega), ← nI_add, Int32.mul_add, Int32.add_assoc]
    congr 2
    exact (Int32.mul_one _).symm
theorem rn0 {A : St} {ρ : Nat → Nat} {c h : Nat} : ∀ t, ∃ a b, rnS A ρ 0 c h t = (a, b, 1, 1)
  | 0 => ⟨c, h, rfl⟩
  | t + 1 => ⟨_, _, rfl⟩
theorem may0_run {A : St} {ρ : Nat → Nat} {c h t : Nat} : mayN A ρ 0 t (rnS A ρ 0 c h t).1 (rnS A ρ 0 c h t).2.1 = 2 ^ rnT A ρ 0 c h t := by
  unfold rnT trnN
  by_cases u : unN A (rnS A ρ 0 c h t).1 (rnS A ρ 0 c h t).2.1 (ρ 4) = 1
  · rw [if_pos u]
    exact if_pos u
  · rw [if_neg u, if_pos rfl]
    exact may_0 u
theorem gon_le {A : St} {S : Nat → Sh} {a b : Nat} (h : gonN A S a = a) (hr : rkN A (S a).1 ≠ 0) (hab : a ≤ b) : gonN A S b = a := by
  have := gonN_stop h hr (b - a)
  rw [show a + (b - a) = b by omega] at this
  exact this
theorem best_run {A : St} (hW : WFs A) {ρ : Nat → Nat} (hR : RK ρ) {m hours c h : Nat} (hc : c < 64) (hh : h < 8) : ∀ r, r ≤ hours → gonN A (rnS A ρ 0 c h) (hours - r) = hours - r → rkN A (rnS A ρ 0 c h (hours - r)).1 = 0 →
    sumI (fun i => vtI A m (rnS A ρ 0 c h) (gonN A (rnS A ρ 0 c h) hours) (i + 1)) hours = sumI (fun i => vtI A m (rnS A ρ 0 c h) (gonN A (rnS A ρ 0 c h) hours) (i + 1)) (hours - r) + bvI A m hours (mayN A ρ 0) r (rnS A ρ 0 c h (hours - r)).1 (rnS A ρ 0 c h (hours - r)).2.1
  | 0, _, _, _ => (Int32.add_zero _).symm
  | r + 1, hr, hg, hk => by
    have ih := best_run hW hR (m := m) (hours := hours) hc hh r (by omega)
    have et : hours - r = hours - (r + 1) + 1 := by omega
    have e0 : hours = hours - (r + 1) + (r + 1) := by omega
    have hO := rnS_ok hW hR (g := 0) hc hh
    have eb : bvI A m hours (mayN A ρ 0) (r + 1) (rnS A ρ 0 c h (hours - (r + 1))).1 (rnS A ρ 0 c h (hours - (r + 1))).2.1 = (c3S (mayN A ρ 0 (hours - (r + 1)) (rnS A ρ 0 c h (hours - (r + 1))).1 (rnS A ρ 0 c h (hours - (r + 1))).2.1) (brI A m hours (hours - (r + 1)) (bvI A m hours (mayN A ρ 0) r) (rnS A ρ 0 c h (hours - (r + 1))).1 (rnS A ρ 0 c h (hours - (r + 1))).2.1) 3).1 := rfl
    rw [et] at ih
    generalize htt : hours - (r + 1) = t at *
    have ht3 : rnT A ρ 0 c h t < 3 := trnN_lt hR (hO t).2.2.1 (cntN_lt _ _ _ _)
    rw [may0_run, c3S_p2 ht3] at eb
    rw [eb]
    have es1 : stpN A (rnS A ρ 0 c h t).1 (rnS A ρ 0 c h t).2.1 t (rnT A ρ 0 c h t) = (rnS A ρ 0 c h (t + 1)).1 := rfl
    have es2 : tuN (rnS A ρ 0 c h t).2.1 (rnT A ρ 0 c h t) = (rnS A ρ 0 c h (t + 1)).2.1 := rfl
    unfold brI
    rw [es1, es2]
    have hg2 := gonN_go hg hk
    rcases one_or (rk_le hW (hO (t + 1)).1) with rk | rk
    · have z := ih hg2 rk
      have hge : t + 1 ≤ gonN A (rnS A ρ 0 c h) hours := (gonN_at (by omega)).mp hg2
      have ev : vtI A m (rnS A ρ 0 c h) (gonN A (rnS A ρ 0 c h) hours) (t + 1) = wSet A (rnS A ρ 0 c h (t + 1)).1 m := by
        unfold vtI
        rw [if_neg (by omega), if_neg (by omega)]
      have es : ∀ f : Nat → Int32, sumI f (t + 1) = sumI f t + f t := fun _ => rfl
      rw [z, es, if_neg (show ¬ rkN A (rnS A ρ 0 c h (t + 1)).1 = 1 by omega)]
      rw [ev, Int32.add_assoc]
    · have hG : gonN A (rnS A ρ 0 c h) hours = t + 1 := gon_le hg2 (by omega) (by omega)
      have es := sumI_cst (f := fun i => vtI A m (rnS A ρ 0 c h) (gonN A (rnS A ρ 0 c h) hours) (i + 1)) (q := -nI 99 * pSet A m) (a := t) (r + 1) fun i h1 h2 => by
        unfold vtI
        by_cases q : i = t
        · rw [q, hG, if_neg (Nat.lt_irrefl _), if_pos rk]
        · rw [hG, if_pos (by omega)]
      rw [← e0] at es
      rw [if_pos rk, pk_sub (show t ≤ hours by omega), show hours - t = r + 1 by omega]
      exact es
theorem best_val {A : St} (hW : WFs A) {ρ : Nat → Nat} (hR : RK ρ) {m hours c h : Nat} (hc : c < 64) (hh : h < 8) (hr0 : rkN A c = 0) : bvI A m hours (mayN A ρ 0) hours c h = valI A m (rnS A ρ 0 c h) (gonN A (rnS A ρ 0 c h) hours) hours := by
  have z := best_run hW hR (m := m) (hours := hours) hc hh hours (Nat.le_refl _)
  rw [Nat.sub_self] at z
  have z2 := z rfl hr0
  unfold valI
  rw [z2]
  exact (Int32.zero_add _).symm
