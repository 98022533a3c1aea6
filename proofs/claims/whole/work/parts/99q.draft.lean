/-! TEXTS: the draft of a sea on both sides -/
def soD (J : St) : Nat := (J 15 5).toNatClampNeg
def DrS (J : St) (s : Nat) : Prop := (∃ k, 1 ≤ k ∧ k ≤ 9 ∧ J 16 s = nI k) ∧ (∃ k, k ≤ 9 ∧ J 17 s = nI k) ∧ ∀ c, c < 64 → -9 ≤ (J (20 + s) c).toInt ∧ (J (20 + s) c).toInt ≤ 9
def DrT (J : St) : Prop := ∃ t, t < 16 ∧ J 27 2 = nI t ∧ (bN t 1 = 0 → ∀ c, c < 64 → J 26 c = nI 0)
def DrK (J : St) : Prop :=
  (∃ k, k < 64 ∧ J 15 0 = nI k) ∧ (∃ k, k < 8 ∧ J 15 1 = nI k) ∧ (J 15 3 = nI 0 ∨ ∃ e d, 1 ≤ e ∧ e ≤ 9 ∧ d < 8 ∧ J 15 3 = nI e ∧ J 15 2 = nI d) ∧ (∃ k, k ≤ 2 ∧ J 15 4 = nI k) ∧ (J 15 5 = nI (soD J) ∧ soD J ≤ 6) ∧ (∀ c, c < 64 → J 26 c = nI 0 ∨ J 26 c = nI 1) ∧ (∀ s, s < soD J → DrS J s) ∧ DrT J
def RDr (I J : St) (k : Nat) : Prop :=
  I 67 22 = J 15 0 ∧ I 67 23 = J 15 1 ∧ ((J 15 3 = nI 0 ∧ I 67 26 = -nI 1 ∧ I 67 25 = -nI 1) ∨ (J 15 3 ≠ nI 0 ∧ I 67 26 = J 15 3 ∧ I 67 25 = J 15 2)) ∧ I 67 27 = J 15 4 ∧ I 67 28 = nI k ∧ (∃ t, t < 32 ∧ I 67 33 = nI t ∧ J 27 2 = nI (t % 16)) ∧ (∀ c, c < 64 → I 77 c = J 26 c) ∧ ∀ s, s < soD J → I 78 s = J 16 s ∧ I 79 s = J 17 s ∧ ∀ c, c < 64 → I 80 (64 * s + c) = J (20 + s) c
abbrev dfK : List Nat := [15, 16, 17, 20, 21, 22, 23, 24, 25, 26, 27]
abbrev dxK : List Nat := [1, 15, 16, 17, 20, 21, 22, 23, 24, 25, 26, 27]
abbrev dmK : List Nat := [77, 78, 79, 80, 81]
abbrev dmF : List Nat := [16, 17, 19, 20, 21, 22, 23, 25, 26, 27, 28, 33]
theorem dr_at {J J' : St} {K : List Nat} (f : Fr K [] J J') (hK : ∀ k, k ∈ dfK → k ∉ K) : J' 15 = J 15 ∧ J' 16 = J 16 ∧ J' 17 = J 17 ∧ (∀ s, s < 6 → J' (20 + s) = J (20 + s)) ∧ J' 26 = J 26 ∧ J' 27 = J 27 := by
  have e : ∀ k, k ∈ dfK → J' k = J k := fun k hk => f.at (hK k hk) (fun q => by subst q; exact absurd hk (by decide))
  refine ⟨e _ (by decide), e _ (by decide), e _ (by decide), fun s hs => ?_, e _ (by decide), e _ (by decide)⟩
  rcases (show s = 0 ∨ s = 1 ∨ s = 2 ∨ s = 3 ∨ s = 4 ∨ s = 5 by omega) with rfl | rfl | rfl | rfl | rfl | rfl
  · exact e _ (by decide)
  · exact e _ (by decide)
  · exact e _ (by decide)
  · exact e _ (by decide)
  · exact e _ (by decide)
  · exact e _ (by decide)
theorem DrK.fr {J J' : St} (h : DrK J) {K : List Nat} (f : Fr K [] J J') (hK : ∀ k, k ∈ dfK → k ∉ K) : DrK J' := by
  obtain ⟨e1, e2, e3, e4, e5, e6⟩ := dr_at f hK
  have es : soD J' = soD J := by unfold soD; rw [e1]
  obtain ⟨h1, h2, h3, h4, h5, h6, h7, h8⟩ := h
  unfold DrK DrT
  rw [es, e1, e5, e6]
  refine ⟨h1, h2, h3, h4, h5, h6, fun s hs => ?_, h8⟩
  have := h7 s hs
  unfold DrS at this ⊢
  rw [e2, e3, e4 s (by omega)]
  exact this
theorem RDr.x {I J J' : St} {k : Nat} (h : RDr I J k) (h6 : soD J ≤ 6) {K : List Nat} (f : Fr K [] J J') (hK : ∀ k, k ∈ dfK → k ∉ K) : RDr I J' k := by
  obtain ⟨e1, e2, e3, e4, e5, e6⟩ := dr_at f hK
  have es : soD J' = soD J := by unfold soD; rw [e1]
  obtain ⟨h1, h2, h3, h4, h5, h7, h8, h9⟩ := h
  unfold RDr
  rw [es, e1, e2, e3, e5, e6]
  refine ⟨h1, h2, h3, h4, h5, h7, h8, fun s hs => ?_⟩
  rw [e4 s (by omega)]
  exact h9 s hs
theorem RDr.m {I I' J : St} {k : Nat} (h : RDr I J k) {K F : List Nat} (f : Fr K F I I') (hK : ∀ k, k ∈ [77, 78, 79, 80, 67] → k ∉ K) (hF : ∀ j, j ∈ [22, 23, 25, 26, 27, 28, 33] → j ∉ F) : RDr I' J k := by
  have e : ∀ j, j ∈ [22, 23, 25, 26, 27, 28, 33] → I' 67 j = I 67 j := fun j hj => f.f (hK _ (by decide)) (hF j hj)
  unfold RDr
  rw [e 22 (by decide), e 23 (by decide), e 25 (by decide), e 26 (by decide), e 27 (by decide), e 28 (by decide), e 33 (by decide), f.at (hK 77 (by decide)) (by decide), f.at (hK 78 (by decide)) (by decide), f.at (hK 79 (by decide)) (by decide), f.at (hK 80 (by decide)) (by decide)]
  exact h
/-- how many there are -/
def cB (f : Nat → Bool) : Nat → Nat
  | 0 => 0
  | n + 1 => cB f n + (if f n then 1 else 0)
theorem cB_le (f : Nat → Bool) : ∀ n, cB f n ≤ n
  | 0 => Nat.le_refl _
  | n + 1 => by
    have := cB_le f n
    show cB f n + (if f n then 1 else 0) ≤ n + 1
    split <;> omega
theorem cB_zero {f : Nat → Bool} : ∀ n, (∀ i, i < n → f i = false) → cB f n = 0
  | 0, _ => rfl
  | n + 1, h => by
    show cB f n + (if f n then 1 else 0) = 0
    rw [cB_zero n fun i hi => h i (by omega), h n (Nat.lt_succ_self _)]
    rfl
theorem cB_eq {f g : Nat → Bool} : ∀ n, (∀ i, i < n → g i = f i) → cB g n = cB f n
  | 0, _ => rfl
  | n + 1, h => by
    show cB g n + (if g n then 1 else 0) = cB f n + (if f n then 1 else 0)
    rw [cB_eq n fun i hi => h i (by omega), h n (Nat.lt_succ_self _)]
theorem cB_set {f g : Nat → Bool} {c : Nat} : ∀ n, c < n → f c = false → g c = true → (∀ j, j ≠ c → g j = f j) → cB g n = cB f n + 1
  | 0, h, _, _, _ => absurd h (Nat.not_lt_zero _)
  | n + 1, h, h1, h2, h3 => by
    show cB g n + (if g n then 1 else 0) = cB f n + (if f n then 1 else 0) + 1
    by_cases e : c = n
    · subst e
      rw [h1, h2, cB_eq c fun i hi => h3 i (by omega)]
      rfl
    · rw [cB_set n (by omega) h1 h2 h3, h3 n (fun z => e z.symm)]
      omega
theorem cB_lt {f : Nat → Bool} {c n : Nat} (hc : c < n) (h : f c = false) : cB f n < n := by
  have h1 := cB_set (f := f) (g := fun j => if j = c then true else f j) n hc h (if_pos rfl) fun j hj => if_neg hj
  have h2 := cB_le (fun j => if j = c then true else f j) n
  omega
section
variable {I J : St} {L : Lt} {ru n : Nat}
theorem dthR (s : Nat) (h : s < 6) : aldR (mW I L ru) 19 (nI s) = some (20 + s) := by
  rcases (show s = 0 ∨ s = 1 ∨ s = 2 ∨ s = 3 ∨ s = 4 ∨ s = 5 by omega) with rfl | rfl | rfl | rfl | rfl | rfl
  · exact aR_of sh_19 (Or.inr (Or.inr rfl)) (by decide) (by decide) (rr_19_0 ru)
  · exact aR_of sh_19 (Or.inr (Or.inr rfl)) (by decide) (by decide) (rr_19_1 ru)
  · exact aR_of sh_19 (Or.inr (Or.inr rfl)) (by decide) (by decide) (rr_19_2 ru)
  · exact aR_of sh_19 (Or.inr (Or.inr rfl)) (by decide) (by decide) (rr_19_3 ru)
  · exact aR_of sh_19 (Or.inr (Or.inr rfl)) (by decide) (by decide) (rr_19_4 ru)
  · exact aR_of sh_19 (Or.inr (Or.inr rfl)) (by decide) (by decide) (rr_19_5 ru)
theorem dthS (s : Nat) (h : s < 6) : nwS (20 + s) = some (20, 64) := by
  rcases (show s = 0 ∨ s = 1 ∨ s = 2 ∨ s = 3 ∨ s = 4 ∨ s = 5 by omega) with rfl | rfl | rfl | rfl | rfl | rfl
  · exact sh_20
  · exact sh_21
  · exact sh_22
  · exact sh_23
  · exact sh_24
  · exact sh_25
theorem dth_a {s c : Nat} (hs : s < 6) (hc : c < 64) : aldI (mW I L ru) (20 + s) (nI c) = some (I (20 + s) c) := aI_of (dthS s hs) hc (by decide)
theorem dth_s {s c : Nat} {v : Int32} (hs : s < 6) (hc : c < 64) : astI (mW I L ru) (20 + s) (nI c) v = some (mW (u2 I (20 + s) c v) L ru) := sI_of (dthS s hs) hc (by decide)
theorem e1_and : nI 1 &&& nI 1 = nI 1 := by decide +kernel
theorem e0_and : nI 0 &&& nI 1 = nI 0 := by decide +kernel
theorem dr_isRock {c : Nat} (hc : c < 64) (h : J 26 c = nI 0 ∨ J 26 c = nI 1) : f9 15 (nI c) (mW J L ru) = some (J 26 c, mW J L ru) := by
  have hc2 : ¬ 64 ≤ c := by omega
  rcases h with e | e
  · simp (config := { maxSteps := 2000000 }) (disch := omega) only [f9, ux_at, ux_kk, ux_jo, gIx, pIx, pZx, gRx, aIx, sIx, aBx, sBx, lenx, clx, wshS, obS, reduceIte, Nat.one_ne_zero, Nat.zero_ne_one, Nat.reduceEqDiff, not_true_eq_false, not_false_eq_true, Nat.le_refl, ng_le, ng_lt, ng_nle, ng_nlt, ng_eq, ng_eq2, Bool.false_eq_true, lit_nI, nI_add, pk_mul, nI_leI, nI_ltI, nI_eq, Nat.not_lt_zero, hc2, e]
  · simp (config := { maxSteps := 2000000 }) (disch := omega) only [f9, ux_at, ux_kk, ux_jo, gIx, pIx, pZx, gRx, aIx, sIx, aBx, sBx, lenx, clx, wshS, obS, reduceIte, Nat.one_ne_zero, Nat.zero_ne_one, Nat.reduceEqDiff, not_true_eq_false, not_false_eq_true, Nat.le_refl, ng_le, ng_lt, ng_nle, ng_nlt, ng_eq, ng_eq2, Bool.false_eq_true, lit_nI, nI_add, pk_mul, nI_leI, nI_ltI, nI_eq, Nat.not_lt_zero, hc2, e]
theorem dr_setRock {c : Nat} (hc : c < 64) : f77 15 (nI c) (mW J L ru) = some (mW (u2 J 26 c (nI 1)) L ru) := by
  simp (config := { maxSteps := 2000000 }) (disch := omega) only [f77, ux_at, ux_kk, ux_jo, gIx, pIx, pZx, gRx, aIx, sIx, aBx, sBx, lenx, clx, wshS, obS, reduceIte, Nat.one_ne_zero, Nat.zero_ne_one, Nat.reduceEqDiff, not_true_eq_false, not_false_eq_true, Nat.le_refl, ng_le, ng_lt, ng_nle, ng_nlt, ng_eq, ng_eq2, Bool.false_eq_true, lit_nI, nI_add, pk_mul, nI_leI, nI_ltI, nI_eq, x_noCell, e1_and]
theorem dr_isSort {s : Nat} (h5 : J 15 5 = nI (soD J)) (h6 : soD J ≤ 6) (hs : s < soD J) : f12 15 (nI s) (mW J L ru) = some (nI 1, mW J L ru) := by
  have h1 : ¬ soD J ≤ s := by omega
  have h2 : ¬ 6 ≤ s := by omega
  simp (config := { maxSteps := 2000000 }) (disch := omega) only [f12, ux_at, ux_kk, ux_jo, gIx, pIx, pZx, gRx, aIx, sIx, aBx, sBx, lenx, clx, wshS, obS, reduceIte, Nat.one_ne_zero, Nat.zero_ne_one, Nat.reduceEqDiff, not_true_eq_false, not_false_eq_true, Nat.le_refl, ng_le, ng_lt, ng_nle, ng_nlt, ng_eq, ng_eq2, Bool.false_eq_true, lit_nI, nI_add, pk_mul, nI_leI, nI_ltI, nI_eq, h5, Nat.not_lt_zero, h1, h2]
theorem dr_setLiking {s c : Nat} {v : Int32} (h5 : J 15 5 = nI (soD J)) (h6 : soD J ≤ 6) (hs : s < soD J) (hc : c < 64) : f78 15 (nI s) (nI c) v (mW J L ru) = some (mW (u2 J (20 + s) c v) L ru) := by
  simp (config := { maxSteps := 2000000 }) (disch := omega) only [f78, ux_at, ux_kk, ux_jo, gIx, pIx, pZx, gRx, aIx, sIx, aBx, sBx, lenx, clx, wshS, obS, reduceIte, Nat.one_ne_zero, Nat.zero_ne_one, Nat.reduceEqDiff, not_true_eq_false, not_false_eq_true, Nat.le_refl, ng_le, ng_lt, ng_nle, ng_nlt, ng_eq, ng_eq2, Bool.false_eq_true, lit_nI, nI_add, pk_mul, nI_leI, nI_ltI, nI_eq, dr_isSort h5 h6 hs, x_noCell, dthR, dth_s]
theorem dr_setFear {s : Nat} {v : Int32} (h5 : J 15 5 = nI (soD J)) (h6 : soD J ≤ 6) (hs : s < soD J) : f79 15 (nI s) v (mW J L ru) = some (mW (u2 J 17 s v) L ru) := by
  simp (config := { maxSteps := 2000000 }) (disch := omega) only [f79, ux_at, ux_kk, ux_jo, gIx, pIx, pZx, gRx, aIx, sIx, aBx, sBx, lenx, clx, wshS, obS, reduceIte, Nat.one_ne_zero, Nat.zero_ne_one, Nat.reduceEqDiff, not_true_eq_false, not_false_eq_true, Nat.le_refl, ng_le, ng_lt, ng_nle, ng_nlt, ng_eq, ng_eq2, Bool.false_eq_true, lit_nI, nI_add, pk_mul, nI_leI, nI_ltI, nI_eq, dr_isSort h5 h6 hs]
theorem dr_addSort {s : Nat} {v : Int32} (hs : J 15 5 = nI s) (hs6 : s < 6) (hn : 500 < n) : ∃ J', f11 n 15 v (mW J L ru) = some (nI s, mW J' L ru) ∧ Fr [15, 16, 17, 20 + s] [] J J' ∧ (∀ j, j ≠ 5 → J' 15 j = J 15 j) ∧ J' 15 5 = nI (s + 1) ∧ (∀ j, J' 16 j = if j = s then v else J 16 j) ∧ (∀ j, J' 17 j = if j = s then nI 0 else J 17 j) ∧ ∀ c, c < 64 → J' (20 + s) c = nI 0 := by
  have key : ∃ J', f11_H33 n (fun e0 w24 => ob (getI w24 6 e0 5) (fun x25 => ob (putI w24 6 e0 5 (x25 + (1 : Int32))) (fun w27 => ob (getI w27 6 e0 5) (fun x29 => some ((x29 - (1 : Int32)), w27))))) n 15 (nI 0) (mW (u2 (u2 J 16 s v) 17 s (nI 0)) L ru) = some (nI s, mW J' L ru) ∧ Fr [15, 16, 17, 20 + s] [] J J' ∧ (∀ j, j ≠ 5 → J' 15 j = J 15 j) ∧ J' 15 5 = nI (s + 1) ∧ (∀ j, J' 16 j = if j = s then v else J 16 j) ∧ (∀ j, J' 17 j = if j = s then nI 0 else J 17 j) ∧ ∀ c, c < 64 → J' (20 + s) c = nI 0 := by
    refine lpP (F := fun k c (Z : St) => f11_H33 n (fun e0 w24 => ob (getI w24 6 e0 5) (fun x25 => ob (putI w24 6 e0 5 (x25 + (1 : Int32))) (fun w27 => ob (getI w27 6 e0 5) (fun x29 => some ((x29 - (1 : Int32)), w27))))) k 15 (nI c) (mW Z L ru)) (P := fun y => ∃ J', y = some (nI s, mW J' L ru) ∧ Fr [15, 16, 17, 20 + s] [] J J' ∧ (∀ j, j ≠ 5 → J' 15 j = J 15 j) ∧ J' 15 5 = nI (s + 1) ∧ (∀ j, J' 16 j = if j = s then v else J 16 j) ∧ (∀ j, J' 17 j = if j = s then nI 0 else J 17 j) ∧ ∀ c, c < 64 → J' (20 + s) c = nI 0) (J := fun t Z => Fr [16, 17, 20 + s] [] J Z ∧ (∀ j, Z 16 j = if j = s then v else J 16 j) ∧ (∀ j, Z 17 j = if j = s then nI 0 else J 17 j) ∧ ∀ c, c < t → Z (20 + s) c = nI 0) 64 ?_ ?_ n 0 _ (by omega) (by omega) ⟨(Fr.rf.u (by simp)).u (by simp), fun j => ?_, fun j => ?_, fun c hc => absurd hc (Nat.not_lt_zero _)⟩
    · rintro k Z ⟨a1, a2, a3, a4⟩
      have z15 : Z 15 = J 15 := a1.at (by simp; omega) (by decide)
      have h1 : Z 15 5 = nI s := by rw [z15]; exact hs
      have h2 : nI (s + 1) - nI 1 = nI s := by rw [pk_sub (by omega)]; rfl
      refine ⟨u2 Z 15 5 (nI (s + 1)), ?_, (a1.mono (fun k hk => List.mem_cons_of_mem _ hk) (by decide)).u (by simp), fun j hj => (ux_j hj).trans (by rw [z15]), ux_at, fun j => (ux_k (by decide)).trans (a2 j), fun j => (ux_k (by decide)).trans (a3 j), fun c hc => (ux_k (by omega)).trans (a4 c hc)⟩
      simp (config := { maxSteps := 2000000 }) (disch := omega) only [f11_H33, ux_at, ux_kk, ux_jo, gIx, pIx, pZx, gRx, aIx, sIx, aBx, sBx, lenx, clx, wshS, obS, reduceIte, Nat.one_ne_zero, Nat.zero_ne_one, Nat.reduceEqDiff, not_true_eq_false, not_false_eq_true, Nat.le_refl, ng_le, ng_lt, ng_nle, ng_nlt, ng_eq, ng_eq2, Bool.false_eq_true, lit_nI, nI_add, pk_mul, nI_leI, nI_ltI, nI_eq, h1, h2]
    · rintro k t Z ht ⟨a1, a2, a3, a4⟩ ih
      have ht2 : ¬ 64 ≤ t := by omega
      have z15 : Z 15 = J 15 := a1.at (by simp; omega) (by decide)
      have h1 : Z 15 5 = nI s := by rw [z15]; exact hs
      simp (config := { maxSteps := 2000000 }) (disch := omega) only [f11_H33, ux_at, ux_kk, ux_jo, gIx, pIx, pZx, gRx, aIx, sIx, aBx, sBx, lenx, clx, wshS, obS, reduceIte, Nat.one_ne_zero, Nat.zero_ne_one, Nat.reduceEqDiff, not_true_eq_false, not_false_eq_true, Nat.le_refl, ng_le, ng_lt, ng_nle, ng_nlt, ng_eq, ng_eq2, Bool.false_eq_true, lit_nI, nI_add, pk_mul, nI_leI, nI_ltI, nI_eq, ht2, h1, dthR, dth_s]
      refine ih _ ⟨a1.u (by simp), fun j => (ux_k (by omega)).trans (a2 j), fun j => (ux_k (by omega)).trans (a3 j), fun c hc => ?_⟩
      rw [ux_if]
      by_cases e : c = t
      · rw [if_pos e]
      · rw [if_neg e]
        exact a4 c (by omega)
    · exact (ux_k (by decide)).trans (ux_if j)
    · exact (ux_if j).trans (by rw [ux_kk (by decide)])
  obtain ⟨J', k1, k2⟩ := key
  refine ⟨J', ?_, k2⟩
  have hs2 : ∀ y, (u2 J 16 y v) 15 5 = nI s := fun y => (ux_k (by decide)).trans hs
  simp (config := { maxSteps := 2000000 }) (disch := omega) only [f11, ux_at, ux_kk, ux_jo, gIx, pIx, pZx, gRx, aIx, sIx, aBx, sBx, lenx, clx, wshS, obS, reduceIte, Nat.one_ne_zero, Nat.zero_ne_one, Nat.reduceEqDiff, not_true_eq_false, not_false_eq_true, Nat.le_refl, ng_le, ng_lt, ng_nle, ng_nlt, ng_eq, ng_eq2, Bool.false_eq_true, lit_nI, nI_add, pk_mul, nI_leI, nI_ltI, nI_eq, hs, hs6, hs2]
  exact k1
/-- the reference's list begins -/
theorem m_begin (hn : 500 < n) : ∃ I', f47 n 67 (mW I L ru) = some (mW I' L ru) ∧ Fr [81] [] I I' ∧ ∀ c, c < 64 → I' 81 c = nI 0 := by
  refine lpP (F := fun k c (Z : St) => f47_H2 n (fun w6 => some w6) k 67 (nI c) (mW Z L ru)) (P := fun y => ∃ I', y = some (mW I' L ru) ∧ Fr [81] [] I I' ∧ ∀ c, c < 64 → I' 81 c = nI 0) (J := fun t Z => Fr [81] [] I Z ∧ ∀ c, c < t → Z 81 c = nI 0) 64 ?_ ?_ n 0 I (by omega) (by omega) ⟨Fr.rf, fun c hc => absurd hc (Nat.not_lt_zero _)⟩
  · rintro k Z ⟨a1, a2⟩
    simp (config := { maxSteps := 2000000 }) (disch := omega) only [f47_H2, ux_at, ux_kk, ux_jo, gIm, pIm, pZm, gRm, aIm, sIm, aBm, sBm, gLm, pLm, clm, wshS, obS, reduceIte, Nat.one_ne_zero, Nat.zero_ne_one, Nat.reduceEqDiff, not_true_eq_false, not_false_eq_true, Nat.le_refl, ng_le, ng_lt, ng_nle, ng_nlt, ng_eq, ng_eq2, Bool.false_eq_true, lit_nI, nI_add, pk_mul, nI_leI, nI_ltI, nI_eq]
    exact ⟨Z, rfl, a1, a2⟩
  · rintro k t Z ht ⟨a1, a2⟩ ih
    have ht2 : ¬ 64 ≤ t := by omega
    simp (config := { maxSteps := 2000000 }) (disch := omega) only [f47_H2, ux_at, ux_kk, ux_jo, gIm, pIm, pZm, gRm, aIm, sIm, aBm, sBm, gLm, pLm, clm, wshS, obS, reduceIte, Nat.one_ne_zero, Nat.zero_ne_one, Nat.reduceEqDiff, not_true_eq_false, not_false_eq_true, Nat.le_refl, ng_le, ng_lt, ng_nle, ng_nlt, ng_eq, ng_eq2, Bool.false_eq_true, lit_nI, nI_add, pk_mul, nI_leI, nI_ltI, nI_eq, ht2, e0_and]
    refine ih _ ⟨a1.u (by decide), fun c hc => ?_⟩
    rw [ux_if]
    by_cases e : c = t
    · rw [if_pos e]
    · rw [if_neg e]
      exact a2 c (by omega)
theorem m_cellF {f : Nat} {I1 : St} (e1 : f161 n 67 (nI 0) (nI 63) (mW I L ru) = some (nI f, mW I1 L ru)) (hf : f ≠ 0) (h6 : f < 6) : f189 n 67 (mW I L ru) = some (nI f, mW I1 L ru) := by
  simp (config := { maxSteps := 2000000 }) (disch := omega) only [f189, f189_J34, ux_at, ux_kk, ux_jo, gIm, pIm, pZm, gRm, aIm, sIm, aBm, sBm, gLm, pLm, clm, wshS, obS, reduceIte, Nat.one_ne_zero, Nat.zero_ne_one, Nat.reduceEqDiff, not_true_eq_false, not_false_eq_true, Nat.le_refl, ng_le, ng_lt, ng_nle, ng_nlt, ng_eq, ng_eq2, Bool.false_eq_true, lit_nI, nI_add, pk_mul, nI_leI, nI_ltI, nI_eq, e1, hf]
theorem m_cell4 {c p : Nat} {I1 : St} (e1 : f161 n 67 (nI 0) (nI 63) (mW I L ru) = some (nI 0, mW I1 L ru)) (h1 : I1 67 20 = nI c) (hc : c < 64) (h2 : I1 81 c = nI 1) (h3 : I1 67 21 = nI p) : f189 n 67 (mW I L ru) = some (nI 4, mW (u2 I1 67 16 (nI p)) L ru) := by
  simp (config := { maxSteps := 2000000 }) (disch := omega) only [f189, f189_J34, f46, ux_at, ux_kk, ux_jo, gIm, pIm, pZm, gRm, aIm, sIm, aBm, sBm, gLm, pLm, clm, wshS, obS, reduceIte, Nat.one_ne_zero, Nat.zero_ne_one, Nat.reduceEqDiff, not_true_eq_false, not_false_eq_true, Nat.le_refl, ng_le, ng_lt, ng_nle, ng_nlt, ng_eq, ng_eq2, Bool.false_eq_true, lit_nI, nI_add, pk_mul, nI_leI, nI_ltI, nI_eq, e1, h1, h2, h3]
theorem m_cell0 {c : Nat} {I1 : St} (e1 : f161 n 67 (nI 0) (nI 63) (mW I L ru) = some (nI 0, mW I1 L ru)) (h1 : I1 67 20 = nI c) (hc : c < 64) (h2 : I1 81 c = nI 0) : f189 n 67 (mW I L ru) = some (nI 0, mW (u2 I1 81 c (nI 1)) L ru) := by
  simp (config := { maxSteps := 2000000 }) (disch := omega) only [f189, f189_J34, ux_at, ux_kk, ux_jo, gIm, pIm, pZm, gRm, aIm, sIm, aBm, sBm, gLm, pLm, clm, wshS, obS, reduceIte, Nat.one_ne_zero, Nat.zero_ne_one, Nat.reduceEqDiff, not_true_eq_false, not_false_eq_true, Nat.le_refl, ng_le, ng_lt, ng_nle, ng_nlt, ng_eq, ng_eq2, Bool.false_eq_true, lit_nI, nI_add, pk_mul, nI_leI, nI_ltI, nI_eq, e1, h1, h2, e1_and]
end
