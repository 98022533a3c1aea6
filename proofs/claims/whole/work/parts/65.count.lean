/-! COUNTING: presses as codes 0 .. 4, tallies as lists; the reference's functions -/
def pI (u : Nat) : Int32 := nI u - nI 2
theorem pI_t (k : Nat) : tI k = pI (k + 1) := by
  unfold tI pI
  rw [← nI_add]
  have : nI 2 = nI 1 + nI 1 := by decide +kernel
  rw [this]
  grind
theorem pI_lt0 : ∀ u, u < 5 → (pI u < nI 0) = (u < 2) := by decide +kernel
theorem pI_0lt : ∀ u, u < 5 → (nI 0 < pI u) = (2 < u) := by decide +kernel
theorem pI_le0 : ∀ u, u < 5 → (pI u ≤ nI 0) = (u ≤ 2) := by decide +kernel
theorem pI_0le : ∀ u, u < 5 → (nI 0 ≤ pI u) = (2 ≤ u) := by decide +kernel
theorem pI_eq0 : ∀ u, u < 5 → (pI u = nI 0) = (u = 2) := by decide +kernel
theorem pI_p2 (u : Nat) : pI u + nI 2 = nI u := by
  unfold pI
  rw [Int32.sub_add_cancel]
theorem pI_2 : pI 2 = nI 0 := by decide +kernel
/-- the side of a press -/
def sdN (u : Nat) : Nat := if u < 2 then 0 else if u = 2 then 1 else 2
/-- a tally: (sort, press, how many), the newest first -/
abbrev Tl : Type := List (Nat × Nat × Nat)
def tqN (v : Nat) : Tl → Nat
  | [] => 0
  | e :: E => (if e.2.1 = v then e.2.2 else 0) + tqN v E
def tbrN (b : Nat) (d : Nat) : Tl → Nat
  | [] => 0
  | e :: E => if tbrN b d E = 1 then 1 else if b.testBit e.1 ∧ sdN e.2.1 = d then 1 else 0
def tsI : Tl → Int32
  | [] => nI 0
  | e :: E => tsI E + pI e.2.1 * nI e.2.2
def tlN (E : Tl) : Nat := tqN 0 E + tqN 1 E
def trN (E : Tl) : Nat := tqN 3 E + tqN 4 E
def tnN (E : Tl) : Nat := tlN E + tqN 2 E + trN E
theorem tbrN_le (b d : Nat) : ∀ E, tbrN b d E ≤ 1
  | [] => Nat.zero_le _
  | e :: E => by
    unfold tbrN
    split
    · decide
    · split <;> decide
/-- the middle one -/
def midN (l z r : Nat) : Nat := if (l + z + r - 1) / 2 < l then 0 else if (l + z + r - 1) / 2 < l + z then 1 else 2
/-- the mean -/
def menN (s n : Int32) : Nat := if s = nI 0 then 1 else sgN ((nI 2 * s + (if nI 0 < s then n else -n)) / (nI 2 * n))
/-- what comes of a tally, by a rule's kind, need, bars -/
def wntN (k : Nat) (E : Tl) (tp : Nat) : Nat := if k = 0 then mostN (tlN E) (tqN 2 E) (trN E) else if k = 1 then midN (tlN E) (tqN 2 E) (trN E) else if k = 3 then sdN tp else menN (tsI E) (nI (tnN E))
def decN (k nd b : Nat) (E : Tl) (tp : Nat) : Nat :=
  if tnN E = 0 then 1 else
  if wntN k E tp = 0 then (if tlN E < nd ∨ tbrN b 2 E = 1 then 1 else 0) else if wntN k E tp = 2 then (if trN E < nd ∨ tbrN b 0 E = 1 then 1 else 2) else 1
theorem midN_lt (l z r : Nat) : midN l z r < 3 := by
  unfold midN
  split
  · decide
  · split <;> decide
theorem sdN_lt (u : Nat) : sdN u < 3 := by
  unfold sdN
  split
  · decide
  · split <;> decide
theorem sdN_c (u : Nat) : (u < 2 ∧ sdN u = 0) ∨ (u = 2 ∧ sdN u = 1) ∨ (2 < u ∧ sdN u = 2) := by
  have h : u < 2 ∨ u = 2 ∨ 2 < u := by omega
  rcases h with h | h | h
  · exact Or.inl ⟨h, if_pos h⟩
  · refine Or.inr (Or.inl ⟨h, ?_⟩)
    rw [h]; rfl
  · refine Or.inr (Or.inr ⟨h, ?_⟩)
    unfold sdN
    rw [if_neg (by omega), if_neg (by omega)]
theorem sdN_0 (u : Nat) : sdN u = 0 ↔ u < 2 := by
  rcases sdN_c u with ⟨h, e⟩ | ⟨h, e⟩ | ⟨h, e⟩ <;> rw [e] <;> omega
theorem sdN_2 (u : Nat) : sdN u = 2 ↔ 2 < u := by
  rcases sdN_c u with ⟨h, e⟩ | ⟨h, e⟩ | ⟨h, e⟩ <;> rw [e] <;> omega
theorem menN_lt (s n : Int32) : menN s n < 3 := by
  unfold menN
  split
  · decide
  · exact sgN_lt _
theorem wntN_lt (k : Nat) (E : Tl) (tp : Nat) : wntN k E tp < 3 := by
  unfold wntN
  split
  · exact mostN_lt _ _ _
  · split
    · exact midN_lt _ _ _
    · split
      · exact sdN_lt _
      · exact menN_lt _ _
theorem decN_lt (k nd b : Nat) (E : Tl) (tp : Nat) : decN k nd b E tp < 3 := by
  unfold decN
  repeat' split
  all_goals decide
/-- the sum, by the five numbers -/
theorem tsI_q : ∀ E : Tl, (∀ e, e ∈ E → e.2.1 < 5) → tsI E = nI 2 * nI (tqN 4 E) + nI (tqN 3 E) - nI (tqN 1 E) - nI 2 * nI (tqN 0 E)
  | [], _ => by decide +kernel
  | e :: E, h => by
    have ih := tsI_q E fun x hx => h x (List.mem_cons_of_mem _ hx)
    have h5 := h e (List.mem_cons_self)
    obtain ⟨s, u, m⟩ := e
    have h5 : u < 5 := h5
    have hu : u = 0 ∨ u = 1 ∨ u = 2 ∨ u = 3 ∨ u = 4 := by omega
    have p0 : pI 0 = -nI 2 := by decide +kernel
    have p1 : pI 1 = -nI 1 := by decide +kernel
    have p3 : pI 3 = nI 1 := by decide +kernel
    have p4 : pI 4 = nI 2 := by decide +kernel
    have n1 : nI 1 = 1 := by decide +kernel
    have n0 : nI 0 = 0 := by decide +kernel
    unfold tsI tqN
    rw [ih]
    rcases hu with rfl | rfl | rfl | rfl | rfl <;> simp only [p0, p1, pI_2, p3, p4, if_true, if_false, reduceIte, Nat.reduceEqDiff, ← nI_add, n1, n0] <;> grind
section
variable {I A : St} {L : Lt} {ru n : Nat}
theorem s55 (hn : 5 < n) : ∃ I', f55 n 67 (mW I L ru) = some (mW I' L ru) ∧ Fr [85] [45, 46, 47] I I' ∧ (∀ v, v < 5 → I' 85 v = nI 0) ∧ I' 67 45 = nI 0 ∧ I' 67 46 = nI 0 ∧ I' 67 47 = nI 0 := by
  refine lpP (F := fun k i J => f55_H2 n (fun e0 w6 => ob (putZ w6 11 e0 45 (0 : Int32)) (fun w7 => ob (putZ w7 11 e0 46 (0 : Int32)) (fun w9 => ob (putI w9 11 e0 47 (0 : Int32)) (fun w11 => some w11)))) k 67 (nI i) (mW J L ru)) (P := fun x => ∃ I', x = some (mW I' L ru) ∧ Fr [85] [45, 46, 47] I I' ∧ (∀ v, v < 5 → I' 85 v = nI 0) ∧ I' 67 45 = nI 0 ∧ I' 67 46 = nI 0 ∧ I' 67 47 = nI 0) (J := fun i J => Fr [85] [45, 46, 47] I J ∧ ∀ v, v < i → J 85 v = nI 0) 5 ?_ ?_ n 0 I (by omega) (by omega) ⟨Fr.rf, fun v h => absurd h (Nat.not_lt_zero v)⟩
  · intro k J hJ
    simp (config := { maxSteps := 2000000 }) (disch := omega) only [f55_H2, ux_at, ux_kk, ux_jo, gIm, pIm, pZm, gRm, aIm, sIm, aBm, sBm, gLm, pLm, clm, wshS, obS, reduceIte, Nat.one_ne_zero, Nat.zero_ne_one, Nat.reduceEqDiff, not_true_eq_false, not_false_eq_true, Nat.le_refl, ng_le, ng_lt, ng_nle, ng_nlt, ng_eq, ng_eq2, Bool.false_eq_true, lit_nI, nI_add, pk_mul, nI_leI, nI_ltI, nI_eq, Nat.le_refl]
    refine ⟨_, rfl, ((hJ.1.uf (by decide)).uf (by decide)).uf (by decide), fun v hv => ?_, ?_, ?_, ?_⟩
    · simp (config := { maxSteps := 2000000 }) (disch := omega) only [ux_kk]
      exact hJ.2 v hv
    · simp (config := { maxSteps := 2000000 }) (disch := omega) only [ux_if, Nat.reduceEqDiff, reduceIte]
    · simp (config := { maxSteps := 2000000 }) (disch := omega) only [ux_if, Nat.reduceEqDiff, reduceIte]
    · simp (config := { maxSteps := 2000000 }) (disch := omega) only [ux_if, Nat.reduceEqDiff, reduceIte]
  · intro k i J hi hJ ih
    have hi2 : ¬ 5 ≤ i := by omega
    simp (config := { maxSteps := 2000000 }) (disch := omega) only [f55_H2, ux_at, ux_kk, ux_jo, gIm, pIm, pZm, gRm, aIm, sIm, aBm, sBm, gLm, pLm, clm, wshS, obS, reduceIte, Nat.one_ne_zero, Nat.zero_ne_one, Nat.reduceEqDiff, not_true_eq_false, not_false_eq_true, Nat.le_refl, ng_le, ng_lt, ng_nle, ng_nlt, ng_eq, ng_eq2, Bool.false_eq_true, lit_nI, nI_add, pk_mul, nI_leI, nI_ltI, nI_eq, hi2]
    refine ih _ ⟨hJ.1.u (by decide), fun v hv => ?_⟩
    rw [ux_if]
    split
    · rfl
    · exact hJ.2 v (by omega)
/-- the reference's tally is the list's -/
def RT (I : St) (b : Nat) (E : Tl) : Prop := (∀ v, v < 5 → I 85 v = nI (tqN v E)) ∧ I 67 45 = nI (tbrN b 0 E) ∧ I 67 46 = nI (tbrN b 2 E)
theorem one_or {x : Nat} (h : x ≤ 1) : x = 0 ∨ x = 1 := by omega
theorem s127e {b s u m : Nat} {E : Tl} (hb : b < 64) (hs : s < 6) (hu : u < 5) (h41 : I 67 41 = nI b) (hR : RT I b E) : f127 67 (pI u) (nI m) (nI s) (mW I L ru) = some (mW (u2 (u2 (u2 I 85 u (I 85 u + nI m)) 67 45 (nI (tbrN b 0 ((s, u, m) :: E)))) 67 46 (nI (tbrN b 2 ((s, u, m) :: E)))) L ru) := by
  obtain ⟨-, hL, hRr⟩ := hR
  have hc : u < 2 ∨ u = 2 ∨ 2 < u := by omega
  have c0 := sdN_0 u
  have c2 := sdN_2 u
  rcases one_or (tbrN_le b 0 E) with a0 | a0 <;> rcases one_or (tbrN_le b 2 E) with a2 | a2 <;> by_cases hbt : b.testBit s <;> rcases hc with h2 | h2 | h2
  all_goals
    have d1 : (2 ≤ u) = (¬ u < 2) := propext (by omega)
    have d2 : (u ≤ 2) = (¬ 2 < u) := propext (by omega)
    have d3 : u < 2 ∨ ¬ u < 2 := by omega
    have d4 : 2 < u ∨ ¬ 2 < u := by omega
    rcases d3 with d3 | d3 <;> rcases d4 with d4 | d4
    all_goals first | (exfalso; omega) | skip
    all_goals simp (config := { maxSteps := 2000000 }) (disch := omega) only [f127, f127_J40, ux_at, ux_kk, ux_jo, gIm, pIm, pZm, gRm, aIm, sIm, aBm, sBm, gLm, pLm, clm, wshS, obS, reduceIte, Nat.one_ne_zero, Nat.zero_ne_one, Nat.reduceEqDiff, not_true_eq_false, not_false_eq_true, Nat.le_refl, ng_le, ng_lt, ng_nle, ng_nlt, ng_eq, ng_eq2, Bool.false_eq_true, lit_nI, nI_add, pk_mul, nI_leI, nI_ltI, nI_eq, pI_p2, hL, hRr, h41, s45, bN, hbt, ux_if, a0, a2, Nat.reduceEqDiff, Nat.one_ne_zero, not_true_eq_false, not_false_eq_true, pI_0le, pI_le0, d1, d2, d3, d4, tbrN, c0, c2, and_self, and_false, false_and, true_and, and_true, ux_k, Nat.zero_ne_one]
theorem s127 {b s u m : Nat} {E : Tl} (hb : b < 64) (hs : s < 6) (hu : u < 5) (h41 : I 67 41 = nI b) (hR : RT I b E) : ∃ I', f127 67 (pI u) (nI m) (nI s) (mW I L ru) = some (mW I' L ru) ∧ Fr [85] [45, 46] I I' ∧ RT I' b ((s, u, m) :: E) := by
  refine ⟨_, s127e hb hs hu h41 hR, ((Fr.rf.u (by decide)).uf (by decide)).uf (by decide), fun v hv => ?_, ?_, ?_⟩
  · simp (config := { maxSteps := 2000000 }) (disch := omega) only [ux_kk, ux_if]
    by_cases h : v = u
    · subst h
      simp only [tqN, reduceIte]
      rw [hR.1 v hv, nI_add, Nat.add_comm]
    · have h2 : ¬ u = v := fun e => h e.symm
      simp only [tqN, h, h2, reduceIte, Nat.zero_add]
      exact hR.1 v hv
  · simp (config := { maxSteps := 2000000 }) (disch := omega) only [ux_if, Nat.reduceEqDiff, reduceIte]
  · simp (config := { maxSteps := 2000000 }) (disch := omega) only [ux_if, Nat.reduceEqDiff, reduceIte]
end
