/-! TEXTS: blanks, figures, words; the reference's reading -/
def btI (T : Nat → Nat) (N a : Nat) : Int32 := if a < N then nI (T a) else -nI 1
def rnF (P : Nat → Bool) (N : Nat) : Nat → Nat → Nat
  | 0, a => a
  | k + 1, a => if a < N then (if P a then rnF P N k (a + 1) else a) else a
/-- where a run of bytes that are so ends -/
def rnE (P : Nat → Bool) (N a : Nat) : Nat := rnF P N (N - a) a
theorem rnE_step {P : Nat → Bool} {N a : Nat} (h : a < N) (hp : P a = true) : rnE P N a = rnE P N (a + 1) := by
  unfold rnE
  obtain ⟨k, hk⟩ : ∃ k, N - a = k + 1 := ⟨N - a - 1, by omega⟩
  rw [hk, show N - (a + 1) = k by omega]
  show (if a < N then (if P a then rnF P N k (a + 1) else a) else a) = _
  rw [if_pos h, if_pos hp]
theorem rnE_stop {P : Nat → Bool} {N a : Nat} (h : a < N → P a = false) : rnE P N a = a := by
  unfold rnE
  by_cases ha : a < N
  · obtain ⟨k, hk⟩ : ∃ k, N - a = k + 1 := ⟨N - a - 1, by omega⟩
    rw [hk]
    show (if a < N then (if P a then rnF P N k (a + 1) else a) else a) = _
    rw [if_pos ha, h ha, if_neg (by decide)]
  · rw [show N - a = 0 by omega]
    rfl
theorem rnE_all {P : Nat → Bool} {N : Nat} : ∀ d a, N - a = d → a ≤ rnE P N a ∧ (a ≤ N → rnE P N a ≤ N) ∧ (∀ i, a ≤ i → i < rnE P N a → P i = true) ∧ (rnE P N a < N → P (rnE P N a) = false)
  | 0, a, h => by
    have e : rnE P N a = a := rnE_stop fun z => by omega
    rw [e]
    exact ⟨Nat.le_refl _, fun z => z, fun i h1 h2 => by omega, fun z => by omega⟩
  | d + 1, a, h => by
    by_cases hp : P a = true
    · have e := rnE_step (P := P) (show a < N by omega) hp
      obtain ⟨h1, h2, h3, h4⟩ := rnE_all (P := P) (N := N) d (a + 1) (by omega)
      rw [e]
      refine ⟨by omega, fun z => h2 (by omega), fun i i1 i2 => ?_, h4⟩
      by_cases q : i = a
      · rw [q]; exact hp
      · exact h3 i (by omega) i2
    · have hp : P a = false := by simpa using hp
      have e : rnE P N a = a := rnE_stop fun _ => hp
      rw [e]
      exact ⟨Nat.le_refl _, fun z => z, fun i h1 h2 => by omega, fun _ => hp⟩
theorem rnE_ge (P : Nat → Bool) (N a : Nat) : a ≤ rnE P N a := (rnE_all _ a rfl).1
theorem rnE_le {P : Nat → Bool} {N a : Nat} (h : a ≤ N) : rnE P N a ≤ N := (rnE_all _ a rfl).2.1 h
theorem rnE_in {P : Nat → Bool} {N a i : Nat} (h1 : a ≤ i) (h2 : i < rnE P N a) : P i = true := (rnE_all _ a rfl).2.2.1 i h1 h2
theorem rnE_end {P : Nat → Bool} {N a : Nat} (h : rnE P N a < N) : P (rnE P N a) = false := (rnE_all _ a rfl).2.2.2 h
theorem rnE_id (P : Nat → Bool) (N a : Nat) : rnE P N (rnE P N a) = rnE P N a := rnE_stop fun h => rnE_end h
def skP (T : Nat → Nat) : Nat → Bool := fun i => decide (T i = 32)
def fgP (T : Nat → Nat) : Nat → Bool := fun i => decide (48 ≤ T i ∧ T i ≤ 57)
def wdP (T : Nat → Nat) : Nat → Bool := fun i => decide (97 ≤ T i ∧ T i ≤ 122)
def skN (T : Nat → Nat) (N a : Nat) : Nat := rnE (skP T) N a
def fgN (T : Nat → Nat) (N a : Nat) : Nat := rnE (fgP T) N a
def wdN (T : Nat → Nat) (N a : Nat) : Nat := rnE (wdP T) N a
theorem skN_ge (T : Nat → Nat) (N a : Nat) : a ≤ skN T N a := rnE_ge _ _ _
theorem skN_le {T : Nat → Nat} {N a : Nat} (h : a ≤ N) : skN T N a ≤ N := rnE_le h
theorem skN_id (T : Nat → Nat) (N a : Nat) : skN T N (skN T N a) = skN T N a := rnE_id _ _ _
theorem skP_t {T : Nat → Nat} {i : Nat} : (skP T i = true) = (T i = 32) := by
  unfold skP
  simp
theorem fgP_t {T : Nat → Nat} {i : Nat} : (fgP T i = true) = (48 ≤ T i ∧ T i ≤ 57) := by
  unfold fgP
  simp
theorem wdP_t {T : Nat → Nat} {i : Nat} : (wdP T i = true) = (97 ≤ T i ∧ T i ≤ 122) := by
  unfold wdP
  simp
theorem bf {b : Bool} (h : ¬ b = true) : b = false := by simpa using h
/-- the value of one or two figures -/
def dvN (T : Nat → Nat) (b c : Nat) : Nat := if c = 0 then 0 else if c = 1 then T b - 48 else 10 * (T b - 48) + (T (b + 1) - 48)
def fvI (T : Nat → Nat) (N bl b : Nat) : Int32 := if bl = 0 then nI (dvN T b (fgN T N b - b)) else -nI (dvN T b (fgN T N b - b))
/-- the fault of figures: 1 none there, 2 three or more, or out of bounds -/
def ffN (T : Nat → Nat) (N : Nat) (lo hi : Int32) (bl b : Nat) : Nat := if fgN T N b = b then 1 else if 2 < fgN T N b - b then 2 else if fvI T N bl b < lo then 2 else if hi < fvI T N bl b then 2 else 0
theorem ffN_le (T : Nat → Nat) (N : Nat) (lo hi : Int32) (bl b : Nat) : ffN T N lo hi bl b ≤ 2 := by
  unfold ffN
  split
  · decide
  · split
    · decide
    · split
      · decide
      · split <;> decide
/-- the reference's text -/
def MT (I : St) (T : Nat → Nat) (N : Nat) : Prop := I 67 15 = nI N ∧ N ≤ 300 ∧ ∀ i, i < N → T i < 256 ∧ I 76 i = nI (T i)
theorem MT.fr {I I' : St} {T : Nat → Nat} {N : Nat} (h : MT I T N) {K F : List Nat} (f : Fr K F I I') (h1 : 76 ∉ K) (h67 : 67 ∉ K) (h15 : 15 ∉ F) : MT I' T N := by
  unfold MT
  rw [f.at h1 (by decide), f.f h67 h15]
  exact h
/-- the value of a word -/
def sdNw (T : Nat → Nat) (b : Nat) : Nat → Nat
  | 0 => 0
  | c + 1 => if 1000000000000 < sdNw T b c then 2000000000000 else 27 * sdNw T b c + (T (b + c) - 96)
theorem sdNw_le (T : Nat → Nat) (b : Nat) (hT : ∀ i, T (b + i) < 256) : ∀ c, sdNw T b c ≤ 28000000000000
  | 0 => by show 0 ≤ 28000000000000; decide
  | c + 1 => by
    have := hT c
    unfold sdNw
    split
    · omega
    · omega
theorem lgl {a b : Nat} (ha : a < 2 ^ 63) (hb : b < 2 ^ 63) : (lg_cmp (lN a) (lN b) ≤ nI 0) = (a ≤ b) := propext ((lg_cmp_le _ _).trans (pk_lLE ha hb))
theorem lge {a b : Nat} (ha : a < 2 ^ 63) (hb : b < 2 ^ 63) : (lg_cmp (lN a) (lN b) = nI 0) = (a = b) := propext ((lg_cmp_eq _ _).trans (pk_lEQ ha hb))
section
variable {I A : St} {L : Lt} {ru n : Nat} {T : Nat → Nat} {N : Nat}
theorem m_here (hT : MT I T N) {a : Nat} (ha : a ≤ N) (h : I 67 17 = nI a) (hn : 500 < n) : ∃ I', f42 n 67 (mW I L ru) = some (btI T N (skN T N a), mW I' L ru) ∧ Fr [] [17] I I' ∧ I' 67 17 = nI (skN T N a) := by
  obtain ⟨t1, t2, t3⟩ := hT
  refine lpP (F := fun k i J => f42_H0 n (fun e0 w17 => f42_J38 n e0 w17) k 67 (mW J L ru)) (P := fun y => ∃ I', y = some (btI T N (skN T N a), mW I' L ru) ∧ Fr [] [17] I I' ∧ I' 67 17 = nI (skN T N a)) (J := fun i J => Fr [] [17] I J ∧ J 67 17 = nI i ∧ skN T N a = skN T N i) N ?_ ?_ n a I ha (by omega) ⟨Fr.rf, h, rfl⟩
  · rintro k J ⟨j1, j2, j3⟩
    have e : skN T N N = N := rnE_stop fun z => absurd z (Nat.lt_irrefl _)
    have l1 : J 67 15 = nI N := (j1.f (by decide) (by decide)).trans t1
    rw [j3, e]
    have eb : btI T N N = -nI 1 := if_neg (Nat.lt_irrefl _)
    rw [eb]
    simp (config := { maxSteps := 2000000 }) (disch := omega) only [f42_H0, f42_J38, ux_at, ux_kk, ux_jo, gIm, pIm, pZm, gRm, aIm, sIm, aBm, sBm, gLm, pLm, clm, wshS, obS, reduceIte, Nat.one_ne_zero, Nat.zero_ne_one, Nat.reduceEqDiff, not_true_eq_false, not_false_eq_true, Nat.le_refl, ng_le, ng_lt, ng_nle, ng_nlt, ng_eq, ng_eq2, Bool.false_eq_true, lit_nI, nI_add, pk_mul, nI_leI, nI_ltI, nI_eq, j2, l1]
    exact ⟨J, rfl, j1, j2⟩
  · rintro k i J hi ⟨j1, j2, j3⟩ ih
    have l1 : J 67 15 = nI N := (j1.f (by decide) (by decide)).trans t1
    have hi2 : ¬ N ≤ i := by omega
    obtain ⟨b1, b2⟩ := t3 i hi
    have b3 : J 76 i = nI (T i) := by rw [j1.at (by decide) (by decide)]; exact b2
    by_cases q : T i = 32
    · have e : skN T N i = skN T N (i + 1) := rnE_step hi (by rw [skP_t]; exact q)
      simp (config := { maxSteps := 2000000 }) (disch := omega) only [f42_H0, f42_J38, ux_at, ux_kk, ux_jo, gIm, pIm, pZm, gRm, aIm, sIm, aBm, sBm, gLm, pLm, clm, wshS, obS, reduceIte, Nat.one_ne_zero, Nat.zero_ne_one, Nat.reduceEqDiff, not_true_eq_false, not_false_eq_true, Nat.le_refl, ng_le, ng_lt, ng_nle, ng_nlt, ng_eq, ng_eq2, Bool.false_eq_true, lit_nI, nI_add, pk_mul, nI_leI, nI_ltI, nI_eq, j2, l1, hi2, b3, q]
      exact ih _ ⟨j1.uf (by decide), ux_at, j3.trans e⟩
    · have e : skN T N i = i := rnE_stop fun _ => bf (by rw [skP_t]; exact q)
      have eb : btI T N i = nI (T i) := if_pos hi
      rw [j3, e, eb]
      simp (config := { maxSteps := 2000000 }) (disch := omega) only [f42_H0, f42_J38, ux_at, ux_kk, ux_jo, gIm, pIm, pZm, gRm, aIm, sIm, aBm, sBm, gLm, pLm, clm, wshS, obS, reduceIte, Nat.one_ne_zero, Nat.zero_ne_one, Nat.reduceEqDiff, not_true_eq_false, not_false_eq_true, Nat.le_refl, ng_le, ng_lt, ng_nle, ng_nlt, ng_eq, ng_eq2, Bool.false_eq_true, lit_nI, nI_add, pk_mul, nI_leI, nI_ltI, nI_eq, j2, l1, hi2, b3, q]
      exact ⟨J, rfl, j1, j2⟩
theorem m_word (hT : MT I T N) (hT2 : ∀ i, T i < 256) {a : Nat} (ha : a ≤ N) (h : I 67 17 = nI a) (hn : 500 < n) : ∃ I' L', f111 n 67 (mW I L ru) = some (mW I' L' ru) ∧ Fr [] [17, 19] I I' ∧ I' 67 17 = nI (skN T N a) ∧ I' 67 19 = nI (wdN T N (skN T N a)) ∧ L' 67 18 = lN (sdNw T (skN T N a) (wdN T N (skN T N a) - skN T N a)) := by
  obtain ⟨I1, e1, f1, a1⟩ := m_here (L := L) (ru := ru) (n := n) hT ha h hn
  have hb := skN_le (T := T) ha
  generalize hbd : skN T N a = b at *
  have t2 := hT.2.1
  have i1 : (u2 I1 67 19 (nI b)) 67 17 = nI b := (ux_j (by decide)).trans a1
  have i2 : (u2 I1 67 19 (nI b)) 67 19 = nI b := ux_at
  have i3 : (u2 L 67 18 (lN 0)) 67 18 = lN (sdNw T b (b - b)) := by
    rw [Nat.sub_self]
    exact ux_at
  have key : ∃ I' L', f111_H18 n (fun w => some w) n 67 (mW (u2 I1 67 19 (nI b)) (u2 L 67 18 (lN 0)) ru) = some (mW I' L' ru) ∧ Fr [] [17, 19] I I' ∧ I' 67 17 = nI b ∧ I' 67 19 = nI (wdN T N b) ∧ L' 67 18 = lN (sdNw T b (wdN T N b - b)) := by
    refine lpP (F := fun k i (s : St × Lt) => f111_H18 n (fun w => some w) k 67 (mW s.1 s.2 ru)) (P := fun y => ∃ I' L', y = some (mW I' L' ru) ∧ Fr [] [17, 19] I I' ∧ I' 67 17 = nI b ∧ I' 67 19 = nI (wdN T N b) ∧ L' 67 18 = lN (sdNw T b (wdN T N b - b))) (J := fun i s => Fr [] [17, 19] I s.1 ∧ s.1 67 17 = nI b ∧ s.1 67 19 = nI i ∧ b ≤ i ∧ wdN T N b = wdN T N i ∧ s.2 67 18 = lN (sdNw T b (i - b))) N ?_ ?_ n b (u2 I1 67 19 (nI b), u2 L 67 18 (lN 0)) hb (by omega) ⟨(f1.mono (by decide) (by decide)).uf (by decide), i1, i2, Nat.le_refl _, rfl, i3⟩
    · rintro k ⟨J, L1⟩ ⟨j1, j2, j3, j4, j5, j6⟩
      have j1 : Fr [] [17, 19] I J := j1
      have j3 : J 67 19 = nI N := j3
      have e : wdN T N N = N := rnE_stop fun z => absurd z (Nat.lt_irrefl _)
      have l1 : J 67 15 = nI N := (j1.f (by decide) (by decide)).trans hT.1
      have t2 := hT.2.1
      rw [j5, e]
      simp (config := { maxSteps := 2000000 }) (disch := omega) only [f111_H18, ux_at, ux_kk, ux_jo, gIm, pIm, pZm, gRm, aIm, sIm, aBm, sBm, gLm, pLm, clm, wshS, obS, reduceIte, Nat.one_ne_zero, Nat.zero_ne_one, Nat.reduceEqDiff, not_true_eq_false, not_false_eq_true, Nat.le_refl, ng_le, ng_lt, ng_nle, ng_nlt, ng_eq, ng_eq2, Bool.false_eq_true, lit_nI, nI_add, pk_mul, nI_leI, nI_ltI, nI_eq, j3, l1]
      exact ⟨J, L1, rfl, j1, j2, j3, j6⟩
    · rintro k i ⟨J, L1⟩ hi ⟨j1, j2, j3, j4, j5, j6⟩ ih
      have j1 : Fr [] [17, 19] I J := j1
      have j3 : J 67 19 = nI i := j3
      have j6 : L1 67 18 = lN (sdNw T b (i - b)) := j6
      have l1 : J 67 15 = nI N := (j1.f (by decide) (by decide)).trans hT.1
      have t2 := hT.2.1
      have hi2 : ¬ N ≤ i := by omega
      obtain ⟨b1, b2⟩ := hT.2.2 i hi
      have b3 : J 76 i = nI (T i) := by rw [j1.at (by decide) (by decide)]; exact b2
      by_cases q : 97 ≤ T i ∧ T i ≤ 122
      · obtain ⟨q1, q2⟩ := q
        have e : wdN T N i = wdN T N (i + 1) := rnE_step hi (by rw [wdP_t]; exact ⟨q1, q2⟩)
        have ei := s40i (w := mW J L1 ru) q1 q2 (show 122 < 2 ^ 31 by decide)
        have sb := sdNw_le T b (fun i => hT2 _) (i - b)
        have j2' : J 67 17 = nI b := j2
        have k17 : (u2 J 67 19 (nI (i + 1))) 67 17 = nI b := (ux_j (by decide)).trans j2'
        have k19 : (u2 J 67 19 (nI (i + 1))) 67 19 = nI (i + 1) := ux_at
        have k18 : ∀ v, (u2 L1 67 18 v) 67 18 = v := fun v => ux_at
        have es : sdNw T b (i + 1 - b) = if 1000000000000 < sdNw T b (i - b) then 2000000000000 else 27 * sdNw T b (i - b) + (T i - 96) := by
          rw [show i + 1 - b = i - b + 1 by omega]
          show (if 1000000000000 < sdNw T b (i - b) then 2000000000000 else 27 * sdNw T b (i - b) + (T (b + (i - b)) - 96)) = _
          rw [show b + (i - b) = i by omega]
        have l63 : sdNw T b (i - b) < 2 ^ 63 := by omega
        have el := lgl (b := 1000000000000) l63 (by decide)
        by_cases c : 1000000000000 < sdNw T b (i - b)
        · have c2 : ¬ sdNw T b (i - b) ≤ 1000000000000 := by omega
          rw [if_pos c] at es
          have z := ih (u2 J 67 19 (nI (i + 1)), u2 L1 67 18 (lN 2000000000000)) ⟨j1.uf (by decide), k17, k19, by omega, j5.trans e, by rw [es]; exact k18 _⟩
          simp (config := { maxSteps := 2000000 }) (disch := omega) only [f111_H18, f111_J92, ux_at, ux_kk, ux_jo, gIm, pIm, pZm, gRm, aIm, sIm, aBm, sBm, gLm, pLm, clm, wshS, obS, reduceIte, Nat.one_ne_zero, Nat.zero_ne_one, Nat.reduceEqDiff, not_true_eq_false, not_false_eq_true, Nat.le_refl, ng_le, ng_lt, ng_nle, ng_nlt, ng_eq, ng_eq2, Bool.false_eq_true, lit_nI, nI_add, pk_mul, nI_leI, nI_ltI, nI_eq, gLm, pLm, lit_lN, j3, l1, hi2, b3, ei, j6, el, c2]
          exact z
        · have c2 : sdNw T b (i - b) ≤ 1000000000000 := by omega
          rw [if_neg c] at es
          have ev : lN 27 * lN (sdNw T b (i - b)) + Int32.toInt64 (nI (T i)) - lN 96 = lN (27 * sdNw T b (i - b) + (T i - 96)) := by
            rw [lN_mul, nI_l (by omega), lN_add, lN_sub (by omega)]
            congr 1
            omega
          have z := ih (u2 J 67 19 (nI (i + 1)), u2 L1 67 18 (lN (27 * sdNw T b (i - b) + (T i - 96)))) ⟨j1.uf (by decide), k17, k19, by omega, j5.trans e, by rw [es]; exact k18 _⟩
          simp (config := { maxSteps := 2000000 }) (disch := omega) only [f111_H18, f111_J92, ux_at, ux_kk, ux_jo, gIm, pIm, pZm, gRm, aIm, sIm, aBm, sBm, gLm, pLm, clm, wshS, obS, reduceIte, Nat.one_ne_zero, Nat.zero_ne_one, Nat.reduceEqDiff, not_true_eq_false, not_false_eq_true, Nat.le_refl, ng_le, ng_lt, ng_nle, ng_nlt, ng_eq, ng_eq2, Bool.false_eq_true, lit_nI, nI_add, pk_mul, nI_leI, nI_ltI, nI_eq, gLm, pLm, lit_lN, j3, l1, hi2, b3, ei, j6, el, c2, ev]
          exact z
      · have e : wdN T N i = i := rnE_stop fun _ => bf (by rw [wdP_t]; exact q)
        have ho : nI (T i) < nI 97 ∨ nI 122 < nI (T i) := by
          by_cases q1 : T i < 97
          · exact Or.inl (nI_lt q1 (by decide))
          · exact Or.inr (nI_lt (by omega) (by omega))
        have eo := s40o (w := mW J L1 ru) (show 97 < 2 ^ 31 by decide) (show 122 < 2 ^ 31 by decide) ho
        rw [j5, e]
        simp (config := { maxSteps := 2000000 }) (disch := omega) only [f111_H18, ux_at, ux_kk, ux_jo, gIm, pIm, pZm, gRm, aIm, sIm, aBm, sBm, gLm, pLm, clm, wshS, obS, reduceIte, Nat.one_ne_zero, Nat.zero_ne_one, Nat.reduceEqDiff, not_true_eq_false, not_false_eq_true, Nat.le_refl, ng_le, ng_lt, ng_nle, ng_nlt, ng_eq, ng_eq2, Bool.false_eq_true, lit_nI, nI_add, pk_mul, nI_leI, nI_ltI, nI_eq, lit_lN, j3, l1, hi2, b3, eo]
        exact ⟨J, L1, rfl, j1, j2, j3, j6⟩
  obtain ⟨I', L', k1, k2⟩ := key
  refine ⟨I', L', ?_, k2⟩
  simp (config := { maxSteps := 2000000 }) (disch := omega) only [f111, ux_at, ux_kk, ux_jo, gIm, pIm, pZm, gRm, aIm, sIm, aBm, sBm, gLm, pLm, clm, wshS, obS, reduceIte, Nat.one_ne_zero, Nat.zero_ne_one, Nat.reduceEqDiff, not_true_eq_false, not_false_eq_true, Nat.le_refl, ng_le, ng_lt, ng_nle, ng_nlt, ng_eq, ng_eq2, Bool.false_eq_true, lit_nI, nI_add, pk_mul, nI_leI, nI_ltI, nI_eq, pLm, lit_lN, e1, a1]
  exact k1
/-- figures -/
theorem m_figs (hT : MT I T N) (hT2 : ∀ i, T i < 256) {b bl : Nat} (hb : b ≤ N) (hbl : bl ≤ 1) (h : I 67 17 = nI b) {lo hi : Int32} (hn : 500 < n) :
    ∃ I', f113 n 67 lo hi (nI bl) (mW I L ru) = some (nI (ffN T N lo hi bl b), mW I' L ru) ∧ Fr [] [16, 17, 20] I I' ∧ (∃ x, x ≤ N ∧ I' 67 17 = nI x) ∧ (ffN T N lo hi bl b = 0 → I' 67 17 = nI (fgN T N b) ∧ I' 67 20 = fvI T N bl b ∧ I' 67 16 = I 67 16) ∧ (ffN T N lo hi bl b = 1 → I' 67 16 = nI b) ∧ (ffN T N lo hi bl b = 2 → I' 67 16 = I 67 21) := by
  have t2 := hT.2.1
  have hge : b ≤ fgN T N b := rnE_ge _ _ _
  have hle : fgN T N b ≤ N := rnE_le hb
  -- behind the figures
  have fin : ∀ J, Fr [] [17, 20] I J → J 67 17 = nI (fgN T N b) → (fgN T N b - b ≤ 2 → J 67 20 = nI (dvN T b (fgN T N b - b))) → ∃ I', f113_J98 n 67 lo hi (nI bl) (nI b) (mW J L ru) = some (nI (ffN T N lo hi bl b), mW I' L ru) ∧ Fr [] [16, 17, 20] I I' ∧ (∃ x, x ≤ N ∧ I' 67 17 = nI x) ∧ (ffN T N lo hi bl b = 0 → I' 67 17 = nI (fgN T N b) ∧ I' 67 20 = fvI T N bl b ∧ I' 67 16 = I 67 16) ∧ (ffN T N lo hi bl b = 1 → I' 67 16 = nI b) ∧ (ffN T N lo hi bl b = 2 → I' 67 16 = I 67 21) := by
    intro J j1 j2 j3
    have n21 : J 67 21 = I 67 21 := j1.f (by decide) (by decide)
    have p16 : J 67 16 = I 67 16 := j1.f (by decide) (by decide)
    by_cases c0 : fgN T N b = b
    · have ef : ffN T N lo hi bl b = 1 := if_pos c0
      rw [c0] at j2
      rw [ef]
      simp (config := { maxSteps := 2000000 }) (disch := omega) only [f113_J98, f46, ux_at, ux_kk, ux_jo, gIm, pIm, pZm, gRm, aIm, sIm, aBm, sBm, gLm, pLm, clm, wshS, obS, reduceIte, Nat.one_ne_zero, Nat.zero_ne_one, Nat.reduceEqDiff, not_true_eq_false, not_false_eq_true, Nat.le_refl, ng_le, ng_lt, ng_nle, ng_nlt, ng_eq, ng_eq2, Bool.false_eq_true, lit_nI, nI_add, pk_mul, nI_leI, nI_ltI, nI_eq, j2]
      exact ⟨_, rfl, (j1.mono (by decide) (by decide)).uf (by decide), ⟨b, hb, (ux_j (by decide)).trans j2⟩, fun z => absurd z (by decide), fun _ => ux_at, fun z => absurd z (by decide)⟩
    · have c0' : ¬ fgN T N b = b := c0
      have es : nI (fgN T N b) - nI b = nI (fgN T N b - b) := pk_sub hge
      by_cases c2 : 2 < fgN T N b - b
      · have ef : ffN T N lo hi bl b = 2 := by
          unfold ffN
          rw [if_neg c0, if_pos c2]
        have e21 : ∀ v, (u2 J 67 20 v) 67 21 = I 67 21 := fun v => (ux_j (by decide)).trans n21
        rw [ef]
        rcases one_or hbl with rfl | rfl
        · simp (config := { maxSteps := 2000000 }) (disch := omega) only [f113_J98, f113_J141, f113_J165, f46, ux_at, ux_kk, ux_jo, gIm, pIm, pZm, gRm, aIm, sIm, aBm, sBm, gLm, pLm, clm, wshS, obS, reduceIte, Nat.one_ne_zero, Nat.zero_ne_one, Nat.reduceEqDiff, not_true_eq_false, not_false_eq_true, Nat.le_refl, ng_le, ng_lt, ng_nle, ng_nlt, ng_eq, ng_eq2, Bool.false_eq_true, lit_nI, nI_add, pk_mul, nI_leI, nI_ltI, nI_eq, j2, c0', es, c2, e21, n21]
          exact ⟨_, rfl, ((j1.mono (by decide) (by decide)).uf (by decide)).uf (by decide), ⟨_, hle, (ux_j (by decide)).trans ((ux_j (by decide)).trans j2)⟩, fun z => absurd z (by decide), fun z => absurd z (by decide), fun _ => ux_at⟩
        · simp (config := { maxSteps := 2000000 }) (disch := omega) only [f113_J98, f113_J141, f113_J165, f46, ux_at, ux_kk, ux_jo, gIm, pIm, pZm, gRm, aIm, sIm, aBm, sBm, gLm, pLm, clm, wshS, obS, reduceIte, Nat.one_ne_zero, Nat.zero_ne_one, Nat.reduceEqDiff, not_true_eq_false, not_false_eq_true, Nat.le_refl, ng_le, ng_lt, ng_nle, ng_nlt, ng_eq, ng_eq2, Bool.false_eq_true, lit_nI, nI_add, pk_mul, nI_leI, nI_ltI, nI_eq, j2, c0', es, c2, e21, n21]
          exact ⟨_, rfl, ((j1.mono (by decide) (by decide)).uf (by decide)).uf (by decide), ⟨_, hle, (ux_j (by decide)).trans ((ux_j (by decide)).trans j2)⟩, fun z => absurd z (by decide), fun z => absurd z (by decide), fun _ => ux_at⟩
      · have j3 := j3 (by omega)
        have e21 : ∀ v, (u2 J 67 20 v) 67 21 = I 67 21 := fun v => (ux_j (by decide)).trans n21
        have nx : ∀ v, v = fvI T N bl b → ∃ I', (if v < lo then (ob (getI (mW (u2 J 67 20 v) L ru) 11 67 21) (fun x47 => ob (f46 67 (nI 2) x47 (mW (u2 J 67 20 v) L ru)) (fun p49 => some (p49.1, p49.2)))) else if hi < v then (ob (getI (mW (u2 J 67 20 v) L ru) 11 67 21) (fun x47 => ob (f46 67 (nI 2) x47 (mW (u2 J 67 20 v) L ru)) (fun p49 => some (p49.1, p49.2)))) else some (nI 0, mW (u2 J 67 20 v) L ru)) = some (nI (ffN T N lo hi bl b), mW I' L ru) ∧ Fr [] [16, 17, 20] I I' ∧ (∃ x, x ≤ N ∧ I' 67 17 = nI x) ∧ (ffN T N lo hi bl b = 0 → I' 67 17 = nI (fgN T N b) ∧ I' 67 20 = fvI T N bl b ∧ I' 67 16 = I 67 16) ∧ (ffN T N lo hi bl b = 1 → I' 67 16 = nI b) ∧ (ffN T N lo hi bl b = 2 → I' 67 16 = I 67 21) := by
          intro v hv
          have ef : ffN T N lo hi bl b = if v < lo then 2 else if hi < v then 2 else 0 := by
            unfold ffN
            rw [if_neg c0, if_neg c2, hv]
          rw [ef]
          by_cases v1 : v < lo
          · simp (config := { maxSteps := 2000000 }) (disch := omega) only [f46, ux_at, ux_kk, ux_jo, gIm, pIm, pZm, gRm, aIm, sIm, aBm, sBm, gLm, pLm, clm, wshS, obS, reduceIte, Nat.one_ne_zero, Nat.zero_ne_one, Nat.reduceEqDiff, not_true_eq_false, not_false_eq_true, Nat.le_refl, ng_le, ng_lt, ng_nle, ng_nlt, ng_eq, ng_eq2, Bool.false_eq_true, lit_nI, nI_add, pk_mul, nI_leI, nI_ltI, nI_eq, v1, n21]
            exact ⟨_, rfl, ((j1.mono (by decide) (by decide)).uf (by decide)).uf (by decide), ⟨_, hle, (ux_j (by decide)).trans ((ux_j (by decide)).trans j2)⟩, fun z => absurd z (by decide), fun z => absurd z (by decide), fun _ => ux_at⟩
          · by_cases v2 : hi < v
            · simp (config := { maxSteps := 2000000 }) (disch := omega) only [f46, ux_at, ux_kk, ux_jo, gIm, pIm, pZm, gRm, aIm, sIm, aBm, sBm, gLm, pLm, clm, wshS, obS, reduceIte, Nat.one_ne_zero, Nat.zero_ne_one, Nat.reduceEqDiff, not_true_eq_false, not_false_eq_true, Nat.le_refl, ng_le, ng_lt, ng_nle, ng_nlt, ng_eq, ng_eq2, Bool.false_eq_true, lit_nI, nI_add, pk_mul, nI_leI, nI_ltI, nI_eq, v1, v2, n21]
              exact ⟨_, rfl, ((j1.mono (by decide) (by decide)).uf (by decide)).uf (by decide), ⟨_, hle, (ux_j (by decide)).trans ((ux_j (by decide)).trans j2)⟩, fun z => absurd z (by decide), fun z => absurd z (by decide), fun _ => ux_at⟩
            · simp (config := { maxSteps := 2000000 }) (disch := omega) only [v1, v2, reduceIte]
              exact ⟨_, rfl, (j1.mono (by decide) (by decide)).uf (by decide), ⟨_, hle, (ux_j (by decide)).trans j2⟩, fun _ => ⟨(ux_j (by decide)).trans j2, ux_at.trans hv, (ux_j (by decide)).trans p16⟩, fun z => absurd z (by decide), fun z => absurd z (by decide)⟩
        have sw := fun v w => s40w v lo hi w
        rcases one_or hbl with rfl | rfl
        · have z := nx _ (show nI (dvN T b (fgN T N b - b)) = fvI T N 0 b from (if_pos rfl).symm)
          by_cases v1 : nI (dvN T b (fgN T N b - b)) < lo
          · simp only [v1, reduceIte] at z
            simp (config := { maxSteps := 2000000 }) (disch := omega) only [f113_J98, f113_J141, f113_J165, ux_at, ux_kk, ux_jo, gIm, pIm, pZm, gRm, aIm, sIm, aBm, sBm, gLm, pLm, clm, wshS, obS, reduceIte, Nat.one_ne_zero, Nat.zero_ne_one, Nat.reduceEqDiff, not_true_eq_false, not_false_eq_true, Nat.le_refl, ng_le, ng_lt, ng_nle, ng_nlt, ng_eq, ng_eq2, Bool.false_eq_true, lit_nI, nI_add, pk_mul, nI_leI, nI_ltI, nI_eq, j2, c0', es, c2, j3, sw, v1]
            simp (config := { maxSteps := 2000000 }) (disch := omega) only [ux_at, ux_kk, ux_jo, gIm, pIm, pZm, gRm, aIm, sIm, aBm, sBm, gLm, pLm, clm, wshS, obS, reduceIte] at z
            exact z
          · by_cases v2 : hi < nI (dvN T b (fgN T N b - b))
            · simp only [v1, v2, reduceIte] at z
              simp (config := { maxSteps := 2000000 }) (disch := omega) only [f113_J98, f113_J141, f113_J165, ux_at, ux_kk, ux_jo, gIm, pIm, pZm, gRm, aIm, sIm, aBm, sBm, gLm, pLm, clm, wshS, obS, reduceIte, Nat.one_ne_zero, Nat.zero_ne_one, Nat.reduceEqDiff, not_true_eq_false, not_false_eq_true, Nat.le_refl, ng_le, ng_lt, ng_nle, ng_nlt, ng_eq, ng_eq2, Bool.false_eq_true, lit_nI, nI_add, pk_mul, nI_leI, nI_ltI, nI_eq, j2, c0', es, c2, j3, sw, v1, v2]
              simp (config := { maxSteps := 2000000 }) (disch := omega) only [ux_at, ux_kk, ux_jo, gIm, pIm, pZm, gRm, aIm, sIm, aBm, sBm, gLm, pLm, clm, wshS, obS, reduceIte] at z
              exact z
            · simp only [v1, v2, reduceIte] at z
              simp (config := { maxSteps := 2000000 }) (disch := omega) only [f113_J98, f113_J141, f113_J165, ux_at, ux_kk, ux_jo, gIm, pIm, pZm, gRm, aIm, sIm, aBm, sBm, gLm, pLm, clm, wshS, obS, reduceIte, Nat.one_ne_zero, Nat.zero_ne_one, Nat.reduceEqDiff, not_true_eq_false, not_false_eq_true, Nat.le_refl, ng_le, ng_lt, ng_nle, ng_nlt, ng_eq, ng_eq2, Bool.false_eq_true, lit_nI, nI_add, pk_mul, nI_leI, nI_ltI, nI_eq, j2, c0', es, c2, j3, sw, v1, v2]
              exact z
        · have z := nx _ (show -nI (dvN T b (fgN T N b - b)) = fvI T N 1 b from (if_neg (by decide)).symm)
          by_cases v1 : -nI (dvN T b (fgN T N b - b)) < lo
          · simp only [v1, reduceIte] at z
            simp (config := { maxSteps := 2000000 }) (disch := omega) only [f113_J98, f113_J141, f113_J165, ux_at, ux_kk, ux_jo, gIm, pIm, pZm, gRm, aIm, sIm, aBm, sBm, gLm, pLm, clm, wshS, obS, reduceIte, Nat.one_ne_zero, Nat.zero_ne_one, Nat.reduceEqDiff, not_true_eq_false, not_false_eq_true, Nat.le_refl, ng_le, ng_lt, ng_nle, ng_nlt, ng_eq, ng_eq2, Bool.false_eq_true, lit_nI, nI_add, pk_mul, nI_leI, nI_ltI, nI_eq, j2, c0', es, c2, j3, sw, v1]
            simp (config := { maxSteps := 2000000 }) (disch := omega) only [ux_at, ux_kk, ux_jo, gIm, pIm, pZm, gRm, aIm, sIm, aBm, sBm, gLm, pLm, clm, wshS, obS, reduceIte] at z
            exact z
          · by_cases v2 : hi < -nI (dvN T b (fgN T N b - b))
            · simp only [v1, v2, reduceIte] at z
              simp (config := { maxSteps := 2000000 }) (disch := omega) only [f113_J98, f113_J141, f113_J165, ux_at, ux_kk, ux_jo, gIm, pIm, pZm, gRm, aIm, sIm, aBm, sBm, gLm, pLm, clm, wshS, obS, reduceIte, Nat.one_ne_zero, Nat.zero_ne_one, Nat.reduceEqDiff, not_true_eq_false, not_false_eq_true, Nat.le_refl, ng_le, ng_lt, ng_nle, ng_nlt, ng_eq, ng_eq2, Bool.false_eq_true, lit_nI, nI_add, pk_mul, nI_leI, nI_ltI, nI_eq, j2, c0', es, c2, j3, sw, v1, v2]
              simp (config := { maxSteps := 2000000 }) (disch := omega) only [ux_at, ux_kk, ux_jo, gIm, pIm, pZm, gRm, aIm, sIm, aBm, sBm, gLm, pLm, clm, wshS, obS, reduceIte] at z
              exact z
            · simp only [v1, v2, reduceIte] at z
              simp (config := { maxSteps := 2000000 }) (disch := omega) only [f113_J98, f113_J141, f113_J165, ux_at, ux_kk, ux_jo, gIm, pIm, pZm, gRm, aIm, sIm, aBm, sBm, gLm, pLm, clm, wshS, obS, reduceIte, Nat.one_ne_zero, Nat.zero_ne_one, Nat.reduceEqDiff, not_true_eq_false, not_false_eq_true, Nat.le_refl, ng_le, ng_lt, ng_nle, ng_nlt, ng_eq, ng_eq2, Bool.false_eq_true, lit_nI, nI_add, pk_mul, nI_leI, nI_ltI, nI_eq, j2, c0', es, c2, j3, sw, v1, v2]
              exact z
  have key := lpP (F := fun k i J => f113_H11 n (fun e0 e1 e2 e3 e4 w38 => f113_J98 n e0 e1 e2 e3 e4 w38) k 67 lo hi (nI bl) (nI b) (mW J L ru)) (P := fun y => ∃ I', y = some (nI (ffN T N lo hi bl b), mW I' L ru) ∧ Fr [] [16, 17, 20] I I' ∧ (∃ x, x ≤ N ∧ I' 67 17 = nI x) ∧ (ffN T N lo hi bl b = 0 → I' 67 17 = nI (fgN T N b) ∧ I' 67 20 = fvI T N bl b ∧ I' 67 16 = I 67 16) ∧ (ffN T N lo hi bl b = 1 → I' 67 16 = nI b) ∧ (ffN T N lo hi bl b = 2 → I' 67 16 = I 67 21)) (J := fun i J => Fr [] [17, 20] I J ∧ J 67 17 = nI i ∧ b ≤ i ∧ fgN T N b = fgN T N i ∧ (i - b ≤ 2 → J 67 20 = nI (dvN T b (i - b)))) N ?_ ?_ n b (u2 I 67 20 (nI 0)) hb (by omega) ⟨Fr.rf.uf (by decide), (ux_j (by decide)).trans h, Nat.le_refl _, rfl, fun _ => by rw [Nat.sub_self]; exact ux_at⟩
  · simp (config := { maxSteps := 2000000 }) (disch := omega) only [f113, ux_at, ux_kk, ux_jo, gIm, pIm, pZm, gRm, aIm, sIm, aBm, sBm, gLm, pLm, clm, wshS, obS, reduceIte, Nat.one_ne_zero, Nat.zero_ne_one, Nat.reduceEqDiff, not_true_eq_false, not_false_eq_true, Nat.le_refl, ng_le, ng_lt, ng_nle, ng_nlt, ng_eq, ng_eq2, Bool.false_eq_true, lit_nI, nI_add, pk_mul, nI_leI, nI_ltI, nI_eq, h]
    exact key
  · rintro k J ⟨j1, j2, j3, j4, j5⟩
    have e : fgN T N N = N := rnE_stop fun z => absurd z (Nat.lt_irrefl _)
    have l1 : J 67 15 = nI N := (j1.f (by decide) (by decide)).trans hT.1
    have z := fin J j1 (by rw [j4, e]; exact j2) (by rw [j4, e]; exact j5)
    simp (config := { maxSteps := 2000000 }) (disch := omega) only [f113_H11, ux_at, ux_kk, ux_jo, gIm, pIm, pZm, gRm, aIm, sIm, aBm, sBm, gLm, pLm, clm, wshS, obS, reduceIte, Nat.one_ne_zero, Nat.zero_ne_one, Nat.reduceEqDiff, not_true_eq_false, not_false_eq_true, Nat.le_refl, ng_le, ng_lt, ng_nle, ng_nlt, ng_eq, ng_eq2, Bool.false_eq_true, lit_nI, nI_add, pk_mul, nI_leI, nI_ltI, nI_eq, j2, l1]
    exact z
  · rintro k i J hi2 ⟨j1, j2, j3, j4, j5⟩ ih
    have l1 : J 67 15 = nI N := (j1.f (by decide) (by decide)).trans hT.1
    have hi3 : ¬ N ≤ i := by omega
    obtain ⟨b1, b2⟩ := hT.2.2 i hi2
    have b3 : J 76 i = nI (T i) := by rw [j1.at (by decide) (by decide)]; exact b2
    by_cases q : 48 ≤ T i ∧ T i ≤ 57
    · obtain ⟨q1, q2⟩ := q
      have e : fgN T N i = fgN T N (i + 1) := rnE_step hi2 (by rw [fgP_t]; exact ⟨q1, q2⟩)
      have ei := s40i (w := mW J L ru) q1 q2 (show 57 < 2 ^ 31 by decide)
      have z := fun v (hv : i + 1 - b ≤ 2 → v = nI (dvN T b (i + 1 - b))) => ih (u2 (u2 J 67 20 v) 67 17 (nI (i + 1))) ⟨(j1.uf (by decide)).uf (by decide), ux_at, by omega, j4.trans e, fun y => (ux_j (by decide)).trans (ux_at.trans (hv y))⟩
      have a17 : ∀ v, (u2 J 67 20 v) 67 17 = nI i := fun v => (ux_j (by decide)).trans j2
      by_cases c : J 67 20 ≤ nI 10000
      · have z := z (nI 10 * J 67 20 + nI (T i) - nI 48) (fun y => by
          rw [j5 (by omega), pk_mul, nI_add, pk_sub (by omega)]
          congr 1
          unfold dvN
          rcases (show i - b = 0 ∨ i - b = 1 by omega) with e0 | e0
          · have : i = b := by omega
            subst this
            rw [e0, show i + 1 - i = 1 by omega, if_pos rfl, if_neg (by decide), if_pos rfl]
            omega
          · have : i = b + 1 := by omega
            subst this
            rw [e0, show b + 1 + 1 - b = 2 by omega, if_neg (by decide), if_pos rfl, if_neg (by decide), if_neg (by decide)]
            have := rnE_in (P := fgP T) (N := N) (a := b) (i := b) (Nat.le_refl _) (by
              have h1 : fgN T N b = fgN T N (b + 1) := j4
              have h2 : b + 1 ≤ fgN T N (b + 1) := rnE_ge _ _ _
              show b < fgN T N b
              omega)
            rw [fgP_t] at this
            omega)
        simp (config := { maxSteps := 2000000 }) (disch := omega) only [f113_H11, f113_J82, ux_at, ux_kk, ux_jo, gIm, pIm, pZm, gRm, aIm, sIm, aBm, sBm, gLm, pLm, clm, wshS, obS, reduceIte, Nat.one_ne_zero, Nat.zero_ne_one, Nat.reduceEqDiff, not_true_eq_false, not_false_eq_true, Nat.le_refl, ng_le, ng_lt, ng_nle, ng_nlt, ng_eq, ng_eq2, Bool.false_eq_true, lit_nI, nI_add, pk_mul, nI_leI, nI_ltI, nI_eq, lit_lN, j2, l1, hi3, b3, ei, c]
        exact z
      · have z := z (J 67 20) (fun y => by
          exfalso
          have h1 := j5 (by omega)
          rw [h1] at c
          have h3 : dvN T b (i - b) ≤ 10000 := by
            unfold dvN
            have := hT2 b
            have := hT2 (b + 1)
            split
            · omega
            · split <;> omega
          exact c (nI_le h3 (by decide)))
        simp (config := { maxSteps := 2000000 }) (disch := omega) only [f113_H11, f113_J82, ux_at, ux_kk, ux_jo, gIm, pIm, pZm, gRm, aIm, sIm, aBm, sBm, gLm, pLm, clm, wshS, obS, reduceIte, Nat.one_ne_zero, Nat.zero_ne_one, Nat.reduceEqDiff, not_true_eq_false, not_false_eq_true, Nat.le_refl, ng_le, ng_lt, ng_nle, ng_nlt, ng_eq, ng_eq2, Bool.false_eq_true, lit_nI, nI_add, pk_mul, nI_leI, nI_ltI, nI_eq, lit_lN, j2, l1, hi3, b3, ei, c]
        exact z
    · have e : fgN T N i = i := rnE_stop fun _ => bf (by rw [fgP_t]; exact q)
      have ho : nI (T i) < nI 48 ∨ nI 57 < nI (T i) := by
        by_cases q1 : T i < 48
        · exact Or.inl (nI_lt q1 (by decide))
        · exact Or.inr (nI_lt (by omega) (by omega))
      have eo := s40o (w := mW J L ru) (show 48 < 2 ^ 31 by decide) (show 57 < 2 ^ 31 by decide) ho
      have z := fin J j1 (by rw [j4, e]; exact j2) (by rw [j4, e]; exact j5)
      simp (config := { maxSteps := 2000000 }) (disch := omega) only [f113_H11, ux_at, ux_kk, ux_jo, gIm, pIm, pZm, gRm, aIm, sIm, aBm, sBm, gLm, pLm, clm, wshS, obS, reduceIte, Nat.one_ne_zero, Nat.zero_ne_one, Nat.reduceEqDiff, not_true_eq_false, not_false_eq_true, Nat.le_refl, ng_le, ng_lt, ng_nle, ng_nlt, ng_eq, ng_eq2, Bool.false_eq_true, lit_nI, nI_add, pk_mul, nI_leI, nI_ltI, nI_eq, lit_lN, j2, l1, hi3, b3, eo]
      exact z
/-- a number without a sign -/
theorem m_num (hT : MT I T N) (hT2 : ∀ i, T i < 256) {a : Nat} (ha : a ≤ N) (h : I 67 17 = nI a) {lo hi : Int32} (hn : 500 < n) :
    ∃ I', f161 n 67 lo hi (mW I L ru) = some (nI (ffN T N lo hi 0 (skN T N a)), mW I' L ru) ∧ Fr [] [16, 17, 20, 21] I I' ∧ I' 67 21 = nI (skN T N a) ∧ (∃ x, x ≤ N ∧ I' 67 17 = nI x) ∧ (ffN T N lo hi 0 (skN T N a) = 0 → I' 67 17 = nI (fgN T N (skN T N a)) ∧ I' 67 20 = fvI T N 0 (skN T N a) ∧ I' 67 16 = I 67 16) ∧ (ffN T N lo hi 0 (skN T N a) ≠ 0 → I' 67 16 = nI (skN T N a)) := by
  obtain ⟨I1, e1, f1, a1⟩ := m_here (L := L) (ru := ru) (n := n) hT ha h hn
  have hb := skN_le (T := T) ha
  have t2 := hT.2.1
  generalize hbd : skN T N a = b at *
  by_cases q : b < N ∧ T b = 45
  · have eb : btI T N b = nI 45 := by
      unfold btI
      rw [if_pos q.1, q.2]
    have ef : ffN T N lo hi 0 b = 1 := if_pos (rnE_stop fun _ => bf (by rw [fgP_t]; omega))
    have a2 : (u2 I1 67 21 (nI b)) 67 17 = nI b := (ux_j (by decide)).trans a1
    rw [eb] at e1
    rw [ef]
    refine ⟨_, ?_, ((f1.mono (by decide) (by decide)).uf (j := 21) (v := nI b) (by decide)).uf (j := 16) (v := nI b) (by decide), (ux_j (by decide)).trans ux_at, ⟨b, hb, (ux_j (by decide)).trans a2⟩, fun z => absurd z (by decide), fun _ => ux_at⟩
    simp (config := { maxSteps := 2000000 }) (disch := omega) only [f161, f46, ux_at, ux_kk, ux_jo, gIm, pIm, pZm, gRm, aIm, sIm, aBm, sBm, gLm, pLm, clm, wshS, obS, reduceIte, Nat.one_ne_zero, Nat.zero_ne_one, Nat.reduceEqDiff, not_true_eq_false, not_false_eq_true, Nat.le_refl, ng_le, ng_lt, ng_nle, ng_nlt, ng_eq, ng_eq2, Bool.false_eq_true, lit_nI, nI_add, pk_mul, nI_leI, nI_ltI, nI_eq, e1, a1, a2]
  · have eb : ¬ btI T N b = nI 45 := by
      unfold btI
      by_cases h1 : b < N
      · rw [if_pos h1]
        have := (hT.2.2 b h1).1
        intro z
        rw [nI_eq (by omega) (by decide)] at z
        exact q ⟨h1, z⟩
      · rw [if_neg h1]
        decide +kernel
    have g1 : Fr [] [17, 21] I (u2 I1 67 21 (nI b)) := (f1.mono (by decide) (by decide)).uf (by decide)
    have a2 : (u2 I1 67 21 (nI b)) 67 17 = nI b := (ux_j (by decide)).trans a1
    obtain ⟨I2, e2, f2, x2, c0, c1, c2⟩ := m_figs (L := L) (ru := ru) (n := n) (bl := 0) (lo := lo) (hi := hi) (hT.fr g1 (by decide) (by decide) (by decide)) hT2 hb (by decide) a2 hn
    have n21 : (u2 I1 67 21 (nI b)) 67 21 = nI b := ux_at
    refine ⟨I2, ?_, (g1.mono (by decide) (by decide)).tr (f2.mono (by decide) (by decide)), (f2.f (by decide) (by decide)).trans n21, x2, fun z => ?_, fun z => ?_⟩
    · simp (config := { maxSteps := 2000000 }) (disch := omega) only [f161, ux_at, ux_kk, ux_jo, gIm, pIm, pZm, gRm, aIm, sIm, aBm, sBm, gLm, pLm, clm, wshS, obS, reduceIte, Nat.one_ne_zero, Nat.zero_ne_one, Nat.reduceEqDiff, not_true_eq_false, not_false_eq_true, Nat.le_refl, ng_le, ng_lt, ng_nle, ng_nlt, ng_eq, ng_eq2, Bool.false_eq_true, lit_nI, nI_add, pk_mul, nI_leI, nI_ltI, nI_eq, e1, eb, a1, e2]
    · obtain ⟨d1, d2, d3⟩ := c0 z
      exact ⟨d1, d2, d3.trans (g1.f (by decide) (by decide))⟩
    · have := ffN_le T N lo hi 0 b
      rcases (show ffN T N lo hi 0 b = 1 ∨ ffN T N lo hi 0 b = 2 by omega) with y | y
      · exact c1 y
      · exact (c2 y).trans n21
end
