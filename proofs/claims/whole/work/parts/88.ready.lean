/-! THE CLASS: the crew made ready -/
/-- the blind sorts, as a mask -/
def blmN (A : St) : Nat → Nat
  | 0 => 0
  | i + 1 => if i < nsN A ∧ wayN A i = 3 then blmN A i ||| 2 ^ i else blmN A i
theorem blmN_lt (A : St) : ∀ i, i ≤ 6 → blmN A i < 64
  | 0, _ => by show 0 < 64; decide
  | i + 1, h => by
    have ih := blmN_lt A i (by omega)
    have h2 := p2_lt64 i (by omega)
    unfold blmN
    split
    · exact Nat.or_lt_two_pow (n := 6) ih h2
    · exact ih
theorem blmN_bit (A : St) (s : Nat) : ∀ i, (blmN A i).testBit s = decide (s < i ∧ s < nsN A ∧ wayN A s = 3)
  | 0 => by
    show (0 : Nat).testBit s = _
    simp
  | i + 1 => by
    have ih := blmN_bit A s i
    have e : blmN A (i + 1) = if i < nsN A ∧ wayN A i = 3 then blmN A i ||| 2 ^ i else blmN A i := rfl
    rw [e]
    by_cases q : i < nsN A ∧ wayN A i = 3
    · rw [if_pos q, Nat.testBit_or, ih, Nat.testBit_two_pow]
      by_cases es : i = s
      · subst es
        simp [q.1, q.2]
      · simp [es]
        by_cases h1 : s < i
        · simp [h1, Nat.lt_succ_of_lt h1]
        · have : ¬ s < i + 1 := by omega
          simp [h1, this]
    · rw [if_neg q, ih]
      by_cases es : i = s
      · subst es
        have h1 : ¬ i < i := Nat.lt_irrefl _
        simp only [h1, false_and, decide_false, Nat.lt_succ_self, true_and]
        simp [q]
      · by_cases h1 : s < i
        · simp [h1, Nat.lt_succ_of_lt h1]
        · have : ¬ s < i + 1 := by omega
          simp [h1, this]
theorem bl_bD {A : St} {s : Nat} (hs : s < nsN A) (h6 : nsN A ≤ 6) : (blmN A 6).testBit s = blD A 0 s := by
  rw [blmN_bit]
  unfold blD
  have : s < 6 := by omega
  by_cases h : wayN A s = 3
  · simp [h, hs, this]
  · simp [h]
/-- the tally of those that see -/
def EsN (A : St) (m : Nat) (p : Nat → Nat) : Nat → Tl
  | 0 => []
  | i + 1 => if blD A m i then EsN A m p i else (i, p i, perN A i) :: EsN A m p i
theorem EsN_c {A : St} {m : Nat} {p : Nat → Nat} : ∀ i, (∀ s, s < i → p s < 5) → tlN (EsN A m p i) = c3N A m p 0 i ∧ tqN 2 (EsN A m p i) = c3N A m p 1 i ∧ trN (EsN A m p i) = c3N A m p 2 i
  | 0, _ => ⟨rfl, rfl, rfl⟩
  | i + 1, h => by
    obtain ⟨a, b, c⟩ := EsN_c (A := A) (m := m) i fun s hs => h s (by omega)
    have h5 := h i (by omega)
    have e : EsN A m p (i + 1) = if blD A m i then EsN A m p i else (i, p i, perN A i) :: EsN A m p i := rfl
    have c0 : ∀ d, c3N A m p d (i + 1) = c3N A m p d i + (if blD A m i then 0 else if sdN (p i) = d then perN A i else 0) := fun d => rfl
    have tc : tqN 2 ((i, p i, perN A i) :: EsN A m p i) = (if p i = 2 then perN A i else 0) + tqN 2 (EsN A m p i) := rfl
    rw [e, c0, c0, c0]
    by_cases q : blD A m i
    · rw [if_pos q, if_pos q, if_pos q, if_pos q]
      exact ⟨a, b, c⟩
    · rw [if_neg q, if_neg q, if_neg q, if_neg q, tlN_cons h5, trN_cons h5, tc, a, b, c]
      rcases sdN_c (p i) with ⟨x, y⟩ | ⟨x, y⟩ | ⟨x, y⟩
      · have z1 : ¬ p i = 2 := by omega
        have z2 : ¬ 2 < p i := by omega
        rw [y, if_pos x, if_neg z1, if_neg z2, if_pos rfl, if_neg (by decide), if_neg (by decide)]
        omega
      · have z1 : ¬ p i < 2 := by omega
        have z2 : ¬ 2 < p i := by omega
        rw [y, if_neg z1, if_pos x, if_neg z2, if_neg (by decide), if_pos rfl, if_neg (by decide)]
        omega
      · have z1 : ¬ p i < 2 := by omega
        have z2 : ¬ p i = 2 := by omega
        rw [y, if_neg z1, if_neg z2, if_pos x, if_neg (by decide), if_neg (by decide), if_pos rfl]
        omega
theorem EsN_n {A : St} (hW : WFs A) {m : Nat} {p : Nat → Nat} {i : Nat} (hi : i ≤ nsN A) (h : ∀ s, s < i → p s < 5) : tnN (EsN A m p i) < 200 := by
  obtain ⟨a, b, c⟩ := EsN_c (A := A) (m := m) i h
  have h1 := c3N_le (p := p) (m := m) (d := 0) hW hi
  have h2 := c3N_le (p := p) (m := m) (d := 1) hW hi
  have h3 := c3N_le (p := p) (m := m) (d := 2) hW hi
  rw [tn_split, a, b, c]
  omega
/-- the digits of the packed presses -/
def DG (I : St) (F : Nat → Nat → Nat) : Prop := ∀ p, p < 512 → ∃ N, I 48 p = nI N ∧ N < 2 ^ 18 ∧ ∀ t, t < 6 → dgN N t = F p t
theorem DG.fr {I I' : St} {G : Nat → Nat → Nat} (h : DG I G) {K F : List Nat} (f : Fr K F I I') (hK : 48 ∉ K) : DG I' G := fun p hp => by
  rw [f.at hK (by decide)]
  exact h p hp
/-- one digit written -/
theorem DG.put {I : St} {G : Nat → Nat → Nat} (h : DG I G) {p s u : Nat} (hp : p < 512) (hs : s < 6) (hu : u < 8) (h0 : G p s = 0) {N : Nat} (hN : I 48 p = nI N) (hN2 : N < 2 ^ 18) (hN3 : ∀ t, t < 6 → dgN N t = G p t) : DG (u2 I 48 p (nI (N ||| u * 8 ^ s))) (fun q t => if q = p ∧ t = s then u else G q t) := by
  intro q hq
  rw [ux_if]
  by_cases e : q = p
  · rw [if_pos e]
    refine ⟨_, rfl, put_lt hN2 hu hs, fun t ht => ?_⟩
    rw [dg_put hu hs ((hN3 s hs).trans h0) ht, hN3 t ht, e]
    by_cases e2 : t = s
    · simp [e2]
    · simp [e2]
  · rw [if_neg e]
    obtain ⟨M, a, b, c⟩ := h q hq
    refine ⟨M, a, b, fun t ht => ?_⟩
    rw [c t ht]
    simp [e]
theorem DG.iff {I : St} {G G' : Nat → Nat → Nat} (h : DG I G) (e : ∀ p, p < 512 → ∀ t, t < 6 → G p t = G' p t) : DG I G' := fun p hp => by
  obtain ⟨N, a, b, c⟩ := h p hp
  exact ⟨N, a, b, fun t ht => (c t ht).trans (e p hp t ht)⟩
/-- the crew's table -/
def PK (I A : St) : Prop := ∀ p, p < 512 → ∃ N, I 48 p = nI N ∧ N < 2 ^ 18 ∧ ∀ s, s < nsN A → dgN N s = prsN A (p / 8) (p % 8) s
def CXc (I A : St) : Prop := I 47 2 = nI 0 ∨ (I 47 2 = nI 1 ∧ PK I A)
section
variable {I A : St} {L : Lt} {ru n : Nat}
theorem x_blindSorts (hH : CH I A) (hW : WF A) (hn : 6 < n) : f22 n 34 (mW I L ru) = some (nI (blmN A 6), mW I L ru) := by
  have h6 := ns6 hW.1
  refine lpE (F := fun k i s => f22_H4 n (fun e w => some (e, w)) k 34 s (nI i) (mW I L ru)) (J := fun i => nI (blmN A i)) 6 ?_ ?_ n 0 (by omega) (by omega)
  · intro k
    simp (config := { maxSteps := 2000000 }) (disch := omega) only [f22_H4, ux_at, ux_kk, ux_jo, gIx, pIx, pZx, gRx, aIx, sIx, aBx, sBx, lenx, clx, wshS, obS, reduceIte, Nat.one_ne_zero, Nat.zero_ne_one, Nat.reduceEqDiff, not_true_eq_false, not_false_eq_true, Nat.le_refl, ng_le, ng_lt, ng_nle, ng_nlt, ng_eq, ng_eq2, Bool.false_eq_true, lit_nI, nI_add, pk_mul, nI_leI, nI_ltI, nI_eq]
  · intro k i hi
    have hi2 : ¬ 6 ≤ i := by omega
    have e : blmN A (i + 1) = if i < nsN A ∧ wayN A i = 3 then blmN A i ||| 2 ^ i else blmN A i := rfl
    rw [e]
    by_cases hs : i < nsN A
    · obtain ⟨w1, w2⟩ := way_nI hW.2 hs
      have e1 := (hH.1 i hs).1
      by_cases h3 : wayN A i = 3
      · rw [if_pos ⟨hs, h3⟩]
        simp (config := { maxSteps := 2000000 }) (disch := omega) only [f22_H4, ux_at, ux_kk, ux_jo, gIx, pIx, pZx, gRx, aIx, sIx, aBx, sBx, lenx, clx, wshS, obS, reduceIte, Nat.one_ne_zero, Nat.zero_ne_one, Nat.reduceEqDiff, not_true_eq_false, not_false_eq_true, Nat.le_refl, ng_le, ng_lt, ng_nle, ng_nlt, ng_eq, ng_eq2, Bool.false_eq_true, lit_nI, nI_add, pk_mul, nI_leI, nI_ltI, nI_eq, hi2, e1, w1, h3, shl_nI, or_nIg]
      · rw [if_neg (fun z => h3 z.2)]
        simp (config := { maxSteps := 2000000 }) (disch := omega) only [f22_H4, ux_at, ux_kk, ux_jo, gIx, pIx, pZx, gRx, aIx, sIx, aBx, sBx, lenx, clx, wshS, obS, reduceIte, Nat.one_ne_zero, Nat.zero_ne_one, Nat.reduceEqDiff, not_true_eq_false, not_false_eq_true, Nat.le_refl, ng_le, ng_lt, ng_nle, ng_nlt, ng_eq, ng_eq2, Bool.false_eq_true, lit_nI, nI_add, pk_mul, nI_leI, nI_ltI, nI_eq, hi2, e1, w1, h3]
    · have e1 := hH.2 i (by omega) hi
      rw [if_neg (fun z => hs z.1)]
      simp (config := { maxSteps := 2000000 }) (disch := omega) only [f22_H4, ux_at, ux_kk, ux_jo, gIx, pIx, pZx, gRx, aIx, sIx, aBx, sBx, lenx, clx, wshS, obS, reduceIte, Nat.one_ne_zero, Nat.zero_ne_one, Nat.reduceEqDiff, not_true_eq_false, not_false_eq_true, Nat.le_refl, ng_le, ng_lt, ng_nle, ng_nlt, ng_eq, ng_eq2, Bool.false_eq_true, lit_nI, nI_add, pk_mul, nI_leI, nI_ltI, nI_eq, hi2, e1]
theorem l198 (hS : CS I A) (hW : WFs A) {s i : Nat} (hs : s < nsN A) (hi : i < 4) (hL : LT I A s i) (hn : 600 < n) {rec6 : _} {K6 : _} {K11 : Nat → Int32 → Int32 → Int32 → Wd → Option Wd} {hh : Int32} {P : Option Wd → Prop}
    (hK : ∀ J, Fr [49] [] I J → (∀ c h, c < 64 → h < 8 → J 49 (8 * c + h) = iI (bvZ A s (i + 1) c h)) → P (K11 47 (nI s) hh (nI (i + 1)) (mW J L ru))) : P (f198_H18 n rec6 K6 K11 n 47 (nI s) hh (nI (i + 1)) (nI 0) (mW I L ru)) := by
  refine lpP (F := fun k p J => f198_H18 n rec6 K6 K11 k 47 (nI s) hh (nI (i + 1)) (nI p) (mW J L ru)) (P := P) (J := fun p J => Fr [49] [] I J ∧ ∀ c h, c < 64 → h < 8 → 8 * c + h < p → J 49 (8 * c + h) = iI (bvZ A s (i + 1) c h)) 512 ?_ ?_ n 0 I (by omega) (by omega) ⟨Fr.rf, fun c h _ _ z => absurd z (Nat.not_lt_zero _)⟩
  · intro k J hJ
    simp (config := { maxSteps := 2000000 }) (disch := omega) only [f198_H18, ux_at, ux_kk, ux_jo, gIx, pIx, pZx, gRx, aIx, sIx, aBx, sBx, lenx, clx, wshS, obS, reduceIte, Nat.one_ne_zero, Nat.zero_ne_one, Nat.reduceEqDiff, not_true_eq_false, not_false_eq_true, Nat.le_refl, ng_le, ng_lt, ng_nle, ng_nlt, ng_eq, ng_eq2, Bool.false_eq_true, lit_nI, nI_add, pk_mul, nI_leI, nI_ltI, nI_eq]
    exact hK J hJ.1 fun c h a b => hJ.2 c h a b (by omega)
  · intro k p J hp hJ ih
    have hp2 : ¬ 512 ≤ p := by omega
    have hSJ := hS.fr hW hJ.1 (by decide)
    have hLJ : LT J A s i := fun c h a b => (congrFun (hJ.1.at (by decide) (by decide)) _).trans (hL c h a b)
    have hpc : p / 8 < 64 := by omega
    have hph : p % 8 < 8 := Nat.mod_lt _ (by decide)
    have hpp : 8 * (p / 8) + p % 8 = p := by omega
    have e1 := x_wisest (L := L) (ru := ru) (n := n) hSJ hW hs hpc hph hi hLJ (by omega)
    have e2 := x_foreseen (L := L) (ru := ru) hSJ hW hs hpc hph (ahdN_lt A s i (p / 8) (p % 8)) hLJ
    rw [hpp] at e1 e2
    simp (config := { maxSteps := 2000000 }) (disch := omega) only [f198_H18, ux_at, ux_kk, ux_jo, gIx, pIx, pZx, gRx, aIx, sIx, aBx, sBx, lenx, clx, wshS, obS, reduceIte, Nat.one_ne_zero, Nat.zero_ne_one, Nat.reduceEqDiff, not_true_eq_false, not_false_eq_true, Nat.le_refl, ng_le, ng_lt, ng_nle, ng_nlt, ng_eq, ng_eq2, Bool.false_eq_true, lit_nI, nI_add, pk_mul, nI_leI, nI_ltI, nI_eq, hp2, e1, e2]
    refine ih _ ⟨hJ.1.u (by decide), fun c h a b d => ?_⟩
    rw [ux_if]
    by_cases q : 8 * c + h = p
    · have q1 : p / 8 = c := by omega
      have q2 : p % 8 = h := by omega
      rw [if_pos q, q1, q2]
      rfl
    · rw [if_neg q]
      exact hJ.2 c h a b (by omega)
theorem x_lookAhead (hS : CS I A) (hW : WFs A) {s Kk : Nat} (hs : s < nsN A) (hK : Kk < 4) (hn : 1000 < n) : ∃ I', f198 n 47 (nI s) (nI (Kk + 1)) (mW I L ru) = some (mW I' L ru) ∧ Fr [49, 50] [] I I' ∧ LT I' A s Kk := by
  have h6 := ns6 hW
  obtain ⟨I1, e1, f1, z1⟩ := x_fill (I := I) (L := L) (ru := ru) (n := n) (v := 0) (k := 50) sh_50 (by decide) hn
  have f1' : Fr [49, 50] [] I I1 := f1.mono (by decide) (by decide)
  simp (config := { maxSteps := 2000000 }) (disch := omega) only [f198, ux_at, ux_kk, ux_jo, gIx, pIx, pZx, gRx, aIx, sIx, aBx, sBx, lenx, clx, wshS, obS, reduceIte, lit_nI, e1]
  refine lpP (F := fun k i J => f198_H10 n (fun w24 => some w24) k 47 (nI s) (nI (Kk + 1)) (nI (i + 1)) (mW J L ru)) (P := fun x => ∃ I', x = some (mW I' L ru) ∧ Fr [49, 50] [] I I' ∧ LT I' A s Kk) (J := fun i J => Fr [49, 50] [] I J ∧ LT J A s i) Kk ?_ ?_ n 0 I1 (by omega) (by omega) ⟨f1', fun c h hc hh => (z1 (8 * c + h) (by omega)).trans iI_0.symm⟩
  · intro k J hJ
    simp (config := { maxSteps := 2000000 }) (disch := omega) only [f198_H10, ux_at, ux_kk, ux_jo, gIx, pIx, pZx, gRx, aIx, sIx, aBx, sBx, lenx, clx, wshS, obS, reduceIte, Nat.one_ne_zero, Nat.zero_ne_one, Nat.reduceEqDiff, not_true_eq_false, not_false_eq_true, Nat.le_refl, ng_le, ng_lt, ng_nle, ng_nlt, ng_eq, ng_eq2, Bool.false_eq_true, lit_nI, nI_add, pk_mul, nI_leI, nI_ltI, nI_eq]
    exact ⟨J, rfl, hJ⟩
  · intro k i J hi hJ ih
    have hi2 : ¬ Kk + 1 ≤ i + 1 := by omega
    have hSJ := hS.fr hW hJ.1 (by decide)
    simp (config := { maxSteps := 2000000 }) (disch := omega) only [f198_H10, ux_at, ux_kk, ux_jo, gIx, pIx, pZx, gRx, aIx, sIx, aBx, sBx, lenx, clx, wshS, obS, reduceIte, Nat.one_ne_zero, Nat.zero_ne_one, Nat.reduceEqDiff, not_true_eq_false, not_false_eq_true, Nat.le_refl, ng_le, ng_lt, ng_nle, ng_nlt, ng_eq, ng_eq2, Bool.false_eq_true, lit_nI, nI_add, pk_mul, nI_leI, nI_ltI, nI_eq, hi2]
    refine l198 (P := fun x => ∃ I', x = some (mW I' L ru) ∧ Fr [49, 50] [] I I' ∧ LT I' A s Kk) hSJ hW hs (by omega) hJ.2 (by omega) fun J2 f2 b2 => ?_
    obtain ⟨J3, e3, f3, b3⟩ := x_cpy (I := J2) (L := L) (ru := ru) sh_49 sh_50 (by decide)
    simp (config := { maxSteps := 2000000 }) (disch := omega) only [ux_at, ux_kk, ux_jo, gIx, pIx, pZx, gRx, aIx, sIx, aBx, sBx, lenx, clx, wshS, obS, reduceIte, Nat.one_ne_zero, Nat.zero_ne_one, Nat.reduceEqDiff, not_true_eq_false, not_false_eq_true, Nat.le_refl, ng_le, ng_lt, ng_nle, ng_nlt, ng_eq, ng_eq2, Bool.false_eq_true, lit_nI, nI_add, pk_mul, nI_leI, nI_ltI, nI_eq, e3]
    refine ih J3 ⟨hJ.1.tr ((f2.mono (by decide) (by decide)).tr (f3.mono (by decide) (by decide))), fun c h a b => ?_⟩
    rw [b3 _ (by omega)]
    exact b2 c h a b
/-- one sort's presses written -/
theorem x_workOut (hS : CS I A) (hH : CH I A) (hW : WF A) {s : Nat} (hs : s < nsN A) (hb : wayN A s ≠ 3) (hL : wayN A s = 2 → LT I A s (wByN A s - 1)) {G : Nat → Nat → Nat} (hD : DG I G) (h0 : ∀ p, p < 512 → G p s = 0) (hn : 1000 < n) :
    ∃ I', f199 n 47 (nI s) (mW I L ru) = some (mW I' L ru) ∧ Fr [48] [] I I' ∧ DG I' (fun p t => if t = s then tbcN A s (p / 8) (p % 8) else G p t) := by
  have h6 := ns6 hW.1
  obtain ⟨w1, w2⟩ := hH.1 s hs
  have key : ∃ I', f199_H21 n (fun w25 => some w25) n 47 (nI s) (A 72 s) (A 73 s) (nI 0) (mW I L ru) = some (mW I' L ru) ∧ Fr [48] [] I I' ∧ DG I' (fun p t => if t = s then tbcN A s (p / 8) (p % 8) else G p t) := by
    refine lpP (F := fun k p J => f199_H21 n (fun w25 => some w25) k 47 (nI s) (A 72 s) (A 73 s) (nI p) (mW J L ru)) (P := fun x => ∃ I', x = some (mW I' L ru) ∧ Fr [48] [] I I' ∧ DG I' (fun p t => if t = s then tbcN A s (p / 8) (p % 8) else G p t)) (J := fun p J => Fr [48] [] I J ∧ DG J (fun q t => if t = s ∧ q < p then tbcN A s (q / 8) (q % 8) else G q t)) 512 ?_ ?_ n 0 I (by omega) (by omega) ⟨Fr.rf, hD.iff fun p hp t ht => by rw [if_neg (fun z => absurd z.2 (Nat.not_lt_zero _))]⟩
    · intro k J hJ
      simp (config := { maxSteps := 2000000 }) (disch := omega) only [f199_H21, ux_at, ux_kk, ux_jo, gIx, pIx, pZx, gRx, aIx, sIx, aBx, sBx, lenx, clx, wshS, obS, reduceIte, Nat.one_ne_zero, Nat.zero_ne_one, Nat.reduceEqDiff, not_true_eq_false, not_false_eq_true, Nat.le_refl, ng_le, ng_lt, ng_nle, ng_nlt, ng_eq, ng_eq2, Bool.false_eq_true, lit_nI, nI_add, pk_mul, nI_leI, nI_ltI, nI_eq]
      refine ⟨J, rfl, hJ.1, hJ.2.iff fun p hp t ht => ?_⟩
      by_cases e : t = s
      · rw [if_pos ⟨e, hp⟩, if_pos e]
      · rw [if_neg (fun z => e z.1), if_neg e]
    · intro k p J hp hJ ih
      have hp2 : ¬ 512 ≤ p := by omega
      have hSJ := hS.fr hW.1 hJ.1 (by decide)
      have hpc : p / 8 < 64 := by omega
      have hph : p % 8 < 8 := Nat.mod_lt _ (by decide)
      have hpp : 8 * (p / 8) + p % 8 = p := by omega
      have e1 := x_nearest (L := L) (ru := ru) (n := n) hSJ hW.1 hs hpc hph (by omega)
      rw [hpp] at e1
      have htb := tbcN_lt hW.2 hs (p / 8) (p % 8)
      obtain ⟨N, a, b, c⟩ := hJ.2 p hp
      have hdz : (fun q t => if t = s ∧ q < p then tbcN A s (q / 8) (q % 8) else G q t) p s = 0 := by
        show (if s = s ∧ p < p then _ else G p s) = 0
        rw [if_neg (fun z => absurd z.2 (Nat.lt_irrefl _))]
        exact h0 p hp
      have hput := hJ.2.put hp (show s < 6 by omega) (show tbcN A s (p / 8) (p % 8) < 8 by omega) hdz a b c
      have e2 := x_write (I := J) (L := L) (ru := ru) (s := s) (p := p) (u := tbcN A s (p / 8) (p % 8)) (by omega) hp htb a
      have fin : ∀ J', J' = u2 J 48 p (nI (N ||| tbcN A s (p / 8) (p % 8) * 8 ^ s)) → ∃ I', f199_H21 n (fun w25 => some w25) k 47 (nI s) (A 72 s) (A 73 s) (nI (p + 1)) (mW J' L ru) = some (mW I' L ru) ∧ Fr [48] [] I I' ∧ DG I' (fun p t => if t = s then tbcN A s (p / 8) (p % 8) else G p t) := by
        intro J' hJ'
        subst hJ'
        refine ih _ ⟨hJ.1.u (by decide), hput.iff fun q hq t ht => ?_⟩
        by_cases e : q = p
        · subst e
          by_cases e2 : t = s
          · rw [if_pos ⟨rfl, e2⟩, if_pos ⟨e2, Nat.lt_succ_self _⟩]
          · rw [if_neg (fun z => e2 z.2), if_neg (fun z => e2 z.1), if_neg (fun z => e2 z.1)]
        · rw [if_neg (fun z => e z.1)]
          by_cases e2 : t = s ∧ q < p
          · rw [if_pos e2, if_pos ⟨e2.1, by omega⟩]
          · rw [if_neg e2, if_neg (fun z => e2 ⟨z.1, by omega⟩)]
      have hpl := plnN_lt A s (p / 8) (p % 8)
      rcases hW.2.1 s hs with ⟨e, -⟩ | ⟨e, -⟩ | ⟨e, q, q1, q4, e4⟩ | ⟨e, -⟩ | ⟨e, e4⟩
      · have ht : tbcN A s (p / 8) (p % 8) = plnN A s (p / 8) (p % 8) + 1 := if_pos (wayN_of e (by decide))
        rw [ht, ← pI_t] at e2
        rw [ht] at fin
        simp (config := { maxSteps := 2000000 }) (disch := omega) only [f199_H21, f199_J45, f199_J61, f199_J76, ux_at, ux_kk, ux_jo, gIx, pIx, pZx, gRx, aIx, sIx, aBx, sBx, lenx, clx, wshS, obS, reduceIte, Nat.one_ne_zero, Nat.zero_ne_one, Nat.reduceEqDiff, not_true_eq_false, not_false_eq_true, Nat.le_refl, ng_le, ng_lt, ng_nle, ng_nlt, ng_eq, ng_eq2, Bool.false_eq_true, lit_nI, nI_add, pk_mul, nI_leI, nI_ltI, nI_eq, hp2, e, e1, e2]
        rw [e] at fin
        exact fin _ rfl
      · have ht : tbcN A s (p / 8) (p % 8) = 2 * plnN A s (p / 8) (p % 8) := by
          have := wayN_of e (by decide)
          unfold tbcN
          rw [if_neg (by omega), if_pos this]
        rw [ht, ← pI_2t _ hpl] at e2
        rw [ht] at fin
        simp (config := { maxSteps := 2000000 }) (disch := omega) only [f199_H21, f199_J45, f199_J61, f199_J76, ux_at, ux_kk, ux_jo, gIx, pIx, pZx, gRx, aIx, sIx, aBx, sBx, lenx, clx, wshS, obS, reduceIte, Nat.one_ne_zero, Nat.zero_ne_one, Nat.reduceEqDiff, not_true_eq_false, not_false_eq_true, Nat.le_refl, ng_le, ng_lt, ng_nle, ng_nlt, ng_eq, ng_eq2, Bool.false_eq_true, lit_nI, nI_add, pk_mul, nI_leI, nI_ltI, nI_eq, hp2, e, e1, e2]
        rw [e] at fin
        exact fin _ rfl
      · have hw : wByN A s = q := by
          unfold wByN
          rw [e4, nI_clamp (by omega)]
        have hLJ : LT J A s (wByN A s - 1) := fun c h a b => (congrFun (hJ.1.at (by decide) (by decide)) _).trans (hL (wayN_of e (by decide)) c h a b)
        have e5 := x_wisest (L := L) (ru := ru) (n := n) hSJ hW.1 hs hpc hph (show wByN A s - 1 < 4 by omega) hLJ (by omega)
        rw [hpp, show wByN A s - 1 + 1 = q by omega] at e5
        have ht : tbcN A s (p / 8) (p % 8) = ahdN A s (wByN A s - 1) (p / 8) (p % 8) + 1 := by
          have := wayN_of e (by decide)
          unfold tbcN
          rw [if_neg (by omega), if_neg (by omega), if_pos this]
        rw [ht, ← pI_t] at e2
        rw [ht] at fin
        simp (config := { maxSteps := 2000000 }) (disch := omega) only [f199_H21, f199_J45, f199_J61, f199_J76, ux_at, ux_kk, ux_jo, gIx, pIx, pZx, gRx, aIx, sIx, aBx, sBx, lenx, clx, wshS, obS, reduceIte, Nat.one_ne_zero, Nat.zero_ne_one, Nat.reduceEqDiff, not_true_eq_false, not_false_eq_true, Nat.le_refl, ng_le, ng_lt, ng_nle, ng_nlt, ng_eq, ng_eq2, Bool.false_eq_true, lit_nI, nI_add, pk_mul, nI_leI, nI_ltI, nI_eq, hp2, e, e4, e5, e2]
        rw [e, e4] at fin
        exact fin _ rfl
      · exact absurd (wayN_of e (by decide)) hb
      · have ht : tbcN A s (p / 8) (p % 8) = tldN A s := by
          have := wayN_of e (by decide)
          unfold tbcN
          rw [if_neg (by omega), if_neg (by omega), if_neg (by omega), if_neg (by omega)]
        have e6 := (tld_ok e4).1
        rw [ht] at e2 fin
        simp (config := { maxSteps := 2000000 }) (disch := omega) only [f199_H21, f199_J45, f199_J61, f199_J76, ux_at, ux_kk, ux_jo, gIx, pIx, pZx, gRx, aIx, sIx, aBx, sBx, lenx, clx, wshS, obS, reduceIte, Nat.one_ne_zero, Nat.zero_ne_one, Nat.reduceEqDiff, not_true_eq_false, not_false_eq_true, Nat.le_refl, ng_le, ng_lt, ng_nle, ng_nlt, ng_eq, ng_eq2, Bool.false_eq_true, lit_nI, nI_add, pk_mul, nI_leI, nI_ltI, nI_eq, hp2, e, e6, e2]
        rw [e, e6] at fin
        exact fin _ rfl
  obtain ⟨I', k1, k2⟩ := key
  refine ⟨I', ?_, k2⟩
  simp (config := { maxSteps := 2000000 }) (disch := omega) only [f199, ux_at, ux_kk, ux_jo, gIx, pIx, pZx, gRx, aIx, sIx, aBx, sBx, lenx, clx, wshS, obS, reduceIte, lit_nI, x_wayOf, x_strengthOf, w1, w2]
  exact k1
/-- what the most of those press that see -/
theorem x_mostSeeing (hS : CS I A) (hW : WF A) {p N : Nat} (hp : p < 512) (hN : I 48 p = nI N) (hN2 : N < 2 ^ 18) {F : Nat → Nat} (hF : ∀ s, s < nsN A → blD A 0 s = false → dgN N s = F s ∧ F s < 5) (hF5 : ∀ s, s < nsN A → F s < 5) (hn : 10 < n) :
    ∃ I', f149 n 47 (nI p) (nI (blmN A 6)) (mW I L ru) = some (tI (mostN (c3N A 0 F 0 (nsN A)) (c3N A 0 F 1 (nsN A)) (c3N A 0 F 2 (nsN A))), mW I' L ru) ∧ Fr [51] [] I I' := by
  have h6 := ns6 hW.1
  have hbm := blmN_lt A 6 (by decide)
  obtain ⟨I1, e1, f1, t1, -⟩ := x_empty (I := I) (L := L) (ru := ru) (k := 51) sh_51 (by decide)
  simp (config := { maxSteps := 2000000 }) (disch := omega) only [f149, ux_at, ux_kk, ux_jo, gIx, pIx, pZx, gRx, aIx, sIx, aBx, sBx, lenx, clx, wshS, obS, reduceIte, lit_nI, e1]
  refine lpP (F := fun k i J => f149_H9 n (fun e0 w26 => ob (getR w26 2 e0 6) (fun x27 => (if (wsh w26 x27).map (fun q => q.1) = some 8 then ob (f25 x27 w26) (fun p29 => some (p29.1, p29.2)) else none))) k 47 (nI p) (nI (blmN A 6)) (nI i) (mW J L ru)) (P := fun x => ∃ I', x = some (tI (mostN (c3N A 0 F 0 (nsN A)) (c3N A 0 F 1 (nsN A)) (c3N A 0 F 2 (nsN A))), mW I' L ru) ∧ Fr [51] [] I I') (J := fun i J => Fr [51] [] I J ∧ TL J 51 (EsN A 0 F i)) (nsN A) ?_ ?_ n 0 I1 (by omega) (by omega) ⟨f1, t1⟩
  · intro k J hJ
    have hSJ := hS.fr hW.1 hJ.1 (by decide)
    have hnn := EsN_n (m := 0) hW.1 (Nat.le_refl _) hF5
    obtain ⟨c0, c1, c2⟩ := EsN_c (A := A) (m := 0) (nsN A) hF5
    have e2 := x_most (L := L) (ru := ru) sh_51 hJ.2 (by omega)
    rw [c0, c1, c2] at e2
    simp (config := { maxSteps := 2000000 }) (disch := omega) only [f149_H9, ux_at, ux_kk, ux_jo, gIx, pIx, pZx, gRx, aIx, sIx, aBx, sBx, lenx, clx, wshS, obS, reduceIte, Nat.one_ne_zero, Nat.zero_ne_one, Nat.reduceEqDiff, not_true_eq_false, not_false_eq_true, Nat.le_refl, ng_le, ng_lt, ng_nle, ng_nlt, ng_eq, ng_eq2, Bool.false_eq_true, lit_nI, nI_add, pk_mul, nI_leI, nI_ltI, nI_eq, csA hSJ, e2]
    exact ⟨J, rfl, hJ.1⟩
  · intro k i J hi hJ ih
    have hi2 : ¬ nsN A ≤ i := by omega
    have hSJ := hS.fr hW.1 hJ.1 (by decide)
    have hb := bl_bD hi h6
    have e9 : EsN A 0 F (i + 1) = if blD A 0 i then EsN A 0 F i else (i, F i, perN A i) :: EsN A 0 F i := rfl
    by_cases q : blD A 0 i
    · rw [if_pos q] at e9
      rw [q] at hb
      simp (config := { maxSteps := 2000000 }) (disch := omega) only [f149_H9, ux_at, ux_kk, ux_jo, gIx, pIx, pZx, gRx, aIx, sIx, aBx, sBx, lenx, clx, wshS, obS, reduceIte, Nat.one_ne_zero, Nat.zero_ne_one, Nat.reduceEqDiff, not_true_eq_false, not_false_eq_true, Nat.le_refl, ng_le, ng_lt, ng_nle, ng_nlt, ng_eq, ng_eq2, Bool.false_eq_true, lit_nI, nI_add, pk_mul, nI_leI, nI_ltI, nI_eq, csA hSJ, hi2, x_holds, bN, hb]
      exact ih J ⟨hJ.1, by rw [e9]; exact hJ.2⟩
    · rw [if_neg q] at e9
      have q : blD A 0 i = false := by simpa using q
      rw [q] at hb
      obtain ⟨g1, g2⟩ := hF i hi q
      have hNJ : J 48 p = nI N := (congrFun (hJ.1.at (by decide) (by decide)) p).trans hN
      have e2 := x_press (L := L) (ru := ru) hSJ hW.1 hi hp hNJ hN2
      rw [g1] at e2
      obtain ⟨J2, e3, f3, t3, -⟩ := x_add (L := L) (ru := ru) (s := i) (u := F i) (m := perN A i) sh_51 hJ.2 (by omega) g2
      have e4 : A 69 i = nI (perN A i) := (wfA hW.1).2.2.2.2.1 i hi
      simp (config := { maxSteps := 2000000 }) (disch := omega) only [f149_H9, ux_at, ux_kk, ux_jo, gIx, pIx, pZx, gRx, aIx, sIx, aBx, sBx, lenx, clx, wshS, obS, reduceIte, Nat.one_ne_zero, Nat.zero_ne_one, Nat.reduceEqDiff, not_true_eq_false, not_false_eq_true, Nat.le_refl, ng_le, ng_lt, ng_nle, ng_nlt, ng_eq, ng_eq2, Bool.false_eq_true, lit_nI, nI_add, pk_mul, nI_leI, nI_ltI, nI_eq, csA hSJ, hi2, x_holds, bN, hb, e2, x_personsOf hSJ hW.1 hi, e4, e3]
      exact ih J2 ⟨hJ.1.tr f3, by rw [e9]; exact t3⟩
end
