/-! THE CLASS: which turns can be counted at a place -/
theorem andx : ∀ a, a < 64 → ∀ m, m < 64 → nI a &&& (nI m ^^^ (-nI 1)) = nI (a &&& (63 ^^^ m)) := by decide +kernel
theorem andx_bit : ∀ m, m < 64 → ∀ s, s < 6 → (63 ^^^ m).testBit s = !(m.testBit s) := by decide +kernel
theorem pI_neg : ∀ H, H < 3 → -nI H = pI (2 - H) := by decide +kernel
theorem pI_gt : ∀ H, H < 3 → ∀ u, u < 6 → (nI H < pI u) = (2 + H < u) := by decide +kernel
theorem or7 : ∀ a, a < 8 → 7 ||| a = 7 := by decide
/-- blind, though not of the set: as a mask -/
def bmN (A : St) (m : Nat) : Nat := blmN A 6 &&& (63 ^^^ m)
theorem bm_bit {A : St} {m s : Nat} (hm : m < 64) (hs : s < 6) : (bmN A m).testBit s = (decide (s < nsN A) && blD A m s) := by
  unfold bmN blD
  rw [Nat.testBit_and, blmN_bit, andx_bit m hm s hs]
  by_cases a : s < nsN A
  · by_cases b : wayN A s = 3
    · simp [a, b, hs]
    · simp [a, b]
  · simp [a]
theorem bm_lt {A : St} (m : Nat) : bmN A m < 64 := Nat.lt_of_le_of_lt Nat.and_le_left (blmN_lt A 6 (by decide))
theorem c3N_cg {A : St} {m d : Nat} {p q : Nat → Nat} : ∀ i, (∀ s, s < i → blD A m s = false → p s = q s) → c3N A m p d i = c3N A m q d i
  | 0, _ => rfl
  | i + 1, h => by
    have ih := c3N_cg (A := A) (m := m) (d := d) (p := p) (q := q) i fun s hs => h s (by omega)
    have e : ∀ r, c3N A m r d (i + 1) = c3N A m r d i + (if blD A m i then 0 else if sdN (r i) = d then perN A i else 0) := fun r => rfl
    rw [e, e, ih]
    by_cases b : blD A m i = true
    · rw [if_pos b, if_pos b]
    · have b2 : blD A m i = false := by simpa using b
      rw [if_neg b, if_neg b, h i (Nat.lt_succ_self _) b2]
theorem EcN_cg {A : St} {p q : Nat → Nat} : ∀ i, (∀ s, s < i → p s = q s) → EcN A p i = EcN A q i
  | 0, _ => rfl
  | i + 1, h => by
    have ih := EcN_cg (A := A) (p := p) (q := q) i fun s hs => h s (by omega)
    have e : ∀ r, EcN A r (i + 1) = (i, r i, perN A i) :: EcN A r i := fun r => rfl
    rw [e, e, ih, h i (Nat.lt_succ_self _)]
theorem tprN_cg {A : St} {p q : Nat → Nat} {j : Nat} : ∀ i, (∀ s, s < i → p s = q s) → tprN A p j i = tprN A q j i
  | 0, _ => rfl
  | i + 1, h => by
    have ih := tprN_cg (A := A) (p := p) (q := q) (j := j) i fun s hs => h s (by omega)
    have e : ∀ r, tprN A r j (i + 1) = if sumN (perN A) i ≤ j ∧ j < sumN (perN A) (i + 1) then r i else tprN A r j i := fun r => rfl
    rw [e, e, ih, h i (Nat.lt_succ_self _)]
theorem cntN_cg {A : St} {ρ p q : Nat → Nat} {hour : Nat} (h : ∀ s, s < nsN A → p s = q s) : cntN A ρ p hour = cntN A ρ q hour := by
  unfold cntN
  rw [EcN_cg _ h, tprN_cg _ h]
theorem EcN_1 {A : St} {p : Nat → Nat} : ∀ i, ∀ e, e ∈ EcN A p i → e.1 < i
  | 0, e, he => by cases he
  | i + 1, e, he => by
    rcases List.mem_cons.mp he with rfl | he
    · exact Nat.lt_succ_self _
    · have := EcN_1 i e he
      omega
/-- the sort in turn, where that counts -/
def sirN (A : St) (ρ : Nat → Nat) (hour : Nat) : Nat := if ρ 0 = 3 then sitN A hour else 0
theorem sirN_lt {A : St} (hW : WFs A) (ρ : Nat → Nat) (hour : Nat) : sirN A ρ hour < 6 := by
  unfold sirN
  split
  · exact sitN_lt hW hour
  · decide
theorem all0 {A : St} (hW : WFs A) (h : allN A = 0) : nsN A = 0 := by
  have : ∀ i, i ≤ nsN A → i ≤ sumN (perN A) i := by
    intro i
    induction i with
    | zero => intro _; exact Nat.zero_le _
    | succ i ih =>
      intro hi
      have := ih (by omega)
      have h1 := (per_le hW (show i < nsN A by omega)).1
      show i + 1 ≤ sumN (perN A) i + perN A i
      omega
  have := this _ (Nat.le_refl _)
  unfold allN at h
  omega
theorem cnt_sir {A : St} (hW : WFs A) {ρ p : Nat → Nat} {hour : Nat} (h5 : ∀ s, s < nsN A → p s < 5) : decN (ρ 0) (ρ 1) (ρ 2) (EcN A p (nsN A)) (p (sirN A ρ hour)) = cntN A ρ p hour := by
  unfold cntN
  by_cases h0 : allN A = 0
  · have hn := all0 hW h0
    have e : tnN (EcN A p (nsN A)) = 0 := by
      rw [EcN_q _ h5]
      exact h0
    unfold decN
    rw [if_pos e, if_pos e]
  · by_cases h3 : ρ 0 = 3
    · have e1 : sirN A ρ hour = srtN A (hour % allN A) (nsN A) := by
        unfold sirN sitN
        rw [if_pos h3, if_neg h0]
      have e2 : turnN A hour = hour % allN A := if_neg h0
      have hl := Nat.mod_lt hour (show 0 < allN A by omega)
      rw [e1, e2, (tpr_s (A := A) (p := p) (nsN A) hl).1]
    · exact decN_tp h3 _ _ _
/-- the masks of the counting -/
def MKs (I A : St) (ρ : Nat → Nat) (m : Nat) : Prop := ∀ p, p < 512 → ∃ N, I 53 p = nI N ∧ N < 2 ^ 18 ∧ ∀ t, t < 6 → dgN N t ≠ 0 → ∀ hour, sirN A ρ hour = t → mayN A ρ m hour (p / 8) (p % 8) = dgN N t
/-- the counting has begun, for a rule and a set -/
def CN (I A : St) (ρ : Nat → Nat) (m r : Nat) : Prop := nwS r = some (5, 5) ∧ RX I r ρ ∧ I 52 3 = nI m ∧ I 52 4 = nI 0 ∧ MKs I A ρ m
abbrev cnK : List Nat := [53, 54, 55]
theorem MKs.fr {I I' A : St} {ρ : Nat → Nat} {m : Nat} (h : MKs I A ρ m) {K F : List Nat} (f : Fr K F I I') (hk : 53 ∉ K) : MKs I' A ρ m := by
  have e := f.at hk (by decide)
  unfold MKs
  rw [e]
  exact h
theorem CN.fr {I I' A : St} {ρ : Nat → Nat} {m r : Nat} (h : CN I A ρ m r) {K F : List Nat} (f : Fr K F I I') (h1 : r ∉ K) (h2 : r ≠ 67) (h3 : 52 ∉ K) (h4 : 53 ∉ K) : CN I' A ρ m r := by
  obtain ⟨a, b, c, d, e⟩ := h
  have e1 := f.at h3 (by decide)
  refine ⟨a, b.fr f h1 h2, ?_, ?_, e.fr f h4⟩
  · rw [e1]; exact c
  · rw [e1]; exact d
theorem rr_ne {r : Nat} (h : nwS r = some (5, 5)) : r ≠ 67 := by
  rintro rfl
  rw [sh_67] at h
  exact absurd h (by decide)
theorem rr_nc {r : Nat} (h : nwS r = some (5, 5)) : r ∉ cnK := by
  intro q
  have : ∀ k, k ∈ cnK → r = k → False := by
    intro k hk e
    subst e
    rcases List.mem_cons.mp hk with e | hk
    · rw [e, sh_53] at h
      exact absurd h (by decide)
    · rcases List.mem_cons.mp hk with e | hk
      · rw [e, sh_54] at h
        exact absurd h (by decide)
      · rcases List.mem_cons.mp hk with e | hk
        · rw [e, sh_55] at h
          exact absurd h (by decide)
        · cases hk
  exact this r q rfl
section
variable {I A : St} {L : Lt} {ru n : Nat}
theorem x_pressAlike {m u : Nat} {q : Nat → Nat} (hm : m < 64) (h3 : I 52 3 = nI m) (hq : ∀ s, s < 6 → I 54 s = pI (q s)) (hn : 10 < n) : ∃ I', f100 n 52 (pI u) (mW I L ru) = some (mW I' L ru) ∧ Fr [54] [] I I' ∧ ∀ s, s < 6 → I' 54 s = pI (if m.testBit s then u else q s) := by
  refine lpP (F := fun k i J => f100_H2 n (fun w => some w) k 52 (pI u) (nI i) (mW J L ru)) (P := fun x => ∃ I', x = some (mW I' L ru) ∧ Fr [54] [] I I' ∧ ∀ s, s < 6 → I' 54 s = pI (if m.testBit s then u else q s)) (J := fun i J => Fr [54] [] I J ∧ ∀ s, s < 6 → J 54 s = pI (if m.testBit s ∧ s < i then u else q s)) 6 ?_ ?_ n 0 I (by omega) (by omega) ⟨Fr.rf, fun s hs => by rw [hq s hs, if_neg (by omega)]⟩
  · intro k J hJ
    simp (config := { maxSteps := 2000000 }) (disch := omega) only [f100_H2, ux_at, ux_kk, ux_jo, gIx, pIx, pZx, gRx, aIx, sIx, aBx, sBx, lenx, clx, wshS, obS, reduceIte, Nat.one_ne_zero, Nat.zero_ne_one, Nat.reduceEqDiff, not_true_eq_false, not_false_eq_true, Nat.le_refl, ng_le, ng_lt, ng_nle, ng_nlt, ng_eq, ng_eq2, Bool.false_eq_true, lit_nI, nI_add, pk_mul, nI_leI, nI_ltI, nI_eq]
    refine ⟨J, rfl, hJ.1, fun s hs => ?_⟩
    rw [hJ.2 s hs]
    simp only [hs, and_true]
  · intro k i J hi hJ ih
    have hi2 : ¬ 6 ≤ i := by omega
    have h3J : J 52 3 = nI m := (congrFun (hJ.1.at (by decide) (by decide)) _).trans h3
    by_cases b : m.testBit i = true
    · simp (config := { maxSteps := 2000000 }) (disch := omega) only [f100_H2, ux_at, ux_kk, ux_jo, gIx, pIx, pZx, gRx, aIx, sIx, aBx, sBx, lenx, clx, wshS, obS, reduceIte, Nat.one_ne_zero, Nat.zero_ne_one, Nat.reduceEqDiff, not_true_eq_false, not_false_eq_true, Nat.le_refl, ng_le, ng_lt, ng_nle, ng_nlt, ng_eq, ng_eq2, Bool.false_eq_true, lit_nI, nI_add, pk_mul, nI_leI, nI_ltI, nI_eq, hi2, h3J, x_holds, bN, b]
      refine ih _ ⟨hJ.1.u (by decide), fun s hs => ?_⟩
      rw [ux_if]
      by_cases e : s = i
      · rw [if_pos e, if_pos (by subst e; exact ⟨b, Nat.lt_succ_self _⟩)]
      · rw [if_neg e, hJ.2 s hs]
        have : (s < i + 1) = (s < i) := propext (by omega)
        simp only [this]
    · simp (config := { maxSteps := 2000000 }) (disch := omega) only [f100_H2, ux_at, ux_kk, ux_jo, gIx, pIx, pZx, gRx, aIx, sIx, aBx, sBx, lenx, clx, wshS, obS, reduceIte, Nat.one_ne_zero, Nat.zero_ne_one, Nat.reduceEqDiff, not_true_eq_false, not_false_eq_true, Nat.le_refl, ng_le, ng_lt, ng_nle, ng_nlt, ng_eq, ng_eq2, Bool.false_eq_true, lit_nI, nI_add, pk_mul, nI_leI, nI_ltI, nI_eq, hi2, h3J, x_holds, bN, b]
      refine ih _ ⟨hJ.1, fun s hs => ?_⟩
      rw [hJ.2 s hs]
      by_cases e : s = i
      · subst e
        simp only [b, Bool.false_eq_true, false_and]
      · have : (s < i + 1) = (s < i) := propext (by omega)
        simp only [this]
theorem x_follow (hS : CS I A) (hW : WF A) {m : Nat} (hm : m < 64) {q : Nat → Nat} (hq : ∀ s, s < 6 → I 54 s = pI (q s) ∧ q s < 5) (hn : 10 < n) : ∃ I', f152 n 52 (nI (bmN A m)) (mW I L ru) = some (mW I' L ru) ∧ Fr [54, 55] [] I I' ∧ ∀ s, s < 6 → I' 54 s = pI (if (bmN A m).testBit s then mostN (c3N A m q 0 (nsN A)) (c3N A m q 1 (nsN A)) (c3N A m q 2 (nsN A)) + 1 else q s) := by
  have h6 := ns6 hW.1
  have hbm := bm_lt (A := A) m
  obtain ⟨I1, e1, f1, t1, -⟩ := x_empty (I := I) (L := L) (ru := ru) (k := 55) sh_55 (by decide)
  simp (config := { maxSteps := 2000000 }) (disch := omega) only [f152, ux_at, ux_kk, ux_jo, gIx, pIx, pZx, gRx, aIx, sIx, aBx, sBx, lenx, clx, wshS, obS, reduceIte, lit_nI, e1]
  refine lpP (F := fun k i J => f152_H9 n (fun e0 e1 w23 => ob (getR w23 0 e0 7) (fun x24 => (if (wsh w23 x24).map (fun q => q.1) = some 8 then ob (f25 x24 w23) (fun p26 => f152_H61 n (fun w36 => some w36) n e0 e1 p26.1 (nI 0) p26.2) else none))) k 52 (nI (bmN A m)) (nI i) (mW J L ru)) (P := fun x => ∃ I', x = some (mW I' L ru) ∧ Fr [54, 55] [] I I' ∧ ∀ s, s < 6 → I' 54 s = pI (if (bmN A m).testBit s then mostN (c3N A m q 0 (nsN A)) (c3N A m q 1 (nsN A)) (c3N A m q 2 (nsN A)) + 1 else q s)) (J := fun i J => Fr [55] [] I J ∧ ∃ E, TL J 55 E ∧ tlN E = c3N A m q 0 (if i < nsN A then i else nsN A) ∧ tqN 2 E = c3N A m q 1 (if i < nsN A then i else nsN A) ∧ trN E = c3N A m q 2 (if i < nsN A then i else nsN A)) 6 ?_ ?_ n 0 I1 (by omega) (by omega) ⟨f1, [], t1, ?_⟩
  · rintro k J ⟨j1, E, j2, j3, j4, j5⟩
    rw [if_neg (by omega)] at j3 j4 j5
    have b0 := c3N_le (p := q) (m := m) (d := 0) hW.1 (Nat.le_refl (nsN A))
    have b1 := c3N_le (p := q) (m := m) (d := 1) hW.1 (Nat.le_refl (nsN A))
    have b2 := c3N_le (p := q) (m := m) (d := 2) hW.1 (Nat.le_refl (nsN A))
    have e2 := x_most (L := L) (ru := ru) sh_55 j2 (by rw [tn_split]; omega)
    rw [j3, j4, j5] at e2
    simp (config := { maxSteps := 2000000 }) (disch := omega) only [f152_H9, ux_at, ux_kk, ux_jo, gIx, pIx, pZx, gRx, aIx, sIx, aBx, sBx, lenx, clx, wshS, obS, reduceIte, Nat.one_ne_zero, Nat.zero_ne_one, Nat.reduceEqDiff, not_true_eq_false, not_false_eq_true, Nat.le_refl, ng_le, ng_lt, ng_nle, ng_nlt, ng_eq, ng_eq2, Bool.false_eq_true, lit_nI, nI_add, pk_mul, nI_leI, nI_ltI, nI_eq, e2]
    have hm3 := mostN_lt (c3N A m q 0 (nsN A)) (c3N A m q 1 (nsN A)) (c3N A m q 2 (nsN A))
    generalize mostN (c3N A m q 0 (nsN A)) (c3N A m q 1 (nsN A)) (c3N A m q 2 (nsN A)) = mo at *
    refine lpP (F := fun k i J => f152_H61 n (fun w => some w) k 52 (nI (bmN A m)) (tI mo) (nI i) (mW J L ru)) (P := fun x => ∃ I', x = some (mW I' L ru) ∧ Fr [54, 55] [] I I' ∧ ∀ s, s < 6 → I' 54 s = pI (if (bmN A m).testBit s then mo + 1 else q s)) (J := fun i J => Fr [54, 55] [] I J ∧ ∀ s, s < 6 → J 54 s = pI (if (bmN A m).testBit s ∧ s < i then mo + 1 else q s)) 6 ?_ ?_ n 0 J (by omega) (by omega) ⟨j1.mono (by decide) (by decide), fun s hs => by rw [j1.at (by decide) (by decide), (hq s hs).1, if_neg (by omega)]⟩
    · intro k J hJ
      simp (config := { maxSteps := 2000000 }) (disch := omega) only [f152_H61, ux_at, ux_kk, ux_jo, gIx, pIx, pZx, gRx, aIx, sIx, aBx, sBx, lenx, clx, wshS, obS, reduceIte, Nat.one_ne_zero, Nat.zero_ne_one, Nat.reduceEqDiff, not_true_eq_false, not_false_eq_true, Nat.le_refl, ng_le, ng_lt, ng_nle, ng_nlt, ng_eq, ng_eq2, Bool.false_eq_true, lit_nI, nI_add, pk_mul, nI_leI, nI_ltI, nI_eq]
      refine ⟨J, rfl, hJ.1, fun s hs => ?_⟩
      rw [hJ.2 s hs]
      simp only [hs, and_true]
    · intro k i J hi hJ ih
      have hi2 : ¬ 6 ≤ i := by omega
      by_cases b : (bmN A m).testBit i = true
      · simp (config := { maxSteps := 2000000 }) (disch := omega) only [f152_H61, ux_at, ux_kk, ux_jo, gIx, pIx, pZx, gRx, aIx, sIx, aBx, sBx, lenx, clx, wshS, obS, reduceIte, Nat.one_ne_zero, Nat.zero_ne_one, Nat.reduceEqDiff, not_true_eq_false, not_false_eq_true, Nat.le_refl, ng_le, ng_lt, ng_nle, ng_nlt, ng_eq, ng_eq2, Bool.false_eq_true, lit_nI, nI_add, pk_mul, nI_leI, nI_ltI, nI_eq, hi2, x_holds, bN, b]
        refine ih _ ⟨hJ.1.u (by decide), fun s hs => ?_⟩
        rw [ux_if]
        by_cases e : s = i
        · rw [if_pos e, if_pos (by subst e; exact ⟨b, Nat.lt_succ_self _⟩), pI_t]
        · rw [if_neg e, hJ.2 s hs]
          have : (s < i + 1) = (s < i) := propext (by omega)
          simp only [this]
      · simp (config := { maxSteps := 2000000 }) (disch := omega) only [f152_H61, ux_at, ux_kk, ux_jo, gIx, pIx, pZx, gRx, aIx, sIx, aBx, sBx, lenx, clx, wshS, obS, reduceIte, Nat.one_ne_zero, Nat.zero_ne_one, Nat.reduceEqDiff, not_true_eq_false, not_false_eq_true, Nat.le_refl, ng_le, ng_lt, ng_nle, ng_nlt, ng_eq, ng_eq2, Bool.false_eq_true, lit_nI, nI_add, pk_mul, nI_leI, nI_ltI, nI_eq, hi2, x_holds, bN, b]
        refine ih _ ⟨hJ.1, fun s hs => ?_⟩
        rw [hJ.2 s hs]
        by_cases e : s = i
        · subst e
          simp only [b, Bool.false_eq_true, false_and]
        · have : (s < i + 1) = (s < i) := propext (by omega)
          simp only [this]
  · rintro k i J hi ⟨j1, E, j2, j3, j4, j5⟩ ih
    have hi2 : ¬ 6 ≤ i := by omega
    have hSJ := hS.fr hW.1 j1 (by decide)
    have hr : J 54 i = pI (q i) := (congrFun (j1.at (by decide) (by decide)) _).trans (hq i hi).1
    have hb := bm_bit (A := A) hm hi
    have ec : ∀ d, c3N A m q d (i + 1) = c3N A m q d i + (if blD A m i then 0 else if sdN (q i) = d then perN A i else 0) := fun d => rfl
    by_cases a : i < nsN A
    · have a2 : (if i < nsN A then i else nsN A) = i := if_pos a
      have a3 : (if i + 1 < nsN A then i + 1 else nsN A) = i + 1 := by
        by_cases z : i + 1 < nsN A
        · rw [if_pos z]
        · rw [if_neg z]
          omega
      rw [a2] at j3 j4 j5
      rw [a3] at ih
      by_cases b : blD A m i = true
      · rw [b] at hb
        simp only [a, decide_true, Bool.and_true] at hb
        simp (config := { maxSteps := 2000000 }) (disch := omega) only [f152_H9, ux_at, ux_kk, ux_jo, gIx, pIx, pZx, gRx, aIx, sIx, aBx, sBx, lenx, clx, wshS, obS, reduceIte, Nat.one_ne_zero, Nat.zero_ne_one, Nat.reduceEqDiff, not_true_eq_false, not_false_eq_true, Nat.le_refl, ng_le, ng_lt, ng_nle, ng_nlt, ng_eq, ng_eq2, Bool.false_eq_true, lit_nI, nI_add, pk_mul, nI_leI, nI_ltI, nI_eq, hi2, x_holds, bN, hb]
        refine ih _ ⟨j1, E, j2, ?_, ?_, ?_⟩
        · rw [ec, if_pos b]; exact j3
        · rw [ec, if_pos b]; exact j4
        · rw [ec, if_pos b]; exact j5
      · have b2 : blD A m i = false := by simpa using b
        rw [b2] at hb
        simp only [a, decide_true, Bool.and_false] at hb
        have e4 : A 69 i = nI (perN A i) := (wfA hW.1).2.2.2.2.1 i a
        obtain ⟨J2, e3, f3, t3, -⟩ := x_add (L := L) (ru := ru) (s := i) (u := q i) (m := perN A i) sh_55 j2 hi (hq i hi).2
        simp (config := { maxSteps := 2000000 }) (disch := omega) only [f152_H9, ux_at, ux_kk, ux_jo, gIx, pIx, pZx, gRx, aIx, sIx, aBx, sBx, lenx, clx, wshS, obS, reduceIte, Nat.one_ne_zero, Nat.zero_ne_one, Nat.reduceEqDiff, not_true_eq_false, not_false_eq_true, Nat.le_refl, ng_le, ng_lt, ng_nle, ng_nlt, ng_eq, ng_eq2, Bool.false_eq_true, lit_nI, nI_add, pk_mul, nI_leI, nI_ltI, nI_eq, hi2, x_holds, bN, hb, hr, x_personsOf hSJ hW.1 a, e4, e3]
        refine ih _ ⟨j1.tr f3, _, t3, ?_, ?_, ?_⟩
        · rw [tlN_cons (hq i hi).2, ec, if_neg b, j3]
          rcases sdN_c (q i) with ⟨x, y⟩ | ⟨x, y⟩ | ⟨x, y⟩
          · rw [if_pos x, y, if_pos rfl]; omega
          · rw [if_neg (by omega), y, if_neg (by decide)]; omega
          · rw [if_neg (by omega), y, if_neg (by decide)]; omega
        · show (if q i = 2 then perN A i else 0) + tqN 2 E = _
          rw [ec, if_neg b, j4]
          rcases sdN_c (q i) with ⟨x, y⟩ | ⟨x, y⟩ | ⟨x, y⟩
          · rw [if_neg (by omega), y, if_neg (by decide)]; omega
          · rw [if_pos x, y, if_pos rfl]; omega
          · rw [if_neg (by omega), y, if_neg (by decide)]; omega
        · rw [trN_cons (hq i hi).2, ec, if_neg b, j5]
          rcases sdN_c (q i) with ⟨x, y⟩ | ⟨x, y⟩ | ⟨x, y⟩
          · rw [if_neg (by omega), y, if_neg (by decide)]; omega
          · rw [if_neg (by omega), y, if_neg (by decide)]; omega
          · rw [if_pos x, y, if_pos rfl]; omega
    · have a2 : (if i < nsN A then i else nsN A) = nsN A := if_neg a
      have a3 : (if i + 1 < nsN A then i + 1 else nsN A) = nsN A := if_neg (by omega)
      rw [a2] at j3 j4 j5
      rw [a3] at ih
      simp only [a, decide_false, Bool.false_and] at hb
      obtain ⟨J2, e3, f3, t3, -⟩ := x_add (L := L) (ru := ru) (s := i) (u := q i) (m := 0) sh_55 j2 hi (hq i hi).2
      simp (config := { maxSteps := 2000000 }) (disch := omega) only [f152_H9, ux_at, ux_kk, ux_jo, gIx, pIx, pZx, gRx, aIx, sIx, aBx, sBx, lenx, clx, wshS, obS, reduceIte, Nat.one_ne_zero, Nat.zero_ne_one, Nat.reduceEqDiff, not_true_eq_false, not_false_eq_true, Nat.le_refl, ng_le, ng_lt, ng_nle, ng_nlt, ng_eq, ng_eq2, Bool.false_eq_true, lit_nI, nI_add, pk_mul, nI_leI, nI_ltI, nI_eq, hi2, x_holds, bN, hb, hr, x_personsOfo hSJ hW.1 (show nsN A ≤ i by omega) (show i < 100 by omega), e3]
      refine ih _ ⟨j1.tr f3, _, t3, ?_, ?_, ?_⟩
      · rw [tlN_cons (hq i hi).2, j3]
        split <;> omega
      · show (if q i = 2 then 0 else 0) + tqN 2 E = _
        rw [j4]
        split <;> omega
      · rw [trN_cons (hq i hi).2, j5]
        split <;> omega
  · by_cases a : 0 < nsN A
    · rw [if_pos a]
      exact ⟨rfl, rfl, rfl⟩
    · rw [if_neg a, show nsN A = 0 by omega]
      exact ⟨rfl, rfl, rfl⟩
theorem x_addUp (hS : CS I A) (hW : WF A) {q : Nat → Nat} (hq : ∀ s, s < 6 → I 54 s = pI (q s) ∧ q s < 5) {t : Nat} (ht : t < 6) (hn : 10 < n) : ∃ I', f153 n 52 (nI t) (mW I L ru) = some (mW I' L ru) ∧ Fr [55] [] I I' ∧ TL I' 55 (EcN A q (nsN A)) ∧ I' 55 6 = pI (q t) := by
  have h6 := ns6 hW.1
  obtain ⟨I1, e1, f1, t1, z1⟩ := x_empty (I := I) (L := L) (ru := ru) (k := 55) sh_55 (by decide)
  simp (config := { maxSteps := 2000000 }) (disch := omega) only [f153, ux_at, ux_kk, ux_jo, gIx, pIx, pZx, gRx, aIx, sIx, aBx, sBx, lenx, clx, wshS, obS, reduceIte, lit_nI, e1]
  refine lpP (F := fun k i J => f153_H9 n (fun w => some w) k 52 (nI t) (nI i) (mW J L ru)) (P := fun x => ∃ I', x = some (mW I' L ru) ∧ Fr [55] [] I I' ∧ TL I' 55 (EcN A q (nsN A)) ∧ I' 55 6 = pI (q t)) (J := fun i J => Fr [55] [] I J ∧ TL J 55 (EcN A q (if i < nsN A then i else nsN A)) ∧ (t < i → J 55 6 = pI (q t))) 6 ?_ ?_ n 0 I1 (by omega) (by omega) ⟨f1, ?_, fun z => absurd z (Nat.not_lt_zero _)⟩
  · rintro k J ⟨j1, j2, j3⟩
    rw [if_neg (by omega)] at j2
    simp (config := { maxSteps := 2000000 }) (disch := omega) only [f153_H9, ux_at, ux_kk, ux_jo, gIx, pIx, pZx, gRx, aIx, sIx, aBx, sBx, lenx, clx, wshS, obS, reduceIte, Nat.one_ne_zero, Nat.zero_ne_one, Nat.reduceEqDiff, not_true_eq_false, not_false_eq_true, Nat.le_refl, ng_le, ng_lt, ng_nle, ng_nlt, ng_eq, ng_eq2, Bool.false_eq_true, lit_nI, nI_add, pk_mul, nI_leI, nI_ltI, nI_eq]
    exact ⟨J, rfl, j1, j2, j3 ht⟩
  · rintro k i J hi ⟨j1, j2, j3⟩ ih
    have hi2 : ¬ 6 ≤ i := by omega
    have hSJ := hS.fr hW.1 j1 (by decide)
    have hr : J 54 i = pI (q i) := (congrFun (j1.at (by decide) (by decide)) _).trans (hq i hi).1
    -- behind the adding
    have nxt : ∀ J2, Fr [55] [] J J2 → TL J2 55 (EcN A q (if i + 1 < nsN A then i + 1 else nsN A)) → (t < i → J2 55 6 = pI (q t)) → ∃ I', f153_J48 n (fun e0 e1 e2 w => f153_H9 n (fun w => some w) k e0 e1 e2 w) (fun w => some w) 52 (nI t) (nI i) (mW J2 L ru) = some (mW I' L ru) ∧ Fr [55] [] I I' ∧ TL I' 55 (EcN A q (nsN A)) ∧ I' 55 6 = pI (q t) := by
      intro J2 f2 t2 z2
      have hr2 : J2 54 i = pI (q i) := (congrFun (f2.at (by decide) (by decide)) _).trans hr
      by_cases e : i = t
      · subst e
        simp (config := { maxSteps := 2000000 }) (disch := omega) only [f153_J48, ux_at, ux_kk, ux_jo, gIx, pIx, pZx, gRx, aIx, sIx, aBx, sBx, lenx, clx, wshS, obS, reduceIte, Nat.one_ne_zero, Nat.zero_ne_one, Nat.reduceEqDiff, not_true_eq_false, not_false_eq_true, Nat.le_refl, ng_le, ng_lt, ng_nle, ng_nlt, ng_eq, ng_eq2, Bool.false_eq_true, lit_nI, nI_add, pk_mul, nI_leI, nI_ltI, nI_eq, hr2]
        refine ih _ ⟨j1.tr (f2.u (by decide)), ?_, fun _ => ux_at⟩
        obtain ⟨a0, a1, a2, a3, a4, a5⟩ := t2
        exact ⟨(ux_j (by decide)).trans a0, (ux_j (by decide)).trans a1, (ux_j (by decide)).trans a2, (ux_j (by decide)).trans a3, (ux_j (by decide)).trans a4, (ux_j (by decide)).trans a5⟩
      · simp (config := { maxSteps := 2000000 }) (disch := omega) only [f153_J48, ux_at, ux_kk, ux_jo, gIx, pIx, pZx, gRx, aIx, sIx, aBx, sBx, lenx, clx, wshS, obS, reduceIte, Nat.one_ne_zero, Nat.zero_ne_one, Nat.reduceEqDiff, not_true_eq_false, not_false_eq_true, Nat.le_refl, ng_le, ng_lt, ng_nle, ng_nlt, ng_eq, ng_eq2, Bool.false_eq_true, lit_nI, nI_add, pk_mul, nI_leI, nI_ltI, nI_eq, e]
        exact ih J2 ⟨j1.tr f2, t2, fun z => z2 (by omega)⟩
    by_cases a : i < nsN A
    · have a2 : (if i < nsN A then i else nsN A) = i := if_pos a
      have a3 : (if i + 1 < nsN A then i + 1 else nsN A) = i + 1 := by
        by_cases z : i + 1 < nsN A
        · rw [if_pos z]
        · rw [if_neg z]
          omega
      rw [a2] at j2
      rw [a3] at nxt
      have e4 : A 69 i = nI (perN A i) := (wfA hW.1).2.2.2.2.1 i a
      obtain ⟨J2, e3, f3, t3, z3⟩ := x_add (L := L) (ru := ru) (s := i) (u := q i) (m := perN A i) sh_55 j2 hi (hq i hi).2
      simp (config := { maxSteps := 2000000 }) (disch := omega) only [f153_H9, ux_at, ux_kk, ux_jo, gIx, pIx, pZx, gRx, aIx, sIx, aBx, sBx, lenx, clx, wshS, obS, reduceIte, Nat.one_ne_zero, Nat.zero_ne_one, Nat.reduceEqDiff, not_true_eq_false, not_false_eq_true, Nat.le_refl, ng_le, ng_lt, ng_nle, ng_nlt, ng_eq, ng_eq2, Bool.false_eq_true, lit_nI, nI_add, pk_mul, nI_leI, nI_ltI, nI_eq, hi2, x_isSort hSJ hW.1 a, hr, x_personsOf hSJ hW.1 a, e4, e3]
      exact nxt J2 f3 t3 fun z => z3.trans (j3 z)
    · have a2 : (if i < nsN A then i else nsN A) = nsN A := if_neg a
      have a3 : (if i + 1 < nsN A then i + 1 else nsN A) = nsN A := if_neg (by omega)
      rw [a2] at j2
      rw [a3] at nxt
      simp (config := { maxSteps := 2000000 }) (disch := omega) only [f153_H9, ux_at, ux_kk, ux_jo, gIx, pIx, pZx, gRx, aIx, sIx, aBx, sBx, lenx, clx, wshS, obS, reduceIte, Nat.one_ne_zero, Nat.zero_ne_one, Nat.reduceEqDiff, not_true_eq_false, not_false_eq_true, Nat.le_refl, ng_le, ng_lt, ng_nle, ng_nlt, ng_eq, ng_eq2, Bool.false_eq_true, lit_nI, nI_add, pk_mul, nI_leI, nI_ltI, nI_eq, hi2, x_isSorto hSJ hW.1 (show nsN A ≤ i by omega) (show i < 100 by omega)]
      exact nxt J Fr.rf j2 j3
  · by_cases a : 0 < nsN A
    · rw [if_pos a]
      exact t1
    · rw [if_neg a, show nsN A = 0 by omega]
      exact t1
end
