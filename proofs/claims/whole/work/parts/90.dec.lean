/-! THE CLASS: a rule that lies in an object: 'unless', what is decided; whose turn it is -/
def RX (I : St) (r : Nat) (ρ : Nat → Nat) : Prop := I r 0 = nI (ρ 0) ∧ I r 1 = nI (ρ 1) ∧ I r 2 = nI (ρ 2) ∧ I r 3 = tI (ρ 3) ∧ I r 4 = nI (ρ 4)
theorem RX.fr {I I' : St} {r : Nat} {ρ : Nat → Nat} (h : RX I r ρ) {K F : List Nat} (f : Fr K F I I') (hk : r ∉ K) (h67 : r ≠ 67) : RX I' r ρ := by
  have e := f.at hk h67
  unfold RX
  rw [e]
  exact h
theorem un_mono {A : St} {c h i : Nat} (e : unN A c h i = 1) : ∀ j, i ≤ j → unN A c h j = 1
  | 0, hj => by
    have : i = 0 := by omega
    rw [← this]
    exact e
  | j + 1, hj => by
    by_cases q : i = j + 1
    · rw [← q]
      exact e
    · have := un_mono e j (by omega)
      unfold unN
      rw [if_pos this]
theorem decN_tp {k nd b : Nat} (hk : k ≠ 3) (E : Tl) (t t' : Nat) : decN k nd b E t = decN k nd b E t' := by
  have : wntN k E t = wntN k E t' := by
    unfold wntN
    rw [if_neg hk, if_neg hk]
  unfold decN
  rw [this]
/-- whose sort has the turn, by the person's number -/
def srtN (A : St) (j : Nat) : Nat → Nat
  | 0 => 0
  | i + 1 => if sumN (perN A) i ≤ j ∧ j < sumN (perN A) (i + 1) then i else srtN A j i
theorem tpr_s {A : St} {p : Nat → Nat} {j : Nat} : ∀ i, j < sumN (perN A) i → tprN A p j i = p (srtN A j i) ∧ srtN A j i < i
  | 0, h => absurd h (Nat.not_lt_zero _)
  | i + 1, h => by
    have e1 : tprN A p j (i + 1) = if sumN (perN A) i ≤ j ∧ j < sumN (perN A) (i + 1) then p i else tprN A p j i := rfl
    have e2 : srtN A j (i + 1) = if sumN (perN A) i ≤ j ∧ j < sumN (perN A) (i + 1) then i else srtN A j i := rfl
    rw [e1, e2]
    by_cases q : sumN (perN A) i ≤ j
    · rw [if_pos ⟨q, h⟩, if_pos ⟨q, h⟩]
      exact ⟨rfl, Nat.lt_succ_self _⟩
    · rw [if_neg (fun z => q z.1), if_neg (fun z => q z.1)]
      obtain ⟨a, b⟩ := tpr_s (A := A) (p := p) i (by omega : j < sumN (perN A) i)
      exact ⟨a, by omega⟩
theorem srt_of {A : St} {j k : Nat} (h1 : sumN (perN A) k ≤ j) (h2 : j < sumN (perN A) (k + 1)) : ∀ i, k < i → srtN A j i = k
  | 0, h => absurd h (Nat.not_lt_zero _)
  | i + 1, h => by
    have e2 : srtN A j (i + 1) = if sumN (perN A) i ≤ j ∧ j < sumN (perN A) (i + 1) then i else srtN A j i := rfl
    rw [e2]
    by_cases q : k = i
    · rw [← q, if_pos ⟨h1, h2⟩]
    · have hm : sumN (perN A) (k + 1) ≤ sumN (perN A) i := sumN_mono (by omega)
      rw [if_neg (by omega)]
      exact srt_of h1 h2 i (by omega)
/-- the sort in turn at an hour -/
def sitN (A : St) (hour : Nat) : Nat := if allN A = 0 then 0 else srtN A (hour % allN A) (nsN A)
theorem sitN_lt {A : St} (hW : WFs A) (hour : Nat) : sitN A hour < 6 := by
  have h6 := ns6 hW
  unfold sitN
  split
  · decide
  · have hl := Nat.mod_lt hour (show 0 < allN A by omega)
    have := (tpr_s (A := A) (p := fun s => s) (nsN A) hl).2
    omega
section
variable {I A : St} {L : Lt} {ru n : Nat}
theorem x_dodge (hS : CS I A) (hW : WFs A) {r : Nat} {ρ : Nat → Nat} (hr : nwS r = some (5, 5)) (hX : RX I r ρ) (hR : RK ρ) {c h : Nat} (hc : c < 64) (hh : h < 8) (hn : 10 < n) : f151 n r 3 (nI (8 * c + h)) (mW I L ru) = some (if unN A c h (ρ 4) = 1 then tI (ρ 3) else nI 0, mW I L ru) := by
  obtain ⟨-, -, -, u3, u4⟩ := hX
  obtain ⟨-, -, -, r3, r4, r5⟩ := hR
  have g := fun j => gI_of (I := I) (L := L) (ru := ru) (j := j) hr
  refine lpP (F := fun k i (p : Int32) => f151_H5 n (fun w => some (nI 0, w)) k r 3 p (nI i) (mW I L ru)) (P := fun x => x = some (if unN A c h (ρ 4) = 1 then tI (ρ 3) else nI 0, mW I L ru)) (J := fun i p => p = nI (8 * ahN c h i + h) ∧ unN A c h i = 0) (ρ 4) ?_ ?_ n 0 _ (Nat.zero_le _) (by omega) ⟨rfl, rfl⟩
  · rintro k p ⟨-, j2⟩
    have hz : ¬ (0 : Nat) = 1 := by decide
    simp (config := { maxSteps := 2000000 }) (disch := omega) only [f151_H5, ux_at, ux_kk, ux_jo, gIx, pIx, pZx, gRx, aIx, sIx, aBx, sBx, lenx, clx, wshS, obS, reduceIte, Nat.one_ne_zero, Nat.zero_ne_one, Nat.reduceEqDiff, not_true_eq_false, not_false_eq_true, Nat.le_refl, ng_le, ng_lt, ng_nle, ng_nlt, ng_eq, ng_eq2, Bool.false_eq_true, lit_nI, nI_add, pk_mul, nI_leI, nI_ltI, nI_eq, g, u4, j2, hz]
  · rintro k i p hi ⟨rfl, j2⟩ ih
    have hi2 : ¬ ρ 4 ≤ i := by omega
    have a1 := ahN_lt hc hh i
    have a2 : goN (ahN c h i) h < 64 := ahN_lt hc hh (i + 1)
    have d1 : (8 * goN (ahN c h i) h + h) / 8 = goN (ahN c h i) h := by omega
    have e : unN A c h (i + 1) = if unN A c h i = 1 then 1 else rkN A (goN (ahN c h i) h) := rfl
    rw [j2, if_neg (by decide)] at e
    rcases one_or (rk_le hW a2) with e2 | e2
    · have z := ih (nI (8 * goN (ahN c h i) h + h)) ⟨rfl, e.trans e2⟩
      simp (config := { maxSteps := 2000000 }) (disch := omega) only [f151_H5, ux_at, ux_kk, ux_jo, gIx, pIx, pZx, gRx, aIx, sIx, aBx, sBx, lenx, clx, wshS, obS, reduceIte, Nat.one_ne_zero, Nat.zero_ne_one, Nat.reduceEqDiff, not_true_eq_false, not_false_eq_true, Nat.le_refl, ng_le, ng_lt, ng_nle, ng_nlt, ng_eq, ng_eq2, Bool.false_eq_true, lit_nI, nI_add, pk_mul, nI_leI, nI_ltI, nI_eq, g, u4, hi2, x_turned0, x_cellOf, d1, x_isRock hS hW a2, e2]
      exact z
    · have z := un_mono (e.trans e2) (ρ 4) (by omega)
      simp (config := { maxSteps := 2000000 }) (disch := omega) only [f151_H5, ux_at, ux_kk, ux_jo, gIx, pIx, pZx, gRx, aIx, sIx, aBx, sBx, lenx, clx, wshS, obS, reduceIte, Nat.one_ne_zero, Nat.zero_ne_one, Nat.reduceEqDiff, not_true_eq_false, not_false_eq_true, Nat.le_refl, ng_le, ng_lt, ng_nle, ng_nlt, ng_eq, ng_eq2, Bool.false_eq_true, lit_nI, nI_add, pk_mul, nI_leI, nI_ltI, nI_eq, g, u3, u4, hi2, x_turned0, x_cellOf, d1, x_isRock hS hW a2, e2, z]
theorem x_decided {r k : Nat} {ρ : Nat → Nat} (hr : nwS r = some (5, 5)) (hk : nwS k = some (8, 7)) (hX : RX I r ρ) (hR : RK ρ) {E : Tl} (hT : TL I k E) (hN : tnN E < 1000) (hE : ∀ e, e ∈ E → e.1 < 6) {tp : Nat} (h6 : I k 6 = pI tp) (htp : tp < 5) (h0 : tnN E = 0 → tp = 2) : f154 r k (mW I L ru) = some (tI (decN (ρ 0) (ρ 1) (ρ 2) E tp), mW I L ru) := by
  obtain ⟨u0, u1, u2', -, -⟩ := hX
  obtain ⟨r0, r1, r2, -⟩ := hR
  have g := fun j => gI_of (I := I) (L := L) (ru := ru) (j := j) hr
  have gk := fun j => gI_of (I := I) (L := L) (ru := ru) (j := j) hk
  obtain ⟨t0, t1, t2, t3, t4, t5⟩ := hT
  have hT : TL I k E := ⟨t0, t1, t2, t3, t4, t5⟩
  have hsp := tn_split E
  -- from a wanted turn on
  have nxt : ∀ x, x < 3 → f154_J64 r k (tI x) (mW I L ru) = some (tI (if x = 0 then (if tlN E < ρ 1 ∨ tbrN (ρ 2) 2 E = 1 then 1 else 0) else if x = 2 then (if trN E < ρ 1 ∨ tbrN (ρ 2) 0 E = 1 then 1 else 2) else 1), mW I L ru) := by
    intro x hx
    have ml := msN_lt (d := 0) E hE
    have mr := msN_lt (d := 2) E hE
    have al := msN_and (d := 0) r2 E hE
    have ar := msN_and (d := 2) r2 E hE
    have al2 : msN 0 E &&& ρ 2 < 64 := Nat.lt_of_le_of_lt Nat.and_le_left ml
    have ar2 : msN 2 E &&& ρ 2 < 64 := Nat.lt_of_le_of_lt Nat.and_le_left mr
    have bl := tbrN_le (ρ 2) 0 E
    have br := tbrN_le (ρ 2) 2 E
    have m0 : ¬ tI 0 = nI 0 := by decide +kernel
    have m0' : ¬ nI 0 ≤ tI 0 := by decide +kernel
    have m2 : ¬ tI 2 = nI 0 := by decide +kernel
    have m2' : nI 0 ≤ tI 2 := by decide +kernel
    rcases k3 hx with rfl | rfl | rfl
    · by_cases c1 : tlN E < ρ 1
      · simp (config := { maxSteps := 2000000 }) (disch := omega) only [f154_J64, f154_J85, f154_J101, ux_at, ux_kk, ux_jo, gIx, pIx, pZx, gRx, aIx, sIx, aBx, sBx, lenx, clx, wshS, obS, reduceIte, Nat.one_ne_zero, Nat.zero_ne_one, Nat.reduceEqDiff, not_true_eq_false, not_false_eq_true, Nat.le_refl, ng_le, ng_lt, ng_nle, ng_nlt, ng_eq, ng_eq2, Bool.false_eq_true, lit_nI, nI_add, pk_mul, nI_leI, nI_ltI, nI_eq, g, gk, t1, t5, u1, u2', m0, m0', c1, true_or, tI_1]
      · rcases one_or br with b | b
        · have z := ar.mpr b
          simp (config := { maxSteps := 2000000 }) (disch := omega) only [f154_J64, f154_J85, f154_J101, ux_at, ux_kk, ux_jo, gIx, pIx, pZx, gRx, aIx, sIx, aBx, sBx, lenx, clx, wshS, obS, reduceIte, Nat.one_ne_zero, Nat.zero_ne_one, Nat.reduceEqDiff, not_true_eq_false, not_false_eq_true, Nat.le_refl, ng_le, ng_lt, ng_nle, ng_nlt, ng_eq, ng_eq2, Bool.false_eq_true, lit_nI, nI_add, pk_mul, nI_leI, nI_ltI, nI_eq, g, gk, t1, t5, u1, u2', m0, m0', c1, and_nIg, z, b, false_or]
        · have z : ¬ msN 2 E &&& ρ 2 = 0 := fun q => by
            have := ar.mp q
            omega
          simp (config := { maxSteps := 2000000 }) (disch := omega) only [f154_J64, f154_J85, f154_J101, ux_at, ux_kk, ux_jo, gIx, pIx, pZx, gRx, aIx, sIx, aBx, sBx, lenx, clx, wshS, obS, reduceIte, Nat.one_ne_zero, Nat.zero_ne_one, Nat.reduceEqDiff, not_true_eq_false, not_false_eq_true, Nat.le_refl, ng_le, ng_lt, ng_nle, ng_nlt, ng_eq, ng_eq2, Bool.false_eq_true, lit_nI, nI_add, pk_mul, nI_leI, nI_ltI, nI_eq, g, gk, t1, t5, u1, u2', m0, m0', c1, and_nIg, z, b, or_true, tI_1]
    · simp (config := { maxSteps := 2000000 }) (disch := omega) only [f154_J64, ux_at, ux_kk, ux_jo, gIx, pIx, pZx, gRx, aIx, sIx, aBx, sBx, lenx, clx, wshS, obS, reduceIte, Nat.one_ne_zero, Nat.zero_ne_one, Nat.reduceEqDiff, not_true_eq_false, not_false_eq_true, Nat.le_refl, ng_le, ng_lt, ng_nle, ng_nlt, ng_eq, ng_eq2, Bool.false_eq_true, lit_nI, nI_add, pk_mul, nI_leI, nI_ltI, nI_eq, tI_1]
    · by_cases c1 : trN E < ρ 1
      · simp (config := { maxSteps := 2000000 }) (disch := omega) only [f154_J64, f154_J85, f154_J101, ux_at, ux_kk, ux_jo, gIx, pIx, pZx, gRx, aIx, sIx, aBx, sBx, lenx, clx, wshS, obS, reduceIte, Nat.one_ne_zero, Nat.zero_ne_one, Nat.reduceEqDiff, not_true_eq_false, not_false_eq_true, Nat.le_refl, ng_le, ng_lt, ng_nle, ng_nlt, ng_eq, ng_eq2, Bool.false_eq_true, lit_nI, nI_add, pk_mul, nI_leI, nI_ltI, nI_eq, g, gk, t2, t4, u1, u2', m2, m2', c1, true_or, tI_1]
      · rcases one_or bl with b | b
        · have z := al.mpr b
          simp (config := { maxSteps := 2000000 }) (disch := omega) only [f154_J64, f154_J85, f154_J101, ux_at, ux_kk, ux_jo, gIx, pIx, pZx, gRx, aIx, sIx, aBx, sBx, lenx, clx, wshS, obS, reduceIte, Nat.one_ne_zero, Nat.zero_ne_one, Nat.reduceEqDiff, not_true_eq_false, not_false_eq_true, Nat.le_refl, ng_le, ng_lt, ng_nle, ng_nlt, ng_eq, ng_eq2, Bool.false_eq_true, lit_nI, nI_add, pk_mul, nI_leI, nI_ltI, nI_eq, g, gk, t2, t4, u1, u2', m2, m2', c1, and_nIg, z, b, false_or]
        · have z : ¬ msN 0 E &&& ρ 2 = 0 := fun q => by
            have := al.mp q
            omega
          simp (config := { maxSteps := 2000000 }) (disch := omega) only [f154_J64, f154_J85, f154_J101, ux_at, ux_kk, ux_jo, gIx, pIx, pZx, gRx, aIx, sIx, aBx, sBx, lenx, clx, wshS, obS, reduceIte, Nat.one_ne_zero, Nat.zero_ne_one, Nat.reduceEqDiff, not_true_eq_false, not_false_eq_true, Nat.le_refl, ng_le, ng_lt, ng_nle, ng_nlt, ng_eq, ng_eq2, Bool.false_eq_true, lit_nI, nI_add, pk_mul, nI_leI, nI_ltI, nI_eq, g, gk, t2, t4, u1, u2', m2, m2', c1, and_nIg, z, b, or_true, tI_1]
  by_cases z0 : tnN E = 0
  · have e9 : decN (ρ 0) (ρ 1) (ρ 2) E tp = 1 := if_pos z0
    have n1 := nxt 1 (by decide)
    rw [tI_1] at n1
    rw [e9, tI_1]
    have tl0 : tlN E = 0 := by omega
    have tr0 : trN E = 0 := by omega
    have tq0 : tqN 2 E = 0 := by omega
    have h22 := h0 z0
    subst h22
    have hm := x_most (L := L) (ru := ru) hk hT (by omega)
    rw [tl0, tr0, tq0] at hm
    have hmo : mostN 0 0 0 = 1 := rfl
    rw [hmo, tI_1] at hm
    have n1' : f154_J64 r k (nI 0) (mW I L ru) = some (nI 0, mW I L ru) := by
      rw [if_neg (by decide), if_neg (by decide), tI_1] at n1
      exact n1
    rcases (show ρ 0 = 0 ∨ ρ 0 = 1 ∨ ρ 0 = 2 ∨ ρ 0 = 3 by omega) with q | q | q | q
    · simp (config := { maxSteps := 2000000 }) (disch := omega) only [f154, ux_at, ux_kk, ux_jo, gIx, pIx, pZx, gRx, aIx, sIx, aBx, sBx, lenx, clx, wshS, obS, reduceIte, Nat.one_ne_zero, Nat.zero_ne_one, Nat.reduceEqDiff, not_true_eq_false, not_false_eq_true, Nat.le_refl, ng_le, ng_lt, ng_nle, ng_nlt, ng_eq, ng_eq2, Bool.false_eq_true, lit_nI, nI_add, pk_mul, nI_leI, nI_ltI, nI_eq, g, u0, q, hk, Option.map, hm, n1']
    · simp (config := { maxSteps := 2000000 }) (disch := omega) only [f154, f27, ux_at, ux_kk, ux_jo, gIx, pIx, pZx, gRx, aIx, sIx, aBx, sBx, lenx, clx, wshS, obS, reduceIte, Nat.one_ne_zero, Nat.zero_ne_one, Nat.reduceEqDiff, not_true_eq_false, not_false_eq_true, Nat.le_refl, ng_le, ng_lt, ng_nle, ng_nlt, ng_eq, ng_eq2, Bool.false_eq_true, lit_nI, nI_add, pk_mul, nI_leI, nI_ltI, nI_eq, g, gk, u0, q, hk, Option.map, t0, z0, Nat.lt_irrefl, n1']
    · have hme : f101 k (mW I L ru) = some (nI 0, mW I L ru) := by
        by_cases ts : tsI E = nI 0
        · simp (config := { maxSteps := 2000000 }) (disch := omega) only [f101, ux_at, ux_kk, ux_jo, gIx, pIx, pZx, gRx, aIx, sIx, aBx, sBx, lenx, clx, wshS, obS, reduceIte, Nat.one_ne_zero, Nat.zero_ne_one, Nat.reduceEqDiff, not_true_eq_false, not_false_eq_true, Nat.le_refl, ng_le, ng_lt, ng_nle, ng_nlt, ng_eq, ng_eq2, Bool.false_eq_true, lit_nI, nI_add, pk_mul, nI_leI, nI_ltI, nI_eq, gk, t0, t3, z0, ts, Nat.mul_zero, Nat.lt_irrefl]
        · simp (config := { maxSteps := 2000000 }) (disch := omega) only [f101, ux_at, ux_kk, ux_jo, gIx, pIx, pZx, gRx, aIx, sIx, aBx, sBx, lenx, clx, wshS, obS, reduceIte, Nat.one_ne_zero, Nat.zero_ne_one, Nat.reduceEqDiff, not_true_eq_false, not_false_eq_true, Nat.le_refl, ng_le, ng_lt, ng_nle, ng_nlt, ng_eq, ng_eq2, Bool.false_eq_true, lit_nI, nI_add, pk_mul, nI_leI, nI_ltI, nI_eq, gk, t0, t3, z0, ts, Nat.mul_zero, Nat.lt_irrefl]
      simp (config := { maxSteps := 2000000 }) (disch := omega) only [f154, ux_at, ux_kk, ux_jo, gIx, pIx, pZx, gRx, aIx, sIx, aBx, sBx, lenx, clx, wshS, obS, reduceIte, Nat.one_ne_zero, Nat.zero_ne_one, Nat.reduceEqDiff, not_true_eq_false, not_false_eq_true, Nat.le_refl, ng_le, ng_lt, ng_nle, ng_nlt, ng_eq, ng_eq2, Bool.false_eq_true, lit_nI, nI_add, pk_mul, nI_leI, nI_ltI, nI_eq, g, u0, q, hk, Option.map, hme, n1']
    · have hs : sgN (nI 0) = 1 := by decide +kernel
      simp (config := { maxSteps := 2000000 }) (disch := omega) only [f154, ux_at, ux_kk, ux_jo, gIx, pIx, pZx, gRx, aIx, sIx, aBx, sBx, lenx, clx, wshS, obS, reduceIte, Nat.one_ne_zero, Nat.zero_ne_one, Nat.reduceEqDiff, not_true_eq_false, not_false_eq_true, Nat.le_refl, ng_le, ng_lt, ng_nle, ng_nlt, ng_eq, ng_eq2, Bool.false_eq_true, lit_nI, nI_add, pk_mul, nI_leI, nI_ltI, nI_eq, g, gk, u0, q, hk, Option.map, h6, pI_2, x_signum, hs, tI_1, n1']
  · have e9 : decN (ρ 0) (ρ 1) (ρ 2) E tp = if wntN (ρ 0) E tp = 0 then (if tlN E < ρ 1 ∨ tbrN (ρ 2) 2 E = 1 then 1 else 0) else if wntN (ρ 0) E tp = 2 then (if trN E < ρ 1 ∨ tbrN (ρ 2) 0 E = 1 then 1 else 2) else 1 := if_neg z0
    rw [e9]
    have n1 := nxt _ (wntN_lt (ρ 0) E tp)
    have hp : 0 < tnN E := by omega
    rcases (show ρ 0 = 0 ∨ ρ 0 = 1 ∨ ρ 0 = 2 ∨ ρ 0 = 3 by omega) with q | q | q | q
    · have w : wntN (ρ 0) E tp = mostN (tlN E) (tqN 2 E) (trN E) := if_pos q
      rw [w] at n1 ⊢
      simp (config := { maxSteps := 2000000 }) (disch := omega) only [f154, ux_at, ux_kk, ux_jo, gIx, pIx, pZx, gRx, aIx, sIx, aBx, sBx, lenx, clx, wshS, obS, reduceIte, Nat.one_ne_zero, Nat.zero_ne_one, Nat.reduceEqDiff, not_true_eq_false, not_false_eq_true, Nat.le_refl, ng_le, ng_lt, ng_nle, ng_nlt, ng_eq, ng_eq2, Bool.false_eq_true, lit_nI, nI_add, pk_mul, nI_leI, nI_ltI, nI_eq, g, u0, q, hk, Option.map, x_most (L := L) (ru := ru) hk hT (by omega), n1]
    · have w : wntN (ρ 0) E tp = midN (tlN E) (tqN 2 E) (trN E) := by
        unfold wntN
        rw [if_neg (by omega), if_pos q]
      rw [w] at n1 ⊢
      simp (config := { maxSteps := 2000000 }) (disch := omega) only [f154, ux_at, ux_kk, ux_jo, gIx, pIx, pZx, gRx, aIx, sIx, aBx, sBx, lenx, clx, wshS, obS, reduceIte, Nat.one_ne_zero, Nat.zero_ne_one, Nat.reduceEqDiff, not_true_eq_false, not_false_eq_true, Nat.le_refl, ng_le, ng_lt, ng_nle, ng_nlt, ng_eq, ng_eq2, Bool.false_eq_true, lit_nI, nI_add, pk_mul, nI_leI, nI_ltI, nI_eq, g, u0, q, hk, Option.map, x_middle (L := L) (ru := ru) hk hT (by omega) hp, n1]
    · have w : wntN (ρ 0) E tp = menN (tsI E) (nI (tnN E)) := by
        unfold wntN
        rw [if_neg (by omega), if_neg (by omega), if_neg (by omega)]
      rw [w] at n1 ⊢
      simp (config := { maxSteps := 2000000 }) (disch := omega) only [f154, ux_at, ux_kk, ux_jo, gIx, pIx, pZx, gRx, aIx, sIx, aBx, sBx, lenx, clx, wshS, obS, reduceIte, Nat.one_ne_zero, Nat.zero_ne_one, Nat.reduceEqDiff, not_true_eq_false, not_false_eq_true, Nat.le_refl, ng_le, ng_lt, ng_nle, ng_nlt, ng_eq, ng_eq2, Bool.false_eq_true, lit_nI, nI_add, pk_mul, nI_leI, nI_ltI, nI_eq, g, u0, q, hk, Option.map, x_mean (L := L) (ru := ru) hk hT (by omega) hp, n1]
    · have w : wntN (ρ 0) E tp = sdN tp := by
        unfold wntN
        rw [if_neg (by omega), if_neg (by omega), if_pos q]
      have hs : ∀ u, u < 5 → sgN (pI u) = sdN u := by decide +kernel
      rw [w] at n1 ⊢
      simp (config := { maxSteps := 2000000 }) (disch := omega) only [f154, ux_at, ux_kk, ux_jo, gIx, pIx, pZx, gRx, aIx, sIx, aBx, sBx, lenx, clx, wshS, obS, reduceIte, Nat.one_ne_zero, Nat.zero_ne_one, Nat.reduceEqDiff, not_true_eq_false, not_false_eq_true, Nat.le_refl, ng_le, ng_lt, ng_nle, ng_nlt, ng_eq, ng_eq2, Bool.false_eq_true, lit_nI, nI_add, pk_mul, nI_leI, nI_ltI, nI_eq, g, gk, u0, q, hk, Option.map, h6, x_signum, hs, n1]
theorem x_sortInTurn (hS : CS I A) (hW : WFs A) {hour : Nat} (ho : hour < 1000) (hn : 10 < n) : f150 n 3 (nI hour) (mW I L ru) = some (nI (sitN A hour), mW I L ru) := by
  have h6 := ns6 hW
  have ha := allN_le hW
  by_cases h0 : allN A = 0
  · have e : sitN A hour = 0 := if_pos h0
    simp (config := { maxSteps := 2000000 }) (disch := omega) only [f150, ux_at, ux_kk, ux_jo, gIx, pIx, pZx, gRx, aIx, sIx, aBx, sBx, lenx, clx, wshS, obS, reduceIte, Nat.one_ne_zero, Nat.zero_ne_one, Nat.reduceEqDiff, not_true_eq_false, not_false_eq_true, Nat.le_refl, ng_le, ng_lt, ng_nle, ng_nlt, ng_eq, ng_eq2, Bool.false_eq_true, lit_nI, nI_add, pk_mul, nI_leI, nI_ltI, nI_eq, csA hS, h0, e, Nat.lt_irrefl]
  · have e : sitN A hour = srtN A (hour % allN A) (nsN A) := if_neg h0
    have hl := Nat.mod_lt hour (show 0 < allN A by omega)
    have hp : 0 < allN A := by omega
    simp (config := { maxSteps := 2000000 }) (disch := omega) only [f150, ux_at, ux_kk, ux_jo, gIx, pIx, pZx, gRx, aIx, sIx, aBx, sBx, lenx, clx, wshS, obS, reduceIte, Nat.one_ne_zero, Nat.zero_ne_one, Nat.reduceEqDiff, not_true_eq_false, not_false_eq_true, Nat.le_refl, ng_le, ng_lt, ng_nle, ng_nlt, ng_eq, ng_eq2, Bool.false_eq_true, lit_nI, nI_add, pk_mul, nI_leI, nI_ltI, nI_eq, csA hS, hp, h0, irm_nI]
    rw [e]
    generalize hour % allN A = j at *
    refine lpP (F := fun k i (v : Int32) => f150_H18 n (fun w => some (nI 0, w)) k 3 v (nI i) (mW I L ru)) (P := fun x => x = some (nI (srtN A j (nsN A)), mW I L ru)) (J := fun i v => v = nI (j - sumN (perN A) i) ∧ sumN (perN A) i ≤ j) (nsN A) ?_ ?_ n 0 _ (Nat.zero_le _) (by omega) ⟨by rw [show sumN (perN A) 0 = 0 from rfl, Nat.sub_zero], Nat.zero_le _⟩
    · rintro k v ⟨-, j2⟩
      exact absurd j2 (by unfold allN at hl; omega)
    · rintro k i v hi ⟨rfl, j2⟩ ih
      have hi2 : ¬ nsN A ≤ i := by omega
      have e4 : A 69 i = nI (perN A i) := (wfA hW).2.2.2.2.1 i hi
      have hp9 := (per_le hW hi).2
      have es : sumN (perN A) (i + 1) = sumN (perN A) i + perN A i := rfl
      by_cases q : sumN (perN A) (i + 1) ≤ j
      · have hsub : nI (j - sumN (perN A) i) - nI (perN A i) = nI (j - sumN (perN A) (i + 1)) := by
          rw [pk_sub (by omega)]
          congr 1
          omega
        simp (config := { maxSteps := 2000000 }) (disch := omega) only [f150_H18, ux_at, ux_kk, ux_jo, gIx, pIx, pZx, gRx, aIx, sIx, aBx, sBx, lenx, clx, wshS, obS, reduceIte, Nat.one_ne_zero, Nat.zero_ne_one, Nat.reduceEqDiff, not_true_eq_false, not_false_eq_true, Nat.le_refl, ng_le, ng_lt, ng_nle, ng_nlt, ng_eq, ng_eq2, Bool.false_eq_true, lit_nI, nI_add, pk_mul, nI_leI, nI_ltI, nI_eq, csA hS, hi2, x_personsOf hS hW hi, e4, hsub, Nat.zero_le]
        exact ih _ ⟨rfl, q⟩
      · have hneg : ¬ nI 0 ≤ nI (j - sumN (perN A) i) - nI (perN A i) := by
          have : ∀ a, a < 54 → ∀ b, b < 10 → a < b → ¬ nI 0 ≤ nI a - nI b := by decide +kernel
          exact this _ (by omega) _ (by omega) (by omega)
        have e5 := srt_of (A := A) j2 (by omega : j < sumN (perN A) (i + 1)) (nsN A) hi
        simp (config := { maxSteps := 2000000 }) (disch := omega) only [f150_H18, ux_at, ux_kk, ux_jo, gIx, pIx, pZx, gRx, aIx, sIx, aBx, sBx, lenx, clx, wshS, obS, reduceIte, Nat.one_ne_zero, Nat.zero_ne_one, Nat.reduceEqDiff, not_true_eq_false, not_false_eq_true, Nat.le_refl, ng_le, ng_lt, ng_nle, ng_nlt, ng_eq, ng_eq2, Bool.false_eq_true, lit_nI, nI_add, pk_mul, nI_leI, nI_ltI, nI_eq, csA hS, hi2, x_personsOf hS hW hi, e4, hneg, e5]
end
