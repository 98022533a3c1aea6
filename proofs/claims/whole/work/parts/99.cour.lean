/-! THE CLASS: the best courses, where at each place some turns are open -/
abbrev coK : List Nat := [61, 62, 64, 65]
/-- how the turns that are open are found -/
def OPT (A : St) (mf : Nat → Nat → Nat → Nat) (n r : Nat) (Q : St → Prop) : Prop :=
  (∀ J, Q J → CS J A) ∧ (∀ J J', Q J → Fr coK [] J J' → Q J') ∧ ∀ (J : St) (L : Lt), Q J → ∀ c h hour, c < 64 → h < 8 → hour < 24 → ∃ J', f200 n 52 (nI (8 * c + h)) (nI hour) (mW J L r) = some (nI (mf hour c h), mW J' L r) ∧ Fr cnK [] J J' ∧ Q J' ∧ mf hour c h < 8 ∧ mf hour c h ≠ 0
def WOc (J A : St) (m : Nat) : Prop := ∀ c, c < 64 → J 61 c = wSet A c m
/-- at which hours she can be at a place -/
def RBc (J : St) (R : Nat → Nat → Bool) : Prop := ∀ p, p < 512 → ∃ N, J 62 p = nI N ∧ N < 2 ^ 25 ∧ ∀ o, N.testBit o = R p o
theorem WOc.fr {I I' A : St} {m : Nat} (h : WOc I A m) {K F : List Nat} (f : Fr K F I I') (hk : 61 ∉ K) : WOc I' A m := fun c hc => (congrFun (f.at hk (by decide)) c).trans (h c hc)
theorem RBc.fr {I I' : St} {R : Nat → Nat → Bool} (h : RBc I R) {K F : List Nat} (f : Fr K F I I') (hk : 62 ∉ K) : RBc I' R := fun p hp => by
  rw [f.at hk (by decide)]
  exact h p hp
theorem shl2 : ∀ k, k < 25 → nI 2 <<< (nI k &&& nI 31) = nI (2 ^ (k + 1)) := by decide +kernel
theorem p2_25 : ∀ k, k < 25 → 2 ^ k < 2 ^ 25 := by decide +kernel
/-- one more bit -/
theorem RBc.put {J : St} {R : Nat → Nat → Bool} (h : RBc J R) {p o N : Nat} (hp : p < 512) (ho : o < 25) (hN : J 62 p = nI N) (hN2 : N < 2 ^ 25) (hN3 : ∀ o, N.testBit o = R p o) : RBc (u2 J 62 p (nI (N ||| 2 ^ o))) (fun q t => R q t || (decide (q = p) && decide (o = t))) := by
  intro q hq
  rw [ux_if]
  by_cases e : q = p
  · rw [if_pos e]
    refine ⟨_, rfl, Nat.or_lt_two_pow hN2 (p2_25 o ho), fun t => ?_⟩
    rw [Nat.testBit_or, hN3, Nat.testBit_two_pow, e]
    simp
  · rw [if_neg e]
    obtain ⟨M, a, b, c⟩ := h q hq
    refine ⟨M, a, b, fun t => ?_⟩
    rw [c]
    simp [e]
/-! digits to base 4 -/
def q4N (N o : Nat) : Nat := N / 4 ^ o % 4
theorem p4e (s : Nat) : 4 ^ s = 2 ^ (2 * s) := by rw [Nat.pow_mul]
theorem q4_or (a b s : Nat) : q4N (a ||| b) s = q4N a s ||| q4N b s := by
  unfold q4N
  rw [p4e, ← Nat.shiftRight_eq_div_pow, ← Nat.shiftRight_eq_div_pow, ← Nat.shiftRight_eq_div_pow, Nat.shiftRight_or_distrib]
  exact Nat.or_mod_two_pow (n := 2)
theorem q4_one : ∀ u, u < 4 → ∀ s, s < 24 → ∀ t, t < 24 → q4N (u * 4 ^ s) t = if t = s then u else 0 := by decide +kernel
theorem q4_put {N u s : Nat} (hu : u < 4) (hs : s < 24) (h0 : q4N N s = 0) {t : Nat} (ht : t < 24) : q4N (N ||| u * 4 ^ s) t = if t = s then u else q4N N t := by
  rw [q4_or, q4_one u hu s hs t ht]
  by_cases e : t = s
  · rw [if_pos e, if_pos e, e, h0, Nat.zero_or]
  · rw [if_neg e, if_neg e, Nat.or_zero]
theorem q4_lt {N u s : Nat} (hN : N < 2 ^ 48) (hu : u < 4) (hs : s < 24) : N ||| u * 4 ^ s < 2 ^ 48 := by
  refine Nat.or_lt_two_pow hN ?_
  have h1 : 4 ^ s ≤ 4 ^ 23 := Nat.pow_le_pow_right (by decide) (by omega)
  have h2 : u * 4 ^ s ≤ 3 * 4 ^ 23 := Nat.mul_le_mul (by omega) h1
  omega
theorem shl4 {u o : Nat} (ho : o < 24) : lN u <<< (lN (2 * o) &&& lN 63) = lN (u * 4 ^ o) := by
  have h := wb_shl u (k := 2 * o) (by omega)
  rw [nI_l (by omega)] at h
  rw [p4e]
  exact h
theorem shr4 {N o : Nat} (hN : N < 2 ^ 48) (ho : o < 24) : lush (lN N) (nI (2 * o)) &&& lN 3 = lN (q4N N o) := by
  have h1 : lush (lN N) (nI (2 * o)) = lN (N / 2 ^ (2 * o)) := wb_shr (by omega) (by omega)
  have h2 : N / 2 ^ (2 * o) ≤ N := Nat.div_le_self _ _
  rw [h1]
  have h3 := wb_mask (n := N / 2 ^ (2 * o)) (k := 2) (by omega) (by decide)
  rw [← p4e] at h3 ⊢
  exact h3
/-- the turn that is chosen at a place in an hour -/
def cdN (A : St) (m hours : Nat) (mf : Nat → Nat → Nat → Nat) (o c h : Nat) : Nat := (chF (mf o c h) (brI A m hours o (bvI A m hours mf (hours - (o + 1))) c h) 3).2
section
variable {I A : St} {L : Lt} {ru n : Nat}
theorem x_fillL {k len : Nat} (hk : nwS k = some (23, len)) (hl : len ≤ 1000) (hn : 1000 < n) : ∃ L', f35 n k (lN 0) (mW I L ru) = some (mW I L' ru) ∧ ∀ j, j < len → L' k j = lN 0 := by
  have hln := len_of (I := I) (L := L) (ru := ru) hk (by decide)
  have key : ∃ L', f35_H6 n (fun w => some w) n k (lN 0) (nI 0) (nI len) (mW I L ru) = some (mW I L' ru) ∧ ∀ j, j < len → L' k j = lN 0 := by
    refine lpP (F := fun f i J => f35_H6 n (fun w => some w) f k (lN 0) (nI i) (nI len) (mW I J ru)) (P := fun x => ∃ L', x = some (mW I L' ru) ∧ ∀ j, j < len → L' k j = lN 0) (J := fun i J => ∀ j, j < i → J k j = lN 0) len ?_ ?_ n 0 L (by omega) (by omega) (fun j hj => absurd hj (Nat.not_lt_zero _))
    · intro f J hJ
      simp (config := { maxSteps := 2000000 }) (disch := omega) only [f35_H6, Nat.one_ne_zero, Nat.zero_ne_one, Nat.reduceEqDiff, not_true_eq_false, not_false_eq_true, Nat.le_refl, ng_le, ng_lt, ng_nle, ng_nlt, ng_eq, ng_eq2, Bool.false_eq_true, lit_nI, nI_add, pk_mul, nI_leI, nI_ltI, nI_eq, reduceIte]
      exact ⟨J, rfl, hJ⟩
    · intro f i J hi hJ ih
      have hi2 : ¬ len ≤ i := by omega
      have e := sL_of (I := I) (L := J) (ru := ru) (v := lN 0) hk hi (by omega)
      simp (config := { maxSteps := 2000000 }) (disch := omega) only [f35_H6, Nat.one_ne_zero, Nat.zero_ne_one, Nat.reduceEqDiff, not_true_eq_false, not_false_eq_true, Nat.le_refl, ng_le, ng_lt, ng_nle, ng_nlt, ng_eq, ng_eq2, Bool.false_eq_true, lit_nI, nI_add, pk_mul, nI_leI, nI_ltI, nI_eq, reduceIte, hi2, e, obS]
      refine ih _ fun j hj => ?_
      rw [ux_if]
      split
      · rfl
      · exact hJ j (by omega)
  obtain ⟨L', k1, k2⟩ := key
  refine ⟨L', ?_, k2⟩
  simp only [f35, hln, obS, lit_nI]
  exact k1
/-- where she can be an hour later -/
theorem x_reach (hS : CS I A) (hW : WFs A) {R : Nat → Nat → Bool} (hR : RBc I R) {c h hour mask : Nat} (hc : c < 64) (hh : h < 8) (ho : hour < 24) (h8 : mask < 8) (hn : 6 < n) :
    ∃ I' R', f185 n 60 (nI (8 * c + h)) (nI hour) (nI mask) (mW I L ru) = some (mW I' L ru) ∧ Fr [62] [] I I' ∧ RBc I' R' ∧ (∀ q o, R q o = true → R' q o = true) ∧ (∀ q o, R' q o = true → R q o = true ∨ (o = hour + 1 ∧ rkN A (q / 8) = 0)) ∧ ∀ k, k < 3 → mask.testBit k = true → rkN A (stpN A c h hour k) = 0 → R' (8 * stpN A c h hour k + tuN h k) (hour + 1) = true := by
  have to3 : ∀ k, k < 3 → ∃ d, d < 3 ∧ toN d = k := toN_sur
  refine lpP (F := fun f i J => f185_H13 n (fun w => some w) f 60 (nI (8 * c + h)) (nI hour) (nI mask) (nI 3) (nI i) (mW J L ru)) (P := fun x => ∃ I' R', x = some (mW I' L ru) ∧ Fr [62] [] I I' ∧ RBc I' R' ∧ (∀ q o, R q o = true → R' q o = true) ∧ (∀ q o, R' q o = true → R q o = true ∨ (o = hour + 1 ∧ rkN A (q / 8) = 0)) ∧ ∀ k, k < 3 → mask.testBit k = true → rkN A (stpN A c h hour k) = 0 → R' (8 * stpN A c h hour k + tuN h k) (hour + 1) = true) (J := fun i J => Fr [62] [] I J ∧ ∃ R', RBc J R' ∧ (∀ q o, R q o = true → R' q o = true) ∧ (∀ q o, R' q o = true → R q o = true ∨ (o = hour + 1 ∧ rkN A (q / 8) = 0)) ∧ ∀ d, d < i → mask.testBit (toN d) = true → rkN A (stpN A c h hour (toN d)) = 0 → R' (8 * stpN A c h hour (toN d) + tuN h (toN d)) (hour + 1) = true) 3 ?_ ?_ n 0 I (by omega) (by omega) ⟨Fr.rf, R, hR, fun _ _ z => z, fun _ _ z => Or.inl z, fun d hd => absurd hd (Nat.not_lt_zero _)⟩
  · rintro f J ⟨j1, R', j2, j3, j4, j5⟩
    simp (config := { maxSteps := 2000000 }) (disch := omega) only [f185_H13, ux_at, ux_kk, ux_jo, gIx, pIx, pZx, gRx, aIx, sIx, aBx, sBx, lenx, clx, wshS, obS, reduceIte, Nat.one_ne_zero, Nat.zero_ne_one, Nat.reduceEqDiff, not_true_eq_false, not_false_eq_true, Nat.le_refl, ng_le, ng_lt, ng_nle, ng_nlt, ng_eq, ng_eq2, Bool.false_eq_true, lit_nI, nI_add, pk_mul, nI_leI, nI_ltI, nI_eq]
    refine ⟨J, R', rfl, j1, j2, j3, j4, fun k hk => ?_⟩
    obtain ⟨d, d1, d2⟩ := to3 k hk
    rw [← d2]
    exact j5 d d1
  · rintro f i J hi ⟨j1, R', j2, j3, j4, j5⟩ ih
    have hi2 : ¬ 3 ≤ i := by omega
    have h3 := toN_lt i
    have hSJ := hS.fr hW j1 (by decide)
    have h8t := tuN_lt h (toN i)
    have h1 := stpN_lt hW hc (h := h) (hour := hour) (k := toN i)
    have hm := x_moved (L := L) (ru := ru) hSJ hW hc hh (show hour < 1000 by omega) h3
    have d1 : (8 * stpN A c h hour (toN i) + tuN h (toN i)) / 8 = stpN A c h hour (toN i) := by omega
    have d2 : 8 * stpN A c h hour (toN i) + tuN h (toN i) < 512 := by omega
    by_cases b : mask.testBit (toN i) = true
    · rcases one_or (rk_le hW h1) with rk | rk
      · obtain ⟨N, a1, a2, a3⟩ := j2 _ d2
        have e9 := shl2 hour (by omega)
        simp (config := { maxSteps := 2000000 }) (disch := omega) only [f185_H13, f185_J86, ux_at, ux_kk, ux_jo, gIx, pIx, pZx, gRx, aIx, sIx, aBx, sBx, lenx, clx, wshS, obS, reduceIte, Nat.one_ne_zero, Nat.zero_ne_one, Nat.reduceEqDiff, not_true_eq_false, not_false_eq_true, Nat.le_refl, ng_le, ng_lt, ng_nle, ng_nlt, ng_eq, ng_eq2, Bool.false_eq_true, lit_nI, nI_add, pk_mul, nI_leI, nI_ltI, nI_eq, hi2, tld0, tI_p1, x_holds, bN, b, hm, x_cellOf, d1, x_isRock hSJ hW h1, rk, s0i, a1, e9, or_nIg]
        refine ih _ ⟨j1.u (by decide), _, j2.put d2 (by omega) a1 a2 a3, fun q o z => ?_, fun q o z => ?_, fun d hd z1 z2 => ?_⟩
        · rw [j3 q o z]
          rfl
        · by_cases z0 : R' q o = true
          · exact j4 q o z0
          · simp only [z0, Bool.false_or, Bool.and_eq_true, decide_eq_true_eq] at z
            obtain ⟨z1, z2⟩ := z
            refine Or.inr ⟨z2.symm, ?_⟩
            rw [z1, d1]
            exact rk
        · by_cases q : d = i
          · subst q
            simp
          · rw [j5 d (by omega) z1 z2]
            rfl
      · simp (config := { maxSteps := 2000000 }) (disch := omega) only [f185_H13, f185_J86, ux_at, ux_kk, ux_jo, gIx, pIx, pZx, gRx, aIx, sIx, aBx, sBx, lenx, clx, wshS, obS, reduceIte, Nat.one_ne_zero, Nat.zero_ne_one, Nat.reduceEqDiff, not_true_eq_false, not_false_eq_true, Nat.le_refl, ng_le, ng_lt, ng_nle, ng_nlt, ng_eq, ng_eq2, Bool.false_eq_true, lit_nI, nI_add, pk_mul, nI_leI, nI_ltI, nI_eq, hi2, tld0, tI_p1, x_holds, bN, b, hm, x_cellOf, d1, x_isRock hSJ hW h1, rk]
        refine ih _ ⟨j1, R', j2, j3, j4, fun d hd z1 z2 => ?_⟩
        by_cases q : d = i
        · rw [q] at z2
          omega
        · exact j5 d (by omega) z1 z2
    · simp (config := { maxSteps := 2000000 }) (disch := omega) only [f185_H13, f185_J86, ux_at, ux_kk, ux_jo, gIx, pIx, pZx, gRx, aIx, sIx, aBx, sBx, lenx, clx, wshS, obS, reduceIte, Nat.one_ne_zero, Nat.zero_ne_one, Nat.reduceEqDiff, not_true_eq_false, not_false_eq_true, Nat.le_refl, ng_le, ng_lt, ng_nle, ng_nlt, ng_eq, ng_eq2, Bool.false_eq_true, lit_nI, nI_add, pk_mul, nI_leI, nI_ltI, nI_eq, hi2, tld0, tI_p1, x_holds, bN, b]
      refine ih _ ⟨j1, R', j2, j3, j4, fun d hd z1 z2 => ?_⟩
      by_cases q : d = i
      · rw [q] at z1
        exact absurd z1 b
      · exact j5 d (by omega) z1 z2
/-- the best turn at a place -/
theorem x_choose (hS : CS I A) (hW : WFs A) {m hours hour c h mask r N : Nat} {M : Nat → Nat → Int32} (hw : WOc I A m) (hc : c < 64) (hh : h < 8) (ho : hour < 24) (h8 : mask < 8) (hl : ∀ k, k < 3 → mask.testBit k = true → rkN A (stpN A c h hour k) = 0 → I 65 (8 * stpN A c h hour k + tuN h k) = M (stpN A c h hour k) (tuN h k)) (hL : L 63 (8 * c + h) = lN N) (hN : N < 2 ^ 48) (hn : 6 < n) :
    f186 n 60 (nI (8 * c + h)) (nI hour) (-nI 99 * pSet A m * (nI hours - nI hour)) (nI mask) (mW I L r) = some ((chF mask (brI A m hours hour M c h) 3).1, mW I (u2 L 63 (8 * c + h) (lN (N ||| (chF mask (brI A m hours hour M c h) 3).2 * 4 ^ hour))) r) := by
  generalize hls : -nI 99 * pSet A m * (nI hours - nI hour) = ls
  have e00 : (-1000000000 : Int32) = iI (-1000000000) := by decide +kernel
  have key : ∀ K11 : Nat → Int32 → Int32 → Int32 → Int32 → Wd → Option (Int32 × Wd), f186_H20 n K11 n 60 (nI (8 * c + h)) (nI hour) ls (nI mask) (iI (-1000000000)) (tI 1) (nI 3) (nI 0) (mW I L r) = K11 60 (nI (8 * c + h)) (nI hour) (chF mask (brI A m hours hour M c h) 3).1 (tI (chF mask (brI A m hours hour M c h) 3).2) (mW I L r) := by
    intro K11
    refine lpE (F := fun f i (s : Int32 × Nat) => f186_H20 n K11 f 60 (nI (8 * c + h)) (nI hour) ls (nI mask) s.1 (tI s.2) (nI 3) (nI i) (mW I L r)) (J := chF mask (brI A m hours hour M c h)) 3 ?_ ?_ n 0 (by omega) (by omega)
    · intro f
      simp (config := { maxSteps := 2000000 }) (disch := omega) only [f186_H20, ux_at, ux_kk, ux_jo, gIx, pIx, pZx, gRx, aIx, sIx, aBx, sBx, lenx, clx, wshS, obS, reduceIte, Nat.one_ne_zero, Nat.zero_ne_one, Nat.reduceEqDiff, not_true_eq_false, not_false_eq_true, Nat.le_refl, ng_le, ng_lt, ng_nle, ng_nlt, ng_eq, ng_eq2, Bool.false_eq_true, lit_nI, nI_add, pk_mul, nI_leI, nI_ltI, nI_eq]
    · intro f i hi
      have hi2 : ¬ 3 ≤ i := by omega
      have h3 := toN_lt i
      have h8t := tuN_lt h (toN i)
      have h1 := stpN_lt hW hc (h := h) (hour := hour) (k := toN i)
      have hm := x_moved (L := L) (ru := r) hS hW hc hh (show hour < 1000 by omega) h3
      have d1 : (8 * stpN A c h hour (toN i) + tuN h (toN i)) / 8 = stpN A c h hour (toN i) := by omega
      have d2 : 8 * stpN A c h hour (toN i) + tuN h (toN i) < 512 := by omega
      have e1 : chF mask (brI A m hours hour M c h) (i + 1) = if mask.testBit (toN i) then (if brI A m hours hour M c h (toN i) ≤ (chF mask (brI A m hours hour M c h) i).1 then chF mask (brI A m hours hour M c h) i else (brI A m hours hour M c h (toN i), toN i)) else chF mask (brI A m hours hour M c h) i := rfl
      rw [e1]
      generalize chF mask (brI A m hours hour M c h) i = s
      by_cases b : mask.testBit (toN i) = true
      · rw [if_pos b]
        rcases one_or (rk_le hW h1) with rk | rk
        · have eb : brI A m hours hour M c h (toN i) = wSet A (stpN A c h hour (toN i)) m + M (stpN A c h hour (toN i)) (tuN h (toN i)) := if_neg (by omega)
          have el := hl _ h3 b rk
          have ew := hw _ h1
          rw [eb]
          by_cases q : wSet A (stpN A c h hour (toN i)) m + M (stpN A c h hour (toN i)) (tuN h (toN i)) ≤ s.1
          · rw [if_pos q]
            simp (config := { maxSteps := 2000000 }) (disch := omega) only [f186_H20, f186_J94, f186_J123, ux_at, ux_kk, ux_jo, gIx, pIx, pZx, gRx, aIx, sIx, aBx, sBx, lenx, clx, wshS, obS, reduceIte, Nat.one_ne_zero, Nat.zero_ne_one, Nat.reduceEqDiff, not_true_eq_false, not_false_eq_true, Nat.le_refl, ng_le, ng_lt, ng_nle, ng_nlt, ng_eq, ng_eq2, Bool.false_eq_true, lit_nI, nI_add, pk_mul, nI_leI, nI_ltI, nI_eq, hi2, tld0, tI_p1, x_holds, bN, b, hm, x_cellOf, d1, x_isRock hS hW h1, rk, s0i, ew, el, q]
          · rw [if_neg q]
            simp (config := { maxSteps := 2000000 }) (disch := omega) only [f186_H20, f186_J94, f186_J123, ux_at, ux_kk, ux_jo, gIx, pIx, pZx, gRx, aIx, sIx, aBx, sBx, lenx, clx, wshS, obS, reduceIte, Nat.one_ne_zero, Nat.zero_ne_one, Nat.reduceEqDiff, not_true_eq_false, not_false_eq_true, Nat.le_refl, ng_le, ng_lt, ng_nle, ng_nlt, ng_eq, ng_eq2, Bool.false_eq_true, lit_nI, nI_add, pk_mul, nI_leI, nI_ltI, nI_eq, hi2, tld0, tI_p1, x_holds, bN, b, hm, x_cellOf, d1, x_isRock hS hW h1, rk, s0i, ew, el, q]
        · have eb : brI A m hours hour M c h (toN i) = ls := by
            unfold brI
            rw [if_pos rk]
            exact hls
          rw [eb]
          by_cases q : ls ≤ s.1
          · rw [if_pos q]
            simp (config := { maxSteps := 2000000 }) (disch := omega) only [f186_H20, f186_J94, f186_J123, ux_at, ux_kk, ux_jo, gIx, pIx, pZx, gRx, aIx, sIx, aBx, sBx, lenx, clx, wshS, obS, reduceIte, Nat.one_ne_zero, Nat.zero_ne_one, Nat.reduceEqDiff, not_true_eq_false, not_false_eq_true, Nat.le_refl, ng_le, ng_lt, ng_nle, ng_nlt, ng_eq, ng_eq2, Bool.false_eq_true, lit_nI, nI_add, pk_mul, nI_leI, nI_ltI, nI_eq, hi2, tld0, tI_p1, x_holds, bN, b, hm, x_cellOf, d1, x_isRock hS hW h1, rk, q]
          · rw [if_neg q]
            simp (config := { maxSteps := 2000000 }) (disch := omega) only [f186_H20, f186_J94, f186_J123, ux_at, ux_kk, ux_jo, gIx, pIx, pZx, gRx, aIx, sIx, aBx, sBx, lenx, clx, wshS, obS, reduceIte, Nat.one_ne_zero, Nat.zero_ne_one, Nat.reduceEqDiff, not_true_eq_false, not_false_eq_true, Nat.le_refl, ng_le, ng_lt, ng_nle, ng_nlt, ng_eq, ng_eq2, Bool.false_eq_true, lit_nI, nI_add, pk_mul, nI_leI, nI_ltI, nI_eq, hi2, tld0, tI_p1, x_holds, bN, b, hm, x_cellOf, d1, x_isRock hS hW h1, rk, q]
      · rw [if_neg b]
        simp (config := { maxSteps := 2000000 }) (disch := omega) only [f186_H20, f186_J94, f186_J123, ux_at, ux_kk, ux_jo, gIx, pIx, pZx, gRx, aIx, sIx, aBx, sBx, lenx, clx, wshS, obS, reduceIte, Nat.one_ne_zero, Nat.zero_ne_one, Nat.reduceEqDiff, not_true_eq_false, not_false_eq_true, Nat.le_refl, ng_le, ng_lt, ng_nle, ng_nlt, ng_eq, ng_eq2, Bool.false_eq_true, lit_nI, nI_add, pk_mul, nI_leI, nI_ltI, nI_eq, hi2, tld0, tI_p1, x_holds, bN, b]
  have hb := chF_lt mask (brI A m hours hour M c h) 3
  have hp : 8 * c + h < 512 := by omega
  have aL := aLx I L r (8 * c + h) hp
  have sL := fun v => sLx I L r (8 * c + h) v hp
  have e4 := shl4 (u := (chF mask (brI A m hours hour M c h) 3).2) ho
  have e5 := wb_or (a := N) (b := (chF mask (brI A m hours hour M c h) 3).2 * 4 ^ hour) (by omega) (by
    have := q4_lt (N := 0) (u := (chF mask (brI A m hours hour M c h) 3).2) (s := hour) (by decide) (by omega) ho
    rw [Nat.zero_or] at this
    omega)
  have step : ∀ K11 : Nat → Int32 → Int32 → Int32 → Int32 → Wd → Option (Int32 × Wd), f186_H20 n K11 n 60 (nI (8 * c + h)) (nI hour) ls (nI mask) (-1000000000 : Int32) (0 : Int32) 3 (0 : Int32) (mW I L r) = K11 60 (nI (8 * c + h)) (nI hour) (chF mask (brI A m hours hour M c h) 3).1 (tI (chF mask (brI A m hours hour M c h) 3).2) (mW I L r) := fun K11 => by
    have k := key K11
    rw [tI_1, ← e00] at k
    exact k
  unfold f186
  rw [step]
  simp (config := { maxSteps := 2000000 }) (disch := omega) only [ux_at, ux_kk, ux_jo, gIx, pIx, pZx, gRx, aIx, sIx, aBx, sBx, lenx, clx, wshS, obS, reduceIte, Nat.one_ne_zero, Nat.zero_ne_one, Nat.reduceEqDiff, not_true_eq_false, not_false_eq_true, Nat.le_refl, ng_le, ng_lt, ng_nle, ng_nlt, ng_eq, ng_eq2, Bool.false_eq_true, lit_nI, nI_add, pk_mul, nI_leI, nI_ltI, nI_eq, s0i, aL, sL, tI_p1, nI_l, hL, lit_lN, e4, e5]
end
