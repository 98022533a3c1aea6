/-! THE CLASS: the greatest worth, over hours -/
abbrev cfK : List Nat := coK ++ cnK
def OKR (A : St) (R : Nat → Nat → Bool) : Prop := ∀ p o, R p o = true → rkN A (p / 8) = 0
/-- where a turn brings her is reached, too -/
def CLp (A : St) (mf : Nat → Nat → Nat → Nat) (R : Nat → Nat → Bool) (h p0 : Nat) : Prop := ∀ o p, (o < h ∨ (o = h ∧ p < p0)) → p < 512 → R p o = true → ∀ k, k < 3 → (mf o (p / 8) (p % 8)).testBit k = true → rkN A (stpN A (p / 8) (p % 8) o k) = 0 → R (8 * stpN A (p / 8) (p % 8) o k + tuN (p % 8) k) (o + 1) = true
/-- what is chosen, from an hour on -/
def CBc (L : Lt) (A : St) (R : Nat → Nat → Bool) (m hours : Nat) (mf : Nat → Nat → Nat → Nat) (b : Nat → Nat) : Prop := ∀ p, p < 512 → ∃ N, L 63 p = lN N ∧ N < 2 ^ 48 ∧ (∀ o, o < 24 → o < b p → q4N N o = 0) ∧ ∀ o, b p ≤ o → o < hours → R p o = true → q4N N o = cdN A m hours mf o (p / 8) (p % 8)
/-- the row 'later' for an hour -/
def LTc (J A : St) (R : Nat → Nat → Bool) (m hours : Nat) (mf : Nat → Nat → Nat → Nat) (o : Nat) : Prop := ∀ q, q < 512 → (o = hours ∨ R q o = true) → J 65 q = bvI A m hours mf (hours - o) (q / 8) (q % 8)
theorem LTc.fr {I I' A : St} {R : Nat → Nat → Bool} {m hours o : Nat} {mf : Nat → Nat → Nat → Nat} (h : LTc I A R m hours mf o) {K F : List Nat} (f : Fr K F I I') (hk : 65 ∉ K) : LTc I' A R m hours mf o := fun q hq z => (congrFun (f.at hk (by decide)) q).trans (h q hq z)
theorem cdN_lt (A : St) (m hours : Nat) (mf : Nat → Nat → Nat → Nat) (o c h : Nat) : cdN A m hours mf o c h < 3 := chF_lt _ _ _
section
variable {I A : St} {L : Lt} {ru n : Nat}
theorem l210a (hS : CS I A) (hW : WFs A) {m r : Nat} (hm : m < 64) (hn : 100 < n) {fr hs : Int32} {K9 : Nat → Int32 → Int32 → Int32 → Wd → Option (Int32 × Wd)} {P : Option (Int32 × Wd) → Prop}
    (hK : ∀ J, Fr [61] [] I J → WOc J A m → P (K9 60 (nI m) fr hs (mW J L r))) : P (f210_H16 n K9 n 60 (nI m) fr hs (nI 0) (mW I L r)) := by
  refine lpP (F := fun k i J => f210_H16 n K9 k 60 (nI m) fr hs (nI i) (mW J L r)) (P := P) (J := fun i J => Fr [61] [] I J ∧ ∀ c, c < i → J 61 c = wSet A c m) 64 ?_ ?_ n 0 I (by omega) (by omega) ⟨Fr.rf, fun c hc => absurd hc (Nat.not_lt_zero _)⟩
  · intro k J hJ
    simp (config := { maxSteps := 2000000 }) (disch := omega) only [f210_H16, ux_at, ux_kk, ux_jo, gIx, pIx, pZx, gRx, aIx, sIx, aBx, sBx, lenx, clx, wshS, obS, reduceIte, Nat.one_ne_zero, Nat.zero_ne_one, Nat.reduceEqDiff, not_true_eq_false, not_false_eq_true, Nat.le_refl, ng_le, ng_lt, ng_nle, ng_nlt, ng_eq, ng_eq2, Bool.false_eq_true, lit_nI, nI_add, pk_mul, nI_leI, nI_ltI, nI_eq]
    exact hK J hJ.1 hJ.2
  · intro k i J hi hJ ih
    have hi2 : ¬ 64 ≤ i := by omega
    have hSJ := hS.fr hW hJ.1 (by decide)
    have e1 := x_worthToSet (L := L) (ru := r) (n := n) hSJ hW hi hm (by omega)
    simp (config := { maxSteps := 2000000 }) (disch := omega) only [f210_H16, ux_at, ux_kk, ux_jo, gIx, pIx, pZx, gRx, aIx, sIx, aBx, sBx, lenx, clx, wshS, obS, reduceIte, Nat.one_ne_zero, Nat.zero_ne_one, Nat.reduceEqDiff, not_true_eq_false, not_false_eq_true, Nat.le_refl, ng_le, ng_lt, ng_nle, ng_nlt, ng_eq, ng_eq2, Bool.false_eq_true, lit_nI, nI_add, pk_mul, nI_leI, nI_ltI, nI_eq, hi2, e1]
    refine ih _ ⟨hJ.1.u (by decide), fun c hc => ?_⟩
    rw [ux_if]
    by_cases e : c = i
    · rw [if_pos e, e]
    · rw [if_neg e]
      exact hJ.2 c (by omega)
theorem l210b {r : Nat} {Q : St → Prop} {mf : Nat → Nat → Nat → Nat} (hO : OPT A mf n r Q) (hW : WFs A) (hQ : Q I) {m hour : Nat} {R : Nat → Nat → Bool} (hw : WOc I A m) (hR : RBc I R) (hok : OKR A R) (hcl : CLp A mf R hour 0) (ho : hour < 23) (hn : 1000 < n) {fr hs : Int32} {rec34 : _} {K34 : _} {K41 : Nat → Int32 → Int32 → Int32 → Int32 → Wd → Option (Int32 × Wd)} {P : Option (Int32 × Wd) → Prop}
    (hK : ∀ J R', Fr cfK [] I J → Q J → WOc J A m → RBc J R' → OKR A R' → CLp A mf R' hour 512 → (∀ q o, R q o = true → R' q o = true) → P (K41 60 (nI m) fr hs (nI hour) (mW J L r))) : P (f210_H75 n rec34 K34 K41 n 60 (nI m) fr hs (nI hour) (nI 0) (mW I L r)) := by
  refine lpP (F := fun k p J => f210_H75 n rec34 K34 K41 k 60 (nI m) fr hs (nI hour) (nI p) (mW J L r)) (P := P) (J := fun p J => Fr cfK [] I J ∧ Q J ∧ WOc J A m ∧ ∃ R', RBc J R' ∧ OKR A R' ∧ CLp A mf R' hour p ∧ ∀ q o, R q o = true → R' q o = true) 512 ?_ ?_ n 0 I (by omega) (by omega) ⟨Fr.rf, hQ, hw, R, hR, hok, hcl, fun _ _ z => z⟩
  · rintro k J ⟨j1, j2, j3, R', j4, j5, j6, j7⟩
    simp (config := { maxSteps := 2000000 }) (disch := omega) only [f210_H75, ux_at, ux_kk, ux_jo, gIx, pIx, pZx, gRx, aIx, sIx, aBx, sBx, lenx, clx, wshS, obS, reduceIte, Nat.one_ne_zero, Nat.zero_ne_one, Nat.reduceEqDiff, not_true_eq_false, not_false_eq_true, Nat.le_refl, ng_le, ng_lt, ng_nle, ng_nlt, ng_eq, ng_eq2, Bool.false_eq_true, lit_nI, nI_add, pk_mul, nI_leI, nI_ltI, nI_eq]
    exact hK J R' j1 j2 j3 j4 j5 j6 j7
  · rintro k p J hp ⟨j1, j2, j3, R', j4, j5, j6, j7⟩ ih
    have hp2 : ¬ 512 ≤ p := by omega
    have hpc : p / 8 < 64 := by omega
    have hph : p % 8 < 8 := Nat.mod_lt _ (by decide)
    have hpp : 8 * (p / 8) + p % 8 = p := by omega
    obtain ⟨N, a1, a2, a3⟩ := j4 p hp
    have b3 := a3 hour
    by_cases b : R' p hour = true
    · rw [b] at b3
      obtain ⟨J2, e2, f2, q2, m1, m2⟩ := hO.2.2 J L j2 (p / 8) (p % 8) hour hpc hph (by omega)
      rw [hpp] at e2
      have hS2 := hO.1 J2 q2
      obtain ⟨J3, R3, e3, f3, b4, mo, nw, cl⟩ := x_reach (L := L) (ru := r) (n := n) hS2 hW (j4.fr f2 (by decide)) hpc hph (show hour < 24 by omega) m1 (by omega)
      rw [hpp] at e3
      simp (config := { maxSteps := 2000000 }) (disch := omega) only [f210_H75, ux_at, ux_kk, ux_jo, gIx, pIx, pZx, gRx, aIx, sIx, aBx, sBx, lenx, clx, wshS, obS, reduceIte, Nat.one_ne_zero, Nat.zero_ne_one, Nat.reduceEqDiff, not_true_eq_false, not_false_eq_true, Nat.le_refl, ng_le, ng_lt, ng_nle, ng_nlt, ng_eq, ng_eq2, Bool.false_eq_true, lit_nI, nI_add, pk_mul, nI_leI, nI_ltI, nI_eq, hp2, a1, x_holds, bN, b3, e2, e3]
      refine ih J3 ⟨j1.tr ((f2.mono (by decide) (by decide)).tr (f3.mono (by decide) (by decide))), hO.2.1 _ _ q2 (f3.mono (by decide) (by decide)), (j3.fr f2 (by decide)).fr f3 (by decide), R3, b4, fun q o z => ?_, fun o q z1 z2 z3 k hk z4 z5 => ?_, fun q o z => mo q o (j7 q o z)⟩
      · rcases nw q o z with z | ⟨-, z⟩
        · exact j5 q o z
        · exact z
      · have z3' : R' q o = true := by
          rcases nw q o z3 with z | ⟨z, -⟩
          · exact z
          · omega
        by_cases q1 : o = hour ∧ q = p
        · obtain ⟨rfl, rfl⟩ := q1
          exact cl k hk z4 z5
        · exact mo _ _ (j6 o q (by omega) z2 z3' k hk z4 z5)
    · have b5 : R' p hour = false := by simpa using b
      rw [b5] at b3
      simp (config := { maxSteps := 2000000 }) (disch := omega) only [f210_H75, ux_at, ux_kk, ux_jo, gIx, pIx, pZx, gRx, aIx, sIx, aBx, sBx, lenx, clx, wshS, obS, reduceIte, Nat.one_ne_zero, Nat.zero_ne_one, Nat.reduceEqDiff, not_true_eq_false, not_false_eq_true, Nat.le_refl, ng_le, ng_lt, ng_nle, ng_nlt, ng_eq, ng_eq2, Bool.false_eq_true, lit_nI, nI_add, pk_mul, nI_leI, nI_ltI, nI_eq, hp2, a1, x_holds, bN, b3]
      refine ih J ⟨j1, j2, j3, R', j4, j5, fun o q z1 z2 z3 => ?_, j7⟩
      by_cases q1 : o = hour ∧ q = p
      · obtain ⟨rfl, rfl⟩ := q1
        exact absurd z3 b
      · exact j6 o q (by omega) z2 z3
theorem l210c {r : Nat} {Q : St → Prop} {mf : Nat → Nat → Nat → Nat} (hO : OPT A mf n r Q) (hW : WFs A) (hQ : Q I) {m hours : Nat} {R : Nat → Nat → Bool} (hw : WOc I A m) (hR : RBc I R) (hok : OKR A R) (h1 : 1 ≤ hours) (h2 : hours ≤ 24) (hn : 1000 < n) {fr : Int32} {K34 : Nat → Int32 → Int32 → Int32 → Wd → Option (Int32 × Wd)} {P : Option (Int32 × Wd) → Prop}
    (hK : ∀ J R', Fr cfK [] I J → Q J → WOc J A m → RBc J R' → OKR A R' → CLp A mf R' (hours - 1) 0 → (∀ q o, R q o = true → R' q o = true) → P (K34 60 (nI m) fr (nI hours) (mW J L r))) : P (f210_H64 n K34 n 60 (nI m) fr (nI hours) (nI 0) (mW I L r)) := by
  have hs : nI hours - nI 1 = nI (hours - 1) := pk_sub h1
  refine lpP (F := fun k i J => f210_H64 n K34 k 60 (nI m) fr (nI hours) (nI i) (mW J L r)) (P := P) (J := fun i J => Fr cfK [] I J ∧ Q J ∧ WOc J A m ∧ ∃ R', RBc J R' ∧ OKR A R' ∧ CLp A mf R' i 0 ∧ ∀ q o, R q o = true → R' q o = true) (hours - 1) ?_ ?_ n 0 I (by omega) (by omega) ⟨Fr.rf, hQ, hw, R, hR, hok, fun o p z => by omega, fun _ _ z => z⟩
  · rintro k J ⟨j1, j2, j3, R', j4, j5, j6, j7⟩
    simp (config := { maxSteps := 2000000 }) (disch := omega) only [f210_H64, ux_at, ux_kk, ux_jo, gIx, pIx, pZx, gRx, aIx, sIx, aBx, sBx, lenx, clx, wshS, obS, reduceIte, Nat.one_ne_zero, Nat.zero_ne_one, Nat.reduceEqDiff, not_true_eq_false, not_false_eq_true, Nat.le_refl, ng_le, ng_lt, ng_nle, ng_nlt, ng_eq, ng_eq2, Bool.false_eq_true, lit_nI, nI_add, pk_mul, nI_leI, nI_ltI, nI_eq, hs]
    exact hK J R' j1 j2 j3 j4 j5 j6 j7
  · rintro k i J hi ⟨j1, j2, j3, R', j4, j5, j6, j7⟩ ih
    have hi2 : ¬ hours - 1 ≤ i := by omega
    simp (config := { maxSteps := 2000000 }) (disch := omega) only [f210_H64, ux_at, ux_kk, ux_jo, gIx, pIx, pZx, gRx, aIx, sIx, aBx, sBx, lenx, clx, wshS, obS, reduceIte, Nat.one_ne_zero, Nat.zero_ne_one, Nat.reduceEqDiff, not_true_eq_false, not_false_eq_true, Nat.le_refl, ng_le, ng_lt, ng_nle, ng_nlt, ng_eq, ng_eq2, Bool.false_eq_true, lit_nI, nI_add, pk_mul, nI_leI, nI_ltI, nI_eq, hs, hi2]
    refine l210b (P := P) hO hW j2 j3 j4 j5 j6 (by omega) hn fun J2 R2 f2 q2 w2 r2 o2 c2 m2 => ?_
    simp (config := { maxSteps := 2000000 }) (disch := omega) only [lit_nI, nI_add]
    exact ih J2 ⟨j1.tr f2, q2, w2, R2, r2, o2, fun o p z zp => c2 o p (by omega) zp, fun q o z => m2 q o (j7 q o z)⟩
/-- one hour, backwards -/
theorem l210d {r : Nat} {Q : St → Prop} {mf : Nat → Nat → Nat → Nat} (hO : OPT A mf n r Q) (hW : WFs A) (hQ : Q I) {m hours hour : Nat} {R : Nat → Nat → Bool} (hw : WOc I A m) (hR : RBc I R) (hcl : CLp A mf R (hours - 1) 0) (hT : LTc I A R m hours mf (hour + 1)) (hC : CBc L A R m hours mf (fun _ => hour + 1)) (h1 : hour < hours) (h2 : hours ≤ 24) (hn : 1000 < n) {fr : Int32} {rec83 : _} {K83 : _} {K87 : Nat → Int32 → Int32 → Int32 → Int32 → Wd → Option (Int32 × Wd)} {P : Option (Int32 × Wd) → Prop}
    (hK : ∀ J L', Fr cfK [] I J → Q J → WOc J A m → RBc J R → (∀ q, q < 512 → R q hour = true → J 64 q = bvI A m hours mf (hours - hour) (q / 8) (q % 8)) → CBc L' A R m hours mf (fun _ => hour) → P (K87 60 fr (nI hours) (-nI 99 * pSet A m) (nI hour) (mW J L' r))) : P (f210_H171 n rec83 K83 K87 n 60 fr (nI hours) (-nI 99 * pSet A m) (nI hour) (nI 0) (mW I L r)) := by
  refine lpP (F := fun k p (s : St × Lt) => f210_H171 n rec83 K83 K87 k 60 fr (nI hours) (-nI 99 * pSet A m) (nI hour) (nI p) (mW s.1 s.2 r)) (P := P) (J := fun p s => Fr cfK [] I s.1 ∧ Q s.1 ∧ WOc s.1 A m ∧ RBc s.1 R ∧ LTc s.1 A R m hours mf (hour + 1) ∧ (∀ q, q < p → R q hour = true → s.1 64 q = bvI A m hours mf (hours - hour) (q / 8) (q % 8)) ∧ CBc s.2 A R m hours mf (fun q => if q < p then hour else hour + 1)) 512 ?_ ?_ n 0 (I, L) (by omega) (by omega) ⟨Fr.rf, hQ, hw, hR, hT, fun q hq => absurd hq (Nat.not_lt_zero _), hC⟩
  · rintro k ⟨J, L'⟩ ⟨j1, j2, j3, j4, j5, j6, j7⟩
    simp (config := { maxSteps := 2000000 }) (disch := omega) only [f210_H171, ux_at, ux_kk, ux_jo, gIx, pIx, pZx, gRx, aIx, sIx, aBx, sBx, lenx, clx, wshS, obS, reduceIte, Nat.one_ne_zero, Nat.zero_ne_one, Nat.reduceEqDiff, not_true_eq_false, not_false_eq_true, Nat.le_refl, ng_le, ng_lt, ng_nle, ng_nlt, ng_eq, ng_eq2, Bool.false_eq_true, lit_nI, nI_add, pk_mul, nI_leI, nI_ltI, nI_eq]
    refine hK J L' j1 j2 j3 j4 j6 fun p hp => ?_
    obtain ⟨N, a, b, c, d⟩ := j7 p hp
    simp only [hp, reduceIte] at c d
    exact ⟨N, a, b, c, d⟩
  · rintro k p ⟨J, L'⟩ hp ⟨j1, j2, j3, j4, j5, j6, j7⟩ ih
    have j1 : Fr cfK [] I J := j1
    have j2 : Q J := j2
    have j3 : WOc J A m := j3
    have j4 : RBc J R := j4
    have j5 : LTc J A R m hours mf (hour + 1) := j5
    have hp2 : ¬ 512 ≤ p := by omega
    have hpc : p / 8 < 64 := by omega
    have hph : p % 8 < 8 := Nat.mod_lt _ (by decide)
    have hpp : 8 * (p / 8) + p % 8 = p := by omega
    obtain ⟨N, a1, a2, a3⟩ := j4 p hp
    have b3 := a3 hour
    have cb : ∀ q, q < 512 → q ≠ p → ∀ (L2 : Lt), L2 63 q = L' 63 q → ∃ N, L2 63 q = lN N ∧ N < 2 ^ 48 ∧ (∀ o, o < 24 → o < (if q < p + 1 then hour else hour + 1) → q4N N o = 0) ∧ ∀ o, (if q < p + 1 then hour else hour + 1) ≤ o → o < hours → R q o = true → q4N N o = cdN A m hours mf o (q / 8) (q % 8) := by
      intro q hq hne L2 e
      obtain ⟨N, c1, c2, c3, c4⟩ := j7 q hq
      have : (q < p + 1) = (q < p) := propext (by omega)
      rw [e]
      simp only [this]
      exact ⟨N, c1, c2, c3, c4⟩
    by_cases b : R p hour = true
    · rw [b] at b3
      obtain ⟨J2, e2, f2, q2, m1, m2⟩ := hO.2.2 J L' j2 (p / 8) (p % 8) hour hpc hph (by omega)
      rw [hpp] at e2
      have hS2 := hO.1 J2 q2
      obtain ⟨N2, c1, c2, c3, c4⟩ := j7 p hp
      have c1 : L' 63 p = lN N2 := c1
      simp only [Nat.lt_irrefl, reduceIte] at c3 c4
      have e3 := x_choose (L := L') (n := n) (m := m) (hours := hours) (hour := hour) (r := r) (N := N2) (M := bvI A m hours mf (hours - (hour + 1))) hS2 hW (j3.fr f2 (by decide)) hpc hph (show hour < 24 by omega) m1 (fun k hk z4 z5 => by
        have h8t := tuN_lt (p % 8) k
        have s1 := stpN_lt hW hpc (h := p % 8) (hour := hour) (k := k)
        rw [f2.at (by decide) (by decide)]
        have z := j5 (8 * stpN A (p / 8) (p % 8) hour k + tuN (p % 8) k) (by omega) (by
          by_cases q1 : hour + 1 = hours
          · exact Or.inl q1
          · exact Or.inr (hcl hour p (Or.inl (by omega)) hp b k hk z4 z5))
        rw [show (8 * stpN A (p / 8) (p % 8) hour k + tuN (p % 8) k) / 8 = stpN A (p / 8) (p % 8) hour k by omega, show (8 * stpN A (p / 8) (p % 8) hour k + tuN (p % 8) k) % 8 = tuN (p % 8) k by omega] at z
        exact z) (by rw [hpp]; exact c1) c2 (by omega)
      rw [hpp] at e3
      have hv : ∀ k, k < 3 → ¬ brI A m hours hour (bvI A m hours mf (hours - (hour + 1))) (p / 8) (p % 8) k ≤ iI (-1000000000) := fun k hk => (brI_bd hW (r := hours - (hour + 1)) (by omega) hpc hk (bvI_bd hW _ (by omega))).gt (by omega)
      have ec := chF_1 m1 m2 hv
      rw [← bvI_s h1] at ec
      simp (config := { maxSteps := 2000000 }) (disch := omega) only [f210_H171, ux_at, ux_kk, ux_jo, gIx, pIx, pZx, gRx, aIx, sIx, aBx, sBx, lenx, clx, wshS, obS, reduceIte, Nat.one_ne_zero, Nat.zero_ne_one, Nat.reduceEqDiff, not_true_eq_false, not_false_eq_true, Nat.le_refl, ng_le, ng_lt, ng_nle, ng_nlt, ng_eq, ng_eq2, Bool.false_eq_true, lit_nI, nI_add, pk_mul, nI_leI, nI_ltI, nI_eq, hp2, a1, x_holds, bN, b3, e2, e3]
      refine ih (_, _) ⟨(j1.tr (f2.mono (by decide) (by decide))).u (by decide), hO.2.1 _ _ q2 (Fr.rf.u (by decide)), (j3.fr f2 (by decide)).fr (Fr.rf.u (K := [64]) (F := []) (by decide)) (by decide), (j4.fr f2 (by decide)).fr (Fr.rf.u (K := [64]) (F := []) (by decide)) (by decide), (j5.fr f2 (by decide)).fr (Fr.rf.u (K := [64]) (F := []) (by decide)) (by decide), fun q hq z => ?_, fun q hq => ?_⟩
      · show u2 J2 64 p _ 64 q = _
        rw [ux_if]
        by_cases e : q = p
        · rw [if_pos e, e]
          exact ec
        · rw [if_neg e, f2.at (by decide) (by decide)]
          exact j6 q (by omega) z
      · by_cases e : q = p
        · subst e
          have hcd := cdN_lt A m hours mf hour (q / 8) (q % 8)
          have z0 := c3 hour (by omega) (by omega)
          refine ⟨_, ux_at, q4_lt c2 (by unfold cdN at hcd; omega) (by omega), fun o o1 o2 => ?_, fun o o1 o2 o3 => ?_⟩
          · simp only [Nat.lt_succ_self, reduceIte] at o2
            rw [q4_put (by unfold cdN at hcd; omega) (by omega) z0 o1, if_neg (by omega)]
            exact c3 o o1 (by omega)
          · simp only [Nat.lt_succ_self, reduceIte] at o1
            rw [q4_put (by unfold cdN at hcd; omega) (by omega) z0 (by omega)]
            by_cases e : o = hour
            · rw [if_pos e, e]
              rfl
            · rw [if_neg e]
              exact c4 o (by omega) o2 o3
        · exact cb q hq e _ (ux_j e)
    · have b5 : R p hour = false := by simpa using b
      rw [b5] at b3
      simp (config := { maxSteps := 2000000 }) (disch := omega) only [f210_H171, ux_at, ux_kk, ux_jo, gIx, pIx, pZx, gRx, aIx, sIx, aBx, sBx, lenx, clx, wshS, obS, reduceIte, Nat.one_ne_zero, Nat.zero_ne_one, Nat.reduceEqDiff, not_true_eq_false, not_false_eq_true, Nat.le_refl, ng_le, ng_lt, ng_nle, ng_nlt, ng_eq, ng_eq2, Bool.false_eq_true, lit_nI, nI_add, pk_mul, nI_leI, nI_ltI, nI_eq, hp2, a1, x_holds, bN, b3]
      refine ih (J, L') ⟨j1, j2, j3, j4, j5, fun q hq z => ?_, fun q hq => ?_⟩
      · by_cases e : q = p
        · rw [e] at z
          exact absurd z b
        · exact j6 q (by omega) z
      · by_cases e : q = p
        · subst e
          obtain ⟨N2, c1, c2, c3, c4⟩ := j7 q hq
          simp only [Nat.lt_irrefl, reduceIte] at c3 c4
          refine ⟨N2, c1, c2, fun o o1 o2 => ?_, fun o o1 o2 o3 => ?_⟩
          · simp only [Nat.lt_succ_self, reduceIte] at o2
            exact c3 o o1 (by omega)
          · simp only [Nat.lt_succ_self, reduceIte] at o1
            by_cases e : o = hour
            · rw [e] at o3
              exact absurd o3 b
            · exact c4 o (by omega) o2 o3
        · exact cb q hq e L' rfl
/-- the greatest worth -/
theorem x_greatest {r : Nat} {Q : St → Prop} {mf : Nat → Nat → Nat → Nat} (hO : OPT A mf n r Q) (hW : WFs A) (hQ : Q I) {m c h hours : Nat} (hm : m < 64) (hc : c < 64) (hh : h < 8) (hr0 : rkN A c = 0) (h1 : 1 ≤ hours) (h2 : hours ≤ 24) (hn : 1000 < n) :
    ∃ I' L' R, f210 n 60 (nI m) (nI (8 * c + h)) (nI hours) (mW I L r) = some (bvI A m hours mf hours c h, mW I' L' r) ∧ Fr cfK [] I I' ∧ Q I' ∧ R (8 * c + h) 0 = true ∧ CLp A mf R (hours - 1) 0 ∧ CBc L' A R m hours mf (fun _ => 0) := by
  have e99 : (-99 : Int32) = -nI 99 := by decide +kernel
  have hp : 8 * c + h < 512 := by omega
  have hs : nI hours - nI 1 = nI (hours - 0) + -nI 1 := by rw [Nat.sub_zero, Int32.sub_eq_add_neg]
  have ho : f0 (nI (8 * c + h)) (nI 0) (nI 511) (mW I L r) = some (nI 0, mW I L r) := s0i (by omega) (by omega) (by decide)
  simp (config := { maxSteps := 2000000 }) (disch := omega) only [f210, lit_nI, ho, obS, reduceIte, nI_eq]
  refine l210a (P := fun x => ∃ I' L' R, x = some (bvI A m hours mf hours c h, mW I' L' r) ∧ Fr cfK [] I I' ∧ Q I' ∧ R (8 * c + h) 0 = true ∧ CLp A mf R (hours - 1) 0 ∧ CBc L' A R m hours mf (fun _ => 0)) (hO.1 I hQ) hW hm (by omega) fun J1 f1 w1 => ?_
  obtain ⟨J2, e2, f2, z2⟩ := x_fill (I := J1) (L := L) (ru := r) (n := n) (v := 0) (k := 62) sh_62 (by decide) hn
  simp (config := { maxSteps := 2000000 }) (disch := omega) only [ux_at, ux_kk, ux_jo, gIx, pIx, pZx, gRx, aIx, sIx, aBx, sBx, lenx, clx, wshS, obS, reduceIte, lit_nI, e2]
  have hR0 : RBc J2 (fun _ _ => false) := fun p hp => ⟨0, z2 p hp, by decide, fun o => Nat.zero_testBit o⟩
  have hR1 := hR0.put hp (show 0 < 25 by decide) (z2 _ hp) (by decide) (fun o => Nat.zero_testBit o)
  rw [show 0 ||| 2 ^ 0 = 1 from rfl] at hR1
  have f3 : Fr coK [] I (u2 J2 62 (8 * c + h) (nI 1)) := ((f1.mono (by decide) (by decide)).tr (f2.mono (by decide) (by decide))).u (by decide)
  have w3 : WOc (u2 J2 62 (8 * c + h) (nI 1)) A m := (w1.fr f2 (by decide)).fr (Fr.rf.u (K := [62]) (F := []) (by decide)) (by decide)
  refine l210c (P := fun x => ∃ I' L' R, x = some (bvI A m hours mf hours c h, mW I' L' r) ∧ Fr cfK [] I I' ∧ Q I' ∧ R (8 * c + h) 0 = true ∧ CLp A mf R (hours - 1) 0 ∧ CBc L' A R m hours mf (fun _ => 0)) hO hW (hO.2.1 _ _ hQ f3) w3 hR1 (fun p o z => by
    simp only [Bool.false_or, Bool.and_eq_true, decide_eq_true_eq] at z
    rw [z.1, show (8 * c + h) / 8 = c by omega]
    exact hr0) h1 h2 hn fun J4 R4 f4 q4 w4 r4 o4 c4 m4 => ?_
  have s4 : R4 (8 * c + h) 0 = true := m4 _ _ (by simp)
  obtain ⟨J5, e5, f5, z5⟩ := x_fill (I := J4) (L := L) (ru := r) (n := n) (v := 0) (k := 65) sh_65 (by decide) hn
  obtain ⟨L6, e6, z6⟩ := x_fillL (I := J5) (L := L) (ru := r) (n := n) (k := 63) sh_63 (by decide) hn
  have q5 := hO.2.1 _ _ q4 (f5.mono (by decide) (by decide))
  have e7 := x_personsIn (L := L6) (ru := r) (n := n) (hO.1 _ q5) hW hm (by omega)
  simp (config := { maxSteps := 2000000 }) (disch := omega) only [ux_at, ux_kk, ux_jo, gIx, pIx, pZx, gRx, aIx, sIx, aBx, sBx, lenx, clx, wshS, obS, reduceIte, lit_nI, lit_lN, e5, e6, e7, hs]
  have f5' : Fr cfK [] I J5 := (f3.mono (by decide) (by decide)).tr (f4.tr (f5.mono (by decide) (by decide)))
  refine lpP (F := fun k i (s : St × Lt) => f210_H163 n (fun e0 e2 w81 => ob (getR w81 1 e0 6) (fun x82 => ob (aldI w81 x82 e2) (fun x84 => some (x84, w81)))) k 60 (nI (8 * c + h)) (nI hours) (-nI 99 * pSet A m) (nI (hours - i) + -nI 1) (mW s.1 s.2 r)) (P := fun x => ∃ I' L' R, x = some (bvI A m hours mf hours c h, mW I' L' r) ∧ Fr cfK [] I I' ∧ Q I' ∧ R (8 * c + h) 0 = true ∧ CLp A mf R (hours - 1) 0 ∧ CBc L' A R m hours mf (fun _ => 0)) (J := fun i s => Fr cfK [] I s.1 ∧ Q s.1 ∧ WOc s.1 A m ∧ RBc s.1 R4 ∧ LTc s.1 A R4 m hours mf (hours - i) ∧ CBc s.2 A R4 m hours mf (fun _ => hours - i)) hours ?_ ?_ n 0 (J5, L6) (by omega) (by omega) ⟨f5', q5, w4.fr f5 (by decide), r4.fr f5 (by decide), fun q hq _ => ?_, fun p hp => ?_⟩
  · rintro k ⟨J, L'⟩ ⟨j1, j2, j3, j4, j5, j6⟩
    have e0 : nI (hours - hours) + -nI 1 = -nI 1 := by rw [Nat.sub_self]; exact dn_0
    have j5 := j5 (8 * c + h) hp (Or.inr (by rw [Nat.sub_self]; exact s4))
    rw [Nat.sub_self] at j6
    rw [Nat.sub_self, Nat.sub_zero, show (8 * c + h) / 8 = c by omega, show (8 * c + h) % 8 = h by omega] at j5
    have j5 : J 65 (8 * c + h) = bvI A m hours mf hours c h := j5
    simp (config := { maxSteps := 2000000 }) (disch := omega) only [f210_H163, ux_at, ux_kk, ux_jo, gIx, pIx, pZx, gRx, aIx, sIx, aBx, sBx, lenx, clx, wshS, obS, reduceIte, Nat.one_ne_zero, Nat.zero_ne_one, Nat.reduceEqDiff, not_true_eq_false, not_false_eq_true, Nat.le_refl, ng_le, ng_lt, ng_nle, ng_nlt, ng_eq, ng_eq2, Bool.false_eq_true, lit_nI, nI_add, pk_mul, nI_leI, nI_ltI, nI_eq, e0, j5]
    exact ⟨J, L', R4, rfl, j1, j2, s4, c4, j6⟩
  · rintro k i ⟨J, L'⟩ hi ⟨j1, j2, j3, j4, j5, j6⟩ ih
    have hdn : nI (hours - i) + -nI 1 = nI (hours - (i + 1)) := by
      rw [dn_nI (by omega)]
      congr 1
    have hdn2 : nI (hours - (i + 1)) + -nI 1 = nI (hours - (i + 1)) + -nI 1 := rfl
    have hoi : hours - i = hours - (i + 1) + 1 := by omega
    rw [hoi] at j5 j6
    simp (config := { maxSteps := 2000000 }) (disch := omega) only [f210_H163, ux_at, ux_kk, ux_jo, gIx, pIx, pZx, gRx, aIx, sIx, aBx, sBx, lenx, clx, wshS, obS, reduceIte, Nat.one_ne_zero, Nat.zero_ne_one, Nat.reduceEqDiff, not_true_eq_false, not_false_eq_true, Nat.le_refl, ng_le, ng_lt, ng_nle, ng_nlt, ng_eq, ng_eq2, Bool.false_eq_true, lit_nI, nI_add, pk_mul, nI_leI, nI_ltI, nI_eq, hdn, Nat.not_lt_zero]
    refine l210d (P := fun x => ∃ I' L' R, x = some (bvI A m hours mf hours c h, mW I' L' r) ∧ Fr cfK [] I I' ∧ Q I' ∧ R (8 * c + h) 0 = true ∧ CLp A mf R (hours - 1) 0 ∧ CBc L' A R m hours mf (fun _ => 0)) hO hW j2 j3 j4 c4 j5 j6 (by omega) h2 hn fun J7 L7 f7 q7 w7 r7 n7 b7 => ?_
    obtain ⟨J8, e8, f8, z8⟩ := x_cpy (I := J7) (L := L7) (ru := r) sh_64 sh_65 (by decide)
    simp (config := { maxSteps := 2000000 }) (disch := omega) only [ux_at, ux_kk, ux_jo, gIx, pIx, pZx, gRx, aIx, sIx, aBx, sBx, lenx, clx, wshS, obS, reduceIte, lit_nI, e8]
    refine ih (J8, L7) ⟨j1.tr (f7.tr (f8.mono (by decide) (by decide))), hO.2.1 _ _ q7 (f8.mono (by decide) (by decide)), w7.fr f8 (by decide), r7.fr f8 (by decide), fun q hq z => ?_, b7⟩
    show J8 65 q = _
    rw [z8 q hq]
    refine n7 q hq ?_
    rcases z with z | z
    · omega
    · exact z
  · rw [Nat.sub_zero, Nat.sub_self]
    exact z5 q hq
  · refine ⟨0, z6 p hp, by decide, fun o _ _ => ?_, fun o o1 o2 => absurd o2 (by
    have o1 : hours - 0 ≤ o := o1
    omega)⟩
    unfold q4N
    rw [Nat.zero_div]
/-- a turn of the course that was worked out last -/
theorem x_turnOf (hS : CS I A) (hW : WFs A) {R : Nat → Nat → Bool} {m t j : Nat} (hR0 : R (8 * shN A + hdN A) 0 = true) (hcl : CLp A all7 R (t - 1) 0) (hC : CBc L A R m t all7 (fun _ => 0)) (hm : m < 64) (h1 : 1 ≤ t) (h2 : t ≤ 24) (hj : j < t) (hn : 100 < n) :
    ∃ x, f187 n 60 (nI (8 * shN A + hdN A)) (nI j) (mW I L ru) = some (x, mW I L ru) ∧ crI A m t j x := by
  obtain ⟨o1, o2, o3⟩ := ship_ok hW
  have ck : ∀ o c h, c < 64 → o < t → cdN A m t all7 o c h = ckN A m t o c h := fun o c h hc ho => by
    unfold cdN ckN
    rw [bvI_s ho]
    exact chF_2 fun k hk => (brI_bd hW (r := t - (o + 1)) (by omega) hc hk (bvI_bd hW _ (by omega))).gt (by omega)
  have t7 : ∀ k, k < 3 → Nat.testBit 7 k = true := by decide
  have e0 : 8 * shN A + hdN A = 8 * (crS A m t 0).1 + (crS A m t 0).2 := rfl
  rw [e0] at hR0 ⊢
  have nine : (9 : Int32) = nI 9 := rfl
  refine lpP (F := fun k i (v : Int32) => f187_H9 n (fun e w => some (e, w)) k 60 (nI j) (nI (8 * (crS A m t i).1 + (crS A m t i).2)) v (nI i) (mW I L ru)) (P := fun y => ∃ x, y = some (x, mW I L ru) ∧ crI A m t j x) (J := fun i v => (∀ u, u < i → rkN A (crS A m t u).1 = 0) ∧ (i < t → rkN A (crS A m t i).1 = 0 → R (8 * (crS A m t i).1 + (crS A m t i).2) i = true) ∧ (i = j + 1 → v = tI (ckN A m t j (crS A m t j).1 (crS A m t j).2))) (j + 1) ?_ ?_ n 0 (nI 9) (by omega) (by omega) ⟨fun u hu => absurd hu (Nat.not_lt_zero _), fun _ _ => hR0, fun z => by omega⟩
  · rintro k v ⟨j1, -, j3⟩
    have hlt : j < j + 1 := by omega
    simp (config := { maxSteps := 2000000 }) (disch := omega) only [f187_H9, ux_at, ux_kk, ux_jo, gIx, pIx, pZx, gRx, aIx, sIx, aBx, sBx, lenx, clx, wshS, obS, reduceIte, Nat.one_ne_zero, Nat.zero_ne_one, Nat.reduceEqDiff, not_true_eq_false, not_false_eq_true, Nat.le_refl, ng_le, ng_lt, ng_nle, ng_nlt, ng_eq, ng_eq2, Bool.false_eq_true, lit_nI, nI_add, pk_mul, nI_leI, nI_ltI, nI_eq, hlt]
    exact ⟨v, rfl, Or.inl ⟨fun u hu => j1 u (by omega), j3 rfl⟩⟩
  · rintro k i v hi ⟨j1, j2, -⟩ ih
    have hlt : ¬ j < i := by omega
    obtain ⟨p1, p2⟩ := crS_ok hW m t i
    have d1 : (8 * (crS A m t i).1 + (crS A m t i).2) / 8 = (crS A m t i).1 := by omega
    have d3 : (8 * (crS A m t i).1 + (crS A m t i).2) % 8 = (crS A m t i).2 := by omega
    have d2 : 8 * (crS A m t i).1 + (crS A m t i).2 < 512 := by omega
    rcases one_or (rk_le hW p1) with rk | rk
    · have hRi := j2 (by omega) rk
      obtain ⟨N, c1, c2, -, c4⟩ := hC _ d2
      have c5 := c4 i (Nat.zero_le _) (by omega) hRi
      rw [d1, d3, ck i _ _ p1 (by omega)] at c5
      have hk3 : ckN A m t i (crS A m t i).1 (crS A m t i).2 < 3 := fkN_lt _ _
      have e4 := shr4 (o := i) c2 (by omega)
      rw [c5] at e4
      have hmv := x_moved (L := L) (ru := ru) hS hW p1 p2 (show i < 1000 by omega) hk3
      have es1 : stpN A (crS A m t i).1 (crS A m t i).2 i (ckN A m t i (crS A m t i).1 (crS A m t i).2) = (crS A m t (i + 1)).1 := rfl
      have es2 : tuN (crS A m t i).2 (ckN A m t i (crS A m t i).1 (crS A m t i).2) = (crS A m t (i + 1)).2 := rfl
      rw [es1, es2] at hmv
      have aL := aLx I L ru _ d2
      rw [c1] at aL
      have z := ih (tI (ckN A m t i (crS A m t i).1 (crS A m t i).2)) ⟨fun u hu => by
        by_cases q : u = i
        · rw [q]; exact rk
        · exact j1 u (by omega), fun q1 q2 => by
        have := hcl i _ (Or.inl (by omega)) d2 hRi _ hk3 (t7 _ hk3) (by rw [d1, d3, es1]; exact q2)
        rw [d1, d3, es1, es2] at this
        exact this, fun q => by rw [show i = j by omega]⟩
      simp (config := { maxSteps := 2000000 }) (disch := omega) only [f187_H9, ux_at, ux_kk, ux_jo, gIx, pIx, pZx, gRx, aIx, sIx, aBx, sBx, lenx, clx, wshS, obS, reduceIte, Nat.one_ne_zero, Nat.zero_ne_one, Nat.reduceEqDiff, not_true_eq_false, not_false_eq_true, Nat.le_refl, ng_le, ng_lt, ng_nle, ng_nlt, ng_eq, ng_eq2, Bool.false_eq_true, lit_nI, nI_add, pk_mul, nI_leI, nI_ltI, nI_eq, hlt, x_cellOf, d1, x_isRock hS hW p1, rk, s0i, aL, lit_lN, e4, lN_i, tI_def, hmv]
      exact z
    · simp (config := { maxSteps := 2000000 }) (disch := omega) only [f187_H9, ux_at, ux_kk, ux_jo, gIx, pIx, pZx, gRx, aIx, sIx, aBx, sBx, lenx, clx, wshS, obS, reduceIte, Nat.one_ne_zero, Nat.zero_ne_one, Nat.reduceEqDiff, not_true_eq_false, not_false_eq_true, Nat.le_refl, ng_le, ng_lt, ng_nle, ng_nlt, ng_eq, ng_eq2, Bool.false_eq_true, lit_nI, nI_add, pk_mul, nI_leI, nI_ltI, nI_eq, hlt, x_cellOf, d1, x_isRock hS hW p1, rk]
      exact ⟨_, rfl, Or.inr ⟨⟨i, by omega, rk⟩, rfl⟩⟩
end
