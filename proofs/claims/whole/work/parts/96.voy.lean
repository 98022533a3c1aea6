/-! THE CLASS: voyages -/
theorem rr_nj {r : Nat} (h : nwS r = some (5, 5)) : r ∉ [57, 34] := by
  intro q
  rcases List.mem_cons.mp q with e | hk
  · rw [e, sh_57] at h
    exact absurd h (by decide)
  · rcases List.mem_cons.mp hk with e | hk
    · rw [e, sh_34] at h
      exact absurd h (by decide)
    · cases hk
theorem drP_1 {p : Nat → Nat} {q turn s : Nat} {d : Dr} (h : ∀ e, e ∈ d.2.1 → e.1 < 6) (hs : s < 6) : ∀ e, e ∈ (drP p q turn s d).2.1 → e.1 < 6 := by
  intro e he
  unfold drP at he
  split at he
  · rcases List.mem_cons.mp he with rfl | he
    · exact hs
    · exact h e he
  · rcases List.mem_cons.mp he with rfl | he
    · exact hs
    · exact h e he
theorem drK_1 {p : Nat → Nat} {q turn s : Nat} {d : Dr} (h : ∀ e, e ∈ d.2.1 → e.1 < 6) (hs : s < 6) : ∀ k, ∀ e, e ∈ (drK p q turn s d k).2.1 → e.1 < 6
  | 0 => h
  | k + 1 => drP_1 (drK_1 h hs k) hs
theorem drS_1 {A : St} {p : Nat → Nat} {q turn : Nat} {d : Dr} (h : ∀ e, e ∈ d.2.1 → e.1 < 6) : ∀ i, i ≤ 6 → ∀ e, e ∈ (drS A p q turn d i).2.1 → e.1 < 6
  | 0, _ => h
  | i + 1, hi => drK_1 (drS_1 h i (by omega)) (by omega) _
section
variable {I A : St} {L : Lt} {ru n : Nat}
theorem x_draw {s k : Nat} (h4 : I 34 4 = nI s) (hk : 0 < k) (hk2 : k < 2 ^ 31) : f31 34 (nI k) (mW I L ru) = some (nI (lcgN s / 65536 % k), mW (u2 I 34 4 (nI (lcgN s))) L ru) := by
  have e1 : (nI s * nI 1103515245 + nI 12345) &&& nI 2147483647 = nI (lcgN s) := by
    rw [pk_mul, nI_add, and_nIg, show 2147483647 = 2 ^ 31 - 1 from rfl, Nat.and_two_pow_sub_one_eq_mod]
    rfl
  have hl := lcgN_lt s
  have hk3 : ¬ k = 0 := by omega
  have hk4 : ¬ k ≤ 0 := by omega
  have hq : lcgN s / 65536 ≤ lcgN s := Nat.div_le_self _ _
  simp (config := { maxSteps := 2000000 }) (disch := omega) only [f31, gIx, pIx, obS, ux_at, h4, lit_nI, e1, nI_leI, hk4, pk_div, irm_nI, nI_eq, hk3, not_false_eq_true, reduceIte]
/-- one person draws -/
theorem l184 (hS : CS I A) (hW : WFs A) {p : Nat → Nat} {q turn s k N D pl r : Nat} {d : Dr} (hd : DrOk N d) (hD : I 48 pl = nI D) (hD2 : D < 2 ^ 18) (hpl : pl < 512) (hp : ∀ s, s < nsN A → dgN D s = p s ∧ p s < 5) (hT : TL I 57 d.2.1) (h6t : I 57 6 = pI d.2.2.1) (h4 : I 34 4 = nI d.1) (hq : q ≤ 100) (ht : turn < 54) (hN : N < 54) (hs : s < nsN A) (hk : k < perN A s) {rec17 : _} {K17 : _} {K24 : _} {f : Nat} :
    ∃ I', Fr [57, 34] [] I I' ∧ (∀ j, j ≠ 4 → I' 34 j = I 34 j) ∧ TL I' 57 (drP p q turn s d).2.1 ∧ I' 57 6 = pI (drP p q turn s d).2.2.1 ∧ I' 34 4 = nI (drP p q turn s d).1 ∧ f184_H50 n rec17 K17 K24 (f + 1) 56 r (nI pl) (nI q) (nI turn) (nI s) (nI k) (mW I L ru) = f184_H50 n rec17 K17 K24 f 56 r (nI pl) (nI q) (nI turn) (nI s) (nI (k + 1)) (mW I' L ru) := by
  have h6 := ns6 hW
  obtain ⟨d1, d2, d3, d4, d5⟩ := hd
  obtain ⟨p1, p2⟩ := hp s hs
  have hp9 := per_le hW hs
  have hk2 : ¬ perN A s ≤ k := by omega
  have e4 : A 69 s = nI (perN A s) := (wfA hW).2.2.2.2.1 s hs
  have hl1 := lcgN_lt d.1
  -- the press is known
  have fin : ∀ (J : St) (u : Nat), u < 5 → Fr [34] [] I J → (∀ j, j ≠ 4 → J 34 j = I 34 j) → ∃ I', Fr [57, 34] [] I I' ∧ (∀ j, j ≠ 4 → I' 34 j = I 34 j) ∧ TL I' 57 ((s, u, 1) :: d.2.1) ∧ I' 57 6 = pI (if d.2.2.2 = turn then u else d.2.2.1) ∧ I' 34 4 = J 34 4 ∧ f184_J101 n rec17 K17 (fun v0 v1 v2 v4 v5 v6 v7 w => f184_H50 n rec17 K17 K24 f v0 v1 v2 v4 v5 v6 v7 w) K24 56 r (nI pl) (nI q) (nI turn) (nI s) (nI k) (pI u) (mW J L ru) = f184_H50 n rec17 K17 K24 f 56 r (nI pl) (nI q) (nI turn) (nI s) (nI (k + 1)) (mW I' L ru) := by
    intro J u hu f1 g1
    have t1 := hT.fr f1 (by decide) (by decide)
    have z1 : J 57 6 = pI d.2.2.1 := (congrFun (f1.at (by decide) (by decide)) 6).trans h6t
    have n1 : J 57 0 = nI d.2.2.2 := by rw [t1.1, d5, d4]
    by_cases e : d.2.2.2 = turn
    · have t2 : TL (u2 J 57 6 (pI u)) 57 d.2.1 := by
        obtain ⟨a0, a1, a2, a3, a4, a5⟩ := t1
        exact ⟨(ux_j (by decide)).trans a0, (ux_j (by decide)).trans a1, (ux_j (by decide)).trans a2, (ux_j (by decide)).trans a3, (ux_j (by decide)).trans a4, (ux_j (by decide)).trans a5⟩
      obtain ⟨J2, e3, f3, t3, z3⟩ := x_add (L := L) (ru := ru) (s := s) (u := u) (m := 1) sh_57 t2 (by omega) hu
      refine ⟨J2, (f1.mono (by decide) (by decide)).tr (((Fr.rf.u (by decide)).tr (f3.mono (by decide) (by decide)))), fun j hj => ?_, t3, ?_, ?_, ?_⟩
      · rw [f3.at (by decide) (by decide), ux_kk (by decide)]
        exact g1 j hj
      · rw [z3, ux_at, if_pos e]
      · rw [f3.at (by decide) (by decide), ux_kk (by decide)]
      · simp (config := { maxSteps := 2000000 }) (disch := omega) only [f184_J101, f184_J124, ux_at, ux_kk, ux_jo, gIx, pIx, pZx, gRx, aIx, sIx, aBx, sBx, lenx, clx, wshS, obS, reduceIte, Nat.one_ne_zero, Nat.zero_ne_one, Nat.reduceEqDiff, not_true_eq_false, not_false_eq_true, Nat.le_refl, ng_le, ng_lt, ng_nle, ng_nlt, ng_eq, ng_eq2, Bool.false_eq_true, lit_nI, nI_add, pk_mul, nI_leI, nI_ltI, nI_eq, n1, e, e3]
    · obtain ⟨J2, e3, f3, t3, z3⟩ := x_add (L := L) (ru := ru) (s := s) (u := u) (m := 1) sh_57 t1 (by omega) hu
      refine ⟨J2, (f1.mono (by decide) (by decide)).tr (f3.mono (by decide) (by decide)), fun j hj => ?_, t3, ?_, ?_, ?_⟩
      · rw [f3.at (by decide) (by decide)]
        exact g1 j hj
      · rw [z3, z1, if_neg e]
      · rw [f3.at (by decide) (by decide)]
      · simp (config := { maxSteps := 2000000 }) (disch := omega) only [f184_J101, f184_J124, ux_at, ux_kk, ux_jo, gIx, pIx, pZx, gRx, aIx, sIx, aBx, sBx, lenx, clx, wshS, obS, reduceIte, Nat.one_ne_zero, Nat.zero_ne_one, Nat.reduceEqDiff, not_true_eq_false, not_false_eq_true, Nat.le_refl, ng_le, ng_lt, ng_nle, ng_nlt, ng_eq, ng_eq2, Bool.false_eq_true, lit_nI, nI_add, pk_mul, nI_leI, nI_ltI, nI_eq, n1, e, e3]
  have ed := x_draw (L := L) (ru := ru) (k := 100) h4 (by decide) (by decide)
  have f1 : Fr [34] [] I (u2 I 34 4 (nI (lcgN d.1))) := Fr.rf.u (by decide)
  have g1 : ∀ j, j ≠ 4 → (u2 I 34 4 (nI (lcgN d.1))) 34 j = I 34 j := fun j hj => ux_j hj
  by_cases hlt : lcgN d.1 / 65536 % 100 < q
  · have hle : ¬ q ≤ lcgN d.1 / 65536 % 100 := by omega
    have ed2 := x_draw (I := u2 I 34 4 (nI (lcgN d.1))) (L := L) (ru := ru) (s := lcgN d.1) (k := 3) ux_at (by decide) (by decide)
    have f2 : Fr [34] [] I (u2 (u2 I 34 4 (nI (lcgN d.1))) 34 4 (nI (lcgN (lcgN d.1)))) := f1.u (by decide)
    have hu : lcgN (lcgN d.1) / 65536 % 3 + 1 < 5 := by omega
    have hpi : nI (lcgN (lcgN d.1) / 65536 % 3) - nI 1 = pI (lcgN (lcgN d.1) / 65536 % 3 + 1) := by rw [tI_def, pI_t]
    obtain ⟨I', k1, k2, k3, k4, k5, k6⟩ := fin _ _ hu f2 fun j hj => (ux_j hj).trans (g1 j hj)
    have hdp : drP p q turn s d = (lcgN (lcgN d.1), (s, lcgN (lcgN d.1) / 65536 % 3 + 1, 1) :: d.2.1, if d.2.2.2 = turn then lcgN (lcgN d.1) / 65536 % 3 + 1 else d.2.2.1, d.2.2.2 + 1) := if_pos hlt
    rw [hdp]
    refine ⟨I', k1, k2, k3, k4, k5.trans ux_at, ?_⟩
    refine Eq.trans ?_ k6
    simp (config := { maxSteps := 2000000 }) (disch := omega) only [f184_H50, ux_at, ux_kk, ux_jo, gIx, pIx, pZx, gRx, aIx, sIx, aBx, sBx, lenx, clx, wshS, obS, reduceIte, lit_nI, nI_leI, x_personsOf hS hW hs, e4, hk2, ed, hle, ed2, hpi]
  · have hle : q ≤ lcgN d.1 / 65536 % 100 := by omega
    have hS1 := hS.fr hW f1 (by decide)
    have hD1 : (u2 I 34 4 (nI (lcgN d.1))) 48 pl = nI D := (ux_k (by decide)).trans hD
    have e5 := x_press (L := L) (ru := ru) hS1 hW hs hpl hD1 hD2
    rw [p1] at e5
    obtain ⟨I', k1, k2, k3, k4, k5, k6⟩ := fin _ _ p2 f1 g1
    have hdp : drP p q turn s d = (lcgN d.1, (s, p s, 1) :: d.2.1, if d.2.2.2 = turn then p s else d.2.2.1, d.2.2.2 + 1) := if_neg hlt
    rw [hdp]
    refine ⟨I', k1, k2, k3, k4, k5.trans ux_at, ?_⟩
    refine Eq.trans ?_ k6
    simp (config := { maxSteps := 2000000 }) (disch := omega) only [f184_H50, ux_at, ux_kk, ux_jo, gIx, pIx, pZx, gRx, aIx, sIx, aBx, sBx, lenx, clx, wshS, obS, reduceIte, lit_nI, nI_leI, x_personsOf hS hW hs, e4, hk2, ed, hle, e5]
/-- what stands while persons draw -/
def DxI (I I' : St) (N : Nat) (d : Dr) : Prop := Fr [57, 34] [] I I' ∧ (∀ j, j ≠ 4 → I' 34 j = I 34 j) ∧ DrOk N d ∧ TL I' 57 d.2.1 ∧ I' 57 6 = pI d.2.2.1 ∧ I' 34 4 = nI d.1
theorem l184k {I0 : St} (hS : CS I0 A) (hW : WFs A) {p : Nat → Nat} {q turn s N D pl r : Nat} {d : Dr} (hI : DxI I0 I N d) (hD : I0 48 pl = nI D) (hD2 : D < 2 ^ 18) (hpl : pl < 512) (hp : ∀ s, s < nsN A → dgN D s = p s ∧ p s < 5) (hq : q ≤ 100) (ht : turn < 54) (hs : s < nsN A) (hN : N + perN A s ≤ 54) (hn : 20 < n) {rec17 : _} {K17 : _} {K24 : Nat → Nat → Int32 → Int32 → Int32 → Int32 → Wd → Option (Int32 × Wd)} {P : Option (Int32 × Wd) → Prop}
    (hK : ∀ J, DxI I0 J (N + perN A s) (drK p q turn s d (perN A s)) → P (K24 56 r (nI pl) (nI q) (nI turn) (nI s) (mW J L ru))) : P (f184_H50 n rec17 K17 K24 n 56 r (nI pl) (nI q) (nI turn) (nI s) (nI 0) (mW I L ru)) := by
  have h6 := ns6 hW
  have hp9 := per_le hW hs
  have e4 : A 69 s = nI (perN A s) := (wfA hW).2.2.2.2.1 s hs
  refine lpP (F := fun k i J => f184_H50 n rec17 K17 K24 k 56 r (nI pl) (nI q) (nI turn) (nI s) (nI i) (mW J L ru)) (P := P) (J := fun i J => DxI I0 J (N + i) (drK p q turn s d i)) (perN A s) ?_ ?_ n 0 I (by omega) (by omega) hI
  · intro k J hJ
    have hSJ := hS.fr hW hJ.1 (by decide)
    simp (config := { maxSteps := 2000000 }) (disch := omega) only [f184_H50, ux_at, ux_kk, ux_jo, gIx, pIx, pZx, gRx, aIx, sIx, aBx, sBx, lenx, clx, wshS, obS, reduceIte, Nat.one_ne_zero, Nat.zero_ne_one, Nat.reduceEqDiff, not_true_eq_false, not_false_eq_true, Nat.le_refl, ng_le, ng_lt, ng_nle, ng_nlt, ng_eq, ng_eq2, Bool.false_eq_true, lit_nI, nI_add, pk_mul, nI_leI, nI_ltI, nI_eq, x_personsOf hSJ hW hs, e4]
    exact hK J hJ
  · intro k i J hi hJ ih
    obtain ⟨j1, j2, j3, j4, j5, j6⟩ := hJ
    have hSJ := hS.fr hW j1 (by decide)
    have hDJ : J 48 pl = nI D := (congrFun (j1.at (by decide) (by decide)) _).trans hD
    obtain ⟨I', k1, k2, k3, k4, k5, k6⟩ := l184 (n := n) (L := L) (ru := ru) (rec17 := rec17) (K17 := K17) (K24 := K24) (f := k) (k := i) (q := q) (turn := turn) (s := s) (r := r) hSJ hW j3 hDJ hD2 hpl hp j4 j5 j6 hq ht (by omega) hs hi
    rw [k6]
    exact ih I' ⟨j1.tr k1, fun j hj => (k2 j hj).trans (j2 j hj), drP_ok j3 (hp s hs).2, k3, k4, k5⟩
theorem x_drawn (hS : CS I A) (hP : PK I A) (hW : WF A) {ρ : Nat → Nat} {r : Nat} (hr : nwS r = some (5, 5)) (hX : RX I r ρ) (hR : RK ρ) {q c h hour seed : Nat} (hc : c < 64) (hh : h < 8) (ho : hour < 1000) (hq : q ≤ 100) (h4 : I 34 4 = nI seed) (hs : seed < 2 ^ 31) (hn : 100 < n) :
    ∃ I', f184 n 56 r (nI (8 * c + h)) (nI hour) (nI q) (mW I L ru) = some (tI (drT A ρ (drA A q c h hour seed)), mW I' L ru) ∧ Fr [57, 34] [] I I' ∧ (∀ j, j ≠ 4 → I' 34 j = I 34 j) ∧ I' 34 4 = nI (drA A q c h hour seed).1 ∧ (drA A q c h hour seed).1 < 2 ^ 31 := by
  have h6 := ns6 hW.1
  have ha := allN_le hW.1
  have hcl : (nwS r).map (fun q => q.1) = some 5 := by
    rw [hr]
    rfl
  obtain ⟨D, a, b, d⟩ := hP (8 * c + h) (by omega)
  rw [show (8 * c + h) / 8 = c by omega, show (8 * c + h) % 8 = h by omega] at d
  have hp : ∀ s, s < nsN A → dgN D s = prsN A c h s ∧ prsN A c h s < 5 := fun s hs => ⟨d s hs, prs_lt hW hs⟩
  obtain ⟨I1, e1, f1, t1, z1⟩ := x_empty (I := I) (L := L) (ru := ru) (k := 57) sh_57 (by decide)
  have hS1 := hS.fr hW.1 f1 (by decide)
  have hd0 : DrOk 0 (seed, [], 2, 0) := ⟨hs, (fun e he => by cases he), by show 2 < 5; decide, rfl, rfl⟩
  have hI1 : DxI I1 I1 0 (seed, [], 2, 0) := ⟨Fr.rf, fun _ _ => rfl, hd0, t1, z1.trans pI_2.symm, by rw [f1.at (by decide) (by decide)]; exact h4⟩
  have ht := turnN_lt hW.1 (hour := hour)
  have a1 : I1 48 (8 * c + h) = nI D := by rw [f1.at (by decide) (by decide)]; exact a
  have key : ∃ I', f184_H35 n (fun e0 e1 w51 => ob (getR w51 4 e0 4) (fun x52 => (if (wsh w51 e1).map (fun q => q.1) = some 5 then ob (f154 e1 x52 w51) (fun p54 => some (p54.1, p54.2)) else none))) n 56 r (nI (8 * c + h)) (nI q) (nI (turnN A hour)) (nI 0) (mW I1 L ru) = some (tI (drT A ρ (drA A q c h hour seed)), mW I' L ru) ∧ Fr [57, 34] [] I1 I' ∧ (∀ j, j ≠ 4 → I' 34 j = I1 34 j) ∧ I' 34 4 = nI (drA A q c h hour seed).1 ∧ (drA A q c h hour seed).1 < 2 ^ 31 := by
    refine lpP (F := fun k i J => f184_H35 n (fun e0 e1 w51 => ob (getR w51 4 e0 4) (fun x52 => (if (wsh w51 e1).map (fun q => q.1) = some 5 then ob (f154 e1 x52 w51) (fun p54 => some (p54.1, p54.2)) else none))) k 56 r (nI (8 * c + h)) (nI q) (nI (turnN A hour)) (nI i) (mW J L ru)) (P := fun y => ∃ I', y = some (tI (drT A ρ (drA A q c h hour seed)), mW I' L ru) ∧ Fr [57, 34] [] I1 I' ∧ (∀ j, j ≠ 4 → I' 34 j = I1 34 j) ∧ I' 34 4 = nI (drA A q c h hour seed).1 ∧ (drA A q c h hour seed).1 < 2 ^ 31) (J := fun i J => DxI I1 J (sumN (perN A) i) (drS A (prsN A c h) q (turnN A hour) (seed, [], 2, 0) i)) (nsN A) ?_ ?_ n 0 I1 (by omega) (by omega) hI1
    · rintro k J ⟨j1, j2, j3, j4, j5, j6⟩
      have hSJ := hS1.fr hW.1 j1 (by decide)
      have hXJ := (hX.fr f1 (fun z => rr_nj hr (by
        rcases List.mem_cons.mp z with z | z
        · rw [z]; decide
        · cases z)) (rr_ne hr)).fr j1 (rr_nj hr) (rr_ne hr)
      have hN : tnN (drA A q c h hour seed).2.1 < 1000 := by
        have := j3.2.2.2.2
        unfold allN at ha
        unfold drA
        omega
      have e3 := x_decided (L := L) (ru := ru) (E := (drA A q c h hour seed).2.1) (tp := (drA A q c h hour seed).2.2.1) hr sh_57 hXJ hR j4 hN (drS_1 (fun e he => by cases he) _ h6) j5 j3.2.2.1 (fun z => by
        have q1 := j3.2.2.2.2
        have q2 : tnN (drS A (prsN A c h) q (turnN A hour) (seed, [], 2, 0) (nsN A)).2.1 = 0 := z
        have q3 : allN A = 0 := by
          unfold allN
          omega
        have q4 := all0 hW.1 q3
        unfold drA
        rw [q4]
        rfl)
      simp (config := { maxSteps := 2000000 }) (disch := omega) only [f184_H35, ux_at, ux_kk, ux_jo, gIx, pIx, pZx, gRx, aIx, sIx, aBx, sBx, lenx, clx, wshS, obS, reduceIte, Nat.one_ne_zero, Nat.zero_ne_one, Nat.reduceEqDiff, not_true_eq_false, not_false_eq_true, Nat.le_refl, ng_le, ng_lt, ng_nle, ng_nlt, ng_eq, ng_eq2, Bool.false_eq_true, lit_nI, nI_add, pk_mul, nI_leI, nI_ltI, nI_eq, csA hSJ, hcl, e3]
      exact ⟨J, rfl, j1, j2, j6, j3.1⟩
    · intro k i J hi hJ ih
      have hSJ := hS1.fr hW.1 hJ.1 (by decide)
      have hi2 : ¬ nsN A ≤ i := by omega
      have hsl := sum_le hW.1 (show i + 1 ≤ nsN A by omega)
      have hs1 : sumN (perN A) (i + 1) = sumN (perN A) i + perN A i := rfl
      simp (config := { maxSteps := 2000000 }) (disch := omega) only [f184_H35, ux_at, ux_kk, ux_jo, gIx, pIx, pZx, gRx, aIx, sIx, aBx, sBx, lenx, clx, wshS, obS, reduceIte, Nat.one_ne_zero, Nat.zero_ne_one, Nat.reduceEqDiff, not_true_eq_false, not_false_eq_true, Nat.le_refl, ng_le, ng_lt, ng_nle, ng_nlt, ng_eq, ng_eq2, Bool.false_eq_true, lit_nI, nI_add, pk_mul, nI_leI, nI_ltI, nI_eq, csA hSJ, hi2]
      refine l184k (P := fun y => ∃ I', y = some (tI (drT A ρ (drA A q c h hour seed)), mW I' L ru) ∧ Fr [57, 34] [] I1 I' ∧ (∀ j, j ≠ 4 → I' 34 j = I1 34 j) ∧ I' 34 4 = nI (drA A q c h hour seed).1 ∧ (drA A q c h hour seed).1 < 2 ^ 31) hS1 hW.1 hJ a1 b (by omega) hp hq ht hi (by omega) (by omega) fun J2 hJ2 => ?_
      simp (config := { maxSteps := 2000000 }) (disch := omega) only [lit_nI, nI_add]
      exact ih J2 hJ2
  obtain ⟨I3, k1, k2, k3, k4, k5⟩ := key
  refine ⟨I3, ?_, (f1.mono (by decide) (by decide)).tr k2, fun j hj => (k3 j hj).trans (congrFun (f1.at (by decide) (by decide)) j), k4, k5⟩
  unfold turnN at k1
  by_cases h0 : allN A = 0
  · rw [if_pos h0] at k1
    simp (config := { maxSteps := 2000000 }) (disch := omega) only [f184, f184_J23, ux_at, ux_kk, ux_jo, gIx, pIx, pZx, gRx, aIx, sIx, aBx, sBx, lenx, clx, wshS, obS, reduceIte, Nat.one_ne_zero, Nat.zero_ne_one, Nat.reduceEqDiff, not_true_eq_false, not_false_eq_true, Nat.le_refl, ng_le, ng_lt, ng_nle, ng_nlt, ng_eq, ng_eq2, Bool.false_eq_true, lit_nI, nI_add, pk_mul, nI_leI, nI_ltI, nI_eq, csA hS, h0, e1]
    exact k1
  · rw [if_neg h0] at k1
    have hz : ¬ allN A ≤ 0 := by omega
    simp (config := { maxSteps := 2000000 }) (disch := omega) only [f184, f184_J23, ux_at, ux_kk, ux_jo, gIx, pIx, pZx, gRx, aIx, sIx, aBx, sBx, lenx, clx, wshS, obS, reduceIte, Nat.one_ne_zero, Nat.zero_ne_one, Nat.reduceEqDiff, not_true_eq_false, not_false_eq_true, Nat.le_refl, ng_le, ng_lt, ng_nle, ng_nlt, ng_eq, ng_eq2, Bool.false_eq_true, lit_nI, nI_add, pk_mul, nI_leI, nI_ltI, nI_eq, csA hS, h0, hz, irm_nI, e1]
    exact k1
/-- a voyage -/
theorem x_sailq (hS : CS I A) (hP : PK I A) (hW : WF A) {ρ : Nat → Nat} {r : Nat} (hr : nwS r = some (5, 5)) (hX : RX I r ρ) (hR : RK ρ) {q hours seed : Nat} (hq : q ≤ 100) (ho : hours ≤ 99) (h4 : I 34 4 = nI seed) (hsd : seed < 2 ^ 31) (hn : 500 < n) :
    ∃ I', f209 n 56 r (nI (8 * shN A + hdN A)) (nI hours) (nI q) (mW I L ru) = some (mW I' L ru) ∧ Fr (jK ++ [57, 34]) [] I I' ∧ (∀ j, j ≠ 4 → I' 34 j = I 34 j) ∧ JN I' A (lagN A) (fun t => (vyS A ρ (lagN A) q seed t).1) (vyT A ρ (lagN A) q seed) (vyG A ρ (lagN A) q seed hours) ∧ I' 34 4 = nI (vyS A ρ (lagN A) q seed (vyG A ρ (lagN A) q seed hours)).2 ∧ (vyS A ρ (lagN A) q seed (vyG A ρ (lagN A) q seed hours)).2 < 2 ^ 31 := by
  have hcl : (nwS r).map (fun q => q.1) = some 5 := by
    rw [hr]
    rfl
  obtain ⟨b1, b2, b3⟩ := ship_ok hW.1
  generalize hVd : vyS A ρ (lagN A) q seed = V
  have hSo : ∀ t, ShOk (V t).1 := fun t => by rw [← hVd]; exact vyS_ok hW.1 hR t
  have hV1 : ∀ t, V (t + 1) = (hrS A ρ (lagN A) t (drT A ρ (drA A q (V t).1.1 (V t).1.2.1 t (V t).2)) (V t).1, (drA A q (V t).1.1 (V t).1.2.1 t (V t).2).1) := fun t => by rw [← hVd]; rfl
  have hT1 : ∀ t, vyT A ρ (lagN A) q seed t = trnN A ρ (lagN A) (V t).1.1 (V t).1.2.1 (V t).1.2.2.1 (drT A ρ (drA A q (V t).1.1 (V t).1.2.1 t (V t).2)) := fun t => by rw [← hVd]; rfl
  have hGd : ∀ m, vyG A ρ (lagN A) q seed m = gonN A (fun t => (V t).1) m := fun m => by rw [← hVd]; rfl
  generalize hTd : vyT A ρ (lagN A) q seed = T at *
  rw [hGd]
  have hS0 : V 0 = ((shN A, hdN A, 1, 1), seed) := by rw [← hVd]; rfl
  have lc0 : lcN (lagN A) (V 0).1 = 0 := by
    rw [hS0]
    unfold lcN
    split
    · rfl
    · split <;> rfl
  generalize hI1 : u2 (u2 (u2 (u2 I 56 9 (nI 0)) 56 7 (nI 0)) 56 8 (nI 0)) 58 0 (nI (16 * (8 * shN A + hdN A))) = I1
  have f1 : Fr jK [] I I1 := by
    rw [← hI1]
    exact (((Fr.rf.u (by decide)).u (by decide)).u (by decide)).u (by decide)
  have J1 : JN I1 A (lagN A) (fun t => (V t).1) T 0 := by
    rw [← hI1]
    refine ⟨fun j hj => ?_, fun j hj => absurd hj (Nat.not_lt_zero _), (ux_k (by decide)).trans ((ux_j (by decide)).trans ux_at), (ux_k (by decide)).trans ux_at, ?_⟩
    · have : j = 0 := by omega
      subst this
      refine ux_at.trans ?_
      unfold stJ
      rw [lc0]
      dsimp only
      rw [hS0]
      rfl
    · rw [lc0]
      exact (ux_k (by decide)).trans ((ux_j (by decide)).trans ((ux_j (by decide)).trans ux_at))
  have h41 : I1 34 4 = nI (V 0).2 := by
    rw [f1.at (by decide) (by decide), h4, hS0]
  simp (config := { maxSteps := 2000000 }) (disch := omega) only [f209, ux_at, ux_kk, ux_jo, gIx, pIx, pZx, gRx, aIx, sIx, aBx, sBx, lenx, clx, wshS, obS, reduceIte, lit_nI, shl16]
  rw [hI1]
  have e0 : 8 * shN A + hdN A = 8 * (V 0).1.1 + (V 0).1.2.1 := by rw [hS0]
  rw [e0]
  have rjK : r ∉ jK := by
    intro z
    have : ∀ k, k ∈ jK → r = k → False := by
      intro k hk e
      subst e
      rcases List.mem_cons.mp hk with e | hk
      · rw [e, sh_56] at hr
        exact absurd hr (by decide)
      · rcases List.mem_cons.mp hk with e | hk
        · rw [e, sh_58] at hr
          exact absurd hr (by decide)
        · rcases List.mem_cons.mp hk with e | hk
          · rw [e, sh_59] at hr
            exact absurd hr (by decide)
          · cases hk
    exact this r z rfl
  have rjj : r ∉ jK ++ [57, 34] := fun z => by
    rcases List.mem_append.mp z with z | z
    · exact rjK z
    · exact rr_nj hr z
  refine lpP (F := fun k t J => f209_H31 n (fun w => some w) k 56 r (nI hours) (nI q) (nI (8 * (V t).1.1 + (V t).1.2.1)) (nI t) (mW J L ru)) (P := fun x => ∃ I', x = some (mW I' L ru) ∧ Fr (jK ++ [57, 34]) [] I I' ∧ (∀ j, j ≠ 4 → I' 34 j = I 34 j) ∧ JN I' A (lagN A) (fun t => (V t).1) T (gonN A (fun t => (V t).1) hours) ∧ I' 34 4 = nI (V (gonN A (fun t => (V t).1) hours)).2 ∧ (V (gonN A (fun t => (V t).1) hours)).2 < 2 ^ 31) (J := fun t J => Fr (jK ++ [57, 34]) [] I J ∧ (∀ j, j ≠ 4 → J 34 j = I 34 j) ∧ JN J A (lagN A) (fun t => (V t).1) T t ∧ gonN A (fun t => (V t).1) t = t ∧ J 34 4 = nI (V t).2 ∧ (V t).2 < 2 ^ 31) hours ?_ ?_ n 0 I1 (by omega) (by omega) ⟨f1.mono (by decide) (by decide), fun j _ => congrFun (f1.at (by decide) (by decide)) j, J1, rfl, h41, by rw [hS0]; exact hsd⟩
  · rintro k J ⟨j1, j2, j3, j4, j5, j6⟩
    simp (config := { maxSteps := 2000000 }) (disch := omega) only [f209_H31, ux_at, ux_kk, ux_jo, gIx, pIx, pZx, gRx, aIx, sIx, aBx, sBx, lenx, clx, wshS, obS, reduceIte, Nat.one_ne_zero, Nat.zero_ne_one, Nat.reduceEqDiff, not_true_eq_false, not_false_eq_true, Nat.le_refl, ng_le, ng_lt, ng_nle, ng_nlt, ng_eq, ng_eq2, Bool.false_eq_true, lit_nI, nI_add, pk_mul, nI_leI, nI_ltI, nI_eq]
    refine ⟨J, rfl, j1, j2, ?_⟩
    rw [j4]
    exact ⟨j3, j5, j6⟩
  · rintro k t J ht ⟨j1, j2, j3, j4, j5, j6⟩ ih
    have ht2 : ¬ hours ≤ t := by omega
    have ht4 : ¬ 400 ≤ t := by omega
    have hSJ := hS.fr hW.1 j1 (by decide)
    have hPJ : PK J A := fun p hp => by
      rw [j1.at (by decide) (by decide)]
      exact hP p hp
    have hXJ := hX.fr j1 rjj (rr_ne hr)
    obtain ⟨o1, o2, o3, o4⟩ := hSo t
    have st := j3.2.2.2.1
    have rkt : (if t = 0 then 0 else rkN A (V t).1.1) = rkN A (V t).1.1 := by
      by_cases z : t = 0
      · rw [if_pos z, z, hS0]
        exact b3.symm
      · rw [if_neg z]
    rw [rkt] at st
    rcases one_or (rk_le hW.1 o1) with rk | rk
    · rw [rk] at st
      have hg2 := gonN_go (S := fun t => (V t).1) j4 rk
      have e1 := x_dodge (L := L) (ru := ru) (n := n) hSJ hW.1 hr hXJ hR o1 o2 (by omega)
      obtain ⟨J2, e2, f2, g2, s2, q2⟩ := x_drawn (L := L) (ru := ru) (n := n) hSJ hPJ hW hr hXJ hR o1 o2 (show t < 1000 by omega) hq j5 j6 (by omega)
      have hS2 := hSJ.fr hW.1 f2 (by decide)
      have jn2 := j3.fr f2 (by decide) (by decide) (by decide)
      have e2' : drT A ρ (drA A q (V t).1.1 (V t).1.2.1 t (V t).2) < 3 := decN_lt _ _ _ _ _
      simp (config := { maxSteps := 2000000 }) (disch := omega) only [f209_H31, ux_at, ux_kk, ux_jo, gIx, pIx, pZx, gRx, aIx, sIx, aBx, sBx, lenx, clx, wshS, obS, reduceIte, Nat.one_ne_zero, Nat.zero_ne_one, Nat.reduceEqDiff, not_true_eq_false, not_false_eq_true, Nat.le_refl, ng_le, ng_lt, ng_nle, ng_nlt, ng_eq, ng_eq2, Bool.false_eq_true, lit_nI, nI_add, pk_mul, nI_leI, nI_ltI, nI_eq, ht2, ht4, st, hcl, e1, e2]
      refine x_hour (S := fun t => (V t).1) (T := T) (P := fun x => ∃ I', x = some (mW I' L ru) ∧ Fr (jK ++ [57, 34]) [] I I' ∧ (∀ j, j ≠ 4 → I' 34 j = I 34 j) ∧ JN I' A (lagN A) (fun t => (V t).1) T (gonN A (fun t => (V t).1) hours) ∧ I' 34 4 = nI (V (gonN A (fun t => (V t).1) hours)).2 ∧ (V (gonN A (fun t => (V t).1) hours)).2 < 2 ^ 31) hS2 hW.1 hR (hSo t) e2' (by omega) jn2 (by show (V (t + 1)).1 = _; rw [hV1]) (hT1 t) fun J3 f3 jn3 => ?_
      refine ih J3 ⟨j1.tr ((f2.mono (by decide) (by decide)).tr (f3.mono (by decide) (by decide))), fun j hj => ?_, jn3, hg2, ?_, ?_⟩
      · rw [f3.at (by decide) (by decide)]
        exact (g2 j hj).trans (j2 j hj)
      · rw [f3.at (by decide) (by decide), hV1]
        exact s2
      · rw [hV1]
        exact q2
    · rw [rk] at st
      have gs := gonN_stop (S := fun t => (V t).1) j4 (show ¬ rkN A (V t).1.1 = 0 by omega) (hours - t)
      rw [show t + (hours - t) = hours by omega] at gs
      simp (config := { maxSteps := 2000000 }) (disch := omega) only [f209_H31, ux_at, ux_kk, ux_jo, gIx, pIx, pZx, gRx, aIx, sIx, aBx, sBx, lenx, clx, wshS, obS, reduceIte, Nat.one_ne_zero, Nat.zero_ne_one, Nat.reduceEqDiff, not_true_eq_false, not_false_eq_true, Nat.le_refl, ng_le, ng_lt, ng_nle, ng_nlt, ng_eq, ng_eq2, Bool.false_eq_true, lit_nI, nI_add, pk_mul, nI_leI, nI_ltI, nI_eq, ht2, ht4, st]
      refine ⟨J, rfl, j1, j2, ?_⟩
      rw [gs]
      exact ⟨j3, j5, j6⟩
end
