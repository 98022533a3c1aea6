/-! THE REFERENCE'S sides, draw, drawnAt, voyage -/
theorem lN_toInt63 {n : Nat} (h : n < 2 ^ 63) : (lN n).toInt = (n : Int) := Int64.toInt_ofNat_of_lt h
theorem lN_div {a b : Nat} (ha : a < 2 ^ 63) (hb : b < 2 ^ 63) : lN a / lN b = lN (a / b) := by
  have hq : a / b < 2 ^ 63 := Nat.lt_of_le_of_lt (Nat.div_le_self _ _) ha
  have hne : lN b ≠ -1 := fun e => by
    have h1 := congrArg Int64.toInt e
    rw [lN_toInt63 hb] at h1
    have h2 : (-1 : Int64).toInt = -1 := by decide +kernel
    rw [h2] at h1
    omega
  refine Int64.toInt_inj.mp ?_
  rw [Int64.toInt_div_of_ne_right _ _ hne, lN_toInt63 ha, lN_toInt63 hb, lN_toInt63 hq]
  exact (Int.ofNat_tdiv a b).symm
theorem lrm_lN {a b : Nat} (ha : a < 2 ^ 63) (hb : b < 2 ^ 63) : lrm (lN a) (lN b) = lN (a % b) := by
  have h1 : a / b * b ≤ a := Nat.div_mul_le_self _ _
  show lN a - lN a / lN b * lN b = _
  rw [lN_div ha hb, lN_mul, lN_sub h1]
  congr 1
  have := Nat.div_add_mod a b
  rw [Nat.mul_comm] at this
  omega
def lcgN (s : Nat) : Nat := (s * 1103515245 + 12345) % 2147483648
theorem lcgN_lt (s : Nat) : lcgN s < 2 ^ 31 := Nat.mod_lt _ (by decide)
/-- the state of the draws: seed, tally, the press of the person whose turn it is, the person's number -/
abbrev Dr : Type := Nat × Tl × Nat × Nat
/-- one person of sort s draws -/
def drP (p : Nat → Nat) (q turn s : Nat) (d : Dr) : Dr :=
  if lcgN d.1 / 65536 % 100 < q then (lcgN (lcgN d.1), (s, lcgN (lcgN d.1) / 65536 % 3 + 1, 1) :: d.2.1, if d.2.2.2 = turn then lcgN (lcgN d.1) / 65536 % 3 + 1 else d.2.2.1, d.2.2.2 + 1)
  else (lcgN d.1, (s, p s, 1) :: d.2.1, if d.2.2.2 = turn then p s else d.2.2.1, d.2.2.2 + 1)
def drK (p : Nat → Nat) (q turn s : Nat) (d : Dr) : Nat → Dr
  | 0 => d
  | k + 1 => drP p q turn s (drK p q turn s d k)
def drS (A : St) (p : Nat → Nat) (q turn : Nat) (d : Dr) : Nat → Dr
  | 0 => d
  | i + 1 => drK p q turn i (drS A p q turn d i) (perN A i)
def DrOk (N : Nat) (d : Dr) : Prop := d.1 < 2 ^ 31 ∧ (∀ e, e ∈ d.2.1 → e.2.1 < 5) ∧ d.2.2.1 < 5 ∧ d.2.2.2 = N ∧ tnN d.2.1 = N
theorem tnN_cons {s u m : Nat} {E : Tl} (h : u < 5) : tnN ((s, u, m) :: E) = m + tnN E := by
  have tc : ∀ v e E, tqN v (e :: E) = (if e.2.1 = v then e.2.2 else 0) + tqN v E := fun _ _ _ => rfl
  have hc : u = 0 ∨ u = 1 ∨ u = 2 ∨ u = 3 ∨ u = 4 := by omega
  rcases hc with e | e | e | e | e <;> simp only [tnN, tlN, trN, tc, e, reduceIte, Nat.reduceEqDiff, Nat.zero_add, Nat.one_ne_zero, Nat.zero_ne_one] <;> omega
theorem drP_ok {p : Nat → Nat} {q turn s N : Nat} {d : Dr} (h : DrOk N d) (hp : p s < 5) : DrOk (N + 1) (drP p q turn s d) := by
  obtain ⟨h1, h2, h3, h4, h5⟩ := h
  have h6 : lcgN (lcgN d.1) / 65536 % 3 + 1 < 5 := by omega
  unfold drP
  split
  · refine ⟨lcgN_lt _, fun e he => ?_, ?_, ?_, ?_⟩
    · rcases List.mem_cons.mp he with rfl | he
      · exact h6
      · exact h2 e he
    · show (if d.2.2.2 = turn then _ else _) < 5
      split
      · exact h6
      · exact h3
    · show d.2.2.2 + 1 = N + 1
      rw [h4]
    · rw [tnN_cons h6, h5]
      omega
  · refine ⟨lcgN_lt _, fun e he => ?_, ?_, ?_, ?_⟩
    · rcases List.mem_cons.mp he with rfl | he
      · exact hp
      · exact h2 e he
    · show (if d.2.2.2 = turn then _ else _) < 5
      split
      · exact hp
      · exact h3
    · show d.2.2.2 + 1 = N + 1
      rw [h4]
    · rw [tnN_cons hp, h5]
      omega
theorem drK_ok {p : Nat → Nat} {q turn s N : Nat} {d : Dr} (h : DrOk N d) (hp : p s < 5) : ∀ k, DrOk (N + k) (drK p q turn s d k)
  | 0 => h
  | k + 1 => drP_ok (drK_ok h hp k) hp
theorem drS_ok {A : St} {p : Nat → Nat} {q turn : Nat} {d : Dr} (h : DrOk 0 d) : ∀ i, (∀ s, s < i → p s < 5) → DrOk (sumN (perN A) i) (drS A p q turn d i)
  | 0, _ => h
  | i + 1, hp => drK_ok (drS_ok h i fun s hs => hp s (by omega)) (hp i (by omega)) _
/-- an hour's draws -/
def drA (A : St) (q c h hour seed : Nat) : Dr := drS A (prsN A c h) q (turnN A hour) (seed, [], 2, 0) (nsN A)
def drT (A : St) (ρ : Nat → Nat) (d : Dr) : Nat := decN (ρ 0) (ρ 1) (ρ 2) d.2.1 d.2.2.1
/-- a voyage -/
def vyS (A : St) (ρ : Nat → Nat) (g q seed : Nat) : Nat → Sh × Nat
  | 0 => ((shN A, hdN A, 1, 1), seed)
  | t + 1 => (hrS A ρ g t (drT A ρ (drA A q (vyS A ρ g q seed t).1.1 (vyS A ρ g q seed t).1.2.1 t (vyS A ρ g q seed t).2)) (vyS A ρ g q seed t).1, (drA A q (vyS A ρ g q seed t).1.1 (vyS A ρ g q seed t).1.2.1 t (vyS A ρ g q seed t).2).1)
theorem vyS_ok {A : St} (hW : WFs A) {ρ : Nat → Nat} (hR : RK ρ) {g q seed : Nat} : ∀ t, ShOk (vyS A ρ g q seed t).1
  | 0 => ⟨(ship_ok hW).1, (ship_ok hW).2.1, by show 1 < 3; decide, by show 1 < 3; decide⟩
  | t + 1 => hrS_ok hW hR (decN_lt _ _ _ _ _) (vyS_ok hW hR t)
section
variable {I A : St} {L : Lt} {ru n : Nat}
theorem s63 {s k : Nat} (h60 : I 67 60 = nI s) (hs : s < 2 ^ 31) (hk : 0 < k) (hk2 : k < 2 ^ 31) : f63 67 (nI k) (mW I L ru) = some (nI (lcgN s / 65536 % k), mW (u2 I 67 60 (nI (lcgN s))) L ru) := by
  have e1 : Int64.toInt32 (lrm (Int32.toInt64 (nI s) * (1103515245 : Int64) + (12345 : Int64)) (2147483648 : Int64)) = nI (lcgN s) := by
    have b1 : s * 1103515245 + 12345 < 2 ^ 63 := by omega
    have e0 := lrm_lN (a := s * 1103515245 + 12345) (b := 2147483648) b1 (by decide)
    rw [lit_lN, lit_lN, lit_lN, nI_l hs, lN_mul, lN_add]
    refine (congrArg Int64.toInt32 e0).trans ?_
    rw [lN_i]
    rfl
  have hl := lcgN_lt s
  have hk3 : ¬ k = 0 := by omega
  have hq : lcgN s / 65536 ≤ lcgN s := Nat.div_le_self _ _
  simp (config := { maxSteps := 2000000 }) (disch := omega) only [f63, ux_at, ux_kk, ux_jo, gIm, pIm, pZm, gRm, aIm, sIm, aBm, sBm, gLm, pLm, clm, wshS, obS, reduceIte, h60, e1]
  simp (config := { maxSteps := 2000000 }) (disch := omega) only [Nat.one_ne_zero, Nat.zero_ne_one, Nat.reduceEqDiff, not_true_eq_false, not_false_eq_true, Nat.le_refl, ng_le, ng_lt, ng_nle, ng_nlt, ng_eq, ng_eq2, Bool.false_eq_true, lit_nI, nI_add, pk_mul, nI_leI, nI_ltI, nI_eq, pk_div, irm_nI, hk3, reduceIte]
/-- one person -/
theorem l216 (hM : MC I A) (hW : WF A) {p : Nat → Nat} (hP : PRS I A p) {q turn s k N b : Nat} {d : Dr} (hd : DrOk N d) (hb : b < 64) (h41 : I 67 41 = nI b) (hR : RT I b d.2.1) (h47 : I 67 47 = pI d.2.2.1) (h60 : I 67 60 = nI d.1) (hq : q ≤ 100) (ht : turn < 54) (hN : N < 54) (hs : s < nsN A) (hk : k < perN A s) {rec21 : _} {K21 : _} {K27 : _} {f : Nat} :
    ∃ I', Fr [85] [45, 46, 47, 60] I I' ∧ RT I' b (drP p q turn s d).2.1 ∧ I' 67 47 = pI (drP p q turn s d).2.2.1 ∧ I' 67 60 = nI (drP p q turn s d).1 ∧ f216_H49 n rec21 K21 K27 (f + 1) 67 (nI q) (nI turn) (nI d.2.2.2) (nI s) (nI k) (mW I L ru) = f216_H49 n rec21 K21 K27 f 67 (nI q) (nI turn) (nI (drP p q turn s d).2.2.2) (nI s) (nI (k + 1)) (mW I' L ru) := by
  have h6 := ns6 hW.1
  obtain ⟨d1, d2, d3, d4, d5⟩ := hd
  obtain ⟨e83, h5⟩ := hP s hs
  have hp9 := per_le hW.1 hs
  have hk2 : ¬ perN A s ≤ k := by omega
  have ed := s63 (L := L) (ru := ru) (k := 100) h60 d1 (by decide) (by decide)
  have hl1 := lcgN_lt d.1
  have hf1 : Fr [] [60] I (u2 I 67 60 (nI (lcgN d.1))) := Fr.rf.uf (by decide)
  have hM1 := hM.fr hf1 (by decide) (by decide) (by decide)
  have h411 : (u2 I 67 60 (nI (lcgN d.1))) 67 41 = nI b := (hf1.f (by decide) (by decide)).trans h41
  -- behind countOne: the turn's press
  have fin : ∀ (I1 : St) (u : Nat), u < 5 → Fr [85] [45, 46, 60] I I1 → RT I1 b ((s, u, 1) :: d.2.1) → ∃ I', Fr [85] [45, 46, 47, 60] I I' ∧ RT I' b ((s, u, 1) :: d.2.1) ∧ I' 67 47 = pI (if d.2.2.2 = turn then u else d.2.2.1) ∧ I' 67 60 = I1 67 60 ∧ (if ¬ nI d.2.2.2 = nI turn then ob (getI (mW I1 L ru) 11 67 47) (fun x21 => f216_J117 n rec21 K21 (fun v0 v4 v6 v7 v8 v9 w => f216_H49 n rec21 K21 K27 f v0 v4 v6 v7 v8 v9 w) K27 67 (nI q) (nI turn) (nI d.2.2.2) (nI s) (nI k) 67 x21 (mW I1 L ru)) else f216_J117 n rec21 K21 (fun v0 v4 v6 v7 v8 v9 w => f216_H49 n rec21 K21 K27 f v0 v4 v6 v7 v8 v9 w) K27 67 (nI q) (nI turn) (nI d.2.2.2) (nI s) (nI k) 67 (pI u) (mW I1 L ru)) = f216_H49 n rec21 K21 K27 f 67 (nI q) (nI turn) (nI (d.2.2.2 + 1)) (nI s) (nI (k + 1)) (mW I' L ru) := by
    intro I1 u hu g1 g2
    have t1 : I1 67 47 = pI d.2.2.1 := (g1.f (by decide) (by decide)).trans h47
    refine ⟨u2 I1 67 47 (pI (if d.2.2.2 = turn then u else d.2.2.1)), (g1.mono (by decide) (by decide)).uf (by decide), g2.fr (Fr.rf.uf (j := 47) (F := [47]) (K := []) (by decide)) (by decide) (by decide) (by decide) (by decide), ux_at, ?_, ?_⟩
    · simp (config := { maxSteps := 2000000 }) (disch := omega) only [ux_jo]
    · by_cases e : d.2.2.2 = turn
      · simp (config := { maxSteps := 2000000 }) (disch := omega) only [f216_J117, ux_at, ux_kk, ux_jo, gIm, pIm, pZm, gRm, aIm, sIm, aBm, sBm, gLm, pLm, clm, wshS, obS, reduceIte, Nat.one_ne_zero, Nat.zero_ne_one, Nat.reduceEqDiff, not_true_eq_false, not_false_eq_true, Nat.le_refl, ng_le, ng_lt, ng_nle, ng_nlt, ng_eq, ng_eq2, Bool.false_eq_true, lit_nI, nI_add, pk_mul, nI_leI, nI_ltI, nI_eq, e]
      · simp (config := { maxSteps := 2000000 }) (disch := omega) only [f216_J117, ux_at, ux_kk, ux_jo, gIm, pIm, pZm, gRm, aIm, sIm, aBm, sBm, gLm, pLm, clm, wshS, obS, reduceIte, Nat.one_ne_zero, Nat.zero_ne_one, Nat.reduceEqDiff, not_true_eq_false, not_false_eq_true, Nat.le_refl, ng_le, ng_lt, ng_nle, ng_nlt, ng_eq, ng_eq2, Bool.false_eq_true, lit_nI, nI_add, pk_mul, nI_leI, nI_ltI, nI_eq, e, t1]
  by_cases hlt : lcgN d.1 / 65536 % 100 < q
  · have hle : ¬ q ≤ lcgN d.1 / 65536 % 100 := by omega
    have ed2 := s63 (I := u2 I 67 60 (nI (lcgN d.1))) (L := L) (ru := ru) (s := lcgN d.1) (k := 3) ux_at hl1 (by decide) (by decide)
    have hf2 : Fr [] [60] I (u2 (u2 I 67 60 (nI (lcgN d.1))) 67 60 (nI (lcgN (lcgN d.1)))) := hf1.uf (by decide)
    have hu : lcgN (lcgN d.1) / 65536 % 3 + 1 < 5 := by omega
    have hpi : nI (lcgN (lcgN d.1) / 65536 % 3) - nI 1 = pI (lcgN (lcgN d.1) / 65536 % 3 + 1) := by rw [tI_def, pI_t]
    obtain ⟨I1, e1, f1, r1⟩ := s127 (L := L) (ru := ru) (m := 1) hb (show s < 6 by omega) hu ((hf2.f (by decide) (by decide)).trans h41) (hR.fr hf2 (by decide) (by decide) (by decide) (by decide))
    obtain ⟨I', k1, k2, k3, k4, k5⟩ := fin I1 _ hu ((hf2.mono (by decide) (by decide)).tr (f1.mono (by decide) (by decide))) r1
    have hdp : drP p q turn s d = (lcgN (lcgN d.1), (s, lcgN (lcgN d.1) / 65536 % 3 + 1, 1) :: d.2.1, if d.2.2.2 = turn then lcgN (lcgN d.1) / 65536 % 3 + 1 else d.2.2.1, d.2.2.2 + 1) := if_pos hlt
    rw [hdp]
    refine ⟨I', k1, k2, k3, k4.trans ((f1.f (by decide) (by decide)).trans ux_at), ?_⟩
    refine Eq.trans ?_ k5
    simp (config := { maxSteps := 2000000 }) (disch := omega) only [f216_H49, f216_J89, ux_at, ux_kk, ux_jo, gIm, pIm, pZm, gRm, aIm, sIm, aBm, sBm, gLm, pLm, clm, wshS, obS, reduceIte, lit_nI, nI_leI, mcA hM, wfA hW.1, hk2, ed, hle, ed2, hpi, e1]
  · have hle : q ≤ lcgN d.1 / 65536 % 100 := by omega
    obtain ⟨I1, e1, f1, r1⟩ := s127 (L := L) (ru := ru) (m := 1) hb (show s < 6 by omega) h5 h411 (hR.fr hf1 (by decide) (by decide) (by decide) (by decide))
    obtain ⟨I', k1, k2, k3, k4, k5⟩ := fin I1 _ h5 ((hf1.mono (by decide) (by decide)).tr (f1.mono (by decide) (by decide))) r1
    have hdp : drP p q turn s d = (lcgN d.1, (s, p s, 1) :: d.2.1, if d.2.2.2 = turn then p s else d.2.2.1, d.2.2.2 + 1) := if_neg hlt
    rw [hdp]
    refine ⟨I', k1, k2, k3, k4.trans ((f1.f (by decide) (by decide)).trans ux_at), ?_⟩
    refine Eq.trans ?_ k5
    simp (config := { maxSteps := 2000000 }) (disch := omega) only [f216_H49, f216_J89, ux_at, ux_kk, ux_jo, gIm, pIm, pZm, gRm, aIm, sIm, aBm, sBm, gLm, pLm, clm, wshS, obS, reduceIte, lit_nI, nI_leI, mcA hM, wfA hW.1, hk2, ed, hle, e83, e1]
/-- what stands while persons draw -/
def DrI (I I' A : St) (p : Nat → Nat) (b N : Nat) (d : Dr) : Prop := Fr [85] [45, 46, 47, 60] I I' ∧ DrOk N d ∧ RT I' b d.2.1 ∧ I' 67 47 = pI d.2.2.1 ∧ I' 67 60 = nI d.1
theorem l216k {I0 : St} (hM : MC I0 A) (hW : WF A) {p : Nat → Nat} (hP : PRS I0 A p) {q turn s N b : Nat} {d : Dr} (hI : DrI I0 I A p b N d) (hb : b < 64) (h41 : I0 67 41 = nI b) (hq : q ≤ 100) (ht : turn < 54) (hs : s < nsN A) (hN : N + perN A s ≤ 54) (hn : 20 < n) {rec21 : _} {K21 : _} {K27 : Nat → Int32 → Int32 → Int32 → Int32 → Wd → Option (Int32 × Wd)} {P : Option (Int32 × Wd) → Prop}
    (hK : ∀ J, DrI I0 J A p b (N + perN A s) (drK p q turn s d (perN A s)) → P (K27 67 (nI q) (nI turn) (nI (drK p q turn s d (perN A s)).2.2.2) (nI s) (mW J L ru))) : P (f216_H49 n rec21 K21 K27 n 67 (nI q) (nI turn) (nI d.2.2.2) (nI s) (nI 0) (mW I L ru)) := by
  have h6 := ns6 hW.1
  have hp9 := per_le hW.1 hs
  refine lpP (F := fun k i J => f216_H49 n rec21 K21 K27 k 67 (nI q) (nI turn) (nI (drK p q turn s d i).2.2.2) (nI s) (nI i) (mW J L ru)) (P := P) (J := fun i J => DrI I0 J A p b (N + i) (drK p q turn s d i)) (perN A s) ?_ ?_ n 0 I (by omega) (by omega) hI
  · intro k J hJ
    have hM1 := hM.fr hJ.1 (by decide) (by decide) (by decide)
    simp (config := { maxSteps := 2000000 }) (disch := omega) only [f216_H49, ux_at, ux_kk, ux_jo, gIm, pIm, pZm, gRm, aIm, sIm, aBm, sBm, gLm, pLm, clm, wshS, obS, reduceIte, Nat.one_ne_zero, Nat.zero_ne_one, Nat.reduceEqDiff, not_true_eq_false, not_false_eq_true, Nat.le_refl, ng_le, ng_lt, ng_nle, ng_nlt, ng_eq, ng_eq2, Bool.false_eq_true, lit_nI, nI_add, pk_mul, nI_leI, nI_ltI, nI_eq, mcA hM1, wfA hW.1]
    exact hK J hJ
  · intro k i J hi hJ ih
    obtain ⟨j1, j2, j3, j4, j5⟩ := hJ
    have hM1 := hM.fr j1 (by decide) (by decide) (by decide)
    obtain ⟨I', k1, k2, k3, k4, k5⟩ := l216 (n := n) (L := L) (ru := ru) (rec21 := rec21) (K21 := K21) (K27 := K27) (f := k) (k := i) (q := q) (turn := turn) (s := s) hM1 hW (hP.fr j1 (by decide)) j2 hb ((j1.f (by decide) (by decide)).trans h41) j3 j4 j5 hq ht (by omega) hs hi
    rw [k5]
    exact ih I' ⟨j1.tr k1, drP_ok j2 (hP s hs).2, k2, k3, k4⟩
theorem s216 (hM : MC I A) (hW : WF A) {f : Nat} (hC : CF f I A) {ρ : Nat → Nat} (hU : RU I ρ) (hR : RK ρ) {q c h hour seed : Nat} (hc : c < 64) (hh : h < 8) (hr : rkN A c = 0) (ho : hour < 1000) (hq : q ≤ 100) (h60 : I 67 60 = nI seed) (hs : seed < 2 ^ 31) (hn : 100 < n) :
    ∃ I', f216 n 67 (nI c) (nI h) (nI hour) (nI q) (mW I L ru) = some (tI (drT A ρ (drA A q c h hour seed)), mW I' L ru) ∧ Fr [82, 83, 85] [34, 45, 46, 47, 60] I I' ∧ CF f I' A ∧ I' 67 60 = nI (drA A q c h hour seed).1 ∧ (drA A q c h hour seed).1 < 2 ^ 31 := by
  have h6 := ns6 hW.1
  obtain ⟨I1, e1, f1, p1, t1, r1⟩ := s203 (L := L) (ru := ru) hM hW hC.ca hc hh hr hn
  have hM1 := hM.fr f1 (by decide) (by decide) (by decide)
  have hU1 := hU.fr f1 (by decide) (by decide) (by decide) (by decide) (by decide) (by decide)
  obtain ⟨I2, e2, f2, z1, z2, z3, z4⟩ := s55 (I := I1) (L := L) (ru := ru) (n := n) (by omega)
  have hM2 := hM1.fr f2 (by decide) (by decide) (by decide)
  have hU2 := hU1.fr f2 (by decide) (by decide) (by decide) (by decide) (by decide) (by decide)
  have hP2 := r1.fr f2 (by decide)
  have h5 : ∀ s, s < nsN A → prsN A c h s < 5 := fun s hs => (hP2 s hs).2
  have hd0 : DrOk 0 (seed, [], 2, 0) := ⟨hs, (fun e he => by cases he), by show 2 < 5; decide, rfl, rfl⟩
  have hI2 : DrI I2 I2 A (prsN A c h) (ρ 2) 0 (seed, [], 2, 0) := ⟨Fr.rf, hd0, ⟨fun v hv => z1 v hv, z2, z3⟩, z4.trans pI_2.symm, ((f2.f (by decide) (by decide)).trans (f1.f (by decide) (by decide))).trans h60⟩
  have ht := turnN_lt hW.1 (hour := hour)
  have key : ∃ I', f216_H37 n (fun e0 w35 => (if (wsh w35 e0).map (fun q => q.1) = some 11 then ob (f172 n e0 w35) (fun p36 => some (p36.1, p36.2)) else none)) n 67 (nI q) (nI (turnN A hour)) (nI 0) (nI 0) (mW I2 L ru) = some (tI (drT A ρ (drA A q c h hour seed)), mW I' L ru) ∧ Fr [85] [45, 46, 47, 60] I2 I' ∧ I' 67 60 = nI (drA A q c h hour seed).1 ∧ (drA A q c h hour seed).1 < 2 ^ 31 := by
    refine lpP (F := fun k i J => f216_H37 n (fun e0 w35 => (if (wsh w35 e0).map (fun q => q.1) = some 11 then ob (f172 n e0 w35) (fun p36 => some (p36.1, p36.2)) else none)) k 67 (nI q) (nI (turnN A hour)) (nI (drS A (prsN A c h) q (turnN A hour) (seed, [], 2, 0) i).2.2.2) (nI i) (mW J L ru)) (P := fun y => ∃ I', y = some (tI (drT A ρ (drA A q c h hour seed)), mW I' L ru) ∧ Fr [85] [45, 46, 47, 60] I2 I' ∧ I' 67 60 = nI (drA A q c h hour seed).1 ∧ (drA A q c h hour seed).1 < 2 ^ 31) (J := fun i J => DrI I2 J A (prsN A c h) (ρ 2) (sumN (perN A) i) (drS A (prsN A c h) q (turnN A hour) (seed, [], 2, 0) i)) (nsN A) ?_ ?_ n 0 I2 (by omega) (by omega) hI2
    · rintro k J ⟨j1, j2, j3, j4, j5⟩
      have hM3 := hM2.fr j1 (by decide) (by decide) (by decide)
      have hU3 := hU2.fr j1 (by decide) (by decide) (by decide) (by decide) (by decide) (by decide)
      have ha := allN_le hW.1
      have hN : tnN (drA A q c h hour seed).2.1 < 1000 := by
        have := j2.2.2.2.2
        unfold allN at ha
        unfold drA
        omega
      have hr1 := hR.2.1
      have e3 := s172 (L := L) (ru := ru) (n := n) (k := ρ 0) (nd := ρ 1) (b := ρ 2) (E := (drA A q c h hour seed).2.1) (tp := (drA A q c h hour seed).2.2.1) j3 j2.2.1 hN hU3.1 hR.1 hU3.2.1 (by omega) j4 j2.2.2.1 (by omega)
      simp (config := { maxSteps := 2000000 }) (disch := omega) only [f216_H37, ux_at, ux_kk, ux_jo, gIm, pIm, pZm, gRm, aIm, sIm, aBm, sBm, gLm, pLm, clm, wshS, obS, reduceIte, Nat.one_ne_zero, Nat.zero_ne_one, Nat.reduceEqDiff, not_true_eq_false, not_false_eq_true, Nat.le_refl, ng_le, ng_lt, ng_nle, ng_nlt, ng_eq, ng_eq2, Bool.false_eq_true, lit_nI, nI_add, pk_mul, nI_leI, nI_ltI, nI_eq, mcA hM3, wfA hW.1, e3]
      exact ⟨J, rfl, j1, j5, j2.1⟩
    · intro k i J hi hJ ih
      have hM3 := hM2.fr hJ.1 (by decide) (by decide) (by decide)
      have hi2 : ¬ nsN A ≤ i := by omega
      have hsl := sum_le hW.1 (show i + 1 ≤ nsN A by omega)
      have hs1 : sumN (perN A) (i + 1) = sumN (perN A) i + perN A i := rfl
      simp (config := { maxSteps := 2000000 }) (disch := omega) only [f216_H37, ux_at, ux_kk, ux_jo, gIm, pIm, pZm, gRm, aIm, sIm, aBm, sBm, gLm, pLm, clm, wshS, obS, reduceIte, Nat.one_ne_zero, Nat.zero_ne_one, Nat.reduceEqDiff, not_true_eq_false, not_false_eq_true, Nat.le_refl, ng_le, ng_lt, ng_nle, ng_nlt, ng_eq, ng_eq2, Bool.false_eq_true, lit_nI, nI_add, pk_mul, nI_leI, nI_ltI, nI_eq, mcA hM3, wfA hW.1, hi2]
      refine l216k (P := fun y => ∃ I', y = some (tI (drT A ρ (drA A q c h hour seed)), mW I' L ru) ∧ Fr [85] [45, 46, 47, 60] I2 I' ∧ I' 67 60 = nI (drA A q c h hour seed).1 ∧ (drA A q c h hour seed).1 < 2 ^ 31) hM2 hW hP2 hJ hR.2.2.1 hU2.2.2.1 hq ht hi (by omega) (by omega) fun J2 hJ2 => ?_
      simp (config := { maxSteps := 2000000 }) (disch := omega) only [lit_nI, nI_add]
      exact ih J2 hJ2
  obtain ⟨I3, k1, k2, k3, k4⟩ := key
  have ha := allN_le hW.1
  refine ⟨I3, ?_, (f1.mono (by decide) (by decide)).tr ((f2.mono (by decide) (by decide)).tr (k2.mono (by decide) (by decide))), Or.inr ⟨(k2.f (by decide) (by decide)).trans ((f2.f (by decide) (by decide)).trans p1), DN.fr (DN.fr t1 f2 (by decide)) k2 (by decide)⟩, k3, k4⟩
  unfold turnN at k1
  by_cases h0 : allN A = 0
  · rw [if_pos h0] at k1
    simp (config := { maxSteps := 2000000 }) (disch := omega) only [f216, f216_J29, ux_at, ux_kk, ux_jo, gIm, pIm, pZm, gRm, aIm, sIm, aBm, sBm, gLm, pLm, clm, wshS, obS, reduceIte, nI_eq, Nat.one_ne_zero, not_true_eq_false, show (0 : Int32) = nI 0 from rfl, e1, e2, s50 hM2 hW.1 (show 6 < n by omega), h0]
    exact k1
  · rw [if_neg h0] at k1
    simp (config := { maxSteps := 2000000 }) (disch := omega) only [f216, f216_J29, ux_at, ux_kk, ux_jo, gIm, pIm, pZm, gRm, aIm, sIm, aBm, sBm, gLm, pLm, clm, wshS, obS, reduceIte, nI_eq, Nat.one_ne_zero, not_false_eq_true, show (0 : Int32) = nI 0 from rfl, e1, e2, s50 hM2 hW.1 (show 6 < n by omega), h0, irm_nI]
    exact k1
end
