/-! PRESSING, COUNTING AT A PLACE: the reference's use, isUnless, pressAll, countedAt, mayTurn -/
/-- a rule in numbers: kind, need, bar, side (a turn's number), near -/
def RU (I : St) (ρ : Nat → Nat) : Prop := I 67 39 = nI (ρ 0) ∧ I 67 40 = nI (ρ 1) ∧ I 67 41 = nI (ρ 2) ∧ I 67 42 = tI (ρ 3) ∧ I 67 43 = nI (ρ 4)
def RK (ρ : Nat → Nat) : Prop := ρ 0 < 4 ∧ ρ 1 ≤ 54 ∧ ρ 2 < 64 ∧ ρ 3 < 3 ∧ ρ 4 ≤ 7 ∧ (ρ 3 = 1 → ρ 4 = 0)
def ruN (A : St) (r q : Nat) : Nat := if q = 3 then (ruRow A r 3 + nI 1).toNatClampNeg else (ruRow A r q).toNatClampNeg
theorem RU.fr {I I' : St} {ρ : Nat → Nat} (h : RU I ρ) {K F : List Nat} (f : Fr K F I I') (hK : 67 ∉ K) (h1 : 39 ∉ F) (h2 : 40 ∉ F) (h3 : 41 ∉ F) (h4 : 42 ∉ F) (h5 : 43 ∉ F) : RU I' ρ :=
  ⟨(f.f hK h1).trans h.1, (f.f hK h2).trans h.2.1, (f.f hK h3).trans h.2.2.1, (f.f hK h4).trans h.2.2.2.1, (f.f hK h5).trans h.2.2.2.2⟩
theorem ruN_ok {r : Nat → Int32} (h : ruleOk r) : ∃ ρ : Nat → Nat, (∀ q, ρ q = if q = 3 then (r 3 + nI 1).toNatClampNeg else (r q).toNatClampNeg) ∧ RK ρ ∧ r 0 = nI (ρ 0) ∧ r 1 = nI (ρ 1) ∧ r 2 = nI (ρ 2) ∧ r 3 = tI (ρ 3) ∧ r 4 = nI (ρ 4) := by
  obtain ⟨⟨a, a1, a2⟩, ⟨b, b1, b2⟩, ⟨c, c1, c2⟩, h4⟩ := h
  refine ⟨fun q => if q = 3 then (r 3 + nI 1).toNatClampNeg else (r q).toNatClampNeg, fun q => rfl, ?_⟩
  show ((r 0).toNatClampNeg < 4 ∧ (r 1).toNatClampNeg ≤ 54 ∧ (r 2).toNatClampNeg < 64 ∧ (r 3 + nI 1).toNatClampNeg < 3 ∧ (r 4).toNatClampNeg ≤ 7 ∧ ((r 3 + nI 1).toNatClampNeg = 1 → (r 4).toNatClampNeg = 0)) ∧ r 0 = nI (r 0).toNatClampNeg ∧ r 1 = nI (r 1).toNatClampNeg ∧ r 2 = nI (r 2).toNatClampNeg ∧ r 3 = tI (r 3 + nI 1).toNatClampNeg ∧ r 4 = nI (r 4).toNatClampNeg
  rw [a2, b2, c2, nI_clamp (show a < 2 ^ 31 by omega), nI_clamp (show b < 2 ^ 31 by omega), nI_clamp (show c < 2 ^ 31 by omega)]
  have n0 : (nI 0 + nI 1).toNatClampNeg = 1 := by decide +kernel
  have n1 : ((-1 : Int32) + nI 1).toNatClampNeg = 0 := by decide +kernel
  have n2 : (nI 1 + nI 1).toNatClampNeg = 2 := by decide +kernel
  have n3 : (nI 0).toNatClampNeg = 0 := by decide +kernel
  rcases h4 with ⟨e1, e2⟩ | ⟨e1 | e1, k, k1, k2, e2⟩
  · rw [e1, e2, n0, n3]
    exact ⟨⟨a1, b1, c1, by decide, by decide, fun _ => rfl⟩, rfl, rfl, rfl, tI_1.symm, rfl⟩
  · rw [e1, e2, n1, nI_clamp (show k < 2 ^ 31 by omega)]
    exact ⟨⟨a1, b1, c1, by decide, k2, fun q => absurd q (by decide)⟩, rfl, rfl, rfl, tI_0.symm, rfl⟩
  · rw [e1, e2, n2, nI_clamp (show k < 2 ^ 31 by omega)]
    exact ⟨⟨a1, b1, c1, by decide, k2, fun q => absurd q (by decide)⟩, rfl, rfl, rfl, tI_2.symm, rfl⟩
theorem ruN_at {A : St} (h : WFr A) {r : Nat} (hr : r < nrN A) : RK (ruN A r) ∧ A 84 (5 * r) = nI (ruN A r 0) ∧ A 84 (5 * r + 1) = nI (ruN A r 1) ∧ A 84 (5 * r + 2) = nI (ruN A r 2) ∧ A 84 (5 * r + 3) = tI (ruN A r 3) ∧ A 84 (5 * r + 4) = nI (ruN A r 4) := by
  obtain ⟨ρ, h1, h2⟩ := ruN_ok (h.2.2.2.2.1 r hr)
  have e : ρ = ruN A r := funext h1
  rw [e] at h2
  exact h2
section
variable {I A : St} {L : Lt} {ru n : Nat}
theorem s54 (hM : MC I A) (hW : WFr A) {r : Nat} (hr : r < nrN A) : ∃ I', f54 67 (nI r) (mW I L ru) = some (mW I' L ru) ∧ Fr [] [39, 40, 41, 42, 43] I I' ∧ RU I' (ruN A r) := by
  obtain ⟨-, e0, e1, e2, e3, e4⟩ := ruN_at hW hr
  have h4 := hW.2.2.2.1.2
  simp (config := { maxSteps := 2000000 }) (disch := omega) only [f54, ux_at, ux_kk, ux_jo, gIm, pIm, pZm, gRm, aIm, sIm, aBm, sBm, gLm, pLm, clm, wshS, obS, reduceIte, Nat.one_ne_zero, Nat.zero_ne_one, Nat.reduceEqDiff, not_true_eq_false, not_false_eq_true, Nat.le_refl, ng_le, ng_lt, ng_nle, ng_nlt, ng_eq, ng_eq2, Bool.false_eq_true, lit_nI, nI_add, pk_mul, nI_leI, nI_ltI, nI_eq, mcA hM, e0, e1, e2, e3, e4]
  refine ⟨_, rfl, ((((Fr.rf.uf (by decide)).uf (by decide)).uf (by decide)).uf (by decide)).uf (by decide), ?_, ?_, ?_, ?_, ?_⟩ <;>
    simp (config := { maxSteps := 2000000 }) (disch := omega) only [ux_at, ux_jo]
/-- the cell k on, going straight -/
def ahN (c h : Nat) : Nat → Nat
  | 0 => c
  | k + 1 => goN (ahN c h k) h
/-- is there a rock in one of the next k cells -/
def unN (A : St) (c h : Nat) : Nat → Nat
  | 0 => 0
  | k + 1 => if unN A c h k = 1 then 1 else rkN A (ahN c h (k + 1))
theorem ahN_lt {c h : Nat} (hc : c < 64) (hh : h < 8) : ∀ k, ahN c h k < 64
  | 0 => hc
  | k + 1 => goN_lt _ (ahN_lt hc hh k) _ hh
theorem unN_le {A : St} (hW : WFs A) {c h : Nat} (hc : c < 64) (hh : h < 8) : ∀ k, unN A c h k ≤ 1
  | 0 => Nat.zero_le _
  | k + 1 => by
    unfold unN
    split
    · decide
    · exact rk_le hW (ahN_lt hc hh _)
theorem tI_ne {k : Nat} (hk : k < 3) (h : ¬ k = 1) : ¬ tI k = nI 0 := by
  rcases k3 hk with rfl | rfl | rfl
  · decide +kernel
  · omega
  · decide +kernel
theorem s170 (hM : MC I A) (hW : WFs A) {ρ : Nat → Nat} (hU : RU I ρ) (hR : RK ρ) {c h : Nat} (hc : c < 64) (hh : h < 8) (hn : 10 < n) : f170 n 67 (nI c) (nI h) (mW I L ru) = some (nI (unN A c h (ρ 4)), mW I L ru) := by
  obtain ⟨-, -, -, u3, u4⟩ := hU
  obtain ⟨-, -, -, r3, r4, r5⟩ := hR
  refine lpE (F := fun k i (s : Int32 × Int32) => f170_H8 n (fun e3 w15 => (if e3 = 0 ∨ e3 = 1 then some (e3, w15) else none)) k 67 (nI h) s.1 s.2 (nI i) (mW I L ru)) (J := fun i => (nI (unN A c h i), nI (ahN c h i))) (ρ 4) ?_ ?_ n 0 (Nat.zero_le _) (by omega)
  · intro k
    have h1 := unN_le hW hc hh (ρ 4)
    have h2 : nI (unN A c h (ρ 4)) = 0 ∨ nI (unN A c h (ρ 4)) = 1 := by
      rcases one_or h1 with e | e <;> rw [e]
      · exact Or.inl rfl
      · exact Or.inr rfl
    simp (config := { maxSteps := 2000000 }) (disch := omega) only [f170_H8, ux_at, ux_kk, ux_jo, gIm, pIm, pZm, gRm, aIm, sIm, aBm, sBm, gLm, pLm, clm, wshS, obS, reduceIte, u4, nI_leI, Nat.le_refl]
    exact if_pos h2
  · intro k i hi
    have hi2 : ¬ ρ 4 ≤ i := by omega
    have hne : ¬ tI (ρ 3) = nI 0 := tI_ne r3 (by omega)
    have a1 := ahN_lt hc hh i
    have a2 : goN (ahN c h i) h < 64 := ahN_lt hc hh (i + 1)
    rcases one_or (unN_le hW hc hh i) with e | e
    · rcases one_or (rk_le hW a2) with e2 | e2
      · simp (config := { maxSteps := 2000000 }) (disch := omega) only [f170_H8, ux_at, ux_kk, ux_jo, gIm, pIm, pZm, gRm, aIm, sIm, aBm, sBm, gLm, pLm, clm, wshS, obS, reduceIte, Nat.one_ne_zero, Nat.zero_ne_one, Nat.reduceEqDiff, not_true_eq_false, not_false_eq_true, Nat.le_refl, ng_le, ng_lt, ng_nle, ng_nlt, ng_eq, ng_eq2, Bool.false_eq_true, lit_nI, nI_add, pk_mul, nI_leI, nI_ltI, nI_eq, mcA hM, wfA hW, u3, u4, hi2, hne, s123, e, e2, not_true_eq_false, unN, ahN, Nat.zero_ne_one]
      · simp (config := { maxSteps := 2000000 }) (disch := omega) only [f170_H8, ux_at, ux_kk, ux_jo, gIm, pIm, pZm, gRm, aIm, sIm, aBm, sBm, gLm, pLm, clm, wshS, obS, reduceIte, Nat.one_ne_zero, Nat.zero_ne_one, Nat.reduceEqDiff, not_true_eq_false, not_false_eq_true, Nat.le_refl, ng_le, ng_lt, ng_nle, ng_nlt, ng_eq, ng_eq2, Bool.false_eq_true, lit_nI, nI_add, pk_mul, nI_leI, nI_ltI, nI_eq, mcA hM, wfA hW, u3, u4, hi2, hne, s123, e, e2, not_true_eq_false, unN, ahN, Nat.zero_ne_one, Nat.one_ne_zero]
    · simp (config := { maxSteps := 2000000 }) (disch := omega) only [f170_H8, ux_at, ux_kk, ux_jo, gIm, pIm, pZm, gRm, aIm, sIm, aBm, sBm, gLm, pLm, clm, wshS, obS, reduceIte, Nat.one_ne_zero, Nat.zero_ne_one, Nat.reduceEqDiff, not_true_eq_false, not_false_eq_true, Nat.le_refl, ng_le, ng_lt, ng_nle, ng_nlt, ng_eq, ng_eq2, Bool.false_eq_true, lit_nI, nI_add, pk_mul, nI_leI, nI_ltI, nI_eq, mcA hM, wfA hW, u3, u4, hi2, hne, s123, e, not_true_eq_false, not_false_eq_true, unN, ahN, Nat.one_ne_zero]
/-- what all press at a place -/
def prsN (A : St) (c h : Nat) : Nat → Nat := pBN A 0 (fun s => tbcN A s c h)
theorem s203 (hM : MC I A) (hW : WF A) (hC : CA I A) {c h : Nat} (hc : c < 64) (hh : h < 8) (hr : rkN A c = 0) (hn : 100 < n) :
    ∃ I', f203 n 67 (nI c) (nI h) (mW I L ru) = some (mW I' L ru) ∧ Fr [82, 83] [34] I I' ∧ I' 67 34 = nI 1 ∧ TB I' A ∧ PRS I' A (prsN A c h) := by
  have h6 := ns6 hW.1
  obtain ⟨I1, e1, f1, p1, t1⟩ := s191 (L := L) (ru := ru) hM hW hC hn
  have hM1 := hM.fr f1 (by decide) (by decide) (by decide)
  simp (config := { maxSteps := 2000000 }) (disch := omega) only [f203, ux_at, ux_kk, ux_jo, gIm, pIm, pZm, gRm, aIm, sIm, aBm, sBm, gLm, pLm, clm, wshS, obS, reduceIte, Nat.one_ne_zero, Nat.zero_ne_one, Nat.reduceEqDiff, not_true_eq_false, not_false_eq_true, Nat.le_refl, ng_le, ng_lt, ng_nle, ng_nlt, ng_eq, ng_eq2, Bool.false_eq_true, lit_nI, nI_add, pk_mul, nI_leI, nI_ltI, nI_eq, e1]
  refine lpP (F := fun k i J => f203_H6 n (fun e0 w14 => (if (wsh w14 e0).map (fun q => q.1) = some 11 then ob (f124 n e0 (0 : Int32) w14) (fun p15 => some p15) else none)) k 67 (nI c) (nI h) (nI i) (mW J L ru)) (P := fun x => ∃ I', x = some (mW I' L ru) ∧ Fr [82, 83] [34] I I' ∧ I' 67 34 = nI 1 ∧ TB I' A ∧ PRS I' A (prsN A c h)) (J := fun i J => Fr [83] [] I1 J ∧ ∀ s, s < i → J 83 s = pI (tbcN A s c h)) (nsN A) ?_ ?_ n 0 I1 (by omega) (by omega) ⟨Fr.rf, fun s hs => absurd hs (Nat.not_lt_zero _)⟩
  · intro k J hJ
    have hM2 := hM1.fr hJ.1 (by decide) (by decide) (by decide)
    obtain ⟨I2, e2, f2, r2⟩ := s124 (L := L) (ru := ru) (m := 0) hM2 hW (p := fun s => tbcN A s c h) (fun s hs => ⟨hJ.2 s hs, tbcN_lt hW.2 hs c h⟩) (by decide) (show 6 < n by omega)
    simp (config := { maxSteps := 2000000 }) (disch := omega) only [f203_H6, ux_at, ux_kk, ux_jo, gIm, pIm, pZm, gRm, aIm, sIm, aBm, sBm, gLm, pLm, clm, wshS, obS, reduceIte, Nat.one_ne_zero, Nat.zero_ne_one, Nat.reduceEqDiff, not_true_eq_false, not_false_eq_true, Nat.le_refl, ng_le, ng_lt, ng_nle, ng_nlt, ng_eq, ng_eq2, Bool.false_eq_true, lit_nI, nI_add, pk_mul, nI_leI, nI_ltI, nI_eq, mcA hM2, wfA hW.1, Nat.le_refl, e2]
    refine ⟨I2, rfl, (f1.mono (by decide) (by decide)).tr ((hJ.1.tr (f2.mono (by decide) (by decide))).mono (by decide) (by decide)), ?_, ?_, r2⟩
    · exact (f2.f (by decide) (by decide)).trans ((hJ.1.f (by decide) (by decide)).trans p1)
    · exact DN.fr (DN.fr t1 hJ.1 (by decide)) f2 (by decide)
  · intro k i J hi hJ ih
    have hM2 := hM1.fr hJ.1 (by decide) (by decide) (by decide)
    have hi2 : ¬ nsN A ≤ i := by omega
    have t2 := TB.at (DN.fr t1 hJ.1 (by decide)) hi hc hh hr
    simp (config := { maxSteps := 2000000 }) (disch := omega) only [f203_H6, ux_at, ux_kk, ux_jo, gIm, pIm, pZm, gRm, aIm, sIm, aBm, sBm, gLm, pLm, clm, wshS, obS, reduceIte, Nat.one_ne_zero, Nat.zero_ne_one, Nat.reduceEqDiff, not_true_eq_false, not_false_eq_true, Nat.le_refl, ng_le, ng_lt, ng_nle, ng_nlt, ng_eq, ng_eq2, Bool.false_eq_true, lit_nI, nI_add, pk_mul, nI_leI, nI_ltI, nI_eq, mcA hM2, wfA hW.1, hi2, t2]
    refine ih _ ⟨hJ.1.u (by decide), fun s hs => ?_⟩
    rw [ux_if]
    split
    · rename_i q
      rw [q]
    · exact hJ.2 s (by omega)
/-- the turn that is counted, of presses p -/
def cntN (A : St) (ρ : Nat → Nat) (p : Nat → Nat) (hour : Nat) : Nat := decN (ρ 0) (ρ 1) (ρ 2) (EcN A p (nsN A)) (tprN A p (turnN A hour) (nsN A))
theorem cntN_lt (A : St) (ρ : Nat → Nat) (p : Nat → Nat) (hour : Nat) : cntN A ρ p hour < 3 := decN_lt _ _ _ _ _
theorem EcN_mem {A : St} {p : Nat → Nat} : ∀ i, (∀ s, s < i → p s < 5) → ∀ e, e ∈ EcN A p i → e.2.1 < 5
  | 0, _, e, he => by cases he
  | i + 1, h, e, he => by
    rcases List.mem_cons.mp he with rfl | he
    · exact h i (by omega)
    · exact EcN_mem i (fun s hs => h s (by omega)) e he
theorem EcN_q {A : St} {p : Nat → Nat} : ∀ i, (∀ s, s < i → p s < 5) → tnN (EcN A p i) = sumN (perN A) i
  | 0, _ => rfl
  | i + 1, h => by
    have ih := EcN_q (A := A) i fun s hs => h s (by omega)
    have h5 := h i (by omega)
    show tnN ((i, p i, perN A i) :: EcN A p i) = sumN (perN A) i + perN A i
    rw [← ih]
    have hc : p i = 0 ∨ p i = 1 ∨ p i = 2 ∨ p i = 3 ∨ p i = 4 := by omega
    have tc : ∀ v e E, tqN v (e :: E) = (if e.2.1 = v then e.2.2 else 0) + tqN v E := fun _ _ _ => rfl
    rcases hc with e | e | e | e | e <;> simp only [tnN, tlN, trN, tc, e, reduceIte, Nat.reduceEqDiff, Nat.zero_add, Nat.one_ne_zero, Nat.zero_ne_one] <;> omega
theorem tprN_lt {A : St} {p : Nat → Nat} {j : Nat} : ∀ i, (∀ s, s < i → p s < 5) → tprN A p j i < 5
  | 0, _ => by show 2 < 5; decide
  | i + 1, h => by
    unfold tprN
    split
    · exact h i (by omega)
    · exact tprN_lt i fun s hs => h s (by omega)
/-- countSorts and decided, of presses that stand -/
theorem s171d (hM : MC I A) (hW : WF A) {ρ : Nat → Nat} (hU : RU I ρ) (hR : RK ρ) {p : Nat → Nat} (hP : PRS I A p) {hour : Nat} (hh : hour < 1000) (hn : 100 < n) :
    ∃ I', Fr [85] [45, 46, 47] I I' ∧ f171 n 67 (nI hour) (mW I L ru) = some (mW I' L ru) ∧ f172 n 67 (mW I' L ru) = some (tI (cntN A ρ p hour), mW I' L ru) := by
  obtain ⟨I1, e1, f1, r1, t1⟩ := s171 (L := L) (ru := ru) (n := n) hM hW.1 hP hR.2.2.1 hU.2.2.1 hh (by omega)
  have hU1 := hU.fr f1 (by decide) (by decide) (by decide) (by decide) (by decide) (by decide)
  have h5 : ∀ s, s < nsN A → p s < 5 := fun s hs => (hP s hs).2
  have hN : tnN (EcN A p (nsN A)) < 1000 := by
    rw [EcN_q _ h5]
    have := allN_le hW.1
    unfold allN at this
    omega
  have hr1 := hR.2.1
  exact ⟨I1, f1, e1, s172 (n := n) r1 (EcN_mem _ h5) hN hU1.1 hR.1 hU1.2.1 (by omega) t1 (tprN_lt _ h5) (by omega)⟩
theorem s214 (hM : MC I A) (hW : WF A) {f : Nat} (hC : CF f I A) {ρ : Nat → Nat} (hU : RU I ρ) (hR : RK ρ) {c h hour : Nat} (hc : c < 64) (hh : h < 8) (hr : rkN A c = 0) (ho : hour < 1000) (hn : 100 < n) :
    ∃ I', f214 n 67 (nI c) (nI h) (nI hour) (mW I L ru) = some (tI (cntN A ρ (prsN A c h) hour), mW I' L ru) ∧ Fr [82, 83, 85] [34, 45, 46, 47] I I' ∧ CF f I' A := by
  obtain ⟨I1, e1, f1, p1, t1, r1⟩ := s203 (L := L) (ru := ru) hM hW hC.ca hc hh hr hn
  have hM1 := hM.fr f1 (by decide) (by decide) (by decide)
  have hU1 := hU.fr f1 (by decide) (by decide) (by decide) (by decide) (by decide) (by decide)
  obtain ⟨I2, f2, e2, e3⟩ := s171d (L := L) (ru := ru) hM1 hW hU1 hR r1 ho hn
  refine ⟨I2, ?_, (f1.mono (by decide) (by decide)).tr (f2.mono (by decide) (by decide)), Or.inr ⟨(f2.f (by decide) (by decide)).trans p1, DN.fr t1 f2 (by decide)⟩⟩
  simp (config := { maxSteps := 2000000 }) (disch := omega) only [f214, ux_at, ux_kk, ux_jo, gIm, pIm, pZm, gRm, aIm, sIm, aBm, sBm, gLm, pLm, clm, wshS, obS, reduceIte, e1, e2, e3]
end
