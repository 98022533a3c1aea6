/-! COUNTING, 2: the reference's countSorts, middleOf, decided, pressBlind -/
section
variable {I A : St} {L : Lt} {ru n : Nat}
theorem RT.fr {I I' : St} {b : Nat} {E : Tl} (h : RT I b E) {K F : List Nat} (f : Fr K F I I') (h1 : 85 ∉ K) (h2 : 67 ∉ K) (h3 : 45 ∉ F) (h4 : 46 ∉ F) : RT I' b E :=
  ⟨fun v hv => (congrFun (f.at h1 (by decide)) v).trans (h.1 v hv), (f.f h2 h3).trans h.2.1, (f.f h2 h4).trans h.2.2⟩
/-- the reference's presses are the codes p -/
def PRS (I A : St) (p : Nat → Nat) : Prop := ∀ s, s < nsN A → I 83 s = pI (p s) ∧ p s < 5
theorem PRS.fr {I I' A : St} {p : Nat → Nat} (h : PRS I A p) {K F : List Nat} (f : Fr K F I I') (h1 : 83 ∉ K) : PRS I' A p :=
  fun s hs => ⟨(congrFun (f.at h1 (by decide)) s).trans (h s hs).1, (h s hs).2⟩
/-- the tally of the sorts -/
def EcN (A : St) (p : Nat → Nat) : Nat → Tl
  | 0 => []
  | i + 1 => (i, p i, perN A i) :: EcN A p i
/-- the press of the person whose turn is j -/
def tprN (A : St) (p : Nat → Nat) (j : Nat) : Nat → Nat
  | 0 => 2
  | i + 1 => if sumN (perN A) i ≤ j ∧ j < sumN (perN A) (i + 1) then p i else tprN A p j i
def turnN (A : St) (hour : Nat) : Nat := if allN A = 0 then 0 else hour % allN A
theorem turnN_lt (hW : WFs A) {hour : Nat} : turnN A hour < 54 := by
  unfold turnN
  split
  · decide
  · have := Nat.mod_lt hour (show 0 < allN A by omega)
    have := allN_le hW
    omega
theorem sum_le (hW : WFs A) {i : Nat} (h : i ≤ nsN A) : sumN (perN A) i ≤ 54 := Nat.le_trans (sumN_mono h) (allN_le hW)
theorem l171 (hM : MC I A) (hW : WFs A) {p : Nat → Nat} (hP : PRS I A p) {b : Nat} (hb : b < 64) (h41 : I 67 41 = nI b) (hR : RT I b []) (h47 : I 67 47 = nI 0) {j : Nat} (hj : j < 54) (hn : 6 < n) :
    ∃ I', f171_H27 n (fun w => some w) n 67 (nI j) (nI 0) (nI 0) (mW I L ru) = some (mW I' L ru) ∧ Fr [85] [45, 46, 47] I I' ∧ RT I' b (EcN A p (nsN A)) ∧ I' 67 47 = pI (tprN A p j (nsN A)) := by
  have h6 := ns6 hW
  refine lpP (F := fun k i J => f171_H27 n (fun w => some w) k 67 (nI j) (nI (sumN (perN A) i)) (nI i) (mW J L ru)) (P := fun x => ∃ I', x = some (mW I' L ru) ∧ Fr [85] [45, 46, 47] I I' ∧ RT I' b (EcN A p (nsN A)) ∧ I' 67 47 = pI (tprN A p j (nsN A))) (J := fun i J => Fr [85] [45, 46, 47] I J ∧ RT J b (EcN A p i) ∧ J 67 47 = pI (tprN A p j i)) (nsN A) ?_ ?_ n 0 I (by omega) (by omega) ⟨Fr.rf, hR, h47.trans pI_2.symm⟩
  · intro k J hJ
    have hM2 := hM.fr hJ.1 (by decide) (by decide) (by decide)
    simp (config := { maxSteps := 2000000 }) (disch := omega) only [f171_H27, ux_at, ux_kk, ux_jo, gIm, pIm, pZm, gRm, aIm, sIm, aBm, sBm, gLm, pLm, clm, wshS, obS, reduceIte, Nat.one_ne_zero, Nat.zero_ne_one, Nat.reduceEqDiff, not_true_eq_false, not_false_eq_true, Nat.le_refl, ng_le, ng_lt, ng_nle, ng_nlt, ng_eq, ng_eq2, Bool.false_eq_true, lit_nI, nI_add, pk_mul, nI_leI, nI_ltI, nI_eq, mcA hM2, wfA hW, Nat.le_refl]
    exact ⟨_, rfl, hJ⟩
  · intro k i J hi hJ ih
    obtain ⟨hF, hRT, hT⟩ := hJ
    have hM2 := hM.fr hF (by decide) (by decide) (by decide)
    have hP2 := hP.fr hF (by decide)
    have h412 : J 67 41 = nI b := (hF.f (by decide) (by decide)).trans h41
    have hi2 : ¬ nsN A ≤ i := by omega
    obtain ⟨e83, h5⟩ := hP2 i hi
    obtain ⟨J1, e1, f1, r1⟩ := s127 (m := perN A i) (L := L) (ru := ru) hb (show i < 6 by omega) h5 h412 hRT
    have hM3 := hM2.fr f1 (by decide) (by decide) (by decide)
    have hF3 := hF.tr (f1.mono (K' := [85]) (F' := [45, 46, 47]) (by decide) (by decide))
    have e83b := (hP2.fr f1 (by decide) i hi).1
    have t1 : J1 67 47 = pI (tprN A p j i) := (f1.f (by decide) (by decide)).trans hT
    have hs1 := sum_le hW (show i ≤ nsN A by omega)
    have hs2 := sum_le hW (show i + 1 ≤ nsN A by omega)
    have hs3 : sumN (perN A) (i + 1) = sumN (perN A) i + perN A i := rfl
    have hp9 := per_le hW hi
    have hd : (j < sumN (perN A) i) ∨ (sumN (perN A) i + perN A i ≤ j ∧ ¬ j < sumN (perN A) i) ∨ (¬ sumN (perN A) i + perN A i ≤ j ∧ ¬ j < sumN (perN A) i) := by omega
    have hx : tprN A p j (i + 1) = if sumN (perN A) i ≤ j ∧ j < sumN (perN A) (i + 1) then p i else tprN A p j i := rfl
    rcases hd with d | ⟨d, d2⟩ | ⟨d, d2⟩
    · have d3 : ¬ (sumN (perN A) i ≤ j ∧ j < sumN (perN A) (i + 1)) := by omega
      rw [if_neg d3] at hx
      simp (config := { maxSteps := 2000000 }) (disch := omega) only [f171_H27, f171_J91, ux_at, ux_kk, ux_jo, gIm, pIm, pZm, gRm, aIm, sIm, aBm, sBm, gLm, pLm, clm, wshS, obS, reduceIte, Nat.one_ne_zero, Nat.zero_ne_one, Nat.reduceEqDiff, not_true_eq_false, not_false_eq_true, Nat.le_refl, ng_le, ng_lt, ng_nle, ng_nlt, ng_eq, ng_eq2, Bool.false_eq_true, lit_nI, nI_add, pk_mul, nI_leI, nI_ltI, nI_eq, mcA hM2, mcA hM3, wfA hW, hi2, e83, e1, d, t1]
      refine ih _ ⟨hF3.uf (by decide), r1.fr (Fr.rf.uf (j := 47) (F := [47]) (K := []) (by decide)) (by decide) (by decide) (by decide) (by decide), ?_⟩
      rw [ux_if, if_pos rfl, hx]
    · have d3 : ¬ (sumN (perN A) i ≤ j ∧ j < sumN (perN A) (i + 1)) := by omega
      rw [if_neg d3] at hx
      simp (config := { maxSteps := 2000000 }) (disch := omega) only [f171_H27, f171_J91, ux_at, ux_kk, ux_jo, gIm, pIm, pZm, gRm, aIm, sIm, aBm, sBm, gLm, pLm, clm, wshS, obS, reduceIte, Nat.one_ne_zero, Nat.zero_ne_one, Nat.reduceEqDiff, not_true_eq_false, not_false_eq_true, Nat.le_refl, ng_le, ng_lt, ng_nle, ng_nlt, ng_eq, ng_eq2, Bool.false_eq_true, lit_nI, nI_add, pk_mul, nI_leI, nI_ltI, nI_eq, mcA hM2, mcA hM3, wfA hW, hi2, e83, e1, d, d2, t1]
      refine ih _ ⟨hF3.uf (by decide), r1.fr (Fr.rf.uf (j := 47) (F := [47]) (K := []) (by decide)) (by decide) (by decide) (by decide) (by decide), ?_⟩
      rw [ux_if, if_pos rfl, hx]
    · have d3 : sumN (perN A) i ≤ j ∧ j < sumN (perN A) (i + 1) := by omega
      rw [if_pos d3] at hx
      simp (config := { maxSteps := 2000000 }) (disch := omega) only [f171_H27, f171_J91, ux_at, ux_kk, ux_jo, gIm, pIm, pZm, gRm, aIm, sIm, aBm, sBm, gLm, pLm, clm, wshS, obS, reduceIte, Nat.one_ne_zero, Nat.zero_ne_one, Nat.reduceEqDiff, not_true_eq_false, not_false_eq_true, Nat.le_refl, ng_le, ng_lt, ng_nle, ng_nlt, ng_eq, ng_eq2, Bool.false_eq_true, lit_nI, nI_add, pk_mul, nI_leI, nI_ltI, nI_eq, mcA hM2, mcA hM3, wfA hW, hi2, e83, e1, d, d2, e83b]
      refine ih _ ⟨hF3.uf (by decide), r1.fr (Fr.rf.uf (j := 47) (F := [47]) (K := []) (by decide)) (by decide) (by decide) (by decide) (by decide), ?_⟩
      rw [ux_if, if_pos rfl, hx]
theorem s171 (hM : MC I A) (hW : WFs A) {p : Nat → Nat} (hP : PRS I A p) {b : Nat} (hb : b < 64) (h41 : I 67 41 = nI b) {hour : Nat} (hh : hour < 1000) (hn : 6 < n) :
    ∃ I', f171 n 67 (nI hour) (mW I L ru) = some (mW I' L ru) ∧ Fr [85] [45, 46, 47] I I' ∧ RT I' b (EcN A p (nsN A)) ∧ I' 67 47 = pI (tprN A p (turnN A hour) (nsN A)) := by
  obtain ⟨I1, e1, f1, z1, z2, z3, z4⟩ := s55 (I := I) (L := L) (ru := ru) (n := n) (by omega)
  have hM1 := hM.fr f1 (by decide) (by decide) (by decide)
  have h411 : I1 67 41 = nI b := (f1.f (by decide) (by decide)).trans h41
  have hR : RT I1 b [] := ⟨fun v hv => z1 v hv, z2, z3⟩
  obtain ⟨I2, e2, f2, r2, t2⟩ := l171 (L := L) (ru := ru) hM1 hW (hP.fr f1 (by decide)) hb h411 hR z4 (turnN_lt hW (hour := hour)) hn
  have ha := allN_le hW
  refine ⟨I2, ?_, f1.tr f2, r2, t2⟩
  unfold turnN at e2
  by_cases h0 : allN A = 0
  · rw [if_pos h0] at e2
    simp (config := { maxSteps := 2000000 }) (disch := omega) only [f171, f171_J20, ux_at, ux_kk, ux_jo, gIm, pIm, pZm, gRm, aIm, sIm, aBm, sBm, gLm, pLm, clm, wshS, obS, reduceIte, Nat.one_ne_zero, Nat.zero_ne_one, Nat.reduceEqDiff, not_true_eq_false, not_false_eq_true, Nat.le_refl, ng_le, ng_lt, ng_nle, ng_nlt, ng_eq, ng_eq2, Bool.false_eq_true, lit_nI, nI_add, pk_mul, nI_leI, nI_ltI, nI_eq, e1, s50 hM1 hW hn, h0, not_true_eq_false, e2]
  · rw [if_neg h0] at e2
    simp (config := { maxSteps := 2000000 }) (disch := omega) only [f171, f171_J20, ux_at, ux_kk, ux_jo, gIm, pIm, pZm, gRm, aIm, sIm, aBm, sBm, gLm, pLm, clm, wshS, obS, reduceIte, Nat.one_ne_zero, Nat.zero_ne_one, Nat.reduceEqDiff, not_true_eq_false, not_false_eq_true, Nat.le_refl, ng_le, ng_lt, ng_nle, ng_nlt, ng_eq, ng_eq2, Bool.false_eq_true, lit_nI, nI_add, pk_mul, nI_leI, nI_ltI, nI_eq, e1, s50 hM1 hW hn, h0, not_false_eq_true, irm_nI, e2]
end
