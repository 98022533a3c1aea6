/-! RUNS: the reference's lateNext, begin, goHour, runFrom -/
/-- the turn that is done -/
def trnN (A : St) (ρ : Nat → Nat) (g c h d1 k : Nat) : Nat := if unN A c h (ρ 4) = 1 then ρ 3 else if g = 0 then k else d1
/-- what is counted, if 'unless' doesn't say otherwise -/
def ctdN (A : St) (ρ : Nat → Nat) (c h k : Nat) : Nat := if unN A c h (ρ 4) = 1 then 1 else k
abbrev Sh : Type := Nat × Nat × Nat × Nat
/-- an hour: cell, heading, the two late turns (the one due first, the next; 1 where there is none) -/
def hrS (A : St) (ρ : Nat → Nat) (g hour k : Nat) (S : Sh) : Sh :=
  (stpN A S.1 S.2.1 hour (trnN A ρ g S.1 S.2.1 S.2.2.1 k), tuN S.2.1 (trnN A ρ g S.1 S.2.1 S.2.2.1 k), if g = 0 then 1 else if g = 1 then ctdN A ρ S.1 S.2.1 k else S.2.2.2, if g = 2 then ctdN A ρ S.1 S.2.1 k else 1)
def latN (g : Nat) (S : Sh) : Nat := if g = 0 then 0 else if g = 1 then S.2.2.1 else 3 * S.2.2.1 + S.2.2.2
def ShOk (S : Sh) : Prop := S.1 < 64 ∧ S.2.1 < 8 ∧ S.2.2.1 < 3 ∧ S.2.2.2 < 3
theorem trnN_lt {A : St} {ρ : Nat → Nat} (hR : RK ρ) {g c h d1 k : Nat} (hd : d1 < 3) (hk : k < 3) : trnN A ρ g c h d1 k < 3 := by
  unfold trnN
  split
  · exact hR.2.2.2.1
  · split
    · exact hk
    · exact hd
theorem ctdN_lt {A : St} {ρ : Nat → Nat} {c h k : Nat} (hk : k < 3) : ctdN A ρ c h k < 3 := by
  unfold ctdN
  split
  · decide
  · exact hk
theorem hrS_ok {A : St} (hW : WFs A) {ρ : Nat → Nat} (hR : RK ρ) {g hour k : Nat} {S : Sh} (hk : k < 3) (h : ShOk S) : ShOk (hrS A ρ g hour k S) := by
  obtain ⟨h1, h2, h3, h4⟩ := h
  refine ⟨stpN_lt hW h1, tuN_lt _ _, ?_, ?_⟩
  · show (if g = 0 then 1 else if g = 1 then ctdN A ρ S.1 S.2.1 k else S.2.2.2) < 3
    split
    · decide
    · split
      · exact ctdN_lt hk
      · exact h4
  · show (if g = 2 then ctdN A ρ S.1 S.2.1 k else 1) < 3
    split
    · exact ctdN_lt hk
    · decide
section
variable {I A : St} {L : Lt} {ru n : Nat}
/-- the log of a run in the reference's cells, to hour t -/
def RN (I A : St) (g : Nat) (S : Nat → Sh) (T : Nat → Nat) (t : Nat) : Prop :=
  (∀ j, j ≤ t → I 86 j = nI (S j).1 ∧ I 87 j = nI (S j).2.1 ∧ I 88 j = nI (latN g (S j))) ∧ (∀ j, j < t → I 89 j = tI (T j)) ∧ I 67 53 = nI t ∧ I 67 52 = if t ≠ 0 ∧ rkN A (S t).1 = 1 then nI t else -nI 1
theorem RN.fr {I I' : St} {g : Nat} {S : Nat → Sh} {T : Nat → Nat} {t : Nat} (h : RN I A g S T t) {K F : List Nat} (f : Fr K F I I') (h1 : 86 ∉ K) (h2 : 87 ∉ K) (h3 : 88 ∉ K) (h4 : 89 ∉ K) (h0 : 67 ∉ K) (h5 : 52 ∉ F) (h6 : 53 ∉ F) : RN I' A g S T t := by
  have e1 := f.at h1 (by decide)
  have e2 := f.at h2 (by decide)
  have e3 := f.at h3 (by decide)
  have e4 := f.at h4 (by decide)
  refine ⟨fun j hj => ?_, fun j hj => ?_, ?_, ?_⟩
  · rw [e1, e2, e3]; exact h.1 j hj
  · rw [e4]; exact h.2.1 j hj
  · rw [f.f h0 h6]; exact h.2.2.1
  · rw [f.f h0 h5]; exact h.2.2.2
theorem tI_cases {k : Nat} (hk : k < 3) : tI k = -nI 1 ∨ tI k = nI 0 ∨ tI k = nI 1 := by
  rcases k3 hk with rfl | rfl | rfl
  · exact Or.inl tI_0
  · exact Or.inr (Or.inl tI_1)
  · exact Or.inr (Or.inr tI_2)
theorem tI_def (k : Nat) : nI k - nI 1 = tI k := eq_of rfl
/-- lateNext: what is done, what is late -/
theorem s58 {g k : Nat} {S : Sh} (hg : g ≤ 2) (hk : k < 3) (hS : ShOk S) : f58 67 (nI (latN g S)) (nI g) (tI k) (mW I L ru) = some (nI (latN g (S.1, S.2.1, (if g = 0 then 1 else if g = 1 then k else S.2.2.2), if g = 2 then k else 1)), mW (u2 I 67 54 (if g = 0 then tI k else tI S.2.2.1)) L ru) := by
  obtain ⟨-, -, h3, h4⟩ := hS
  generalize hd1 : S.2.2.1 = d1 at *
  generalize hd2 : S.2.2.2 = d2 at *
  have hc : g = 0 ∨ g = 1 ∨ g = 2 := by omega
  rcases hc with rfl | rfl | rfl
  · simp (config := { maxSteps := 2000000 }) (disch := omega) only [f58, ux_at, ux_kk, ux_jo, gIm, pIm, pZm, gRm, aIm, sIm, aBm, sBm, gLm, pLm, clm, wshS, obS, reduceIte, Nat.one_ne_zero, Nat.zero_ne_one, Nat.reduceEqDiff, not_true_eq_false, not_false_eq_true, Nat.le_refl, ng_le, ng_lt, ng_nle, ng_nlt, ng_eq, ng_eq2, Bool.false_eq_true, lit_nI, nI_add, pk_mul, nI_leI, nI_ltI, nI_eq, latN, not_true_eq_false]
  · simp (config := { maxSteps := 2000000 }) (disch := omega) only [f58, f58_J24, ux_at, ux_kk, ux_jo, gIm, pIm, pZm, gRm, aIm, sIm, aBm, sBm, gLm, pLm, clm, wshS, obS, reduceIte, Nat.one_ne_zero, Nat.zero_ne_one, Nat.reduceEqDiff, not_true_eq_false, not_false_eq_true, Nat.le_refl, ng_le, ng_lt, ng_nle, ng_nlt, ng_eq, ng_eq2, Bool.false_eq_true, lit_nI, nI_add, pk_mul, nI_leI, nI_ltI, nI_eq, latN, hd1, Nat.one_ne_zero, not_false_eq_true, Nat.reduceEqDiff, tI_def, tI_p1]
  · have e1 : (3 * d1 + d2) / 3 = d1 := by omega
    have e2 : (3 * d1 + d2) % 3 = d2 := by omega
    have e3 : nI (d2 * 3) + tI k + nI 1 = nI (3 * d2 + k) := by
      rw [Int32.add_assoc, tI_p1, nI_add, Nat.mul_comm]
    simp (config := { maxSteps := 2000000 }) (disch := omega) only [f58, f58_J24, ux_at, ux_kk, ux_jo, gIm, pIm, pZm, gRm, aIm, sIm, aBm, sBm, gLm, pLm, clm, wshS, obS, reduceIte, Nat.one_ne_zero, Nat.zero_ne_one, Nat.reduceEqDiff, not_true_eq_false, not_false_eq_true, Nat.le_refl, ng_le, ng_lt, ng_nle, ng_nlt, ng_eq, ng_eq2, Bool.false_eq_true, lit_nI, nI_add, pk_mul, nI_leI, nI_ltI, nI_eq, latN, hd1, hd2, not_true_eq_false, not_false_eq_true, Nat.reduceEqDiff, pk_div, irm_nI, e1, e2, tI_def, e3]
theorem s57 (hM : MC I A) {g c h : Nat} {S : Nat → Sh} {T : Nat → Nat} (hg : g ≤ 2) (hc : c < 64) (hh : h < 8) (hS : S 0 = (c, h, 1, 1)) : ∃ I', f57 67 (nI c) (nI h) (nI g) (mW I L ru) = some (mW I' L ru) ∧ Fr [86, 87, 88] [52, 53] I I' ∧ RN I' A g S T 0 := by
  have hcs : g = 0 ∨ g = 1 ∨ g = 2 := by omega
  have key : ∀ x, x = latN g (S 0) → ∃ I', some (mW (u2 (u2 (u2 (u2 (u2 I 86 0 (nI c)) 87 0 (nI h)) 88 0 (nI x)) 67 52 (-nI 1)) 67 53 (nI 0)) L ru) = some (mW I' L ru) ∧ Fr [86, 87, 88] [52, 53] I I' ∧ RN I' A g S T 0 := by
    intro x hx
    refine ⟨_, rfl, ((((Fr.rf.u (by decide)).u (by decide)).u (by decide)).uf (by decide)).uf (by decide), fun j hj => ?_, fun j hj => absurd hj (Nat.not_lt_zero _), ?_, ?_⟩
    · rw [show j = 0 by omega, ← hx, hS]
      refine ⟨?_, ?_, ?_⟩ <;> simp (config := { maxSteps := 2000000 }) (disch := omega) only [ux_at, ux_kk, ux_jo]
    · simp (config := { maxSteps := 2000000 }) (disch := omega) only [ux_at, ux_jo]
    · rw [if_neg (fun q => q.1 rfl)]
      simp (config := { maxSteps := 2000000 }) (disch := omega) only [ux_at, ux_jo]
  rcases hcs with rfl | rfl | rfl
  · simp (config := { maxSteps := 2000000 }) (disch := omega) only [f57, f57_J29, ux_at, ux_kk, ux_jo, gIm, pIm, pZm, gRm, aIm, sIm, aBm, sBm, gLm, pLm, clm, wshS, obS, reduceIte, Nat.one_ne_zero, Nat.zero_ne_one, Nat.reduceEqDiff, not_true_eq_false, not_false_eq_true, Nat.le_refl, ng_le, ng_lt, ng_nle, ng_nlt, ng_eq, ng_eq2, Bool.false_eq_true, lit_nI, nI_add, pk_mul, nI_leI, nI_ltI, nI_eq, not_false_eq_true, Nat.reduceEqDiff]
    exact key 0 rfl
  · simp (config := { maxSteps := 2000000 }) (disch := omega) only [f57, f57_J29, ux_at, ux_kk, ux_jo, gIm, pIm, pZm, gRm, aIm, sIm, aBm, sBm, gLm, pLm, clm, wshS, obS, reduceIte, Nat.one_ne_zero, Nat.zero_ne_one, Nat.reduceEqDiff, not_true_eq_false, not_false_eq_true, Nat.le_refl, ng_le, ng_lt, ng_nle, ng_nlt, ng_eq, ng_eq2, Bool.false_eq_true, lit_nI, nI_add, pk_mul, nI_leI, nI_ltI, nI_eq, not_false_eq_true, Nat.reduceEqDiff]
    exact key 1 (by rw [hS]; rfl)
  · simp (config := { maxSteps := 2000000 }) (disch := omega) only [f57, f57_J29, ux_at, ux_kk, ux_jo, gIm, pIm, pZm, gRm, aIm, sIm, aBm, sBm, gLm, pLm, clm, wshS, obS, reduceIte, Nat.one_ne_zero, Nat.zero_ne_one, Nat.reduceEqDiff, not_true_eq_false, not_false_eq_true, Nat.le_refl, ng_le, ng_lt, ng_nle, ng_nlt, ng_eq, ng_eq2, Bool.false_eq_true, lit_nI, nI_add, pk_mul, nI_leI, nI_ltI, nI_eq, not_true_eq_false]
    exact key 4 (by rw [hS]; rfl)
theorem s194 (hM : MC I A) (hW : WFs A) {ρ : Nat → Nat} (hside : I 67 42 = tI (ρ 3)) (hR : RK ρ) {g t k : Nat} {S : Nat → Sh} {T : Nat → Nat} (hg : g ≤ 2) (ht : t < 400) (hk : k < 3) (hN : RN I A g S T t) (hO : ShOk (S t)) (hS : S (t + 1) = hrS A ρ g t k (S t)) (hT : T t = trnN A ρ g (S t).1 (S t).2.1 (S t).2.2.1 k) :
    ∃ I', f194 67 (tI k) (nI (unN A (S t).1 (S t).2.1 (ρ 4))) (nI g) (mW I L ru) = some (mW I' L ru) ∧ Fr [86, 87, 88, 89] [52, 53, 54] I I' ∧ RN I' A g S T (t + 1) := by
  obtain ⟨r1, r2, r3, r4⟩ := hN
  obtain ⟨c1, c2, c3⟩ := r1 t (Nat.le_refl _)
  obtain ⟨o1, o2, o3, o4⟩ := hO
  have hu := unN_le hW o1 o2 (ρ 4)
  have hts : trnN A ρ g (S t).1 (S t).2.1 (S t).2.2.1 k < 3 := trnN_lt hR o3 hk
  have hst := stpN_lt hW o1 (h := (S t).2.1) (hour := t) (k := trnN A ρ g (S t).1 (S t).2.1 (S t).2.2.1 k)
  have e1 : (S (t + 1)).1 = stpN A (S t).1 (S t).2.1 t (trnN A ρ g (S t).1 (S t).2.1 (S t).2.2.1 k) := by rw [hS]; rfl
  have e2 : (S (t + 1)).2.1 = tuN (S t).2.1 (trnN A ρ g (S t).1 (S t).2.1 (S t).2.2.1 k) := by rw [hS]; rfl
  have e3 : latN g (S (t + 1)) = latN g ((S t).1, (S t).2.1, (if g = 0 then 1 else if g = 1 then ctdN A ρ (S t).1 (S t).2.1 k else (S t).2.2.2), if g = 2 then ctdN A ρ (S t).1 (S t).2.1 k else 1) := by rw [hS]; rfl
  have hrk := rk_le hW hst
  have hMx : ∀ x y, MC (u2 (u2 I 67 54 x) 89 t y) A := fun x y => hM.fr ((Fr.rf.uf (F := [54]) (by decide)).u (K := [89]) (by decide)) (by decide) (by decide) (by decide)
  have s58' := fun k hk => s58 (I := I) (L := L) (ru := ru) (g := g) (k := k) (S := S t) hg hk ⟨o1, o2, o3, o4⟩
  -- behind the step, whatever it was
  have fin : ∀ I1 : St, I1 = u2 (u2 (u2 (u2 (u2 (u2 I 67 54 (if g = 0 then tI (ctdN A ρ (S t).1 (S t).2.1 k) else tI (S t).2.2.1)) 89 t (tI (T t))) 86 (t + 1) (nI (S (t + 1)).1)) 87 (t + 1) (nI (S (t + 1)).2.1)) 88 (t + 1) (nI (latN g (S (t + 1))))) 67 53 (nI (t + 1)) → ∀ v, v = (if rkN A (S (t + 1)).1 = 1 then nI (t + 1) else -nI 1) → ∃ I', some (mW (u2 I1 67 52 v) L ru) = some (mW I' L ru) ∧ Fr [86, 87, 88, 89] [52, 53, 54] I I' ∧ RN I' A g S T (t + 1) := by
    intro I1 hI1 v hv
    subst hI1
    refine ⟨_, rfl, ((((((Fr.rf.uf (by decide)).u (by decide)).u (by decide)).u (by decide)).u (by decide)).uf (by decide)).uf (by decide), fun j hj => ?_, fun j hj => ?_, ?_, ?_⟩
    · simp (config := { maxSteps := 2000000 }) (disch := omega) only [ux_kk, ux_if]
      by_cases q : j = t + 1
      · simp only [q, reduceIte, and_self]
      · simp only [q, reduceIte]
        exact r1 j (by omega)
    · simp (config := { maxSteps := 2000000 }) (disch := omega) only [ux_kk, ux_if]
      by_cases q : j = t
      · simp only [q, reduceIte]
      · simp only [q, reduceIte]
        exact r2 j (by omega)
    · simp (config := { maxSteps := 2000000 }) (disch := omega) only [ux_at, ux_jo]
    · rw [ux_at, hv]
      by_cases q : rkN A (S (t + 1)).1 = 1
      · rw [if_pos q, if_pos ⟨by omega, q⟩]
      · rw [if_neg q, if_neg (fun z => q z.2)]
  rcases one_or hu with u | u
  · have d1 : ctdN A ρ (S t).1 (S t).2.1 k = k := by unfold ctdN; rw [u]; rfl
    have d2 : T t = if g = 0 then k else (S t).2.2.1 := by rw [hT]; unfold trnN; rw [u]; rfl
    have d3 : (if g = 0 then tI k else tI (S t).2.2.1) = tI (T t) := by rw [d2]; split <;> rfl
    have hT3 : T t < 3 := by rw [hT]; exact hts
    rw [d1] at e3
    rw [d1, d3, e3] at fin
    have s5 := s58' k hk
    rw [d3] at s5
    rw [← hT] at e1 e2 hst hts hrk
    rcases one_or hrk with q | q
    · obtain ⟨I', h1, h2⟩ := fin _ rfl (-nI 1) (by rw [e1, q]; rfl)
      refine ⟨I', Eq.trans ?_ h1, h2⟩
      simp (config := { maxSteps := 2000000 }) (disch := omega) only [f194, f194_J42, f194_J62, ux_at, ux_kk, ux_jo, gIm, pIm, pZm, gRm, aIm, sIm, aBm, sBm, gLm, pLm, clm, wshS, obS, reduceIte, Nat.one_ne_zero, Nat.zero_ne_one, Nat.reduceEqDiff, not_true_eq_false, not_false_eq_true, Nat.le_refl, ng_le, ng_lt, ng_nle, ng_nlt, ng_eq, ng_eq2, Bool.false_eq_true, lit_nI, nI_add, pk_mul, nI_leI, nI_ltI, nI_eq, mcA hM, wfA hW, r3, c1, c2, c3, u, s5, e1, e2, s166 (hMx _ _) hW, s51, q]
    · obtain ⟨I', h1, h2⟩ := fin _ rfl (nI (t + 1)) (by rw [e1, q]; rfl)
      refine ⟨I', Eq.trans ?_ h1, h2⟩
      simp (config := { maxSteps := 2000000 }) (disch := omega) only [f194, f194_J42, f194_J62, ux_at, ux_kk, ux_jo, gIm, pIm, pZm, gRm, aIm, sIm, aBm, sBm, gLm, pLm, clm, wshS, obS, reduceIte, Nat.one_ne_zero, Nat.zero_ne_one, Nat.reduceEqDiff, not_true_eq_false, not_false_eq_true, Nat.le_refl, ng_le, ng_lt, ng_nle, ng_nlt, ng_eq, ng_eq2, Bool.false_eq_true, lit_nI, nI_add, pk_mul, nI_leI, nI_ltI, nI_eq, mcA hM, wfA hW, r3, c1, c2, c3, u, s5, e1, e2, s166 (hMx _ _) hW, s51, q]
  · have d1 : ctdN A ρ (S t).1 (S t).2.1 k = 1 := by unfold ctdN; rw [u]; rfl
    have d2 : T t = ρ 3 := by rw [hT]; unfold trnN; rw [u]; rfl
    have hT3 : T t < 3 := by rw [hT]; exact hts
    rw [d1] at e3
    rw [d1, e3] at fin
    have s5 := s58' 1 (by decide)
    rw [tI_1] at s5
    rw [← hT] at e1 e2 hst hts hrk
    rw [← d2] at hside
    generalize hx : (if g = 0 then tI 1 else tI (S t).2.2.1) = x at fin
    rw [tI_1] at hx
    rw [hx] at s5
    rcases one_or hrk with q | q
    · obtain ⟨I', h1, h2⟩ := fin _ rfl (-nI 1) (by rw [e1, q]; rfl)
      refine ⟨I', Eq.trans ?_ h1, h2⟩
      simp (config := { maxSteps := 2000000 }) (disch := omega) only [f194, f194_J42, f194_J62, ux_at, ux_kk, ux_jo, gIm, pIm, pZm, gRm, aIm, sIm, aBm, sBm, gLm, pLm, clm, wshS, obS, reduceIte, Nat.one_ne_zero, Nat.zero_ne_one, Nat.reduceEqDiff, not_true_eq_false, not_false_eq_true, Nat.le_refl, ng_le, ng_lt, ng_nle, ng_nlt, ng_eq, ng_eq2, Bool.false_eq_true, lit_nI, nI_add, pk_mul, nI_leI, nI_ltI, nI_eq, mcA hM, wfA hW, r3, c1, c2, c3, u, s5, e1, e2, s166 (hMx _ _) hW, s51, q, hside, Nat.one_ne_zero]
    · obtain ⟨I', h1, h2⟩ := fin _ rfl (nI (t + 1)) (by rw [e1, q]; rfl)
      refine ⟨I', Eq.trans ?_ h1, h2⟩
      simp (config := { maxSteps := 2000000 }) (disch := omega) only [f194, f194_J42, f194_J62, ux_at, ux_kk, ux_jo, gIm, pIm, pZm, gRm, aIm, sIm, aBm, sBm, gLm, pLm, clm, wshS, obS, reduceIte, Nat.one_ne_zero, Nat.zero_ne_one, Nat.reduceEqDiff, not_true_eq_false, not_false_eq_true, Nat.le_refl, ng_le, ng_lt, ng_nle, ng_nlt, ng_eq, ng_eq2, Bool.false_eq_true, lit_nI, nI_add, pk_mul, nI_leI, nI_ltI, nI_eq, mcA hM, wfA hW, r3, c1, c2, c3, u, s5, e1, e2, s166 (hMx _ _) hW, s51, q, hside, Nat.one_ne_zero]
/-- how many hours are gone, of at most m, if she ends on a rock -/
def gonN (A : St) (S : Nat → Sh) : Nat → Nat
  | 0 => 0
  | m + 1 => if gonN A S m = m ∧ rkN A (S m).1 = 0 then m + 1 else gonN A S m
theorem gonN_le (A : St) (S : Nat → Sh) : ∀ m, gonN A S m ≤ m
  | 0 => Nat.le_refl _
  | m + 1 => by
    unfold gonN
    split
    · exact Nat.le_refl _
    · have := gonN_le A S m
      omega
/-- on the way: nothing struck yet -/
theorem gonN_go {A : St} {S : Nat → Sh} {m : Nat} (h : gonN A S m = m) (hr : rkN A (S m).1 = 0) : gonN A S (m + 1) = m + 1 := if_pos ⟨h, hr⟩
/-- struck: it stays -/
theorem gonN_stop {A : St} {S : Nat → Sh} {m : Nat} (h : gonN A S m = m) (hr : ¬ rkN A (S m).1 = 0) : ∀ d, gonN A S (m + d) = m
  | 0 => h
  | d + 1 => by
    have ih := gonN_stop h hr d
    show (if gonN A S (m + d) = m + d ∧ rkN A (S (m + d)).1 = 0 then m + d + 1 else gonN A S (m + d)) = m
    rw [ih, if_neg]
    rintro ⟨q, q2⟩
    have : d = 0 := by omega
    subst this
    exact hr q2
/-- a run by a rule -/
def rnS (A : St) (ρ : Nat → Nat) (g c h : Nat) : Nat → Sh
  | 0 => (c, h, 1, 1)
  | t + 1 => hrS A ρ g t (cntN A ρ (prsN A (rnS A ρ g c h t).1 (rnS A ρ g c h t).2.1) t) (rnS A ρ g c h t)
def rnT (A : St) (ρ : Nat → Nat) (g c h t : Nat) : Nat := trnN A ρ g (rnS A ρ g c h t).1 (rnS A ρ g c h t).2.1 (rnS A ρ g c h t).2.2.1 (cntN A ρ (prsN A (rnS A ρ g c h t).1 (rnS A ρ g c h t).2.1) t)
theorem rnS_ok {A : St} (hW : WFs A) {ρ : Nat → Nat} (hR : RK ρ) {g c h : Nat} (hc : c < 64) (hh : h < 8) : ∀ t, ShOk (rnS A ρ g c h t)
  | 0 => ⟨hc, hh, by show 1 < 3; decide, by show 1 < 3; decide⟩
  | t + 1 => hrS_ok hW hR (cntN_lt _ _ _ _) (rnS_ok hW hR hc hh t)
theorem hrS_un {A : St} {ρ : Nat → Nat} {g hour k k' : Nat} {S : Sh} (h : unN A S.1 S.2.1 (ρ 4) = 1) : hrS A ρ g hour k S = hrS A ρ g hour k' S := by
  unfold hrS trnN ctdN
  simp only [h, reduceIte]
theorem trnN_un {A : St} {ρ : Nat → Nat} {g c h d1 k k' : Nat} (hu : unN A c h (ρ 4) = 1) : trnN A ρ g c h d1 k = trnN A ρ g c h d1 k' := by
  unfold trnN
  simp only [hu, reduceIte]
theorem s228 (hM : MC I A) (hW : WF A) {f : Nat} (hC : CF f I A) {ρ : Nat → Nat} (hU : RU I ρ) (hR : RK ρ) {g c h hours : Nat} (hg : g ≤ 2) (hc : c < 64) (hh : h < 8) (hr0 : rkN A c = 0) (ho : hours ≤ 400) (hn : 500 < n) :
    ∃ I', f228 n 67 (nI c) (nI h) (nI hours) (nI g) (mW I L ru) = some (mW I' L ru) ∧ Fr [82, 83, 85, 86, 87, 88, 89] [34, 45, 46, 47, 52, 53, 54] I I' ∧ CF f I' A ∧ RN I' A g (rnS A ρ g c h) (rnT A ρ g c h) (gonN A (rnS A ρ g c h) hours) := by
  generalize hS : rnS A ρ g c h = S
  generalize hT : rnT A ρ g c h = T
  have hSo : ∀ t, ShOk (S t) := fun t => by rw [← hS]; exact rnS_ok hW.1 hR hc hh t
  have hS1 : ∀ t, S (t + 1) = hrS A ρ g t (cntN A ρ (prsN A (S t).1 (S t).2.1) t) (S t) := fun t => by rw [← hS]; rfl
  have hT1 : ∀ t, T t = trnN A ρ g (S t).1 (S t).2.1 (S t).2.2.1 (cntN A ρ (prsN A (S t).1 (S t).2.1) t) := fun t => by rw [← hS, ← hT]; rfl
  have hS0 : S 0 = (c, h, 1, 1) := by rw [← hS]; rfl
  obtain ⟨I1, e1, f1, r1⟩ := s57 (L := L) (ru := ru) (S := S) (T := T) hM hg hc hh hS0
  simp (config := { maxSteps := 2000000 }) (disch := omega) only [f228, ux_at, ux_kk, ux_jo, gIm, pIm, pZm, gRm, aIm, sIm, aBm, sBm, gLm, pLm, clm, wshS, obS, reduceIte, e1]
  have K7 : ∀ k, k ∈ ([86, 87, 88] : List Nat) → k ∈ ([82, 83, 85, 86, 87, 88, 89] : List Nat) := by decide
  refine lpP (F := fun k t J => f228_H8 n (fun w => some w) k 67 (nI hours) (nI g) (mW J L ru)) (P := fun x => ∃ I', x = some (mW I' L ru) ∧ Fr [82, 83, 85, 86, 87, 88, 89] [34, 45, 46, 47, 52, 53, 54] I I' ∧ CF f I' A ∧ RN I' A g S T (gonN A S hours)) (J := fun t J => Fr [82, 83, 85, 86, 87, 88, 89] [34, 45, 46, 47, 52, 53, 54] I J ∧ CF f J A ∧ RN J A g S T t ∧ gonN A S t = t) hours ?_ ?_ n 0 I1 (by omega) (by omega) ⟨f1.mono K7 (by decide), ?_, r1, rfl⟩
  · rintro k J ⟨j1, j2, j3, j4⟩
    have r3 := j3.2.2.1
    simp (config := { maxSteps := 2000000 }) (disch := omega) only [f228_H8, ux_at, ux_kk, ux_jo, gIm, pIm, pZm, gRm, aIm, sIm, aBm, sBm, gLm, pLm, clm, wshS, obS, reduceIte, Nat.one_ne_zero, Nat.zero_ne_one, Nat.reduceEqDiff, not_true_eq_false, not_false_eq_true, Nat.le_refl, ng_le, ng_lt, ng_nle, ng_nlt, ng_eq, ng_eq2, Bool.false_eq_true, lit_nI, nI_add, pk_mul, nI_leI, nI_ltI, nI_eq, r3, Nat.le_refl]
    refine ⟨J, rfl, j1, j2, ?_⟩
    rw [j4]
    exact j3
  · rintro k t J ht ⟨j1, j2, j3, j4⟩ ih
    have ht2 : ¬ hours ≤ t := by omega
    have hM2 := hM.fr j1 (by decide) (by decide) (by decide)
    have hU2 := hU.fr j1 (by decide) (by decide) (by decide) (by decide) (by decide) (by decide)
    obtain ⟨o1, o2, o3, o4⟩ := hSo t
    obtain ⟨c1, c2, c3⟩ := j3.1 t (Nat.le_refl _)
    have r3 := j3.2.2.1
    have r4 := j3.2.2.2
    have hu := unN_le hW.1 o1 o2 (ρ 4)
    have hs170 := s170 (n := n) (L := L) (ru := ru) hM2 hW.1 hU2 hR o1 o2 (by omega)
    rcases one_or (rk_le hW.1 o1) with rk | rk
    · have st0 : J 67 52 = -nI 1 := by rw [r4, if_neg (fun z => by have := z.2; omega)]
      have hg2 := gonN_go j4 rk
      rcases one_or hu with u | u
      · obtain ⟨J1, e2, f2, c5⟩ := s214 (L := L) (ru := ru) (n := n) (hour := t) hM2 hW j2 hU2 hR o1 o2 rk (by omega) (by omega)
        have hM3 := hM2.fr f2 (by decide) (by decide) (by decide)
        have hU3 := hU2.fr f2 (by decide) (by decide) (by decide) (by decide) (by decide) (by decide)
        have j5 := j3.fr f2 (by decide) (by decide) (by decide) (by decide) (by decide) (by decide) (by decide)
        obtain ⟨J2, e3, f3, r5⟩ := s194 (L := L) (ru := ru) hM3 hW.1 hU3.2.2.2.1 hR hg (show t < 400 by omega) (cntN_lt A ρ (prsN A (S t).1 (S t).2.1) t) j5 (hSo t) (hS1 t) (hT1 t)
        rw [u] at e3
        simp (config := { maxSteps := 2000000 }) (disch := omega) only [f228_H8, f228_J83, ux_at, ux_kk, ux_jo, gIm, pIm, pZm, gRm, aIm, sIm, aBm, sBm, gLm, pLm, clm, wshS, obS, reduceIte, Nat.one_ne_zero, Nat.zero_ne_one, Nat.reduceEqDiff, not_true_eq_false, not_false_eq_true, Nat.le_refl, ng_le, ng_lt, ng_nle, ng_nlt, ng_eq, ng_eq2, Bool.false_eq_true, lit_nI, nI_add, pk_mul, nI_leI, nI_ltI, nI_eq, r3, st0, ht2, c1, c2, hs170, u, e2, e3]
        refine ih J2 ⟨j1.tr ((f2.mono (by decide) (by decide)).tr (f3.mono (by decide) (by decide))), ?_, r5, hg2⟩
        exact c5.fr f3 (by decide) (by decide) (by decide)
      · obtain ⟨J2, e3, f3, r5⟩ := s194 (L := L) (ru := ru) hM2 hW.1 hU2.2.2.2.1 hR hg (show t < 400 by omega) (show 1 < 3 by decide) j3 (hSo t) ((hS1 t).trans (hrS_un u)) ((hT1 t).trans (trnN_un u))
        rw [u, tI_1] at e3
        simp (config := { maxSteps := 2000000 }) (disch := omega) only [f228_H8, f228_J83, ux_at, ux_kk, ux_jo, gIm, pIm, pZm, gRm, aIm, sIm, aBm, sBm, gLm, pLm, clm, wshS, obS, reduceIte, Nat.one_ne_zero, Nat.zero_ne_one, Nat.reduceEqDiff, not_true_eq_false, not_false_eq_true, Nat.le_refl, ng_le, ng_lt, ng_nle, ng_nlt, ng_eq, ng_eq2, Bool.false_eq_true, lit_nI, nI_add, pk_mul, nI_leI, nI_ltI, nI_eq, r3, st0, ht2, c1, c2, hs170, u, e3, Nat.one_ne_zero]
        refine ih J2 ⟨j1.tr (f3.mono (by decide) (by decide)), ?_, r5, hg2⟩
        exact j2.fr f3 (by decide) (by decide) (by decide)
    · have hstop := gonN_stop j4 (show ¬ rkN A (S t).1 = 0 by omega) (hours - t)
      rw [show t + (hours - t) = hours by omega] at hstop
      by_cases t0 : t = 0
      · rw [t0, hS0] at rk
        have rk : rkN A c = 1 := rk
        omega
      · have st1 : J 67 52 = nI t := by rw [r4, if_pos ⟨t0, rk⟩]
        simp (config := { maxSteps := 2000000 }) (disch := omega) only [f228_H8, ux_at, ux_kk, ux_jo, gIm, pIm, pZm, gRm, aIm, sIm, aBm, sBm, gLm, pLm, clm, wshS, obS, reduceIte, Nat.one_ne_zero, Nat.zero_ne_one, Nat.reduceEqDiff, not_true_eq_false, not_false_eq_true, Nat.le_refl, ng_le, ng_lt, ng_nle, ng_nlt, ng_eq, ng_eq2, Bool.false_eq_true, lit_nI, nI_add, pk_mul, nI_leI, nI_ltI, nI_eq, r3, st1, ht2, Nat.zero_le]
        refine ⟨J, rfl, j1, j2, ?_⟩
        rw [hstop]
        exact j3
  · exact hC.fr f1 (by decide) (by decide) (by decide)
end
