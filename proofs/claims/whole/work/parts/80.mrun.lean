/-! THE REFERENCE'S CALLS THAT SAIL: counted, run, at, comes, judge, value, sides -/
abbrev scK : List Nat := [82, 83, 85, 86, 87, 88, 89, 91, 92]
abbrev scF : List Nat := [34, 39, 40, 41, 42, 43, 45, 46, 47, 52, 53, 54, 55]
/-- a call that only looks: the reference's scratch has changed, the table of presses is well -/
def Qm (A I I' : St) : Prop := Fr scK scF I I' ∧ CA I' A
theorem CA.fr {I I' A : St} (h : CA I A) {K F : List Nat} (f : Fr K F I I') (hK : 82 ∉ K) (h67 : 67 ∉ K) (hF : 34 ∉ F) : CA I' A := by
  rcases h with h | ⟨h, h2⟩
  · exact Or.inl ((f.f h67 hF).trans h)
  · exact Or.inr ⟨(f.f h67 hF).trans h, DN.fr h2 f hK⟩
theorem Qm.MC {A I I' : St} (h : Qm A I I') (hM : MC I A) : MC I' A := hM.fr h.1 (by decide) (by decide) (by decide)
/-- what she has done of struck: the hour; -1 -/
def strI (A : St) (S : Nat → Sh) (G : Nat) : Int32 := if G ≠ 0 ∧ rkN A (S G).1 = 1 then nI G else -nI 1
/-- the answer of run, what 1 and 2 -/
def rndI (A : St) (S : Nat → Sh) (G what : Nat) (r : Int32) : Prop :=
  ((G ≠ 0 ∧ rkN A (S G).1 = 1) ∧ r = -nI 1) ∨ (¬ (G ≠ 0 ∧ rkN A (S G).1 = 1) ∧ ((RDn S (prdN A) G ∧ r = -nI 1) ∨ ∃ t j, RDy S (prdN A) G t j ∧ r = if what = 1 then nI t else nI (j * prdN A)))
theorem RDy.uniq {S : Nat → Sh} {b G t j t' j' : Nat} (h : RDy S b G t j) (h' : RDy S b G t' j') : t = t' ∧ j = j' := by
  obtain ⟨-, h1, h2, h3⟩ := h
  obtain ⟨-, k1, k2, k3⟩ := h'
  have e : t = t' := by
    rcases Nat.lt_trichotomy t t' with q | q | q
    · exact absurd h1 (k2 t q j)
    · exact q
    · exact absurd k1 (h2 t' q j')
  subst e
  refine ⟨rfl, ?_⟩
  rcases Nat.lt_trichotomy j j' with q | q | q
  · exact absurd h1 (k3 j q)
  · exact q
  · exact absurd k1 (h3 j' q)
theorem rndI.uniq {A : St} {S : Nat → Sh} {G what : Nat} {r r' : Int32} (h : rndI A S G what r) (h' : rndI A S G what r') : r = r' := by
  rcases h with ⟨h, rfl⟩ | ⟨h, ⟨h1, rfl⟩ | ⟨t, j, h1, rfl⟩⟩ <;> rcases h' with ⟨k, rfl⟩ | ⟨k, ⟨k1, rfl⟩ | ⟨t', j', k1, rfl⟩⟩
  all_goals first | rfl | exact absurd h k | exact absurd k h | skip
  · exact absurd k1.2.1 (h1 t' k1.1 j')
  · exact absurd h1.2.1 (k1 t h1.1 j)
  · obtain ⟨rfl, rfl⟩ := h1.uniq k1
    rfl
section
variable {I A : St} {L : Lt} {ru n : Nat}
theorem lag_ok (hW : WFs A) : lagN A ≤ 2 := hW.2.2.2.2.1.2
theorem ship_ok (hW : WFs A) : shN A < 64 ∧ hdN A < 8 ∧ rkN A (shN A) = 0 := ⟨hW.2.1.2, hW.2.2.1.2, hW.2.2.2.2.2.2.2.1⟩
theorem s244 (hM : MC I A) (hW : WF A) (hC : CA I A) {r : Nat} (hr : r < nrN A) (hn : 600 < n) :
    ∃ I', f244 n 67 (nI r) (mW I L ru) = some (mW I' L ru) ∧ Qm A I I' ∧ RN I' A (lagN A) (shS A (ruN A r) (lagN A)) (rnT A (ruN A r) (lagN A) (shN A) (hdN A)) (gonN A (shS A (ruN A r) (lagN A)) 400) := by
  obtain ⟨I1, e1, f1, u1⟩ := s54 (L := L) (ru := ru) hM hW.2 hr
  have hM1 := hM.fr f1 (by decide) (by decide) (by decide)
  have hC1 := hC.fr f1 (by decide) (by decide) (by decide)
  obtain ⟨o1, o2, o3⟩ := ship_ok hW.1
  obtain ⟨I2, e2, f2, c2, r2⟩ := s228 (L := L) (ru := ru) (hours := 400) hM1 hW hC1.cf u1 (ruN_at hW.2 hr).1 (lag_ok hW.1) o1 o2 o3 (by decide) (show 500 < n by omega)
  refine ⟨I2, ?_, ⟨(f1.mono (by decide) (by decide)).tr (f2.mono (by decide) (by decide)), c2.ca⟩, r2⟩
  simp (config := { maxSteps := 2000000 }) (disch := omega) only [f244, ux_at, ux_kk, ux_jo, gIm, pIm, pZm, gRm, aIm, sIm, aBm, sBm, gLm, pLm, clm, wshS, obS, reduceIte, Nat.one_ne_zero, Nat.zero_ne_one, Nat.reduceEqDiff, not_true_eq_false, not_false_eq_true, Nat.le_refl, ng_le, ng_lt, ng_nle, ng_nlt, ng_eq, ng_eq2, Bool.false_eq_true, lit_nI, nI_add, pk_mul, nI_leI, nI_ltI, nI_eq, mcA hM1, wfA hW.1, e1, e2]
theorem shS_ok (hW : WF A) {r : Nat} (hr : r < nrN A) (t : Nat) : ShOk (shS A (ruN A r) (lagN A) t) := by
  obtain ⟨o1, o2, -⟩ := ship_ok hW.1
  exact rnS_ok hW.1 (ruN_at hW.2 hr).1 o1 o2 t
/-- counted -/
theorem m227 (hM : MC I A) (hW : WF A) (hC : CA I A) {r c h hour : Nat} (hr : r < nrN A) (hc : c < 64) (hh : h < 8) (ho : hour < 1000) (hrk : rkN A c = 0) (hn : 600 < n) :
    ∃ I', f227 n 67 (nI r) (nI c) (nI h) (nI hour) (mW I L ru) = some (tI (if unN A c h (ruN A r 4) = 1 then ruN A r 3 else cntN A (ruN A r) (prsN A c h) hour), mW I' L ru) ∧ Qm A I I' := by
  obtain ⟨I1, e1, f1, u1⟩ := s54 (L := L) (ru := ru) hM hW.2 hr
  have hM1 := hM.fr f1 (by decide) (by decide) (by decide)
  have hC1 := hC.fr f1 (by decide) (by decide) (by decide)
  have hR := (ruN_at hW.2 hr).1
  have e2 := s170 (L := L) (ru := ru) (n := n) hM1 hW.1 u1 hR hc hh (by omega)
  rcases one_or (unN_le hW.1 hc hh (ruN A r 4)) with u | u
  · obtain ⟨I2, e3, f3, c3⟩ := s214 (L := L) (ru := ru) (n := n) hM1 hW hC1.cf u1 hR hc hh hrk ho (by omega)
    refine ⟨I2, ?_, (f1.mono (by decide) (by decide)).tr (f3.mono (by decide) (by decide)), c3.ca⟩
    simp (config := { maxSteps := 2000000 }) (disch := omega) only [f227, ux_at, ux_kk, ux_jo, gIm, pIm, pZm, gRm, aIm, sIm, aBm, sBm, gLm, pLm, clm, wshS, obS, reduceIte, Nat.one_ne_zero, Nat.zero_ne_one, Nat.reduceEqDiff, not_true_eq_false, not_false_eq_true, Nat.le_refl, ng_le, ng_lt, ng_nle, ng_nlt, ng_eq, ng_eq2, Bool.false_eq_true, lit_nI, nI_add, pk_mul, nI_leI, nI_ltI, nI_eq, lit_lN, mcA hM, wfA hW.1, s126 hM hW.2 hr, s118, s122, s40i, hrk, e1, e2, u, e3]
  · refine ⟨I1, ?_, f1.mono (by decide) (by decide), hC1⟩
    simp (config := { maxSteps := 2000000 }) (disch := omega) only [f227, ux_at, ux_kk, ux_jo, gIm, pIm, pZm, gRm, aIm, sIm, aBm, sBm, gLm, pLm, clm, wshS, obS, reduceIte, Nat.one_ne_zero, Nat.zero_ne_one, Nat.reduceEqDiff, not_true_eq_false, not_false_eq_true, Nat.le_refl, ng_le, ng_lt, ng_nle, ng_nlt, ng_eq, ng_eq2, Bool.false_eq_true, lit_nI, nI_add, pk_mul, nI_leI, nI_ltI, nI_eq, lit_lN, mcA hM, wfA hW.1, s126 hM hW.2 hr, s118, s122, s40i, hrk, e1, e2, u, u1.2.2.2.1]
/-- run -/
theorem m248 (hM : MC I A) (hW : WF A) (hC : CA I A) {r what : Nat} (hr : r < nrN A) (hw : what ≤ 2) (hn : 600 < n) :
    ∃ I' x, f248 n 67 (nI r) (nI what) (mW I L ru) = some (x, mW I' L ru) ∧ Qm A I I' ∧ (what = 0 → x = strI A (shS A (ruN A r) (lagN A)) (gonN A (shS A (ruN A r) (lagN A)) 400)) ∧ (what ≠ 0 → rndI A (shS A (ruN A r) (lagN A)) (gonN A (shS A (ruN A r) (lagN A)) 400) what x) := by
  obtain ⟨I1, e1, q1, r1⟩ := s244 (L := L) (ru := ru) hM hW hC hr hn
  have hM1 := q1.MC hM
  have hG := gonN_le A (shS A (ruN A r) (lagN A)) 400
  have st := r1.2.2.2
  by_cases hs : gonN A (shS A (ruN A r) (lagN A)) 400 ≠ 0 ∧ rkN A (shS A (ruN A r) (lagN A) (gonN A (shS A (ruN A r) (lagN A)) 400)).1 = 1
  · have e2 := s173s (L := L) (ru := ru) (n := n) hM1 hW.1 r1 hG hs (by omega)
    have hc : what = 0 ∨ what = 1 ∨ what = 2 := by omega
    rcases hc with rfl | rfl | rfl
    · refine ⟨I1, strI A (shS A (ruN A r) (lagN A)) (gonN A (shS A (ruN A r) (lagN A)) 400), ?_, q1, fun _ => rfl, fun q => absurd rfl q⟩
      simp (config := { maxSteps := 2000000 }) (disch := omega) only [f248, ux_at, ux_kk, ux_jo, gIm, pIm, pZm, gRm, aIm, sIm, aBm, sBm, gLm, pLm, clm, wshS, obS, reduceIte, Nat.one_ne_zero, Nat.zero_ne_one, Nat.reduceEqDiff, not_true_eq_false, not_false_eq_true, Nat.le_refl, ng_le, ng_lt, ng_nle, ng_nlt, ng_eq, ng_eq2, Bool.false_eq_true, lit_nI, nI_add, pk_mul, nI_leI, nI_ltI, nI_eq, lit_lN, s126 hM hW.2 hr, s40i, e1, e2]
      rw [st]
      rfl
    · refine ⟨I1, -nI 1, ?_, q1, fun q => absurd q (by decide), fun _ => Or.inl ⟨hs, rfl⟩⟩
      simp (config := { maxSteps := 2000000 }) (disch := omega) only [f248, ux_at, ux_kk, ux_jo, gIm, pIm, pZm, gRm, aIm, sIm, aBm, sBm, gLm, pLm, clm, wshS, obS, reduceIte, Nat.one_ne_zero, Nat.zero_ne_one, Nat.reduceEqDiff, not_true_eq_false, not_false_eq_true, Nat.le_refl, ng_le, ng_lt, ng_nle, ng_nlt, ng_eq, ng_eq2, Bool.false_eq_true, lit_nI, nI_add, pk_mul, nI_leI, nI_ltI, nI_eq, lit_lN, s126 hM hW.2 hr, s40i, e1, e2]
    · refine ⟨I1, -nI 1, ?_, q1, fun q => absurd q (by decide), fun _ => Or.inl ⟨hs, rfl⟩⟩
      simp (config := { maxSteps := 2000000 }) (disch := omega) only [f248, ux_at, ux_kk, ux_jo, gIm, pIm, pZm, gRm, aIm, sIm, aBm, sBm, gLm, pLm, clm, wshS, obS, reduceIte, Nat.one_ne_zero, Nat.zero_ne_one, Nat.reduceEqDiff, not_true_eq_false, not_false_eq_true, Nat.le_refl, ng_le, ng_lt, ng_nle, ng_nlt, ng_eq, ng_eq2, Bool.false_eq_true, lit_nI, nI_add, pk_mul, nI_leI, nI_ltI, nI_eq, lit_lN, s126 hM hW.2 hr, s40i, e1, e2]
  · rcases s173 (L := L) (ru := ru) (n := n) hM1 hW.1 r1 (lag_ok hW.1) (fun t => shS_ok hW hr t) (fun t => rnS_lt t) hG hs (by omega) with ⟨d, e2⟩ | ⟨t, j, d, e2⟩
    · have hc : what = 0 ∨ what = 1 ∨ what = 2 := by omega
      rcases hc with rfl | rfl | rfl
      · refine ⟨I1, strI A (shS A (ruN A r) (lagN A)) (gonN A (shS A (ruN A r) (lagN A)) 400), ?_, q1, fun _ => rfl, fun q => absurd rfl q⟩
        simp (config := { maxSteps := 2000000 }) (disch := omega) only [f248, ux_at, ux_kk, ux_jo, gIm, pIm, pZm, gRm, aIm, sIm, aBm, sBm, gLm, pLm, clm, wshS, obS, reduceIte, Nat.one_ne_zero, Nat.zero_ne_one, Nat.reduceEqDiff, not_true_eq_false, not_false_eq_true, Nat.le_refl, ng_le, ng_lt, ng_nle, ng_nlt, ng_eq, ng_eq2, Bool.false_eq_true, lit_nI, nI_add, pk_mul, nI_leI, nI_ltI, nI_eq, lit_lN, s126 hM hW.2 hr, s40i, e1, e2]
        rw [st]
        rfl
      · refine ⟨I1, -nI 1, ?_, q1, fun q => absurd q (by decide), fun _ => Or.inr ⟨hs, Or.inl ⟨d, rfl⟩⟩⟩
        simp (config := { maxSteps := 2000000 }) (disch := omega) only [f248, ux_at, ux_kk, ux_jo, gIm, pIm, pZm, gRm, aIm, sIm, aBm, sBm, gLm, pLm, clm, wshS, obS, reduceIte, Nat.one_ne_zero, Nat.zero_ne_one, Nat.reduceEqDiff, not_true_eq_false, not_false_eq_true, Nat.le_refl, ng_le, ng_lt, ng_nle, ng_nlt, ng_eq, ng_eq2, Bool.false_eq_true, lit_nI, nI_add, pk_mul, nI_leI, nI_ltI, nI_eq, lit_lN, s126 hM hW.2 hr, s40i, e1, e2]
      · refine ⟨I1, -nI 1, ?_, q1, fun q => absurd q (by decide), fun _ => Or.inr ⟨hs, Or.inl ⟨d, rfl⟩⟩⟩
        simp (config := { maxSteps := 2000000 }) (disch := omega) only [f248, ux_at, ux_kk, ux_jo, gIm, pIm, pZm, gRm, aIm, sIm, aBm, sBm, gLm, pLm, clm, wshS, obS, reduceIte, Nat.one_ne_zero, Nat.zero_ne_one, Nat.reduceEqDiff, not_true_eq_false, not_false_eq_true, Nat.le_refl, ng_le, ng_lt, ng_nle, ng_nlt, ng_eq, ng_eq2, Bool.false_eq_true, lit_nI, nI_add, pk_mul, nI_leI, nI_ltI, nI_eq, lit_lN, s126 hM hW.2 hr, s40i, e1, e2]
    · have fq : Qm A I (u2 I1 67 55 (nI (t - j * prdN A))) := ⟨q1.1.tr (Fr.rf.uf (by decide)), q1.2.fr (Fr.rf.uf (F := [55]) (K := []) (by decide)) (by decide) (by decide) (by decide)⟩
      have ht := d.1
      have hj := d.2.1.2.1
      have hc : what = 0 ∨ what = 1 ∨ what = 2 := by omega
      rcases hc with rfl | rfl | rfl
      · refine ⟨_, strI A (shS A (ruN A r) (lagN A)) (gonN A (shS A (ruN A r) (lagN A)) 400), ?_, fq, fun _ => rfl, fun q => absurd rfl q⟩
        simp (config := { maxSteps := 2000000 }) (disch := omega) only [f248, ux_at, ux_kk, ux_jo, gIm, pIm, pZm, gRm, aIm, sIm, aBm, sBm, gLm, pLm, clm, wshS, obS, reduceIte, Nat.one_ne_zero, Nat.zero_ne_one, Nat.reduceEqDiff, not_true_eq_false, not_false_eq_true, Nat.le_refl, ng_le, ng_lt, ng_nle, ng_nlt, ng_eq, ng_eq2, Bool.false_eq_true, lit_nI, nI_add, pk_mul, nI_leI, nI_ltI, nI_eq, lit_lN, s126 hM hW.2 hr, s40i, e1, e2]
        rw [st]
        rfl
      · refine ⟨_, nI t, ?_, fq, fun q => absurd q (by decide), fun _ => Or.inr ⟨hs, Or.inr ⟨t, j, d, rfl⟩⟩⟩
        simp (config := { maxSteps := 2000000 }) (disch := omega) only [f248, ux_at, ux_kk, ux_jo, gIm, pIm, pZm, gRm, aIm, sIm, aBm, sBm, gLm, pLm, clm, wshS, obS, reduceIte, Nat.one_ne_zero, Nat.zero_ne_one, Nat.reduceEqDiff, not_true_eq_false, not_false_eq_true, Nat.le_refl, ng_le, ng_lt, ng_nle, ng_nlt, ng_eq, ng_eq2, Bool.false_eq_true, lit_nI, nI_add, pk_mul, nI_leI, nI_ltI, nI_eq, lit_lN, s126 hM hW.2 hr, s40i, e1, e2]
      · refine ⟨_, nI (j * prdN A), ?_, fq, fun q => absurd q (by decide), fun _ => Or.inr ⟨hs, Or.inr ⟨t, j, d, rfl⟩⟩⟩
        have h3 : nI t - nI (t - j * prdN A) = nI (j * prdN A) := by
          rw [pk_sub (by omega)]
          congr 1
          omega
        simp (config := { maxSteps := 2000000 }) (disch := omega) only [f248, ux_at, ux_kk, ux_jo, gIm, pIm, pZm, gRm, aIm, sIm, aBm, sBm, gLm, pLm, clm, wshS, obS, reduceIte, Nat.one_ne_zero, Nat.zero_ne_one, Nat.reduceEqDiff, not_true_eq_false, not_false_eq_true, Nat.le_refl, ng_le, ng_lt, ng_nle, ng_nlt, ng_eq, ng_eq2, Bool.false_eq_true, lit_nI, nI_add, pk_mul, nI_leI, nI_ltI, nI_eq, lit_lN, s126 hM hW.2 hr, s40i, e1, e2, Nat.zero_le, h3]
/-- at -/
def atI (S : Nat → Sh) (G t what : Nat) : Int32 := if t ≤ G then (if what = 0 then nI (S t).1 else nI (S t).2.1) else -nI 1
theorem m249 (hM : MC I A) (hW : WF A) (hC : CA I A) {r t what : Nat} (hr : r < nrN A) (ht : t ≤ 400) (hw : what ≤ 1) (hn : 600 < n) :
    ∃ I', f249 n 67 (nI r) (nI t) (nI what) (mW I L ru) = some (atI (shS A (ruN A r) (lagN A)) (gonN A (shS A (ruN A r) (lagN A)) 400) t what, mW I' L ru) ∧ Qm A I I' := by
  obtain ⟨I1, e1, q1, r1⟩ := s244 (L := L) (ru := ru) hM hW hC hr hn
  have hG := gonN_le A (shS A (ruN A r) (lagN A)) 400
  have g1 := r1.2.2.1
  refine ⟨I1, ?_, q1⟩
  by_cases h : t ≤ gonN A (shS A (ruN A r) (lagN A)) 400
  · obtain ⟨c1, c2, -⟩ := r1.1 t h
    rcases one_or hw with rfl | rfl
    · simp (config := { maxSteps := 2000000 }) (disch := omega) only [f249, ux_at, ux_kk, ux_jo, gIm, pIm, pZm, gRm, aIm, sIm, aBm, sBm, gLm, pLm, clm, wshS, obS, reduceIte, Nat.one_ne_zero, Nat.zero_ne_one, Nat.reduceEqDiff, not_true_eq_false, not_false_eq_true, Nat.le_refl, ng_le, ng_lt, ng_nle, ng_nlt, ng_eq, ng_eq2, Bool.false_eq_true, lit_nI, nI_add, pk_mul, nI_leI, nI_ltI, nI_eq, lit_lN, s126 hM hW.2 hr, s40i, e1, g1, h, c1, atI]
    · simp (config := { maxSteps := 2000000 }) (disch := omega) only [f249, ux_at, ux_kk, ux_jo, gIm, pIm, pZm, gRm, aIm, sIm, aBm, sBm, gLm, pLm, clm, wshS, obS, reduceIte, Nat.one_ne_zero, Nat.zero_ne_one, Nat.reduceEqDiff, not_true_eq_false, not_false_eq_true, Nat.le_refl, ng_le, ng_lt, ng_nle, ng_nlt, ng_eq, ng_eq2, Bool.false_eq_true, lit_nI, nI_add, pk_mul, nI_leI, nI_ltI, nI_eq, lit_lN, s126 hM hW.2 hr, s40i, e1, g1, h, c2, atI]
  · simp (config := { maxSteps := 2000000 }) (disch := omega) only [f249, ux_at, ux_kk, ux_jo, gIm, pIm, pZm, gRm, aIm, sIm, aBm, sBm, gLm, pLm, clm, wshS, obS, reduceIte, Nat.one_ne_zero, Nat.zero_ne_one, Nat.reduceEqDiff, not_true_eq_false, not_false_eq_true, Nat.le_refl, ng_le, ng_lt, ng_nle, ng_nlt, ng_eq, ng_eq2, Bool.false_eq_true, lit_nI, nI_add, pk_mul, nI_leI, nI_ltI, nI_eq, lit_lN, s126 hM hW.2 hr, s40i, e1, g1, h, atI]
/-- comes -/
theorem m250 (hM : MC I A) (hW : WF A) (hC : CA I A) {r c : Nat} (hr : r < nrN A) (hc : c < 64) (hn : 600 < n) :
    ∃ I' x, f250 n 67 (nI r) (nI c) (mW I L ru) = some (x, mW I' L ru) ∧ Qm A I I' ∧ FST (fun t => (shS A (ruN A r) (lagN A) t).1 = c) (gonN A (shS A (ruN A r) (lagN A)) 400 + 1) x := by
  obtain ⟨I1, e1, q1, r1⟩ := s244 (L := L) (ru := ru) hM hW hC hr hn
  have hG := gonN_le A (shS A (ruN A r) (lagN A)) 400
  obtain ⟨x, e2, x2⟩ := s59 (L := L) (ru := ru) (n := n) r1 (fun t => shS_ok hW hr t) hc hG (by omega)
  refine ⟨I1, x, ?_, q1, x2⟩
  simp (config := { maxSteps := 2000000 }) (disch := omega) only [f250, ux_at, ux_kk, ux_jo, gIm, pIm, pZm, gRm, aIm, sIm, aBm, sBm, gLm, pLm, clm, wshS, obS, reduceIte, Nat.one_ne_zero, Nat.zero_ne_one, Nat.reduceEqDiff, not_true_eq_false, not_false_eq_true, Nat.le_refl, ng_le, ng_lt, ng_nle, ng_nlt, ng_eq, ng_eq2, Bool.false_eq_true, lit_nI, nI_add, pk_mul, nI_leI, nI_ltI, nI_eq, s126 hM hW.2 hr, s118, e1, e2]
/-- judge -/
theorem m251 (hM : MC I A) (hW : WF A) (hC : CA I A) {r : Nat} (hr : r < nrN A) (hn : 600 < n) :
    ∃ I' x, f251 n 67 (nI r) (mW I L ru) = some (x, mW I' L ru) ∧ Qm A I I' ∧ FST (fun t => gonN A (shS A (ruN A r) (lagN A)) 400 ≤ t ∨ ¬ tI (rnT A (ruN A r) (lagN A) (shN A) (hdN A) t) = A 90 t) (lgN A) x := by
  obtain ⟨I1, e1, q1, r1⟩ := s244 (L := L) (ru := ru) hM hW hC hr hn
  have hM1 := q1.MC hM
  have hG := gonN_le A (shS A (ruN A r) (lagN A)) 400
  obtain ⟨l1, l2⟩ := hW.2.2.2.2.2.2.1
  have g1 := r1.2.2.1
  generalize gonN A (shS A (ruN A r) (lagN A)) 400 = G at *
  generalize hT : rnT A (ruN A r) (lagN A) (shN A) (hdN A) = T at *
  have key : ∃ x, f251_H19 n (fun w20 => some ((-1 : Int32), w20)) n 67 (nI 0) (mW I1 L ru) = some (x, mW I1 L ru) ∧ FST (fun t => G ≤ t ∨ ¬ tI (T t) = A 90 t) (lgN A) x := by
    refine lpP (F := fun k t (_ : Unit) => f251_H19 n (fun w20 => some ((-1 : Int32), w20)) k 67 (nI t) (mW I1 L ru)) (P := fun y => ∃ x, y = some (x, mW I1 L ru) ∧ FST (fun t => G ≤ t ∨ ¬ tI (T t) = A 90 t) (lgN A) x) (J := fun t _ => ∀ u, u < t → ¬ (G ≤ u ∨ ¬ tI (T u) = A 90 u)) (lgN A) ?_ ?_ n 0 () (by omega) (by omega) (fun u hu => absurd hu (Nat.not_lt_zero _))
    · intro k _ hJ
      simp (config := { maxSteps := 2000000 }) (disch := omega) only [f251_H19, ux_at, ux_kk, ux_jo, gIm, pIm, pZm, gRm, aIm, sIm, aBm, sBm, gLm, pLm, clm, wshS, obS, reduceIte, Nat.one_ne_zero, Nat.zero_ne_one, Nat.reduceEqDiff, not_true_eq_false, not_false_eq_true, Nat.le_refl, ng_le, ng_lt, ng_nle, ng_nlt, ng_eq, ng_eq2, Bool.false_eq_true, lit_nI, nI_add, pk_mul, nI_leI, nI_ltI, nI_eq, mcA hM1, l1]
      exact ⟨_, rfl, Or.inr ⟨hJ, rfl⟩⟩
    · intro k t _ ht hJ ih
      have h1 : ¬ lgN A ≤ t := by omega
      by_cases h2 : G ≤ t
      · simp (config := { maxSteps := 2000000 }) (disch := omega) only [f251_H19, ux_at, ux_kk, ux_jo, gIm, pIm, pZm, gRm, aIm, sIm, aBm, sBm, gLm, pLm, clm, wshS, obS, reduceIte, Nat.one_ne_zero, Nat.zero_ne_one, Nat.reduceEqDiff, not_true_eq_false, not_false_eq_true, Nat.le_refl, ng_le, ng_lt, ng_nle, ng_nlt, ng_eq, ng_eq2, Bool.false_eq_true, lit_nI, nI_add, pk_mul, nI_leI, nI_ltI, nI_eq, mcA hM1, l1, h1, g1, h2]
        exact ⟨_, rfl, Or.inl ⟨t, ht, Or.inl h2, hJ, rfl⟩⟩
      · have e3 := r1.2.1 t (by omega)
        by_cases h3 : tI (T t) = A 90 t
        · simp (config := { maxSteps := 2000000 }) (disch := omega) only [f251_H19, ux_at, ux_kk, ux_jo, gIm, pIm, pZm, gRm, aIm, sIm, aBm, sBm, gLm, pLm, clm, wshS, obS, reduceIte, Nat.one_ne_zero, Nat.zero_ne_one, Nat.reduceEqDiff, not_true_eq_false, not_false_eq_true, Nat.le_refl, ng_le, ng_lt, ng_nle, ng_nlt, ng_eq, ng_eq2, Bool.false_eq_true, lit_nI, nI_add, pk_mul, nI_leI, nI_ltI, nI_eq, mcA hM1, l1, h1, g1, h2, e3, h3]
          refine ih () fun u hu => ?_
          by_cases e : u = t
          · rw [e]
            rintro (q | q)
            · exact h2 q
            · exact q h3
          · exact hJ u (by omega)
        · simp (config := { maxSteps := 2000000 }) (disch := omega) only [f251_H19, ux_at, ux_kk, ux_jo, gIm, pIm, pZm, gRm, aIm, sIm, aBm, sBm, gLm, pLm, clm, wshS, obS, reduceIte, Nat.one_ne_zero, Nat.zero_ne_one, Nat.reduceEqDiff, not_true_eq_false, not_false_eq_true, Nat.le_refl, ng_le, ng_lt, ng_nle, ng_nlt, ng_eq, ng_eq2, Bool.false_eq_true, lit_nI, nI_add, pk_mul, nI_leI, nI_ltI, nI_eq, mcA hM1, l1, h1, g1, h2, e3, h3]
          exact ⟨_, rfl, Or.inl ⟨t, ht, Or.inr h3, hJ, rfl⟩⟩
  obtain ⟨x, e2, x2⟩ := key
  refine ⟨I1, x, ?_, q1, x2⟩
  simp (config := { maxSteps := 2000000 }) (disch := omega) only [f251, ux_at, ux_kk, ux_jo, gIm, pIm, pZm, gRm, aIm, sIm, aBm, sBm, gLm, pLm, clm, wshS, obS, reduceIte, Nat.one_ne_zero, Nat.zero_ne_one, Nat.reduceEqDiff, not_true_eq_false, not_false_eq_true, Nat.le_refl, ng_le, ng_lt, ng_nle, ng_nlt, ng_eq, ng_eq2, Bool.false_eq_true, lit_nI, nI_add, pk_mul, nI_leI, nI_ltI, nI_eq, s126 hM hW.2 hr, e1]
  exact e2
/-- value -/
theorem m252 (hM : MC I A) (hW : WF A) (hC : CA I A) {r m t : Nat} (hr : r < nrN A) (hm : m < 2 ^ nsN A) (ht1 : 1 ≤ t) (ht2 : t ≤ 24) (hn : 600 < n) :
    ∃ I', f252 n 67 (nI r) (nI m) (nI t) (mW I L ru) = some (valI A m (shS A (ruN A r) (lagN A)) (gonN A (shS A (ruN A r) (lagN A)) t) t, mW I' L ru) ∧ Qm A I I' := by
  obtain ⟨I1, e1, f1, u1⟩ := s54 (L := L) (ru := ru) hM hW.2 hr
  have hM1 := hM.fr f1 (by decide) (by decide) (by decide)
  have hC1 := hC.fr f1 (by decide) (by decide) (by decide)
  have h6 := ns6 hW.1
  have h7 := p2_le (nsN A) (by omega)
  obtain ⟨I2, e2, f2, c2⟩ := s245 (L := L) (ru := ru) (n := n) (m := m) (hours := t) hM1 hW hC1.cf u1 (ruN_at hW.2 hr).1 (lag_ok hW.1) (by omega) (by omega) (by omega)
  refine ⟨I2, ?_, (f1.mono (by decide) (by decide)).tr (f2.mono (by decide) (by decide)), c2.ca⟩
  simp (config := { maxSteps := 2000000 }) (disch := omega) only [f252, ux_at, ux_kk, ux_jo, gIm, pIm, pZm, gRm, aIm, sIm, aBm, sBm, gLm, pLm, clm, wshS, obS, reduceIte, Nat.one_ne_zero, Nat.zero_ne_one, Nat.reduceEqDiff, not_true_eq_false, not_false_eq_true, Nat.le_refl, ng_le, ng_lt, ng_nle, ng_nlt, ng_eq, ng_eq2, Bool.false_eq_true, lit_nI, nI_add, pk_mul, nI_leI, nI_ltI, nI_eq, mcA hM1, wfA hW.1, s126 hM hW.2 hr, s119 hM hW.1 hm, s131, e1, e2]
end
