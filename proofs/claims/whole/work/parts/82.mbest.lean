/-! THE REFERENCE'S bestRule, sides, best, course -/
noncomputable def chN (p : Prop) : Nat := @ite Nat p (Classical.propDecidable p) 1 0
theorem chN_t {p : Prop} (h : p) : chN p = 1 := by
  unfold chN
  exact if_pos h
theorem chN_f {p : Prop} (h : ¬ p) : chN p = 0 := by
  unfold chN
  exact if_neg h
theorem chN_le (p : Prop) : chN p ≤ 1 := by
  by_cases h : p
  · rw [chN_t h]; decide
  · rw [chN_f h]; decide
/-- a run that is looked for, from one of the 512 beginnings -/
def sdP (A : St) (ρ : Nat → Nat) (g c what : Nat) (S : Nat → Sh) : Prop :=
  if what = 0 then gonN A S 400 ≠ 0 ∧ rkN A (S (gonN A S 400)).1 = 1
  else if what = 1 then ¬ (gonN A S 400 ≠ 0 ∧ rkN A (S (gonN A S 400)).1 = 1) ∧ ∃ t j, RDy S (prdN A) (gonN A S 400) t j
  else ∃ t, t ≤ gonN A S 400 ∧ (S t).1 = c
noncomputable def sdN2 (A : St) (ρ : Nat → Nat) (g c what : Nat) (u : Nat) : Nat := if rkN A (u / 8) = 1 then 0 else chN (sdP A ρ g c what (rnS A ρ g (u / 8) (u % 8)))
/-- the first turn that is as good as the best -/
def fkN (f : Nat → Int32) (v : Int32) : Nat := if f (toN 0) = v then toN 0 else if f (toN 1) = v then toN 1 else toN 2
theorem fkN_lt (f : Nat → Int32) (v : Int32) : fkN f v < 3 := by
  unfold fkN
  split
  · exact toN_lt _
  · split <;> exact toN_lt _
abbrev all7 : Nat → Nat → Nat → Nat := fun _ _ _ => 7
/-- the turn of the best course at a place in an hour -/
def ckN (A : St) (m hours hour c h : Nat) : Nat := fkN (brI A m hours hour (bvI A m hours all7 (hours - (hour + 1))) c h) (bvI A m hours all7 (hours - hour) c h)
/-- the best course's places -/
def crS (A : St) (m hours : Nat) : Nat → Nat × Nat
  | 0 => (shN A, hdN A)
  | i + 1 => (stpN A (crS A m hours i).1 (crS A m hours i).2 i (ckN A m hours i (crS A m hours i).1 (crS A m hours i).2), tuN (crS A m hours i).2 (ckN A m hours i (crS A m hours i).1 (crS A m hours i).2))
theorem crS_ok {A : St} (hW : WFs A) (m hours : Nat) : ∀ i, (crS A m hours i).1 < 64 ∧ (crS A m hours i).2 < 8
  | 0 => ⟨(ship_ok hW).1, (ship_ok hW).2.1⟩
  | i + 1 => ⟨stpN_lt hW (crS_ok hW m hours i).1, tuN_lt _ _⟩
/-- the answer of course for a turn that there may be -/
def crI (A : St) (m hours : Nat) (j : Nat) (r : Int32) : Prop := ((∀ u, u ≤ j → rkN A (crS A m hours u).1 = 0) ∧ r = tI (ckN A m hours j (crS A m hours j).1 (crS A m hours j).2)) ∨ ((∃ u, u ≤ j ∧ rkN A (crS A m hours u).1 = 1) ∧ r = nI 9)
theorem crI.uniq {A : St} {m hours j : Nat} {r r' : Int32} (h : crI A m hours j r) (h' : crI A m hours j r') : r = r' := by
  rcases h with ⟨h, rfl⟩ | ⟨⟨u, u1, u2⟩, rfl⟩ <;> rcases h' with ⟨k, rfl⟩ | ⟨⟨v, v1, v2⟩, rfl⟩
  · rfl
  · have := h v v1
    omega
  · have := k u u1
    omega
  · rfl
section
variable {I A : St} {L : Lt} {ru n : Nat}
theorem l254 (hM : MC I A) (hW : WF A) (hC : CA I A) {m t i : Nat} (hm : m < 64) (ht2 : t ≤ 24) (hi : i < 200) (hn : 600 < n) : ∃ J I', Fr [] [39, 40, 41, 42, 43] I J ∧ RU J (shrN i) ∧ f245 n 67 (nI m) (nI t) (nI (lagN A)) (mW J L ru) = some (vkI A m t i, mW I' L ru) ∧ Qm A J I' ∧ J = u2 (u2 (u2 (u2 (u2 I 67 39 (nI (i / 50))) 67 40 (nI (i / 5 % 10))) 67 41 (nI 0)) 67 42 (tI (shrN i 3))) 67 43 (nI (shrN i 4)) := by
  have hf : Fr [] [39, 40, 41, 42, 43] I (u2 (u2 (u2 (u2 (u2 I 67 39 (nI (i / 50))) 67 40 (nI (i / 5 % 10))) 67 41 (nI 0)) 67 42 (tI (shrN i 3))) 67 43 (nI (shrN i 4))) := ((((Fr.rf.uf (by decide)).uf (by decide)).uf (by decide)).uf (by decide)).uf (by decide)
  have hU : RU (u2 (u2 (u2 (u2 (u2 I 67 39 (nI (i / 50))) 67 40 (nI (i / 5 % 10))) 67 41 (nI 0)) 67 42 (tI (shrN i 3))) 67 43 (nI (shrN i 4))) (shrN i) := by
    refine ⟨?_, ?_, ?_, ?_, ?_⟩ <;> simp (config := { maxSteps := 2000000 }) (disch := omega) only [ux_at, ux_jo] <;> rfl
  obtain ⟨I', e, f, c⟩ := s245 (L := L) (ru := ru) (n := n) (g := lagN A) (m := m) (hours := t) (hM.fr hf (by decide) (by decide) (by decide)) hW (hC.fr hf (by decide) (by decide) (by decide)).cf hU (shrN_ok hi) (lag_ok hW.1) hm (by omega) (by omega)
  exact ⟨_, I', hf, hU, e, ⟨f.mono (by decide) (by decide), c.ca⟩, rfl⟩
theorem m254 (hM : MC I A) (hW : WF A) (hC : CA I A) {m t what : Nat} (hm : m < 2 ^ nsN A) (ht1 : 1 ≤ t) (ht2 : t ≤ 24) (hw : what ≤ 1) (hn : 600 < n) :
    ∃ I', f254 n 67 (nI m) (nI t) (nI what) (mW I L ru) = some (if what = 0 then nI (brS A m t 200).1 else (brS A m t 200).2, mW I' L ru) ∧ Qm A I I' := by
  have h6 := ns6 hW.1
  have h7 := p2_le (nsN A) (by omega)
  generalize hB : brS A m t 200 = B
  have key : ∃ I', f254_H41 n (fun e3 e4 e5 w => (if ¬ e3 = 0 then some (e5, w) else some (e4, w))) n 67 (nI m) (nI t) (nI what) (-nI 1) (nI 0) (nI 0) (mW I L ru) = some (if what = 0 then nI B.1 else B.2, mW I' L ru) ∧ Qm A I I' := by
    refine lpP (F := fun k i (s : Int32 × Int32 × St) => f254_H41 n (fun e3 e4 e5 w => (if ¬ e3 = 0 then some (e5, w) else some (e4, w))) k 67 (nI m) (nI t) (nI what) s.1 s.2.1 (nI i) (mW s.2.2 L ru)) (P := fun y => ∃ I', y = some (if what = 0 then nI B.1 else B.2, mW I' L ru) ∧ Qm A I I') (J := fun i s => Qm A I s.2.2 ∧ ((i = 0 ∧ s.1 = -nI 1) ∨ (0 < i ∧ s.1 = nI (brS A m t i).1)) ∧ s.2.1 = (brS A m t i).2) 200 ?_ ?_ n 0 (-nI 1, nI 0, I) (by omega) (by omega) ⟨⟨Fr.rf, hC⟩, Or.inl ⟨rfl, rfl⟩, rfl⟩
    · rintro k ⟨b, mz, J⟩ ⟨j1, j2, j3⟩
      have j3 : mz = (brS A m t 200).2 := j3
      have j2 : b = nI (brS A m t 200).1 := by
        rcases j2 with ⟨h, -⟩ | ⟨-, h⟩
        · omega
        · exact h
      rw [hB] at j2 j3
      rw [j2, j3]
      rcases one_or hw with rfl | rfl
      · simp (config := { maxSteps := 2000000 }) (disch := omega) only [f254_H41, ux_at, ux_kk, ux_jo, gIm, pIm, pZm, gRm, aIm, sIm, aBm, sBm, gLm, pLm, clm, wshS, obS, reduceIte, Nat.one_ne_zero, Nat.zero_ne_one, Nat.reduceEqDiff, not_true_eq_false, not_false_eq_true, Nat.le_refl, ng_le, ng_lt, ng_nle, ng_nlt, ng_eq, ng_eq2, Bool.false_eq_true, lit_nI, nI_add, pk_mul, nI_leI, nI_ltI, nI_eq]
        exact ⟨J, rfl, j1⟩
      · simp (config := { maxSteps := 2000000 }) (disch := omega) only [f254_H41, ux_at, ux_kk, ux_jo, gIm, pIm, pZm, gRm, aIm, sIm, aBm, sBm, gLm, pLm, clm, wshS, obS, reduceIte, Nat.one_ne_zero, Nat.zero_ne_one, Nat.reduceEqDiff, not_true_eq_false, not_false_eq_true, Nat.le_refl, ng_le, ng_lt, ng_nle, ng_nlt, ng_eq, ng_eq2, Bool.false_eq_true, lit_nI, nI_add, pk_mul, nI_leI, nI_ltI, nI_eq]
        exact ⟨J, rfl, j1⟩
    · rintro k i ⟨b, mz, J⟩ hi ⟨j1, j2, j3⟩ ih
      have hi2 : ¬ 200 ≤ i := by omega
      have j3 : mz = (brS A m t i).2 := j3
      subst j3
      obtain ⟨J1, J2, f1, u1, e2, q2, hJ⟩ := l254 (L := L) (ru := ru) (n := n) (m := m) (t := t) (i := i) (j1.MC hM) hW j1.2 (by omega) ht2 hi hn
      have j1 : Qm A I J := j1
      have hMJ : MC J A := j1.MC hM
      have q3 : Qm A I J2 := ⟨j1.1.tr ((f1.mono (by decide) (by decide)).tr q2.1), q2.2⟩
      have e3 : shrN i 3 = if i % 5 = 0 then 1 else if i % 5 % 2 = 1 then 0 else 2 := rfl
      have e4 : shrN i 4 = if i % 5 = 0 then 0 else (i % 5 + 1) / 2 := rfl
      have hb1 : brS A m t (i + 1) = if i = 0 ∨ ¬ vkI A m t i ≤ (brS A m t i).2 then (i, vkI A m t i) else brS A m t i := rfl
      -- behind the value
      have fin : ∀ x, x = mW J2 L ru → (fun y => ∃ I', y = some (if what = 0 then nI B.1 else B.2, mW I' L ru) ∧ Qm A I I') (if b < nI 0 then f254_J156 n (fun v0 v1 v2 v3 v4 v5 v6 w => f254_H41 n (fun e3 e4 e5 w => (if ¬ e3 = 0 then some (e5, w) else some (e4, w))) k v0 v1 v2 v3 v4 v5 v6 w) (fun e3 e4 e5 w => (if ¬ e3 = 0 then some (e5, w) else some (e4, w))) 67 (nI m) (nI t) (nI what) (brS A m t i).2 (nI i) (vkI A m t i) (nI i) x else (if vkI A m t i ≤ (brS A m t i).2 then f254_J156 n (fun v0 v1 v2 v3 v4 v5 v6 w => f254_H41 n (fun e3 e4 e5 w => (if ¬ e3 = 0 then some (e5, w) else some (e4, w))) k v0 v1 v2 v3 v4 v5 v6 w) (fun e3 e4 e5 w => (if ¬ e3 = 0 then some (e5, w) else some (e4, w))) 67 (nI m) (nI t) (nI what) (brS A m t i).2 (nI i) (vkI A m t i) b x else f254_J156 n (fun v0 v1 v2 v3 v4 v5 v6 w => f254_H41 n (fun e3 e4 e5 w => (if ¬ e3 = 0 then some (e5, w) else some (e4, w))) k v0 v1 v2 v3 v4 v5 v6 w) (fun e3 e4 e5 w => (if ¬ e3 = 0 then some (e5, w) else some (e4, w))) 67 (nI m) (nI t) (nI what) (brS A m t i).2 (nI i) (vkI A m t i) (nI i) x)) := by
        intro x hx
        subst hx
        rcases j2 with ⟨h0, h1⟩ | ⟨h0, h1⟩
        · have h1 : b = -nI 1 := h1
          subst h1 h0
          simp (config := { maxSteps := 2000000 }) (disch := omega) only [f254_J156, Nat.one_ne_zero, Nat.zero_ne_one, Nat.reduceEqDiff, not_true_eq_false, not_false_eq_true, Nat.le_refl, ng_le, ng_lt, ng_nle, ng_nlt, ng_eq, ng_eq2, Bool.false_eq_true, lit_nI, nI_add, pk_mul, nI_leI, nI_ltI, nI_eq, reduceIte]
          refine ih (nI 0, vkI A m t 0, J2) ⟨q3, Or.inr ⟨by omega, ?_⟩, ?_⟩
          · rw [hb1, if_pos (Or.inl rfl)]
          · rw [hb1, if_pos (Or.inl rfl)]
        · have h1 : b = nI (brS A m t i).1 := h1
          subst h1
          have hl := brS_lt A m t i h0
          have hne : ¬ (brS A m t i).1 = i := by omega
          by_cases hv : vkI A m t i ≤ (brS A m t i).2
          · simp (config := { maxSteps := 2000000 }) (disch := omega) only [f254_J156, Nat.one_ne_zero, Nat.zero_ne_one, Nat.reduceEqDiff, not_true_eq_false, not_false_eq_true, Nat.le_refl, ng_le, ng_lt, ng_nle, ng_nlt, ng_eq, ng_eq2, Bool.false_eq_true, lit_nI, nI_add, pk_mul, nI_leI, nI_ltI, nI_eq, reduceIte, Nat.not_lt_zero, hv, hne]
            have hq : ¬ (i = 0 ∨ ¬ vkI A m t i ≤ (brS A m t i).2) := by
              rintro (q | q)
              · omega
              · exact q hv
            refine ih (nI (brS A m t i).1, (brS A m t i).2, J2) ⟨q3, Or.inr ⟨by omega, ?_⟩, ?_⟩
            · rw [hb1, if_neg hq]
            · rw [hb1, if_neg hq]
          · simp (config := { maxSteps := 2000000 }) (disch := omega) only [f254_J156, Nat.one_ne_zero, Nat.zero_ne_one, Nat.reduceEqDiff, not_true_eq_false, not_false_eq_true, Nat.le_refl, ng_le, ng_lt, ng_nle, ng_nlt, ng_eq, ng_eq2, Bool.false_eq_true, lit_nI, nI_add, pk_mul, nI_leI, nI_ltI, nI_eq, reduceIte, Nat.not_lt_zero, hv, hne]
            refine ih (nI i, vkI A m t i, J2) ⟨q3, Or.inr ⟨by omega, ?_⟩, ?_⟩
            · rw [hb1, if_pos (Or.inr hv)]
            · rw [hb1, if_pos (Or.inr hv)]
      have hd : i % 5 = 0 ∨ (¬ i % 5 = 0 ∧ i % 5 % 2 = 1) ∨ (¬ i % 5 = 0 ∧ ¬ i % 5 % 2 = 1) := by omega
      rcases hd with d | ⟨d, d2⟩ | ⟨d, d2⟩
      · rw [if_pos d] at e3 e4
        rw [e3, e4, tI_1] at hJ
        rw [hJ] at e2
        simp (config := { maxSteps := 2000000 }) (disch := omega) only [f254_H41, f254_J103, f254_J122, ux_at, ux_kk, ux_jo, gIm, pIm, pZm, gRm, aIm, sIm, aBm, sBm, gLm, pLm, clm, wshS, obS, reduceIte, Nat.one_ne_zero, Nat.zero_ne_one, Nat.reduceEqDiff, not_true_eq_false, not_false_eq_true, Nat.le_refl, ng_le, ng_lt, ng_nle, ng_nlt, ng_eq, ng_eq2, Bool.false_eq_true, lit_nI, nI_add, pk_mul, nI_leI, nI_ltI, nI_eq, hi2, pk_div, irm_nI, d, mcA hMJ, wfA hW.1, e2]
        exact fin _ rfl
      · rw [if_neg d, if_pos d2] at e3
        rw [if_neg d] at e4
        rw [e3, e4, tI_0] at hJ
        rw [hJ] at e2
        have hm1 : (-1 : Int32) = -nI 1 := rfl
        rw [hm1] at e2
        simp (config := { maxSteps := 2000000 }) (disch := omega) only [f254_H41, f254_J103, f254_J122, ux_at, ux_kk, ux_jo, gIm, pIm, pZm, gRm, aIm, sIm, aBm, sBm, gLm, pLm, clm, wshS, obS, reduceIte, Nat.one_ne_zero, Nat.zero_ne_one, Nat.reduceEqDiff, not_true_eq_false, not_false_eq_true, Nat.le_refl, ng_le, ng_lt, ng_nle, ng_nlt, ng_eq, ng_eq2, Bool.false_eq_true, lit_nI, nI_add, pk_mul, nI_leI, nI_ltI, nI_eq, hi2, pk_div, irm_nI, d, d2, mcA hMJ, wfA hW.1, e2]
        exact fin _ rfl
      · rw [if_neg d, if_neg d2] at e3
        rw [if_neg d] at e4
        rw [e3, e4, tI_2] at hJ
        rw [hJ] at e2
        simp (config := { maxSteps := 2000000 }) (disch := omega) only [f254_H41, f254_J103, f254_J122, ux_at, ux_kk, ux_jo, gIm, pIm, pZm, gRm, aIm, sIm, aBm, sBm, gLm, pLm, clm, wshS, obS, reduceIte, Nat.one_ne_zero, Nat.zero_ne_one, Nat.reduceEqDiff, not_true_eq_false, not_false_eq_true, Nat.le_refl, ng_le, ng_lt, ng_nle, ng_nlt, ng_eq, ng_eq2, Bool.false_eq_true, lit_nI, nI_add, pk_mul, nI_leI, nI_ltI, nI_eq, hi2, pk_div, irm_nI, d, d2, mcA hMJ, wfA hW.1, e2]
        exact fin _ rfl
  obtain ⟨I', k1, k2⟩ := key
  refine ⟨I', ?_, k2⟩
  simp (config := { maxSteps := 2000000 }) (disch := omega) only [f254, ux_at, ux_kk, ux_jo, gIm, pIm, pZm, gRm, aIm, sIm, aBm, sBm, gLm, pLm, clm, wshS, obS, reduceIte, lit_lN, nI_eq, Nat.one_ne_zero, not_false_eq_true, show (0 : Int32) = nI 0 from rfl, show (-1 : Int32) = -nI 1 from rfl, s119 hM hW.1 hm, s131, s40i]
  exact k1
/-- best -/
theorem m229 (hM : MC I A) (hW : WF A) (hC : CA I A) {m c h t : Nat} (hm : m < 2 ^ nsN A) (hc : c < 64) (hh : h < 8) (hrk : rkN A c = 0) (ht1 : 1 ≤ t) (ht2 : t ≤ 24) (hn : 600 < n) :
    ∃ I', f229 n 67 (nI m) (nI c) (nI h) (nI t) (mW I L ru) = some (bvI A m t all7 t c h, mW I' L ru) ∧ Qm A I I' := by
  have h6 := ns6 hW.1
  have h7 := p2_le (nsN A) (by omega)
  obtain ⟨I1, e1, f1, b1⟩ := s215 (L := L) (ru := ru) (n := n) (m := m) (fr := 1) (mf := all7) hM hW.1 (Or.inl ⟨rfl, fun _ _ _ => rfl⟩) (by omega) ht1 ht2 hn
  have b2 := b1 0 (Nat.zero_le _) c h hc hh hrk
  rw [Nat.sub_zero] at b2
  have b3 : I1 91 (8 * c + h) = bvI A m t all7 t c h := by
    rw [← b2]
    congr 1
    omega
  refine ⟨I1, ?_, f1.mono (by decide) (by decide), hC.fr f1 (by decide) (by decide) (by decide)⟩
  simp (config := { maxSteps := 2000000 }) (disch := omega) only [f229, ux_at, ux_kk, ux_jo, gIm, pIm, pZm, gRm, aIm, sIm, aBm, sBm, gLm, pLm, clm, wshS, obS, reduceIte, Nat.one_ne_zero, Nat.zero_ne_one, Nat.reduceEqDiff, not_true_eq_false, not_false_eq_true, Nat.le_refl, ng_le, ng_lt, ng_nle, ng_nlt, ng_eq, ng_eq2, Bool.false_eq_true, lit_nI, nI_add, pk_mul, nI_leI, nI_ltI, nI_eq, mcA hM, wfA hW.1, s119 hM hW.1 hm, s118, s122, s131, hrk, e1, b3]
theorem l230 (hM : MC I A) (hW : WFs A) {m hours hour c h : Nat} (hB : ∀ o, o ≤ hours → BH I A m hours all7 o) (hm : m < 64) (hc : c < 64) (hh : h < 8) (hr : rkN A c = 0) (ho : hour < hours) (ho2 : hours ≤ 24) (hn : 6 < n) {rec24 : _} {K24 : _} {K38 : Nat → Int32 → Int32 → Int32 → Int32 → Int32 → Int32 → Int32 → Wd → Option (Int32 × Wd)} {j : Int32} :
    f230_H69 n rec24 K24 K38 n 67 (nI m) (nI hours) j (nI c) (nI h) (nI hour) (nI 0) (nI 0) (nI 0) (mW I L ru) = K38 67 (nI m) (nI hours) j (nI c) (nI h) (nI hour) (tI (ckN A m hours hour c h)) (mW I L ru) := by
  have hs := fun k hk => s196 (L := L) (ru := ru) (k := k) (n := n) hM hW (hB (hour + 1) (by omega)) hm hc hh (show hour < 24 by omega) hk hn
  have hb := hB hour (by omega) c h hc hh hr
  obtain ⟨k, hk⟩ : ∃ k, n = k + 4 := ⟨n - 4, by omega⟩
  have step : ∀ k, f230_H69 n rec24 K24 K38 (k + 4) 67 (nI m) (nI hours) j (nI c) (nI h) (nI hour) (nI 0) (nI 0) (nI 0) (mW I L ru) = K38 67 (nI m) (nI hours) j (nI c) (nI h) (nI hour) (tI (ckN A m hours hour c h)) (mW I L ru) := by
    intro k
    have t0 := toN_lt 0
    have t1 := toN_lt 1
    have t2 := toN_lt 2
    unfold ckN fkN
    by_cases q0 : brI A m hours hour (bvI A m hours all7 (hours - (hour + 1))) c h (toN 0) = bvI A m hours all7 (hours - hour) c h
    · simp (config := { maxSteps := 2000000 }) (disch := omega) only [f230_H69, ux_at, ux_kk, ux_jo, gIm, pIm, pZm, gRm, aIm, sIm, aBm, sBm, gLm, pLm, clm, wshS, obS, reduceIte, Nat.one_ne_zero, Nat.zero_ne_one, Nat.reduceEqDiff, not_true_eq_false, not_false_eq_true, Nat.le_refl, ng_le, ng_lt, ng_nle, ng_nlt, ng_eq, ng_eq2, Bool.false_eq_true, lit_nI, nI_add, pk_mul, nI_leI, nI_ltI, nI_eq, Nat.reduceLeDiff, s52, hs, hb, q0]
    · by_cases q1 : brI A m hours hour (bvI A m hours all7 (hours - (hour + 1))) c h (toN 1) = bvI A m hours all7 (hours - hour) c h
      · simp (config := { maxSteps := 2000000 }) (disch := omega) only [f230_H69, ux_at, ux_kk, ux_jo, gIm, pIm, pZm, gRm, aIm, sIm, aBm, sBm, gLm, pLm, clm, wshS, obS, reduceIte, Nat.one_ne_zero, Nat.zero_ne_one, Nat.reduceEqDiff, not_true_eq_false, not_false_eq_true, Nat.le_refl, ng_le, ng_lt, ng_nle, ng_nlt, ng_eq, ng_eq2, Bool.false_eq_true, lit_nI, nI_add, pk_mul, nI_leI, nI_ltI, nI_eq, Nat.reduceLeDiff, Nat.reduceAdd, s52, hs, hb, q0, q1]
      · by_cases q2 : brI A m hours hour (bvI A m hours all7 (hours - (hour + 1))) c h (toN 2) = bvI A m hours all7 (hours - hour) c h
        · simp (config := { maxSteps := 2000000 }) (disch := omega) only [f230_H69, ux_at, ux_kk, ux_jo, gIm, pIm, pZm, gRm, aIm, sIm, aBm, sBm, gLm, pLm, clm, wshS, obS, reduceIte, Nat.one_ne_zero, Nat.zero_ne_one, Nat.reduceEqDiff, not_true_eq_false, not_false_eq_true, Nat.le_refl, ng_le, ng_lt, ng_nle, ng_nlt, ng_eq, ng_eq2, Bool.false_eq_true, lit_nI, nI_add, pk_mul, nI_leI, nI_ltI, nI_eq, Nat.reduceLeDiff, Nat.reduceAdd, s52, hs, hb, q0, q1, q2]
        · simp (config := { maxSteps := 2000000 }) (disch := omega) only [f230_H69, ux_at, ux_kk, ux_jo, gIm, pIm, pZm, gRm, aIm, sIm, aBm, sBm, gLm, pLm, clm, wshS, obS, reduceIte, Nat.one_ne_zero, Nat.zero_ne_one, Nat.reduceEqDiff, not_true_eq_false, not_false_eq_true, Nat.le_refl, ng_le, ng_lt, ng_nle, ng_nlt, ng_eq, ng_eq2, Bool.false_eq_true, lit_nI, nI_add, pk_mul, nI_leI, nI_ltI, nI_eq, Nat.reduceLeDiff, Nat.reduceAdd, s52, hs, hb, q0, q1, q2]
  have e2 : ∀ k', k' = n → f230_H69 n rec24 K24 K38 k' 67 (nI m) (nI hours) j (nI c) (nI h) (nI hour) (nI 0) (nI 0) (nI 0) (mW I L ru) = K38 67 (nI m) (nI hours) j (nI c) (nI h) (nI hour) (tI (ckN A m hours hour c h)) (mW I L ru) := fun k' q => by
    obtain ⟨k'', rfl⟩ : ∃ k'', k' = k'' + 4 := ⟨k' - 4, by omega⟩
    exact step k''
  exact e2 n rfl
/-- course: a turn that there may be -/
theorem m230 (hM : MC I A) (hW : WF A) (hC : CA I A) {m t j : Nat} (hm : m < 2 ^ nsN A) (ht1 : 1 ≤ t) (ht2 : t ≤ 24) (hj : j < t) (hn : 600 < n) :
    ∃ I' x, f230 n 67 (nI m) (nI t) (nI j) (mW I L ru) = some (x, mW I' L ru) ∧ Qm A I I' ∧ crI A m t j x := by
  have h6 := ns6 hW.1
  have h7 := p2_le (nsN A) (by omega)
  obtain ⟨I1, e1, f1, b1⟩ := s215 (L := L) (ru := ru) (n := n) (m := m) (fr := 1) (mf := all7) hM hW.1 (Or.inl ⟨rfl, fun _ _ _ => rfl⟩) (by omega) ht1 ht2 hn
  have hM1 := hM.fr f1 (by decide) (by decide) (by decide)
  have key : ∃ x, f230_H44 n (fun w36 => some ((9 : Int32), w36)) n 67 (nI m) (nI t) (nI j) (nI (shN A)) (nI (hdN A)) (nI 0) (mW I1 L ru) = some (x, mW I1 L ru) ∧ crI A m t j x := by
    refine lpP (F := fun k i (_ : Unit) => f230_H44 n (fun w36 => some ((9 : Int32), w36)) k 67 (nI m) (nI t) (nI j) (nI (crS A m t i).1) (nI (crS A m t i).2) (nI i) (mW I1 L ru)) (P := fun y => ∃ x, y = some (x, mW I1 L ru) ∧ crI A m t j x) (J := fun i _ => i ≤ j ∧ ∀ u, u < i → rkN A (crS A m t u).1 = 0) t ?_ ?_ n 0 () (by omega) (by omega) ⟨by omega, fun u hu => absurd hu (Nat.not_lt_zero _)⟩
    · rintro k _ ⟨h1, -⟩
      omega
    · rintro k i _ hi ⟨h1, h2⟩ ih
      have hi2 : ¬ t ≤ i := by omega
      obtain ⟨o1, o2⟩ := crS_ok hW.1 m t i
      rcases one_or (rk_le hW.1 o1) with q | q
      · have hx := fun {rec24 : _} {K24 : _} {K38 : _} {j : Int32} => l230 (I := I1) (L := L) (ru := ru) (n := n) (rec24 := rec24) (K24 := K24) (K38 := K38) (j := j) hM1 hW.1 b1 (show m < 64 by omega) o1 o2 q hi ht2 (by omega)
        have hk := fkN_lt (brI A m t i (bvI A m t all7 (t - (i + 1))) (crS A m t i).1 (crS A m t i).2) (bvI A m t all7 (t - i) (crS A m t i).1 (crS A m t i).2)
        have hk : ckN A m t i (crS A m t i).1 (crS A m t i).2 < 3 := hk
        have hall : ∀ u, u < i + 1 → rkN A (crS A m t u).1 = 0 := fun u hu => by
          by_cases e : u = i
          · rw [e]; exact q
          · exact h2 u (by omega)
        by_cases e : i = j
        · subst e
          simp (config := { maxSteps := 2000000 }) (disch := omega) only [f230_H44, f230_J137, ux_at, ux_kk, ux_jo, gIm, pIm, pZm, gRm, aIm, sIm, aBm, sBm, gLm, pLm, clm, wshS, obS, reduceIte, Nat.one_ne_zero, Nat.zero_ne_one, Nat.reduceEqDiff, not_true_eq_false, not_false_eq_true, Nat.le_refl, ng_le, ng_lt, ng_nle, ng_nlt, ng_eq, ng_eq2, Bool.false_eq_true, lit_nI, nI_add, pk_mul, nI_leI, nI_ltI, nI_eq, mcA hM1, wfA hW.1, hi2, q, hx]
          exact ⟨_, rfl, Or.inl ⟨fun u hu => hall u (by omega), rfl⟩⟩
        · simp (config := { maxSteps := 2000000 }) (disch := omega) only [f230_H44, f230_J137, ux_at, ux_kk, ux_jo, gIm, pIm, pZm, gRm, aIm, sIm, aBm, sBm, gLm, pLm, clm, wshS, obS, reduceIte, Nat.one_ne_zero, Nat.zero_ne_one, Nat.reduceEqDiff, not_true_eq_false, not_false_eq_true, Nat.le_refl, ng_le, ng_lt, ng_nle, ng_nlt, ng_eq, ng_eq2, Bool.false_eq_true, lit_nI, nI_add, pk_mul, nI_leI, nI_ltI, nI_eq, mcA hM1, wfA hW.1, hi2, q, hx, e, s166 hM1 hW.1, s51]
          exact ih () ⟨by omega, hall⟩
      · simp (config := { maxSteps := 2000000 }) (disch := omega) only [f230_H44, ux_at, ux_kk, ux_jo, gIm, pIm, pZm, gRm, aIm, sIm, aBm, sBm, gLm, pLm, clm, wshS, obS, reduceIte, Nat.one_ne_zero, Nat.zero_ne_one, Nat.reduceEqDiff, not_true_eq_false, not_false_eq_true, Nat.le_refl, ng_le, ng_lt, ng_nle, ng_nlt, ng_eq, ng_eq2, Bool.false_eq_true, lit_nI, nI_add, pk_mul, nI_leI, nI_ltI, nI_eq, mcA hM1, wfA hW.1, hi2, q]
        exact ⟨_, rfl, Or.inr ⟨⟨i, h1, q⟩, rfl⟩⟩
  obtain ⟨x, k1, k2⟩ := key
  refine ⟨I1, x, ?_, ⟨f1.mono (by decide) (by decide), hC.fr f1 (by decide) (by decide) (by decide)⟩, k2⟩
  simp (config := { maxSteps := 2000000 }) (disch := omega) only [f230, ux_at, ux_kk, ux_jo, gIm, pIm, pZm, gRm, aIm, sIm, aBm, sBm, gLm, pLm, clm, wshS, obS, reduceIte, lit_lN, nI_eq, Nat.one_ne_zero, not_false_eq_true, show (0 : Int32) = nI 0 from rfl, show (1 : Int32) = nI 1 from rfl, mcA hM1, wfA hW.1, s119 hM hW.1 hm, s131, e1]
  exact k1
end
