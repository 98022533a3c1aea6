/-! THE REFERENCE'S voyage, sides -/
def vyT (A : St) (ρ : Nat → Nat) (g q seed t : Nat) : Nat := trnN A ρ g (vyS A ρ g q seed t).1.1 (vyS A ρ g q seed t).1.2.1 (vyS A ρ g q seed t).1.2.2.1 (drT A ρ (drA A q (vyS A ρ g q seed t).1.1 (vyS A ρ g q seed t).1.2.1 t (vyS A ρ g q seed t).2))
def vyG (A : St) (ρ : Nat → Nat) (g q seed m : Nat) : Nat := gonN A (fun t => (vyS A ρ g q seed t).1) m
abbrev vyK : List Nat := [82, 83, 85, 86, 87, 88, 89]
abbrev vyF : List Nat := [34, 45, 46, 47, 52, 53, 54, 60]
section
variable {I A : St} {L : Lt} {ru n : Nat}
/-- voyage -/
theorem m231 (hM : MC I A) (hW : WF A) (hC : CA I A) {r q m seed : Nat} (hr : r < nrN A) (hq : q ≤ 100) (hm1 : 1 ≤ m) (hm2 : m ≤ 99) (h60 : I 67 60 = nI seed) (hsd : seed < 2 ^ 31) (hn : 600 < n) :
    ∃ I', f231 n 67 (nI r) (nI q) (nI m) (mW I L ru) = some (nI (vyS A (ruN A r) (lagN A) q seed (vyG A (ruN A r) (lagN A) q seed m)).1.1, mW I' L ru) ∧ Fr scK (60 :: scF) I I' ∧ CA I' A ∧ I' 67 60 = nI (vyS A (ruN A r) (lagN A) q seed (vyG A (ruN A r) (lagN A) q seed m)).2 ∧ (vyS A (ruN A r) (lagN A) q seed (vyG A (ruN A r) (lagN A) q seed m)).2 < 2 ^ 31 := by
  have hR := (ruN_at hW.2 hr).1
  obtain ⟨o1, o2, o3⟩ := ship_ok hW.1
  obtain ⟨I1, e1, f1, u1⟩ := s54 (L := L) (ru := ru) hM hW.2 hr
  have hM1 := hM.fr f1 (by decide) (by decide) (by decide)
  have hC1 := hC.fr f1 (by decide) (by decide) (by decide)
  have hlg := lag_ok hW.1
  have hwf := wfA hW.1
  generalize hg : lagN A = g at *
  generalize hρ : ruN A r = ρ at *
  have hSo : ∀ t, ShOk (vyS A ρ g q seed t).1 := fun t => vyS_ok hW.1 hR t
  obtain ⟨I2, e2, f2, r2⟩ := s57 (I := I1) (L := L) (ru := ru) (S := fun t => (vyS A ρ g q seed t).1) (T := vyT A ρ g q seed) hM1 hlg o1 o2 rfl
  have hM2 := hM1.fr f2 (by decide) (by decide) (by decide)
  have hC2 := hC1.fr f2 (by decide) (by decide) (by decide)
  have hU2 := u1.fr f2 (by decide) (by decide) (by decide) (by decide) (by decide) (by decide)
  have key : ∃ I', f231_H60 n (fun e0 w60 => f231_J139 n e0 w60) n 67 (nI q) (nI m) (mW I2 L ru) = some (nI (vyS A ρ g q seed (vyG A ρ g q seed m)).1.1, mW I' L ru) ∧ Fr vyK vyF I2 I' ∧ CA I' A ∧ I' 67 60 = nI (vyS A ρ g q seed (vyG A ρ g q seed m)).2 ∧ (vyS A ρ g q seed (vyG A ρ g q seed m)).2 < 2 ^ 31 := by
    have fin : ∀ J t, Fr vyK vyF I2 J → CA J A → RN J A g (fun t => (vyS A ρ g q seed t).1) (vyT A ρ g q seed) t → t ≤ 99 → J 67 60 = nI (vyS A ρ g q seed t).2 → (vyS A ρ g q seed t).2 < 2 ^ 31 → vyG A ρ g q seed m = t → ∃ I', f231_J139 n 67 (mW J L ru) = some (nI (vyS A ρ g q seed (vyG A ρ g q seed m)).1.1, mW I' L ru) ∧ Fr vyK vyF I2 I' ∧ CA I' A ∧ I' 67 60 = nI (vyS A ρ g q seed (vyG A ρ g q seed m)).2 ∧ (vyS A ρ g q seed (vyG A ρ g q seed m)).2 < 2 ^ 31 := by
      intro J t a b c d e f h
      rw [h]
      obtain ⟨c1, -, -⟩ := c.1 t (Nat.le_refl _)
      have c2 := c.2.2.1
      simp (config := { maxSteps := 2000000 }) (disch := omega) only [f231_J139, ux_at, ux_kk, ux_jo, gIm, pIm, pZm, gRm, aIm, sIm, aBm, sBm, gLm, pLm, clm, wshS, obS, reduceIte, c2, c1]
      exact ⟨J, rfl, a, b, e, f⟩
    refine lpP (F := fun k t J => f231_H60 n (fun e0 w60 => f231_J139 n e0 w60) k 67 (nI q) (nI m) (mW J L ru)) (P := fun y => ∃ I', y = some (nI (vyS A ρ g q seed (vyG A ρ g q seed m)).1.1, mW I' L ru) ∧ Fr vyK vyF I2 I' ∧ CA I' A ∧ I' 67 60 = nI (vyS A ρ g q seed (vyG A ρ g q seed m)).2 ∧ (vyS A ρ g q seed (vyG A ρ g q seed m)).2 < 2 ^ 31) (J := fun t J => Fr vyK vyF I2 J ∧ CA J A ∧ RN J A g (fun t => (vyS A ρ g q seed t).1) (vyT A ρ g q seed) t ∧ vyG A ρ g q seed t = t ∧ J 67 60 = nI (vyS A ρ g q seed t).2 ∧ (vyS A ρ g q seed t).2 < 2 ^ 31) m ?_ ?_ n 0 I2 (by omega) (by omega) ⟨Fr.rf, hC2, r2, rfl, (f2.f (by decide) (by decide)).trans ((f1.f (by decide) (by decide)).trans h60), hsd⟩
    · rintro k J ⟨j1, j2, j3, j4, j5, j6⟩
      have c2 := j3.2.2.1
      have hf := fin J m j1 j2 j3 (by omega) j5 j6 j4
      simp (config := { maxSteps := 2000000 }) (disch := omega) only [f231_H60, ux_at, ux_kk, ux_jo, gIm, pIm, pZm, gRm, aIm, sIm, aBm, sBm, gLm, pLm, clm, wshS, obS, reduceIte, Nat.one_ne_zero, Nat.zero_ne_one, Nat.reduceEqDiff, not_true_eq_false, not_false_eq_true, Nat.le_refl, ng_le, ng_lt, ng_nle, ng_nlt, ng_eq, ng_eq2, Bool.false_eq_true, lit_nI, nI_add, pk_mul, nI_leI, nI_ltI, nI_eq, c2]
      exact hf
    · rintro k t J ht ⟨j1, j2, j3, j4, j5, j6⟩ ih
      have ht2 : ¬ m ≤ t := by omega
      have hM3 := hM2.fr j1 (by decide) (by decide) (by decide)
      have hU3 := hU2.fr j1 (by decide) (by decide) (by decide) (by decide) (by decide) (by decide)
      obtain ⟨p1, p2, p3, p4⟩ := hSo t
      obtain ⟨c1, c2, c3⟩ := j3.1 t (Nat.le_refl _)
      have r3 := j3.2.2.1
      have r4 := j3.2.2.2
      rcases one_or (rk_le hW.1 p1) with rk | rk
      · have st0 : J 67 52 = -nI 1 := by rw [r4, if_neg (fun z => by have h9 : rkN A (vyS A ρ g q seed t).1.1 = 1 := z.2; omega)]
        have hg2 : vyG A ρ g q seed (t + 1) = t + 1 := gonN_go j4 rk
        obtain ⟨J1, e3, f3, d3, d4, d5⟩ := s216 (L := L) (ru := ru) (n := n) (hour := t) hM3 hW j2.cf hU3 hR p1 p2 rk (by omega) hq j5 j6 (by omega)
        have hM4 := hM3.fr f3 (by decide) (by decide) (by decide)
        have hU4 := hU3.fr f3 (by decide) (by decide) (by decide) (by decide) (by decide) (by decide)
        have j7 := j3.fr f3 (by decide) (by decide) (by decide) (by decide) (by decide) (by decide) (by decide)
        obtain ⟨g1, g2, g3⟩ := j7.1 t (Nat.le_refl _)
        have g4 := j7.2.2.1
        have e4 := s170 (L := L) (ru := ru) (n := n) hM4 hW.1 hU4 hR p1 p2 (by omega)
        obtain ⟨J2, e5, f5, r5⟩ := s194 (L := L) (ru := ru) hM4 hW.1 hU4.2.2.2.1 hR hlg (show t < 400 by omega) (decN_lt (ρ 0) (ρ 1) (ρ 2) (drA A q (vyS A ρ g q seed t).1.1 (vyS A ρ g q seed t).1.2.1 t (vyS A ρ g q seed t).2).2.1 (drA A q (vyS A ρ g q seed t).1.1 (vyS A ρ g q seed t).1.2.1 t (vyS A ρ g q seed t).2).2.2.1) j7 (hSo t) rfl rfl
        have hM5 := hM4
        have el : J1 67 5 = nI g := ((mcA hM4).2.2.2.2.1).trans hwf.2.2.2.1
  
        unfold drT at e3
        simp (config := { maxSteps := 2000000 }) (disch := omega) only [f231_H60, ux_at, ux_kk, ux_jo, gIm, pIm, pZm, gRm, aIm, sIm, aBm, sBm, gLm, pLm, clm, wshS, obS, reduceIte, Nat.one_ne_zero, Nat.zero_ne_one, Nat.reduceEqDiff, not_true_eq_false, not_false_eq_true, Nat.le_refl, ng_le, ng_lt, ng_nle, ng_nlt, ng_eq, ng_eq2, Bool.false_eq_true, lit_nI, nI_add, pk_mul, nI_leI, nI_ltI, nI_eq, r3, st0, ht2, c1, c2, e3, g1, g2, g4, e4, el, e5]
        exact ih J2 ⟨j1.tr ((f3.mono (by decide) (by decide)).tr (f5.mono (by decide) (by decide))), d3.ca.fr f5 (by decide) (by decide) (by decide), r5, hg2, (f5.f (by decide) (by decide)).trans d4, d5⟩
      · have hstop := gonN_stop j4 (show ¬ rkN A (vyS A ρ g q seed t).1.1 = 0 by omega) (m - t)
        rw [show t + (m - t) = m by omega] at hstop
        by_cases t0 : t = 0
        · rw [t0] at rk
          have rk : rkN A (shN A) = 1 := rk
          omega
        · have st1 : J 67 52 = nI t := by rw [r4, if_pos ⟨t0, rk⟩]
          have hf := fin J t j1 j2 j3 (by omega) j5 j6 hstop
          simp (config := { maxSteps := 2000000 }) (disch := omega) only [f231_H60, ux_at, ux_kk, ux_jo, gIm, pIm, pZm, gRm, aIm, sIm, aBm, sBm, gLm, pLm, clm, wshS, obS, reduceIte, Nat.one_ne_zero, Nat.zero_ne_one, Nat.reduceEqDiff, not_true_eq_false, not_false_eq_true, Nat.le_refl, ng_le, ng_lt, ng_nle, ng_nlt, ng_eq, ng_eq2, Bool.false_eq_true, lit_nI, nI_add, pk_mul, nI_leI, nI_ltI, nI_eq, r3, st1, ht2, Nat.zero_le]
          exact hf
  obtain ⟨I3, k1, k2, k3, k4, k5⟩ := key
  refine ⟨I3, ?_, (f1.mono (by decide) (by decide)).tr ((f2.mono (by decide) (by decide)).tr (k2.mono (by decide) (by decide))), k3, k4, k5⟩
  have el : I1 67 5 = nI g := ((mcA hM1).2.2.2.2.1).trans hwf.2.2.2.1
  have es : I1 67 0 = nI (shN A) := ((mcA hM1).1).trans hwf.2.1
  have eh : I1 67 1 = nI (hdN A) := ((mcA hM1).2.1).trans hwf.2.2.1
  simp (config := { maxSteps := 2000000 }) (disch := omega) only [f231, ux_at, ux_kk, ux_jo, gIm, pIm, pZm, gRm, aIm, sIm, aBm, sBm, gLm, pLm, clm, wshS, obS, reduceIte, lit_lN, nI_eq, Nat.one_ne_zero, not_false_eq_true, show (0 : Int32) = nI 0 from rfl, s126 hM hW.2 hr, s40i, e1, el, es, eh, e2]
  exact k1
abbrev sdF : List Nat := [34, 45, 46, 47, 52, 53, 54, 55]
/-- sides -/
theorem m246 (hM : MC I A) (hW : WF A) (hC : CA I A) {r c what : Nat} (hr : r < nrN A) (hc : c < 64) (hw : what ≤ 2) (hn : 600 < n) :
    ∃ I', f246 n 67 (nI r) (nI c) (nI what) (mW I L ru) = some (nI (sumN (sdN2 A (ruN A r) (lagN A) c what) 512), mW I' L ru) ∧ Qm A I I' := by
  have hR := (ruN_at hW.2 hr).1
  obtain ⟨I1, e1, f1, u1⟩ := s54 (L := L) (ru := ru) hM hW.2 hr
  have hM1 := hM.fr f1 (by decide) (by decide) (by decide)
  have hC1 := hC.fr f1 (by decide) (by decide) (by decide)
  have hlg := lag_ok hW.1
  have hwf := wfA hW.1
  generalize hg : lagN A = g at *
  generalize hρ : ruN A r = ρ at *
  have hle : ∀ u, sdN2 A ρ g c what u ≤ 1 := fun u => by
    unfold sdN2
    split
    · exact Nat.zero_le _
    · exact chN_le _
  have hsl : ∀ i, i ≤ 512 → sumN (sdN2 A ρ g c what) i ≤ 512 := fun i hi => by
    have := sumN_le (f := sdN2 A ρ g c what) (c := 1) (n := i) fun u _ => hle u
    omega
  have key : ∃ I', f246_H45 n (fun e w => some (e, w)) n 67 (nI c) (nI what) (nI 0) (nI 0) (mW I1 L ru) = some (nI (sumN (sdN2 A ρ g c what) 512), mW I' L ru) ∧ Fr vyK sdF I1 I' ∧ CA I' A := by
    refine lpP (F := fun k i J => f246_H45 n (fun e w => some (e, w)) k 67 (nI c) (nI what) (nI (sumN (sdN2 A ρ g c what) i)) (nI i) (mW J L ru)) (P := fun y => ∃ I', y = some (nI (sumN (sdN2 A ρ g c what) 512), mW I' L ru) ∧ Fr vyK sdF I1 I' ∧ CA I' A) (J := fun i J => Fr vyK sdF I1 J ∧ CA J A) 512 ?_ ?_ n 0 I1 (by omega) (by omega) ⟨Fr.rf, hC1⟩
    · rintro k J ⟨j1, j2⟩
      simp (config := { maxSteps := 2000000 }) (disch := omega) only [f246_H45, ux_at, ux_kk, ux_jo, gIm, pIm, pZm, gRm, aIm, sIm, aBm, sBm, gLm, pLm, clm, wshS, obS, reduceIte, Nat.one_ne_zero, Nat.zero_ne_one, Nat.reduceEqDiff, not_true_eq_false, not_false_eq_true, Nat.le_refl, ng_le, ng_lt, ng_nle, ng_nlt, ng_eq, ng_eq2, Bool.false_eq_true, lit_nI, nI_add, pk_mul, nI_leI, nI_ltI, nI_eq]
      exact ⟨J, rfl, j1, j2⟩
    · rintro k u J hu ⟨j1, j2⟩ ih
      have hu2 : ¬ 512 ≤ u := by omega
      have hM2 := hM1.fr j1 (by decide) (by decide) (by decide)
      have hU2 := u1.fr j1 (by decide) (by decide) (by decide) (by decide) (by decide) (by decide)
      have hc8 : u / 8 < 64 := by omega
      have hh8 : u % 8 < 8 := Nat.mod_lt _ (by decide)
      have hsu := hsl u (by omega)
      have e9 : sumN (sdN2 A ρ g c what) (u + 1) = sumN (sdN2 A ρ g c what) u + sdN2 A ρ g c what u := rfl
      rcases one_or (rk_le hW.1 hc8) with rk | rk
      · have e8 : sdN2 A ρ g c what u = chN (sdP A ρ g c what (rnS A ρ g (u / 8) (u % 8))) := by
          unfold sdN2
          rw [if_neg (by omega)]
        obtain ⟨J1, e2, f2, d2, r2⟩ := s228 (L := L) (ru := ru) (n := n) (hours := 400) hM2 hW j2.cf hU2 hR hlg hc8 hh8 rk (by decide) (by omega)
        have hM3 := hM2.fr f2 (by decide) (by decide) (by decide)
        have el : J 67 5 = nI g := ((mcA hM2).2.2.2.2.1).trans hwf.2.2.2.1
        have er : J 68 (u / 8) = nI 0 := by rw [(mcA hM2).2.2.2.2.2.2.2.2.2.2.1, hwf.2.2.2.2.2 _ hc8, rk]
        have q2 : Fr vyK sdF I1 J1 ∧ CA J1 A := ⟨j1.tr (f2.mono (by decide) (by decide)), d2.ca⟩
        have hSo := fun t => rnS_ok hW.1 hR (g := g) hc8 hh8 t
        have hSl := fun t => rnS_lt (A := A) (ρ := ρ) (g := g) (c := u / 8) (h := u % 8) t
        have hG := gonN_le A (rnS A ρ g (u / 8) (u % 8)) 400
        have st := r2.2.2.2
        generalize hS : rnS A ρ g (u / 8) (u % 8) = S at *
        generalize hGG : gonN A S 400 = G at *
        have hcw : what = 0 ∨ what = 1 ∨ what = 2 := by omega
        rcases hcw with rfl | rfl | rfl
        · have hp : sdP A ρ g c 0 S ↔ (G ≠ 0 ∧ rkN A (S G).1 = 1) := by
            unfold sdP
            rw [if_pos rfl, hGG]
          by_cases hs : G ≠ 0 ∧ rkN A (S G).1 = 1
          · rw [if_pos hs] at st
            rw [e8, chN_t (hp.mpr hs)] at e9
            simp (config := { maxSteps := 2000000 }) (disch := omega) only [f246_H45, f246_J139, ux_at, ux_kk, ux_jo, gIm, pIm, pZm, gRm, aIm, sIm, aBm, sBm, gLm, pLm, clm, wshS, obS, reduceIte, Nat.one_ne_zero, Nat.zero_ne_one, Nat.reduceEqDiff, not_true_eq_false, not_false_eq_true, Nat.le_refl, ng_le, ng_lt, ng_nle, ng_nlt, ng_eq, ng_eq2, Bool.false_eq_true, lit_nI, nI_add, pk_mul, nI_leI, nI_ltI, nI_eq, hu2, pk_div, irm_nI, el, er, e2, st, Nat.not_lt_zero, ← e9]
            exact ih J1 q2
          · rw [if_neg hs] at st
            rw [e8, chN_f (fun z => hs (hp.mp z))] at e9
            simp (config := { maxSteps := 2000000 }) (disch := omega) only [f246_H45, f246_J139, ux_at, ux_kk, ux_jo, gIm, pIm, pZm, gRm, aIm, sIm, aBm, sBm, gLm, pLm, clm, wshS, obS, reduceIte, Nat.one_ne_zero, Nat.zero_ne_one, Nat.reduceEqDiff, not_true_eq_false, not_false_eq_true, Nat.le_refl, ng_le, ng_lt, ng_nle, ng_nlt, ng_eq, ng_eq2, Bool.false_eq_true, lit_nI, nI_add, pk_mul, nI_leI, nI_ltI, nI_eq, hu2, pk_div, irm_nI, el, er, e2, st, ← e9]
            exact ih J1 q2
        · have hp : sdP A ρ g c 1 S ↔ (¬ (G ≠ 0 ∧ rkN A (S G).1 = 1) ∧ ∃ t j, RDy S (prdN A) G t j) := by
            unfold sdP
            rw [if_neg (by decide), if_pos rfl, hGG]
          by_cases hs : G ≠ 0 ∧ rkN A (S G).1 = 1
          · have e3 := s173s (L := L) (ru := ru) (n := n) hM3 hW.1 r2 hG hs (by omega)
            rw [e8, chN_f (fun z => (hp.mp z).1 hs)] at e9
            simp (config := { maxSteps := 2000000 }) (disch := omega) only [f246_H45, f246_J139, ux_at, ux_kk, ux_jo, gIm, pIm, pZm, gRm, aIm, sIm, aBm, sBm, gLm, pLm, clm, wshS, obS, reduceIte, Nat.one_ne_zero, Nat.zero_ne_one, Nat.reduceEqDiff, not_true_eq_false, not_false_eq_true, Nat.le_refl, ng_le, ng_lt, ng_nle, ng_nlt, ng_eq, ng_eq2, Bool.false_eq_true, lit_nI, nI_add, pk_mul, nI_leI, nI_ltI, nI_eq, hu2, pk_div, irm_nI, el, er, e2, e3, ← e9]
            exact ih J1 q2
          · rcases s173 (L := L) (ru := ru) (n := n) hM3 hW.1 r2 hlg hSo hSl hG hs (by omega) with ⟨d, e3⟩ | ⟨t, j, d, e3⟩
            · have hno : ¬ ∃ t j, RDy S (prdN A) G t j := fun ⟨t, j, z⟩ => d t z.1 j z.2.1
              rw [e8, chN_f (fun z => hno (hp.mp z).2)] at e9
              simp (config := { maxSteps := 2000000 }) (disch := omega) only [f246_H45, f246_J139, ux_at, ux_kk, ux_jo, gIm, pIm, pZm, gRm, aIm, sIm, aBm, sBm, gLm, pLm, clm, wshS, obS, reduceIte, Nat.one_ne_zero, Nat.zero_ne_one, Nat.reduceEqDiff, not_true_eq_false, not_false_eq_true, Nat.le_refl, ng_le, ng_lt, ng_nle, ng_nlt, ng_eq, ng_eq2, Bool.false_eq_true, lit_nI, nI_add, pk_mul, nI_leI, nI_ltI, nI_eq, hu2, pk_div, irm_nI, el, er, e2, e3, ← e9]
              exact ih J1 q2
            · have ht := d.1
              rw [e8, chN_t (hp.mpr ⟨hs, t, j, d⟩)] at e9
              simp (config := { maxSteps := 2000000 }) (disch := omega) only [f246_H45, f246_J139, ux_at, ux_kk, ux_jo, gIm, pIm, pZm, gRm, aIm, sIm, aBm, sBm, gLm, pLm, clm, wshS, obS, reduceIte, Nat.one_ne_zero, Nat.zero_ne_one, Nat.reduceEqDiff, not_true_eq_false, not_false_eq_true, Nat.le_refl, ng_le, ng_lt, ng_nle, ng_nlt, ng_eq, ng_eq2, Bool.false_eq_true, lit_nI, nI_add, pk_mul, nI_leI, nI_ltI, nI_eq, hu2, pk_div, irm_nI, el, er, e2, e3, Nat.not_lt_zero, ← e9]
              exact ih _ ⟨q2.1.uf (by decide), q2.2.fr (Fr.rf.uf (j := 55) (F := [55]) (K := []) (by decide)) (by decide) (by decide) (by decide)⟩
        · have hp : sdP A ρ g c 2 S ↔ ∃ t, t ≤ G ∧ (S t).1 = c := by
            unfold sdP
            rw [if_neg (by decide), if_neg (by decide), hGG]
          obtain ⟨x, e3, x3⟩ := s59 (L := L) (ru := ru) (n := n) r2 hSo hc hG (by omega)
          rcases x3 with ⟨t, t1, t2, -, rfl⟩ | ⟨x1, rfl⟩
          · rw [e8, chN_t (hp.mpr ⟨t, by omega, t2⟩)] at e9
            simp (config := { maxSteps := 2000000 }) (disch := omega) only [f246_H45, f246_J139, ux_at, ux_kk, ux_jo, gIm, pIm, pZm, gRm, aIm, sIm, aBm, sBm, gLm, pLm, clm, wshS, obS, reduceIte, Nat.one_ne_zero, Nat.zero_ne_one, Nat.reduceEqDiff, not_true_eq_false, not_false_eq_true, Nat.le_refl, ng_le, ng_lt, ng_nle, ng_nlt, ng_eq, ng_eq2, Bool.false_eq_true, lit_nI, nI_add, pk_mul, nI_leI, nI_ltI, nI_eq, hu2, pk_div, irm_nI, el, er, e2, e3, Nat.not_lt_zero, ← e9]
            exact ih J1 q2
          · rw [e8, chN_f (fun z => by obtain ⟨t, t1, t2⟩ := hp.mp z; exact x1 t (by omega) t2)] at e9
            simp (config := { maxSteps := 2000000 }) (disch := omega) only [f246_H45, f246_J139, ux_at, ux_kk, ux_jo, gIm, pIm, pZm, gRm, aIm, sIm, aBm, sBm, gLm, pLm, clm, wshS, obS, reduceIte, Nat.one_ne_zero, Nat.zero_ne_one, Nat.reduceEqDiff, not_true_eq_false, not_false_eq_true, Nat.le_refl, ng_le, ng_lt, ng_nle, ng_nlt, ng_eq, ng_eq2, Bool.false_eq_true, lit_nI, nI_add, pk_mul, nI_leI, nI_ltI, nI_eq, hu2, pk_div, irm_nI, el, er, e2, e3, ← e9]
            exact ih J1 q2
      · have e8 : sdN2 A ρ g c what u = 0 := if_pos rk
        have er : J 68 (u / 8) = nI 1 := by rw [(mcA hM2).2.2.2.2.2.2.2.2.2.2.1, hwf.2.2.2.2.2 _ hc8, rk]
        rw [e8, Nat.add_zero] at e9
        simp (config := { maxSteps := 2000000 }) (disch := omega) only [f246_H45, f246_J139, ux_at, ux_kk, ux_jo, gIm, pIm, pZm, gRm, aIm, sIm, aBm, sBm, gLm, pLm, clm, wshS, obS, reduceIte, Nat.one_ne_zero, Nat.zero_ne_one, Nat.reduceEqDiff, not_true_eq_false, not_false_eq_true, Nat.le_refl, ng_le, ng_lt, ng_nle, ng_nlt, ng_eq, ng_eq2, Bool.false_eq_true, lit_nI, nI_add, pk_mul, nI_leI, nI_ltI, nI_eq, hu2, pk_div, er]
        have h9 := ih J ⟨j1, j2⟩
        rw [e9] at h9
        exact h9
  obtain ⟨I2, k1, k2, k3⟩ := key
  refine ⟨I2, ?_, ⟨(f1.mono (by decide) (by decide)).tr (k2.mono (by decide) (by decide)), k3⟩⟩
  simp (config := { maxSteps := 2000000 }) (disch := omega) only [f246, ux_at, ux_kk, ux_jo, gIm, pIm, pZm, gRm, aIm, sIm, aBm, sBm, gLm, pLm, clm, wshS, obS, reduceIte, lit_lN, nI_eq, Nat.one_ne_zero, not_false_eq_true, show (0 : Int32) = nI 0 from rfl, s126 hM hW.2 hr, s118, s40i, e1]
  exact k1
end
