/-! THE REFERENCE'S gain, pact, bestRule -/
/-- gain of a set -/
def gnI (A : St) (ρ : Nat → Nat) (m t : Nat) : Int32 := bvI A m t (mayN A ρ m) t (shN A) (hdN A) - valI A m (shS A ρ 0) (gonN A (shS A ρ 0) t) t
/-- the sum of the gains of its sorts, each alone -/
def apI (A : St) (ρ : Nat → Nat) (m t : Nat) : Int32 := sumI (fun s => if m.testBit s then gnI A ρ (2 ^ s) t else nI 0) (nsN A)
/-- how many sorts there are in a set, of the first i -/
def bcN (m : Nat) (i : Nat) : Nat := sumN (fun s => bN m s) i
/-- the short rule of a number -/
def shrN (k q : Nat) : Nat := if q = 0 then k / 50 else if q = 1 then k / 5 % 10 else if q = 2 then 0 else if q = 3 then (if k % 5 = 0 then 1 else if k % 5 % 2 = 1 then 0 else 2) else (if k % 5 = 0 then 0 else (k % 5 + 1) / 2)
theorem shrN_ok {k : Nat} (h : k < 200) : RK (shrN k) := by
  have e0 : shrN k 0 = k / 50 := rfl
  have e1 : shrN k 1 = k / 5 % 10 := rfl
  have e2 : shrN k 2 = 0 := rfl
  have e3 : shrN k 3 = if k % 5 = 0 then 1 else if k % 5 % 2 = 1 then 0 else 2 := rfl
  have e4 : shrN k 4 = if k % 5 = 0 then 0 else (k % 5 + 1) / 2 := rfl
  have hq : k % 5 = 0 ∨ k % 5 = 1 ∨ k % 5 = 2 ∨ k % 5 = 3 ∨ k % 5 = 4 := by omega
  have h34 : shrN k 3 < 3 ∧ shrN k 4 ≤ 7 ∧ (shrN k 3 = 1 → shrN k 4 = 0) := by
    rw [e3, e4]
    rcases hq with q | q | q | q | q <;> rw [q] <;> decide
  exact ⟨by omega, by omega, by omega, h34.1, h34.2.1, h34.2.2⟩
def vkI (A : St) (m t k : Nat) : Int32 := valI A m (shS A (shrN k) (lagN A)) (gonN A (shS A (shrN k) (lagN A)) t) t
/-- the best of the first i short rules, and its worth -/
def brS (A : St) (m t : Nat) : Nat → Nat × Int32
  | 0 => (0, nI 0)
  | i + 1 => if i = 0 ∨ ¬ vkI A m t i ≤ (brS A m t i).2 then (i, vkI A m t i) else brS A m t i
theorem brS_lt (A : St) (m t : Nat) : ∀ i, 0 < i → (brS A m t i).1 < i
  | 0, h => absurd h (Nat.lt_irrefl _)
  | i + 1, _ => by
    unfold brS
    split
    · exact Nat.lt_succ_self _
    · rename_i h
      have : 0 < i := by
        rcases Nat.eq_zero_or_pos i with q | q
        · exact absurd (Or.inl q) h
        · exact q
      exact Nat.lt_succ_of_lt (brS_lt A m t i this)
section
variable {I A : St} {L : Lt} {ru n : Nat}
theorem s253 (hM : MC I A) (hW : WF A) (hC : CA I A) {ρ : Nat → Nat} (hU : RU I ρ) (hR : RK ρ) {m t : Nat} (hm : m < 64) (ht1 : 1 ≤ t) (ht2 : t ≤ 24) (hn : 600 < n) :
    ∃ I', f253 n 67 (nI m) (nI t) (mW I L ru) = some (gnI A ρ m t, mW I' L ru) ∧ Fr [82, 83, 85, 86, 87, 88, 89, 91] [34, 45, 46, 47, 52, 53, 54] I I' ∧ CA I' A := by
  obtain ⟨I1, e1, f1, p1, t1⟩ := s191 (L := L) (ru := ru) hM hW hC (show 100 < n by omega)
  have hM1 := hM.fr f1 (by decide) (by decide) (by decide)
  have hU1 := hU.fr f1 (by decide) (by decide) (by decide) (by decide) (by decide) (by decide)
  obtain ⟨I2, e2, f2, c2⟩ := s245 (L := L) (ru := ru) (n := n) (g := 0) (m := m) (hours := t) (f := 1) hM1 hW (Or.inr ⟨p1, t1⟩) hU1 hR (by decide) hm (by omega) (by omega)
  have hM2 := hM1.fr f2 (by decide) (by decide) (by decide)
  have hU2 := hU1.fr f2 (by decide) (by decide) (by decide) (by decide) (by decide) (by decide)
  obtain ⟨o1, o2, o3⟩ := ship_ok hW.1
  have t2 : TB I2 A := (c2.on (by decide)).2
  have hMy : HMay I2 A L ru n m 0 t (mayN A ρ m) := Or.inr ⟨rfl, fun J f hour c h a b d e => ⟨mayN_lt hR m hour c h, s205 (hM2.fr f (by decide) (by decide) (by decide)) hW (DN.fr t2 f (by decide)) (hU2.fr f (by decide) (by decide) (by decide) (by decide) (by decide) (by decide)) hR hm b d e (by omega) (by omega)⟩⟩
  obtain ⟨I3, e3, f3, b3⟩ := s215 (L := L) (ru := ru) hM2 hW.1 hMy hm ht1 ht2 hn
  have hM3 := hM2.fr f3 (by decide) (by decide) (by decide)
  have b4 := b3 0 (Nat.zero_le _) (shN A) (hdN A) o1 o2 o3
  rw [Nat.sub_zero] at b4
  have b5 : I3 91 (8 * shN A + hdN A) = bvI A m t (mayN A ρ m) t (shN A) (hdN A) := by
    rw [← b4]
    congr 1
    omega
  refine ⟨I3, ?_, (f1.mono (by decide) (by decide)).tr ((f2.mono (by decide) (by decide)).tr (f3.mono (by decide) (by decide))), c2.ca.fr f3 (by decide) (by decide) (by decide)⟩
  simp (config := { maxSteps := 2000000 }) (disch := omega) only [f253, ux_at, ux_kk, ux_jo, gIm, pIm, pZm, gRm, aIm, sIm, aBm, sBm, gLm, pLm, clm, wshS, obS, reduceIte, Nat.one_ne_zero, Nat.zero_ne_one, Nat.reduceEqDiff, not_true_eq_false, not_false_eq_true, Nat.le_refl, ng_le, ng_lt, ng_nle, ng_nlt, ng_eq, ng_eq2, Bool.false_eq_true, lit_nI, nI_add, pk_mul, nI_leI, nI_ltI, nI_eq, mcA hM3, wfA hW.1, e1, e2, e3, b5, gnI]
abbrev gnK : List Nat := [82, 83, 85, 86, 87, 88, 89, 91]
abbrev gnF : List Nat := [34, 45, 46, 47, 52, 53, 54]
/-- gain -/
theorem m255 (hM : MC I A) (hW : WF A) (hC : CA I A) {r m t : Nat} (hr : r < nrN A) (hm : m < 2 ^ nsN A) (ht1 : 1 ≤ t) (ht2 : t ≤ 24) (hn : 600 < n) :
    ∃ I', f255 n 67 (nI r) (nI m) (nI t) (mW I L ru) = some (gnI A (ruN A r) m t, mW I' L ru) ∧ Qm A I I' := by
  obtain ⟨I1, e1, f1, u1⟩ := s54 (L := L) (ru := ru) hM hW.2 hr
  have hM1 := hM.fr f1 (by decide) (by decide) (by decide)
  have hC1 := hC.fr f1 (by decide) (by decide) (by decide)
  have h6 := ns6 hW.1
  have h7 := p2_le (nsN A) (by omega)
  obtain ⟨I2, e2, f2, c2⟩ := s253 (L := L) (ru := ru) (n := n) (m := m) hM1 hW hC1 u1 (ruN_at hW.2 hr).1 (by omega) ht1 ht2 hn
  refine ⟨I2, ?_, (f1.mono (by decide) (by decide)).tr (f2.mono (by decide) (by decide)), c2⟩
  simp (config := { maxSteps := 2000000 }) (disch := omega) only [f255, ux_at, ux_kk, ux_jo, gIm, pIm, pZm, gRm, aIm, sIm, aBm, sBm, gLm, pLm, clm, wshS, obS, reduceIte, Nat.one_ne_zero, Nat.zero_ne_one, Nat.reduceEqDiff, not_true_eq_false, not_false_eq_true, Nat.le_refl, ng_le, ng_lt, ng_nle, ng_nlt, ng_eq, ng_eq2, Bool.false_eq_true, lit_nI, nI_add, pk_mul, nI_leI, nI_ltI, nI_eq, s126 hM hW.2 hr, s119 hM hW.1 hm, s131, e1, e2]
/-- a pact that gains -/
def pcP (A : St) (ρ : Nat → Nat) (t m : Nat) : Prop := 1 ≤ m ∧ 1 < bcN m (nsN A) ∧ ¬ gnI A ρ m t ≤ apI A ρ m t
theorem p2_lt64 : ∀ k, k < 6 → 2 ^ k < 64 := by decide
theorem bN_le (m k : Nat) : bN m k ≤ 1 := by
  unfold bN
  split <;> decide
theorem bcN_le (m : Nat) : ∀ i, bcN m i ≤ i
  | 0 => Nat.le_refl _
  | i + 1 => by
    have h1 := bcN_le m i
    have h2 := bN_le m i
    show bcN m i + bN m i ≤ i + 1
    omega
theorem l256 (hM : MC I A) (hW : WFs A) {ρ : Nat → Nat} {t m : Nat} (hO : ∀ s, s < nsN A → I 92 s = gnI A ρ (2 ^ s) t) (hm : m < 64) (hn : 6 < n) {rec37 : _} {K37 : _} {K49 : Nat → Int32 → Int32 → Int32 → Int32 → Wd → Option (Int32 × Wd)} {tt : Int32} :
    f256_H83 n rec37 K37 K49 n 67 tt (nI m) (nI 0) (nI 0) (nI 0) (mW I L ru) = K49 67 tt (nI m) (apI A ρ m t) (nI (bcN m (nsN A))) (mW I L ru) := by
  have h6 := ns6 hW
  refine lpE (F := fun k i (s : Int32 × Nat) => f256_H83 n rec37 K37 K49 k 67 tt (nI m) s.1 (nI s.2) (nI i) (mW I L ru)) (J := fun i => (sumI (fun s => if m.testBit s then gnI A ρ (2 ^ s) t else nI 0) i, bcN m i)) (nsN A) ?_ ?_ n 0 (Nat.zero_le _) (by omega)
  · intro k
    simp (config := { maxSteps := 2000000 }) (disch := omega) only [f256_H83, ux_at, ux_kk, ux_jo, gIm, pIm, pZm, gRm, aIm, sIm, aBm, sBm, gLm, pLm, clm, wshS, obS, reduceIte, Nat.one_ne_zero, Nat.zero_ne_one, Nat.reduceEqDiff, not_true_eq_false, not_false_eq_true, Nat.le_refl, ng_le, ng_lt, ng_nle, ng_nlt, ng_eq, ng_eq2, Bool.false_eq_true, lit_nI, nI_add, pk_mul, nI_leI, nI_ltI, nI_eq, mcA hM, wfA hW, apI]
  · intro k i hi
    have hi2 : ¬ nsN A ≤ i := by omega
    have e1 : sumI (fun s => if m.testBit s then gnI A ρ (2 ^ s) t else nI 0) (i + 1) = sumI (fun s => if m.testBit s then gnI A ρ (2 ^ s) t else nI 0) i + (if m.testBit i then gnI A ρ (2 ^ i) t else nI 0) := rfl
    have e2 : bcN m (i + 1) = bcN m i + bN m i := rfl
    have hb2 := bcN_le m i
    rw [e1, e2]
    generalize sumI (fun s => if m.testBit s then gnI A ρ (2 ^ s) t else nI 0) i = z
    by_cases hb : m.testBit i
    · simp (config := { maxSteps := 2000000 }) (disch := omega) only [f256_H83, f256_J114, f256_J133, ux_at, ux_kk, ux_jo, gIm, pIm, pZm, gRm, aIm, sIm, aBm, sBm, gLm, pLm, clm, wshS, obS, reduceIte, Nat.one_ne_zero, Nat.zero_ne_one, Nat.reduceEqDiff, not_true_eq_false, not_false_eq_true, Nat.le_refl, ng_le, ng_lt, ng_nle, ng_nlt, ng_eq, ng_eq2, Bool.false_eq_true, lit_nI, nI_add, pk_mul, nI_leI, nI_ltI, nI_eq, mcA hM, wfA hW, hi2, s45, bN, hb, hO]
    · simp (config := { maxSteps := 2000000 }) (disch := omega) only [f256_H83, f256_J114, f256_J133, ux_at, ux_kk, ux_jo, gIm, pIm, pZm, gRm, aIm, sIm, aBm, sBm, gLm, pLm, clm, wshS, obS, reduceIte, Nat.one_ne_zero, Nat.zero_ne_one, Nat.reduceEqDiff, not_true_eq_false, not_false_eq_true, Nat.le_refl, ng_le, ng_lt, ng_nle, ng_nlt, ng_eq, ng_eq2, Bool.false_eq_true, lit_nI, nI_add, pk_mul, nI_leI, nI_ltI, nI_eq, mcA hM, wfA hW, hi2, s45, bN, hb]
theorem m256 (hM : MC I A) (hW : WF A) (hC : CA I A) {r t : Nat} (hr : r < nrN A) (ht1 : 1 ≤ t) (ht2 : t ≤ 12) (hn : 600 < n) :
    ∃ I' x, f256 n 67 (nI r) (nI t) (mW I L ru) = some (x, mW I' L ru) ∧ Qm A I I' ∧ FST (pcP A (ruN A r) t) (2 ^ nsN A) x := by
  obtain ⟨I1, e1, f1, u1⟩ := s54 (L := L) (ru := ru) hM hW.2 hr
  have hM1 := hM.fr f1 (by decide) (by decide) (by decide)
  have hC1 := hC.fr f1 (by decide) (by decide) (by decide)
  have h6 := ns6 hW.1
  have h7 := p2_le (nsN A) (by omega)
  have hR := (ruN_at hW.2 hr).1
  generalize hρ : ruN A r = ρ at *
  -- the second loop
  have key2 : ∀ J, Fr scK scF I1 J → CA J A → RU J ρ → (∀ s, s < nsN A → J 92 s = gnI A ρ (2 ^ s) t) → ∃ I' x, f256_H64 n (fun w40 => some ((-1 : Int32), w40)) n 67 (nI t) (nI 1) (mW J L ru) = some (x, mW I' L ru) ∧ (Fr scK scF I1 I' ∧ CA I' A) ∧ FST (pcP A ρ t) (2 ^ nsN A) x := by
    intro J0 g1 g2 g3 g4
    by_cases h0 : 2 ^ nsN A ≤ 1
    · obtain ⟨k, hk⟩ : ∃ k, n = k + 1 := ⟨n - 1, by omega⟩
      have hM2 := hM1.fr g1 (by decide) (by decide) (by decide)
      have e : ∀ k, f256_H64 n (fun w40 => some ((-1 : Int32), w40)) (k + 1) 67 (nI t) (nI 1) (mW J0 L ru) = some (-nI 1, mW J0 L ru) := fun k => by
        simp (config := { maxSteps := 2000000 }) (disch := omega) only [f256_H64, ux_at, ux_kk, ux_jo, gIm, pIm, pZm, gRm, aIm, sIm, aBm, sBm, gLm, pLm, clm, wshS, obS, reduceIte, Nat.one_ne_zero, Nat.zero_ne_one, Nat.reduceEqDiff, not_true_eq_false, not_false_eq_true, Nat.le_refl, ng_le, ng_lt, ng_nle, ng_nlt, ng_eq, ng_eq2, Bool.false_eq_true, lit_nI, nI_add, pk_mul, nI_leI, nI_ltI, nI_eq, mcA hM2, wfA hW.1, shl_nI, h0]
      have e2 : ∀ k, k = n → f256_H64 n (fun w40 => some ((-1 : Int32), w40)) k 67 (nI t) (nI 1) (mW J0 L ru) = some (-nI 1, mW J0 L ru) := fun k q => by
        obtain ⟨k', rfl⟩ : ∃ k', k = k' + 1 := ⟨k - 1, by omega⟩
        exact e k'
      refine ⟨J0, -nI 1, e2 n rfl, ⟨g1, g2⟩, Or.inr ⟨fun u hu q => ?_, rfl⟩⟩
      have := q.1
      omega
    · refine lpP (F := fun k m J => f256_H64 n (fun w40 => some ((-1 : Int32), w40)) k 67 (nI t) (nI m) (mW J L ru)) (P := fun y => ∃ I' x, y = some (x, mW I' L ru) ∧ (Fr scK scF I1 I' ∧ CA I' A) ∧ FST (pcP A ρ t) (2 ^ nsN A) x) (J := fun m J => (Fr scK scF I1 J ∧ CA J A) ∧ RU J ρ ∧ (∀ s, s < nsN A → J 92 s = gnI A ρ (2 ^ s) t) ∧ ∀ u, u < m → ¬ pcP A ρ t u) (2 ^ nsN A) ?_ ?_ n 1 J0 (by omega) (by omega) ⟨⟨g1, g2⟩, g3, g4, fun u hu q => ?_⟩
      · rintro k J ⟨j1, j2, j3, j4⟩
        have hM2 := hM1.fr j1.1 (by decide) (by decide) (by decide)
        simp (config := { maxSteps := 2000000 }) (disch := omega) only [f256_H64, ux_at, ux_kk, ux_jo, gIm, pIm, pZm, gRm, aIm, sIm, aBm, sBm, gLm, pLm, clm, wshS, obS, reduceIte, Nat.one_ne_zero, Nat.zero_ne_one, Nat.reduceEqDiff, not_true_eq_false, not_false_eq_true, Nat.le_refl, ng_le, ng_lt, ng_nle, ng_nlt, ng_eq, ng_eq2, Bool.false_eq_true, lit_nI, nI_add, pk_mul, nI_leI, nI_ltI, nI_eq, mcA hM2, wfA hW.1, shl_nI]
        exact ⟨J, _, rfl, j1, Or.inr ⟨j4, rfl⟩⟩
      · rintro k m J hm ⟨j1, j2, j3, j4⟩ ih
        have hM2 := hM1.fr j1.1 (by decide) (by decide) (by decide)
        have hm2 : ¬ 2 ^ nsN A ≤ m := by omega
        have hx := fun {rec37 : _} {K37 : _} {K49 : _} {tt : Int32} => l256 (I := J) (L := L) (ru := ru) (n := n) (rec37 := rec37) (K37 := K37) (K49 := K49) (tt := tt) (t := t) (ρ := ρ) hM2 hW.1 j3 (show m < 64 by omega) (by omega)
        have hbc := bcN_le m (nsN A)
        by_cases hb : bcN m (nsN A) ≤ 1
        · simp (config := { maxSteps := 2000000 }) (disch := omega) only [f256_H64, ux_at, ux_kk, ux_jo, gIm, pIm, pZm, gRm, aIm, sIm, aBm, sBm, gLm, pLm, clm, wshS, obS, reduceIte, Nat.one_ne_zero, Nat.zero_ne_one, Nat.reduceEqDiff, not_true_eq_false, not_false_eq_true, Nat.le_refl, ng_le, ng_lt, ng_nle, ng_nlt, ng_eq, ng_eq2, Bool.false_eq_true, lit_nI, nI_add, pk_mul, nI_leI, nI_ltI, nI_eq, mcA hM2, wfA hW.1, shl_nI, hm2, hx, hb]
          refine ih J ⟨j1, j2, j3, fun u hu q => ?_⟩
          by_cases e : u = m
          · rw [e] at q
            have := q.2.1
            omega
          · exact j4 u (by omega) q
        · obtain ⟨J2, e2, f2, c2⟩ := s253 (L := L) (ru := ru) (n := n) (m := m) (t := t) hM2 hW j1.2 j2 hR (by omega) ht1 (by omega) hn
          have q2 : Fr scK scF I1 J2 := j1.1.tr (f2.mono (by decide) (by decide))
          by_cases hg : gnI A ρ m t ≤ apI A ρ m t
          · simp (config := { maxSteps := 2000000 }) (disch := omega) only [f256_H64, ux_at, ux_kk, ux_jo, gIm, pIm, pZm, gRm, aIm, sIm, aBm, sBm, gLm, pLm, clm, wshS, obS, reduceIte, Nat.one_ne_zero, Nat.zero_ne_one, Nat.reduceEqDiff, not_true_eq_false, not_false_eq_true, Nat.le_refl, ng_le, ng_lt, ng_nle, ng_nlt, ng_eq, ng_eq2, Bool.false_eq_true, lit_nI, nI_add, pk_mul, nI_leI, nI_ltI, nI_eq, mcA hM2, wfA hW.1, shl_nI, hm2, hx, hb, e2, hg]
            refine ih J2 ⟨⟨q2, c2⟩, j2.fr f2 (by decide) (by decide) (by decide) (by decide) (by decide) (by decide), fun s hs => (congrFun (f2.at (by decide) (by decide)) s).trans (j3 s hs), fun u hu q => ?_⟩
            by_cases e : u = m
            · rw [e] at q
              exact q.2.2 hg
            · exact j4 u (by omega) q
          · simp (config := { maxSteps := 2000000 }) (disch := omega) only [f256_H64, ux_at, ux_kk, ux_jo, gIm, pIm, pZm, gRm, aIm, sIm, aBm, sBm, gLm, pLm, clm, wshS, obS, reduceIte, Nat.one_ne_zero, Nat.zero_ne_one, Nat.reduceEqDiff, not_true_eq_false, not_false_eq_true, Nat.le_refl, ng_le, ng_lt, ng_nle, ng_nlt, ng_eq, ng_eq2, Bool.false_eq_true, lit_nI, nI_add, pk_mul, nI_leI, nI_ltI, nI_eq, mcA hM2, wfA hW.1, shl_nI, hm2, hx, hb, e2, hg]
            refine ⟨J2, _, rfl, ⟨q2, c2⟩, Or.inl ⟨m, hm, ⟨?_, by omega, hg⟩, j4, rfl⟩⟩
            rcases Nat.eq_zero_or_pos m with q | q
            · subst q
              exfalso
              apply hb
              have : ∀ i, bcN 0 i = 0 := fun i => by
                induction i with
                | zero => rfl
                | succ i ih =>
                  show bcN 0 i + bN 0 i = 0
                  rw [ih]
                  unfold bN
                  rw [if_neg (by simp)]
              rw [this]
              decide
            · exact q
      · have := q.1
        omega
  have key1 : ∃ I' x, f256_H34 n (fun e0 e2 w17 => f256_H64 n (fun w40 => some ((-1 : Int32), w40)) n e0 e2 (1 : Int32) w17) n 67 (nI t) (nI 0) (mW I1 L ru) = some (x, mW I' L ru) ∧ (Fr scK scF I1 I' ∧ CA I' A) ∧ FST (pcP A ρ t) (2 ^ nsN A) x := by
    refine lpP (F := fun k s J => f256_H34 n (fun e0 e2 w17 => f256_H64 n (fun w40 => some ((-1 : Int32), w40)) n e0 e2 (1 : Int32) w17) k 67 (nI t) (nI s) (mW J L ru)) (P := fun y => ∃ I' x, y = some (x, mW I' L ru) ∧ (Fr scK scF I1 I' ∧ CA I' A) ∧ FST (pcP A ρ t) (2 ^ nsN A) x) (J := fun s J => (Fr scK scF I1 J ∧ CA J A) ∧ RU J ρ ∧ ∀ u, u < s → J 92 u = gnI A ρ (2 ^ u) t) (nsN A) ?_ ?_ n 0 I1 (by omega) (by omega) ⟨⟨Fr.rf, hC1⟩, u1, fun u hu => absurd hu (Nat.not_lt_zero _)⟩
    · rintro k J ⟨j1, j2, j3⟩
      have hM2 := hM1.fr j1.1 (by decide) (by decide) (by decide)
      simp (config := { maxSteps := 2000000 }) (disch := omega) only [f256_H34, ux_at, ux_kk, ux_jo, gIm, pIm, pZm, gRm, aIm, sIm, aBm, sBm, gLm, pLm, clm, wshS, obS, reduceIte, nI_leI, Nat.le_refl, mcA hM2, wfA hW.1]
      exact key2 J j1.1 j1.2 j2 j3
    · rintro k s J hs ⟨j1, j2, j3⟩ ih
      have hM2 := hM1.fr j1.1 (by decide) (by decide) (by decide)
      have hs2 : ¬ nsN A ≤ s := by omega
      have h2s := p2_lt64 s (by omega)
      obtain ⟨J2, e2, f2, c2⟩ := s253 (L := L) (ru := ru) (n := n) (m := 2 ^ s) (t := t) hM2 hW j1.2 j2 hR h2s ht1 (by omega) hn
      simp (config := { maxSteps := 2000000 }) (disch := omega) only [f256_H34, ux_at, ux_kk, ux_jo, gIm, pIm, pZm, gRm, aIm, sIm, aBm, sBm, gLm, pLm, clm, wshS, obS, reduceIte, Nat.one_ne_zero, Nat.zero_ne_one, Nat.reduceEqDiff, not_true_eq_false, not_false_eq_true, Nat.le_refl, ng_le, ng_lt, ng_nle, ng_nlt, ng_eq, ng_eq2, Bool.false_eq_true, lit_nI, nI_add, pk_mul, nI_leI, nI_ltI, nI_eq, mcA hM2, wfA hW.1, hs2, shl_nI, e2]
      refine ih _ ⟨⟨(j1.1.tr (f2.mono (by decide) (by decide))).u (by decide), c2.fr (Fr.rf.u (K := [92]) (F := []) (by decide)) (by decide) (by decide) (by decide)⟩, (j2.fr f2 (by decide) (by decide) (by decide) (by decide) (by decide) (by decide)).fr (Fr.rf.u (K := [92]) (F := []) (by decide)) (by decide) (by decide) (by decide) (by decide) (by decide) (by decide), fun u hu => ?_⟩
      rw [ux_if]
      split
      · rename_i q
        rw [q]
      · exact (congrFun (f2.at (by decide) (by decide)) u).trans (j3 u (by omega))
  obtain ⟨I', x, k1, k2, k3⟩ := key1
  refine ⟨I', x, ?_, ⟨(f1.mono (by decide) (by decide)).tr k2.1, k2.2⟩, k3⟩
  simp (config := { maxSteps := 2000000 }) (disch := omega) only [f256, ux_at, ux_kk, ux_jo, gIm, pIm, pZm, gRm, aIm, sIm, aBm, sBm, gLm, pLm, clm, wshS, obS, reduceIte, lit_lN, nI_eq, Nat.one_ne_zero, not_false_eq_true, show (0 : Int32) = nI 0 from rfl, s126 hM hW.2 hr, s40i, e1]
  exact k1
end
