/-! THE CLASS: the crew is ready -/
abbrev crK : List Nat := [47, 48, 49, 50, 51]
/-- the digits while the crew is made ready -/
def GX (A : St) (i p r q t : Nat) : Nat := if t < nsN A then (if wayN A t = 3 then (if q < p ∨ (q = p ∧ t < r) then prsN A (q / 8) (q % 8) t else 0) else if t < i then tbcN A t (q / 8) (q % 8) else 0) else 0
theorem prs_b {A : St} {c h s : Nat} (e : wayN A s = 3) : prsN A c h s = mostN (c3N A 0 (fun s => tbcN A s c h) 0 (nsN A)) (c3N A 0 (fun s => tbcN A s c h) 1 (nsN A)) (c3N A 0 (fun s => tbcN A s c h) 2 (nsN A)) + 1 := by
  unfold prsN pBN
  have : blD A 0 s = true := by
    unfold blD
    simp [e]
  rw [if_pos this]
theorem prs_s {A : St} {c h s : Nat} (e : wayN A s ≠ 3) : prsN A c h s = tbcN A s c h := by
  unfold prsN pBN
  have : ¬ blD A 0 s = true := by
    unfold blD
    simp [e]
  rw [if_neg this]
theorem bl0 {A : St} {s : Nat} : (blD A 0 s = true) = (wayN A s = 3) := by
  unfold blD
  simp
section
variable {I A : St} {L : Lt} {ru n : Nat}
theorem l208a (hS : CS I A) (hH : CH I A) (hW : WF A) (hn : 1000 < n) {P : Option Wd → Prop} {K14 : Nat → Int32 → Wd → Option Wd}
    (hD : DG I (GX A 0 0 0)) (hK : ∀ J, Fr [48, 49, 50] [] I J → DG J (GX A (nsN A) 0 0) → P (K14 47 (nI (blmN A 6)) (mW J L ru))) :
    P (f208_H26 n K14 n 47 (nI (blmN A 6)) (nI 0) (mW I L ru)) := by
  have h6 := ns6 hW.1
  have hbm := blmN_lt A 6 (by decide)
  refine lpP (F := fun k i J => f208_H26 n K14 k 47 (nI (blmN A 6)) (nI i) (mW J L ru)) (P := P) (J := fun i J => Fr [48, 49, 50] [] I J ∧ DG J (GX A i 0 0)) (nsN A) ?_ ?_ n 0 I (by omega) (by omega) ⟨Fr.rf, hD⟩
  · intro k J hJ
    have hSJ := hS.fr hW.1 hJ.1 (by decide)
    simp (config := { maxSteps := 2000000 }) (disch := omega) only [f208_H26, ux_at, ux_kk, ux_jo, gIx, pIx, pZx, gRx, aIx, sIx, aBx, sBx, lenx, clx, wshS, obS, reduceIte, Nat.one_ne_zero, Nat.zero_ne_one, Nat.reduceEqDiff, not_true_eq_false, not_false_eq_true, Nat.le_refl, ng_le, ng_lt, ng_nle, ng_nlt, ng_eq, ng_eq2, Bool.false_eq_true, lit_nI, nI_add, pk_mul, nI_leI, nI_ltI, nI_eq, csA hSJ]
    exact hK J hJ.1 hJ.2
  · intro k i J hi hJ ih
    have hi2 : ¬ nsN A ≤ i := by omega
    have hSJ := hS.fr hW.1 hJ.1 (by decide)
    have hHJ := hH.fr hJ.1 (by decide) (by decide)
    have hb := bl_bD hi h6
    obtain ⟨w1, w2⟩ := hHJ.1 i hi
    obtain ⟨w3, w4⟩ := way_nI hW.2 hi
    -- what follows the looking ahead
    have nxt : ∀ J1, Fr [49, 50] [] J J1 → (wayN A i = 2 → LT J1 A i (wByN A i - 1)) → P (f208_J62 n (fun e0 e1 e2 w => f208_H26 n K14 k e0 e1 e2 w) K14 47 (nI (blmN A 6)) (nI i) (mW J1 L ru)) := by
      intro J1 f1 hL
      have f1' : Fr [48, 49, 50] [] J J1 := f1.mono (by decide) (by decide)
      have hS1 := hSJ.fr hW.1 f1' (by decide)
      have hH1 := hHJ.fr f1' (by decide) (by decide)
      have hD1 := hJ.2.fr f1 (by decide)
      by_cases q : blD A 0 i = true
      · rw [q] at hb
        simp (config := { maxSteps := 2000000 }) (disch := omega) only [f208_J62, ux_at, ux_kk, ux_jo, gIx, pIx, pZx, gRx, aIx, sIx, aBx, sBx, lenx, clx, wshS, obS, reduceIte, Nat.one_ne_zero, Nat.zero_ne_one, Nat.reduceEqDiff, not_true_eq_false, not_false_eq_true, Nat.le_refl, ng_le, ng_lt, ng_nle, ng_nlt, ng_eq, ng_eq2, Bool.false_eq_true, lit_nI, nI_add, pk_mul, nI_leI, nI_ltI, nI_eq, x_holds, bN, hb]
        refine ih J1 ⟨hJ.1.tr f1', hD1.iff fun p hp t ht => ?_⟩
        rw [bl0] at q
        unfold GX
        by_cases e : t = i
        · subst e
          simp only [q, reduceIte]
        · have : (t < i + 1) = (t < i) := propext (by omega)
          simp only [this]
      · have q0 : blD A 0 i = false := by simpa using q
        rw [q0] at hb
        rw [bl0] at q
        obtain ⟨J2, e2, f2, d2⟩ := x_workOut (L := L) (ru := ru) (n := n) hS1 hH1 hW hi q hL hD1 (fun p hp => by
          unfold GX
          rw [if_pos hi, if_neg q, if_neg (Nat.lt_irrefl _)]) hn
        simp (config := { maxSteps := 2000000 }) (disch := omega) only [f208_J62, ux_at, ux_kk, ux_jo, gIx, pIx, pZx, gRx, aIx, sIx, aBx, sBx, lenx, clx, wshS, obS, reduceIte, Nat.one_ne_zero, Nat.zero_ne_one, Nat.reduceEqDiff, not_true_eq_false, not_false_eq_true, Nat.le_refl, ng_le, ng_lt, ng_nle, ng_nlt, ng_eq, ng_eq2, Bool.false_eq_true, lit_nI, nI_add, pk_mul, nI_leI, nI_ltI, nI_eq, x_holds, bN, hb, e2]
        refine ih J2 ⟨hJ.1.tr (f1'.tr (f2.mono (by decide) (by decide))), d2.iff fun p hp t ht => ?_⟩
        show (if t = i then tbcN A i (p / 8) (p % 8) else GX A i 0 0 p t) = GX A (i + 1) 0 0 p t
        unfold GX
        by_cases e : t = i
        · subst e
          rw [if_pos rfl, if_pos hi, if_neg q, if_pos (Nat.lt_succ_self _)]
        · have : (t < i + 1) = (t < i) := propext (by omega)
          simp only [this, e, reduceIte]
    by_cases h2 : wayN A i = 2
    · have h1 : A 73 i = nI (wByN A i) ∧ 1 ≤ wByN A i ∧ wByN A i ≤ 4 := by
        rcases hW.2.1 i hi with ⟨e, -⟩ | ⟨e, -⟩ | ⟨e, q, q1, q4, e4⟩ | ⟨e, -⟩ | ⟨e, -⟩
        · exact absurd ((wayN_of e (by decide)).symm.trans h2) (by decide)
        · exact absurd ((wayN_of e (by decide)).symm.trans h2) (by decide)
        · have hw : wByN A i = q := by
            unfold wByN
            rw [e4, nI_clamp (by omega)]
          rw [hw]
          exact ⟨e4, q1, q4⟩
        · exact absurd ((wayN_of e (by decide)).symm.trans h2) (by decide)
        · exact absurd ((wayN_of e (by decide)).symm.trans h2) (by decide)
      obtain ⟨J1, e1, f1, l1⟩ := x_lookAhead (L := L) (ru := ru) (n := n) (Kk := wByN A i - 1) hSJ hW.1 hi (by omega) hn
      rw [show wByN A i - 1 + 1 = wByN A i by omega] at e1
      have w2' := w2.trans h1.1
      simp (config := { maxSteps := 2000000 }) (disch := omega) only [f208_H26, ux_at, ux_kk, ux_jo, gIx, pIx, pZx, gRx, aIx, sIx, aBx, sBx, lenx, clx, wshS, obS, reduceIte, Nat.one_ne_zero, Nat.zero_ne_one, Nat.reduceEqDiff, not_true_eq_false, not_false_eq_true, Nat.le_refl, ng_le, ng_lt, ng_nle, ng_nlt, ng_eq, ng_eq2, Bool.false_eq_true, lit_nI, nI_add, pk_mul, nI_leI, nI_ltI, nI_eq, csA hSJ, hi2, x_wayOf, x_strengthOf, w1, w2', w3, h2, e1]
      exact nxt J1 f1 fun _ => l1
    · simp (config := { maxSteps := 2000000 }) (disch := omega) only [f208_H26, ux_at, ux_kk, ux_jo, gIx, pIx, pZx, gRx, aIx, sIx, aBx, sBx, lenx, clx, wshS, obS, reduceIte, Nat.one_ne_zero, Nat.zero_ne_one, Nat.reduceEqDiff, not_true_eq_false, not_false_eq_true, Nat.le_refl, ng_le, ng_lt, ng_nle, ng_nlt, ng_eq, ng_eq2, Bool.false_eq_true, lit_nI, nI_add, pk_mul, nI_leI, nI_ltI, nI_eq, csA hSJ, hi2, x_wayOf, w1, w3, h2]
      exact nxt J Fr.rf fun z => absurd z h2
/-- the blind ones' presses at one place -/
theorem l208b (hS : CS I A) (hW : WF A) {p : Nat} (hp : p < 512) (hn : 1000 < n) {P : Option Wd → Prop} {R : Nat → Int32 → Int32 → Wd → Option Wd} {K43 : Nat → Wd → Option Wd} {K53 : Nat → Int32 → Int32 → Wd → Option Wd}
    (hD : DG I (GX A (nsN A) p 0)) (hK : ∀ J, Fr [48] [] I J → DG J (GX A (nsN A) (p + 1) 0) → P (K53 47 (nI (blmN A 6)) (nI p) (mW J L ru))) :
    P (f208_H100 n R K43 K53 n 47 (nI (blmN A 6)) (nI p) (tI (mostN (c3N A 0 (fun s => tbcN A s (p / 8) (p % 8)) 0 (nsN A)) (c3N A 0 (fun s => tbcN A s (p / 8) (p % 8)) 1 (nsN A)) (c3N A 0 (fun s => tbcN A s (p / 8) (p % 8)) 2 (nsN A)))) (nI 0) (mW I L ru)) := by
  have h6 := ns6 hW.1
  have hbm := blmN_lt A 6 (by decide)
  have hpb : ∀ s, wayN A s = 3 → prsN A (p / 8) (p % 8) s = mostN (c3N A 0 (fun s => tbcN A s (p / 8) (p % 8)) 0 (nsN A)) (c3N A 0 (fun s => tbcN A s (p / 8) (p % 8)) 1 (nsN A)) (c3N A 0 (fun s => tbcN A s (p / 8) (p % 8)) 2 (nsN A)) + 1 := fun s hs => prs_b hs
  have hm3 := mostN_lt (c3N A 0 (fun s => tbcN A s (p / 8) (p % 8)) 0 (nsN A)) (c3N A 0 (fun s => tbcN A s (p / 8) (p % 8)) 1 (nsN A)) (c3N A 0 (fun s => tbcN A s (p / 8) (p % 8)) 2 (nsN A))
  generalize mostN (c3N A 0 (fun s => tbcN A s (p / 8) (p % 8)) 0 (nsN A)) (c3N A 0 (fun s => tbcN A s (p / 8) (p % 8)) 1 (nsN A)) (c3N A 0 (fun s => tbcN A s (p / 8) (p % 8)) 2 (nsN A)) = mo at *
  refine lpP (F := fun k i J => f208_H100 n R K43 K53 k 47 (nI (blmN A 6)) (nI p) (tI mo) (nI i) (mW J L ru)) (P := P) (J := fun i J => Fr [48] [] I J ∧ DG J (GX A (nsN A) p i)) (nsN A) ?_ ?_ n 0 I (by omega) (by omega) ⟨Fr.rf, hD⟩
  · intro k J hJ
    have hSJ := hS.fr hW.1 hJ.1 (by decide)
    simp (config := { maxSteps := 2000000 }) (disch := omega) only [f208_H100, ux_at, ux_kk, ux_jo, gIx, pIx, pZx, gRx, aIx, sIx, aBx, sBx, lenx, clx, wshS, obS, reduceIte, Nat.one_ne_zero, Nat.zero_ne_one, Nat.reduceEqDiff, not_true_eq_false, not_false_eq_true, Nat.le_refl, ng_le, ng_lt, ng_nle, ng_nlt, ng_eq, ng_eq2, Bool.false_eq_true, lit_nI, nI_add, pk_mul, nI_leI, nI_ltI, nI_eq, csA hSJ]
    refine hK J hJ.1 (hJ.2.iff fun q hq t ht => ?_)
    unfold GX
    by_cases a : t < nsN A
    · have : (q < p ∨ q = p ∧ t < nsN A) = (q < p + 1 ∨ q = p + 1 ∧ t < 0) := propext (by omega)
      rw [if_pos a, if_pos a, if_pos a]
      simp only [this]
    · simp only [a, reduceIte]
  · intro k i J hi hJ ih
    have hi2 : ¬ nsN A ≤ i := by omega
    have hSJ := hS.fr hW.1 hJ.1 (by decide)
    have hb := bl_bD hi h6
    by_cases q : blD A 0 i = true
    · rw [q] at hb
      rw [bl0] at q
      obtain ⟨N, a, b, c⟩ := hJ.2 p hp
      have hdz : GX A (nsN A) p i p i = 0 := by
        unfold GX
        rw [if_pos hi, if_pos q, if_neg (by omega)]
      have hput := hJ.2.put hp (show i < 6 by omega) (show mo + 1 < 8 by omega) hdz a b c
      have e2 := x_write (I := J) (L := L) (ru := ru) (s := i) (p := p) (u := mo + 1) (by omega) hp (by omega) a
      rw [← pI_t] at e2
      simp (config := { maxSteps := 2000000 }) (disch := omega) only [f208_H100, ux_at, ux_kk, ux_jo, gIx, pIx, pZx, gRx, aIx, sIx, aBx, sBx, lenx, clx, wshS, obS, reduceIte, Nat.one_ne_zero, Nat.zero_ne_one, Nat.reduceEqDiff, not_true_eq_false, not_false_eq_true, Nat.le_refl, ng_le, ng_lt, ng_nle, ng_nlt, ng_eq, ng_eq2, Bool.false_eq_true, lit_nI, nI_add, pk_mul, nI_leI, nI_ltI, nI_eq, csA hSJ, hi2, x_holds, bN, hb, e2]
      refine ih _ ⟨hJ.1.u (by decide), hput.iff fun r hr t ht => ?_⟩
      show (if r = p ∧ t = i then mo + 1 else GX A (nsN A) p i r t) = GX A (nsN A) p (i + 1) r t
      unfold GX
      by_cases e : r = p ∧ t = i
      · obtain ⟨rfl, rfl⟩ := e
        rw [if_pos ⟨rfl, rfl⟩, if_pos hi, if_pos q, if_pos (by omega)]
        exact (hpb _ q).symm
      · have : (r < p ∨ r = p ∧ t < i + 1) = (r < p ∨ r = p ∧ t < i) := propext (by omega)
        simp only [e, reduceIte, this]
    · have q0 : blD A 0 i = false := by simpa using q
      rw [q0] at hb
      rw [bl0] at q
      simp (config := { maxSteps := 2000000 }) (disch := omega) only [f208_H100, ux_at, ux_kk, ux_jo, gIx, pIx, pZx, gRx, aIx, sIx, aBx, sBx, lenx, clx, wshS, obS, reduceIte, Nat.one_ne_zero, Nat.zero_ne_one, Nat.reduceEqDiff, not_true_eq_false, not_false_eq_true, Nat.le_refl, ng_le, ng_lt, ng_nle, ng_nlt, ng_eq, ng_eq2, Bool.false_eq_true, lit_nI, nI_add, pk_mul, nI_leI, nI_ltI, nI_eq, csA hSJ, hi2, x_holds, bN, hb]
      refine ih J ⟨hJ.1, hJ.2.iff fun r hr t ht => ?_⟩
      unfold GX
      by_cases e : t = i
      · subst e
        simp only [q, reduceIte]
      · have : (r < p ∨ r = p ∧ t < i + 1) = (r < p ∨ r = p ∧ t < i) := propext (by omega)
        simp only [this]
theorem x_ready (hS : CS I A) (hH : CH I A) (hW : WF A) (hC : CXc I A) (hn : 1000 < n) : ∃ I', f208 n 47 (mW I L ru) = some (mW I' L ru) ∧ Fr crK [] I I' ∧ I' 47 2 = nI 1 ∧ PK I' A := by
  have h6 := ns6 hW.1
  rcases hC with h0 | ⟨h1, hP⟩
  · obtain ⟨I1, e1, f1, z1⟩ := x_fill (I := I) (L := L) (ru := ru) (n := n) (v := 0) (k := 48) sh_48 (by decide) hn
    have hS1 := hS.fr hW.1 f1 (by decide)
    have hH1 := hH.fr f1 (by decide) (by decide)
    have e2 := x_blindSorts (L := L) (ru := ru) (n := n) hH1 hW (by omega)
    have hD1 : DG I1 (GX A 0 0 0) := fun p hp => ⟨0, z1 p hp, by decide, fun t ht => by
      have : GX A 0 0 0 p t = 0 := by
        unfold GX
        by_cases a : t < nsN A
        · rw [if_pos a]
          split
          · rw [if_neg (by omega)]
          · rw [if_neg (by omega)]
        · rw [if_neg a]
      rw [this]
      show 0 / 8 ^ t % 8 = 0
      rw [Nat.zero_div]⟩
    simp (config := { maxSteps := 2000000 }) (disch := omega) only [f208, ux_at, ux_kk, ux_jo, gIx, pIx, pZx, gRx, aIx, sIx, aBx, sBx, lenx, clx, wshS, obS, reduceIte, lit_nI, h0, e1, e2]
    refine l208a (P := fun x => ∃ I', x = some (mW I' L ru) ∧ Fr crK [] I I' ∧ I' 47 2 = nI 1 ∧ PK I' A) hS1 hH1 hW hn hD1 fun J2 f2 d2 => ?_
    have f2' : Fr crK [] I J2 := (f1.mono (by decide) (by decide)).tr (f2.mono (by decide) (by decide))
    refine lpP (F := fun k p J => f208_H83 n (fun e0 w53 => ob (putZ w53 2 e0 2 (nI 1)) (fun w54 => some w54)) k 47 (nI (blmN A 6)) (nI p) (mW J L ru)) (P := fun x => ∃ I', x = some (mW I' L ru) ∧ Fr crK [] I I' ∧ I' 47 2 = nI 1 ∧ PK I' A) (J := fun p J => Fr crK [] I J ∧ DG J (GX A (nsN A) p 0)) 512 ?_ ?_ n 0 J2 (by omega) (by omega) ⟨f2', d2⟩
    · intro k J hJ
      simp (config := { maxSteps := 2000000 }) (disch := omega) only [f208_H83, ux_at, ux_kk, ux_jo, gIx, pIx, pZx, gRx, aIx, sIx, aBx, sBx, lenx, clx, wshS, obS, reduceIte, Nat.one_ne_zero, Nat.zero_ne_one, Nat.reduceEqDiff, not_true_eq_false, not_false_eq_true, Nat.le_refl, ng_le, ng_lt, ng_nle, ng_nlt, ng_eq, ng_eq2, Bool.false_eq_true, lit_nI, nI_add, pk_mul, nI_leI, nI_ltI, nI_eq]
      refine ⟨_, rfl, hJ.1.u (by decide), ux_at, fun p hp => ?_⟩
      obtain ⟨N, a, b, c⟩ := hJ.2 p hp
      refine ⟨N, (ux_k (by decide)).trans a, b, fun s hs => ?_⟩
      rw [c s (by omega)]
      unfold GX
      rw [if_pos hs, if_pos hs]
      split
      · rw [if_pos (Or.inl hp)]
      · next e => exact (prs_s e).symm
    · intro k p J hp hJ ih
      have hp2 : ¬ 512 ≤ p := by omega
      have hSJ := hS.fr hW.1 hJ.1 (by decide)
      obtain ⟨N, a, b, c⟩ := hJ.2 p hp
      obtain ⟨J3, e3, f3⟩ := x_mostSeeing (L := L) (ru := ru) (n := n) hSJ hW hp a b (F := fun s => tbcN A s (p / 8) (p % 8)) (fun s hs hb => ⟨by
        rw [c s (by omega)]
        unfold GX
        have : ¬ wayN A s = 3 := by
          rw [← bl0, hb]
          decide
        rw [if_pos hs, if_neg this, if_pos hs], tbcN_lt hW.2 hs _ _⟩) (fun s hs => tbcN_lt hW.2 hs _ _) (by omega)
      have hS3 := hSJ.fr hW.1 f3 (by decide)
      simp (config := { maxSteps := 2000000 }) (disch := omega) only [f208_H83, ux_at, ux_kk, ux_jo, gIx, pIx, pZx, gRx, aIx, sIx, aBx, sBx, lenx, clx, wshS, obS, reduceIte, Nat.one_ne_zero, Nat.zero_ne_one, Nat.reduceEqDiff, not_true_eq_false, not_false_eq_true, Nat.le_refl, ng_le, ng_lt, ng_nle, ng_nlt, ng_eq, ng_eq2, Bool.false_eq_true, lit_nI, nI_add, pk_mul, nI_leI, nI_ltI, nI_eq, hp2, e3]
      refine l208b (P := fun x => ∃ I', x = some (mW I' L ru) ∧ Fr crK [] I I' ∧ I' 47 2 = nI 1 ∧ PK I' A) hS3 hW hp hn (hJ.2.fr f3 (by decide)) fun J4 f4 d4 => ?_
      simp (config := { maxSteps := 2000000 }) (disch := omega) only [ux_at, ux_kk, ux_jo, gIx, pIx, pZx, gRx, aIx, sIx, aBx, sBx, lenx, clx, wshS, obS, reduceIte, Nat.one_ne_zero, Nat.zero_ne_one, Nat.reduceEqDiff, not_true_eq_false, not_false_eq_true, Nat.le_refl, ng_le, ng_lt, ng_nle, ng_nlt, ng_eq, ng_eq2, Bool.false_eq_true, lit_nI, nI_add, pk_mul, nI_leI, nI_ltI, nI_eq]
      exact ih J4 ⟨hJ.1.tr ((f3.mono (by decide) (by decide)).tr (f4.mono (by decide) (by decide))), d4⟩
  · simp (config := { maxSteps := 2000000 }) (disch := omega) only [f208, ux_at, ux_kk, ux_jo, gIx, pIx, pZx, gRx, aIx, sIx, aBx, sBx, lenx, clx, wshS, obS, reduceIte, Nat.one_ne_zero, Nat.zero_ne_one, Nat.reduceEqDiff, not_true_eq_false, not_false_eq_true, Nat.le_refl, ng_le, ng_lt, ng_nle, ng_nlt, ng_eq, ng_eq2, Bool.false_eq_true, lit_nI, nI_add, pk_mul, nI_leI, nI_ltI, nI_eq, h1]
    exact ⟨I, rfl, Fr.rf, h1, hP⟩
end
