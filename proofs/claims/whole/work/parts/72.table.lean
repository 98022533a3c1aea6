/-! THE TABLE OF PRESSES: the reference's findPressed -/
def tldN (A : St) (s : Nat) : Nat := (A 73 s + nI 2).toNatClampNeg
/-- what a sort that isn't blind presses, as a code -/
def tbcN (A : St) (s c h : Nat) : Nat :=
  if wayN A s = 0 then plnN A s c h + 1 else if wayN A s = 1 then 2 * plnN A s c h else if wayN A s = 2 then ahdN A s (wByN A s - 1) c h + 1 else if wayN A s = 3 then 2 else tldN A s
theorem ahdN_lt (A : St) (s r c h : Nat) : ahdN A s r c h < 3 := best3_lt _
theorem tld_ok {A : St} {s : Nat} (h : A 73 s = -2 ∨ A 73 s = -1 ∨ A 73 s = nI 0 ∨ A 73 s = nI 1 ∨ A 73 s = nI 2) : A 73 s = pI (tldN A s) ∧ tldN A s < 5 := by
  unfold tldN
  rcases h with e | e | e | e | e <;> rw [e] <;> decide +kernel
theorem pI_2t : ∀ k, k < 3 → nI 2 * tI k = pI (2 * k) := by decide +kernel
theorem wayN_of {A : St} {s w : Nat} (h : A 72 s = nI w) (hw : w < 5) : wayN A s = w := by
  unfold wayN
  rw [h, nI_clamp (by omega)]
theorem tbcN_lt {A : St} (h : WFr A) {s : Nat} (hs : s < nsN A) (c hd : Nat) : tbcN A s c hd < 5 := by
  have h1 := plnN_lt A s c hd
  have h2 := ahdN_lt A s (wByN A s - 1) c hd
  unfold tbcN
  rcases h.1 s hs with ⟨e, -⟩ | ⟨e, -⟩ | ⟨e, -⟩ | ⟨e, -⟩ | ⟨e, e2⟩
  · rw [if_pos (wayN_of e (by decide))]; omega
  · have := wayN_of e (by decide)
    rw [if_neg (by omega), if_pos this]; omega
  · have := wayN_of e (by decide)
    rw [if_neg (by omega), if_neg (by omega), if_pos this]; omega
  · have := wayN_of e (by decide)
    rw [if_neg (by omega), if_neg (by omega), if_neg (by omega), if_pos this]; omega
  · have := wayN_of e (by decide)
    rw [if_neg (by omega), if_neg (by omega), if_neg (by omega), if_neg (by omega)]
    exact (tld_ok e2).2
/-- the table stands below u -/
def DN (J A : St) (u : Nat) : Prop := ∀ s c h, s < nsN A → c < 64 → h < 8 → rkN A c = 0 → 512 * s + 8 * c + h < u → J 82 (512 * s + 8 * c + h) = pI (tbcN A s c h)
def TB (J A : St) : Prop := DN J A (512 * nsN A)
/-- the table is to be made, or stands -/
def CA (I A : St) : Prop := I 67 34 = nI 0 ∨ (I 67 34 = nI 1 ∧ TB I A)
/-- the same, with a word that it stands already (f not 0) -/
def CF (f : Nat) (I A : St) : Prop := (f = 0 ∧ I 67 34 = nI 0) ∨ (I 67 34 = nI 1 ∧ TB I A)
theorem CF.ca {f : Nat} {I A : St} (h : CF f I A) : CA I A := by
  rcases h with ⟨-, h⟩ | h
  · exact Or.inl h
  · exact Or.inr h
theorem CA.cf {I A : St} (h : CA I A) : CF 0 I A := by
  rcases h with h | h
  · exact Or.inl ⟨rfl, h⟩
  · exact Or.inr h
theorem CF.on {f : Nat} {I A : St} (h : CF f I A) (hf : f ≠ 0) : I 67 34 = nI 1 ∧ TB I A := by
  rcases h with ⟨h, -⟩ | h
  · exact absurd h hf
  · exact h
theorem DN.fr {J J' A : St} {u : Nat} (h : DN J A u) {K F : List Nat} (f : Fr K F J J') (hK : 82 ∉ K) : DN J' A u := fun s c hd a b d e g => (congrFun (f.at hK (by decide)) _).trans (h s c hd a b d e g)
theorem CF.fr {f : Nat} {I I' A : St} (h : CF f I A) {K F : List Nat} (g : Fr K F I I') (hK : 82 ∉ K) (h67 : 67 ∉ K) (hF : 34 ∉ F) : CF f I' A := by
  rcases h with ⟨h0, h⟩ | ⟨h, h2⟩
  · exact Or.inl ⟨h0, (g.f h67 hF).trans h⟩
  · exact Or.inr ⟨(g.f h67 hF).trans h, DN.fr h2 g hK⟩
theorem TB.at {J A : St} (h : TB J A) {s c hd : Nat} (hs : s < nsN A) (hc : c < 64) (hh : hd < 8) (hr : rkN A c = 0) : J 82 (512 * s + 8 * c + hd) = pI (tbcN A s c hd) := h s c hd hs hc hh hr (by omega)
section
variable {I A : St} {L : Lt} {ru n : Nat}
/-- one place of the table -/
theorem l191 (hM : MC I A) (hW : WF A) {s c h : Nat} (hs : s < nsN A) (hc : c < 64) (hh : h < 8) (hr : rkN A c = 0) {rec2 : _} {K2 : _} {rec11 : _} {K11 : _} {K16 : _} {k : Nat} (hn : 100 < n) :
    f191_H27 n rec2 K2 rec11 K11 K16 (k + 1) 67 (nI s) (nI c) (nI h) (mW I L ru) = f191_H27 n rec2 K2 rec11 K11 K16 k 67 (nI s) (nI c) (nI (h + 1)) (mW (u2 I 82 (512 * s + 8 * c + h) (pI (tbcN A s c h))) L ru) := by
  have h6 := ns6 hW.1
  have hh2 : ¬ 8 ≤ h := by omega
  have hp := plnN_lt A s c h
  have ha := ahdN_lt A s (wByN A s - 1) c h
  rcases hW.2.1 s hs with ⟨e, -⟩ | ⟨e, -⟩ | ⟨e, q, q1, q4, e2⟩ | ⟨e, -⟩ | ⟨e, e2⟩
  · have ht : tbcN A s c h = plnN A s c h + 1 := if_pos (wayN_of e (by decide))
    simp (config := { maxSteps := 2000000 }) (disch := omega) only [f191_H27, f191_J61, f191_J92, ux_at, ux_kk, ux_jo, gIm, pIm, pZm, gRm, aIm, sIm, aBm, sBm, gLm, pLm, clm, wshS, obS, reduceIte, Nat.one_ne_zero, Nat.zero_ne_one, Nat.reduceEqDiff, not_true_eq_false, not_false_eq_true, Nat.le_refl, ng_le, ng_lt, ng_nle, ng_nlt, ng_eq, ng_eq2, Bool.false_eq_true, lit_nI, nI_add, pk_mul, nI_leI, nI_ltI, nI_eq, mcA hM, wfA hW.1, hh2, hr, e, not_true_eq_false, s168 hM hW.1 hs hc hh (show 6 < n by omega), ht, pI_t, Nat.zero_ne_one, Nat.reduceEqDiff, not_false_eq_true]
  · have ht : tbcN A s c h = 2 * plnN A s c h := by
      have := wayN_of e (by decide)
      unfold tbcN
      rw [if_neg (by omega), if_pos this]
    simp (config := { maxSteps := 2000000 }) (disch := omega) only [f191_H27, f191_J61, f191_J92, ux_at, ux_kk, ux_jo, gIm, pIm, pZm, gRm, aIm, sIm, aBm, sBm, gLm, pLm, clm, wshS, obS, reduceIte, ng_le, ng_lt, ng_nle, ng_nlt, ng_eq, ng_eq2, Bool.false_eq_true, lit_nI, nI_add, nI_leI, nI_ltI, nI_eq, mcA hM, wfA hW.1, hh2, hr, e, not_true_eq_false, s168 hM hW.1 hs hc hh (show 6 < n by omega), ht, pI_2t, pk_mul, Nat.one_ne_zero, Nat.reduceEqDiff, not_false_eq_true]
  · obtain ⟨Kk, rfl⟩ : ∃ Kk, q = Kk + 1 := ⟨q - 1, by omega⟩
    have hw : wByN A s = Kk + 1 := by
      unfold wByN
      rw [e2, nI_clamp (by omega)]
    have ht : tbcN A s c h = ahdN A s Kk c h + 1 := by
      have := wayN_of e (by decide)
      unfold tbcN
      rw [if_neg (by omega), if_neg (by omega), if_pos this, hw]
      rfl
    simp (config := { maxSteps := 2000000 }) (disch := omega) only [f191_H27, f191_J61, f191_J92, ux_at, ux_kk, ux_jo, gIm, pIm, pZm, gRm, aIm, sIm, aBm, sBm, gLm, pLm, clm, wshS, obS, reduceIte, Nat.one_ne_zero, Nat.zero_ne_one, Nat.reduceEqDiff, not_true_eq_false, not_false_eq_true, Nat.le_refl, ng_le, ng_lt, ng_nle, ng_nlt, ng_eq, ng_eq2, Bool.false_eq_true, lit_nI, nI_add, pk_mul, nI_leI, nI_ltI, nI_eq, mcA hM, wfA hW.1, hh2, hr, e, not_true_eq_false, s169 hM hW.1 hs e2 (show Kk < 4 by omega) hc hh hr hn, ht, pI_t, Nat.reduceEqDiff, not_false_eq_true]
  · have ht : tbcN A s c h = 2 := by
      have := wayN_of e (by decide)
      unfold tbcN
      rw [if_neg (by omega), if_neg (by omega), if_neg (by omega), if_pos this]
    simp (config := { maxSteps := 2000000 }) (disch := omega) only [f191_H27, f191_J61, f191_J92, ux_at, ux_kk, ux_jo, gIm, pIm, pZm, gRm, aIm, sIm, aBm, sBm, gLm, pLm, clm, wshS, obS, reduceIte, Nat.one_ne_zero, Nat.zero_ne_one, Nat.reduceEqDiff, not_true_eq_false, not_false_eq_true, Nat.le_refl, ng_le, ng_lt, ng_nle, ng_nlt, ng_eq, ng_eq2, Bool.false_eq_true, lit_nI, nI_add, pk_mul, nI_leI, nI_ltI, nI_eq, mcA hM, wfA hW.1, hh2, hr, e, not_true_eq_false, ht, pI_2, Nat.reduceEqDiff, not_false_eq_true]
  · have ht : tbcN A s c h = tldN A s := by
      have := wayN_of e (by decide)
      unfold tbcN
      rw [if_neg (by omega), if_neg (by omega), if_neg (by omega), if_neg (by omega)]
    have e3 := (tld_ok e2).1
    simp (config := { maxSteps := 2000000 }) (disch := omega) only [f191_H27, f191_J61, f191_J92, ux_at, ux_kk, ux_jo, gIm, pIm, pZm, gRm, aIm, sIm, aBm, sBm, gLm, pLm, clm, wshS, obS, reduceIte, Nat.one_ne_zero, Nat.zero_ne_one, Nat.reduceEqDiff, not_true_eq_false, not_false_eq_true, Nat.le_refl, ng_le, ng_lt, ng_nle, ng_nlt, ng_eq, ng_eq2, Bool.false_eq_true, lit_nI, nI_add, pk_mul, nI_leI, nI_ltI, nI_eq, mcA hM, wfA hW.1, hh2, hr, e, e3, not_true_eq_false, ht, Nat.reduceEqDiff, not_false_eq_true]
theorem l191h (hM : MC I A) (hW : WF A) {s c : Nat} (hs : s < nsN A) (hc : c < 64) {rec2 : _} {K2 : _} {rec11 : _} {K11 : _} {K16 : Nat → Int32 → Int32 → Wd → Option Wd} (hn : 100 < n) {P : Option Wd → Prop} (hK : ∀ J, Fr [82] [] I J → DN J A (512 * s + 8 * c + 8) → P (K16 67 (nI s) (nI c) (mW J L ru))) (hD : DN I A (512 * s + 8 * c)) : P (f191_H27 n rec2 K2 rec11 K11 K16 n 67 (nI s) (nI c) (nI 0) (mW I L ru)) := by
  have h6 := ns6 hW.1
  rcases one_or (rk_le hW.1 hc) with hr | hr
  · refine lpP (F := fun k h J => f191_H27 n rec2 K2 rec11 K11 K16 k 67 (nI s) (nI c) (nI h) (mW J L ru)) (P := P) (J := fun h J => Fr [82] [] I J ∧ DN J A (512 * s + 8 * c + h)) 8 ?_ ?_ n 0 I (by omega) (by omega) ⟨Fr.rf, hD⟩
    · intro k J hJ
      have e : f191_H27 n rec2 K2 rec11 K11 K16 (k + 1) 67 (nI s) (nI c) (nI 8) (mW J L ru) = K16 67 (nI s) (nI c) (mW J L ru) := by
        simp (config := { maxSteps := 2000000 }) (disch := omega) only [f191_H27, ux_at, ux_kk, ux_jo, gIm, pIm, pZm, gRm, aIm, sIm, aBm, sBm, gLm, pLm, clm, wshS, obS, reduceIte, Nat.one_ne_zero, Nat.zero_ne_one, Nat.reduceEqDiff, not_true_eq_false, not_false_eq_true, Nat.le_refl, ng_le, ng_lt, ng_nle, ng_nlt, ng_eq, ng_eq2, Bool.false_eq_true, lit_nI, nI_add, pk_mul, nI_leI, nI_ltI, nI_eq, Nat.le_refl]
      rw [e]
      exact hK J hJ.1 hJ.2
    · intro k h J hh hJ ih
      rw [l191 (hM.fr hJ.1 (by decide) (by decide) (by decide)) hW hs hc hh hr hn]
      refine ih _ ⟨hJ.1.u (by decide), fun s' c' h' a b d e g => ?_⟩
      rw [ux_if]
      by_cases q : 512 * s' + 8 * c' + h' = 512 * s + 8 * c + h
      · have q1 : s' = s := by omega
        have q2 : c' = c := by omega
        have q3 : h' = h := by omega
        rw [if_pos q, q1, q2, q3]
      · rw [if_neg q]
        exact hJ.2 s' c' h' a b d e (by omega)
  · obtain ⟨k, rfl⟩ : ∃ k, n = k + 1 := ⟨n - 1, by omega⟩
    have e : f191_H27 (k + 1) rec2 K2 rec11 K11 K16 (k + 1) 67 (nI s) (nI c) (nI 0) (mW I L ru) = K16 67 (nI s) (nI c) (mW I L ru) := by
      simp (config := { maxSteps := 2000000 }) (disch := omega) only [f191_H27, ux_at, ux_kk, ux_jo, gIm, pIm, pZm, gRm, aIm, sIm, aBm, sBm, gLm, pLm, clm, wshS, obS, reduceIte, Nat.one_ne_zero, Nat.zero_ne_one, Nat.reduceEqDiff, not_true_eq_false, not_false_eq_true, Nat.le_refl, ng_le, ng_lt, ng_nle, ng_nlt, ng_eq, ng_eq2, Bool.false_eq_true, lit_nI, nI_add, pk_mul, nI_leI, nI_ltI, nI_eq, mcA hM, wfA hW.1, hr, Nat.one_ne_zero, not_false_eq_true, Nat.not_le_of_lt]
    rw [e]
    refine hK I Fr.rf fun s' c' h' a b d e g => hD s' c' h' a b d e ?_
    have : ¬ c' = c := fun q => by rw [q, hr] at e; omega
    omega
theorem l191c (hM : MC I A) (hW : WF A) {s : Nat} (hs : s < nsN A) {rec2 : _} {K2 : _} {K11 : Nat → Int32 → Wd → Option Wd} (hn : 100 < n) {P : Option Wd → Prop} (hK : ∀ J, Fr [82] [] I J → DN J A (512 * (s + 1)) → P (K11 67 (nI s) (mW J L ru))) (hD : DN I A (512 * s)) : P (f191_H19 n rec2 K2 K11 n 67 (nI s) (nI 0) (mW I L ru)) := by
  refine lpP (F := fun k c J => f191_H19 n rec2 K2 K11 k 67 (nI s) (nI c) (mW J L ru)) (P := P) (J := fun c J => Fr [82] [] I J ∧ DN J A (512 * s + 8 * c)) 64 ?_ ?_ n 0 I (by omega) (by omega) ⟨Fr.rf, hD⟩
  · intro k J hJ
    have e : f191_H19 n rec2 K2 K11 (k + 1) 67 (nI s) (nI 64) (mW J L ru) = K11 67 (nI s) (mW J L ru) := by
      simp (config := { maxSteps := 2000000 }) (disch := omega) only [f191_H19, ux_at, ux_kk, ux_jo, gIm, pIm, pZm, gRm, aIm, sIm, aBm, sBm, gLm, pLm, clm, wshS, obS, reduceIte, Nat.one_ne_zero, Nat.zero_ne_one, Nat.reduceEqDiff, not_true_eq_false, not_false_eq_true, Nat.le_refl, ng_le, ng_lt, ng_nle, ng_nlt, ng_eq, ng_eq2, Bool.false_eq_true, lit_nI, nI_add, pk_mul, nI_leI, nI_ltI, nI_eq, Nat.le_refl]
    rw [e]
    exact hK J hJ.1 hJ.2
  · intro k c J hc hJ ih
    have hc2 : ¬ 64 ≤ c := by omega
    have hx := fun {rec2 : _} {K2 : _} {rec11 : _} {K11 : _} {K16 : _} hK => l191h (rec2 := rec2) (K2 := K2) (rec11 := rec11) (K11 := K11) (K16 := K16) (L := L) (ru := ru) (P := P) (hM.fr hJ.1 (by decide) (by decide) (by decide)) hW hs hc hn hK hJ.2
    simp (config := { maxSteps := 2000000 }) (disch := omega) only [f191_H19, ux_at, ux_kk, ux_jo, gIm, pIm, pZm, gRm, aIm, sIm, aBm, sBm, gLm, pLm, clm, wshS, obS, reduceIte, Nat.one_ne_zero, Nat.zero_ne_one, Nat.reduceEqDiff, not_true_eq_false, not_false_eq_true, Nat.le_refl, ng_le, ng_lt, ng_nle, ng_nlt, ng_eq, ng_eq2, Bool.false_eq_true, lit_nI, nI_add, pk_mul, nI_leI, nI_ltI, nI_eq, hc2]
    refine hx fun J2 f2 d2 => ?_
    simp (config := { maxSteps := 2000000 }) (disch := omega) only [Nat.one_ne_zero, Nat.zero_ne_one, Nat.reduceEqDiff, not_true_eq_false, not_false_eq_true, Nat.le_refl, ng_le, ng_lt, ng_nle, ng_nlt, ng_eq, ng_eq2, Bool.false_eq_true, lit_nI, nI_add, pk_mul, nI_leI, nI_ltI, nI_eq]
    exact ih J2 ⟨hJ.1.tr f2, d2⟩
theorem s191 (hM : MC I A) (hW : WF A) (hC : CA I A) (hn : 100 < n) : ∃ I', f191 n 67 (mW I L ru) = some (mW I' L ru) ∧ Fr [82] [34] I I' ∧ I' 67 34 = nI 1 ∧ TB I' A := by
  have h6 := ns6 hW.1
  have fin : ∀ J, Fr [82] [34] I J → TB J A → ∃ I', f191_J167 n 67 (mW J L ru) = some (mW I' L ru) ∧ Fr [82] [34] I I' ∧ I' 67 34 = nI 1 ∧ TB I' A := fun J f t => by
    simp (config := { maxSteps := 2000000 }) (disch := omega) only [f191_J167, ux_at, ux_kk, ux_jo, gIm, pIm, pZm, gRm, aIm, sIm, aBm, sBm, gLm, pLm, clm, wshS, obS, reduceIte, Nat.one_ne_zero, Nat.zero_ne_one, Nat.reduceEqDiff, not_true_eq_false, not_false_eq_true, Nat.le_refl, ng_le, ng_lt, ng_nle, ng_nlt, ng_eq, ng_eq2, Bool.false_eq_true, lit_nI, nI_add, pk_mul, nI_leI, nI_ltI, nI_eq]
    exact ⟨_, rfl, f.uf (by decide), ux_at, t.fr (Fr.rf.uf (F := [34]) (K := []) (by decide)) (by decide)⟩
  rcases hC with hC | ⟨hC, hT⟩
  · refine lpP (F := fun k s J => f191_H2 n (fun e0 w => f191_J167 n e0 w) k 67 (nI s) (mW J L ru)) (P := fun x => ∃ I', x = some (mW I' L ru) ∧ Fr [82] [34] I I' ∧ I' 67 34 = nI 1 ∧ TB I' A) (J := fun s J => Fr [82] [] I J ∧ DN J A (512 * s)) (nsN A) ?_ ?_ n 0 I (by omega) (by omega) ⟨Fr.rf, fun s c h _ _ _ _ g => absurd g (Nat.not_lt_zero _)⟩
    · intro k J hJ
      have hM2 := hM.fr hJ.1 (by decide) (by decide) (by decide)
      simp (config := { maxSteps := 2000000 }) (disch := omega) only [f191_H2, ux_at, ux_kk, ux_jo, gIm, pIm, pZm, gRm, aIm, sIm, aBm, sBm, gLm, pLm, clm, wshS, obS, reduceIte, Nat.one_ne_zero, Nat.zero_ne_one, Nat.reduceEqDiff, not_true_eq_false, not_false_eq_true, Nat.le_refl, ng_le, ng_lt, ng_nle, ng_nlt, ng_eq, ng_eq2, Bool.false_eq_true, lit_nI, nI_add, pk_mul, nI_leI, nI_ltI, nI_eq, mcA hM2, wfA hW.1, Nat.le_refl]
      exact fin J (hJ.1.mono (by decide) (by decide)) hJ.2
    · intro k s J hs hJ ih
      have hM2 := hM.fr hJ.1 (by decide) (by decide) (by decide)
      have hs2 : ¬ nsN A ≤ s := by omega
      have hC2 : J 67 34 = nI 0 := (hJ.1.f (by decide) (by decide)).trans hC
      simp (config := { maxSteps := 2000000 }) (disch := omega) only [f191_H2, ux_at, ux_kk, ux_jo, gIm, pIm, pZm, gRm, aIm, sIm, aBm, sBm, gLm, pLm, clm, wshS, obS, reduceIte, Nat.one_ne_zero, Nat.zero_ne_one, Nat.reduceEqDiff, not_true_eq_false, not_false_eq_true, Nat.le_refl, ng_le, ng_lt, ng_nle, ng_nlt, ng_eq, ng_eq2, Bool.false_eq_true, lit_nI, nI_add, pk_mul, nI_leI, nI_ltI, nI_eq, mcA hM2, wfA hW.1, hs2, hC2, not_true_eq_false]
      refine l191c (P := fun x => ∃ I', x = some (mW I' L ru) ∧ Fr [82] [34] I I' ∧ I' 67 34 = nI 1 ∧ TB I' A) hM2 hW hs hn (fun J2 f2 d2 => ?_) hJ.2
      simp (config := { maxSteps := 2000000 }) (disch := omega) only [Nat.one_ne_zero, Nat.zero_ne_one, Nat.reduceEqDiff, not_true_eq_false, not_false_eq_true, Nat.le_refl, ng_le, ng_lt, ng_nle, ng_nlt, ng_eq, ng_eq2, Bool.false_eq_true, lit_nI, nI_add, pk_mul, nI_leI, nI_ltI, nI_eq]
      exact ih J2 ⟨hJ.1.tr f2, d2⟩
  · obtain ⟨k, rfl⟩ : ∃ k, n = k + 1 := ⟨n - 1, by omega⟩
    have hf := fin I Fr.rf hT
    by_cases h0 : nsN A ≤ 0
    · simp (config := { maxSteps := 2000000 }) (disch := omega) only [f191, f191_H2, ux_at, ux_kk, ux_jo, gIm, pIm, pZm, gRm, aIm, sIm, aBm, sBm, gLm, pLm, clm, wshS, obS, reduceIte, Nat.one_ne_zero, Nat.zero_ne_one, Nat.reduceEqDiff, not_true_eq_false, not_false_eq_true, Nat.le_refl, ng_le, ng_lt, ng_nle, ng_nlt, ng_eq, ng_eq2, Bool.false_eq_true, lit_nI, nI_add, pk_mul, nI_leI, nI_ltI, nI_eq, mcA hM, wfA hW.1, h0]
      exact hf
    · simp (config := { maxSteps := 2000000 }) (disch := omega) only [f191, f191_H2, ux_at, ux_kk, ux_jo, gIm, pIm, pZm, gRm, aIm, sIm, aBm, sBm, gLm, pLm, clm, wshS, obS, reduceIte, Nat.one_ne_zero, Nat.zero_ne_one, Nat.reduceEqDiff, not_true_eq_false, not_false_eq_true, Nat.le_refl, ng_le, ng_lt, ng_nle, ng_nlt, ng_eq, ng_eq2, Bool.false_eq_true, lit_nI, nI_add, pk_mul, nI_leI, nI_ltI, nI_eq, mcA hM, wfA hW.1, h0, hC, Nat.one_ne_zero, not_false_eq_true]
      exact hf
end
