/-! WHAT IS READ OUT OF A RUN: the first that is so; rounds; the reference's comesTo, period, roundAt, valueOf -/
/-- the first of 0 .. N - 1 that is so; -1 if none -/
def FST (p : Nat → Prop) (N : Nat) (r : Int32) : Prop := (∃ t, t < N ∧ p t ∧ (∀ u, u < t → ¬ p u) ∧ r = nI t) ∨ ((∀ t, t < N → ¬ p t) ∧ r = -nI 1)
theorem FST.uniq {p : Nat → Prop} {N : Nat} {r r' : Int32} (h : FST p N r) (h' : FST p N r') : r = r' := by
  rcases h with ⟨t, t1, t2, t3, rfl⟩ | ⟨h1, rfl⟩ <;> rcases h' with ⟨u, u1, u2, u3, rfl⟩ | ⟨h2, rfl⟩
  · have : t = u := by
      rcases Nat.lt_trichotomy t u with q | q | q
      · exact absurd t2 (u3 t q)
      · exact q
      · exact absurd u2 (t3 u q)
    rw [this]
  · exact absurd t2 (h2 t t1)
  · exact absurd u2 (h1 u u1)
  · rfl
theorem FST.iff {p q : Nat → Prop} {N : Nat} {r : Int32} (h : FST p N r) (e : ∀ t, t < N → (p t ↔ q t)) : FST q N r := by
  rcases h with ⟨t, t1, t2, t3, t4⟩ | ⟨h1, h2⟩
  · exact Or.inl ⟨t, t1, (e t t1).mp t2, fun u hu hq => t3 u hu ((e u (by omega)).mpr hq), t4⟩
  · exact Or.inr ⟨fun t ht hq => h1 t ht ((e t ht).mpr hq), h2⟩
/-- gone, with a shorter limit -/
theorem gonN_min (A : St) (S : Nat → Sh) (t : Nat) : ∀ d, gonN A S t = Nat.min t (gonN A S (t + d))
  | 0 => by
    have := gonN_le A S t
    rw [Nat.add_zero]
    exact (Nat.min_eq_right this).symm
  | d + 1 => by
    have ih := gonN_min A S t d
    have h1 := gonN_le A S (t + d)
    have e : gonN A S (t + (d + 1)) = if gonN A S (t + d) = t + d ∧ rkN A (S (t + d)).1 = 0 then t + d + 1 else gonN A S (t + d) := rfl
    rw [e]
    by_cases h : gonN A S (t + d) = t + d ∧ rkN A (S (t + d)).1 = 0
    · rw [if_pos h, ih, h.1]
      exact (Nat.min_eq_left (by omega)).trans (Nat.min_eq_left (by omega)).symm
    · rw [if_neg h]
      exact ih
theorem gonN_at {A : St} {S : Nat → Sh} {t M : Nat} (h : t ≤ M) : gonN A S t = t ↔ t ≤ gonN A S M := by
  have e := gonN_min A S t (M - t)
  rw [show t + (M - t) = M by omega] at e
  rw [e]
  constructor
  · intro q
    rw [← q]
    exact Nat.min_le_right _ _
  · intro q
    exact Nat.min_eq_left q
/-- no rock ahead of the end -/
theorem gonN_pre {A : St} {S : Nat → Sh} : ∀ M j, j < gonN A S M → rkN A (S j).1 = 0
  | 0, j, h => absurd h (Nat.not_lt_zero _)
  | M + 1, j, h => by
    unfold gonN at h
    split at h
    · rename_i q
      by_cases e : j = M
      · rw [e]; exact q.2
      · exact gonN_pre M j (by rw [q.1]; omega)
    · exact gonN_pre M j h
/-- if it ended early, it struck -/
theorem gonN_rock {A : St} {S : Nat → Sh} (h0 : rkN A (S 0).1 = 0) : ∀ M, gonN A S M < M → rkN A (S (gonN A S M)).1 ≠ 0 ∧ gonN A S M ≠ 0
  | 0, h => absurd h (Nat.not_lt_zero _)
  | M + 1, h => by
    unfold gonN at h ⊢
    split at h
    · omega
    · rename_i q
      rw [if_neg q]
      have hl := gonN_le A S M
      by_cases e : gonN A S M = M
      · have h1 : ¬ rkN A (S M).1 = 0 := fun z => q ⟨e, z⟩
        refine ⟨by rw [e]; exact h1, fun z => ?_⟩
        rw [e] at z
        rw [z] at h1
        exact h1 h0
      · exact gonN_rock h0 M (by omega)
def prdN (A : St) : Nat := (if allN A = 0 then 1 else allN A) * (if dEv A = 0 then 1 else dEv A)
theorem prdN_pos (A : St) : 1 ≤ prdN A := by
  unfold prdN
  split <;> split
  · decide
  · omega
  · omega
  · exact Nat.mul_pos (by omega) (by omega)
theorem prdN_le {A : St} (h : WFs A) : prdN A ≤ 54 * 9 := by
  have h1 := allN_le h
  unfold prdN
  refine Nat.mul_le_mul ?_ ?_
  · split <;> omega
  · rcases drift_ok h with ⟨-, e⟩ | ⟨-, -, -, e, -⟩ <;> split <;> omega
/-- late turns that there are not are straight -/
def LtOk (g : Nat) (S : Sh) : Prop := (g = 0 → S.2.2.1 = 1) ∧ (g ≠ 2 → S.2.2.2 = 1)
theorem latN_inj {g : Nat} {S S' : Sh} (hg : g ≤ 2) (h : LtOk g S) (h' : LtOk g S') (o : ShOk S) (o' : ShOk S') (e1 : S.1 = S'.1) (e2 : S.2.1 = S'.2.1) (e3 : latN g S = latN g S') : S = S' := by
  obtain ⟨a, b, c, d⟩ := S
  obtain ⟨a', b', c', d'⟩ := S'
  obtain ⟨-, -, o1, o2⟩ := o
  obtain ⟨-, -, p1, p2⟩ := o'
  have e1 : a = a' := e1
  have e2 : b = b' := e2
  have o1 : c < 3 := o1
  have o2 : d < 3 := o2
  have p1 : c' < 3 := p1
  have p2 : d' < 3 := p2
  have h1 : g = 0 → c = 1 := h.1
  have h2 : g ≠ 2 → d = 1 := h.2
  have h3 : g = 0 → c' = 1 := h'.1
  have h4 : g ≠ 2 → d' = 1 := h'.2
  have e3 : (if g = 0 then 0 else if g = 1 then c else 3 * c + d) = (if g = 0 then 0 else if g = 1 then c' else 3 * c' + d') := e3
  have hc : g = 0 ∨ g = 1 ∨ g = 2 := by omega
  rcases hc with rfl | rfl | rfl
  · rw [e1, e2, h1 rfl, h3 rfl, h2 (by decide), h4 (by decide)]
  · simp only [Nat.one_ne_zero, reduceIte] at e3
    rw [e1, e2, e3, h2 (by decide), h4 (by decide)]
  · simp only [Nat.reduceEqDiff, reduceIte] at e3
    have : c = c' := by omega
    have : d = d' := by omega
    rw [e1, e2, ‹c = c'›, ‹d = d'›]
theorem rnS_lt {A : St} {ρ : Nat → Nat} {g c h : Nat} : ∀ t, LtOk g (rnS A ρ g c h t)
  | 0 => ⟨fun _ => rfl, fun _ => rfl⟩
  | t + 1 => ⟨fun q => if_pos q, fun q => if_neg q⟩
/-- is it, at hour t, as by j periods earlier -/
def RDat (S : Nat → Sh) (by' t j : Nat) : Prop := 1 ≤ j ∧ j * by' ≤ t ∧ S (t - j * by') = S t
/-- no round -/
def RDn (S : Nat → Sh) (by' G : Nat) : Prop := ∀ t, t ≤ G → ∀ j, ¬ RDat S by' t j
/-- the first round at hour t, of j periods -/
def RDy (S : Nat → Sh) (by' G t j : Nat) : Prop := t ≤ G ∧ RDat S by' t j ∧ (∀ u, u < t → ∀ i, ¬ RDat S by' u i) ∧ ∀ i, i < j → ¬ RDat S by' t i
theorem RD_or (S : Nat → Sh) (by' : Nat) : ∀ G, RDn S by' G ∨ ∃ t j, RDy S by' G t j := by
  have inner : ∀ t b, (∀ i, i < b → ¬ RDat S by' t i) ∨ ∃ j, j < b ∧ RDat S by' t j ∧ ∀ i, i < j → ¬ RDat S by' t i := by
    intro t b
    induction b with
    | zero => exact Or.inl fun i hi => absurd hi (Nat.not_lt_zero _)
    | succ b ih =>
      rcases ih with ih | ⟨j, j1, j2, j3⟩
      · by_cases h : RDat S by' t b
        · exact Or.inr ⟨b, by omega, h, ih⟩
        · refine Or.inl fun i hi => ?_
          by_cases e : i = b
          · rw [e]; exact h
          · exact ih i (by omega)
      · exact Or.inr ⟨j, by omega, j2, j3⟩
  intro G
  have outer : ∀ G, (∀ t, t < G → ∀ j, ¬ RDat S by' t j) ∨ ∃ t j, t < G ∧ RDat S by' t j ∧ (∀ u, u < t → ∀ i, ¬ RDat S by' u i) ∧ ∀ i, i < j → ¬ RDat S by' t i := by
    intro G
    induction G with
    | zero => exact Or.inl fun t ht => absurd ht (Nat.not_lt_zero _)
    | succ G ih =>
      rcases ih with ih | ⟨t, j, t1, t2⟩
      · rcases inner G (G + 1) with h | ⟨j, j1, j2, j3⟩
        · by_cases hb : by' = 0
          · by_cases hq : ∃ j, RDat S by' G j
            · obtain ⟨j, q⟩ := hq
              have q1 : RDat S by' G 1 := ⟨Nat.le_refl _, by rw [hb]; exact Nat.zero_le _, by rw [hb]; rfl⟩
              refine Or.inr ⟨G, 1, by omega, q1, ih, fun i hi => ?_⟩
              rw [show i = 0 by omega]
              exact fun z => absurd z.1 (by decide)
            · refine Or.inl fun t ht j q => ?_
              by_cases e : t = G
              · exact hq ⟨j, e ▸ q⟩
              · exact ih t (by omega) j q
          · refine Or.inl fun t ht j q => ?_
            by_cases e : t = G
            · subst e
              refine h j ?_ q
              have h1 := q.2.1
              have h2 : j * 1 ≤ j * by' := Nat.mul_le_mul_left _ (by omega)
              omega
            · exact ih t (by omega) j q
        · exact Or.inr ⟨G, j, by omega, j2, ih, j3⟩
      · exact Or.inr ⟨t, j, by omega, t2⟩
  rcases outer (G + 1) with h | ⟨t, j, t1, t2⟩
  · exact Or.inl fun t ht => h t (by omega)
  · exact Or.inr ⟨t, j, by omega, t2⟩
section
variable {I A : St} {L : Lt} {ru n : Nat}
theorem s129 (hM : MC I A) (hW : WFs A) (hn : 6 < n) : f129 n 67 (mW I L ru) = some (nI (prdN A), mW I L ru) := by
  have h := s50 (L := L) (ru := ru) hM hW hn
  have ha := allN_le hW
  unfold prdN
  by_cases h0 : allN A = 0
  · rcases drift_ok hW with ⟨e1, e2⟩ | ⟨e1, e2, e3, e4, e5⟩
    · simp (config := { maxSteps := 2000000 }) (disch := omega) only [f129, f129_J14, ux_at, ux_kk, ux_jo, gIm, pIm, pZm, gRm, aIm, sIm, aBm, sBm, gLm, pLm, clm, wshS, obS, reduceIte, Nat.one_ne_zero, Nat.zero_ne_one, Nat.reduceEqDiff, not_true_eq_false, not_false_eq_true, Nat.le_refl, ng_le, ng_lt, ng_nle, ng_nlt, ng_eq, ng_eq2, Bool.false_eq_true, lit_nI, nI_add, pk_mul, nI_leI, nI_ltI, nI_eq, h, h0, mcA hM, e1, e2, Nat.mul_one]
    · have d0 : ¬ dEv A = 0 := by omega
      simp (config := { maxSteps := 2000000 }) (disch := omega) only [f129, f129_J14, ux_at, ux_kk, ux_jo, gIm, pIm, pZm, gRm, aIm, sIm, aBm, sBm, gLm, pLm, clm, wshS, obS, reduceIte, Nat.one_ne_zero, Nat.zero_ne_one, Nat.reduceEqDiff, not_true_eq_false, not_false_eq_true, Nat.le_refl, ng_le, ng_lt, ng_nle, ng_nlt, ng_eq, ng_eq2, Bool.false_eq_true, lit_nI, nI_add, pk_mul, nI_leI, nI_ltI, nI_eq, h, h0, mcA hM, e1, d0, Nat.zero_le]
  · rcases drift_ok hW with ⟨e1, e2⟩ | ⟨e1, e2, e3, e4, e5⟩
    · simp (config := { maxSteps := 2000000 }) (disch := omega) only [f129, f129_J14, ux_at, ux_kk, ux_jo, gIm, pIm, pZm, gRm, aIm, sIm, aBm, sBm, gLm, pLm, clm, wshS, obS, reduceIte, Nat.one_ne_zero, Nat.zero_ne_one, Nat.reduceEqDiff, not_true_eq_false, not_false_eq_true, Nat.le_refl, ng_le, ng_lt, ng_nle, ng_nlt, ng_eq, ng_eq2, Bool.false_eq_true, lit_nI, nI_add, pk_mul, nI_leI, nI_ltI, nI_eq, h, h0, mcA hM, e1, e2, Nat.mul_one]
    · have d0 : ¬ dEv A = 0 := by omega
      simp (config := { maxSteps := 2000000 }) (disch := omega) only [f129, f129_J14, ux_at, ux_kk, ux_jo, gIm, pIm, pZm, gRm, aIm, sIm, aBm, sBm, gLm, pLm, clm, wshS, obS, reduceIte, Nat.one_ne_zero, Nat.zero_ne_one, Nat.reduceEqDiff, not_true_eq_false, not_false_eq_true, Nat.le_refl, ng_le, ng_lt, ng_nle, ng_nlt, ng_eq, ng_eq2, Bool.false_eq_true, lit_nI, nI_add, pk_mul, nI_leI, nI_ltI, nI_eq, h, h0, mcA hM, e1, d0, Nat.zero_le]
/-- comesTo -/
theorem s59 {g G c : Nat} {S : Nat → Sh} {T : Nat → Nat} (hN : RN I A g S T G) (hO : ∀ t, ShOk (S t)) (hc : c < 64) (hG : G ≤ 400) (hn : 500 < n) : ∃ r, f59 n 67 (nI c) (mW I L ru) = some (r, mW I L ru) ∧ FST (fun t => (S t).1 = c) (G + 1) r := by
  refine lpP (F := fun k t (_ : Unit) => f59_H2 n (fun w9 => some ((-1 : Int32), w9)) k 67 (nI c) (nI t) (mW I L ru)) (P := fun x => ∃ r, x = some (r, mW I L ru) ∧ FST (fun t => (S t).1 = c) (G + 1) r) (J := fun t _ => ∀ u, u < t → ¬ (S u).1 = c) (G + 1) ?_ ?_ n 0 () (by omega) (by omega) (fun u hu => absurd hu (Nat.not_lt_zero _))
  · intro k _ hJ
    have e := hN.2.2.1
    have hlt : G < G + 1 := by omega
    simp (config := { maxSteps := 2000000 }) (disch := omega) only [f59_H2, ux_at, ux_kk, ux_jo, gIm, pIm, pZm, gRm, aIm, sIm, aBm, sBm, gLm, pLm, clm, wshS, obS, reduceIte, Nat.one_ne_zero, Nat.zero_ne_one, Nat.reduceEqDiff, not_true_eq_false, not_false_eq_true, Nat.le_refl, ng_le, ng_lt, ng_nle, ng_nlt, ng_eq, ng_eq2, Bool.false_eq_true, lit_nI, nI_add, pk_mul, nI_leI, nI_ltI, nI_eq, e, hlt]
    exact ⟨_, rfl, Or.inr ⟨hJ, rfl⟩⟩
  · intro k t _ ht hJ ih
    have e := hN.2.2.1
    obtain ⟨e1, -, -⟩ := hN.1 t (by omega)
    have o1 := (hO t).1
    have h1 : ¬ G < t := by omega
    by_cases q : (S t).1 = c
    · simp (config := { maxSteps := 2000000 }) (disch := omega) only [f59_H2, ux_at, ux_kk, ux_jo, gIm, pIm, pZm, gRm, aIm, sIm, aBm, sBm, gLm, pLm, clm, wshS, obS, reduceIte, Nat.one_ne_zero, Nat.zero_ne_one, Nat.reduceEqDiff, not_true_eq_false, not_false_eq_true, Nat.le_refl, ng_le, ng_lt, ng_nle, ng_nlt, ng_eq, ng_eq2, Bool.false_eq_true, lit_nI, nI_add, pk_mul, nI_leI, nI_ltI, nI_eq, e, h1, e1, q]
      exact ⟨_, rfl, Or.inl ⟨t, ht, q, hJ, rfl⟩⟩
    · simp (config := { maxSteps := 2000000 }) (disch := omega) only [f59_H2, ux_at, ux_kk, ux_jo, gIm, pIm, pZm, gRm, aIm, sIm, aBm, sBm, gLm, pLm, clm, wshS, obS, reduceIte, Nat.one_ne_zero, Nat.zero_ne_one, Nat.reduceEqDiff, not_true_eq_false, not_false_eq_true, Nat.le_refl, ng_le, ng_lt, ng_nle, ng_nlt, ng_eq, ng_eq2, Bool.false_eq_true, lit_nI, nI_add, pk_mul, nI_leI, nI_ltI, nI_eq, e, h1, e1, q]
      refine ih () fun u hu => ?_
      by_cases e : u = t
      · rw [e]; exact q
      · exact hJ u (by omega)
end
