/-! THE CLASS: what is read of a journey -/
theorem stJ_lt {g : Nat} {S : Sh} (h : ShOk S) : stJ g S < 8192 := by
  have := lcN_lt g S
  obtain ⟨o1, o2, -, -⟩ := h
  unfold stJ
  omega
theorem stJ_16 (g : Nat) (S : Sh) : stJ g S / 16 = 8 * S.1 + S.2.1 := by
  have := lcN_lt g S
  unfold stJ
  omega
theorem stJ_inj {g : Nat} {S S' : Sh} (hg : g ≤ 2) (h : LtOk g S) (h' : LtOk g S') (o : ShOk S) (o' : ShOk S') (e : stJ g S = stJ g S') : S = S' := by
  obtain ⟨a, b, c, d⟩ := S
  obtain ⟨a', b', c', d'⟩ := S'
  obtain ⟨-, q1, o1, o2⟩ := o
  obtain ⟨-, q2, p1, p2⟩ := o'
  have l1 := lcN_lt g (a, b, c, d)
  have l2 := lcN_lt g (a', b', c', d')
  have e : 16 * (8 * a + b) + lcN g (a, b, c, d) = 16 * (8 * a' + b') + lcN g (a', b', c', d') := e
  have q1 : b < 8 := q1
  have q2 : b' < 8 := q2
  have e1 : a = a' := by omega
  have e2 : b = b' := by omega
  have e3 : lcN g (a, b, c, d) = lcN g (a', b', c', d') := by omega
  have o1 : c < 3 := o1
  have o2 : d < 3 := o2
  have p1 : c' < 3 := p1
  have p2 : d' < 3 := p2
  have h1 : g = 0 → c = 1 := h.1
  have h2 : g ≠ 2 → d = 1 := h.2
  have h3 : g = 0 → c' = 1 := h'.1
  have h4 : g ≠ 2 → d' = 1 := h'.2
  have tw : ∀ x, x < 3 → ∀ y, y < 3 → twN x = twN y → x = y := by decide
  have e3 : (if g = 0 then 0 else if g = 1 then twN c else twN c + 4 * twN d) = (if g = 0 then 0 else if g = 1 then twN c' else twN c' + 4 * twN d') := e3
  have t1 := twN_lt c
  have t2 := twN_lt c'
  have hc : g = 0 ∨ g = 1 ∨ g = 2 := by omega
  rcases hc with rfl | rfl | rfl
  · rw [e1, e2, h1 rfl, h3 rfl, h2 (by decide), h4 (by decide)]
  · simp only [Nat.one_ne_zero, reduceIte] at e3
    rw [e1, e2, tw c o1 c' p1 e3, h2 (by decide), h4 (by decide)]
  · simp only [Nat.reduceEqDiff, reduceIte] at e3
    rw [e1, e2, tw c o1 c' p1 (by omega), tw d o2 d' p2 (by omega)]
/-! rounds: what is so once is so ever after -/
def PRD (S : Nat → Sh) (b : Nat) : Prop := ∀ j u, S (u + j * b) = S u → S (u + j * b + 1) = S (u + 1)
theorem PRD.on {S : Nat → Sh} {b j e : Nat} (h : PRD S b) (he : S (e + j * b) = S e) : ∀ i, S (e + i + j * b) = S (e + i)
  | 0 => he
  | i + 1 => by
    have ih := PRD.on h he i
    have h2 := h j (e + i) ih
    have e1 : e + (i + 1) + j * b = e + i + j * b + 1 := by omega
    rw [e1, h2]
    rfl
theorem RDat.up {S : Nat → Sh} {b t u j : Nat} (h : PRD S b) (hr : RDat S b t j) (htu : t ≤ u) : RDat S b u j := by
  obtain ⟨h1, h2, h3⟩ := hr
  have h4 : S (t - j * b + j * b) = S (t - j * b) := by
    rw [Nat.sub_add_cancel h2]
    exact h3.symm
  have h5 := h.on h4 (u - t)
  have e1 : t - j * b + (u - t) + j * b = u := by omega
  have e2 : t - j * b + (u - t) = u - j * b := by omega
  rw [e1, e2] at h5
  exact ⟨h1, by omega, h5.symm⟩
theorem rd_eq {S : Nat → Sh} {b G t j j0 : Nat} (h : PRD S b) (hb : 1 ≤ b) (hy : RDy S b G t j) (h0 : RDat S b G j0) (hm : ∀ i, i < j0 → ¬ RDat S b G i) : j0 = j := by
  obtain ⟨y1, y2, y3, y4⟩ := hy
  have u1 : ¬ j < j0 := fun z => hm j z (y2.up h y1)
  have u2 : RDat S b t j0 := by
    obtain ⟨a1, a2, a3⟩ := y2
    have hB : j0 * b ≤ j * b := Nat.mul_le_mul_right _ (by omega)
    have hB1 : 1 ≤ j * b := Nat.mul_pos a1 hb
    have h4 : S (t - j * b + j * b) = S (t - j * b) := by
      rw [Nat.sub_add_cancel a2]
      exact a3.symm
    have cy : ∀ N x, t - j * b ≤ x → S (x + N * (j * b)) = S x := by
      intro N
      induction N with
      | zero =>
        intro x _
        rw [Nat.zero_mul]
        rfl
      | succ N ih =>
        intro x hx
        have h5 := h.on h4 (x + N * (j * b) - (t - j * b))
        have e1 : t - j * b + (x + N * (j * b) - (t - j * b)) = x + N * (j * b) := by omega
        rw [e1, ih x hx] at h5
        rw [Nat.succ_mul, ← Nat.add_assoc]
        exact h5
    have hQ : G ≤ G * (j * b) := Nat.le_mul_of_pos_right _ hB1
    obtain ⟨-, c2, c3⟩ := h0.up h (show G ≤ t + G * (j * b) by omega)
    have c4 := cy G t (by omega)
    have c5 := cy G (t - j0 * b) (by omega)
    have e2 : t - j0 * b + G * (j * b) = t + G * (j * b) - j0 * b := by omega
    exact ⟨h0.1, by omega, c5.symm.trans ((congrArg S e2).trans (c3.trans c4))⟩
  have u3 : ¬ j0 < j := fun z => y4 j0 z u2
  omega
theorem turn_per {A : St} (hour j : Nat) : turnN A (hour + j * prdN A) = turnN A hour := by
  unfold turnN
  by_cases h0 : allN A = 0
  · rw [if_pos h0, if_pos h0]
  · rw [if_neg h0, if_neg h0]
    have e : j * prdN A = (j * (if dEv A = 0 then 1 else dEv A)) * allN A := by
      unfold prdN
      rw [if_neg h0, Nat.mul_comm (allN A), Nat.mul_assoc]
    rw [e, Nat.add_mul_mod_self_right]
theorem stp_per {A : St} (c h k hour j : Nat) : stpN A c h (hour + j * prdN A) k = stpN A c h hour k := by
  unfold stpN
  by_cases h0 : dEv A = 0
  · rw [if_neg (fun z => z.1 h0), if_neg (fun z => z.1 h0)]
  · have e : j * prdN A = (j * (if allN A = 0 then 1 else allN A)) * dEv A := by
      unfold prdN
      rw [if_neg h0, Nat.mul_assoc]
    have e2 : (hour + j * prdN A + 1) % dEv A = (hour + 1) % dEv A := by
      rw [e, Nat.add_right_comm, Nat.add_mul_mod_self_right]
    rw [e2]
theorem cnt_per {A : St} {ρ p : Nat → Nat} (hour j : Nat) : cntN A ρ p (hour + j * prdN A) = cntN A ρ p hour := by
  unfold cntN
  rw [turn_per]
theorem hr_per {A : St} {ρ : Nat → Nat} {g k : Nat} {S : Sh} (hour j : Nat) : hrS A ρ g (hour + j * prdN A) k S = hrS A ρ g hour k S := by
  unfold hrS
  rw [stp_per]
theorem rnS_per {A : St} {ρ : Nat → Nat} {g c h : Nat} : PRD (rnS A ρ g c h) (prdN A) := by
  intro j u e
  have e1 : ∀ t, rnS A ρ g c h (t + 1) = hrS A ρ g t (cntN A ρ (prsN A (rnS A ρ g c h t).1 (rnS A ρ g c h t).2.1) t) (rnS A ρ g c h t) := fun t => rfl
  rw [e1, e1, e, cnt_per, hr_per]
theorem sumI_mulc (a : Int32) (f : Nat → Int32) (n : Nat) : sumI (fun s => a * f s) n = a * sumI f n := by
  induction n with
  | zero => exact (Int32.mul_zero).symm
  | succ n ih =>
    show sumI (fun s => a * f s) n + a * f n = a * (sumI f n + f n)
    rw [ih, Int32.mul_add]
theorem wSet_rock {A : St} (hW : WFs A) {c m : Nat} (hc : c < 64) (hr : rkN A c = 1) : wSet A c m = -nI 99 * pSet A m := by
  unfold wSet pSet
  rw [← sumI_mulc]
  refine sumI_congr fun s hs => ?_
  have e := (hW.2.2.2.2.2.2.2.2.1 s hs c hc).2.2 hr
  have e9 : (-99 : Int32) = -nI 99 := by decide +kernel
  split
  · rw [e, e9, Int32.mul_comm]
  · exact Int32.mul_zero.symm
section
variable {I A : St} {L : Lt} {ru n : Nat}
theorem x_placeAt {g G j : Nat} {S : Nat → Sh} {T : Nat → Nat} (hN : JN I A g S T G) (hO : ∀ t, ShOk (S t)) (hj : j ≤ G) (hG : G ≤ 400) : f104 56 (nI j) (mW I L ru) = some (nI (8 * (S j).1 + (S j).2.1), mW I L ru) := by
  have e := hN.1 j hj
  have h := stJ_lt (g := g) (hO j)
  have h16 := stJ_16 g (S j)
  simp (config := { maxSteps := 2000000 }) (disch := omega) only [f104, ux_at, ux_kk, ux_jo, gIx, pIx, pZx, gRx, aIx, sIx, aBx, sBx, lenx, clx, wshS, obS, reduceIte, Nat.one_ne_zero, Nat.zero_ne_one, Nat.reduceEqDiff, not_true_eq_false, not_false_eq_true, Nat.le_refl, ng_le, ng_lt, ng_nle, ng_nlt, ng_eq, ng_eq2, Bool.false_eq_true, lit_nI, nI_add, pk_mul, nI_leI, nI_ltI, nI_eq, s0i, e, shr16, h16]
theorem x_turnAt {g G j : Nat} {S : Nat → Sh} {T : Nat → Nat} (hN : JN I A g S T G) (hj : j < G) (hG : G ≤ 400) : f106 56 (nI j) (mW I L ru) = some (tI (T j), mW I L ru) := by
  have e := hN.2.1 j hj
  simp (config := { maxSteps := 2000000 }) (disch := omega) only [f106, ux_at, ux_kk, ux_jo, gIx, pIx, pZx, gRx, aIx, sIx, aBx, sBx, lenx, clx, wshS, obS, reduceIte, Nat.one_ne_zero, Nat.zero_ne_one, Nat.reduceEqDiff, not_true_eq_false, not_false_eq_true, Nat.le_refl, ng_le, ng_lt, ng_nle, ng_nlt, ng_eq, ng_eq2, Bool.false_eq_true, lit_nI, nI_add, pk_mul, nI_leI, nI_ltI, nI_eq, s0i, e]
theorem x_firstAt {g G c : Nat} {S : Nat → Sh} {T : Nat → Nat} (hN : JN I A g S T G) (hO : ∀ t, ShOk (S t)) (hc : c < 64) (hG : G ≤ 400) (hn : 500 < n) : ∃ r, f156 n 56 (nI c) (mW I L ru) = some (r, mW I L ru) ∧ FST (fun t => (S t).1 = c) (G + 1) r := by
  refine lpP (F := fun k t (_ : Unit) => f156_H2 n (fun w => some ((-1 : Int32), w)) k 56 (nI c) (nI t) (mW I L ru)) (P := fun x => ∃ r, x = some (r, mW I L ru) ∧ FST (fun t => (S t).1 = c) (G + 1) r) (J := fun t _ => ∀ u, u < t → ¬ (S u).1 = c) (G + 1) ?_ ?_ n 0 () (by omega) (by omega) (fun u hu => absurd hu (Nat.not_lt_zero _))
  · intro k _ hJ
    have e := hN.2.2.1
    have hlt : G < G + 1 := by omega
    simp (config := { maxSteps := 2000000 }) (disch := omega) only [f156_H2, ux_at, ux_kk, ux_jo, gIx, pIx, pZx, gRx, aIx, sIx, aBx, sBx, lenx, clx, wshS, obS, reduceIte, Nat.one_ne_zero, Nat.zero_ne_one, Nat.reduceEqDiff, not_true_eq_false, not_false_eq_true, Nat.le_refl, ng_le, ng_lt, ng_nle, ng_nlt, ng_eq, ng_eq2, Bool.false_eq_true, lit_nI, nI_add, pk_mul, nI_leI, nI_ltI, nI_eq, e, hlt]
    exact ⟨_, rfl, Or.inr ⟨hJ, rfl⟩⟩
  · intro k t _ ht hJ ih
    have e := hN.2.2.1
    have e1 := x_placeAt (L := L) (ru := ru) (j := t) hN hO (by omega) hG
    obtain ⟨o1, o2, -, -⟩ := hO t
    have d1 : (8 * (S t).1 + (S t).2.1) / 8 = (S t).1 := by omega
    have h1 : ¬ G < t := by omega
    by_cases q : (S t).1 = c
    · rw [q] at e1 d1 o1
      simp (config := { maxSteps := 2000000 }) (disch := omega) only [f156_H2, ux_at, ux_kk, ux_jo, gIx, pIx, pZx, gRx, aIx, sIx, aBx, sBx, lenx, clx, wshS, obS, reduceIte, Nat.one_ne_zero, Nat.zero_ne_one, Nat.reduceEqDiff, not_true_eq_false, not_false_eq_true, Nat.le_refl, ng_le, ng_lt, ng_nle, ng_nlt, ng_eq, ng_eq2, Bool.false_eq_true, lit_nI, nI_add, pk_mul, nI_leI, nI_ltI, nI_eq, e, h1, e1, x_cellOf, d1]
      exact ⟨_, rfl, Or.inl ⟨t, ht, q, hJ, rfl⟩⟩
    · simp (config := { maxSteps := 2000000 }) (disch := omega) only [f156_H2, ux_at, ux_kk, ux_jo, gIx, pIx, pZx, gRx, aIx, sIx, aBx, sBx, lenx, clx, wshS, obS, reduceIte, Nat.one_ne_zero, Nat.zero_ne_one, Nat.reduceEqDiff, not_true_eq_false, not_false_eq_true, Nat.le_refl, ng_le, ng_lt, ng_nle, ng_nlt, ng_eq, ng_eq2, Bool.false_eq_true, lit_nI, nI_add, pk_mul, nI_leI, nI_ltI, nI_eq, e, h1, e1, x_cellOf, d1, q]
      refine ih () fun u hu => ?_
      by_cases e : u = t
      · rw [e]; exact q
      · exact hJ u (by omega)
theorem struck_at {g G : Nat} {S : Nat → Sh} {T : Nat → Nat} (hN : JN I A g S T G) (hr0 : rkN A (S 0).1 = 0) : I 56 8 = nI (rkN A (S G).1) := by
  have e := hN.2.2.2.1
  by_cases z : G = 0
  · rw [if_pos z] at e
    rw [e, z, hr0]
  · rw [if_neg z] at e
    exact e
/-- how many hours a round takes -/
theorem x_hoursRound (hS : CS I A) (hW : WFs A) {g G : Nat} {S : Nat → Sh} {T : Nat → Nat} (hN : JN I A g S T G) (hO : ∀ t, ShOk (S t)) (hL : ∀ t, LtOk g (S t)) (hg : g ≤ 2) (hG : G ≤ 400) (hr0 : rkN A (S 0).1 = 0) (hn : 500 < n) :
    ∃ j, f155 n 56 (mW I L ru) = some (nI (j * prdN A), mW I L ru) ∧ ((j = 0 ∧ (rkN A (S G).1 = 1 ∨ (rkN A (S G).1 = 0 ∧ ∀ i, ¬ RDat S (prdN A) G i))) ∨ (rkN A (S G).1 = 0 ∧ RDat S (prdN A) G j ∧ ∀ i, i < j → ¬ RDat S (prdN A) G i)) := by
  have st := struck_at hN hr0
  have e3 := hN.2.2.1
  have hb := prdN_le hW
  have hb1 := prdN_pos A
  have ep := x_period (L := L) (ru := ru) hS hW
  rcases one_or (rk_le hW (hO G).1) with rk | rk
  · rw [rk] at st
    have key : ∃ j, f155_H29 n (fun w => some ((0 : Int32), w)) n 56 (nI (prdN A)) (nI (prdN A)) (mW I L ru) = some (nI (j * prdN A), mW I L ru) ∧ ((j = 0 ∧ (rkN A (S G).1 = 1 ∨ (rkN A (S G).1 = 0 ∧ ∀ i, ¬ RDat S (prdN A) G i))) ∨ (rkN A (S G).1 = 0 ∧ RDat S (prdN A) G j ∧ ∀ i, i < j → ¬ RDat S (prdN A) G i)) := by
      have e0 : nI (prdN A) = nI ((0 + 1) * prdN A) := by rw [Nat.zero_add, Nat.one_mul]
      have key2 := lpP (F := fun k i (_ : Unit) => f155_H29 n (fun w => some ((0 : Int32), w)) k 56 (nI (prdN A)) (nI ((i + 1) * prdN A)) (mW I L ru)) (P := fun x => ∃ j, x = some (nI (j * prdN A), mW I L ru) ∧ ((j = 0 ∧ (rkN A (S G).1 = 1 ∨ (rkN A (S G).1 = 0 ∧ ∀ i, ¬ RDat S (prdN A) G i))) ∨ (rkN A (S G).1 = 0 ∧ RDat S (prdN A) G j ∧ ∀ i, i < j → ¬ RDat S (prdN A) G i))) (J := fun i _ => ∀ u, u ≤ i → ¬ RDat S (prdN A) G u) G ?_ ?_ n 0 () (by omega) (by omega) (fun u hu z => by have := z.1; omega)
      · rw [← e0] at key2
        exact key2
      · intro k _ hJ
        have hB : (G + 1) * prdN A ≤ 401 * (54 * 9) := Nat.mul_le_mul (by omega) hb
        have hB1 : (G + 1) * 1 ≤ (G + 1) * prdN A := Nat.mul_le_mul_left _ hb1
        have hlt : G < (G + 1) * prdN A := by omega
        simp (config := { maxSteps := 2000000 }) (disch := omega) only [f155_H29, ux_at, ux_kk, ux_jo, gIx, pIx, pZx, gRx, aIx, sIx, aBx, sBx, lenx, clx, wshS, obS, reduceIte, Nat.one_ne_zero, Nat.zero_ne_one, Nat.reduceEqDiff, not_true_eq_false, not_false_eq_true, Nat.le_refl, ng_le, ng_lt, ng_nle, ng_nlt, ng_eq, ng_eq2, Bool.false_eq_true, lit_nI, nI_add, pk_mul, nI_leI, nI_ltI, nI_eq, e3, hlt]
        refine ⟨0, by rw [Nat.zero_mul], Or.inl ⟨rfl, Or.inr ⟨rk, fun i z => ?_⟩⟩⟩
        have z2 := z.2.1
        have z3 : i * 1 ≤ i * prdN A := Nat.mul_le_mul_left _ hb1
        exact hJ i (by omega) z
      · intro k i _ hi hJ ih
        have hB : (i + 1) * prdN A ≤ 401 * (54 * 9) := Nat.mul_le_mul (by omega) hb
        have hB2 : (i + 1) * prdN A + prdN A = (i + 1 + 1) * prdN A := (Nat.succ_mul _ _).symm
        by_cases q : G < (i + 1) * prdN A
        · simp (config := { maxSteps := 2000000 }) (disch := omega) only [f155_H29, ux_at, ux_kk, ux_jo, gIx, pIx, pZx, gRx, aIx, sIx, aBx, sBx, lenx, clx, wshS, obS, reduceIte, Nat.one_ne_zero, Nat.zero_ne_one, Nat.reduceEqDiff, not_true_eq_false, not_false_eq_true, Nat.le_refl, ng_le, ng_lt, ng_nle, ng_nlt, ng_eq, ng_eq2, Bool.false_eq_true, lit_nI, nI_add, pk_mul, nI_leI, nI_ltI, nI_eq, e3, q]
          refine ⟨0, by rw [Nat.zero_mul], Or.inl ⟨rfl, Or.inr ⟨rk, fun u z => ?_⟩⟩⟩
          by_cases hu : u ≤ i
          · exact hJ u hu z
          · have z2 := z.2.1
            have z3 : (i + 1) * prdN A ≤ u * prdN A := Nat.mul_le_mul_right _ (by omega)
            omega
        · have e1 := hN.1 (G - (i + 1) * prdN A) (by omega)
          have e2 := hN.1 G (Nat.le_refl _)
          have l1 := stJ_lt (g := g) (hO (G - (i + 1) * prdN A))
          have l2 := stJ_lt (g := g) (hO G)
          by_cases e : stJ g (S (G - (i + 1) * prdN A)) = stJ g (S G)
          · have e9 := stJ_inj hg (hL _) (hL _) (hO _) (hO _) e
            simp (config := { maxSteps := 2000000 }) (disch := omega) only [f155_H29, ux_at, ux_kk, ux_jo, gIx, pIx, pZx, gRx, aIx, sIx, aBx, sBx, lenx, clx, wshS, obS, reduceIte, Nat.one_ne_zero, Nat.zero_ne_one, Nat.reduceEqDiff, not_true_eq_false, not_false_eq_true, Nat.le_refl, ng_le, ng_lt, ng_nle, ng_nlt, ng_eq, ng_eq2, Bool.false_eq_true, lit_nI, nI_add, pk_mul, nI_leI, nI_ltI, nI_eq, e3, q, pk_sub, e1, e2, e]
            exact ⟨i + 1, rfl, Or.inr ⟨rk, ⟨by omega, by omega, e9⟩, fun u hu => hJ u (by omega)⟩⟩
          · simp (config := { maxSteps := 2000000 }) (disch := omega) only [f155_H29, ux_at, ux_kk, ux_jo, gIx, pIx, pZx, gRx, aIx, sIx, aBx, sBx, lenx, clx, wshS, obS, reduceIte, Nat.one_ne_zero, Nat.zero_ne_one, Nat.reduceEqDiff, not_true_eq_false, not_false_eq_true, Nat.le_refl, ng_le, ng_lt, ng_nle, ng_nlt, ng_eq, ng_eq2, Bool.false_eq_true, lit_nI, nI_add, pk_mul, nI_leI, nI_ltI, nI_eq, e3, q, pk_sub, e1, e2, e, hB2]
            refine ih () fun u hu => ?_
            by_cases hu2 : u = i + 1
            · rw [hu2]
              intro z
              exact e (by rw [z.2.2])
            · exact hJ u (by omega)
    obtain ⟨j, k1, k2⟩ := key
    refine ⟨j, ?_, k2⟩
    simp (config := { maxSteps := 2000000 }) (disch := omega) only [f155, ux_at, ux_kk, ux_jo, gIx, pIx, pZx, gRx, aIx, sIx, aBx, sBx, lenx, clx, wshS, obS, reduceIte, Nat.one_ne_zero, Nat.zero_ne_one, Nat.reduceEqDiff, not_true_eq_false, not_false_eq_true, Nat.le_refl, ng_le, ng_lt, ng_nle, ng_nlt, ng_eq, ng_eq2, Bool.false_eq_true, lit_nI, nI_add, pk_mul, nI_leI, nI_ltI, nI_eq, st, e3, hG, ep]
    exact k1
  · rw [rk] at st
    refine ⟨0, ?_, Or.inl ⟨rfl, Or.inl rk⟩⟩
    simp (config := { maxSteps := 2000000 }) (disch := omega) only [f155, ux_at, ux_kk, ux_jo, gIx, pIx, pZx, gRx, aIx, sIx, aBx, sBx, lenx, clx, wshS, obS, reduceIte, Nat.one_ne_zero, Nat.zero_ne_one, Nat.reduceEqDiff, not_true_eq_false, not_false_eq_true, Nat.le_refl, ng_le, ng_lt, ng_nle, ng_nlt, ng_eq, ng_eq2, Bool.false_eq_true, lit_nI, nI_add, pk_mul, nI_leI, nI_ltI, nI_eq, st, Nat.zero_mul]
theorem x_firstRound {g G d : Nat} {S : Nat → Sh} {T : Nat → Nat} (hN : JN I A g S T G) (hO : ∀ t, ShOk (S t)) (hL : ∀ t, LtOk g (S t)) (hg : g ≤ 2) (hG : G ≤ 400) (hd : 0 < d) (hdG : d ≤ G) (he : S (G - d) = S G) (hn : 500 < n) :
    ∃ t, f103 n 56 (nI d) (mW I L ru) = some (nI t, mW I L ru) ∧ t ≤ G ∧ d ≤ t ∧ S (t - d) = S t ∧ ∀ u, d ≤ u → u < t → ¬ S (u - d) = S u := by
  have e3 := hN.2.2.1
  have key := lpP (F := fun k i (_ : Unit) => f103_H6 n (fun w => some ((-1 : Int32), w)) k 56 (nI d) (nI i) (mW I L ru)) (P := fun x => ∃ t, x = some (nI t, mW I L ru) ∧ t ≤ G ∧ d ≤ t ∧ S (t - d) = S t ∧ ∀ u, d ≤ u → u < t → ¬ S (u - d) = S u) (J := fun i _ => d ≤ i ∧ ∀ u, d ≤ u → u < i → ¬ S (u - d) = S u) G ?_ ?_ n d () hdG (by omega) ⟨Nat.le_refl _, fun u h1 h2 => by omega⟩
  · simp (config := { maxSteps := 2000000 }) (disch := omega) only [f103, Nat.one_ne_zero, Nat.zero_ne_one, Nat.reduceEqDiff, not_true_eq_false, not_false_eq_true, Nat.le_refl, ng_le, ng_lt, ng_nle, ng_nlt, ng_eq, ng_eq2, Bool.false_eq_true, lit_nI, nI_add, pk_mul, nI_leI, nI_ltI, nI_eq, hd, reduceIte]
    exact key
  · rintro k _ ⟨h1, hJ⟩
    have h2 : ¬ G < G := by omega
    have h3 : ¬ 400 < G := by omega
    have e1 := hN.1 (G - d) (by omega)
    have e2 := hN.1 G (Nat.le_refl _)
    have l2 := stJ_lt (g := g) (hO G)
    rw [he] at e1
    simp (config := { maxSteps := 2000000 }) (disch := omega) only [f103_H6, ux_at, ux_kk, ux_jo, gIx, pIx, pZx, gRx, aIx, sIx, aBx, sBx, lenx, clx, wshS, obS, reduceIte, Nat.one_ne_zero, Nat.zero_ne_one, Nat.reduceEqDiff, not_true_eq_false, not_false_eq_true, Nat.le_refl, ng_le, ng_lt, ng_nle, ng_nlt, ng_eq, ng_eq2, Bool.false_eq_true, lit_nI, nI_add, pk_mul, nI_leI, nI_ltI, nI_eq, e3, h2, h3, hd, pk_sub, e1, e2]
    exact ⟨G, rfl, Nat.le_refl _, h1, he, hJ⟩
  · rintro k i _ hi ⟨h1, hJ⟩ ih
    have h2 : ¬ G < i := by omega
    have h3 : ¬ 400 < i := by omega
    have e1 := hN.1 (i - d) (by omega)
    have e2 := hN.1 i (by omega)
    have l1 := stJ_lt (g := g) (hO (i - d))
    have l2 := stJ_lt (g := g) (hO i)
    by_cases e : stJ g (S i) = stJ g (S (i - d))
    · have e9 := stJ_inj hg (hL _) (hL _) (hO _) (hO _) e.symm
      simp (config := { maxSteps := 2000000 }) (disch := omega) only [f103_H6, ux_at, ux_kk, ux_jo, gIx, pIx, pZx, gRx, aIx, sIx, aBx, sBx, lenx, clx, wshS, obS, reduceIte, Nat.one_ne_zero, Nat.zero_ne_one, Nat.reduceEqDiff, not_true_eq_false, not_false_eq_true, Nat.le_refl, ng_le, ng_lt, ng_nle, ng_nlt, ng_eq, ng_eq2, Bool.false_eq_true, lit_nI, nI_add, pk_mul, nI_leI, nI_ltI, nI_eq, e3, h2, h3, hd, pk_sub, e1, e2, e]
      exact ⟨i, rfl, by omega, h1, e9, hJ⟩
    · simp (config := { maxSteps := 2000000 }) (disch := omega) only [f103_H6, ux_at, ux_kk, ux_jo, gIx, pIx, pZx, gRx, aIx, sIx, aBx, sBx, lenx, clx, wshS, obS, reduceIte, Nat.one_ne_zero, Nat.zero_ne_one, Nat.reduceEqDiff, not_true_eq_false, not_false_eq_true, Nat.le_refl, ng_le, ng_lt, ng_nle, ng_nlt, ng_eq, ng_eq2, Bool.false_eq_true, lit_nI, nI_add, pk_mul, nI_leI, nI_ltI, nI_eq, e3, h2, h3, hd, pk_sub, e1, e2, e]
      refine ih () ⟨by omega, fun u hu1 hu2 => ?_⟩
      by_cases q : u = i
      · rw [q]
        intro z
        exact e (by rw [z])
      · exact hJ u hu1 (by omega)
/-- the round of a run, as the reference tells it -/
theorem rnd_of {G t j what : Nat} {S : Nat → Sh} {r : Int32} (hW : WFs A) (hp : PRD S (prdN A)) (hrk : rkN A (S G).1 = 0) (h0 : RDat S (prdN A) G j) (hm : ∀ i, i < j → ¬ RDat S (prdN A) G i) (t1 : t ≤ G) (t2 : j * prdN A ≤ t) (t3 : S (t - j * prdN A) = S t) (t4 : ∀ u, j * prdN A ≤ u → u < t → ¬ S (u - j * prdN A) = S u) (hr : r = if what = 1 then nI t else nI (j * prdN A)) : rndI A S G what r := by
  refine Or.inr ⟨fun z => by have := z.2; omega, Or.inr ⟨t, j, ?_, hr⟩⟩
  rcases RD_or S (prdN A) G with q | ⟨t', j', q⟩
  · exact absurd h0 (q G (Nat.le_refl _) j)
  · have e := rd_eq hp (prdN_pos A) q h0 hm
    subst e
    have e2 : t = t' := by
      obtain ⟨q1, ⟨-, q2, q3⟩, q4, -⟩ := q
      rcases Nat.lt_trichotomy t t' with z | z | z
      · exact absurd ⟨h0.1, t2, t3⟩ (q4 t z j)
      · exact z
      · exact absurd q3 (t4 t' q2 z)
    subst e2
    exact q
/-- what a journey is worth -/
theorem x_worthTo2 (hS : CS I A) (hW : WFs A) {g G m hours : Nat} {S : Nat → Sh} {T : Nat → Nat} (hN : JN I A g S T G) (hO : ∀ t, ShOk (S t)) (hm : m < 64) (hG : G ≤ 400) (hh : hours ≤ 400) (hn : 500 < n) : f188 n 56 (nI m) (nI hours) (mW I L ru) = some (valI A m S G hours, mW I L ru) := by
  have e3 := hN.2.2.1
  have e9 : (-99 : Int32) = -nI 99 := by decide +kernel
  refine lpE (F := fun k i s => f188_H5 n (fun e w => some (e, w)) k 56 (nI m) (nI hours) s (nI (i + 1)) (mW I L ru)) (J := sumI (fun i => vtI A m S G (i + 1))) hours ?_ ?_ n 0 (Nat.zero_le _) (by omega)
  · intro k
    have h1 : hours < hours + 1 := by omega
    simp (config := { maxSteps := 2000000 }) (disch := omega) only [f188_H5, ux_at, ux_kk, ux_jo, gIx, pIx, pZx, gRx, aIx, sIx, aBx, sBx, lenx, clx, wshS, obS, reduceIte, Nat.one_ne_zero, Nat.zero_ne_one, Nat.reduceEqDiff, not_true_eq_false, not_false_eq_true, Nat.le_refl, ng_le, ng_lt, ng_nle, ng_nlt, ng_eq, ng_eq2, Bool.false_eq_true, lit_nI, nI_add, pk_mul, nI_leI, nI_ltI, nI_eq, h1, valI]
  · intro k i hi
    have h1 : ¬ hours < i + 1 := by omega
    have hs : sumI (fun i => vtI A m S G (i + 1)) (i + 1) = sumI (fun i => vtI A m S G (i + 1)) i + vtI A m S G (i + 1) := rfl
    rw [hs]
    generalize sumI (fun i => vtI A m S G (i + 1)) i = z
    have ep := x_personsIn (L := L) (ru := ru) (n := n) hS hW hm (by omega)
    by_cases h2 : G < i + 1
    · have ev : vtI A m S G (i + 1) = -nI 99 * pSet A m := if_pos h2
      rw [ev]
      simp (config := { maxSteps := 2000000 }) (disch := omega) only [f188_H5, f188_J52, ux_at, ux_kk, ux_jo, gIx, pIx, pZx, gRx, aIx, sIx, aBx, sBx, lenx, clx, wshS, obS, reduceIte, Nat.one_ne_zero, Nat.zero_ne_one, Nat.reduceEqDiff, not_true_eq_false, not_false_eq_true, Nat.le_refl, ng_le, ng_lt, ng_nle, ng_nlt, ng_eq, ng_eq2, Bool.false_eq_true, lit_nI, nI_add, pk_mul, nI_leI, nI_ltI, nI_eq, h1, e3, h2, ep]
    · obtain ⟨o1, o2, -, -⟩ := hO (i + 1)
      have d1 : (8 * (S (i + 1)).1 + (S (i + 1)).2.1) / 8 = (S (i + 1)).1 := by omega
      have ev : vtI A m S G (i + 1) = wSet A (S (i + 1)).1 m := by
        unfold vtI
        rw [if_neg h2]
        split
        · next q => exact (wSet_rock hW o1 q).symm
        · rfl
      rw [ev]
      have e1 := x_placeAt (L := L) (ru := ru) (j := i + 1) hN hO (by omega) hG
      have e2 := x_worthToSet (L := L) (ru := ru) (n := n) hS hW o1 hm (by omega)
      simp (config := { maxSteps := 2000000 }) (disch := omega) only [f188_H5, f188_J52, ux_at, ux_kk, ux_jo, gIx, pIx, pZx, gRx, aIx, sIx, aBx, sBx, lenx, clx, wshS, obS, reduceIte, Nat.one_ne_zero, Nat.zero_ne_one, Nat.reduceEqDiff, not_true_eq_false, not_false_eq_true, Nat.le_refl, ng_le, ng_lt, ng_nle, ng_nlt, ng_eq, ng_eq2, Bool.false_eq_true, lit_nI, nI_add, pk_mul, nI_leI, nI_ltI, nI_eq, h1, e3, h2, e1, x_cellOf, d1, e2]
end
