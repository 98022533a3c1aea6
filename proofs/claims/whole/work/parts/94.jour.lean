/-! THE CLASS: journeys -/
/-- a late turn, in two bits -/
def twN (k : Nat) : Nat := if k = 0 then 3 else if k = 1 then 0 else 1
def lcN (g : Nat) (S : Sh) : Nat := if g = 0 then 0 else if g = 1 then twN S.2.2.1 else twN S.2.2.1 + 4 * twN S.2.2.2
def stJ (g : Nat) (S : Sh) : Nat := 16 * (8 * S.1 + S.2.1) + lcN g S
theorem twN_lt (k : Nat) : twN k < 4 := by
  unfold twN
  split
  · decide
  · split <;> decide
theorem lcN_lt (g : Nat) (S : Sh) : lcN g S < 16 := by
  have := twN_lt S.2.2.1
  have := twN_lt S.2.2.2
  unfold lcN
  split
  · decide
  · split <;> omega
theorem tw_e1 : ∀ a, a < 3 → ∀ b, b < 3 → nI (twN a + 4 * twN b) &&& nI 3 = nI (twN a) := by decide +kernel
theorem tw_e2 : ∀ a, a < 3 → nI (twN a) &&& nI 3 = nI (twN a) := by decide +kernel
theorem tw_e3 : ∀ a, a < 3 → tI a &&& nI 3 = nI (twN a) := by decide +kernel
theorem tw_e4 : ∀ a, a < 3 → ∀ b, b < 3 → ∀ k, k < 3 → (nI (twN a + 4 * twN b) >>> (nI 2 &&& nI 31)) ||| (nI (twN k) <<< (nI 2 * (nI 2 - nI 1) &&& nI 31)) = nI (twN b + 4 * twN k) := by decide +kernel
theorem tw_e5 : ∀ a, a < 3 → ∀ k, k < 3 → (nI (twN a) >>> (nI 2 &&& nI 31)) ||| (nI (twN k) <<< (nI 2 * (nI 1 - nI 1) &&& nI 31)) = nI (twN k) := by decide +kernel
theorem tw_3 : ∀ k, k < 3 → (twN k = 3) = (k = 0) := by decide
theorem shl16 : ∀ p, p < 512 → nI p <<< (nI 4 &&& nI 31) = nI (16 * p) := by decide +kernel
theorem shr16 {x : Nat} (hx : x < 2 ^ 31) : nI x >>> (nI 4 &&& nI 31) = nI (x / 16) := pk_shrN hx _ 4 (by decide +kernel)
theorem or16 {p l : Nat} (hl : l < 16) : 16 * p ||| l = 16 * p + l := (Nat.two_pow_add_eq_or_of_lt (i := 4) hl p).symm
/-- the log of a journey, to hour t -/
def JN (I A : St) (g : Nat) (S : Nat → Sh) (T : Nat → Nat) (t : Nat) : Prop :=
  (∀ j, j ≤ t → I 58 j = nI (stJ g (S j))) ∧ (∀ j, j < t → I 59 j = tI (T j)) ∧ I 56 7 = nI t ∧ I 56 8 = nI (if t = 0 then 0 else rkN A (S t).1) ∧ I 56 9 = nI (lcN g (S t))
abbrev jK : List Nat := [56, 58, 59]
theorem JN.fr {I I' A : St} {g : Nat} {S : Nat → Sh} {T : Nat → Nat} {t : Nat} (h : JN I A g S T t) {K F : List Nat} (f : Fr K F I I') (h1 : 56 ∉ K) (h2 : 58 ∉ K) (h3 : 59 ∉ K) : JN I' A g S T t := by
  have e1 := f.at h1 (by decide)
  have e2 := f.at h2 (by decide)
  have e3 := f.at h3 (by decide)
  unfold JN
  rw [e1, e2, e3]
  exact h
section
variable {I A : St} {L : Lt} {ru n : Nat}
theorem lag_cs (hS : CS I A) : I 3 4 = nI (lagN A) := hS.2.2.2.2.1
theorem lag_le (hW : WFs A) : lagN A ≤ 2 := hW.2.2.2.2.1.2
/-- the turn that is done now -/
theorem x_delayed (hS : CS I A) (hW : WFs A) {ρ : Nat → Nat} (hR : RK ρ) {S : Sh} (hO : ShOk S) {k : Nat} (hk : k < 3) (hl : I 56 9 = nI (lcN (lagN A) S)) :
    ∃ I', f32 56 (if unN A S.1 S.2.1 (ρ 4) = 1 then nI 0 else tI k) (if unN A S.1 S.2.1 (ρ 4) = 1 then tI (ρ 3) else nI 0) (mW I L ru) = some (tI (trnN A ρ (lagN A) S.1 S.2.1 S.2.2.1 k), mW I' L ru) ∧ Fr [56] [] I I' ∧ (∀ j, j ≠ 9 → I' 56 j = I 56 j) ∧ ∀ hour, I' 56 9 = nI (lcN (lagN A) (hrS A ρ (lagN A) hour k S)) := by
  obtain ⟨-, -, o3, o4⟩ := hO
  have hlag := lag_cs hS
  have hg := lag_le hW
  -- the two arguments: v the turn of 'unless', x what is counted
  have key : ∀ (x : Nat) (v : Int32), x < 3 → (v = nI 0 ∨ ¬ v = nI 0) → (∃ I', f32 56 (tI x) v (mW I L ru) = some (if v = nI 0 then tI (if lagN A = 0 then x else S.2.2.1) else v, mW I' L ru) ∧ Fr [56] [] I I' ∧ (∀ j, j ≠ 9 → I' 56 j = I 56 j) ∧ I' 56 9 = nI (lcN (lagN A) (S.1, S.2.1, (if lagN A = 0 then 1 else if lagN A = 1 then x else S.2.2.2), (if lagN A = 2 then x else 1)))) := by
    intro x v hx hv
    have t1 := twN_lt S.2.2.1
    have t2 := twN_lt S.2.2.2
    have t3 := twN_lt x
    rcases (show lagN A = 0 ∨ lagN A = 1 ∨ lagN A = 2 by omega) with e | e | e
    · rw [e] at hlag hl
      refine ⟨I, ?_, Fr.rf, fun _ _ => rfl, ?_⟩
      · rcases hv with v0 | v0
        · simp (config := { maxSteps := 2000000 }) (disch := omega) only [f32, ux_at, ux_kk, ux_jo, gIx, pIx, pZx, gRx, aIx, sIx, aBx, sBx, lenx, clx, wshS, obS, reduceIte, Nat.one_ne_zero, Nat.zero_ne_one, Nat.reduceEqDiff, not_true_eq_false, not_false_eq_true, Nat.le_refl, ng_le, ng_lt, ng_nle, ng_nlt, ng_eq, ng_eq2, Bool.false_eq_true, lit_nI, nI_add, pk_mul, nI_leI, nI_ltI, nI_eq, hlag, Nat.lt_irrefl, v0, e]
        · simp (config := { maxSteps := 2000000 }) (disch := omega) only [f32, ux_at, ux_kk, ux_jo, gIx, pIx, pZx, gRx, aIx, sIx, aBx, sBx, lenx, clx, wshS, obS, reduceIte, Nat.one_ne_zero, Nat.zero_ne_one, Nat.reduceEqDiff, not_true_eq_false, not_false_eq_true, Nat.le_refl, ng_le, ng_lt, ng_nle, ng_nlt, ng_eq, ng_eq2, Bool.false_eq_true, lit_nI, nI_add, pk_mul, nI_leI, nI_ltI, nI_eq, hlag, Nat.lt_irrefl, v0]
      · rw [e]
        exact hl
    · rw [e] at hlag hl
      have hl' : I 56 9 = nI (twN S.2.2.1) := hl
      refine ⟨u2 I 56 9 (nI (twN x)), ?_, Fr.rf.u (by decide), fun j hj => ux_j hj, ?_⟩
      · have e5 := tw_e5 _ o3 _ hx
        have p1 : 0 < 1 := by decide
        by_cases q : S.2.2.1 = 0
        · have q3 := (tw_3 _ o3).mpr q
          have q6 := eq_true q3
          have q5 : tI S.2.2.1 = -nI 1 := by
            rw [q]
            exact tI_0
          rcases hv with v0 | v0
          · simp (config := { maxSteps := 2000000 }) (disch := omega) only [f32, ux_at, ux_kk, ux_jo, gIx, pIx, pZx, gRx, aIx, sIx, aBx, sBx, lenx, clx, wshS, obS, reduceIte, Nat.one_ne_zero, Nat.zero_ne_one, Nat.reduceEqDiff, not_true_eq_false, not_false_eq_true, Nat.le_refl, ng_le, ng_lt, ng_nle, ng_nlt, ng_eq, ng_eq2, Bool.false_eq_true, lit_nI, nI_add, pk_mul, nI_leI, nI_ltI, nI_eq, hlag, p1, hl', tw_e3, tw_e2, e5, v0, q6, e, q5]
          · simp (config := { maxSteps := 2000000 }) (disch := omega) only [f32, ux_at, ux_kk, ux_jo, gIx, pIx, pZx, gRx, aIx, sIx, aBx, sBx, lenx, clx, wshS, obS, reduceIte, Nat.one_ne_zero, Nat.zero_ne_one, Nat.reduceEqDiff, not_true_eq_false, not_false_eq_true, Nat.le_refl, ng_le, ng_lt, ng_nle, ng_nlt, ng_eq, ng_eq2, Bool.false_eq_true, lit_nI, nI_add, pk_mul, nI_leI, nI_ltI, nI_eq, hlag, p1, hl', tw_e3, tw_e2, e5, v0]
        · have q3 : ¬ twN S.2.2.1 = 3 := fun z => q ((tw_3 _ o3).mp z)
          have q4 : nI (twN S.2.2.1) = tI S.2.2.1 := by
            rcases k3 o3 with z | z | z
            · exact absurd z q
            · rw [z]; decide +kernel
            · rw [z]; decide +kernel
          rcases hv with v0 | v0
          · simp (config := { maxSteps := 2000000 }) (disch := omega) only [f32, ux_at, ux_kk, ux_jo, gIx, pIx, pZx, gRx, aIx, sIx, aBx, sBx, lenx, clx, wshS, obS, reduceIte, Nat.one_ne_zero, Nat.zero_ne_one, Nat.reduceEqDiff, not_true_eq_false, not_false_eq_true, Nat.le_refl, ng_le, ng_lt, ng_nle, ng_nlt, ng_eq, ng_eq2, Bool.false_eq_true, lit_nI, nI_add, pk_mul, nI_leI, nI_ltI, nI_eq, hlag, p1, hl', tw_e3, tw_e2, e5, v0, q3, e, q4.symm]
          · simp (config := { maxSteps := 2000000 }) (disch := omega) only [f32, ux_at, ux_kk, ux_jo, gIx, pIx, pZx, gRx, aIx, sIx, aBx, sBx, lenx, clx, wshS, obS, reduceIte, Nat.one_ne_zero, Nat.zero_ne_one, Nat.reduceEqDiff, not_true_eq_false, not_false_eq_true, Nat.le_refl, ng_le, ng_lt, ng_nle, ng_nlt, ng_eq, ng_eq2, Bool.false_eq_true, lit_nI, nI_add, pk_mul, nI_leI, nI_ltI, nI_eq, hlag, p1, hl', tw_e3, tw_e2, e5, v0]
      · rw [e]
        exact ux_at
    · rw [e] at hlag hl
      have hl' : I 56 9 = nI (twN S.2.2.1 + 4 * twN S.2.2.2) := hl
      refine ⟨u2 I 56 9 (nI (twN S.2.2.2 + 4 * twN x)), ?_, Fr.rf.u (by decide), fun j hj => ux_j hj, ?_⟩
      · have e5 := tw_e4 _ o3 _ o4 _ hx
        have e6 := tw_e1 _ o3 _ o4
        have p1 : 0 < 2 := by decide
        by_cases q : S.2.2.1 = 0
        · have q3 := (tw_3 _ o3).mpr q
          have q6 := eq_true q3
          have q5 : tI S.2.2.1 = -nI 1 := by
            rw [q]
            exact tI_0
          rcases hv with v0 | v0
          · simp (config := { maxSteps := 2000000 }) (disch := omega) only [f32, ux_at, ux_kk, ux_jo, gIx, pIx, pZx, gRx, aIx, sIx, aBx, sBx, lenx, clx, wshS, obS, reduceIte, Nat.one_ne_zero, Nat.zero_ne_one, Nat.reduceEqDiff, not_true_eq_false, not_false_eq_true, Nat.le_refl, ng_le, ng_lt, ng_nle, ng_nlt, ng_eq, ng_eq2, Bool.false_eq_true, lit_nI, nI_add, pk_mul, nI_leI, nI_ltI, nI_eq, hlag, p1, hl', tw_e3, e6, e5, v0, q6, e, q5]
          · simp (config := { maxSteps := 2000000 }) (disch := omega) only [f32, ux_at, ux_kk, ux_jo, gIx, pIx, pZx, gRx, aIx, sIx, aBx, sBx, lenx, clx, wshS, obS, reduceIte, Nat.one_ne_zero, Nat.zero_ne_one, Nat.reduceEqDiff, not_true_eq_false, not_false_eq_true, Nat.le_refl, ng_le, ng_lt, ng_nle, ng_nlt, ng_eq, ng_eq2, Bool.false_eq_true, lit_nI, nI_add, pk_mul, nI_leI, nI_ltI, nI_eq, hlag, p1, hl', tw_e3, e6, e5, v0]
        · have q3 : ¬ twN S.2.2.1 = 3 := fun z => q ((tw_3 _ o3).mp z)
          have q4 : nI (twN S.2.2.1) = tI S.2.2.1 := by
            rcases k3 o3 with z | z | z
            · exact absurd z q
            · rw [z]; decide +kernel
            · rw [z]; decide +kernel
          rcases hv with v0 | v0
          · simp (config := { maxSteps := 2000000 }) (disch := omega) only [f32, ux_at, ux_kk, ux_jo, gIx, pIx, pZx, gRx, aIx, sIx, aBx, sBx, lenx, clx, wshS, obS, reduceIte, Nat.one_ne_zero, Nat.zero_ne_one, Nat.reduceEqDiff, not_true_eq_false, not_false_eq_true, Nat.le_refl, ng_le, ng_lt, ng_nle, ng_nlt, ng_eq, ng_eq2, Bool.false_eq_true, lit_nI, nI_add, pk_mul, nI_leI, nI_ltI, nI_eq, hlag, p1, hl', tw_e3, e6, e5, v0, q3, e, q4.symm]
          · simp (config := { maxSteps := 2000000 }) (disch := omega) only [f32, ux_at, ux_kk, ux_jo, gIx, pIx, pZx, gRx, aIx, sIx, aBx, sBx, lenx, clx, wshS, obS, reduceIte, Nat.one_ne_zero, Nat.zero_ne_one, Nat.reduceEqDiff, not_true_eq_false, not_false_eq_true, Nat.le_refl, ng_le, ng_lt, ng_nle, ng_nlt, ng_eq, ng_eq2, Bool.false_eq_true, lit_nI, nI_add, pk_mul, nI_leI, nI_ltI, nI_eq, hlag, p1, hl', tw_e3, e6, e5, v0]
      · rw [e]
        exact ux_at
  have lc : ∀ (hour : Nat) x, x = ctdN A ρ S.1 S.2.1 k → lcN (lagN A) (S.1, S.2.1, (if lagN A = 0 then 1 else if lagN A = 1 then x else S.2.2.2), (if lagN A = 2 then x else 1)) = lcN (lagN A) (hrS A ρ (lagN A) hour k S) := by
    intro hour x hx
    subst hx
    rfl
  by_cases u : unN A S.1 S.2.1 (ρ 4) = 1
  · have r3 := hR.2.2.2.1
    have hne : ¬ tI (ρ 3) = nI 0 := tI_ne r3 (fun z => by
      have := hR.2.2.2.2.2 z
      rw [this] at u
      exact absurd u (show ¬ (0 : Nat) = 1 by decide))
    obtain ⟨I', h1, h2, h3, h4⟩ := key 1 (tI (ρ 3)) (by decide) (Or.inr hne)
    have et : trnN A ρ (lagN A) S.1 S.2.1 S.2.2.1 k = ρ 3 := if_pos u
    have ec : ctdN A ρ S.1 S.2.1 k = 1 := if_pos u
    rw [if_pos u, if_pos u, et, ← tI_1, h1, if_neg hne]
    exact ⟨I', rfl, h2, h3, fun hour => by rw [h4, lc hour 1 ec.symm]⟩
  · obtain ⟨I', h1, h2, h3, h4⟩ := key k (nI 0) hk (Or.inl rfl)
    have et : trnN A ρ (lagN A) S.1 S.2.1 S.2.2.1 k = if lagN A = 0 then k else S.2.2.1 := if_neg u
    have ec : ctdN A ρ S.1 S.2.1 k = k := if_neg u
    rw [if_neg u, if_neg u, et, h1, if_pos rfl]
    exact ⟨I', rfl, h2, h3, fun hour => by rw [h4, lc hour k ec.symm]⟩
/-- an hour -/
theorem x_hour (hS : CS I A) (hW : WFs A) {ρ : Nat → Nat} (hR : RK ρ) {S : Nat → Sh} {T : Nat → Nat} {t k r : Nat} (hO : ShOk (S t)) (hk : k < 3) (ht : t < 400) (hJ : JN I A (lagN A) S T t) (hS1 : S (t + 1) = hrS A ρ (lagN A) t k (S t)) (hT1 : T t = trnN A ρ (lagN A) (S t).1 (S t).2.1 (S t).2.2.1 k)
    {rec20 : Nat → Nat → Int32 → Int32 → Int32 → Int32 → Wd → Option Wd} {K20 : Wd → Option Wd} {P : Option Wd → Prop} {v3 v4 : Int32}
    (hK : ∀ J, Fr jK [] I J → JN J A (lagN A) S T (t + 1) → P (rec20 56 r v3 v4 (nI (8 * (S (t + 1)).1 + (S (t + 1)).2.1)) (nI (t + 1)) (mW J L ru))) :
    P (f209_J98 n rec20 K20 56 r v3 v4 (nI (8 * (S t).1 + (S t).2.1)) (nI t) (if unN A (S t).1 (S t).2.1 (ρ 4) = 1 then tI (ρ 3) else nI 0) (tI k) (mW I L ru)) := by
  obtain ⟨j1, j2, j3, j4, j5⟩ := hJ
  have hO2 : ShOk (S (t + 1)) := by rw [hS1]; exact hrS_ok hW hR hk hO
  obtain ⟨o1, o2, o3, o4⟩ := hO
  obtain ⟨n1, n2, -, -⟩ := hO2
  have htr : T t < 3 := by rw [hT1]; exact trnN_lt hR o3 hk
  obtain ⟨I1, e1, f1, z1, l1⟩ := x_delayed (L := L) (ru := ru) hS hW hR (S := S t) ⟨o1, o2, o3, o4⟩ hk j5
  have l1 := l1 t
  rw [← hS1] at l1
  rw [← hT1] at e1
  -- behind 'delayed'
  have key : P (f209_J128 n rec20 K20 56 r v3 v4 (nI (8 * (S t).1 + (S t).2.1)) (nI t) 59 (nI t) (tI (T t)) (mW I1 L ru)) := by
    have hS2 : CS (u2 I1 59 t (tI (T t))) A := hS.fr hW (K := jK) (F := []) ((f1.mono (by decide) (by decide)).u (by decide)) (by decide)
    have hm := x_moved (L := L) (ru := ru) hS2 hW o1 o2 (show t < 1000 by omega) htr
    have ecell : stpN A (S t).1 (S t).2.1 t (T t) = (S (t + 1)).1 := by rw [hS1, hT1]; rfl
    have ehead : tuN (S t).2.1 (T t) = (S (t + 1)).2.1 := by rw [hS1, hT1]; rfl
    rw [ecell, ehead] at hm
    have hp : 8 * (S (t + 1)).1 + (S (t + 1)).2.1 < 512 := by omega
    have d1 : (8 * (S (t + 1)).1 + (S (t + 1)).2.1) / 8 = (S (t + 1)).1 := by omega
    have hl16 := lcN_lt (lagN A) (S (t + 1))
    have hor : nI (16 * (8 * (S (t + 1)).1 + (S (t + 1)).2.1)) ||| nI (lcN (lagN A) (S (t + 1))) = nI (stJ (lagN A) (S (t + 1))) := by
      rw [or_nIg, or16 hl16]
      rfl
    generalize hI3 : u2 (u2 (u2 I1 59 t (tI (T t))) 56 7 (nI (t + 1))) 58 (t + 1) (nI (stJ (lagN A) (S (t + 1)))) = I3
    have f3 : Fr jK [] I I3 := by
      rw [← hI3]
      exact (((f1.mono (by decide) (by decide)).u (by decide)).u (by decide)).u (by decide)
    have hS3 := hS.fr hW f3 (by decide)
    have hrk := rk_le hW n1
    have hi := x_isRock (L := L) (ru := ru) hS3 hW n1
    have jn : JN (u2 I3 56 8 (nI (rkN A (S (t + 1)).1))) A (lagN A) S T (t + 1) := by
      refine ⟨fun j hj => ?_, fun j hj => ?_, ?_, ?_, ?_⟩
      · rw [← hI3]
        refine (ux_k (by decide)).trans ?_
        rw [ux_if]
        by_cases e : j = t + 1
        · rw [if_pos e, e]
        · rw [if_neg e]
          refine (ux_k (by decide)).trans ((ux_k (by decide)).trans ?_)
          rw [f1.at (by decide) (by decide)]
          exact j1 j (by omega)
      · rw [← hI3]
        refine (ux_k (by decide)).trans ((ux_k (by decide)).trans ((ux_k (by decide)).trans ?_))
        rw [ux_if]
        by_cases e : j = t
        · rw [if_pos e, e]
        · rw [if_neg e, f1.at (by decide) (by decide)]
          exact j2 j (by omega)
      · rw [← hI3]
        exact (ux_j (by decide)).trans ((ux_k (by decide)).trans ux_at)
      · rw [if_neg (by omega)]
        exact ux_at
      · rw [← hI3]
        exact (ux_j (by decide)).trans ((ux_k (by decide)).trans ((ux_j (by decide)).trans ((ux_k (by decide)).trans l1)))
    have fin := hK _ (f3.u (by decide)) jn
    have g7 : (u2 I1 59 t (tI (T t))) 56 9 = nI (lcN (lagN A) (S (t + 1))) := (ux_k (by decide)).trans l1
    simp (config := { maxSteps := 2000000 }) (disch := omega) only [f209_J128, ux_at, ux_kk, ux_jo, gIx, pIx, pZx, gRx, aIx, sIx, aBx, sBx, lenx, clx, wshS, obS, reduceIte, Nat.one_ne_zero, Nat.zero_ne_one, Nat.reduceEqDiff, not_true_eq_false, not_false_eq_true, Nat.le_refl, ng_le, ng_lt, ng_nle, ng_nlt, ng_eq, ng_eq2, Bool.false_eq_true, lit_nI, nI_add, pk_mul, nI_leI, nI_ltI, nI_eq, hm, shl16, l1, hor]
    rw [hI3]
    have ez := pZ_of (I := I3) (L := L) (ru := ru) (j := 8) (v := nI (rkN A (S (t + 1)).1)) sh_56 (by
      rcases one_or hrk with e | e
      · rw [e]; exact z01
      · rw [e]; exact o01)
    simp (config := { maxSteps := 2000000 }) (disch := omega) only [ux_at, ux_kk, ux_jo, gIx, pIx, pZx, gRx, aIx, sIx, aBx, sBx, lenx, clx, wshS, obS, reduceIte, Nat.one_ne_zero, Nat.zero_ne_one, Nat.reduceEqDiff, not_true_eq_false, not_false_eq_true, Nat.le_refl, ng_le, ng_lt, ng_nle, ng_nlt, ng_eq, ng_eq2, Bool.false_eq_true, lit_nI, nI_add, pk_mul, nI_leI, nI_ltI, nI_eq, x_cellOf, d1, hi, ez]
    exact fin
  by_cases u : unN A (S t).1 (S t).2.1 (ρ 4) = 1
  · have r3 := hR.2.2.2.1
    have hne : ¬ tI (ρ 3) = nI 0 := tI_ne r3 (fun z => by
      have := hR.2.2.2.2.2 z
      rw [this] at u
      exact absurd u (show ¬ (0 : Nat) = 1 by decide))
    rw [if_pos u] at e1 ⊢
    rw [if_pos u] at e1
    simp (config := { maxSteps := 2000000 }) (disch := omega) only [f209_J98, ux_at, ux_kk, ux_jo, gIx, pIx, pZx, gRx, aIx, sIx, aBx, sBx, lenx, clx, wshS, obS, reduceIte, Nat.one_ne_zero, Nat.zero_ne_one, Nat.reduceEqDiff, not_true_eq_false, not_false_eq_true, Nat.le_refl, ng_le, ng_lt, ng_nle, ng_nlt, ng_eq, ng_eq2, Bool.false_eq_true, lit_nI, nI_add, pk_mul, nI_leI, nI_ltI, nI_eq, hne, e1]
    exact key
  · rw [if_neg u] at e1 ⊢
    rw [if_neg u] at e1
    simp (config := { maxSteps := 2000000 }) (disch := omega) only [f209_J98, ux_at, ux_kk, ux_jo, gIx, pIx, pZx, gRx, aIx, sIx, aBx, sBx, lenx, clx, wshS, obS, reduceIte, Nat.one_ne_zero, Nat.zero_ne_one, Nat.reduceEqDiff, not_true_eq_false, not_false_eq_true, Nat.le_refl, ng_le, ng_lt, ng_nle, ng_nlt, ng_eq, ng_eq2, Bool.false_eq_true, lit_nI, nI_add, pk_mul, nI_leI, nI_ltI, nI_eq, e1]
    exact key
/-- a run -/
theorem x_sail (hS : CS I A) (hH : CH I A) (hP : PK I A) (hW : WF A) {ρ : Nat → Nat} {r : Nat} (hC : CN I A ρ 0 r) (hR : RK ρ) (hrj : r ∉ jK) {c h hours : Nat} (hc : c < 64) (hh : h < 8) (hr0 : rkN A c = 0) (ho : hours ≤ 400) (hn : 500 < n) :
    ∃ I', f209 n 56 r (nI (8 * c + h)) (nI hours) (-nI 1) (mW I L r) = some (mW I' L r) ∧ Fr (jK ++ cnK) [] I I' ∧ JN I' A (lagN A) (rnS A ρ (lagN A) c h) (rnT A ρ (lagN A) c h) (gonN A (rnS A ρ (lagN A) c h) hours) ∧ CN I' A ρ 0 r := by
  have hcl : (nwS r).map (fun q => q.1) = some 5 := by
    rw [hC.1]
    rfl
  generalize hSd : rnS A ρ (lagN A) c h = S
  generalize hTd : rnT A ρ (lagN A) c h = T
  have hSo : ∀ t, ShOk (S t) := fun t => by rw [← hSd]; exact rnS_ok hW.1 hR hc hh t
  have hS1 : ∀ t, S (t + 1) = hrS A ρ (lagN A) t (cntN A ρ (prsN A (S t).1 (S t).2.1) t) (S t) := fun t => by rw [← hSd]; rfl
  have hT1 : ∀ t, T t = trnN A ρ (lagN A) (S t).1 (S t).2.1 (S t).2.2.1 (cntN A ρ (prsN A (S t).1 (S t).2.1) t) := fun t => by rw [← hSd, ← hTd]; rfl
  have hS0 : S 0 = (c, h, 1, 1) := by rw [← hSd]; rfl
  have lc0 : lcN (lagN A) (S 0) = 0 := by
    rw [hS0]
    unfold lcN
    split
    · rfl
    · split <;> rfl
  have fK : ∀ {I I' : St}, Fr (jK ++ cnK) [] I I' → CN I A ρ 0 r → CN I' A ρ 0 r → CN I' A ρ 0 r := fun _ _ z => z
  generalize hI1 : u2 (u2 (u2 (u2 I 56 9 (nI 0)) 56 7 (nI 0)) 56 8 (nI 0)) 58 0 (nI (16 * (8 * c + h))) = I1
  have f1 : Fr jK [] I I1 := by
    rw [← hI1]
    exact (((Fr.rf.u (by decide)).u (by decide)).u (by decide)).u (by decide)
  have J1 : JN I1 A (lagN A) S T 0 := by
    rw [← hI1]
    refine ⟨fun j hj => ?_, fun j hj => absurd hj (Nat.not_lt_zero _), (ux_k (by decide)).trans ((ux_j (by decide)).trans ux_at), (ux_k (by decide)).trans ux_at, ?_⟩
    · have : j = 0 := by omega
      subst this
      refine ux_at.trans ?_
      unfold stJ
      rw [lc0, hS0]
      rfl
    · rw [lc0]
      exact (ux_k (by decide)).trans ((ux_j (by decide)).trans ((ux_j (by decide)).trans ux_at))
  have C1 : CN I1 A ρ 0 r := hC.fr f1 hrj (rr_ne hC.1) (by decide) (by decide)
  simp (config := { maxSteps := 2000000 }) (disch := omega) only [f209, ux_at, ux_kk, ux_jo, gIx, pIx, pZx, gRx, aIx, sIx, aBx, sBx, lenx, clx, wshS, obS, reduceIte, lit_nI, shl16]
  rw [hI1]
  have e0 : 8 * c + h = 8 * (S 0).1 + (S 0).2.1 := by rw [hS0]
  rw [e0]
  refine lpP (F := fun k t J => f209_H31 n (fun w => some w) k 56 r (nI hours) (-nI 1) (nI (8 * (S t).1 + (S t).2.1)) (nI t) (mW J L r)) (P := fun x => ∃ I', x = some (mW I' L r) ∧ Fr (jK ++ cnK) [] I I' ∧ JN I' A (lagN A) S T (gonN A S hours) ∧ CN I' A ρ 0 r) (J := fun t J => Fr (jK ++ cnK) [] I J ∧ JN J A (lagN A) S T t ∧ gonN A S t = t ∧ CN J A ρ 0 r) hours ?_ ?_ n 0 I1 (by omega) (by omega) ⟨f1.mono (by decide) (by decide), J1, rfl, C1⟩
  · rintro k J ⟨j1, j2, j3, j4⟩
    simp (config := { maxSteps := 2000000 }) (disch := omega) only [f209_H31, ux_at, ux_kk, ux_jo, gIx, pIx, pZx, gRx, aIx, sIx, aBx, sBx, lenx, clx, wshS, obS, reduceIte, Nat.one_ne_zero, Nat.zero_ne_one, Nat.reduceEqDiff, not_true_eq_false, not_false_eq_true, Nat.le_refl, ng_le, ng_lt, ng_nle, ng_nlt, ng_eq, ng_eq2, Bool.false_eq_true, lit_nI, nI_add, pk_mul, nI_leI, nI_ltI, nI_eq]
    exact ⟨J, rfl, j1, by rw [j3]; exact j2, j4⟩
  · rintro k t J ht ⟨j1, j2, j3, j4⟩ ih
    have ht2 : ¬ hours ≤ t := by omega
    have ht4 : ¬ 400 ≤ t := by omega
    have hSJ := hS.fr hW.1 j1 (by decide)
    have hHJ := hH.fr j1 (by decide) (by decide)
    have hPJ : PK J A := fun p hp => by
      rw [j1.at (by decide) (by decide)]
      exact hP p hp
    obtain ⟨o1, o2, o3, o4⟩ := hSo t
    have st := j2.2.2.2.1
    have rkt : (if t = 0 then 0 else rkN A (S t).1) = rkN A (S t).1 := by
      by_cases z : t = 0
      · rw [if_pos z, z, hS0]
        exact hr0.symm
      · rw [if_neg z]
    rw [rkt] at st
    rcases one_or (rk_le hW.1 o1) with rk | rk
    · rw [rk] at st
      have hg2 := gonN_go j3 rk
      have e1 := x_dodge (L := L) (ru := r) (n := n) hSJ hW.1 hC.1 j4.2.1 hR o1 o2 (by omega)
      obtain ⟨J2, e2, f2, c2⟩ := x_options (L := L) (n := n) hSJ hHJ hPJ hW j4 hR (by decide) (fun s hs => by rw [Nat.zero_testBit] at hs; exact absurd hs (by decide)) o1 o2 (show t < 1000 by omega) (by omega)
      have hS2 := hSJ.fr hW.1 f2 (by decide)
      have jn2 := j2.fr f2 (by decide) (by decide) (by decide)
      have fin : ∀ kk, kk < 3 → S (t + 1) = hrS A ρ (lagN A) t kk (S t) → T t = trnN A ρ (lagN A) (S t).1 (S t).2.1 (S t).2.2.1 kk → ∃ I', f209_J98 n (fun e0 e1 e2 e3 e4 e5 w => f209_H31 n (fun w => some w) k e0 e1 e2 e3 e4 e5 w) (fun w => some w) 56 r (nI hours) (-nI 1) (nI (8 * (S t).1 + (S t).2.1)) (nI t) (if unN A (S t).1 (S t).2.1 (ρ 4) = 1 then tI (ρ 3) else nI 0) (tI kk) (mW J2 L r) = some (mW I' L r) ∧ Fr (jK ++ cnK) [] I I' ∧ JN I' A (lagN A) S T (gonN A S hours) ∧ CN I' A ρ 0 r := by
        intro kk hkk q1 q2
        refine x_hour (P := fun x => ∃ I', x = some (mW I' L r) ∧ Fr (jK ++ cnK) [] I I' ∧ JN I' A (lagN A) S T (gonN A S hours) ∧ CN I' A ρ 0 r) hS2 hW.1 hR (hSo t) hkk (by omega) jn2 q1 q2 fun J3 f3 jn3 => ?_
        refine ih J3 ⟨j1.tr ((f2.mono (by decide) (by decide)).tr (f3.mono (by decide) (by decide))), jn3, hg2, c2.fr f3 hrj (rr_ne hC.1) (by decide) (by decide)⟩
      by_cases u : unN A (S t).1 (S t).2.1 (ρ 4) = 1
      · have em : mayN A ρ 0 t (S t).1 (S t).2.1 = 2 ^ ρ 3 := if_pos u
        have e3 := ot_2 _ hR.2.2.2.1
        have z := fin (ρ 3) hR.2.2.2.1 ((hS1 t).trans (hrS_un u)) ((hT1 t).trans (trnN_un u))
        rw [em] at e2
        simp (config := { maxSteps := 2000000 }) (disch := omega) only [f209_H31, ux_at, ux_kk, ux_jo, gIx, pIx, pZx, gRx, aIx, sIx, aBx, sBx, lenx, clx, wshS, obS, reduceIte, Nat.one_ne_zero, Nat.zero_ne_one, Nat.reduceEqDiff, not_true_eq_false, not_false_eq_true, Nat.le_refl, ng_le, ng_lt, ng_nle, ng_nlt, ng_eq, ng_eq2, Bool.false_eq_true, lit_nI, nI_add, pk_mul, nI_leI, nI_ltI, nI_eq, ht2, ht4, st, hcl, e1, e2, e3]
        exact z
      · have em := may_0 (A := A) (ρ := ρ) (hour := t) u
        have e3 := ot_2 _ (cntN_lt A ρ (prsN A (S t).1 (S t).2.1) t)
        have z := fin _ (cntN_lt A ρ (prsN A (S t).1 (S t).2.1) t) (hS1 t) (hT1 t)
        rw [em] at e2
        simp (config := { maxSteps := 2000000 }) (disch := omega) only [f209_H31, ux_at, ux_kk, ux_jo, gIx, pIx, pZx, gRx, aIx, sIx, aBx, sBx, lenx, clx, wshS, obS, reduceIte, Nat.one_ne_zero, Nat.zero_ne_one, Nat.reduceEqDiff, not_true_eq_false, not_false_eq_true, Nat.le_refl, ng_le, ng_lt, ng_nle, ng_nlt, ng_eq, ng_eq2, Bool.false_eq_true, lit_nI, nI_add, pk_mul, nI_leI, nI_ltI, nI_eq, ht2, ht4, st, hcl, e1, e2, e3]
        exact z
    · rw [rk] at st
      have gs := gonN_stop j3 (by omega) (hours - t)
      rw [show t + (hours - t) = hours by omega] at gs
      simp (config := { maxSteps := 2000000 }) (disch := omega) only [f209_H31, ux_at, ux_kk, ux_jo, gIx, pIx, pZx, gRx, aIx, sIx, aBx, sBx, lenx, clx, wshS, obS, reduceIte, Nat.one_ne_zero, Nat.zero_ne_one, Nat.reduceEqDiff, not_true_eq_false, not_false_eq_true, Nat.le_refl, ng_le, ng_lt, ng_nle, ng_nlt, ng_eq, ng_eq2, Bool.false_eq_true, lit_nI, nI_add, pk_mul, nI_leI, nI_ltI, nI_eq, ht2, ht4, st]
      exact ⟨J, rfl, j1, by rw [gs]; exact j2, j4⟩
end
