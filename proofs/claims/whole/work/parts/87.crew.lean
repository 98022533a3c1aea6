/-! THE CLASS: the crew's presses at a place, looking ahead -/
/-- the ways -/
def CH (I A : St) : Prop := (∀ s, s < nsN A → I 35 s = A 72 s ∧ I 36 s = A 73 s) ∧ ∀ s, nsN A ≤ s → s < 6 → I 35 s = nI 0
theorem CH.fr {I I' A : St} (h : CH I A) {K F : List Nat} (f : Fr K F I I') (h1 : 35 ∉ K) (h2 : 36 ∉ K) : CH I' A := by
  have e1 := f.at h1 (by decide)
  have e2 := f.at h2 (by decide)
  unfold CH
  rw [e1, e2]
  exact h
theorem tld0 : ∀ i, i < 3 → tldI S0 0 (nI i) = some (tI (toN i)) := by decide +kernel
theorem iI_mul (a b : Int) : iI a * iI b = iI (a * b) := (Int32.ofInt_mul a b).symm
theorem iI_neg1 (a : Int) : -iI a = iI (-a) := (Int32.ofInt_neg a).symm
section
variable {I A : St} {L : Lt} {ru n : Nat}
theorem x_fill {k len v : Nat} (hk : nwS k = some (20, len)) (hl : len ≤ 1000) (hn : 1000 < n) : ∃ I', f14 n k (nI v) (mW I L ru) = some (mW I' L ru) ∧ Fr [k] [] I I' ∧ ∀ j, j < len → I' k j = nI v := by
  have hln := len_of (I := I) (L := L) (ru := ru) hk (by decide)
  have key : ∃ I', f14_H5 n (fun w => some w) n k (nI v) (nI 0) (nI len) (mW I L ru) = some (mW I' L ru) ∧ Fr [k] [] I I' ∧ ∀ j, j < len → I' k j = nI v := by
    refine lpP (F := fun f i J => f14_H5 n (fun w => some w) f k (nI v) (nI i) (nI len) (mW J L ru)) (P := fun x => ∃ I', x = some (mW I' L ru) ∧ Fr [k] [] I I' ∧ ∀ j, j < len → I' k j = nI v) (J := fun i J => Fr [k] [] I J ∧ ∀ j, j < i → J k j = nI v) len ?_ ?_ n 0 I (by omega) (by omega) ⟨Fr.rf, fun j hj => absurd hj (Nat.not_lt_zero _)⟩
    · intro f J hJ
      simp (config := { maxSteps := 2000000 }) (disch := omega) only [f14_H5, Nat.one_ne_zero, Nat.zero_ne_one, Nat.reduceEqDiff, not_true_eq_false, not_false_eq_true, Nat.le_refl, ng_le, ng_lt, ng_nle, ng_nlt, ng_eq, ng_eq2, Bool.false_eq_true, lit_nI, nI_add, pk_mul, nI_leI, nI_ltI, nI_eq, reduceIte]
      exact ⟨J, rfl, hJ⟩
    · intro f i J hi hJ ih
      have hi2 : ¬ len ≤ i := by omega
      have e := sI_of (I := J) (L := L) (ru := ru) (v := nI v) hk hi (by omega)
      simp (config := { maxSteps := 2000000 }) (disch := omega) only [f14_H5, Nat.one_ne_zero, Nat.zero_ne_one, Nat.reduceEqDiff, not_true_eq_false, not_false_eq_true, Nat.le_refl, ng_le, ng_lt, ng_nle, ng_nlt, ng_eq, ng_eq2, Bool.false_eq_true, lit_nI, nI_add, pk_mul, nI_leI, nI_ltI, nI_eq, reduceIte, hi2, e, obS]
      refine ih _ ⟨hJ.1.u (List.mem_singleton.mpr rfl), fun j hj => ?_⟩
      rw [ux_if]
      split
      · rfl
      · exact hJ.2 j (by omega)
  obtain ⟨I', k1, k2⟩ := key
  refine ⟨I', ?_, k2⟩
  simp only [f14, hln, obS, lit_nI]
  exact k1
theorem x_cpy {a b len : Nat} (ha : nwS a = some (20, len)) (hb : nwS b = some (20, len)) (hl : len ≤ 1000) : ∃ I', cpyI (mW I L ru) a (nI 0) b (nI 0) (nI len) = some (mW I' L ru) ∧ Fr [b] [] I I' ∧ ∀ j, j < len → I' b j = I a j := by
  have hz : ¬ nI 0 < 0 := by decide +kernel
  have hln : ¬ nI len < 0 := nI_pos (by omega)
  have c0 : (nI 0).toNatClampNeg = 0 := nI_clamp (by decide)
  have cl : (nI len).toNatClampNeg = len := nI_clamp (by omega)
  refine ⟨fun x y => if x = b then va_cpy (I a) (I b) 0 0 len y else I x y, ?_, fun k j hk _ => ?_, fun j hj => ?_⟩
  · unfold cpyI
    rw [wsh_mW, ha, hb]
    dsimp only
    rw [if_pos ⟨rfl, rfl, hz, hz, hln, by rw [c0, cl]; omega, by rw [c0, cl]; omega⟩, c0, cl]
    rfl
  · have : ¬ k = b := fun e => hk (List.mem_singleton.mpr e)
    show (if k = b then _ else _) = _
    rw [if_neg this]
  · show (if b = b then va_cpy (I a) (I b) 0 0 len j else I b j) = I a j
    rw [if_pos rfl]
    unfold va_cpy
    rw [if_pos ⟨by omega, by omega⟩]
    congr 1
    omega
theorem x_wayOf {s : Nat} (hs : s < 6) : f88 34 (nI s) (mW I L ru) = some (I 35 s, mW I L ru) := by
  simp (config := { maxSteps := 2000000 }) (disch := omega) only [f88, ux_at, ux_kk, ux_jo, gIx, pIx, pZx, gRx, aIx, sIx, aBx, sBx, lenx, clx, wshS, obS, reduceIte, Nat.one_ne_zero, Nat.zero_ne_one, Nat.reduceEqDiff, not_true_eq_false, not_false_eq_true, Nat.le_refl, ng_le, ng_lt, ng_nle, ng_nlt, ng_eq, ng_eq2, Bool.false_eq_true, lit_nI, nI_add, pk_mul, nI_leI, nI_ltI, nI_eq, s0i]
theorem x_strengthOf {s : Nat} (hs : s < 6) : f89 34 (nI s) (mW I L ru) = some (I 36 s, mW I L ru) := by
  simp (config := { maxSteps := 2000000 }) (disch := omega) only [f89, ux_at, ux_kk, ux_jo, gIx, pIx, pZx, gRx, aIx, sIx, aBx, sBx, lenx, clx, wshS, obS, reduceIte, Nat.one_ne_zero, Nat.zero_ne_one, Nat.reduceEqDiff, not_true_eq_false, not_false_eq_true, Nat.le_refl, ng_le, ng_lt, ng_nle, ng_nlt, ng_eq, ng_eq2, Bool.false_eq_true, lit_nI, nI_add, pk_mul, nI_leI, nI_ltI, nI_eq, s0i]
theorem x_write {s p u N : Nat} (hs : s < 6) (hp : p < 512) (hu : u < 5) (hN : I 48 p = nI N) : f96 47 (nI s) (nI p) (pI u) (mW I L ru) = some (mW (u2 I 48 p (nI (N ||| u * 8 ^ s))) L ru) := by
  simp (config := { maxSteps := 2000000 }) (disch := omega) only [f96, ux_at, ux_kk, ux_jo, gIx, pIx, pZx, gRx, aIx, sIx, aBx, sBx, lenx, clx, wshS, obS, reduceIte, Nat.one_ne_zero, Nat.zero_ne_one, Nat.reduceEqDiff, not_true_eq_false, not_false_eq_true, Nat.le_refl, ng_le, ng_lt, ng_nle, ng_nlt, ng_eq, ng_eq2, Bool.false_eq_true, lit_nI, nI_add, pk_mul, nI_leI, nI_ltI, nI_eq, s0i, pI_p2, shl8, hN, or_nIg]
theorem x_press (hS : CS I A) (hW : WFs A) {s p N : Nat} (hs : s < nsN A) (hp : p < 512) (hN : I 48 p = nI N) (hN2 : N < 2 ^ 18) : f97 47 (nI s) (nI p) (mW I L ru) = some (pI (dgN N s), mW I L ru) := by
  have h6 := ns6 hW
  have e : nI (dgN N s) - nI 2 = pI (dgN N s) := eq_of rfl
  simp (config := { maxSteps := 2000000 }) (disch := omega) only [f97, ux_at, ux_kk, ux_jo, gIx, pIx, pZx, gRx, aIx, sIx, aBx, sBx, lenx, clx, wshS, obS, reduceIte, Nat.one_ne_zero, Nat.zero_ne_one, Nat.reduceEqDiff, not_true_eq_false, not_false_eq_true, Nat.le_refl, ng_le, ng_lt, ng_nle, ng_nlt, ng_eq, ng_eq2, Bool.false_eq_true, lit_nI, nI_add, pk_mul, nI_leI, nI_ltI, nI_eq, s0i, x_isSort hS hW hs, hN, shr8, e]
theorem x_presso (hS : CS I A) (hW : WFs A) {s p : Nat} (hs : nsN A ≤ s) (hs2 : s < 6) (hp : p < 512) : f97 47 (nI s) (nI p) (mW I L ru) = some (pI 2, mW I L ru) := by
  have h6 := ns6 hW
  simp (config := { maxSteps := 2000000 }) (disch := omega) only [f97, ux_at, ux_kk, ux_jo, gIx, pIx, pZx, gRx, aIx, sIx, aBx, sBx, lenx, clx, wshS, obS, reduceIte, Nat.one_ne_zero, Nat.zero_ne_one, Nat.reduceEqDiff, not_true_eq_false, not_false_eq_true, Nat.le_refl, ng_le, ng_lt, ng_nle, ng_nlt, ng_eq, ng_eq2, Bool.false_eq_true, lit_nI, nI_add, pk_mul, nI_leI, nI_ltI, nI_eq, s0i, x_isSorto hS hW hs (show s < 100 by omega), pI_2]
/-- nearest: one turn -/
theorem l148 (hS : CS I A) (hW : WFs A) {s c h i l : Nat} (hc : c < 64) (hh : h < 8) (hi : i < 3) (hg : golN A s < 64) {K : Int32 → Wd → Option (Int32 × Wd)} {k : Nat} {b : Int32} (hl : l < 1000) :
    f148_H36 n K (k + 1) 47 (nI (8 * c + h)) (nI (golN A s)) b (nI l) (nI 3) (nI i) (mW I L ru) = f148_H36 n K k 47 (nI (8 * c + h)) (nI (golN A s)) (if l ≤ offN A s c h (toN i) then b else tI (toN i)) (nI (if l ≤ offN A s c h (toN i) then l else offN A s c h (toN i))) (nI 3) (nI (i + 1)) (mW I L ru) := by
  have hi2 : ¬ 3 ≤ i := by omega
  have h8 := tuN_lt h (toN i)
  have h3 := toN_lt i
  have h1 := goN_lt c hc _ h8
  have hf := farN_le _ h1 _ hg
  have d1 : (8 * goN c (tuN h (toN i)) + tuN h (toN i)) / 8 = goN c (tuN h (toN i)) := by omega
  have o99 := offN_le (s := s) (h := h) (k := toN i) hW hc hg
  generalize ho : offN A s c h (toN i) = o at *
  unfold offN at ho
  rcases one_or (rk_le hW h1) with e | e
  · rw [e, if_neg (by decide)] at ho
    by_cases d : l ≤ o
    · simp (config := { maxSteps := 2000000 }) (disch := omega) only [f148_H36, f148_J84, ux_at, ux_kk, ux_jo, gIx, pIx, pZx, gRx, aIx, sIx, aBx, sBx, lenx, clx, wshS, obS, reduceIte, Nat.one_ne_zero, Nat.zero_ne_one, Nat.reduceEqDiff, not_true_eq_false, not_false_eq_true, Nat.le_refl, ng_le, ng_lt, ng_nle, ng_nlt, ng_eq, ng_eq2, Bool.false_eq_true, lit_nI, nI_add, pk_mul, nI_leI, nI_ltI, nI_eq, hi2, tld0, x_turned, x_cellOf, d1, x_isRock hS hW h1, e, x_far, ho, d]
    · simp (config := { maxSteps := 2000000 }) (disch := omega) only [f148_H36, f148_J84, ux_at, ux_kk, ux_jo, gIx, pIx, pZx, gRx, aIx, sIx, aBx, sBx, lenx, clx, wshS, obS, reduceIte, Nat.one_ne_zero, Nat.zero_ne_one, Nat.reduceEqDiff, not_true_eq_false, not_false_eq_true, Nat.le_refl, ng_le, ng_lt, ng_nle, ng_nlt, ng_eq, ng_eq2, Bool.false_eq_true, lit_nI, nI_add, pk_mul, nI_leI, nI_ltI, nI_eq, hi2, tld0, x_turned, x_cellOf, d1, x_isRock hS hW h1, e, x_far, ho, d]
  · rw [e, if_pos rfl] at ho
    subst ho
    by_cases d : l ≤ 99
    · simp (config := { maxSteps := 2000000 }) (disch := omega) only [f148_H36, f148_J84, ux_at, ux_kk, ux_jo, gIx, pIx, pZx, gRx, aIx, sIx, aBx, sBx, lenx, clx, wshS, obS, reduceIte, Nat.one_ne_zero, Nat.zero_ne_one, Nat.reduceEqDiff, not_true_eq_false, not_false_eq_true, Nat.le_refl, ng_le, ng_lt, ng_nle, ng_nlt, ng_eq, ng_eq2, Bool.false_eq_true, lit_nI, nI_add, pk_mul, nI_leI, nI_ltI, nI_eq, hi2, tld0, x_turned, x_cellOf, d1, x_isRock hS hW h1, e, d]
    · simp (config := { maxSteps := 2000000 }) (disch := omega) only [f148_H36, f148_J84, ux_at, ux_kk, ux_jo, gIx, pIx, pZx, gRx, aIx, sIx, aBx, sBx, lenx, clx, wshS, obS, reduceIte, Nat.one_ne_zero, Nat.zero_ne_one, Nat.reduceEqDiff, not_true_eq_false, not_false_eq_true, Nat.le_refl, ng_le, ng_lt, ng_nle, ng_nlt, ng_eq, ng_eq2, Bool.false_eq_true, lit_nI, nI_add, pk_mul, nI_leI, nI_ltI, nI_eq, hi2, tld0, x_turned, x_cellOf, d1, x_isRock hS hW h1, e, d]
theorem x_nearest (hS : CS I A) (hW : WFs A) {s c h : Nat} (hs : s < nsN A) (hc : c < 64) (hh : h < 8) (hn : 6 < n) : f148 n 47 (nI s) (nI (8 * c + h)) (mW I L ru) = some (tI (plnN A s c h), mW I L ru) := by
  have h6 := ns6 hW
  rcases gol_ok hW hs with e | ⟨e1, e2, e3⟩
  · have e4 : plnN A s c h = 1 := if_pos e
    simp (config := { maxSteps := 2000000 }) (disch := omega) only [f148, ux_at, ux_kk, ux_jo, gIx, pIx, pZx, gRx, aIx, sIx, aBx, sBx, lenx, clx, wshS, obS, reduceIte, Nat.one_ne_zero, Nat.zero_ne_one, Nat.reduceEqDiff, not_true_eq_false, not_false_eq_true, Nat.le_refl, ng_le, ng_lt, ng_nle, ng_nlt, ng_eq, ng_eq2, Bool.false_eq_true, lit_nI, nI_add, pk_mul, nI_leI, nI_ltI, nI_eq, x_goalOf hS hW hs, e, e4, tI_1]
  · have e4 : plnN A s c h = best3 (fun k => -(offN A s c h k : Int)) := if_neg e3
    have o0 := offN_le hW hc e2 (s := s) (h := h) (k := 0)
    have o1 := offN_le hW hc e2 (s := s) (h := h) (k := 1)
    have o2 := offN_le hW hc e2 (s := s) (h := h) (k := 2)
    have st := fun (k i l : Nat) (b : Int32) (hi : i < 3) (hl : l < 1000) => l148 (n := n) (L := L) (ru := ru) hS hW hc hh hi e2 (s := s) (K := fun e w => some (e, w)) (k := k) (l := l) (b := b) hl
    have t0 : toN 0 = 1 := rfl
    have t1 : toN 1 = 0 := rfl
    have t2 : toN 2 = 2 := rfl
    have s0 := st (n - 1) 0 100 (nI 0) (by decide) (by decide)
    have c0 : ¬ 100 ≤ offN A s c h 1 := by omega
    simp only [t0, c0, reduceIte, Nat.zero_add] at s0
    have s1 := st (n - 2) 1 (offN A s c h 1) (tI 1) (by decide) (by omega)
    simp only [t1, Nat.reduceAdd] at s1
    have s2 := st (n - 3) 2 (if offN A s c h 1 ≤ offN A s c h 0 then offN A s c h 1 else offN A s c h 0) (if offN A s c h 1 ≤ offN A s c h 0 then tI 1 else tI 0) (by decide) (by split <;> omega)
    simp only [t2, Nat.reduceAdd] at s2
    rw [show n - 2 + 1 = n - 1 by omega] at s1
    rw [show n - 3 + 1 = n - 2 by omega] at s2
    rw [show n - 1 + 1 = n by omega] at s0
    have s3 : ∀ b l, f148_H36 n (fun e w => some (e, w)) (n - 3) 47 (nI (8 * c + h)) (nI (golN A s)) b l (nI 3) (nI 3) (mW I L ru) = some (b, mW I L ru) := fun b l => by
      obtain ⟨k, hk⟩ : ∃ k, n - 3 = k + 1 := ⟨n - 4, by omega⟩
      rw [hk]
      simp (config := { maxSteps := 2000000 }) (disch := omega) only [f148_H36, ux_at, ux_kk, ux_jo, gIx, pIx, pZx, gRx, aIx, sIx, aBx, sBx, lenx, clx, wshS, obS, reduceIte, Nat.one_ne_zero, Nat.zero_ne_one, Nat.reduceEqDiff, not_true_eq_false, not_false_eq_true, Nat.le_refl, ng_le, ng_lt, ng_nle, ng_nlt, ng_eq, ng_eq2, Bool.false_eq_true, lit_nI, nI_add, pk_mul, nI_leI, nI_ltI, nI_eq]
    have key := s0.trans (s1.trans (s2.trans (s3 _ _)))
    have hne : ¬ nI (golN A s) = -nI 1 := by
      rw [ng_eq2 (by omega)]
      exact not_false
    simp (config := { maxSteps := 2000000 }) (disch := omega) only [f148, ux_at, ux_kk, ux_jo, gIx, pIx, pZx, gRx, aIx, sIx, aBx, sBx, lenx, clx, wshS, obS, reduceIte, lit_nI, x_goalOf hS hW hs, e1, hne, not_false_eq_true]
    refine key.trans ?_
    rw [e4]
    unfold best3
    have c1 : ((-(offN A s c h 1 : Int)) < -(offN A s c h 0 : Int)) = (offN A s c h 0 < offN A s c h 1) := propext (by omega)
    simp only [c1]
    by_cases d1 : offN A s c h 0 < offN A s c h 1
    · have d1' : ¬ offN A s c h 1 ≤ offN A s c h 0 := by omega
      have c2 : ((-(offN A s c h 0 : Int)) < -(offN A s c h 2 : Int)) = (offN A s c h 2 < offN A s c h 0) := propext (by omega)
      simp only [d1, d1', reduceIte, c2]
      by_cases d2 : offN A s c h 2 < offN A s c h 0
      · have d2' : ¬ offN A s c h 0 ≤ offN A s c h 2 := by omega
        simp only [d2, d2', reduceIte]
      · have d2' : offN A s c h 0 ≤ offN A s c h 2 := by omega
        simp only [d2, d2', reduceIte]
    · have d1' : offN A s c h 1 ≤ offN A s c h 0 := by omega
      have c2 : ((-(offN A s c h 1 : Int)) < -(offN A s c h 2 : Int)) = (offN A s c h 2 < offN A s c h 1) := propext (by omega)
      simp only [d1, d1', reduceIte, c2]
      by_cases d2 : offN A s c h 2 < offN A s c h 1
      · have d2' : ¬ offN A s c h 1 ≤ offN A s c h 2 := by omega
        simp only [d2, d2', reduceIte]
      · have d2' : offN A s c h 1 ≤ offN A s c h 2 := by omega
        simp only [d2, d2', reduceIte]
/-- what is to come, in the row 'later' -/
def LT (I A : St) (s r : Nat) : Prop := ∀ c h, c < 64 → h < 8 → I 50 (8 * c + h) = iI (bvZ A s r c h)
theorem fz_bd (hW : WFs A) {s : Nat} (hs : s < nsN A) {M : Nat → Nat → Int} {r c h k : Nat} (hc : c < 64) (hM : ∀ c h, c < 64 → h < 8 → -99 * (r : Int) ≤ M c h ∧ M c h ≤ 9 * (r : Int)) : -99 * ((r : Int) + 1) ≤ fzZ A s M r c h k ∧ fzZ A s M r c h k ≤ 9 * ((r : Int) + 1) := by
  have h1 := goN_lt c hc _ (tuN_lt h k)
  have h2 := wv_bd hW hs h1
  have h3 := hM _ _ h1 (tuN_lt h k)
  unfold fzZ
  split
  · omega
  · omega
theorem bvZ_bd (hW : WFs A) {s : Nat} (hs : s < nsN A) : ∀ (r c h : Nat), c < 64 → h < 8 → -99 * (r : Int) ≤ bvZ A s r c h ∧ bvZ A s r c h ≤ 9 * (r : Int)
  | 0, _, _, _, _ => ⟨Int.le_refl _, Int.le_refl _⟩
  | r + 1, c, h, hc, hh => by
    have := fz_bd (k := best3 (fun k => fzZ A s (bvZ A s r) r c h k)) (h := h) hW hs hc (bvZ_bd hW hs r)
    show -99 * ((r + 1 : Nat) : Int) ≤ fzZ A s (bvZ A s r) r c h (best3 (fun k => fzZ A s (bvZ A s r) r c h k)) ∧ fzZ A s (bvZ A s r) r c h (best3 (fun k => fzZ A s (bvZ A s r) r c h k)) ≤ _
    omega
theorem x_foreseen (hS : CS I A) (hW : WFs A) {s c h k r : Nat} (hs : s < nsN A) (hc : c < 64) (hh : h < 8) (hk : k < 3) (hL : LT I A s r) : f147 47 (nI s) (nI (8 * c + h)) (tI k) (nI (r + 1)) (mW I L ru) = some (iI (fzZ A s (bvZ A s r) r c h k), mW I L ru) := by
  have h8 := tuN_lt h k
  have h1 := goN_lt c hc _ h8
  have d1 : (8 * goN c (tuN h k) + tuN h k) / 8 = goN c (tuN h k) := by omega
  have d2 : 8 * goN c (tuN h k) + tuN h k < 512 := by omega
  have hl := hL _ _ h1 h8
  have hw : A 74 (64 * s + goN c (tuN h k)) = iI (wvZ A s (goN c (tuN h k))) := (iI_self _).symm
  unfold fzZ
  rcases one_or (rk_le hW h1) with e | e
  · simp (config := { maxSteps := 2000000 }) (disch := omega) only [f147, ux_at, ux_kk, ux_jo, gIx, pIx, pZx, gRx, aIx, sIx, aBx, sBx, lenx, clx, wshS, obS, reduceIte, Nat.one_ne_zero, Nat.zero_ne_one, Nat.reduceEqDiff, not_true_eq_false, not_false_eq_true, Nat.le_refl, ng_le, ng_lt, ng_nle, ng_nlt, ng_eq, ng_eq2, Bool.false_eq_true, lit_nI, nI_add, pk_mul, nI_leI, nI_ltI, nI_eq, x_turned, x_cellOf, d1, d2, x_isRock hS hW h1, e, Nat.not_lt_zero, x_worthTo hS hW hs h1, hl, hw, iI_add]
  · have em : -nI 99 * nI (r + 1) = iI (-99 * ((r : Int) + 1)) := by
      rw [← iI_nI, ← iI_nI, iI_neg1, iI_mul]
      congr 1
    simp (config := { maxSteps := 2000000 }) (disch := omega) only [f147, f147_J35, ux_at, ux_kk, ux_jo, gIx, pIx, pZx, gRx, aIx, sIx, aBx, sBx, lenx, clx, wshS, obS, reduceIte, Nat.one_ne_zero, Nat.zero_ne_one, Nat.reduceEqDiff, not_true_eq_false, not_false_eq_true, Nat.le_refl, ng_le, ng_lt, ng_nle, ng_nlt, ng_eq, ng_eq2, Bool.false_eq_true, lit_nI, nI_add, pk_mul, nI_leI, nI_ltI, nI_eq, x_turned, x_cellOf, d1, x_isRock hS hW h1, e, em]
theorem x_wisest (hS : CS I A) (hW : WFs A) {s c h r : Nat} (hs : s < nsN A) (hc : c < 64) (hh : h < 8) (hr : r < 4) (hL : LT I A s r) (hn : 6 < n) : f182 n 47 (nI s) (nI (8 * c + h)) (nI (r + 1)) (mW I L ru) = some (tI (ahdN A s r c h), mW I L ru) := by
  have hf := fun k hk => x_foreseen (L := L) (ru := ru) (k := k) hS hW hs hc hh hk hL
  have bd := fun k => fz_bd (k := k) (h := h) hW hs hc (bvZ_bd hW hs r)
  have step : ∀ (k i : Nat) (z : Int) (b : Int32), i < 3 → -1000000000 ≤ z → z ≤ 1000 → f182_H20 n (fun e w => some (e, w)) (k + 1) 47 (nI s) (nI (8 * c + h)) (nI (r + 1)) b (iI z) (nI 3) (nI i) (mW I L ru) = f182_H20 n (fun e w => some (e, w)) k 47 (nI s) (nI (8 * c + h)) (nI (r + 1)) (if fzZ A s (bvZ A s r) r c h (toN i) ≤ z then b else tI (toN i)) (iI (if fzZ A s (bvZ A s r) r c h (toN i) ≤ z then z else fzZ A s (bvZ A s r) r c h (toN i))) (nI 3) (nI (i + 1)) (mW I L ru) := by
    intro k i z b hi z1 z2
    have hi2 : ¬ 3 ≤ i := by omega
    have h3 := toN_lt i
    have b1 := bd (toN i)
    by_cases d : fzZ A s (bvZ A s r) r c h (toN i) ≤ z
    · have d2 : iI (fzZ A s (bvZ A s r) r c h (toN i)) ≤ iI z := (iI_le (by omega) (by omega) (by omega) (by omega)).mpr d
      simp (config := { maxSteps := 2000000 }) (disch := omega) only [f182_H20, ux_at, ux_kk, ux_jo, gIx, pIx, pZx, gRx, aIx, sIx, aBx, sBx, lenx, clx, wshS, obS, reduceIte, Nat.one_ne_zero, Nat.zero_ne_one, Nat.reduceEqDiff, not_true_eq_false, not_false_eq_true, Nat.le_refl, ng_le, ng_lt, ng_nle, ng_nlt, ng_eq, ng_eq2, Bool.false_eq_true, lit_nI, nI_add, pk_mul, nI_leI, nI_ltI, nI_eq, hi2, tld0, hf, d, d2]
    · have d2 : ¬ iI (fzZ A s (bvZ A s r) r c h (toN i)) ≤ iI z := fun q => d ((iI_le (by omega) (by omega) (by omega) (by omega)).mp q)
      simp (config := { maxSteps := 2000000 }) (disch := omega) only [f182_H20, ux_at, ux_kk, ux_jo, gIx, pIx, pZx, gRx, aIx, sIx, aBx, sBx, lenx, clx, wshS, obS, reduceIte, Nat.one_ne_zero, Nat.zero_ne_one, Nat.reduceEqDiff, not_true_eq_false, not_false_eq_true, Nat.le_refl, ng_le, ng_lt, ng_nle, ng_nlt, ng_eq, ng_eq2, Bool.false_eq_true, lit_nI, nI_add, pk_mul, nI_leI, nI_ltI, nI_eq, hi2, tld0, hf, d, d2]
  have b0 := bd 0
  have b1 := bd 1
  have b2 := bd 2
  have t0 : toN 0 = 1 := rfl
  have t1 : toN 1 = 0 := rfl
  have t2 : toN 2 = 2 := rfl
  unfold ahdN
  generalize fzZ A s (bvZ A s r) r c h = f at *
  have s0 := step (n - 1) 0 (-1000000000) (nI 0) (by decide) (by decide) (by decide)
  have c0 : ¬ f 1 ≤ -1000000000 := by omega
  simp only [t0, c0, reduceIte, Nat.zero_add] at s0
  have s1 := step (n - 2) 1 (f 1) (tI 1) (by decide) (by omega) (by omega)
  simp only [t1, Nat.reduceAdd] at s1
  have s2 := step (n - 3) 2 (if f 0 ≤ f 1 then f 1 else f 0) (if f 0 ≤ f 1 then tI 1 else tI 0) (by decide) (by split <;> omega) (by split <;> omega)
  simp only [t2, Nat.reduceAdd] at s2
  rw [show n - 2 + 1 = n - 1 by omega] at s1
  rw [show n - 3 + 1 = n - 2 by omega] at s2
  rw [show n - 1 + 1 = n by omega] at s0
  have s3 : ∀ b l, f182_H20 n (fun e w => some (e, w)) (n - 3) 47 (nI s) (nI (8 * c + h)) (nI (r + 1)) b l (nI 3) (nI 3) (mW I L ru) = some (b, mW I L ru) := fun b l => by
    obtain ⟨k, hk⟩ : ∃ k, n - 3 = k + 1 := ⟨n - 4, by omega⟩
    rw [hk]
    simp (config := { maxSteps := 2000000 }) (disch := omega) only [f182_H20, ux_at, ux_kk, ux_jo, gIx, pIx, pZx, gRx, aIx, sIx, aBx, sBx, lenx, clx, wshS, obS, reduceIte, Nat.one_ne_zero, Nat.zero_ne_one, Nat.reduceEqDiff, not_true_eq_false, not_false_eq_true, Nat.le_refl, ng_le, ng_lt, ng_nle, ng_nlt, ng_eq, ng_eq2, Bool.false_eq_true, lit_nI, nI_add, pk_mul, nI_leI, nI_ltI, nI_eq]
  have key := s0.trans (s1.trans (s2.trans (s3 _ _)))
  have em : (-1000000000 : Int32) = iI (-1000000000) := by decide +kernel
  unfold f182
  rw [em, show (0 : Int32) = nI 0 from rfl, show (3 : Int32) = nI 3 from rfl]
  refine key.trans ?_
  unfold best3
  by_cases d1 : f 1 < f 0
  · have d1' : ¬ f 0 ≤ f 1 := by omega
    simp only [d1, d1', reduceIte]
    by_cases d2 : f 0 < f 2
    · have d2' : ¬ f 2 ≤ f 0 := by omega
      simp only [d2, d2', reduceIte]
    · have d2' : f 2 ≤ f 0 := by omega
      simp only [d2, d2', reduceIte]
  · have d1' : f 0 ≤ f 1 := by omega
    simp only [d1, d1', reduceIte]
    by_cases d2 : f 1 < f 2
    · have d2' : ¬ f 2 ≤ f 1 := by omega
      simp only [d2, d2', reduceIte]
    · have d2' : f 2 ≤ f 1 := by omega
      simp only [d2, d2', reduceIte]
end
