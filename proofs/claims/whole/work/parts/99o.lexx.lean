/-! TEXTS: the class's words and numbers; the reference's signs -/
/-- a '-' at a number -/
def mnN (T : Nat → Nat) (N b : Nat) : Nat := if b < N ∧ T b = 45 then 1 else 0
theorem mnN_le (T : Nat → Nat) (N b : Nat) : mnN T N b ≤ 1 := by
  unfold mnN
  split <;> decide
theorem mnN_b {T : Nat → Nat} {N b : Nat} (h : b ≤ N) : b + mnN T N b ≤ N := by
  unfold mnN
  split
  · omega
  · omega
section
variable {I A : St} {L : Lt} {ru n : Nat} {T : Nat → Nat} {N : Nat}
theorem x_wend (hT : XT I T N) {b : Nat} (hb : b ≤ N) {u : UInt32} {K : Nat → UInt32 → Int32 → Wd → Option (Int32 × Wd)} (hn : 500 < n) : f197_H9 n K n 1 u (nI b) (mW I L ru) = K 1 u (nI (wdN T N b)) (mW I L ru) := by
  have t2 := hT.2.1
  have l1 := hT.1
  refine lpP (F := fun k i (_ : Unit) => f197_H9 n K k 1 u (nI i) (mW I L ru)) (P := fun x => x = K 1 u (nI (wdN T N b)) (mW I L ru)) (J := fun i _ => wdN T N b = wdN T N i) N ?_ ?_ n b () hb (by omega) rfl
  · intro k _ hJ
    have e : wdN T N N = N := rnE_stop fun z => absurd z (Nat.lt_irrefl _)
    rw [hJ, e]
    simp (config := { maxSteps := 2000000 }) (disch := omega) only [f197_H9, ux_at, ux_kk, ux_jo, gIx, pIx, pZx, gRx, aIx, sIx, aBx, sBx, lenx, clx, wshS, obS, reduceIte, Nat.one_ne_zero, Nat.zero_ne_one, Nat.reduceEqDiff, not_true_eq_false, not_false_eq_true, Nat.le_refl, ng_le, ng_lt, ng_nle, ng_nlt, ng_eq, ng_eq2, Bool.false_eq_true, lit_nI, nI_add, pk_mul, nI_leI, nI_ltI, nI_eq, l1]
  · intro k i _ hi hJ ih
    have hi2 : ¬ N ≤ i := by omega
    have b1 := x_byteAt (L := L) (ru := ru) (a := i) hT (by omega)
    rw [btI_lt hi] at b1
    have b2 := (hT.2.2 i hi).1
    by_cases q : 97 ≤ T i ∧ T i ≤ 122
    · have e : wdN T N i = wdN T N (i + 1) := rnE_step hi (by rw [wdP_t]; exact q)
      have q1 : ¬ T i < 97 := by omega
      have q2 : ¬ 122 < T i := by omega
      simp (config := { maxSteps := 2000000 }) (disch := omega) only [f197_H9, ux_at, ux_kk, ux_jo, gIx, pIx, pZx, gRx, aIx, sIx, aBx, sBx, lenx, clx, wshS, obS, reduceIte, Nat.one_ne_zero, Nat.zero_ne_one, Nat.reduceEqDiff, not_true_eq_false, not_false_eq_true, Nat.le_refl, ng_le, ng_lt, ng_nle, ng_nlt, ng_eq, ng_eq2, Bool.false_eq_true, lit_nI, nI_add, pk_mul, nI_leI, nI_ltI, nI_eq, l1, hi2, b1, q1, q2]
      exact ih () (hJ.trans e)
    · have e : wdN T N i = i := rnE_stop fun _ => bf (by rw [wdP_t]; exact q)
      rw [hJ, e]
      by_cases q1 : T i < 97
      · simp (config := { maxSteps := 2000000 }) (disch := omega) only [f197_H9, ux_at, ux_kk, ux_jo, gIx, pIx, pZx, gRx, aIx, sIx, aBx, sBx, lenx, clx, wshS, obS, reduceIte, Nat.one_ne_zero, Nat.zero_ne_one, Nat.reduceEqDiff, not_true_eq_false, not_false_eq_true, Nat.le_refl, ng_le, ng_lt, ng_nle, ng_nlt, ng_eq, ng_eq2, Bool.false_eq_true, lit_nI, nI_add, pk_mul, nI_leI, nI_ltI, nI_eq, l1, hi2, b1, q1]
      · have q2 : 122 < T i := by omega
        simp (config := { maxSteps := 2000000 }) (disch := omega) only [f197_H9, ux_at, ux_kk, ux_jo, gIx, pIx, pZx, gRx, aIx, sIx, aBx, sBx, lenx, clx, wshS, obS, reduceIte, Nat.one_ne_zero, Nat.zero_ne_one, Nat.reduceEqDiff, not_true_eq_false, not_false_eq_true, Nat.le_refl, ng_le, ng_lt, ng_nle, ng_nlt, ng_eq, ng_eq2, Bool.false_eq_true, lit_nI, nI_add, pk_mul, nI_leI, nI_ltI, nI_eq, l1, hi2, b1, q1, q2]
theorem x_takesS (hT : XT I T N) {u : UInt32} {wl : List Nat} (hD : WD u wl) (hl : ltW wl) {a : Nat} {na fa : Int32} (ha : a ≤ N) (hS : TS I a na 0 fa) (hn : 500 < n) : ∃ I', f197 n 1 u (mW I L ru) = some (if isW T N (skN T N a) wl then nI 1 else nI 0, mW I' L ru) ∧ TF I I' ∧ TS I' (if isW T N (skN T N a) wl then skN T N a + wl.length else skN T N a) na 0 fa := by
  obtain ⟨I1, e1, f1, s1⟩ := x_skip (L := L) (ru := ru) (n := n) hT ha hS hn
  have hb := skN_le (T := T) ha
  have t2 := hT.2.1
  have hT1 := hT.tf f1
  obtain ⟨d1, d2, d3, d4⟩ := hD
  have d1' : (16 ≤ u.toNat ∧ u.toNat < 32) = True := eq_true d1
  generalize skN T N a = b at *
  have hge : b ≤ wdN T N b := rnE_ge _ _ _
  have hle : wdN T N b ≤ N := rnE_le hb
  have ew := x_wend (L := L) (ru := ru) (n := n) (u := u) (K := fun e0 e1 e2 w16 => f197_J43 n e0 e1 e2 w16) hT1 hb hn
  have key : ∃ I', f197_J43 n 1 u (nI (wdN T N b)) (mW I1 L ru) = some (if isW T N b wl then nI 1 else nI 0, mW I' L ru) ∧ TF I I' ∧ TS I' (if isW T N b wl then b + wl.length else b) na 0 fa := by
    have es : nI (wdN T N b) - nI b = nI (wdN T N b - b) := pk_sub hge
    by_cases q : wdN T N b = b + wl.length
    · have q2 : wdN T N b - b = wl.length := by omega
      simp (config := { maxSteps := 2000000 }) (disch := omega) only [f197_J43, ux_at, ux_kk, ux_jo, gIx, pIx, pZx, gRx, aIx, sIx, aBx, sBx, lenx, clx, wshS, obS, reduceIte, Nat.one_ne_zero, Nat.zero_ne_one, Nat.reduceEqDiff, not_true_eq_false, not_false_eq_true, Nat.le_refl, ng_le, ng_lt, ng_nle, ng_nlt, ng_eq, ng_eq2, Bool.false_eq_true, lit_nI, nI_add, pk_mul, nI_leI, nI_ltI, nI_eq, s1.2.2.1, s1.1, d1', d3, es, q2]
      refine lpP (F := fun k i (_ : Unit) => f197_H67 n (fun e0 e2 w36 => ob (putI w36 9 e0 2 e2) (fun w37 => some (nI 1, w37))) k 1 u (nI (wdN T N b)) (nI i) (mW I1 L ru)) (P := fun x => ∃ I', x = some (if isW T N b wl then nI 1 else nI 0, mW I' L ru) ∧ TF I I' ∧ TS I' (if isW T N b wl then b + wl.length else b) na 0 fa) (J := fun i _ => ∀ j, j < i → T (b + j) = wl.getD j 0) wl.length ?_ ?_ n 0 () (by omega) (by omega) (fun j hj => absurd hj (Nat.not_lt_zero _))
      · intro k _ hJ
        rw [if_pos ⟨q, hJ⟩, if_pos ⟨q, hJ⟩]
        simp (config := { maxSteps := 2000000 }) (disch := omega) only [f197_H67, ux_at, ux_kk, ux_jo, gIx, pIx, pZx, gRx, aIx, sIx, aBx, sBx, lenx, clx, wshS, obS, reduceIte, Nat.one_ne_zero, Nat.zero_ne_one, Nat.reduceEqDiff, not_true_eq_false, not_false_eq_true, Nat.le_refl, ng_le, ng_lt, ng_nle, ng_nlt, ng_eq, ng_eq2, Bool.false_eq_true, lit_nI, nI_add, pk_mul, nI_leI, nI_ltI, nI_eq, d1', d3]
        exact ⟨_, rfl, f1.u (by decide) (by decide), ux_at.trans (by rw [q]), (ux_j (by decide)).trans s1.2.1, (ux_j (by decide)).trans s1.2.2.1, (ux_j (by decide)).trans s1.2.2.2⟩
      · intro k i _ hi hJ ih
        have hi2 : ¬ wl.length ≤ i := by omega
        have b1 := x_byteAt (L := L) (ru := ru) (a := b + i) hT1 (by omega)
        rw [btI_lt (by omega)] at b1
        have b2 := (hT.2.2 (b + i) (by omega)).1
        have d5 := d4 i hi
        by_cases c : nI (T (b + i)) = nI (wl.getD i 0)
        · have c2 : T (b + i) = wl.getD i 0 := (nI_eq (by omega) (by have := (hl.2 i hi).2; omega)).mp c
          simp (config := { maxSteps := 2000000 }) (disch := omega) only [f197_H67, ux_at, ux_kk, ux_jo, gIx, pIx, pZx, gRx, aIx, sIx, aBx, sBx, lenx, clx, wshS, obS, reduceIte, Nat.one_ne_zero, Nat.zero_ne_one, Nat.reduceEqDiff, not_true_eq_false, not_false_eq_true, Nat.le_refl, ng_le, ng_lt, ng_nle, ng_nlt, ng_eq, ng_eq2, Bool.false_eq_true, lit_nI, nI_add, pk_mul, nI_leI, nI_ltI, nI_eq, d1', d3, hi2, s1.1, b1, d5, c]
          refine ih () fun j hj => ?_
          by_cases e : j = i
          · rw [e]; exact c2
          · exact hJ j (by omega)
        · have c2 : ¬ isW T N b wl := fun z => c (by rw [z.2 i hi])
          rw [if_neg c2, if_neg c2]
          simp (config := { maxSteps := 2000000 }) (disch := omega) only [f197_H67, ux_at, ux_kk, ux_jo, gIx, pIx, pZx, gRx, aIx, sIx, aBx, sBx, lenx, clx, wshS, obS, reduceIte, lit_nI, nI_add, nI_leI, d1', d3, hi2, s1.1, b1, d5, c]
          exact ⟨I1, rfl, f1, s1⟩
    · have c2 : ¬ isW T N b wl := fun z => q z.1
      have q2 : ¬ wdN T N b - b = wl.length := by omega
      rw [if_neg c2, if_neg c2]
      simp (config := { maxSteps := 2000000 }) (disch := omega) only [f197_J43, ux_at, ux_kk, ux_jo, gIx, pIx, pZx, gRx, aIx, sIx, aBx, sBx, lenx, clx, wshS, obS, reduceIte, Nat.one_ne_zero, Nat.zero_ne_one, Nat.reduceEqDiff, not_true_eq_false, not_false_eq_true, Nat.le_refl, ng_le, ng_lt, ng_nle, ng_nlt, ng_eq, ng_eq2, Bool.false_eq_true, lit_nI, nI_add, pk_mul, nI_leI, nI_ltI, nI_eq, s1.2.2.1, s1.1, d1', d3, es, q2]
      exact ⟨I1, rfl, f1, s1⟩
  obtain ⟨I', k1, k2⟩ := key
  refine ⟨I', ?_, k2⟩
  simp (config := { maxSteps := 2000000 }) (disch := omega) only [f197, ux_at, ux_kk, ux_jo, gIx, pIx, pZx, gRx, aIx, sIx, aBx, sBx, lenx, clx, wshS, obS, reduceIte, Nat.one_ne_zero, Nat.zero_ne_one, Nat.reduceEqDiff, not_true_eq_false, not_false_eq_true, Nat.le_refl, ng_le, ng_lt, ng_nle, ng_nlt, ng_eq, ng_eq2, Bool.false_eq_true, lit_nI, nI_add, pk_mul, nI_leI, nI_ltI, nI_eq, e1, s1.1, ew]
  exact k1
theorem x_takesSD (hT : XT I T N) {u : UInt32} {a f : Nat} {na fa : Int32} (ha : a ≤ N) (hS : TS I a na f fa) (hf : f ≠ 0) (hf2 : f < 100) (hn : 500 < n) : ∃ I', f197 n 1 u (mW I L ru) = some (nI 0, mW I' L ru) ∧ TF I I' ∧ TS I' (skN T N a) na f fa := by
  obtain ⟨I1, e1, f1, s1⟩ := x_skip (L := L) (ru := ru) (n := n) hT ha hS hn
  have hb := skN_le (T := T) ha
  have ew := x_wend (L := L) (ru := ru) (n := n) (u := u) (K := fun e0 e1 e2 w16 => f197_J43 n e0 e1 e2 w16) (hT.tf f1) hb hn
  refine ⟨I1, ?_, f1, s1⟩
  simp (config := { maxSteps := 2000000 }) (disch := omega) only [f197, ux_at, ux_kk, ux_jo, gIx, pIx, pZx, gRx, aIx, sIx, aBx, sBx, lenx, clx, wshS, obS, reduceIte, Nat.one_ne_zero, Nat.zero_ne_one, Nat.reduceEqDiff, not_true_eq_false, not_false_eq_true, Nat.le_refl, ng_le, ng_lt, ng_nle, ng_nlt, ng_eq, ng_eq2, Bool.false_eq_true, lit_nI, nI_add, pk_mul, nI_leI, nI_ltI, nI_eq, e1, s1.1, ew]
  simp (config := { maxSteps := 2000000 }) (disch := omega) only [f197_J43, ux_at, ux_kk, ux_jo, gIx, pIx, pZx, gRx, aIx, sIx, aBx, sBx, lenx, clx, wshS, obS, reduceIte, Nat.one_ne_zero, Nat.zero_ne_one, Nat.reduceEqDiff, not_true_eq_false, not_false_eq_true, Nat.le_refl, ng_le, ng_lt, ng_nle, ng_nlt, ng_eq, ng_eq2, Bool.false_eq_true, lit_nI, nI_add, pk_mul, nI_leI, nI_ltI, nI_eq, s1.2.2.1, hf]
/-- a number, of figures that are counted from b -/
theorem x_numF (hT : XT I T N) (hT2 : ∀ i, T i < 256) {b0 b bl : Nat} {fa lo hi : Int32} (hb0 : b0 ≤ N) (hb : b ≤ N) (hbl : bl ≤ 1) (hS : TS I b (nI b0) 0 fa) (hn : 500 < n) :
    ∃ I' v a', f140_J58 n 1 lo hi (nI bl) (mW I L ru) = some (v, mW I' L ru) ∧ TF I I' ∧ a' ≤ N ∧ (ffN T N lo hi bl b = 0 → v = fvI T N bl b ∧ TS I' (fgN T N b) (nI b0) 0 fa) ∧ (ffN T N lo hi bl b = 1 → v = nI 0 ∧ TS I' a' (nI b0) 1 (nI b)) ∧ (ffN T N lo hi bl b = 2 → v = nI 0 ∧ TS I' a' (nI b0) 2 (nI b0)) := by
  have t2 := hT.2.1
  have hge : b ≤ fgN T N b := rnE_ge _ _ _
  have hle : fgN T N b ≤ N := rnE_le hb
  have fin : ∀ J v, v = fvI T N bl b ∨ 2 < fgN T N b - b → TF I J → TS J (fgN T N b) (nI b0) 0 fa → ∃ I' v' a', f140_J156 n 1 lo hi (nI b) v (mW J L ru) = some (v', mW I' L ru) ∧ TF I I' ∧ a' ≤ N ∧ (ffN T N lo hi bl b = 0 → v' = fvI T N bl b ∧ TS I' (fgN T N b) (nI b0) 0 fa) ∧ (ffN T N lo hi bl b = 1 → v' = nI 0 ∧ TS I' a' (nI b0) 1 (nI b)) ∧ (ffN T N lo hi bl b = 2 → v' = nI 0 ∧ TS I' a' (nI b0) 2 (nI b0)) := by
    intro J v hv j1 j2
    by_cases c0 : fgN T N b = b
    · have ef : ffN T N lo hi bl b = 1 := if_pos c0
      rw [c0] at j2
      obtain ⟨I', e1, f1, s1⟩ := x_fail0 (L := L) (ru := ru) (k := 1) (p := b) j2
      refine ⟨I', nI 0, b, ?_, j1.tr f1, hb, fun z => by omega, fun _ => ⟨rfl, s1⟩, fun z => by omega⟩
      simp (config := { maxSteps := 2000000 }) (disch := omega) only [f140_J156, f140_J207, ux_at, ux_kk, ux_jo, gIx, pIx, pZx, gRx, aIx, sIx, aBx, sBx, lenx, clx, wshS, obS, reduceIte, Nat.one_ne_zero, Nat.zero_ne_one, Nat.reduceEqDiff, not_true_eq_false, not_false_eq_true, Nat.le_refl, ng_le, ng_lt, ng_nle, ng_nlt, ng_eq, ng_eq2, Bool.false_eq_true, lit_nI, nI_add, pk_mul, nI_leI, nI_ltI, nI_eq, j2.1, e1, s1.2.2.1]
    · have es : nI (fgN T N b) - nI b = nI (fgN T N b - b) := pk_sub hge
      have two : ∃ I', (∃ w, f8 1 (nI 2) (nI b0) (mW J L ru) = some w ∧ w = mW I' L ru) ∧ TF I I' ∧ TS I' (fgN T N b) (nI b0) 2 (nI b0) := by
        obtain ⟨I', e1, f1, s1⟩ := x_fail0 (L := L) (ru := ru) (k := 2) (p := b0) j2
        exact ⟨I', ⟨_, e1, rfl⟩, j1.tr f1, s1⟩
      obtain ⟨I2, ⟨w, e2, rfl⟩, f2, s2⟩ := two
      by_cases c2 : 2 < fgN T N b - b
      · have ef : ffN T N lo hi bl b = 2 := by
          unfold ffN
          rw [if_neg c0, if_pos c2]
        refine ⟨I2, nI 0, _, ?_, f2, hle, fun z => by omega, fun z => by omega, fun _ => ⟨rfl, s2⟩⟩
        simp (config := { maxSteps := 2000000 }) (disch := omega) only [f140_J156, f140_J198, f140_J207, ux_at, ux_kk, ux_jo, gIx, pIx, pZx, gRx, aIx, sIx, aBx, sBx, lenx, clx, wshS, obS, reduceIte, Nat.one_ne_zero, Nat.zero_ne_one, Nat.reduceEqDiff, not_true_eq_false, not_false_eq_true, Nat.le_refl, ng_le, ng_lt, ng_nle, ng_nlt, ng_eq, ng_eq2, Bool.false_eq_true, lit_nI, nI_add, pk_mul, nI_leI, nI_ltI, nI_eq, j2.1, j2.2.1, c0, es, c2, e2, s2.2.2.1]
      · have hv : v = fvI T N bl b := by
          rcases hv with h | h
          · exact h
          · exact absurd h c2
        have ef : ffN T N lo hi bl b = if v < lo then 2 else if hi < v then 2 else 0 := by
          unfold ffN
          rw [if_neg c0, if_neg c2, hv]
        have eo := s0g v lo hi (mW J L ru)
        by_cases v1 : v < lo
        · rw [if_pos v1] at ef eo
          refine ⟨I2, nI 0, _, ?_, f2, hle, fun z => by omega, fun z => by omega, fun _ => ⟨rfl, s2⟩⟩
          simp (config := { maxSteps := 2000000 }) (disch := omega) only [f140_J156, f140_J198, f140_J207, ux_at, ux_kk, ux_jo, gIx, pIx, pZx, gRx, aIx, sIx, aBx, sBx, lenx, clx, wshS, obS, reduceIte, Nat.one_ne_zero, Nat.zero_ne_one, Nat.reduceEqDiff, not_true_eq_false, not_false_eq_true, Nat.le_refl, ng_le, ng_lt, ng_nle, ng_nlt, ng_eq, ng_eq2, Bool.false_eq_true, lit_nI, nI_add, pk_mul, nI_leI, nI_ltI, nI_eq, j2.1, j2.2.1, c0, es, c2, eo, e2, s2.2.2.1]
        · by_cases v2 : hi < v
          · rw [if_neg v1, if_pos v2] at ef eo
            refine ⟨I2, nI 0, _, ?_, f2, hle, fun z => by omega, fun z => by omega, fun _ => ⟨rfl, s2⟩⟩
            simp (config := { maxSteps := 2000000 }) (disch := omega) only [f140_J156, f140_J198, f140_J207, ux_at, ux_kk, ux_jo, gIx, pIx, pZx, gRx, aIx, sIx, aBx, sBx, lenx, clx, wshS, obS, reduceIte, Nat.one_ne_zero, Nat.zero_ne_one, Nat.reduceEqDiff, not_true_eq_false, not_false_eq_true, Nat.le_refl, ng_le, ng_lt, ng_nle, ng_nlt, ng_eq, ng_eq2, Bool.false_eq_true, lit_nI, nI_add, pk_mul, nI_leI, nI_ltI, nI_eq, j2.1, j2.2.1, c0, es, c2, eo, e2, s2.2.2.1]
          · rw [if_neg v1, if_neg v2] at ef eo
            refine ⟨J, v, _, ?_, j1, hle, fun _ => ⟨hv, j2⟩, fun z => by omega, fun z => by omega⟩
            simp (config := { maxSteps := 2000000 }) (disch := omega) only [f140_J156, f140_J207, ux_at, ux_kk, ux_jo, gIx, pIx, pZx, gRx, aIx, sIx, aBx, sBx, lenx, clx, wshS, obS, reduceIte, Nat.one_ne_zero, Nat.zero_ne_one, Nat.reduceEqDiff, not_true_eq_false, not_false_eq_true, Nat.le_refl, ng_le, ng_lt, ng_nle, ng_nlt, ng_eq, ng_eq2, Bool.false_eq_true, lit_nI, nI_add, pk_mul, nI_leI, nI_ltI, nI_eq, j2.1, c0, es, c2, eo, j2.2.2.1]
  have key := lpP (F := fun k i (s : Int32 × St) => f140_H67 n (fun e0 e1 e2 e3 e4 e5 w40 => f140_J147 n e0 e1 e2 e3 e4 e5 w40) k 1 lo hi (nI bl) (nI b) s.1 (mW s.2 L ru)) (P := fun y => ∃ I' v a', y = some (v, mW I' L ru) ∧ TF I I' ∧ a' ≤ N ∧ (ffN T N lo hi bl b = 0 → v = fvI T N bl b ∧ TS I' (fgN T N b) (nI b0) 0 fa) ∧ (ffN T N lo hi bl b = 1 → v = nI 0 ∧ TS I' a' (nI b0) 1 (nI b)) ∧ (ffN T N lo hi bl b = 2 → v = nI 0 ∧ TS I' a' (nI b0) 2 (nI b0))) (J := fun i s => TF I s.2 ∧ TS s.2 i (nI b0) 0 fa ∧ b ≤ i ∧ fgN T N b = fgN T N i ∧ s.1 = nI (dvN T b (if i - b < 2 then i - b else 2))) N ?_ ?_ n b (nI 0, I) hb (by omega) ⟨TF.rf, hS, Nat.le_refl _, rfl, by rw [Nat.sub_self]; rfl⟩
  · simp (config := { maxSteps := 2000000 }) (disch := omega) only [f140_J58, ux_at, ux_kk, ux_jo, gIx, pIx, pZx, gRx, aIx, sIx, aBx, sBx, lenx, clx, wshS, obS, reduceIte, Nat.one_ne_zero, Nat.zero_ne_one, Nat.reduceEqDiff, not_true_eq_false, not_false_eq_true, Nat.le_refl, ng_le, ng_lt, ng_nle, ng_nlt, ng_eq, ng_eq2, Bool.false_eq_true, lit_nI, nI_add, pk_mul, nI_leI, nI_ltI, nI_eq, hS.1]
    exact key
  · rintro k ⟨v, J⟩ ⟨j1, j2, j3, j4, j5⟩
    have j1 : TF I J := j1
    have j2 : TS J N (nI b0) 0 fa := j2
    have j5 : v = nI (dvN T b (if N - b < 2 then N - b else 2)) := j5
    have e : fgN T N N = N := rnE_stop fun z => absurd z (Nat.lt_irrefl _)
    have l1 := (hT.tf j1).1
    have hv : (if bl = 0 then v else -v) = fvI T N bl b ∨ 2 < fgN T N b - b := by
      by_cases q : 2 < fgN T N b - b
      · exact Or.inr q
      · refine Or.inl ?_
        unfold fvI
        rw [j5, j4, e]
        have : (if N - b < 2 then N - b else 2) = N - b := by
          split
          · rfl
          · have : fgN T N b = N := j4.trans e
            omega
        rw [this]
    have z := fin J _ hv j1 (by rw [j4, e]; exact j2)
    rcases one_or hbl with rfl | rfl
    · simp only [reduceIte] at z
      simp (config := { maxSteps := 2000000 }) (disch := omega) only [f140_H67, f140_J147, ux_at, ux_kk, ux_jo, gIx, pIx, pZx, gRx, aIx, sIx, aBx, sBx, lenx, clx, wshS, obS, reduceIte, Nat.one_ne_zero, Nat.zero_ne_one, Nat.reduceEqDiff, not_true_eq_false, not_false_eq_true, Nat.le_refl, ng_le, ng_lt, ng_nle, ng_nlt, ng_eq, ng_eq2, Bool.false_eq_true, lit_nI, nI_add, pk_mul, nI_leI, nI_ltI, nI_eq, j2.1, l1]
      exact z
    · simp only [Nat.one_ne_zero, reduceIte] at z
      simp (config := { maxSteps := 2000000 }) (disch := omega) only [f140_H67, f140_J147, ux_at, ux_kk, ux_jo, gIx, pIx, pZx, gRx, aIx, sIx, aBx, sBx, lenx, clx, wshS, obS, reduceIte, Nat.one_ne_zero, Nat.zero_ne_one, Nat.reduceEqDiff, not_true_eq_false, not_false_eq_true, Nat.le_refl, ng_le, ng_lt, ng_nle, ng_nlt, ng_eq, ng_eq2, Bool.false_eq_true, lit_nI, nI_add, pk_mul, nI_leI, nI_ltI, nI_eq, j2.1, l1]
      exact z
  · rintro k i ⟨v, J⟩ hi2 ⟨j1, j2, j3, j4, j5⟩ ih
    have j1 : TF I J := j1
    have j2 : TS J i (nI b0) 0 fa := j2
    have j5 : v = nI (dvN T b (if i - b < 2 then i - b else 2)) := j5
    have hTJ := hT.tf j1
    have l1 := hTJ.1
    have hi3 : ¬ N ≤ i := by omega
    have b1 := x_byteAt (L := L) (ru := ru) (a := i) hTJ (by omega)
    rw [btI_lt hi2] at b1
    have b2 := (hT.2.2 i hi2).1
    have es : nI i - nI b = nI (i - b) := pk_sub j3
    by_cases q : 48 ≤ T i ∧ T i ≤ 57
    · have e : fgN T N i = fgN T N (i + 1) := rnE_step hi2 (by rw [fgP_t]; exact q)
      have q1 : ¬ T i < 48 := by omega
      have q2 : ¬ 57 < T i := by omega
      have j1' : TF I (u2 J 1 2 (nI (i + 1))) := j1.u (by decide) (by decide)
      have j2' : TS (u2 J 1 2 (nI (i + 1))) (i + 1) (nI b0) 0 fa := ⟨ux_at, (ux_j (by decide)).trans j2.2.1, (ux_j (by decide)).trans j2.2.2.1, (ux_j (by decide)).trans j2.2.2.2⟩
      by_cases c : 2 ≤ i - b
      · have z := ih (v, u2 J 1 2 (nI (i + 1))) ⟨j1', j2', by omega, j4.trans e, by
          show v = _
          rw [j5, if_neg (by omega), if_neg (by omega)]⟩
        simp (config := { maxSteps := 2000000 }) (disch := omega) only [f140_H67, f140_J134, ux_at, ux_kk, ux_jo, gIx, pIx, pZx, gRx, aIx, sIx, aBx, sBx, lenx, clx, wshS, obS, reduceIte, Nat.one_ne_zero, Nat.zero_ne_one, Nat.reduceEqDiff, not_true_eq_false, not_false_eq_true, Nat.le_refl, ng_le, ng_lt, ng_nle, ng_nlt, ng_eq, ng_eq2, Bool.false_eq_true, lit_nI, nI_add, pk_mul, nI_leI, nI_ltI, nI_eq, j2.1, l1, hi3, b1, q1, q2, es, c]
        exact z
      · have z := ih (nI 10 * v + nI (T i) - nI 48, u2 J 1 2 (nI (i + 1))) ⟨j1', j2', by omega, j4.trans e, by
          show nI 10 * v + nI (T i) - nI 48 = _
          rw [j5, if_pos (by omega), pk_mul, nI_add, pk_sub (by omega)]
          congr 1
          unfold dvN
          rcases (show i - b = 0 ∨ i - b = 1 by omega) with e0 | e0
          · have : i = b := by omega
            subst this
            rw [e0, show i + 1 - i = 1 by omega]
            show 10 * 0 + T i - 48 = T i - 48
            omega
          · have : i = b + 1 := by omega
            subst this
            rw [e0, show b + 1 + 1 - b = 2 by omega]
            have := rnE_in (P := fgP T) (N := N) (a := b) (i := b) (Nat.le_refl _) (by
              have h1 : fgN T N b = fgN T N (b + 1) := j4
              have h2 : b + 1 ≤ fgN T N (b + 1) := rnE_ge _ _ _
              show b < fgN T N b
              omega)
            rw [fgP_t] at this
            show 10 * (T b - 48) + T (b + 1) - 48 = 10 * (T b - 48) + (T (b + 1) - 48)
            omega⟩
        simp (config := { maxSteps := 2000000 }) (disch := omega) only [f140_H67, f140_J134, ux_at, ux_kk, ux_jo, gIx, pIx, pZx, gRx, aIx, sIx, aBx, sBx, lenx, clx, wshS, obS, reduceIte, Nat.one_ne_zero, Nat.zero_ne_one, Nat.reduceEqDiff, not_true_eq_false, not_false_eq_true, Nat.le_refl, ng_le, ng_lt, ng_nle, ng_nlt, ng_eq, ng_eq2, Bool.false_eq_true, lit_nI, nI_add, pk_mul, nI_leI, nI_ltI, nI_eq, j2.1, l1, hi3, b1, q1, q2, es, c]
        exact z
    · have e : fgN T N i = i := rnE_stop fun _ => bf (by rw [fgP_t]; exact q)
      have hv : (if bl = 0 then v else -v) = fvI T N bl b ∨ 2 < fgN T N b - b := by
        by_cases q : 2 < fgN T N b - b
        · exact Or.inr q
        · refine Or.inl ?_
          unfold fvI
          rw [j5, j4, e]
          have : (if i - b < 2 then i - b else 2) = i - b := by
            split
            · rfl
            · have : fgN T N b = i := j4.trans e
              omega
          rw [this]
      have z := fin J _ hv j1 (by rw [j4, e]; exact j2)
      by_cases q1 : T i < 48
      · rcases one_or hbl with rfl | rfl
        · simp only [reduceIte] at z
          simp (config := { maxSteps := 2000000 }) (disch := omega) only [f140_H67, f140_J147, ux_at, ux_kk, ux_jo, gIx, pIx, pZx, gRx, aIx, sIx, aBx, sBx, lenx, clx, wshS, obS, reduceIte, Nat.one_ne_zero, Nat.zero_ne_one, Nat.reduceEqDiff, not_true_eq_false, not_false_eq_true, Nat.le_refl, ng_le, ng_lt, ng_nle, ng_nlt, ng_eq, ng_eq2, Bool.false_eq_true, lit_nI, nI_add, pk_mul, nI_leI, nI_ltI, nI_eq, j2.1, l1, hi3, b1, q1]
          exact z
        · simp only [Nat.one_ne_zero, reduceIte] at z
          simp (config := { maxSteps := 2000000 }) (disch := omega) only [f140_H67, f140_J147, ux_at, ux_kk, ux_jo, gIx, pIx, pZx, gRx, aIx, sIx, aBx, sBx, lenx, clx, wshS, obS, reduceIte, Nat.one_ne_zero, Nat.zero_ne_one, Nat.reduceEqDiff, not_true_eq_false, not_false_eq_true, Nat.le_refl, ng_le, ng_lt, ng_nle, ng_nlt, ng_eq, ng_eq2, Bool.false_eq_true, lit_nI, nI_add, pk_mul, nI_leI, nI_ltI, nI_eq, j2.1, l1, hi3, b1, q1]
          exact z
      · have q2 : 57 < T i := by omega
        rcases one_or hbl with rfl | rfl
        · simp only [reduceIte] at z
          simp (config := { maxSteps := 2000000 }) (disch := omega) only [f140_H67, f140_J147, ux_at, ux_kk, ux_jo, gIx, pIx, pZx, gRx, aIx, sIx, aBx, sBx, lenx, clx, wshS, obS, reduceIte, Nat.one_ne_zero, Nat.zero_ne_one, Nat.reduceEqDiff, not_true_eq_false, not_false_eq_true, Nat.le_refl, ng_le, ng_lt, ng_nle, ng_nlt, ng_eq, ng_eq2, Bool.false_eq_true, lit_nI, nI_add, pk_mul, nI_leI, nI_ltI, nI_eq, j2.1, l1, hi3, b1, q1, q2]
          exact z
        · simp only [Nat.one_ne_zero, reduceIte] at z
          simp (config := { maxSteps := 2000000 }) (disch := omega) only [f140_H67, f140_J147, ux_at, ux_kk, ux_jo, gIx, pIx, pZx, gRx, aIx, sIx, aBx, sBx, lenx, clx, wshS, obS, reduceIte, Nat.one_ne_zero, Nat.zero_ne_one, Nat.reduceEqDiff, not_true_eq_false, not_false_eq_true, Nat.le_refl, ng_le, ng_lt, ng_nle, ng_nlt, ng_eq, ng_eq2, Bool.false_eq_true, lit_nI, nI_add, pk_mul, nI_leI, nI_ltI, nI_eq, j2.1, l1, hi3, b1, q1, q2]
          exact z
/-- a number without a sign -/
theorem x_num (hT : XT I T N) (hT2 : ∀ i, T i < 256) {a lo : Nat} {na fa hi : Int32} (ha : a ≤ N) (hlo : lo < 100) (hS : TS I a na 0 fa) (hn : 500 < n) :
    ∃ I' v a', f140 n 1 (nI lo) hi (mW I L ru) = some (v, mW I' L ru) ∧ TF I I' ∧ a' ≤ N ∧ (ffN T N (nI lo) hi 0 (skN T N a) = 0 → v = fvI T N 0 (skN T N a) ∧ TS I' (fgN T N (skN T N a)) (nI (skN T N a)) 0 fa) ∧ (ffN T N (nI lo) hi 0 (skN T N a) ≠ 0 → v = nI 0 ∧ TS I' a' (nI (skN T N a)) (ffN T N (nI lo) hi 0 (skN T N a)) (nI (skN T N a))) := by
  obtain ⟨I1, e1, f1, s1⟩ := x_skip (L := L) (ru := ru) (n := n) hT ha hS hn
  have hb := skN_le (T := T) ha
  generalize skN T N a = b at *
  have f2 : TF I (u2 I1 1 3 (nI b)) := f1.u (by decide) (by decide)
  have s2 : TS (u2 I1 1 3 (nI b)) b (nI b) 0 fa := ⟨(ux_j (by decide)).trans s1.1, ux_at, (ux_j (by decide)).trans s1.2.2.1, (ux_j (by decide)).trans s1.2.2.2⟩
  obtain ⟨I', v, a', e3, f3, h3, c0, c1, c2⟩ := x_numF (L := L) (ru := ru) (n := n) (lo := nI lo) (hi := hi) (bl := 0) (hT.tf f2) hT2 hb hb (by decide) s2 hn
  refine ⟨I', v, a', ?_, f2.tr f3, h3, c0, fun z => ?_⟩
  · simp (config := { maxSteps := 2000000 }) (disch := omega) only [f140, f140_J43, ux_at, ux_kk, ux_jo, gIx, pIx, pZx, gRx, aIx, sIx, aBx, sBx, lenx, clx, wshS, obS, reduceIte, Nat.one_ne_zero, Nat.zero_ne_one, Nat.reduceEqDiff, not_true_eq_false, not_false_eq_true, Nat.le_refl, ng_le, ng_lt, ng_nle, ng_nlt, ng_eq, ng_eq2, Bool.false_eq_true, lit_nI, nI_add, pk_mul, nI_leI, nI_ltI, nI_eq, e1, s1.1, s1.2.2.1, Nat.zero_le, e3]
  · have := ffN_le T N (nI lo) hi 0 b
    rcases (show ffN T N (nI lo) hi 0 b = 1 ∨ ffN T N (nI lo) hi 0 b = 2 by omega) with y | y
    · rw [y]; exact c1 y
    · rw [y]; exact c2 y
/-- the fault of a number that may have a sign -/
theorem x_sgn (hT : XT I T N) (hT2 : ∀ i, T i < 256) {a : Nat} {na fa : Int32} (ha : a ≤ N) (hS : TS I a na 0 fa) (hn : 500 < n) :
    ∃ I' v a', f140 n 1 (-nI 9) (nI 9) (mW I L ru) = some (v, mW I' L ru) ∧ TF I I' ∧ a' ≤ N ∧ (ffN T N (-nI 9) (nI 9) (mnN T N (skN T N a)) (skN T N a + mnN T N (skN T N a)) = 0 → v = fvI T N (mnN T N (skN T N a)) (skN T N a + mnN T N (skN T N a)) ∧ TS I' (fgN T N (skN T N a + mnN T N (skN T N a))) (nI (skN T N a)) 0 fa) ∧ (ffN T N (-nI 9) (nI 9) (mnN T N (skN T N a)) (skN T N a + mnN T N (skN T N a)) = 1 → v = nI 0 ∧ TS I' a' (nI (skN T N a)) 1 (nI (skN T N a + mnN T N (skN T N a)))) ∧ (ffN T N (-nI 9) (nI 9) (mnN T N (skN T N a)) (skN T N a + mnN T N (skN T N a)) = 2 → v = nI 0 ∧ TS I' a' (nI (skN T N a)) 2 (nI (skN T N a))) := by
  obtain ⟨I1, e1, f1, s1⟩ := x_skip (L := L) (ru := ru) (n := n) hT ha hS hn
  have hb := skN_le (T := T) ha
  have t2 := hT.2.1
  have n9 : ¬ nI 0 ≤ -nI 9 := by decide +kernel
  generalize skN T N a = b at *
  have f2 : TF I (u2 I1 1 3 (nI b)) := f1.u (by decide) (by decide)
  have s2 : TS (u2 I1 1 3 (nI b)) b (nI b) 0 fa := ⟨(ux_j (by decide)).trans s1.1, ux_at, (ux_j (by decide)).trans s1.2.2.1, (ux_j (by decide)).trans s1.2.2.2⟩
  have b1 := x_byteAt (L := L) (ru := ru) (a := b) (hT.tf f2) (by omega)
  by_cases q : b < N ∧ T b = 45
  · have em : mnN T N b = 1 := if_pos q
    rw [em]
    rw [btI_lt q.1, q.2] at b1
    have f3 : TF I (u2 (u2 I1 1 3 (nI b)) 1 2 (nI (b + 1))) := f2.u (by decide) (by decide)
    have s3 : TS (u2 (u2 I1 1 3 (nI b)) 1 2 (nI (b + 1))) (b + 1) (nI b) 0 fa := ⟨ux_at, (ux_j (by decide)).trans s2.2.1, (ux_j (by decide)).trans s2.2.2.1, (ux_j (by decide)).trans s2.2.2.2⟩
    obtain ⟨I', v, a', e3, f4, h3, c⟩ := x_numF (L := L) (ru := ru) (n := n) (lo := -nI 9) (hi := nI 9) (bl := 1) (hT.tf f3) hT2 hb (show b + 1 ≤ N by omega) (by decide) s3 hn
    refine ⟨I', v, a', ?_, f3.tr f4, h3, c⟩
    simp (config := { maxSteps := 2000000 }) (disch := omega) only [f140, f140_J43, ux_at, ux_kk, ux_jo, gIx, pIx, pZx, gRx, aIx, sIx, aBx, sBx, lenx, clx, wshS, obS, reduceIte, Nat.one_ne_zero, Nat.zero_ne_one, Nat.reduceEqDiff, not_true_eq_false, not_false_eq_true, Nat.le_refl, ng_le, ng_lt, ng_nle, ng_nlt, ng_eq, ng_eq2, Bool.false_eq_true, lit_nI, nI_add, pk_mul, nI_leI, nI_ltI, nI_eq, e1, s1.1, s1.2.2.1, n9, s2.1, b1, e3]
  · have em : mnN T N b = 0 := if_neg q
    rw [em, Nat.add_zero]
    have b2 : ¬ btI T N b = nI 45 := by
      unfold btI
      by_cases h1 : b < N
      · rw [if_pos h1]
        have := hT2 b
        intro z
        rw [nI_eq (by omega) (by decide)] at z
        exact q ⟨h1, z⟩
      · rw [if_neg h1]
        decide +kernel
    obtain ⟨I', v, a', e3, f4, h3, c⟩ := x_numF (L := L) (ru := ru) (n := n) (lo := -nI 9) (hi := nI 9) (bl := 0) (hT.tf f2) hT2 hb hb (by decide) s2 hn
    refine ⟨I', v, a', ?_, f2.tr f4, h3, c⟩
    simp (config := { maxSteps := 2000000 }) (disch := omega) only [f140, f140_J43, ux_at, ux_kk, ux_jo, gIx, pIx, pZx, gRx, aIx, sIx, aBx, sBx, lenx, clx, wshS, obS, reduceIte, Nat.one_ne_zero, Nat.zero_ne_one, Nat.reduceEqDiff, not_true_eq_false, not_false_eq_true, Nat.le_refl, ng_le, ng_lt, ng_nle, ng_nlt, ng_eq, ng_eq2, Bool.false_eq_true, lit_nI, nI_add, pk_mul, nI_leI, nI_ltI, nI_eq, e1, s1.1, s1.2.2.1, n9, s2.1, b1, b2, e3]
theorem x_numD (hT : XT I T N) {a f : Nat} {na fa lo hi : Int32} (ha : a ≤ N) (hS : TS I a na f fa) (hf : f ≠ 0) (hf2 : f < 100) (hn : 500 < n) : ∃ I', f140 n 1 lo hi (mW I L ru) = some (nI 0, mW I' L ru) ∧ TF I I' ∧ TS I' (skN T N a) na f fa := by
  obtain ⟨I1, e1, f1, s1⟩ := x_skip (L := L) (ru := ru) (n := n) hT ha hS hn
  refine ⟨I1, ?_, f1, s1⟩
  simp (config := { maxSteps := 2000000 }) (disch := omega) only [f140, ux_at, ux_kk, ux_jo, gIx, pIx, pZx, gRx, aIx, sIx, aBx, sBx, lenx, clx, wshS, obS, reduceIte, Nat.one_ne_zero, Nat.zero_ne_one, Nat.reduceEqDiff, not_true_eq_false, not_false_eq_true, Nat.le_refl, ng_le, ng_lt, ng_nle, ng_nlt, ng_eq, ng_eq2, Bool.false_eq_true, lit_nI, nI_add, pk_mul, nI_leI, nI_ltI, nI_eq, e1, s1.2.2.1, hf]
end
