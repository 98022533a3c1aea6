/-! BOTH TOGETHER: sea -/
theorem sumN_leF {f g : Nat → Nat} : ∀ n, (∀ i, i < n → f i ≤ g i) → sumN f n ≤ sumN g n
  | 0, _ => Nat.le_refl _
  | n + 1, h => by
    have := sumN_leF n fun i hi => h i (by omega)
    have := h n (Nat.lt_succ_self _)
    show sumN f n + f n ≤ sumN g n + g n
    omega
theorem near9 : ∀ c, c < 64 → sumN (fun d => if 1 < farN c d then 0 else 1) 64 ≤ 9 := by decide +kernel
theorem nbN_9 (rk : Nat → Nat) {c : Nat} (hc : c < 64) : nbN rk c ≤ 9 := by
  refine Nat.le_trans (sumN_leF 64 fun d hd => ?_) (near9 c hc)
  unfold nbP
  split
  · exact Nat.zero_le _
  · exact Nat.le_refl _
theorem sub_all : ∀ k : Nat, k < 19 → ∀ x, x < 100 → (Int32.ofInt ((k : Int) - 9) - nI x).toInt = (k : Int) - 9 - x := by decide +kernel
theorem sub_ok {a : Int32} (h1 : -9 ≤ a.toInt) (h2 : a.toInt ≤ 9) {x : Nat} (hx : x < 100) : (a - nI x).toInt = a.toInt - x := by
  have e : a = Int32.ofInt (((a.toInt + 9).toNat : Int) - 9) := by
    have h : (((a.toInt + 9).toNat : Int) - 9) = a.toInt := by omega
    rw [h, Int32.ofInt_toInt]
  have h3 := sub_all (a.toInt + 9).toNat (by omega) x hx
  rw [← e] at h3
  rw [h3]
  omega
theorem ws_ok {J : St} (hD : DrK J) {s c : Nat} (hs : s < soD J) (hc : c < 64) : -99 ≤ (wsD J s c).toInt ∧ (wsD J s c).toInt ≤ 9 ∧ (rkD J c = 1 → wsD J s c = -99) := by
  obtain ⟨_, ⟨k, k1, k2⟩, h3⟩ := hD.2.2.2.2.2.2.1 s hs
  obtain ⟨h3, h4⟩ := h3 c hc
  have h9 := nbN_9 (rkD J) hc
  unfold wsD wP
  by_cases e : rkD J c = 0
  · rw [if_pos e, k2, pk_mul]
    have hm : k * nbN (rkD J) c ≤ 9 * 9 := Nat.mul_le_mul k1 h9
    rw [sub_ok h3 h4 (by omega)]
    exact ⟨by omega, by omega, fun z => by omega⟩
  · rw [if_neg e]
    exact ⟨by decide +kernel, by decide +kernel, fun _ => by decide +kernel⟩
section
variable {I J A : St} {L : Lt} {ru n : Nat}
theorem x_become (hr : ∀ c, c < 64 → J 26 c = nI 0 ∨ J 26 c = nI 1) (hn : 500 < n) : ∃ J', f13 n 3 15 (mW J L ru) = some (mW J' L ru) ∧ Fr csK [] J J' ∧ (∀ j, j < 8 → J' 3 j = J 15 j) ∧ (∀ c, c < 64 → J' 14 c = J 26 c) ∧ ∀ s, s < 6 → J' 4 s = J 16 s ∧ J' 5 s = J 17 s ∧ J' 6 s = J 18 s ∧ ∀ c, c < 64 → J' (8 + s) c = J (20 + s) c := by
  -- the sorts
  have row8 : ∀ s, s < 6 → 8 + s ∈ csK := by
    intro s hs
    rcases (show s = 0 ∨ s = 1 ∨ s = 2 ∨ s = 3 ∨ s = 4 ∨ s = 5 by omega) with rfl | rfl | rfl | rfl | rfl | rfl <;> decide
  have sorts : ∀ Z0, Fr csK [] J Z0 → (∀ j, j < 8 → Z0 3 j = J 15 j) → (∀ c, c < 64 → Z0 14 c = J 26 c) → ∃ J', f13_H92 n (fun w82 => some w82) n 3 15 (nI 0) (mW Z0 L ru) = some (mW J' L ru) ∧ Fr csK [] J J' ∧ (∀ j, j < 8 → J' 3 j = J 15 j) ∧ (∀ c, c < 64 → J' 14 c = J 26 c) ∧ ∀ s, s < 6 → J' 4 s = J 16 s ∧ J' 5 s = J 17 s ∧ J' 6 s = J 18 s ∧ ∀ c, c < 64 → J' (8 + s) c = J (20 + s) c := by
    intro Z0 z1 z2 z3
    refine lpP (F := fun k s (Z : St) => f13_H92 n (fun w82 => some w82) k 3 15 (nI s) (mW Z L ru)) (P := fun y => ∃ J', y = some (mW J' L ru) ∧ Fr csK [] J J' ∧ (∀ j, j < 8 → J' 3 j = J 15 j) ∧ (∀ c, c < 64 → J' 14 c = J 26 c) ∧ ∀ s, s < 6 → J' 4 s = J 16 s ∧ J' 5 s = J 17 s ∧ J' 6 s = J 18 s ∧ ∀ c, c < 64 → J' (8 + s) c = J (20 + s) c) (J := fun s Z => Fr csK [] J Z ∧ (∀ j, j < 8 → Z 3 j = J 15 j) ∧ (∀ c, c < 64 → Z 14 c = J 26 c) ∧ ∀ s', s' < s → Z 4 s' = J 16 s' ∧ Z 5 s' = J 17 s' ∧ Z 6 s' = J 18 s' ∧ ∀ c, c < 64 → Z (8 + s') c = J (20 + s') c) 6 ?_ ?_ n 0 Z0 (by omega) (by omega) ⟨z1, z2, z3, fun s' h => absurd h (Nat.not_lt_zero _)⟩
    · rintro k Z ⟨a1, a2, a3, a4⟩
      simp (config := { maxSteps := 2000000 }) (disch := omega) only [f13_H92, ux_at, ux_kk, ux_jo, gIx, pIx, pZx, gRx, aIx, sIx, aBx, sBx, lenx, clx, wshS, obS, reduceIte, Nat.one_ne_zero, Nat.zero_ne_one, Nat.reduceEqDiff, not_true_eq_false, not_false_eq_true, Nat.le_refl, ng_le, ng_lt, ng_nle, ng_nlt, ng_eq, ng_eq2, Bool.false_eq_true, lit_nI, nI_add, pk_mul, nI_leI, nI_ltI, nI_eq]
      exact ⟨Z, rfl, a1, a2, a3, a4⟩
    · rintro k s Z hs ⟨a1, a2, a3, a4⟩ ih
      have hs2 : ¬ 6 ≤ s := by omega
      have e16 : Z 16 s = J 16 s := by rw [a1.at (by decide) (by decide)]
      have e17 : Z 17 s = J 17 s := by rw [a1.at (by decide) (by decide)]
      have e18 : Z 18 s = J 18 s := by rw [a1.at (by decide) (by decide)]
      have key := lpP (F := fun k2 c (Y : St) => f13_H136 n (fun v0 v1 v2 w => f13_H92 n (fun w82 => some w82) k v0 v1 v2 w) (fun w82 => some w82) (fun e0 e1 e2 w80 => f13_H92 n (fun w82 => some w82) k e0 e1 (e2 + nI 1) w80) k2 3 15 (nI s) (nI c) (mW Y L ru)) (P := fun y => ∃ J', y = some (mW J' L ru) ∧ Fr csK [] J J' ∧ (∀ j, j < 8 → J' 3 j = J 15 j) ∧ (∀ c, c < 64 → J' 14 c = J 26 c) ∧ ∀ s, s < 6 → J' 4 s = J 16 s ∧ J' 5 s = J 17 s ∧ J' 6 s = J 18 s ∧ ∀ c, c < 64 → J' (8 + s) c = J (20 + s) c) (J := fun t Y => Fr csK [] J Y ∧ (∀ j, j < 8 → Y 3 j = J 15 j) ∧ (∀ c, c < 64 → Y 14 c = J 26 c) ∧ (∀ s', s' < s → Y 4 s' = J 16 s' ∧ Y 5 s' = J 17 s' ∧ Y 6 s' = J 18 s' ∧ ∀ c, c < 64 → Y (8 + s') c = J (20 + s') c) ∧ Y 4 s = J 16 s ∧ Y 5 s = J 17 s ∧ Y 6 s = J 18 s ∧ ∀ c, c < t → Y (8 + s) c = J (20 + s) c) 64 ?_ ?_ n 0 (u2 (u2 (u2 Z 4 s (J 16 s)) 5 s (J 17 s)) 6 s (J 18 s)) (by omega) (by omega) ⟨((a1.u (by decide)).u (by decide)).u (by decide), fun j hj => (ux_k (by decide)).trans ((ux_k (by decide)).trans ((ux_k (by decide)).trans (a2 j hj))), fun c hc => (ux_k (by decide)).trans ((ux_k (by decide)).trans ((ux_k (by decide)).trans (a3 c hc))), fun s' hs' => ?_, ?_, ?_, ux_at, fun c hc => absurd hc (Nat.not_lt_zero _)⟩
      · simp (config := { maxSteps := 2000000 }) (disch := omega) only [f13_H92, ux_at, ux_kk, ux_jo, gIx, pIx, pZx, gRx, aIx, sIx, aBx, sBx, lenx, clx, wshS, obS, reduceIte, Nat.one_ne_zero, Nat.zero_ne_one, Nat.reduceEqDiff, not_true_eq_false, not_false_eq_true, Nat.le_refl, ng_le, ng_lt, ng_nle, ng_nlt, ng_eq, ng_eq2, Bool.false_eq_true, lit_nI, nI_add, pk_mul, nI_leI, nI_ltI, nI_eq, hs2, e16, e17, e18]
        exact key
      · rintro k2 Y ⟨c1, c2, c3, c4, c5, c6, c7, c8⟩
        have z := ih Y ⟨c1, c2, c3, fun s' hs' => by
          by_cases e : s' = s
          · rw [e]; exact ⟨c5, c6, c7, c8⟩
          · exact c4 s' (by omega)⟩
        simp (config := { maxSteps := 2000000 }) (disch := omega) only [f13_H136, ux_at, ux_kk, ux_jo, gIx, pIx, pZx, gRx, aIx, sIx, aBx, sBx, lenx, clx, wshS, obS, reduceIte, Nat.one_ne_zero, Nat.zero_ne_one, Nat.reduceEqDiff, not_true_eq_false, not_false_eq_true, Nat.le_refl, ng_le, ng_lt, ng_nle, ng_nlt, ng_eq, ng_eq2, Bool.false_eq_true, lit_nI, nI_add, pk_mul, nI_leI, nI_ltI, nI_eq]
        exact z
      · rintro k2 t Y ht ⟨c1, c2, c3, c4, c5, c6, c7, c8⟩ ih2
        have ht2 : ¬ 64 ≤ t := by omega
        have e20 : Y (20 + s) t = J (20 + s) t := by rw [c1.at (by simp; omega) (by omega)]
        have w8 := fun v => sI_of (I := Y) (L := L) (ru := ru) (v := v) (wthRS s hs) ht (by decide)
        simp (config := { maxSteps := 2000000 }) (disch := omega) only [f13_H136, ux_at, ux_kk, ux_jo, gIx, pIx, pZx, gRx, aIx, sIx, aBx, sBx, lenx, clx, wshS, obS, reduceIte, Nat.one_ne_zero, Nat.zero_ne_one, Nat.reduceEqDiff, not_true_eq_false, not_false_eq_true, Nat.le_refl, ng_le, ng_lt, ng_nle, ng_nlt, ng_eq, ng_eq2, Bool.false_eq_true, lit_nI, nI_add, pk_mul, nI_leI, nI_ltI, nI_eq, ht2, wthR, dthR, dth_a, e20, w8]
        refine ih2 _ ⟨c1.u (row8 s hs), fun j hj => (ux_k (by omega)).trans (c2 j hj), fun c hc => (ux_k (by omega)).trans (c3 c hc), fun s' hs' => ?_, (ux_k (by omega)).trans c5, (ux_k (by omega)).trans c6, (ux_k (by omega)).trans c7, fun c hc => ?_⟩
        · obtain ⟨d1, d2, d3, d4⟩ := c4 s' hs'
          exact ⟨(ux_k (by omega)).trans d1, (ux_k (by omega)).trans d2, (ux_k (by omega)).trans d3, fun c hc => (ux_k (by omega)).trans (d4 c hc)⟩
        · rw [ux_if]
          by_cases e : c = t
          · rw [if_pos e, e]
          · rw [if_neg e]
            exact c8 c (by omega)
      · obtain ⟨d1, d2, d3, d4⟩ := a4 s' hs'
        have ne : ¬ s' = s := by omega
        exact ⟨(ux_k (by decide)).trans ((ux_k (by decide)).trans ((ux_j ne).trans d1)), (ux_k (by decide)).trans ((ux_j ne).trans ((ux_k (by decide)).trans d2)), (ux_j ne).trans ((ux_k (by decide)).trans ((ux_k (by decide)).trans d3)), fun c hc => (ux_k (by omega)).trans ((ux_k (by omega)).trans ((ux_k (by omega)).trans (d4 c hc)))⟩
      · exact (ux_k (by decide)).trans ((ux_k (by decide)).trans ux_at)
      · exact (ux_k (by decide)).trans ux_at
  -- the rocks
  have rocks : ∀ Z0, Fr csK [] J Z0 → (∀ j, j < 8 → Z0 3 j = J 15 j) → ∃ J', f13_H66 n (fun e0 e1 w42 => f13_H92 n (fun w82 => some w82) n e0 e1 (nI 0) w42) n 3 15 (nI 0) (mW Z0 L ru) = some (mW J' L ru) ∧ Fr csK [] J J' ∧ (∀ j, j < 8 → J' 3 j = J 15 j) ∧ (∀ c, c < 64 → J' 14 c = J 26 c) ∧ ∀ s, s < 6 → J' 4 s = J 16 s ∧ J' 5 s = J 17 s ∧ J' 6 s = J 18 s ∧ ∀ c, c < 64 → J' (8 + s) c = J (20 + s) c := by
    intro Z0 z1 z2
    refine lpP (F := fun k c (Z : St) => f13_H66 n (fun e0 e1 w42 => f13_H92 n (fun w82 => some w82) n e0 e1 (nI 0) w42) k 3 15 (nI c) (mW Z L ru)) (P := fun y => ∃ J', y = some (mW J' L ru) ∧ Fr csK [] J J' ∧ (∀ j, j < 8 → J' 3 j = J 15 j) ∧ (∀ c, c < 64 → J' 14 c = J 26 c) ∧ ∀ s, s < 6 → J' 4 s = J 16 s ∧ J' 5 s = J 17 s ∧ J' 6 s = J 18 s ∧ ∀ c, c < 64 → J' (8 + s) c = J (20 + s) c) (J := fun t Z => Fr csK [] J Z ∧ (∀ j, j < 8 → Z 3 j = J 15 j) ∧ ∀ c, c < t → Z 14 c = J 26 c) 64 ?_ ?_ n 0 Z0 (by omega) (by omega) ⟨z1, z2, fun c hc => absurd hc (Nat.not_lt_zero _)⟩
    · rintro k Z ⟨a1, a2, a3⟩
      have z := sorts Z a1 a2 a3
      simp (config := { maxSteps := 2000000 }) (disch := omega) only [f13_H66, ux_at, ux_kk, ux_jo, gIx, pIx, pZx, gRx, aIx, sIx, aBx, sBx, lenx, clx, wshS, obS, reduceIte, Nat.one_ne_zero, Nat.zero_ne_one, Nat.reduceEqDiff, not_true_eq_false, not_false_eq_true, Nat.le_refl, ng_le, ng_lt, ng_nle, ng_nlt, ng_eq, ng_eq2, Bool.false_eq_true, lit_nI, nI_add, pk_mul, nI_leI, nI_ltI, nI_eq]
      exact z
    · rintro k t Z ht ⟨a1, a2, a3⟩ ih
      have ht2 : ¬ 64 ≤ t := by omega
      have er : Z 26 t = J 26 t := by rw [a1.at (by decide) (by decide)]
      have ea : J 26 t &&& nI 1 = J 26 t := by
        rcases hr t ht with e | e
        · rw [e]; decide +kernel
        · rw [e]; decide +kernel
      simp (config := { maxSteps := 2000000 }) (disch := omega) only [f13_H66, ux_at, ux_kk, ux_jo, gIx, pIx, pZx, gRx, aIx, sIx, aBx, sBx, lenx, clx, wshS, obS, reduceIte, Nat.one_ne_zero, Nat.zero_ne_one, Nat.reduceEqDiff, not_true_eq_false, not_false_eq_true, Nat.le_refl, ng_le, ng_lt, ng_nle, ng_nlt, ng_eq, ng_eq2, Bool.false_eq_true, lit_nI, nI_add, pk_mul, nI_leI, nI_ltI, nI_eq, ht2, er, ea]
      refine ih _ ⟨a1.u (by decide), fun j hj => (ux_k (by decide)).trans (a2 j hj), fun c hc => ?_⟩
      rw [ux_if]
      by_cases e : c = t
      · rw [if_pos e, e]
      · rw [if_neg e]
        exact a3 c (by omega)
  have k := rocks (u2 (u2 (u2 (u2 (u2 (u2 (u2 (u2 J 3 0 (J 15 0)) 3 1 (J 15 1)) 3 2 (J 15 2)) 3 3 (J 15 3)) 3 4 (J 15 4)) 3 5 (J 15 5)) 3 6 (J 15 6)) 3 7 (J 15 7)) ((((((((Fr.rf.u (by decide)).u (by decide)).u (by decide)).u (by decide)).u (by decide)).u (by decide)).u (by decide)).u (by decide)) (by
    intro j hj
    rcases (show j = 0 ∨ j = 1 ∨ j = 2 ∨ j = 3 ∨ j = 4 ∨ j = 5 ∨ j = 6 ∨ j = 7 by omega) with rfl | rfl | rfl | rfl | rfl | rfl | rfl | rfl
    · simp (disch := decide) only [ux_at, ux_jo]
    · simp (disch := decide) only [ux_at, ux_jo]
    · simp (disch := decide) only [ux_at, ux_jo]
    · simp (disch := decide) only [ux_at, ux_jo]
    · simp (disch := decide) only [ux_at, ux_jo]
    · simp (disch := decide) only [ux_at, ux_jo]
    · simp (disch := decide) only [ux_at, ux_jo]
    · simp (disch := decide) only [ux_at, ux_jo])
  simp (config := { maxSteps := 2000000 }) (disch := omega) only [f13, ux_at, ux_kk, ux_jo, gIx, pIx, pZx, gRx, aIx, sIx, aBx, sBx, lenx, clx, wshS, obS, reduceIte, Nat.one_ne_zero, Nat.zero_ne_one, Nat.reduceEqDiff, not_true_eq_false, not_false_eq_true, Nat.le_refl, ng_le, ng_lt, ng_nle, ng_nlt, ng_eq, ng_eq2, Bool.false_eq_true, lit_nI, nI_add, pk_mul, nI_leI, nI_ltI, nI_eq]
  exact k
theorem x_plain (hn : 1000 < n) : ∃ J', f82 n 34 (mW J L ru) = some (mW J' L ru) ∧ Fr [35, 36] [] J J' ∧ ∀ s, s < 6 → J' 35 s = nI 0 ∧ J' 36 s = nI 0 := by
  obtain ⟨J1, e1, f1, h1⟩ := x_fill (I := J) (L := L) (ru := ru) (n := n) (v := 0) sh_35 (by decide) hn
  obtain ⟨J2, e2, f2, h2⟩ := x_fill (I := J1) (L := L) (ru := ru) (n := n) (v := 0) sh_36 (by decide) hn
  refine ⟨J2, ?_, (f1.mono (by decide) (by decide)).tr (f2.mono (by decide) (by decide)), fun s hs => ⟨by rw [f2.at (by decide) (by decide)]; exact h1 s hs, h2 s hs⟩⟩
  simp (config := { maxSteps := 2000000 }) (disch := omega) only [f82, ux_at, ux_kk, ux_jo, gIx, pIx, pZx, gRx, aIx, sIx, aBx, sBx, lenx, clx, wshS, obS, reduceIte, Nat.one_ne_zero, Nat.zero_ne_one, Nat.reduceEqDiff, not_true_eq_false, not_false_eq_true, Nat.le_refl, ng_le, ng_lt, ng_nle, ng_nlt, ng_eq, ng_eq2, Bool.false_eq_true, lit_nI, nI_add, pk_mul, nI_leI, nI_ltI, nI_eq, e1, e2]
theorem x_unkeep {K : Nat → Wd → Option (Int32 × Wd)} (hn : 500 < n) : f247_H70 n K n 0 (nI 0) (mW J L ru) = K 0 (mW (u2 (u2 J 39 5 (nI 0)) 43 5 (nI 0)) L ru) := by
  obtain ⟨m, rfl⟩ : ∃ z, n = z + 3 := ⟨n - 3, by omega⟩
  have hl := fun y => len_of (I := y) (L := L) (ru := ru) sh_38 (by decide)
  have a0 := fun y => imgR y L ru 0 (by decide)
  have a1 := fun y => imgR y L ru 1 (by decide)
  have z0 := fun y => pZ_of (I := y) (L := L) (ru := ru) (j := 5) (v := nI 0) sh_39 (Or.inl rfl)
  have z1 := fun y => pZ_of (I := y) (L := L) (ru := ru) (j := 5) (v := nI 0) sh_43 (Or.inl rfl)
  have h3 : ∀ W, f247_H70 (m + 3) K (m + 1) 0 (nI 2) W = K 0 W := fun W => by
    simp (config := { maxSteps := 2000000 }) (disch := omega) only [f247_H70, Nat.one_ne_zero, Nat.zero_ne_one, Nat.reduceEqDiff, not_true_eq_false, not_false_eq_true, Nat.le_refl, ng_le, ng_lt, ng_nle, ng_nlt, ng_eq, ng_eq2, Bool.false_eq_true, lit_nI, nI_add, pk_mul, nI_leI, nI_ltI, nI_eq, reduceIte]
  have h2 : ∀ y, f247_H70 (m + 3) K (m + 1 + 1) 0 (nI 1) (mW y L ru) = K 0 (mW (u2 y 43 5 (nI 0)) L ru) := fun y => by
    rw [← h3]
    simp (config := { maxSteps := 2000000 }) (disch := omega) only [f247_H70, ux_at, ux_kk, ux_jo, gIx, pIx, pZx, gRx, aIx, sIx, aBx, sBx, lenx, clx, wshS, obS, reduceIte, Nat.one_ne_zero, Nat.zero_ne_one, Nat.reduceEqDiff, not_true_eq_false, not_false_eq_true, Nat.le_refl, ng_le, ng_lt, ng_nle, ng_nlt, ng_eq, ng_eq2, Bool.false_eq_true, lit_nI, nI_add, pk_mul, nI_leI, nI_ltI, nI_eq, hl, a1, z1, (by decide : ¬ 2 ≤ 1)]
  show f247_H70 (m + 3) K (m + 1 + 1 + 1) 0 (nI 0) (mW J L ru) = _
  rw [← h2]
  simp (config := { maxSteps := 2000000 }) (disch := omega) only [f247_H70, ux_at, ux_kk, ux_jo, gIx, pIx, pZx, gRx, aIx, sIx, aBx, sBx, lenx, clx, wshS, obS, reduceIte, Nat.one_ne_zero, Nat.zero_ne_one, Nat.reduceEqDiff, not_true_eq_false, not_false_eq_true, Nat.le_refl, ng_le, ng_lt, ng_nle, ng_nlt, ng_eq, ng_eq2, Bool.false_eq_true, lit_nI, nI_add, pk_mul, nI_leI, nI_ltI, nI_eq, hl, a0, z0, (by decide : ¬ 2 ≤ 0)]
end
