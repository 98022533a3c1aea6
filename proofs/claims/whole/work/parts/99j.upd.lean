/-! BOTH TOGETHER: images -/
section
variable {I A : St} {L : Lt} {ru n : Nat}
theorem x_heldBecome {d s : Nat} (hd : nwS d = some (3, 6)) (hs : nwS s = some (3, 6)) (d0 : nwR ru d 0 = some (d + 1)) (d1 : nwR ru d 1 = some (d + 2)) (d2 : nwR ru d 2 = some (d + 3)) (s0 : nwR ru s 0 = some (s + 1)) (s1 : nwR ru s 1 = some (s + 2)) (s2 : nwR ru s 2 = some (s + 3)) (D1 : nwS (d + 1) = some (20, 6)) (D2 : nwS (d + 2) = some (20, 6)) (D3 : nwS (d + 3) = some (20, 40)) (S1 : nwS (s + 1) = some (20, 6)) (S2 : nwS (s + 2) = some (20, 6)) (S3 : nwS (s + 3) = some (20, 40)) (hne : d + 3 < s ∨ s + 3 < d) (hn : 100 < n) :
    ∃ I', f39 n d s (mW I L ru) = some (mW I' L ru) ∧ Fr [d, d + 1, d + 2, d + 3] [] I I' ∧ (∀ j, j ≠ 3 → j ≠ 4 → I' d j = I d j) ∧ I' d 3 = I s 3 ∧ I' d 4 = I s 4 ∧ (∀ j, j < 6 → I' (d + 1) j = I (s + 1) j ∧ I' (d + 2) j = I (s + 2) j) ∧ ∀ j, j < 40 → I' (d + 3) j = I (s + 3) j := by
  have gd0 := fun J : St => gR_of (I := J) (L := L) (ru := ru) hd d0
  have gd1 := fun J : St => gR_of (I := J) (L := L) (ru := ru) hd d1
  have gd2 := fun J : St => gR_of (I := J) (L := L) (ru := ru) hd d2
  have gs0 := fun J : St => gR_of (I := J) (L := L) (ru := ru) hs s0
  have gs1 := fun J : St => gR_of (I := J) (L := L) (ru := ru) hs s1
  have gs2 := fun J : St => gR_of (I := J) (L := L) (ru := ru) hs s2
  have is := fun (J : St) j => gI_of (I := J) (L := L) (ru := ru) (j := j) hs
  have pd := fun (J : St) j v => pI_of (I := J) (L := L) (ru := ru) (j := j) (v := v) hd
  refine lpP (F := fun k i J => f39_H2 n (fun e0 e1 w18 => f39_H40 n (fun e0 e1 w28 => ob (getI w28 3 e1 3) (fun x29 => ob (putI w28 3 e0 3 x29) (fun w31 => ob (getI w31 3 e1 4) (fun x33 => ob (putI w31 3 e0 4 x33) (fun w35 => some w35))))) n e0 e1 (0 : Int32) w18) k d s (nI i) (mW J L ru)) (P := fun x => ∃ I', x = some (mW I' L ru) ∧ Fr [d, d + 1, d + 2, d + 3] [] I I' ∧ (∀ j, j ≠ 3 → j ≠ 4 → I' d j = I d j) ∧ I' d 3 = I s 3 ∧ I' d 4 = I s 4 ∧ (∀ j, j < 6 → I' (d + 1) j = I (s + 1) j ∧ I' (d + 2) j = I (s + 2) j) ∧ ∀ j, j < 40 → I' (d + 3) j = I (s + 3) j) (J := fun i J => Fr [d + 1, d + 2] [] I J ∧ (∀ j, j < i → J (d + 1) j = I (s + 1) j ∧ J (d + 2) j = I (s + 2) j) ∧ (∀ k, k ≠ d + 1 → k ≠ d + 2 → J k = I k)) 6 ?_ ?_ n 0 I (by omega) (by omega) ⟨Fr.rf, fun j hj => absurd hj (Nat.not_lt_zero _), fun _ _ _ => rfl⟩
  · rintro k J1 ⟨a1, a2, a3⟩
    simp (config := { maxSteps := 2000000 }) (disch := omega) only [f39_H2, ux_at, ux_kk, ux_jo, gIx, pIx, pZx, gRx, aIx, sIx, aBx, sBx, lenx, clx, wshS, obS, reduceIte, Nat.one_ne_zero, Nat.zero_ne_one, Nat.reduceEqDiff, not_true_eq_false, not_false_eq_true, Nat.le_refl, ng_le, ng_lt, ng_nle, ng_nlt, ng_eq, ng_eq2, Bool.false_eq_true, lit_nI, nI_add, pk_mul, nI_leI, nI_ltI, nI_eq]
    refine lpP (F := fun k i J => f39_H40 n (fun e0 e1 w28 => ob (getI w28 3 e1 3) (fun x29 => ob (putI w28 3 e0 3 x29) (fun w31 => ob (getI w31 3 e1 4) (fun x33 => ob (putI w31 3 e0 4 x33) (fun w35 => some w35))))) k d s (nI i) (mW J L ru)) (P := fun x => ∃ I', x = some (mW I' L ru) ∧ Fr [d, d + 1, d + 2, d + 3] [] I I' ∧ (∀ j, j ≠ 3 → j ≠ 4 → I' d j = I d j) ∧ I' d 3 = I s 3 ∧ I' d 4 = I s 4 ∧ (∀ j, j < 6 → I' (d + 1) j = I (s + 1) j ∧ I' (d + 2) j = I (s + 2) j) ∧ ∀ j, j < 40 → I' (d + 3) j = I (s + 3) j) (J := fun i J => Fr [d + 3] [] J1 J ∧ (∀ j, j < i → J (d + 3) j = I (s + 3) j) ∧ (∀ k, k ≠ d + 3 → J k = J1 k)) 40 ?_ ?_ n 0 J1 (by omega) (by omega) ⟨Fr.rf, fun j hj => absurd hj (Nat.not_lt_zero _), fun _ _ => rfl⟩
    · rintro k J ⟨b1, b2, b3⟩
      have m1 : [d + 1, d + 2] ⊆ [d, d + 1, d + 2, d + 3] := by simp
      have m2 : [d + 3] ⊆ [d, d + 1, d + 2, d + 3] := by simp
      have m3 : d ∈ [d, d + 1, d + 2, d + 3] := by simp
      have eJs : J s = I s := (b3 s (by omega)).trans (a3 s (by omega) (by omega))
      have eJd : J d = I d := (b3 d (by omega)).trans (a3 d (by omega) (by omega))
      have e0 : ∀ v : Int32, (u2 J d 3 v) s 4 = J s 4 := fun v => ux_k (by omega)
      simp (config := { maxSteps := 2000000 }) (disch := omega) only [f39_H40, ux_at, ux_kk, ux_jo, gIx, pIx, pZx, gRx, aIx, sIx, aBx, sBx, lenx, clx, wshS, obS, reduceIte, Nat.one_ne_zero, Nat.zero_ne_one, Nat.reduceEqDiff, not_true_eq_false, not_false_eq_true, Nat.le_refl, ng_le, ng_lt, ng_nle, ng_nlt, ng_eq, ng_eq2, Bool.false_eq_true, lit_nI, nI_add, pk_mul, nI_leI, nI_ltI, nI_eq, is, pd, e0]
      refine ⟨_, rfl, (((a1.mono (fun k hk => m1 hk) (by decide)).tr (b1.mono (fun k hk => m2 hk) (by decide))).u m3).u m3, fun j h3 h4 => ?_, ?_, ?_, fun j hj => ⟨?_, ?_⟩, fun j hj => ?_⟩
      · exact (ux_j h4).trans ((ux_j h3).trans (congrFun eJd j))
      · exact (ux_j (by decide)).trans (ux_at.trans (congrFun eJs 3))
      · exact ux_at.trans (congrFun eJs 4)
      · refine (ux_k (by omega)).trans ((ux_k (by omega)).trans ?_)
        rw [b3 (d + 1) (by omega)]
        exact (a2 j hj).1
      · refine (ux_k (by omega)).trans ((ux_k (by omega)).trans ?_)
        rw [b3 (d + 2) (by omega)]
        exact (a2 j hj).2
      · refine (ux_k (by omega)).trans ((ux_k (by omega)).trans ?_)
        exact b2 j hj
    · rintro k i J hi ⟨b1, b2, b3⟩ ih
      have hi2 : ¬ 40 ≤ i := by omega
      have e1 := aI_of (I := J) (L := L) (ru := ru) S3 hi (by decide)
      have e2 := fun v => sI_of (I := J) (L := L) (ru := ru) (v := v) D3 hi (by decide)
      simp (config := { maxSteps := 2000000 }) (disch := omega) only [f39_H40, ux_at, ux_kk, ux_jo, gIx, pIx, pZx, gRx, aIx, sIx, aBx, sBx, lenx, clx, wshS, obS, reduceIte, Nat.one_ne_zero, Nat.zero_ne_one, Nat.reduceEqDiff, not_true_eq_false, not_false_eq_true, Nat.le_refl, ng_le, ng_lt, ng_nle, ng_nlt, ng_eq, ng_eq2, Bool.false_eq_true, lit_nI, nI_add, pk_mul, nI_leI, nI_ltI, nI_eq, hi2, gd2, gs2, e1, e2]
      refine ih _ ⟨b1.u (List.mem_singleton.mpr rfl), fun j hj => ?_, fun k hk => (ux_kk hk).trans (b3 k hk)⟩
      rw [ux_if]
      by_cases e : j = i
      · rw [if_pos e, e, b3 (s + 3) (by omega), a3 (s + 3) (by omega) (by omega)]
      · rw [if_neg e]
        exact b2 j (by omega)
  · rintro k i J hi ⟨a1, a2, a3⟩ ih
    have hi2 : ¬ 6 ≤ i := by omega
    have e1 := aI_of (I := J) (L := L) (ru := ru) S1 hi (by decide)
    have e2 := fun v => sI_of (I := J) (L := L) (ru := ru) (v := v) D1 hi (by decide)
    have e3 := aI_of (I := u2 J (d + 1) i (J (s + 1) i)) (L := L) (ru := ru) S2 hi (by decide)
    have e4 := fun v => sI_of (I := u2 J (d + 1) i (J (s + 1) i)) (L := L) (ru := ru) (v := v) D2 hi (by decide)
    have m1 : d + 1 ∈ [d + 1, d + 2] := by simp
    have m2 : d + 2 ∈ [d + 1, d + 2] := by simp
    simp (config := { maxSteps := 2000000 }) (disch := omega) only [f39_H2, lit_nI, Nat.one_ne_zero, Nat.zero_ne_one, Nat.reduceEqDiff, not_true_eq_false, not_false_eq_true, Nat.le_refl, ng_le, ng_lt, ng_nle, ng_nlt, ng_eq, ng_eq2, Bool.false_eq_true, lit_nI, nI_add, pk_mul, nI_leI, nI_ltI, nI_eq, obS, reduceIte, hi2, gd0, gd1, gs0, gs1, e1, e2, e3, e4]
    refine ih _ ⟨(a1.u m1).u m2, fun j hj => ⟨?_, ?_⟩, fun k h1 h2 => (ux_kk h2).trans ((ux_kk h1).trans (a3 k h1 h2))⟩
    · refine (ux_k (by omega)).trans ?_
      rw [ux_if]
      by_cases e : j = i
      · rw [if_pos e, e, a3 (s + 1) (by omega) (by omega)]
      · rw [if_neg e]
        exact (a2 j (by omega)).1
    · rw [ux_if]
      by_cases e : j = i
      · rw [if_pos e, e]
        refine (ux_k (by omega)).trans ?_
        rw [a3 (s + 2) (by omega) (by omega)]
      · rw [if_neg e]
        exact (ux_k (by omega)).trans (a2 j (by omega)).2
theorem img_fac {i : Nat} (hi : i < 2) : nwS (39 + 4 * i) = some (3, 6) ∧ nwR ru (39 + 4 * i) 0 = some (39 + 4 * i + 1) ∧ nwR ru (39 + 4 * i) 1 = some (39 + 4 * i + 2) ∧ nwR ru (39 + 4 * i) 2 = some (39 + 4 * i + 3) ∧ nwS (39 + 4 * i + 1) = some (20, 6) ∧ nwS (39 + 4 * i + 2) = some (20, 6) ∧ nwS (39 + 4 * i + 3) = some (20, 40) := by
  rcases (show i = 0 ∨ i = 1 by omega) with rfl | rfl
  · exact ⟨sh_39, rr_39_0 ru, rr_39_1 ru, rr_39_2 ru, sh_40, sh_41, sh_42⟩
  · exact ⟨sh_43, rr_43_0 ru, rr_43_1 ru, rr_43_2 ru, sh_44, sh_45, sh_46⟩
/-- an image is made, by the reference -/
theorem m_keep (hM : MC I A) (hW : WF A) {i sd : Nat} (hi : i < 2) (hs : I 67 60 = nI sd) (hn : 100 < n) : ∃ I', f133 n 67 (nI i) (mW I L ru) = some (nI 1, mW I' L ru) ∧ Fr [93, 94] [] I I' ∧ (∀ j, I' 94 j = if j = i then nI 1 else A 94 j) ∧ (∀ q, q < 60 * i ∨ 60 * i + 60 ≤ q → I' 93 q = A 93 q) ∧ I' 93 (60 * i) = nI (lgN A) ∧ I' 93 (60 * i + 1) = nI sd ∧ (∀ s, s < 6 → I' 93 (60 * i + 2 + s) = A 72 s ∧ I' 93 (60 * i + 8 + s) = A 73 s) ∧ ∀ k, k < 40 → I' 93 (60 * i + 14 + k) = A 90 k := by
  have hlg := hW.2.2.2.2.2.2.1
  have m93 := hM.2 93 (by decide)
  have key : ∃ I', f133_H43 n (fun e0 e1 e2 w32 => f133_H90 n (fun e0 e1 w42 => ob (getR w42 11 e0 62) (fun x43 => ob (astB w42 x43 e1 (1 : Int32)) (fun w45 => some ((1 : Int32), w45)))) n e0 e1 e2 (0 : Int32) w32) n 67 (nI i) (nI (60 * i)) (nI 0) (mW (u2 (u2 I 93 (60 * i) (nI (lgN A))) 93 (60 * i + 1) (nI sd)) L ru) = some (nI 1, mW I' L ru) ∧ Fr [93, 94] [] I I' ∧ (∀ j, I' 94 j = if j = i then nI 1 else A 94 j) ∧ (∀ q, q < 60 * i ∨ 60 * i + 60 ≤ q → I' 93 q = A 93 q) ∧ I' 93 (60 * i) = nI (lgN A) ∧ I' 93 (60 * i + 1) = nI sd ∧ (∀ s, s < 6 → I' 93 (60 * i + 2 + s) = A 72 s ∧ I' 93 (60 * i + 8 + s) = A 73 s) ∧ ∀ k, k < 40 → I' 93 (60 * i + 14 + k) = A 90 k := by
    refine lpP (F := fun k s J => f133_H43 n (fun e0 e1 e2 w32 => f133_H90 n (fun e0 e1 w42 => ob (getR w42 11 e0 62) (fun x43 => ob (astB w42 x43 e1 (1 : Int32)) (fun w45 => some ((1 : Int32), w45)))) n e0 e1 e2 (0 : Int32) w32) k 67 (nI i) (nI (60 * i)) (nI s) (mW J L ru)) (P := fun x => ∃ I', x = some (nI 1, mW I' L ru) ∧ Fr [93, 94] [] I I' ∧ (∀ j, I' 94 j = if j = i then nI 1 else A 94 j) ∧ (∀ q, q < 60 * i ∨ 60 * i + 60 ≤ q → I' 93 q = A 93 q) ∧ I' 93 (60 * i) = nI (lgN A) ∧ I' 93 (60 * i + 1) = nI sd ∧ (∀ s, s < 6 → I' 93 (60 * i + 2 + s) = A 72 s ∧ I' 93 (60 * i + 8 + s) = A 73 s) ∧ ∀ k, k < 40 → I' 93 (60 * i + 14 + k) = A 90 k) (J := fun t J => Fr [93] [] I J ∧ (∀ q, q < 60 * i ∨ 60 * i + 60 ≤ q → J 93 q = A 93 q) ∧ J 93 (60 * i) = nI (lgN A) ∧ J 93 (60 * i + 1) = nI sd ∧ ∀ s, s < t → J 93 (60 * i + 2 + s) = A 72 s ∧ J 93 (60 * i + 8 + s) = A 73 s) 6 ?_ ?_ n 0 _ (by omega) (by omega) ⟨(Fr.rf.u (by decide)).u (by decide), fun q hq => ?_, ?_, ux_at, fun s hs => absurd hs (Nat.not_lt_zero _)⟩
    · rintro k J ⟨a1, a2, a3, a4, a5⟩
      simp (config := { maxSteps := 2000000 }) (disch := omega) only [f133_H43, ux_at, ux_kk, ux_jo, gIm, pIm, pZm, gRm, aIm, sIm, aBm, sBm, gLm, pLm, clm, wshS, obS, reduceIte, Nat.one_ne_zero, Nat.zero_ne_one, Nat.reduceEqDiff, not_true_eq_false, not_false_eq_true, Nat.le_refl, ng_le, ng_lt, ng_nle, ng_nlt, ng_eq, ng_eq2, Bool.false_eq_true, lit_nI, nI_add, pk_mul, nI_leI, nI_ltI, nI_eq]
      refine lpP (F := fun k s J => f133_H90 n (fun e0 e1 w42 => ob (getR w42 11 e0 62) (fun x43 => ob (astB w42 x43 e1 (nI 1)) (fun w45 => some (nI 1, w45)))) k 67 (nI i) (nI (60 * i)) (nI s) (mW J L ru)) (P := fun x => ∃ I', x = some (nI 1, mW I' L ru) ∧ Fr [93, 94] [] I I' ∧ (∀ j, I' 94 j = if j = i then nI 1 else A 94 j) ∧ (∀ q, q < 60 * i ∨ 60 * i + 60 ≤ q → I' 93 q = A 93 q) ∧ I' 93 (60 * i) = nI (lgN A) ∧ I' 93 (60 * i + 1) = nI sd ∧ (∀ s, s < 6 → I' 93 (60 * i + 2 + s) = A 72 s ∧ I' 93 (60 * i + 8 + s) = A 73 s) ∧ ∀ k, k < 40 → I' 93 (60 * i + 14 + k) = A 90 k) (J := fun t J => Fr [93] [] I J ∧ (∀ q, q < 60 * i ∨ 60 * i + 60 ≤ q → J 93 q = A 93 q) ∧ J 93 (60 * i) = nI (lgN A) ∧ J 93 (60 * i + 1) = nI sd ∧ (∀ s, s < 6 → J 93 (60 * i + 2 + s) = A 72 s ∧ J 93 (60 * i + 8 + s) = A 73 s) ∧ ∀ k, k < t → J 93 (60 * i + 14 + k) = A 90 k) 40 ?_ ?_ n 0 J (by omega) (by omega) ⟨a1, a2, a3, a4, a5, fun s hs => absurd hs (Nat.not_lt_zero _)⟩
      · rintro k J ⟨b1, b2, b3, b4, b5, b6⟩
        have e1 : nI 1 &&& 1 = nI 1 := by decide +kernel
        have e2 := sZ_of (I := J) (L := L) (ru := ru) (v := nI 1) sh_94 hi (by decide)
        rw [e1] at e2
        simp (config := { maxSteps := 2000000 }) (disch := omega) only [f133_H90, ux_at, ux_jo, gIm, pIm, gRm, obS, reduceIte, Nat.one_ne_zero, Nat.zero_ne_one, Nat.reduceEqDiff, not_true_eq_false, not_false_eq_true, Nat.le_refl, ng_le, ng_lt, ng_nle, ng_nlt, ng_eq, ng_eq2, Bool.false_eq_true, lit_nI, nI_add, pk_mul, nI_leI, nI_ltI, nI_eq, e2]
        refine ⟨_, rfl, (b1.mono (by decide) (by decide)).u (by decide), fun j => ?_, fun q hq => (ux_k (by decide)).trans (b2 q hq), (ux_k (by decide)).trans b3, (ux_k (by decide)).trans b4, fun s hs => ⟨(ux_k (by decide)).trans (b5 s hs).1, (ux_k (by decide)).trans (b5 s hs).2⟩, fun k hk => (ux_k (by decide)).trans (b6 k hk)⟩
        rw [ux_if, b1.at (by decide) (by decide), hM.2 94 (by decide)]
      · rintro k t J ht ⟨b1, b2, b3, b4, b5, b6⟩ ih
        have ht2 : ¬ 40 ≤ t := by omega
        have h90 : J 90 t = A 90 t := by rw [b1.at (by decide) (by decide), hM.2 90 (by decide)]
        simp (config := { maxSteps := 2000000 }) (disch := omega) only [f133_H90, ux_at, ux_kk, ux_jo, gIm, pIm, pZm, gRm, aIm, sIm, aBm, sBm, gLm, pLm, clm, wshS, obS, reduceIte, Nat.one_ne_zero, Nat.zero_ne_one, Nat.reduceEqDiff, not_true_eq_false, not_false_eq_true, Nat.le_refl, ng_le, ng_lt, ng_nle, ng_nlt, ng_eq, ng_eq2, Bool.false_eq_true, lit_nI, nI_add, pk_mul, nI_leI, nI_ltI, nI_eq, ht2, h90]
        refine ih _ ⟨b1.u (by decide), fun q hq => (ux_j (by omega)).trans (b2 q hq), (ux_j (by omega)).trans b3, (ux_j (by omega)).trans b4, fun s hs => ⟨(ux_j (by omega)).trans (b5 s hs).1, (ux_j (by omega)).trans (b5 s hs).2⟩, fun k hk => ?_⟩
        rw [ux_if]
        by_cases e : k = t
        · rw [if_pos (by omega), e]
        · rw [if_neg (by omega)]
          exact b6 k (by omega)
    · rintro k t J ht ⟨a1, a2, a3, a4, a5⟩ ih
      have ht2 : ¬ 6 ≤ t := by omega
      have h72 : J 72 t = A 72 t := by rw [a1.at (by decide) (by decide), hM.2 72 (by decide)]
      have h73 : ∀ v, (u2 J 93 (60 * i + 2 + t) v) 73 t = A 73 t := fun v => (ux_k (by decide)).trans (by rw [a1.at (by decide) (by decide), hM.2 73 (by decide)])
      have h73b : J 73 t = A 73 t := by rw [a1.at (by decide) (by decide), hM.2 73 (by decide)]
      simp (config := { maxSteps := 2000000 }) (disch := omega) only [f133_H43, ux_at, ux_kk, ux_jo, gIm, pIm, pZm, gRm, aIm, sIm, aBm, sBm, gLm, pLm, clm, wshS, obS, reduceIte, Nat.one_ne_zero, Nat.zero_ne_one, Nat.reduceEqDiff, not_true_eq_false, not_false_eq_true, Nat.le_refl, ng_le, ng_lt, ng_nle, ng_nlt, ng_eq, ng_eq2, Bool.false_eq_true, lit_nI, nI_add, pk_mul, nI_leI, nI_ltI, nI_eq, ht2, h72, h73, h73b]
      refine ih _ ⟨(a1.u (by decide)).u (by decide), fun q hq => (ux_j (by omega)).trans ((ux_j (by omega)).trans (a2 q hq)), (ux_j (by omega)).trans ((ux_j (by omega)).trans a3), (ux_j (by omega)).trans ((ux_j (by omega)).trans a4), fun s hs => ⟨?_, ?_⟩⟩
      · refine (ux_j (by omega)).trans ?_
        rw [ux_if]
        by_cases e : s = t
        · rw [if_pos (by omega), e]
        · rw [if_neg (by omega)]
          exact (a5 s (by omega)).1
      · rw [ux_if]
        by_cases e : s = t
        · rw [if_pos (by omega), e]
        · rw [if_neg (by omega)]
          exact (ux_j (by omega)).trans (a5 s (by omega)).2
    · refine (ux_j (by omega)).trans ((ux_j (by omega)).trans ?_)
      rw [m93]
    · exact (ux_j (by omega)).trans ux_at
  obtain ⟨I', k1, k2⟩ := key
  refine ⟨I', ?_, k2⟩
  have z := mcA hM
  simp (config := { maxSteps := 2000000 }) (disch := omega) only [f133, ux_at, ux_kk, ux_jo, gIm, pIm, pZm, gRm, aIm, sIm, aBm, sBm, gLm, pLm, clm, wshS, obS, reduceIte, Nat.one_ne_zero, Nat.zero_ne_one, Nat.reduceEqDiff, not_true_eq_false, not_false_eq_true, Nat.le_refl, ng_le, ng_lt, ng_nle, ng_nlt, ng_eq, ng_eq2, Bool.false_eq_true, lit_nI, nI_add, pk_mul, nI_leI, nI_ltI, nI_eq, lit_lN, s40i, mcA hM, hlg.1, hs]
  exact k1
end
