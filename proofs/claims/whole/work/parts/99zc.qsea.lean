/-! BOTH TOGETHER: sea, the call -/
def txT (A : St) (i : Nat) : Nat := (A 76 i).toNatClampNeg % 256
theorem txT_lt (A : St) : ∀ i, txT A i < 256 := fun _ => Nat.mod_lt _ (by decide)
section
variable {I A : St} {L : Lt} {ru n : Nat}
theorem xt_of (hT : CT I A) (hW : WF A) : XT I (txT A) (txN A) := by
  refine ⟨hT.1, hW.2.2.1.2, fun i hi => ⟨txT_lt A i, ?_⟩⟩
  obtain ⟨b, h1, h2, h3⟩ := hT.2.2 i hi
  have e : txT A i = b := by
    unfold txT
    rw [h2, nI_clamp (by omega), Nat.mod_eq_of_lt h1]
  rw [e]
  exact h3
theorem mt_of (hM : MC I A) (hW : WF A) : MT I (txT A) (txN A) := by
  refine ⟨(hM.1 15 (by decide)).trans hW.2.2.1.1, hW.2.2.1.2, fun i hi => ⟨txT_lt A i, ?_⟩⟩
  obtain ⟨b, h1, h2⟩ := hW.2.2.2.1 i hi
  have e : txT A i = b := by
    unfold txT
    rw [h2, nI_clamp (by omega), Nat.mod_eq_of_lt h1]
  rw [e, hM.2 76 (by decide)]
  exact h2
/-- a text with a fault: nothing but the text has changed -/
theorem inv_fault (hI : INV I A) {I2 : St} {p : Nat} {K F : List Nat} (f3 : Fr K F I I2) (h67 : 67 ∉ K) (hK : ∀ k, k ∈ cpK ++ [48, 47] → k = 1 ∨ k ∉ K) (hK2 : ∀ k, k ∈ mcK ++ [83] → k ∉ K) (hF : ∀ j, j ∈ [0, 1, 3, 4, 5, 6, 37, 56, 60, 34] → j ∉ F) (h15 : I2 67 15 = nI 0) (h16 : I2 67 16 = nI p) (x1 : I2 1 1 = nI 0) (x5 : I2 1 5 = nI p) : INV I2 I2 := by
  sorry
theorem q_sea (hI : INV I A) (hn : 1000 < n) : STEP I L ru (f247 n 0) (f243 n 67) := by
  have hI0 := hI
  have hI9 := hI
  obtain ⟨hM, hW, hC, hX, ⟨hS, hH, hR, hT, hL, hG⟩, sd, hsd, hs1, hs2⟩ := hI9
  have h6 := ns6 hW.1
  have h7 := p2_le (nsN A) (by omega)
  have h4 := nr4 hW
  have hT2 := txT_lt A
  have g0 : Fr [1] [] I (u2 (u2 (u2 I 1 2 (nI 0)) 1 4 (nI 0)) 1 5 (-nI 1)) := ((Fr.rf.u (by decide)).u (by decide)).u (by decide)
  have x0 : XT (u2 (u2 (u2 I 1 2 (nI 0)) 1 4 (nI 0)) 1 5 (-nI 1)) (txT A) (txN A) := by
    obtain ⟨a1, a2, a3⟩ := xt_of hT hW
    refine ⟨(ux_j (by decide)).trans ((ux_j (by decide)).trans ((ux_j (by decide)).trans a1)), a2, fun i hi => ⟨(a3 i hi).1, ?_⟩⟩
    rw [g0.at (by decide) (by decide)]
    exact (a3 i hi).2
  have s0 : TS (u2 (u2 (u2 I 1 2 (nI 0)) 1 4 (nI 0)) 1 5 (-nI 1)) 0 (I 1 3) 0 (-nI 1) := ⟨(ux_j (by decide)).trans ((ux_j (by decide)).trans ux_at), (ux_j (by decide)).trans ((ux_j (by decide)).trans (ux_j (by decide))), (ux_j (by decide)).trans ux_at, ux_at⟩
  have eb : f2 1 (mW I L ru) = some (mW (u2 (u2 (u2 I 1 2 (nI 0)) 1 4 (nI 0)) 1 5 (-nI 1)) L ru) := by
    simp (config := { maxSteps := 2000000 }) (disch := omega) only [f2, ux_at, ux_kk, ux_jo, gIx, pIx, pZx, gRx, aIx, sIx, aBx, sBx, lenx, clx, wshS, obS, reduceIte, Nat.one_ne_zero, Nat.zero_ne_one, Nat.reduceEqDiff, not_true_eq_false, not_false_eq_true, Nat.le_refl, ng_le, ng_lt, ng_nle, ng_nlt, ng_eq, ng_eq2, Bool.false_eq_true, lit_nI, nI_add, pk_mul, nI_leI, nI_ltI, nI_eq]
  generalize u2 (u2 (u2 I 1 2 (nI 0)) 1 4 (nI 0)) 1 5 (-nI 1) = J0 at *
  obtain ⟨J1, f, p, hf, hp, e1, f1, xf, c0, c1, hR⟩ := p_read (L := L) (ru := ru) hT2 hn x0 s0
  have fx : Fr dxK [] I J1 := (g0.mono (by decide) (by decide)).tr f1
  have g2 : Fr dxK [] I (u2 J1 1 1 (nI 0)) := fx.u (by decide)
  have xf2 : (u2 J1 1 1 (nI 0)) 1 4 = nI f := (ux_j (by decide)).trans xf
  have xl2 : (u2 J1 1 1 (nI 0)) 1 1 = nI 0 := ux_at
  have xa2 : (u2 J1 1 1 (nI 0)) 1 5 = J1 1 5 := ux_j (by decide)
  have dr2 : ∀ k, k ≠ 1 → (u2 J1 1 1 (nI 0)) k = J1 k := fun k hk => ux_kk hk
  have g12 : Fr [1] [] J1 (u2 J1 1 1 (nI 0)) := Fr.rf.u (by decide)
  generalize hJ2 : u2 J1 1 1 (nI 0) = J2 at *
  by_cases hf0 : f = 0
  · subst hf0
    sorry
  · have hMT : MT J2 (txT A) (txN A) := mt_of (hM.fr g2 (by decide) (by decide) (by decide)) hW
    obtain ⟨I', L', m1, m2, m3, m4⟩ := hR J2 L ru hMT
    have h0 : ¬ f ≤ 0 := Nat.not_le_of_gt (Nat.pos_of_ne_zero hf0)
    have ex : f247 n 0 (mW I L ru) = some (-nI 10 - nI f, mW J2 L ru) := by
      simp (config := { maxSteps := 2000000 }) (disch := omega) only [f247, ux_at, ux_kk, ux_jo, gIx, pIx, pZx, gRx, aIx, sIx, aBx, sBx, lenx, clx, wshS, obS, reduceIte, Nat.one_ne_zero, Nat.zero_ne_one, Nat.reduceEqDiff, not_true_eq_false, not_false_eq_true, Nat.le_refl, ng_le, ng_lt, ng_nle, ng_nlt, ng_eq, ng_eq2, Bool.false_eq_true, lit_nI, nI_add, pk_mul, nI_leI, nI_ltI, nI_eq, eb, e1, hJ2, xf2, hf0]
    have em : f243 n 67 (mW J2 L ru) = some (-nI 10 - nI f, mW (u2 I' 67 15 (nI 0)) L' ru) := by
      rw [m1]
      simp (config := { maxSteps := 2000000 }) (disch := omega) only [f243_J64, ux_at, ux_kk, ux_jo, gIm, pIm, pZm, gRm, aIm, sIm, aBm, sBm, gLm, pLm, clm, wshS, obS, reduceIte, Nat.one_ne_zero, Nat.zero_ne_one, Nat.reduceEqDiff, not_true_eq_false, not_false_eq_true, Nat.le_refl, ng_le, ng_lt, ng_nle, ng_nlt, ng_eq, ng_eq2, Bool.false_eq_true, lit_nI, nI_add, pk_mul, nI_leI, nI_ltI, nI_eq, h0]
    have f3 : Fr (dxK ++ dmK) (15 :: dmF) I (u2 I' 67 15 (nI 0)) := ((g2.mono (by decide) (by decide)).tr (m2.mono (by decide) (by decide))).uf (by decide)
    have xl3 : (u2 I' 67 15 (nI 0)) 1 = J2 1 := (ux_kk (by decide)).trans (m2.at (by decide) (by decide))
    refine ⟨-nI 10 - nI f, _, _, L', ru, u2 I' 67 15 (nI 0), ex, em, inv_fault hI0 (p := p) f3 (by decide) (by decide) (by decide) (by decide) ux_at ((ux_j (by decide)).trans (m4 hf0)) (by rw [xl3]; exact xl2) (by rw [xl3, xa2]; exact c1 hf0)⟩
end
