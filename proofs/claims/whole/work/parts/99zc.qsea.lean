/-! BOTH TOGETHER: sea, the call -/
def txT (A : St) (i : Nat) : Nat := (A 76 i).toNatClampNeg % 256
theorem txT_lt (A : St) : ∀ i, txT A i < 256 := fun _ => Nat.mod_lt _ (by decide)
section
variable {I A : St} {L : Lt} {ru n : Nat}
theorem xt_of (hT : CT I A) (hW : WF A) : XT I (txT A) (txN A) := by
  refine ⟨hT.1, hW.2.2.1.2, fun i hi => ⟨txT_lt A i, ?_⟩⟩
  obtain ⟨b, h1, h2, h3⟩ := hT.2.2 i hi
  have e : txT A i = b := by
    unfold txT
    rw [h2, nI_clamp (by omega), Nat.mod_eq_of_lt h1]
  rw [e]
  exact h3
theorem mt_of (hM : MC I A) (hW : WF A) : MT I (txT A) (txN A) := by
  refine ⟨(hM.1 15 (by decide)).trans hW.2.2.1.1, hW.2.2.1.2, fun i hi => ⟨txT_lt A i, ?_⟩⟩
  obtain ⟨b, h1, h2⟩ := hW.2.2.2.1 i hi
  have e : txT A i = b := by
    unfold txT
    rw [h2, nI_clamp (by omega), Nat.mod_eq_of_lt h1]
  rw [e, hM.2 76 (by decide)]
  exact h2
/-- a text with a fault: nothing but the text has changed -/
theorem inv_fault (hI : INV I A) {I2 : St} {p : Nat} {K F : List Nat} (f3 : Fr K F I I2) (h67 : 67 ∉ K) (hK : ∀ k, k ∈ cpK ++ [48, 47] → k = 1 ∨ k ∉ K) (hK2 : ∀ k, k ∈ mcK ++ [82, 83] → k ∉ K) (hF : ∀ j, j ∈ [0, 1, 3, 4, 5, 6, 37, 56, 60, 34] → j ∉ F) (h15 : I2 67 15 = nI 0) (h16 : I2 67 16 = nI p) (x1 : I2 1 1 = nI 0) (x5 : I2 1 5 = nI p) : INV I2 I2 := by
  have hI9 := hI
  obtain ⟨hM, hW, hC, hX, ⟨hS, hH, hR, hT, hL, hG⟩, sd, hsd, hs1, hs2⟩ := hI9
  have h6 := ns6 hW.1
  have h7 := p2_le (nsN A) (by omega)
  have h4 := nr4 hW
  have nk : ∀ k, k ∈ cpK ++ [48, 47] → k ≠ 1 → k ∉ K := fun k hk hne => (hK k hk).resolve_left hne
  have g := agw_of hM f3 h67 (fun j hj => hF j ((show ∀ j, j ∈ [0, 1, 3, 4, 5, 6] → j ∈ [0, 1, 3, 4, 5, 6, 37, 56, 60, 34] by decide) j hj)) (fun k hk => hK2 k ((show ∀ k, k ∈ [68, 69, 70, 74, 75, 72, 73] → k ∈ mcK ++ [82, 83] by decide) k hk))
  have e37 := mc_f hM f3 h67 (j := 37) (by decide) (hF _ (by decide))
  have e56 := mc_f hM f3 h67 (j := 56) (by decide) (hF _ (by decide))
  have kr := mc_k hM f3 (k := 84) (by decide) (hK2 _ (by decide))
  have kl := mc_k hM f3 (k := 90) (by decide) (hK2 _ (by decide))
  have ki := mc_k hM f3 (k := 93) (by decide) (hK2 _ (by decide))
  have kk := mc_k hM f3 (k := 94) (by decide) (hK2 _ (by decide))
  have s60 : I2 67 60 = nI sd := (f3.f h67 (hF _ (by decide))).trans hs1
  have s34 : I2 34 4 = nI sd := by rw [f3.at (nk _ (by decide) (by decide)) (by decide)]; exact hs2
  have t2 : txN I2 = 0 := by
    unfold txN
    rw [h15]
    decide +kernel
  have cs2 : CS I2 A := hS.fr hW.1 f3 fun k hk => nk k (List.mem_append_left _ (List.mem_append_left _ hk)) (fun e => by subst e; exact absurd hk (by decide))
  have cr2 : CR I2 A := by
    refine ⟨by rw [f3.at (nk 0 (by decide) (by decide)) (by decide)]; exact hR.1, fun r hr => ?_⟩
    have hr4 : r = 0 ∨ r = 1 ∨ r = 2 ∨ r = 3 := by omega
    have := hR.2 r hr
    rcases hr4 with rfl | rfl | rfl | rfl
    · exact this.fr f3 (nk _ (by decide) (by decide)) (by decide)
    · exact this.fr f3 (nk _ (by decide) (by decide)) (by decide)
    · exact this.fr f3 (nk _ (by decide) (by decide)) (by decide)
    · exact this.fr f3 (nk _ (by decide) (by decide)) (by decide)
  have ci2 : CI I2 A := by
    intro i hi
    have := hG i hi
    rcases (show i = 0 ∨ i = 1 by omega) with rfl | rfl
    · rw [f3.at (k := 39 + 4 * 0) (nk _ (by decide) (by decide)) (by decide), f3.at (k := 40 + 4 * 0) (nk _ (by decide) (by decide)) (by decide), f3.at (k := 41 + 4 * 0) (nk _ (by decide) (by decide)) (by decide), f3.at (k := 42 + 4 * 0) (nk _ (by decide) (by decide)) (by decide)]
      exact this
    · rw [f3.at (k := 39 + 4 * 1) (nk _ (by decide) (by decide)) (by decide), f3.at (k := 40 + 4 * 1) (nk _ (by decide) (by decide)) (by decide), f3.at (k := 41 + 4 * 1) (nk _ (by decide) (by decide)) (by decide), f3.at (k := 42 + 4 * 1) (nk _ (by decide) (by decide)) (by decide)]
      exact this
  have ca2 : CA I2 A := hC.fr f3 (by first | exact h67 | exact hK2 83 (by decide) | exact hK2 82 (by decide) | exact hF 34 (by decide)) (by first | exact h67 | exact hK2 83 (by decide) | exact hK2 82 (by decide) | exact hF 34 (by decide)) (by first | exact h67 | exact hK2 83 (by decide) | exact hK2 82 (by decide) | exact hF 34 (by decide))
  refine ⟨MC.rf, ⟨ag_wf g.1 hW.1, wf_way g hW.2, ⟨by rw [h15, t2], by omega⟩, fun i hi => ?_, wf_nr e37 hW.2, wf_ru e37 kr hW.2, wf_lg e56 hW.2, ⟨sd, hsd, s60⟩, wf_im g.1 kk ki hW.2⟩, ag_ca g ca2, ag_cx g (hX.fr f3 (nk _ (by decide) (by decide)) (nk _ (by decide) (by decide))), ⟨ag_cs g.1 cs2, ag_ch g (hH.fr f3 (nk _ (by decide) (by decide)) (nk _ (by decide) (by decide))), cr_ag e37 kr cr2, ⟨by rw [t2]; exact x1, by rw [h16]; exact x5, fun i hi => ?_⟩, cl_ag e56 kl (hL.of (by rw [f3.at (nk _ (by decide) (by decide)) (by decide)]) (f3.at (nk _ (by decide) (by decide)) (by decide))), ci_ag g.1 kk ki ci2⟩, sd, hsd, s60, s34⟩
  · rw [t2] at hi
    exact absurd hi (Nat.not_lt_zero _)
  · rw [t2] at hi
    exact absurd hi (Nat.not_lt_zero _)
theorem q_sea (hI : INV I A) (hn : 1000 < n) : STEP I L ru (f247 n 0) (f243 n 67) := by
  have hI0 := hI
  have hI9 := hI
  obtain ⟨hM, hW, hC, hX, ⟨hS, hH, hR, hT, hL, hG⟩, sd, hsd, hs1, hs2⟩ := hI9
  have h6 := ns6 hW.1
  have h7 := p2_le (nsN A) (by omega)
  have h4 := nr4 hW
  have hT2 := txT_lt A
  have g0 : Fr [1] [] I (u2 (u2 (u2 I 1 2 (nI 0)) 1 4 (nI 0)) 1 5 (-nI 1)) := ((Fr.rf.u (by decide)).u (by decide)).u (by decide)
  have x0 : XT (u2 (u2 (u2 I 1 2 (nI 0)) 1 4 (nI 0)) 1 5 (-nI 1)) (txT A) (txN A) := by
    obtain ⟨a1, a2, a3⟩ := xt_of hT hW
    refine ⟨(ux_j (by decide)).trans ((ux_j (by decide)).trans ((ux_j (by decide)).trans a1)), a2, fun i hi => ⟨(a3 i hi).1, ?_⟩⟩
    rw [g0.at (by decide) (by decide)]
    exact (a3 i hi).2
  have s0 : TS (u2 (u2 (u2 I 1 2 (nI 0)) 1 4 (nI 0)) 1 5 (-nI 1)) 0 (I 1 3) 0 (-nI 1) := ⟨(ux_j (by decide)).trans ((ux_j (by decide)).trans ux_at), (ux_j (by decide)).trans ((ux_j (by decide)).trans (ux_j (by decide))), (ux_j (by decide)).trans ux_at, ux_at⟩
  have eb : f2 1 (mW I L ru) = some (mW (u2 (u2 (u2 I 1 2 (nI 0)) 1 4 (nI 0)) 1 5 (-nI 1)) L ru) := by
    simp (config := { maxSteps := 2000000 }) (disch := omega) only [f2, ux_at, ux_kk, ux_jo, gIx, pIx, pZx, gRx, aIx, sIx, aBx, sBx, lenx, clx, wshS, obS, reduceIte, Nat.one_ne_zero, Nat.zero_ne_one, Nat.reduceEqDiff, not_true_eq_false, not_false_eq_true, Nat.le_refl, ng_le, ng_lt, ng_nle, ng_nlt, ng_eq, ng_eq2, Bool.false_eq_true, lit_nI, nI_add, pk_mul, nI_leI, nI_ltI, nI_eq]
  generalize u2 (u2 (u2 I 1 2 (nI 0)) 1 4 (nI 0)) 1 5 (-nI 1) = J0 at *
  have hR' := hR
  obtain ⟨J1, f, p, hf, hp, e1, f1, xf, c0, c1, hR⟩ := p_read (L := L) (ru := ru) hT2 hn x0 s0
  have fx : Fr dxK [] I J1 := (g0.mono (by decide) (by decide)).tr f1
  have g2 : Fr dxK [] I (u2 J1 1 1 (nI 0)) := fx.u (by decide)
  have xf2 : (u2 J1 1 1 (nI 0)) 1 4 = nI f := (ux_j (by decide)).trans xf
  have xl2 : (u2 J1 1 1 (nI 0)) 1 1 = nI 0 := ux_at
  have xa2 : (u2 J1 1 1 (nI 0)) 1 5 = J1 1 5 := ux_j (by decide)
  have dr2 : ∀ k, k ≠ 1 → (u2 J1 1 1 (nI 0)) k = J1 k := fun k hk => ux_kk hk
  have g12 : Fr [1] [] J1 (u2 J1 1 1 (nI 0)) := Fr.rf.u (by decide)
  generalize hJ2 : u2 J1 1 1 (nI 0) = J2 at *
  by_cases hf0 : f = 0
  · subst hf0
    obtain ⟨fa, d1, k, hk, hsh, hrk⟩ := c0 rfl
    have d2 : DrK J2 := d1.fr g12 (by decide)
    have so2 : soD J2 = soD J1 := by unfold soD; rw [dr2 15 (by decide)]
    have h66 := d2.2.2.2.2.1.2
    obtain ⟨J3, e3, o1, o2, o3, o4, o5, o6⟩ := x_settle (L := L) (ru := ru) (n := n) d2 (by omega)
    have r3 : J3 26 = J2 26 := o1.at (by decide) (by decide)
    obtain ⟨J4, e4, f4, b1, b2, b3⟩ := x_become (J := J3) (L := L) (ru := ru) (n := n) (by rw [r3]; exact d2.2.2.2.2.2.1) (by omega)
    obtain ⟨J5, e5, f5, p5⟩ := x_plain (J := J4) (L := L) (ru := ru) (n := n) hn
    have e6 := x_unkeep (J := J5) (L := L) (ru := ru) (n := n) (K := fun e0 w43 => f247_J100 n e0 w43) (by omega)
    have ex : f247 n 0 (mW I L ru) = some ((u2 (u2 (u2 J5 39 5 (nI 0)) 43 5 (nI 0)) 47 2 (nI 0)) 3 5, mW (u2 (u2 (u2 J5 39 5 (nI 0)) 43 5 (nI 0)) 47 2 (nI 0)) L ru) := by
      simp (config := { maxSteps := 2000000 }) (disch := omega) only [f247, ux_at, ux_kk, ux_jo, gIx, pIx, pZx, gRx, aIx, sIx, aBx, sBx, lenx, clx, wshS, obS, reduceIte, Nat.one_ne_zero, Nat.zero_ne_one, Nat.reduceEqDiff, not_true_eq_false, not_false_eq_true, Nat.le_refl, ng_le, ng_lt, ng_nle, ng_nlt, ng_eq, ng_eq2, Bool.false_eq_true, lit_nI, nI_add, pk_mul, nI_leI, nI_ltI, nI_eq, eb, e1, hJ2, xf2, e3, e4, e5, e6]
      simp (config := { maxSteps := 2000000 }) (disch := omega) only [f247_J100, ux_at, ux_kk, ux_jo, gIx, pIx, pZx, gRx, aIx, sIx, aBx, sBx, lenx, clx, wshS, obS, reduceIte, Nat.one_ne_zero, Nat.zero_ne_one, Nat.reduceEqDiff, not_true_eq_false, not_false_eq_true, Nat.le_refl, ng_le, ng_lt, ng_nle, ng_nlt, ng_eq, ng_eq2, Bool.false_eq_true, lit_nI, nI_add, pk_mul, nI_leI, nI_ltI, nI_eq]
    have f6 : Fr [39, 43, 47] [] J5 (u2 (u2 (u2 J5 39 5 (nI 0)) 43 5 (nI 0)) 47 2 (nI 0)) := ((Fr.rf.u (by decide)).u (by decide)).u (by decide)
    have q39 : (u2 (u2 (u2 J5 39 5 (nI 0)) 43 5 (nI 0)) 47 2 (nI 0)) 39 5 = nI 0 := (ux_k (by decide)).trans ((ux_k (by decide)).trans ux_at)
    have q43 : (u2 (u2 (u2 J5 39 5 (nI 0)) 43 5 (nI 0)) 47 2 (nI 0)) 43 5 = nI 0 := (ux_k (by decide)).trans ux_at
    have q47 : (u2 (u2 (u2 J5 39 5 (nI 0)) 43 5 (nI 0)) 47 2 (nI 0)) 47 2 = nI 0 := ux_at
    generalize u2 (u2 (u2 J5 39 5 (nI 0)) 43 5 (nI 0)) 47 2 (nI 0) = J7 at *
    have f47 : Fr [35, 36, 39, 43, 47] [] J4 J7 := (f5.mono (by decide) (by decide)).tr (f6.mono (by decide) (by decide))
    have g7 : Fr (dxK ++ (sK ++ (csK ++ [35, 36, 39, 43, 47]))) [] I J7 := (((g2.mono (by decide) (by decide)).tr (o1.mono (by decide) (by decide))).tr (f4.mono (by decide) (by decide))).tr (f47.mono (by decide) (by decide))
    have hMT : MT J7 (txT A) (txN A) := mt_of (hM.fr g7 (by decide) (by decide) (by decide)) hW
    obtain ⟨I', L', m1, m2, m3, m4⟩ := hR J7 L ru hMT
    obtain ⟨m5, m6⟩ := m3 rfl
    have gt : Fr [] [15] I' (u2 I' 67 15 (nI 0)) := Fr.rf.uf (by decide)
    have t15 : (u2 I' 67 15 (nI 0)) 67 15 = nI 0 := ux_at
    have t16 : (u2 I' 67 15 (nI 0)) 67 16 = -nI 1 := (ux_j (by decide)).trans m5
    have em1 : f243 n 67 (mW J7 L ru) = ob (f163 n 67 (mW (u2 I' 67 15 (nI 0)) L' ru)) (fun p18 => ob (getI p18 11 67 6) (fun x20 => some (x20, p18))) := by
      rw [m1]
      simp (config := { maxSteps := 2000000 }) (disch := omega) only [f243_J64, ux_at, ux_kk, ux_jo, gIm, pIm, pZm, gRm, aIm, sIm, aBm, sBm, gLm, pLm, clm, wshS, obS, reduceIte, Nat.one_ne_zero, Nat.zero_ne_one, Nat.reduceEqDiff, not_true_eq_false, not_false_eq_true, Nat.le_refl, ng_le, ng_lt, ng_nle, ng_nlt, ng_eq, ng_eq2, Bool.false_eq_true, lit_nI, nI_add, pk_mul, nI_leI, nI_ltI, nI_eq]
    have m7 : RDr (u2 I' 67 15 (nI 0)) J2 (soD J2) := by
      rw [so2]
      exact (m6.x d1.2.2.2.2.1.2 g12 (by decide)).m gt (by decide) (by decide)
    have gI1 : Fr (dmK ++ kK) (15 :: (dmF ++ kF)) J7 (u2 I' 67 15 (nI 0)) := (m2.mono (by decide) (by decide)).tr (gt.mono (by decide) (by decide))
    generalize u2 I' 67 15 (nI 0) = I1 at *
    obtain ⟨I2, w1, w2, w3, w4, w5, w6, w7, w8, w9, w10, w11, w12, w13⟩ := m_keepSea (L := L') (ru := ru) (n := n) d2 m7 (by omega)
    have em : f243 n 67 (mW J7 L ru) = some (nI (soD J2), mW I2 L' ru) := by
      rw [em1]
      simp (config := { maxSteps := 2000000 }) (disch := omega) only [ux_at, ux_kk, ux_jo, gIm, pIm, pZm, gRm, aIm, sIm, aBm, sBm, gLm, pLm, clm, wshS, obS, reduceIte, w1, w8]
    have fm : Fr (dmK ++ kK) (15 :: (dmF ++ kF)) J7 I2 := gI1.tr (w2.mono (by decide) (by decide))
    have f3 : Fr (dxK ++ (sK ++ (csK ++ ([35, 36, 39, 43, 47] ++ (dmK ++ kK))))) (15 :: (dmF ++ kF)) I I2 := (g7.mono (by decide) (by decide)).tr (fm.mono (by decide) (by decide))
    -- the class's sea
    have x3 : ∀ j, j < 8 → I2 3 j = J3 15 j := fun j hj => by
      rw [fm.at (by decide) (by decide), f47.at (by decide) (by decide)]
      exact b1 j hj
    have x14 : ∀ c, c < 64 → I2 14 c = J2 26 c := fun c hc => by
      rw [fm.at (by decide) (by decide), f47.at (by decide) (by decide), b2 c hc, r3]
    have ans : J7 3 5 = nI (soD J2) := by
      rw [f47.at (by decide) (by decide), b1 5 (by decide), o2 5 (by decide) (by decide)]
      exact d2.2.2.2.2.1.1
    obtain ⟨r1, r2, rdr, rlg, -, -, -, -⟩ := m7
    have ns : nsN I2 = soD J2 := by
      unfold nsN
      rw [w8, nI_clamp (by omega)]
    have hsh2 : J2 15 0 = nI k := by rw [dr2 _ (by decide)]; exact hsh
    have i0 : I2 67 0 = nI k := w3.trans (r1.trans hsh2)
    have sh : shN I2 = k := by
      unfold shN
      rw [i0, nI_clamp (by omega)]
    obtain ⟨hd, hhd, hhe⟩ := d2.2.1
    have i1 : I2 67 1 = nI hd := w4.trans (r2.trans hhe)
    have hdE : hdN I2 = hd := by
      unfold hdN
      rw [i1, nI_clamp (by omega)]
    obtain ⟨lg, hlg, hle⟩ := d2.2.2.2.1
    have i5 : I2 67 5 = nI lg := w7.trans (rlg.trans hle)
    have lgE : lagN I2 = lg := by
      unfold lagN
      rw [i5, nI_clamp (by omega)]
    have rkE : ∀ c, c < 64 → rkN I2 c = rkD J2 c := fun c hc => by
      unfold rkN rkD
      rw [w9 c hc]
    have peE : ∀ s, s < soD J2 → perN I2 s = peD J2 s := fun s hs => by
      unfold perN peD
      rw [(w10 s hs).1]
    have drE : (I2 67 4 = -1 ∧ I2 67 3 = -1 ∧ dEv I2 = 0 ∧ J2 15 3 = nI 0) ∨ ∃ e d, 1 ≤ e ∧ e ≤ 9 ∧ d < 8 ∧ I2 67 4 = nI e ∧ I2 67 3 = nI d ∧ dEv I2 = e ∧ dHd I2 = d ∧ J2 15 3 = nI e ∧ J2 15 2 = nI d := by
      rcases rdr with ⟨a1, a2, a3⟩ | ⟨a1, a2, a3⟩
      · refine Or.inl ⟨w6.trans a2, w5.trans a3, ?_, a1⟩
        unfold dEv
        rw [w6, a2]
        decide +kernel
      · rcases d2.2.2.1 with z | ⟨e, d, h1, h2, h3, h4, h5⟩
        · exact absurd z a1
        · refine Or.inr ⟨e, d, h1, h2, h3, (w6.trans a2).trans h4, (w5.trans a3).trans h5, ?_, ?_, h4, h5⟩
          · unfold dEv
            rw [w6, a2, h4, nI_clamp (by omega)]
          · unfold dHd
            rw [w5, a3, h5, nI_clamp (by omega)]
    have glE : ∀ s, gN (rkD J2) (wsD J2 s) 64 = 64 ∨ gN (rkD J2) (wsD J2 s) 64 < 64 := fun s => gN_le _ _ 64 (Nat.le_refl _)
    have wfs : WFs I2 := by
      refine ⟨⟨by rw [ns]; exact w8, by rw [ns]; exact h66⟩, ⟨by rw [sh]; exact i0, by rw [sh]; exact hk⟩, ⟨by rw [hdE]; exact i1, by rw [hdE]; exact hhd⟩, ?_, ⟨by rw [lgE]; exact i5, by rw [lgE]; exact hlg⟩, fun s hs => ?_, fun c hc => ?_, ?_, fun s hs c hc => ?_, fun s hs => ?_⟩
      · rcases drE with ⟨a1, a2, -, -⟩ | ⟨e, d, h1, h2, h3, h4, h5, h6, h7, -, -⟩
        · exact Or.inl ⟨a1, a2⟩
        · exact Or.inr ⟨by rw [h6]; exact h4, by rw [h7]; exact h5, by omega, by omega, by omega⟩
      · rw [ns] at hs
        rw [peE s hs, (w10 s hs).1]
        exact peD_is d2 hs
      · rw [rkE c hc, w9 c hc]
        exact rkD_01 d2 hc
      · rw [sh, rkE k hk]
        unfold rkD
        rw [dr2 _ (by decide), hrk]
        decide +kernel
      · rw [ns] at hs
        rw [(w10 s hs).2.2.2.2.2 c hc, rkE c hc]
        exact ws_ok d2 hs hc
      · rw [ns] at hs
        rw [(w10 s hs).2.2.2.2.1]
        rcases glE s with e | e
        · rw [e, gI_64]
          exact Or.inl rfl
        · rw [gI_lt e]
          exact Or.inr ⟨_, e, rfl⟩
    have t2 : txN I2 = 0 := by
      unfold txN
      rw [w2.f (by decide) (by decide), t15]
      decide +kernel
    have e37 := mc_f hM f3 (by decide) (j := 37) (by decide) (by decide)
    have e56 := mc_f hM f3 (by decide) (j := 56) (by decide) (by decide)
    have kr := mc_k hM f3 (k := 84) (by decide) (by decide)
    have kl := mc_k hM f3 (k := 90) (by decide) (by decide)
    have s60 : I2 67 60 = nI sd := (f3.f (by decide) (by decide)).trans hs1
    have s34 : I2 34 4 = nI sd := by rw [f3.at (by decide) (by decide)]; exact hs2
    have hkept : ∀ i, i < 2 → I2 94 i = nI 0 := fun i hi => by
      rcases (show i = 0 ∨ i = 1 by omega) with rfl | rfl
      · exact w11
      · exact w12
    have wfr : WFr I2 := by
      refine ⟨fun s hs => ?_, ⟨?_, by omega⟩, fun i hi => ?_, wf_nr e37 hW.2, wf_ru e37 kr hW.2, wf_lg e56 hW.2, ⟨sd, hsd, s60⟩, fun i hi => Or.inl (hkept i hi)⟩
      · rw [ns] at hs
        rw [(w10 s hs).2.2.1, (w10 s hs).2.2.2.1]
        exact Or.inl ⟨rfl, rfl⟩
      · rw [t2, w2.f (by decide) (by decide)]
        exact t15
      · rw [t2] at hi
        exact absurd hi (Nat.not_lt_zero _)
    have p7 : ∀ s, s < 6 → I2 35 s = nI 0 ∧ I2 36 s = nI 0 := fun s hs => by
      rw [fm.at (k := 35) (by decide) (by decide), fm.at (k := 36) (by decide) (by decide), f6.at (k := 35) (by decide) (by decide), f6.at (k := 36) (by decide) (by decide)]
      exact p5 s hs
    have xt7 : I2 1 = J2 1 := by
      rw [fm.at (by decide) (by decide), f47.at (by decide) (by decide), f4.at (by decide) (by decide), o1.at (by decide) (by decide)]
    rw [ans] at ex
    refine ⟨nI (soD J2), _, I2, L', ru, I2, ex, em, rfl, MC.rf, ⟨wfs, wfr⟩, Or.inl w13, Or.inl (by rw [fm.at (by decide) (by decide)]; exact q47), ⟨?_, ⟨fun s hs => ?_, fun s h1 h2 => (p7 s h2).1⟩, cr_ag e37 kr (hR'.fr h4 f3 (by decide)), ⟨by rw [t2, xt7]; exact xl2, ?_, fun i hi => ?_⟩, cl_ag e56 kl (hL.of (by rw [f3.at (by decide) (by decide)]) (f3.at (by decide) (by decide))), fun i hi => ⟨?_, fun z => ?_⟩⟩, sd, hsd, s60, s34⟩
    · -- the sea alike
      unfold CS
      rw [ns, sh, hdE, lgE]
      refine ⟨?_, ?_, ?_, ?_, ?_, ?_, ?_, ?_, fun s hs => ?_, fun s hs => ?_, fun s hs => ?_, fun s c hs hc => ?_, fun c hc => ?_⟩
      · rw [x3 0 (by decide), o2 0 (by decide) (by decide)]; exact hsh2
      · rw [x3 1 (by decide), o2 1 (by decide) (by decide)]; exact hhe
      · rw [x3 3 (by decide), o2 3 (by decide) (by decide)]
        rcases drE with ⟨-, -, a3, a4⟩ | ⟨e, d, h1, h2, h3, h4, h5, h6, h7, h8, h9⟩
        · rw [a3]; exact a4
        · rw [h6]; exact h8
      · intro z
        rw [x3 2 (by decide), o2 2 (by decide) (by decide)]
        rcases drE with ⟨-, -, a3, a4⟩ | ⟨e, d, h1, h2, h3, h4, h5, h6, h7, h8, h9⟩
        · exact absurd a3 z
        · rw [h7]; exact h9
      · rw [x3 4 (by decide), o2 4 (by decide) (by decide)]; exact hle
      · rw [x3 5 (by decide), o2 5 (by decide) (by decide)]; exact d2.2.2.2.2.1.1
      · rw [x3 6 (by decide), o3]
        unfold allN
        rw [ns, sumN_congr peE]
      · rw [x3 7 (by decide), o4, sumN_congr rkE]
      · rw [fm.at (by decide) (by decide), f47.at (by decide) (by decide), (b3 s (by omega)).1, o1.at (by decide) (by decide), (w10 s hs).1]
      · rw [fm.at (by decide) (by decide), f47.at (by decide) (by decide), (b3 s (by omega)).2.1, o1.at (by decide) (by decide), (w10 s hs).2.1]
      · rw [fm.at (by decide) (by decide), f47.at (by decide) (by decide), (b3 s (by omega)).2.2.1, (o5 s hs).1, (w10 s hs).2.2.2.2.1]
      · rw [fm.at (k := 8 + s) (by simp; omega) (by omega), f47.at (k := 8 + s) (by simp; omega) (by omega), (b3 s (by omega)).2.2.2 c hc, (o5 s hs).2 c hc, (w10 s hs).2.2.2.2.2 c hc]
      · rw [x14 c hc, rkE c hc]
        exact (rkD_01 d2 hc).1
    · rw [ns] at hs
      rw [(p7 s (by omega)).1, (p7 s (by omega)).2, (w10 s hs).2.2.1, (w10 s hs).2.2.2.1]
      exact ⟨rfl, rfl⟩
    · rw [xt7, xa2, fa, w2.f (by decide) (by decide), t16]
    · rw [t2] at hi
      exact absurd hi (Nat.not_lt_zero _)
    · rw [hkept i hi]
      rcases (show i = 0 ∨ i = 1 by omega) with rfl | rfl
      · rw [fm.at (by decide) (by decide)]
        exact q39
      · rw [fm.at (by decide) (by decide)]
        exact q43
    · rw [hkept i hi] at z
      exact absurd z (by decide +kernel)
  · have hMT : MT J2 (txT A) (txN A) := mt_of (hM.fr g2 (by decide) (by decide) (by decide)) hW
    obtain ⟨I', L', m1, m2, m3, m4⟩ := hR J2 L ru hMT
    have h0 : ¬ f ≤ 0 := Nat.not_le_of_gt (Nat.pos_of_ne_zero hf0)
    have ex : f247 n 0 (mW I L ru) = some (-nI 10 - nI f, mW J2 L ru) := by
      simp (config := { maxSteps := 2000000 }) (disch := omega) only [f247, ux_at, ux_kk, ux_jo, gIx, pIx, pZx, gRx, aIx, sIx, aBx, sBx, lenx, clx, wshS, obS, reduceIte, Nat.one_ne_zero, Nat.zero_ne_one, Nat.reduceEqDiff, not_true_eq_false, not_false_eq_true, Nat.le_refl, ng_le, ng_lt, ng_nle, ng_nlt, ng_eq, ng_eq2, Bool.false_eq_true, lit_nI, nI_add, pk_mul, nI_leI, nI_ltI, nI_eq, eb, e1, hJ2, xf2, hf0]
    have em : f243 n 67 (mW J2 L ru) = some (-nI 10 - nI f, mW (u2 I' 67 15 (nI 0)) L' ru) := by
      rw [m1]
      simp (config := { maxSteps := 2000000 }) (disch := omega) only [f243_J64, ux_at, ux_kk, ux_jo, gIm, pIm, pZm, gRm, aIm, sIm, aBm, sBm, gLm, pLm, clm, wshS, obS, reduceIte, Nat.one_ne_zero, Nat.zero_ne_one, Nat.reduceEqDiff, not_true_eq_false, not_false_eq_true, Nat.le_refl, ng_le, ng_lt, ng_nle, ng_nlt, ng_eq, ng_eq2, Bool.false_eq_true, lit_nI, nI_add, pk_mul, nI_leI, nI_ltI, nI_eq, h0]
    have f3 : Fr (dxK ++ dmK) (15 :: dmF) I (u2 I' 67 15 (nI 0)) := ((g2.mono (by decide) (by decide)).tr (m2.mono (by decide) (by decide))).uf (by decide)
    have xl3 : (u2 I' 67 15 (nI 0)) 1 = J2 1 := (ux_kk (by decide)).trans (m2.at (by decide) (by decide))
    refine ⟨-nI 10 - nI f, _, _, L', ru, u2 I' 67 15 (nI 0), ex, em, rfl, inv_fault hI0 (p := p) f3 (by decide) (by decide) (by decide) (by decide) ux_at ((ux_j (by decide)).trans (m4 hf0)) (by rw [xl3]; exact xl2) (by rw [xl3, xa2]; exact c1 hf0)⟩
end
