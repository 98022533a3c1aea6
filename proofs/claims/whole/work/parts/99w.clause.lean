/-! TEXTS: a clause on both sides -/
theorem told_t {I J : St} {k t' : Nat} (h : RDr I J k) (h1 : J 27 2 = nI t') (h2 : t' < 16) : ∃ t, t < 32 ∧ I 67 33 = nI t ∧ t % 16 = t' := by
  obtain ⟨b1, b2, b3, b4, b5, ⟨t, c1, c2, c3⟩, b7⟩ := h
  refine ⟨t, c1, c2, ?_⟩
  rw [h1] at c3
  exact ((nI_eq (by omega) (by omega)).mp c3).symm
theorem DrK.put {J J' : St} (h : DrK J) (f : Fr [1, 15] [] J J') (h1 : ∃ k, k < 64 ∧ J' 15 0 = nI k) (h2 : ∃ k, k < 8 ∧ J' 15 1 = nI k) (h3 : J' 15 3 = nI 0 ∨ ∃ e d, 1 ≤ e ∧ e ≤ 9 ∧ d < 8 ∧ J' 15 3 = nI e ∧ J' 15 2 = nI d) (h4 : ∃ k, k ≤ 2 ∧ J' 15 4 = nI k) (h5 : J' 15 5 = J 15 5) : DrK J' := by
  obtain ⟨b1, b2, b3, b4, b5, b6, b7, b8⟩ := h
  have es : soD J' = soD J := by unfold soD; rw [h5]
  unfold DrK DrT
  rw [es, h5, f.at (k := 26) (by decide) (by decide), f.at (k := 27) (by decide) (by decide)]
  refine ⟨h1, h2, h3, h4, b5, b6, fun s hs => ?_, b8⟩
  have := b7 s hs
  unfold DrS at this ⊢
  rw [f.at (k := 16) (by decide) (by decide), f.at (k := 17) (by decide) (by decide), f.at (k := 20 + s) (by simp; omega) (by omega)]
  exact this
theorem RDr.put {I I' J J' : St} {k : Nat} (h : RDr I J k) (h6 : soD J ≤ 6) (f : Fr [1, 15] [] J J') (g : Fr [] [16, 17, 20, 21, 22, 23, 25, 26, 27] I I') (h1 : I' 67 22 = J' 15 0) (h2 : I' 67 23 = J' 15 1) (h3 : (J' 15 3 = nI 0 ∧ I' 67 26 = -nI 1 ∧ I' 67 25 = -nI 1) ∨ (J' 15 3 ≠ nI 0 ∧ I' 67 26 = J' 15 3 ∧ I' 67 25 = J' 15 2)) (h4 : I' 67 27 = J' 15 4) (h5 : J' 15 5 = J 15 5) : RDr I' J' k := by
  obtain ⟨b1, b2, b3, b4, b5, b6, b7, b8⟩ := h
  have es : soD J' = soD J := by unfold soD; rw [h5]
  unfold RDr
  rw [es, g.f (j := 28) (by decide) (by decide), g.f (j := 33) (by decide) (by decide), g.at (k := 77) (by decide) (by decide), g.at (k := 78) (by decide) (by decide), g.at (k := 79) (by decide) (by decide), g.at (k := 80) (by decide) (by decide), f.at (k := 26) (by decide) (by decide), f.at (k := 27) (by decide) (by decide), f.at (k := 16) (by decide) (by decide), f.at (k := 17) (by decide) (by decide)]
  refine ⟨h1, h2, h3, h4, b5, b6, b7, fun s hs => ?_⟩
  rw [f.at (k := 20 + s) (by simp; omega) (by omega)]
  exact b8 s hs
theorem RDr.told4 {I J : St} {k : Nat} (h : RDr I J k) {t : Nat} (ht : t < 32) (h1 : I 67 33 = nI t) : RDr (u2 I 67 33 (nI (t ||| 2 ^ 4))) J k := by
  obtain ⟨b1, b2, b3, b4, b5, ⟨t', c1, c2, c3⟩, b7, b8⟩ := h
  obtain ⟨a1, a2⟩ := told_4 t ht
  have et : t' = t := by
    rw [c2] at h1
    exact (nI_eq (by omega) (by omega)).mp h1
  unfold RDr
  rw [ux_j (by decide : ¬ 22 = 33), ux_j (by decide : ¬ 23 = 33), ux_j (by decide : ¬ 25 = 33), ux_j (by decide : ¬ 26 = 33), ux_j (by decide : ¬ 27 = 33), ux_j (by decide : ¬ 28 = 33), ux_kk (by decide : ¬ 77 = 67), ux_kk (by decide : ¬ 78 = 67), ux_kk (by decide : ¬ 79 = 67), ux_kk (by decide : ¬ 80 = 67)]
  exact ⟨b1, b2, b3, b4, b5, ⟨_, a1, ux_at, by rw [a2, ← et]; exact c3⟩, b7, b8⟩
section
variable {I J : St} {L : Lt} {ru n : Nat} {T : Nat → Nat} {N : Nat}
theorem DrK.told' (h : DrK J) {t i : Nat} (ht : t < 16) (hi : i < 4) (h1 : J 27 2 = nI t) : DrK (u2 J 27 2 (nI (t ||| 2 ^ i))) := by
  have e : t % 16 = t := Nat.mod_eq_of_lt ht
  have := h.told (t := t) (i := i) (by omega) hi (by rw [e]; exact h1)
  rw [e] at this
  exact this
theorem x_onceNo' {t i b st a : Nat} (hi : i < 4) (hb : b = 2 ^ i) (ht : t < 16) (hS : XS J T N a) (hD : DrK J) (h : J 27 2 = nI t) (h0 : bN t i ≠ 0) : ∃ J', f76 27 (nI b) (nI st) (mW J L ru) = some (mW J' L ru) ∧ Fr dxK [] J J' ∧ XZ J' T N 3 st ∧ DrK J' := by
  obtain ⟨e1, e2⟩ := told_and t ht i hi
  have e1 : ¬ _ := fun z => h0 (e1.mp z)
  obtain ⟨J1, x1, f1, z1⟩ := xs_fail (L := L) (ru := ru) (k := 3) (p := st) hS (by decide)
  have h2 : J1 27 2 = nI t := by rw [f1.1.at (by decide) (by decide)]; exact h
  subst hb
  refine ⟨u2 J1 27 2 (nI (t ||| 2 ^ i)), ?_, f1.dx.u (by decide), z1.fr (Fr.rf.u (K := [27]) (by decide)) (by decide) (by decide), (hD.fr f1.1 (by decide)).told' ht hi h2⟩
  simp (config := { maxSteps := 2000000 }) (disch := omega) only [f76, f76_J18, ux_at, ux_kk, ux_jo, gIx, pIx, pZx, gRx, aIx, sIx, aBx, sBx, lenx, clx, wshS, obS, reduceIte, Nat.one_ne_zero, Nat.zero_ne_one, Nat.reduceEqDiff, not_true_eq_false, not_false_eq_true, Nat.le_refl, ng_le, ng_lt, ng_nle, ng_nlt, ng_eq, ng_eq2, Bool.false_eq_true, lit_nI, nI_add, pk_mul, nI_leI, nI_ltI, nI_eq, h, e1, e2, x1, h2]
theorem rocks_dead {f p : Nat} (h : XZ J T N f p) (hf : f ≠ 0) (h6 : f < 6) (hD : DrK J) (hn : 500 < n) : ∃ J', f176 n 27 (mW J L ru) = some (mW J' L ru) ∧ Fr dxK [] J J' ∧ XZ J' T N f p := by
  obtain ⟨J1, e1, f1, z1⟩ := xz_num (L := L) (ru := ru) (n := n) (lo := nI 0) (hi := nI 63) h hf h6 hn
  have d1 := hD.fr f1.1 (by decide)
  have rkc := d1.2.2.2.2.2.1 0 (by decide)
  have hr := dr_isRock (J := J1) (L := L) (ru := ru) (c := 0) (by decide) rkc
  have xf := xz_f z1
  obtain ⟨J3, e3, f3, z3⟩ := xz_sign (L := L) (ru := ru) (n := n) (x := nI 44) z1 hf h6 hn
  refine ⟨J3, ?_, f1.dx.tr f3.dx, z3⟩
  obtain ⟨m, hm⟩ : ∃ z, n = z + 1 := ⟨n - 1, by omega⟩
  have he := fun v w => rocks_end (n := n) (K := fun w38 => some w38) (v := v) (w := w) m (by omega)
  have ef := fun y => xz_fail (L := L) (ru := ru) (x := nI 4) (y := y) z1 hf h6
  unfold f176
  conv => lhs; arg 3; rw [hm]
  rcases rkc with rc | rc
  · rw [rc] at hr
    simp (config := { maxSteps := 2000000 }) (disch := omega) only [f176_H4, f176_J51, f176_J69, ux_at, ux_kk, ux_jo, gIx, pIx, pZx, gRx, aIx, sIx, aBx, sBx, lenx, clx, wshS, obS, reduceIte, Nat.one_ne_zero, Nat.zero_ne_one, Nat.reduceEqDiff, not_true_eq_false, not_false_eq_true, Nat.le_refl, ng_le, ng_lt, ng_nle, ng_nlt, ng_eq, ng_eq2, Bool.false_eq_true, lit_nI, nI_add, pk_mul, nI_leI, nI_ltI, nI_eq, Nat.not_lt_zero, e1, hr, xf, hf, e3, he]
  · rw [rc] at hr
    simp (config := { maxSteps := 2000000 }) (disch := omega) only [f176_H4, f176_J51, f176_J69, ux_at, ux_kk, ux_jo, gIx, pIx, pZx, gRx, aIx, sIx, aBx, sBx, lenx, clx, wshS, obS, reduceIte, Nat.one_ne_zero, Nat.zero_ne_one, Nat.reduceEqDiff, not_true_eq_false, not_false_eq_true, Nat.le_refl, ng_le, ng_lt, ng_nle, ng_nlt, ng_eq, ng_eq2, Bool.false_eq_true, lit_nI, nI_add, pk_mul, nI_leI, nI_ltI, nI_eq, Nat.not_lt_zero, e1, hr, ef, xf, hf, e3, he]
theorem people_dead {f p : Nat} (h : XZ J T N f p) (hf : f ≠ 0) (h6 : f < 6) (hn : 500 < n) : ∃ J', f206 n 27 (mW J L ru) = some (mW J' L ru) ∧ Fr dxK [] J J' ∧ XZ J' T N f p := by
  obtain ⟨J1, e1, f1, z1⟩ := xz_num (L := L) (ru := ru) (n := n) (lo := nI 1) (hi := nI 9) h hf h6 hn
  have xf := xz_f z1
  refine ⟨J1, ?_, f1.dx, z1⟩
  simp (config := { maxSteps := 2000000 }) (disch := omega) only [f206, ux_at, ux_kk, ux_jo, gIx, pIx, pZx, gRx, aIx, sIx, aBx, sBx, lenx, clx, wshS, obS, reduceIte, Nat.one_ne_zero, Nat.zero_ne_one, Nat.reduceEqDiff, not_true_eq_false, not_false_eq_true, Nat.le_refl, ng_le, ng_lt, ng_nle, ng_nlt, ng_eq, ng_eq2, Bool.false_eq_true, lit_nI, nI_add, pk_mul, nI_leI, nI_ltI, nI_eq, e1, xf, hf]
/-- a dead number that is stored -/
theorem num_dead {f p j : Nat} {lo hi : Int32} (h : XZ J T N f p) (hf : f ≠ 0) (h6 : f < 6) (hn : 500 < n) : ∃ J1, f140 n 1 lo hi (mW J L ru) = some (nI 0, mW J1 L ru) ∧ Fr dxK [] J (u2 J1 15 j (nI 0)) ∧ XZ (u2 J1 15 j (nI 0)) T N f p := by
  obtain ⟨J1, e1, f1, z1⟩ := xz_num (L := L) (ru := ru) (n := n) (lo := lo) (hi := hi) h hf h6 hn
  exact ⟨J1, e1, f1.dx.u (by decide), z1.fr (Fr.rf.u (K := [15]) (by decide)) (by decide) (by decide)⟩
theorem xs_nY {a : Nat} {u : UInt32} {wl : List Nat} (h : XS J T N a) (hD : WD u wl) (hl : ltW wl) (hk : skN T N a = a) (q : isW T N a wl) (hn : 500 < n) : ∃ J', f197 n 1 u (mW J L ru) = some (nI 1, mW J' L ru) ∧ TF J J' ∧ XS J' T N (wdN T N a) := by
  have := xs_wordY (L := L) (ru := ru) (n := n) h hD hl (by rw [hk]; exact q) hn
  rw [hk] at this
  exact this
theorem xs_nN {a : Nat} {u : UInt32} {wl : List Nat} (h : XS J T N a) (hD : WD u wl) (hl : ltW wl) (hk : skN T N a = a) (q : ¬ isW T N a wl) (hn : 500 < n) : ∃ J', f197 n 1 u (mW J L ru) = some (nI 0, mW J' L ru) ∧ TF J J' ∧ XS J' T N a := by
  have := xs_wordN (L := L) (ru := ru) (n := n) h hD hl (by rw [hk]; exact q) hn
  rw [hk] at this
  exact this
theorem wdN_lt {a : Nat} {w : List Nat} (q : isW T N a w) (hw : 0 < w.length) : a < wdN T N a := by
  have := q.1
  omega
theorem c_ship (hT2 : ∀ i, T i < 256) (hn : 1000 < n) {a : Nat} (hS : XS J T N a) (hk : skN T N a = a) (hD : DrK J) (q0 : isW T N a wShip) : CLN n T N L ru J a (f217 n 27 (nI a) (mW J L ru)) := by
  have ha := hS.2.1
  have hN := hS.1.2.1
  have h66 := hD.2.2.2.2.1.2
  obtain ⟨t', ht', hto, hrk⟩ := hD.2.2.2.2.2.2.2
  have hlt := wdN_lt q0 (by decide)
  obtain ⟨Jw0, w0, g0, s0⟩ := xs_nY (L := L) (ru := ru) (n := n) hS wd_ship lt_ship hk q0 (by omega)
  have d1 := hD.fr g0.1 (by decide)
  have to1 : Jw0 27 2 = nI t' := by rw [g0.1.at (by decide) (by decide)]; exact hto
  have es1 : soD Jw0 = soD J := by unfold soD; rw [g0.1.at (by decide) (by decide)]
  by_cases h0 : bN t' 0 = 0
  · have eo := x_onceOk (J := Jw0) (L := L) (ru := ru) (t := t') (i := 0) (b := 1) (st := nI a) (by decide) rfl ht' to1 h0
    have d2 := d1.told' ht' (i := 0) (by decide) to1
    have s2 : XS (u2 Jw0 27 2 (nI (t' ||| 2 ^ 0))) T N (wdN T N a) := s0.fr (Fr.rf.u (K := [27]) (by decide)) (by decide) (by decide)
    have es2 : soD (u2 Jw0 27 2 (nI (t' ||| 2 ^ 0))) = soD J := by
      refine Eq.trans ?_ es1
      unfold soD
      rw [ux_kk (by decide)]
    have fx2 : Fr dxK [] J (u2 Jw0 27 2 (nI (t' ||| 2 ^ 0))) := g0.dx.u (by decide)
    -- the reference, behind its head
    have hR : ∀ I L2 ru2, MS I T N a → RDr I J (soD J) → ∃ Ib La, f226 n 67 (mW I L2 ru2) = f226_J152 n 67 (nI 0) 67 (nI 0) (nI 63) (mW Ib La ru2) ∧ MS Ib T N (wdN T N a) ∧ Fr [] [17, 19, 33] I Ib ∧ RDr Ib (u2 Jw0 27 2 (nI (t' ||| 2 ^ 0))) (soD J) := by
      intro I L2 ru2 hMS hRD
      obtain ⟨t, ht, h33, htt⟩ := told_t hRD hto ht'
      have hb : bN t 0 = 0 := by
        have := (told_all t ht 0 (by decide)).2.2.1
        rw [htt] at this
        omega
      obtain ⟨Ib, La, x1, x2, x3, x4⟩ := m_head0 (L := L2) (ru := ru2) hT2 hn hMS ha hk ht h33 q0 hb
      refine ⟨Ib, La, x1, x2, x3, ?_⟩
      have r1 := ((hRD.x h66 g0.1 (by decide)).told (J := Jw0) (t := t) (i := 0) (by omega) ht (by decide))
      rw [htt] at r1
      exact r1.m x4 (by decide) (by decide)
    generalize u2 Jw0 27 2 (nI (t' ||| 2 ^ 0)) = J2 at *
    obtain ⟨J3, v, f, p, a1, e1, f1, hf, hp, hna, c0, c1, hM1⟩ := two_num (J := J2) (L := L) (ru := ru) (n := n) (lo := 0) (hi := 63) hT2 s2 (by decide) (by decide) (by omega)
    have hst : ∀ I1 L2 ru2 g, g < 6 → ∃ I', f226_J197 n 67 (nI 0) v (nI g) (mW I1 L2 ru2) = f226_J271 n 67 (nI g) (mW I' L2 ru2) ∧ I' = (u2 (u2 (u2 (u2 I1 67 22 v) 67 23 (I1 67 20)) 67 25 (I1 67 25)) 67 26 (I1 67 26)) := by
      intro I2 L2 ru2 g hg
      refine ⟨_, ?_, rfl⟩
      simp (config := { maxSteps := 2000000 }) (disch := omega) only [f226_J197, f226_J213, f226_J232, f226_J249, ux_at, ux_kk, ux_jo, gIm, pIm, pZm, gRm, aIm, sIm, aBm, sBm, gLm, pLm, clm, wshS, obS, reduceIte, Nat.one_ne_zero, Nat.zero_ne_one, Nat.reduceEqDiff, not_true_eq_false, not_false_eq_true, Nat.le_refl, ng_le, ng_lt, ng_nle, ng_nlt, ng_eq, ng_eq2, Bool.false_eq_true, lit_nI, nI_add, pk_mul, nI_leI, nI_ltI, nI_eq]
    by_cases hf0 : f = 0
    · subst hf0
      obtain ⟨s3, lt3, k1, _, hk1, hv⟩ := c0 rfl
      have s4 : XS (u2 J3 15 0 v) T N a1 := s3.fr (Fr.rf.u (K := [15]) (by decide)) (by decide) (by decide)
      obtain ⟨J5, v2, g, p2, a2, e2, f2, hg, hp2, hna2, c2, c3, hM2⟩ := two_num (J := u2 J3 15 0 v) (L := L) (ru := ru) (n := n) (lo := 0) (hi := 7) hT2 s4 (by decide) (by decide) (by omega)
      have ex : f217 n 27 (nI a) (mW J L ru) = some (mW (u2 J5 15 1 v2) L ru) := by
        simp (config := { maxSteps := 2000000 }) (disch := omega) only [f217, ux_at, ux_kk, ux_jo, gIx, pIx, pZx, gRx, aIx, sIx, aBx, sBx, lenx, clx, wshS, obS, reduceIte, Nat.one_ne_zero, Nat.zero_ne_one, Nat.reduceEqDiff, not_true_eq_false, not_false_eq_true, Nat.le_refl, ng_le, ng_lt, ng_nle, ng_nlt, ng_eq, ng_eq2, Bool.false_eq_true, lit_nI, nI_add, pk_mul, nI_leI, nI_ltI, nI_eq, w0, eo, e1, e2]
      have fx6 : Fr [1, 15] [] J2 (u2 J5 15 1 v2) := (((f1.1.mono (by decide) (by decide)).u (by decide)).tr (f2.1.mono (by decide) (by decide))).u (by decide)
      have fx7 : Fr dxK [] J (u2 J5 15 1 v2) := fx2.tr (fx6.mono (by decide) (by decide))
      have e5 : J5 15 = (u2 J3 15 0 v) 15 := f2.1.at (by decide) (by decide)
      have e3 : J3 15 = J2 15 := f1.1.at (by decide) (by decide)
      have ej : ∀ j, (u2 J5 15 1 v2) 15 j = if (15, j) = (15 1) then v2 else if (15, j) = (15 0) then v else J2 15 j := by
        sorry
      -- the reference, up to its stores
      have hR2 : ∀ I L2 ru2, MS I T N a → RDr I J (soD J) → ∃ I2 La, f226 n 67 (mW I L2 ru2) = f226_J271 n 67 (nI g) (mW (u2 (u2 (u2 (u2 I2 67 22 v) 67 23 (I2 67 20)) 67 25 (I2 67 25)) 67 26 (I2 67 26)) La ru2) ∧ Fr dmK dmF I I2 ∧ RDr I2 J2 (soD J) ∧ (g = 0 → MS I2 T N a2 ∧ I2 67 20 = v2) ∧ (g ≠ 0 → I2 67 16 = nI p2) := by
        intro I L2 ru2 hMS hRD
        obtain ⟨Ib, La, x1, x2, x3, x4⟩ := hR I L2 ru2 hMS hRD
        obtain ⟨I1, m1, m2, m3, m4, m5⟩ := hM1 Ib La ru2 x2
        obtain ⟨q3, q4⟩ := m4 rfl
        obtain ⟨I2, m6, m7, m8, m9, m10⟩ := hM2 I1 La ru2 q3
        obtain ⟨I3, y1, y2⟩ := hst I2 La ru2 g hg
        refine ⟨I2, La, ?_, ((x3.mono (by decide) (by decide)).tr (m2.mono (by decide) (by decide))).tr (m7.mono (by decide) (by decide)), (x4.m m2 (by decide) (by decide)).m m7 (by decide) (by decide), m9, m10⟩
        rw [x1, ← y2, ← y1]
        simp (config := { maxSteps := 2000000 }) (disch := omega) only [f226_J152, f226_J183, f226_J194, ux_at, ux_kk, ux_jo, gIm, pIm, pZm, gRm, aIm, sIm, aBm, sBm, gLm, pLm, clm, wshS, obS, reduceIte, Nat.one_ne_zero, Nat.zero_ne_one, Nat.reduceEqDiff, not_true_eq_false, not_false_eq_true, Nat.le_refl, ng_le, ng_lt, ng_nle, ng_nlt, ng_eq, ng_eq2, Bool.false_eq_true, lit_nI, nI_add, pk_mul, nI_leI, nI_ltI, nI_eq, m1, q4, m6]
      by_cases hg0 : g = 0
      · sorry
      · sorry
    · sorry
  · obtain ⟨J2, eo, f2, z2, d2⟩ := x_onceNo' (J := Jw0) (L := L) (ru := ru) (t := t') (i := 0) (b := 1) (st := a) (by decide) rfl ht' s0 d1 to1 h0
    obtain ⟨J3, e3, f3, z3⟩ := num_dead (L := L) (ru := ru) (n := n) (j := 0) (lo := nI 0) (hi := nI 63) z2 (by decide) (by decide) (by omega)
    obtain ⟨J4, e4, f4, z4⟩ := num_dead (L := L) (ru := ru) (n := n) (j := 1) (lo := nI 0) (hi := nI 7) z3 (by decide) (by decide) (by omega)
    refine CLN.dead (f := 3) (p := a) (by decide) (by decide) (by omega) ?_ (((g0.dx.tr f2).tr f3).tr f4) z4 fun I L2 ru2 hMS hRD => ?_
    · simp (config := { maxSteps := 2000000 }) (disch := omega) only [f217, ux_at, ux_kk, ux_jo, gIx, pIx, pZx, gRx, aIx, sIx, aBx, sBx, lenx, clx, wshS, obS, reduceIte, Nat.one_ne_zero, Nat.zero_ne_one, Nat.reduceEqDiff, not_true_eq_false, not_false_eq_true, Nat.le_refl, ng_le, ng_lt, ng_nle, ng_nlt, ng_eq, ng_eq2, Bool.false_eq_true, lit_nI, nI_add, pk_mul, nI_leI, nI_ltI, nI_eq, w0, eo, e3, e4]
    · obtain ⟨t, ht, h33, htt⟩ := told_t hRD hto ht'
      have hb : bN t 0 ≠ 0 := by
        have := (told_all t ht 0 (by decide)).2.2.1
        rw [htt] at this
        omega
      obtain ⟨I', La, x1, x2, x3⟩ := m_again0 (L := L2) (ru := ru2) hT2 hn hMS ha hk ht h33 q0 hb
      exact ⟨I', La, x1, x2.mono (by decide) (by decide), x3⟩
theorem c_rocks (hT2 : ∀ i, T i < 256) (hn : 1000 < n) {a : Nat} (hS : XS J T N a) (hk : skN T N a = a) (hD : DrK J) (q0 : ¬ isW T N a wShip) (q1 : isW T N a wRocks) : CLN n T N L ru J a (f217 n 27 (nI a) (mW J L ru)) := by
  have ha := hS.2.1
  have hN := hS.1.2.1
  have h66 := hD.2.2.2.2.1.2
  obtain ⟨t', ht', hto, hrk⟩ := hD.2.2.2.2.2.2.2
  have hlt := wdN_lt q1 (by decide)
  obtain ⟨Jw0, w0, g0, s0⟩ := xs_nN (L := L) (ru := ru) (n := n) hS wd_ship lt_ship hk q0 (by omega)
  obtain ⟨Jw1, w1, g1, s1⟩ := xs_nY (L := L) (ru := ru) (n := n) s0 wd_rocks lt_rocks hk q1 (by omega)
  have g1 := g0.tr g1
  have d1 := hD.fr g1.1 (by decide)
  have to1 : Jw1 27 2 = nI t' := by rw [g1.1.at (by decide) (by decide)]; exact hto
  have es1 : soD Jw1 = soD J := by unfold soD; rw [g1.1.at (by decide) (by decide)]
  by_cases h0 : bN t' 1 = 0
  · have eo := x_onceOk (J := Jw1) (L := L) (ru := ru) (t := t') (i := 1) (b := 2) (st := nI a) (by decide) rfl ht' to1 h0
    have d2 := d1.told' ht' (i := 1) (by decide) to1
    have s2 : XS (u2 Jw1 27 2 (nI (t' ||| 2 ^ 1))) T N (wdN T N a) := s1.fr (Fr.rf.u (K := [27]) (by decide)) (by decide) (by decide)
    have es2 : soD (u2 Jw1 27 2 (nI (t' ||| 2 ^ 1))) = soD J := by
      refine Eq.trans ?_ es1
      unfold soD
      rw [ux_kk (by decide)]
    have fx2 : Fr dxK [] J (u2 Jw1 27 2 (nI (t' ||| 2 ^ 1))) := g1.dx.u (by decide)
    -- the reference, behind its head
    have hR : ∀ I L2 ru2, MS I T N a → RDr I J (soD J) → ∃ Ib La, f226 n 67 (mW I L2 ru2) = ob (f201 n 67 (mW Ib La ru2)) (fun p73 => f226_J271 n 67 p73.1 p73.2) ∧ MS Ib T N (wdN T N a) ∧ Fr [] [17, 19, 33] I Ib ∧ RDr Ib (u2 Jw1 27 2 (nI (t' ||| 2 ^ 1))) (soD J) := by
      intro I L2 ru2 hMS hRD
      obtain ⟨t, ht, h33, htt⟩ := told_t hRD hto ht'
      have hb : bN t 1 = 0 := by
        have := (told_all t ht 1 (by decide)).2.2.1
        rw [htt] at this
        omega
      obtain ⟨Ib, La, x1, x2, x3, x4⟩ := m_head1 (L := L2) (ru := ru2) hT2 hn hMS ha hk ht h33 q0 q1 hb
      refine ⟨Ib, La, x1, x2, x3, ?_⟩
      have r1 := ((hRD.x h66 g1.1 (by decide)).told (J := Jw1) (t := t) (i := 1) (by omega) ht (by decide))
      rw [htt] at r1
      exact r1.m x4 (by decide) (by decide)
    generalize u2 Jw1 27 2 (nI (t' ||| 2 ^ 1)) = J2 at *
    have hz : ∀ c, c < 64 → J 26 c = nI 0 := hrk h0
    have ht2 : bN (J2 27 2).toNatClampNeg 1 = 1 := by
      have := told_all t' (by omega) 1 (by decide)
      rw [Nat.mod_eq_of_lt ht'] at this
      rw [to2, nI_clamp (by omega)]
      exact this.2.2.2.2.2
    obtain ⟨J', f, p, a', z1, z2, z3, z4, z5, z6, z7⟩ := p_rocks (L := L) (ru := ru) (k := soD J) hT2 hn s2 d2 (fun c hc => by rw [rk2]; exact hz c hc) ht2
    have ex : f217 n 27 (nI a) (mW J L ru) = some (mW J' L ru) := by
      simp (config := { maxSteps := 2000000 }) (disch := omega) only [f217, ux_at, ux_kk, ux_jo, gIx, pIx, pZx, gRx, aIx, sIx, aBx, sBx, lenx, clx, wshS, obS, reduceIte, Nat.one_ne_zero, Nat.zero_ne_one, Nat.reduceEqDiff, not_true_eq_false, not_false_eq_true, Nat.le_refl, ng_le, ng_lt, ng_nle, ng_nlt, ng_eq, ng_eq2, Bool.false_eq_true, lit_nI, nI_add, pk_mul, nI_leI, nI_ltI, nI_eq, w0, w1, eo, z3]
    by_cases hf0 : f = 0
    · subst hf0
      obtain ⟨s3, lt3, d3⟩ := z5 rfl
      have es3 : soD J' = soD J := by
        sorry
      refine ⟨J', 0, 0, a', by decide, by decide, ex, fx2.tr z4, fun _ => ⟨s3, by omega, d3⟩, fun y => absurd rfl y, fun I L2 ru2 hMS hRD => ?_⟩
      obtain ⟨Ib, La, x1, x2, x3, x4⟩ := hR I L2 ru2 hMS hRD
      obtain ⟨I1, L3, y1, y2, y3, y4⟩ := z7 Ib La ru2 x2 x4
      obtain ⟨q3, q4⟩ := y3 rfl
      obtain ⟨I', y5, y6, y7, y8⟩ := m_271s (L := L3) (ru := ru2) (n := n) q3 s3.2.1 (by omega)
      refine ⟨I', L3, ?_, ((x3.mono (by decide) (by decide)).tr y2).tr (y6.mono (by decide) (by decide)), fun z => ⟨y7 z, ?_⟩, fun z => (y8 z).trans (by unfold stP; rw [if_pos rfl])⟩
      · rw [x1, y1]
        exact y5
      · rw [es3]
        exact q4.m y6 (by decide) (by decide)
    · refine CLN.dead hf0 z1 z2 ex (fx2.tr z4) (z6 hf0) fun I L2 ru2 hMS hRD => ?_
      obtain ⟨Ib, La, x1, x2, x3, x4⟩ := hR I L2 ru2 hMS hRD
      obtain ⟨I1, L3, y1, y2, y3, y4⟩ := z7 Ib La ru2 x2 x4
      refine ⟨I1, L3, ?_, (x3.mono (by decide) (by decide)).tr y2, y4 hf0⟩
      rw [x1, y1]
      exact m_271f hf0 z1
  · obtain ⟨J2, eo, f2, z2, d2⟩ := x_onceNo' (J := Jw1) (L := L) (ru := ru) (t := t') (i := 1) (b := 2) (st := a) (by decide) rfl ht' s1 d1 to1 h0
    obtain ⟨J4, e4, f4, z4⟩ := rocks_dead (L := L) (ru := ru) (n := n) z2 (by decide) (by decide) d2 (by omega)
    refine CLN.dead (J' := J4) (f := 3) (p := a) (by decide) (by decide) (by omega) ?_ ((g1.dx.tr f2).tr f4) z4 fun I L2 ru2 hMS hRD => ?_
    · simp (config := { maxSteps := 2000000 }) (disch := omega) only [f217, ux_at, ux_kk, ux_jo, gIx, pIx, pZx, gRx, aIx, sIx, aBx, sBx, lenx, clx, wshS, obS, reduceIte, Nat.one_ne_zero, Nat.zero_ne_one, Nat.reduceEqDiff, not_true_eq_false, not_false_eq_true, Nat.le_refl, ng_le, ng_lt, ng_nle, ng_nlt, ng_eq, ng_eq2, Bool.false_eq_true, lit_nI, nI_add, pk_mul, nI_leI, nI_ltI, nI_eq, w0, w1, eo, e4]
    · obtain ⟨t, ht, h33, htt⟩ := told_t hRD hto ht'
      have hb : bN t 1 ≠ 0 := by
        have := (told_all t ht 1 (by decide)).2.2.1
        rw [htt] at this
        omega
      obtain ⟨I', La, x1, x2, x3⟩ := m_again1 (L := L2) (ru := ru2) hT2 hn hMS ha hk ht h33 q0 q1 hb
      exact ⟨I', La, x1, x2.mono (by decide) (by decide), x3⟩
theorem c_drift (hT2 : ∀ i, T i < 256) (hn : 1000 < n) {a : Nat} (hS : XS J T N a) (hk : skN T N a = a) (hD : DrK J) (q0 : ¬ isW T N a wShip) (q1 : ¬ isW T N a wRocks) (q2 : isW T N a wDrift) : CLN n T N L ru J a (f217 n 27 (nI a) (mW J L ru)) := by
  have ha := hS.2.1
  have hN := hS.1.2.1
  have h66 := hD.2.2.2.2.1.2
  obtain ⟨t', ht', hto, hrk⟩ := hD.2.2.2.2.2.2.2
  have hlt := wdN_lt q2 (by decide)
  obtain ⟨Jw0, w0, g0, s0⟩ := xs_nN (L := L) (ru := ru) (n := n) hS wd_ship lt_ship hk q0 (by omega)
  obtain ⟨Jw1, w1, g1, s1⟩ := xs_nN (L := L) (ru := ru) (n := n) s0 wd_rocks lt_rocks hk q1 (by omega)
  have g1 := g0.tr g1
  obtain ⟨Jw2, w2, g2, s2⟩ := xs_nY (L := L) (ru := ru) (n := n) s1 wd_drift lt_drift hk q2 (by omega)
  have g2 := g1.tr g2
  have d1 := hD.fr g2.1 (by decide)
  have to1 : Jw2 27 2 = nI t' := by rw [g2.1.at (by decide) (by decide)]; exact hto
  have es1 : soD Jw2 = soD J := by unfold soD; rw [g2.1.at (by decide) (by decide)]
  by_cases h0 : bN t' 2 = 0
  · have eo := x_onceOk (J := Jw2) (L := L) (ru := ru) (t := t') (i := 2) (b := 4) (st := nI a) (by decide) rfl ht' to1 h0
    have d2 := d1.told' ht' (i := 2) (by decide) to1
    have s2 : XS (u2 Jw2 27 2 (nI (t' ||| 2 ^ 2))) T N (wdN T N a) := s2.fr (Fr.rf.u (K := [27]) (by decide)) (by decide) (by decide)
    have es2 : soD (u2 Jw2 27 2 (nI (t' ||| 2 ^ 2))) = soD J := by
      refine Eq.trans ?_ es1
      unfold soD
      rw [ux_kk (by decide)]
    have fx2 : Fr dxK [] J (u2 Jw2 27 2 (nI (t' ||| 2 ^ 2))) := g2.dx.u (by decide)
    -- the reference, behind its head
    have hR : ∀ I L2 ru2, MS I T N a → RDr I J (soD J) → ∃ Ib La, f226 n 67 (mW I L2 ru2) = f226_J152 n 67 (nI 2) 67 (nI 0) (nI 7) (mW Ib La ru2) ∧ MS Ib T N (wdN T N a) ∧ Fr [] [17, 19, 33] I Ib ∧ RDr Ib (u2 Jw2 27 2 (nI (t' ||| 2 ^ 2))) (soD J) := by
      intro I L2 ru2 hMS hRD
      obtain ⟨t, ht, h33, htt⟩ := told_t hRD hto ht'
      have hb : bN t 2 = 0 := by
        have := (told_all t ht 2 (by decide)).2.2.1
        rw [htt] at this
        omega
      obtain ⟨Ib, La, x1, x2, x3, x4⟩ := m_head2 (L := L2) (ru := ru2) hT2 hn hMS ha hk ht h33 q0 q1 q2 hb
      refine ⟨Ib, La, x1, x2, x3, ?_⟩
      have r1 := ((hRD.x h66 g2.1 (by decide)).told (J := Jw2) (t := t) (i := 2) (by omega) ht (by decide))
      rw [htt] at r1
      exact r1.m x4 (by decide) (by decide)
    generalize u2 Jw2 27 2 (nI (t' ||| 2 ^ 2)) = J2 at *
    obtain ⟨J3, v, f, p, a1, e1, f1, hf, hp, hna, c0, c1, hM1⟩ := two_num (J := J2) (L := L) (ru := ru) (n := n) (lo := 0) (hi := 7) hT2 s2 (by decide) (by decide) (by omega)
    have hst : ∀ I1 L2 ru2 g, g < 6 → ∃ I', f226_J197 n 67 (nI 2) v (nI g) (mW I1 L2 ru2) = f226_J271 n 67 (nI g) (mW I' L2 ru2) ∧ I' = (u2 (u2 (u2 (u2 I1 67 22 (I1 67 22)) 67 23 (I1 67 23)) 67 25 v) 67 26 (I1 67 20)) := by
      intro I2 L2 ru2 g hg
      refine ⟨_, ?_, rfl⟩
      simp (config := { maxSteps := 2000000 }) (disch := omega) only [f226_J197, f226_J213, f226_J232, f226_J249, ux_at, ux_kk, ux_jo, gIm, pIm, pZm, gRm, aIm, sIm, aBm, sBm, gLm, pLm, clm, wshS, obS, reduceIte, Nat.one_ne_zero, Nat.zero_ne_one, Nat.reduceEqDiff, not_true_eq_false, not_false_eq_true, Nat.le_refl, ng_le, ng_lt, ng_nle, ng_nlt, ng_eq, ng_eq2, Bool.false_eq_true, lit_nI, nI_add, pk_mul, nI_leI, nI_ltI, nI_eq]
    by_cases hf0 : f = 0
    · subst hf0
      obtain ⟨s3, lt3, k1, _, hk1, hv⟩ := c0 rfl
      have s4 : XS (u2 J3 15 2 v) T N a1 := s3.fr (Fr.rf.u (K := [15]) (by decide)) (by decide) (by decide)
      obtain ⟨J5, v2, g, p2, a2, e2, f2, hg, hp2, hna2, c2, c3, hM2⟩ := two_num (J := u2 J3 15 2 v) (L := L) (ru := ru) (n := n) (lo := 1) (hi := 9) hT2 s4 (by decide) (by decide) (by omega)
      have ex : f217 n 27 (nI a) (mW J L ru) = some (mW (u2 J5 15 3 v2) L ru) := by
        simp (config := { maxSteps := 2000000 }) (disch := omega) only [f217, ux_at, ux_kk, ux_jo, gIx, pIx, pZx, gRx, aIx, sIx, aBx, sBx, lenx, clx, wshS, obS, reduceIte, Nat.one_ne_zero, Nat.zero_ne_one, Nat.reduceEqDiff, not_true_eq_false, not_false_eq_true, Nat.le_refl, ng_le, ng_lt, ng_nle, ng_nlt, ng_eq, ng_eq2, Bool.false_eq_true, lit_nI, nI_add, pk_mul, nI_leI, nI_ltI, nI_eq, w0, w1, w2, eo, e1, e2]
      have fx6 : Fr [1, 15] [] J2 (u2 J5 15 3 v2) := (((f1.1.mono (by decide) (by decide)).u (by decide)).tr (f2.1.mono (by decide) (by decide))).u (by decide)
      have fx7 : Fr dxK [] J (u2 J5 15 3 v2) := fx2.tr (fx6.mono (by decide) (by decide))
      have e5 : J5 15 = (u2 J3 15 2 v) 15 := f2.1.at (by decide) (by decide)
      have e3 : J3 15 = J2 15 := f1.1.at (by decide) (by decide)
      have ej : ∀ j, (u2 J5 15 3 v2) 15 j = if (15, j) = (15 3) then v2 else if (15, j) = (15 2) then v else J2 15 j := by
        sorry
      -- the reference, up to its stores
      have hR2 : ∀ I L2 ru2, MS I T N a → RDr I J (soD J) → ∃ I2 La, f226 n 67 (mW I L2 ru2) = f226_J271 n 67 (nI g) (mW (u2 (u2 (u2 (u2 I2 67 22 (I2 67 22)) 67 23 (I2 67 23)) 67 25 v) 67 26 (I2 67 20)) La ru2) ∧ Fr dmK dmF I I2 ∧ RDr I2 J2 (soD J) ∧ (g = 0 → MS I2 T N a2 ∧ I2 67 20 = v2) ∧ (g ≠ 0 → I2 67 16 = nI p2) := by
        intro I L2 ru2 hMS hRD
        obtain ⟨Ib, La, x1, x2, x3, x4⟩ := hR I L2 ru2 hMS hRD
        obtain ⟨I1, m1, m2, m3, m4, m5⟩ := hM1 Ib La ru2 x2
        obtain ⟨q3, q4⟩ := m4 rfl
        obtain ⟨I2, m6, m7, m8, m9, m10⟩ := hM2 I1 La ru2 q3
        obtain ⟨I3, y1, y2⟩ := hst I2 La ru2 g hg
        refine ⟨I2, La, ?_, ((x3.mono (by decide) (by decide)).tr (m2.mono (by decide) (by decide))).tr (m7.mono (by decide) (by decide)), (x4.m m2 (by decide) (by decide)).m m7 (by decide) (by decide), m9, m10⟩
        rw [x1, ← y2, ← y1]
        simp (config := { maxSteps := 2000000 }) (disch := omega) only [f226_J152, f226_J183, f226_J194, ux_at, ux_kk, ux_jo, gIm, pIm, pZm, gRm, aIm, sIm, aBm, sBm, gLm, pLm, clm, wshS, obS, reduceIte, Nat.one_ne_zero, Nat.zero_ne_one, Nat.reduceEqDiff, not_true_eq_false, not_false_eq_true, Nat.le_refl, ng_le, ng_lt, ng_nle, ng_nlt, ng_eq, ng_eq2, Bool.false_eq_true, lit_nI, nI_add, pk_mul, nI_leI, nI_ltI, nI_eq, m1, q4, m6]
      by_cases hg0 : g = 0
      · sorry
      · sorry
    · sorry
  · obtain ⟨J2, eo, f2, z2, d2⟩ := x_onceNo' (J := Jw2) (L := L) (ru := ru) (t := t') (i := 2) (b := 4) (st := a) (by decide) rfl ht' s2 d1 to1 h0
    obtain ⟨J3, e3, f3, z3⟩ := num_dead (L := L) (ru := ru) (n := n) (j := 2) (lo := nI 0) (hi := nI 7) z2 (by decide) (by decide) (by omega)
    obtain ⟨J4, e4, f4, z4⟩ := num_dead (L := L) (ru := ru) (n := n) (j := 3) (lo := nI 1) (hi := nI 9) z3 (by decide) (by decide) (by omega)
    refine CLN.dead (f := 3) (p := a) (by decide) (by decide) (by omega) ?_ (((g2.dx.tr f2).tr f3).tr f4) z4 fun I L2 ru2 hMS hRD => ?_
    · simp (config := { maxSteps := 2000000 }) (disch := omega) only [f217, ux_at, ux_kk, ux_jo, gIx, pIx, pZx, gRx, aIx, sIx, aBx, sBx, lenx, clx, wshS, obS, reduceIte, Nat.one_ne_zero, Nat.zero_ne_one, Nat.reduceEqDiff, not_true_eq_false, not_false_eq_true, Nat.le_refl, ng_le, ng_lt, ng_nle, ng_nlt, ng_eq, ng_eq2, Bool.false_eq_true, lit_nI, nI_add, pk_mul, nI_leI, nI_ltI, nI_eq, w0, w1, w2, eo, e3, e4]
    · obtain ⟨t, ht, h33, htt⟩ := told_t hRD hto ht'
      have hb : bN t 2 ≠ 0 := by
        have := (told_all t ht 2 (by decide)).2.2.1
        rw [htt] at this
        omega
      obtain ⟨I', La, x1, x2, x3⟩ := m_again2 (L := L2) (ru := ru2) hT2 hn hMS ha hk ht h33 q0 q1 q2 hb
      exact ⟨I', La, x1, x2.mono (by decide) (by decide), x3⟩
theorem c_lag (hT2 : ∀ i, T i < 256) (hn : 1000 < n) {a : Nat} (hS : XS J T N a) (hk : skN T N a = a) (hD : DrK J) (q0 : ¬ isW T N a wShip) (q1 : ¬ isW T N a wRocks) (q2 : ¬ isW T N a wDrift) (q3 : isW T N a wLag) : CLN n T N L ru J a (f217 n 27 (nI a) (mW J L ru)) := by
  have ha := hS.2.1
  have hN := hS.1.2.1
  have h66 := hD.2.2.2.2.1.2
  obtain ⟨t', ht', hto, hrk⟩ := hD.2.2.2.2.2.2.2
  have hlt := wdN_lt q3 (by decide)
  obtain ⟨Jw0, w0, g0, s0⟩ := xs_nN (L := L) (ru := ru) (n := n) hS wd_ship lt_ship hk q0 (by omega)
  obtain ⟨Jw1, w1, g1, s1⟩ := xs_nN (L := L) (ru := ru) (n := n) s0 wd_rocks lt_rocks hk q1 (by omega)
  have g1 := g0.tr g1
  obtain ⟨Jw2, w2, g2, s2⟩ := xs_nN (L := L) (ru := ru) (n := n) s1 wd_drift lt_drift hk q2 (by omega)
  have g2 := g1.tr g2
  obtain ⟨Jw3, w3, g3, s3⟩ := xs_nY (L := L) (ru := ru) (n := n) s2 wd_lag lt_lag hk q3 (by omega)
  have g3 := g2.tr g3
  have d1 := hD.fr g3.1 (by decide)
  have to1 : Jw3 27 2 = nI t' := by rw [g3.1.at (by decide) (by decide)]; exact hto
  have es1 : soD Jw3 = soD J := by unfold soD; rw [g3.1.at (by decide) (by decide)]
  by_cases h0 : bN t' 3 = 0
  · have eo := x_onceOk (J := Jw3) (L := L) (ru := ru) (t := t') (i := 3) (b := 8) (st := nI a) (by decide) rfl ht' to1 h0
    have d2 := d1.told' ht' (i := 3) (by decide) to1
    have s2 : XS (u2 Jw3 27 2 (nI (t' ||| 2 ^ 3))) T N (wdN T N a) := s3.fr (Fr.rf.u (K := [27]) (by decide)) (by decide) (by decide)
    have es2 : soD (u2 Jw3 27 2 (nI (t' ||| 2 ^ 3))) = soD J := by
      refine Eq.trans ?_ es1
      unfold soD
      rw [ux_kk (by decide)]
    have fx2 : Fr dxK [] J (u2 Jw3 27 2 (nI (t' ||| 2 ^ 3))) := g3.dx.u (by decide)
    -- the reference, behind its head
    have hR : ∀ I L2 ru2, MS I T N a → RDr I J (soD J) → ∃ Ib La, f226 n 67 (mW I L2 ru2) = ob (f161 n 67 (nI 0) (nI 2) (mW Ib La ru2)) (fun p61 => ob (getI p61.2 11 67 20) (fun x63 => ob (putI p61.2 11 67 27 x63) (fun w65 => f226_J271 n 67 p61.1 w65))) ∧ MS Ib T N (wdN T N a) ∧ Fr [] [17, 19, 33] I Ib ∧ RDr Ib (u2 Jw3 27 2 (nI (t' ||| 2 ^ 3))) (soD J) := by
      intro I L2 ru2 hMS hRD
      obtain ⟨t, ht, h33, htt⟩ := told_t hRD hto ht'
      have hb : bN t 3 = 0 := by
        have := (told_all t ht 3 (by decide)).2.2.1
        rw [htt] at this
        omega
      obtain ⟨Ib, La, x1, x2, x3, x4⟩ := m_head3 (L := L2) (ru := ru2) hT2 hn hMS ha hk ht h33 q0 q1 q2 q3 hb
      refine ⟨Ib, La, x1, x2, x3, ?_⟩
      have r1 := ((hRD.x h66 g3.1 (by decide)).told (J := Jw3) (t := t) (i := 3) (by omega) ht (by decide))
      rw [htt] at r1
      exact r1.m x4 (by decide) (by decide)
    generalize u2 Jw3 27 2 (nI (t' ||| 2 ^ 3)) = J2 at *
    sorry
  · obtain ⟨J2, eo, f2, z2, d2⟩ := x_onceNo' (J := Jw3) (L := L) (ru := ru) (t := t') (i := 3) (b := 8) (st := a) (by decide) rfl ht' s3 d1 to1 h0
    obtain ⟨J3, e3, f3, z3⟩ := num_dead (L := L) (ru := ru) (n := n) (j := 4) (lo := nI 0) (hi := nI 2) z2 (by decide) (by decide) (by omega)
    refine CLN.dead (f := 3) (p := a) (by decide) (by decide) (by omega) ?_ ((g3.dx.tr f2).tr f3) z3 fun I L2 ru2 hMS hRD => ?_
    · simp (config := { maxSteps := 2000000 }) (disch := omega) only [f217, ux_at, ux_kk, ux_jo, gIx, pIx, pZx, gRx, aIx, sIx, aBx, sBx, lenx, clx, wshS, obS, reduceIte, Nat.one_ne_zero, Nat.zero_ne_one, Nat.reduceEqDiff, not_true_eq_false, not_false_eq_true, Nat.le_refl, ng_le, ng_lt, ng_nle, ng_nlt, ng_eq, ng_eq2, Bool.false_eq_true, lit_nI, nI_add, pk_mul, nI_leI, nI_ltI, nI_eq, w0, w1, w2, w3, eo, e3]
    · obtain ⟨t, ht, h33, htt⟩ := told_t hRD hto ht'
      have hb : bN t 3 ≠ 0 := by
        have := (told_all t ht 3 (by decide)).2.2.1
        rw [htt] at this
        omega
      obtain ⟨I', La, x1, x2, x3⟩ := m_again3 (L := L2) (ru := ru2) hT2 hn hMS ha hk ht h33 q0 q1 q2 q3 hb
      exact ⟨I', La, x1, x2.mono (by decide) (by decide), x3⟩
theorem c_sort (hT2 : ∀ i, T i < 256) (hn : 1000 < n) {a : Nat} (hS : XS J T N a) (hk : skN T N a = a) (hD : DrK J) (q0 : ¬ isW T N a wShip) (q1 : ¬ isW T N a wRocks) (q2 : ¬ isW T N a wDrift) (q3 : ¬ isW T N a wLag) (q4 : isW T N a wSort) : CLN n T N L ru J a (f217 n 27 (nI a) (mW J L ru)) := by
  have ha := hS.2.1
  have hN := hS.1.2.1
  have h66 := hD.2.2.2.2.1.2
  obtain ⟨t', ht', hto, hrk⟩ := hD.2.2.2.2.2.2.2
  have hlt := wdN_lt q4 (by decide)
  obtain ⟨Jw0, w0, g0, s0⟩ := xs_nN (L := L) (ru := ru) (n := n) hS wd_ship lt_ship hk q0 (by omega)
  obtain ⟨Jw1, w1, g1, s1⟩ := xs_nN (L := L) (ru := ru) (n := n) s0 wd_rocks lt_rocks hk q1 (by omega)
  have g1 := g0.tr g1
  obtain ⟨Jw2, w2, g2, s2⟩ := xs_nN (L := L) (ru := ru) (n := n) s1 wd_drift lt_drift hk q2 (by omega)
  have g2 := g1.tr g2
  obtain ⟨Jw3, w3, g3, s3⟩ := xs_nN (L := L) (ru := ru) (n := n) s2 wd_lag lt_lag hk q3 (by omega)
  have g3 := g2.tr g3
  obtain ⟨Jw4, w4, g4, s4⟩ := xs_nY (L := L) (ru := ru) (n := n) s3 wd_sort lt_sort hk q4 (by omega)
  have g4 := g3.tr g4
  have d1 := hD.fr g4.1 (by decide)
  have to1 : Jw4 27 2 = nI t' := by rw [g4.1.at (by decide) (by decide)]; exact hto
  have es1 : soD Jw4 = soD J := by unfold soD; rw [g4.1.at (by decide) (by decide)]
  sorry
end
