/-! TEXTS: a rule: both sides -/
theorem isW_diff {T : Nat → Nat} {N b : Nat} {w v : List Nat} (h : isW T N b w) (hw : 0 < w.length) (hv : 0 < v.length) (hd : w.getD 0 0 ≠ v.getD 0 0) : ¬ isW T N b v := fun z => hd ((h.2 0 hw).symm.trans (z.2 0 hv))
theorem RNX.dead {n : Nat} {T : Nat → Nat} {N : Nat} {L : Lt} {ru : Nat} {J J' : St} {b last a f p g : Nat} {W : Nat → Int32} {FX : Option Wd} (hf : f ≠ 0) (h6 : f < 6) (hp : p ≤ 300) (h1 : FX = some (mW J' L ru)) (h2 : Fr spK [] J J') (h3 : XZ J' T N f p) (h4 : ∀ I L2 ru2 km a0, g < km → a0 ≤ N → skN T N a0 = skN T N a → MS I T N a0 → RQ I J b W → ∃ I' L2', f204_H185 n (fun e6 w87 => some (e6, w87)) km 67 (nI b) (nI last) (nI 0) (mW I L2 ru2) = some (nI f, mW I' L2' ru2) ∧ Fr ruK ruF I I' ∧ (∀ q, q < b → I' 84 q = I 84 q) ∧ I' 67 16 = nI p) : RNX n T N L ru J b last a g W FX := by
  refine ⟨J', f, p, h6, hp, h1, h2, xz_f h3, fun z => absurd z hf, fun _ => ?_, fun I L2 ru2 km a0 k1 k2 k3 k4 k5 => ?_⟩
  · obtain ⟨_, _, _, _, h⟩ := h3
    exact h.2.2.2
  · obtain ⟨I', L2', e1, e2, e4, e3⟩ := h4 I L2 ru2 km a0 k1 k2 k3 k4 k5
    exact ⟨I', L2', e1, e2, e4, fun z => absurd z hf, fun _ => e3⟩
section
variable {I J : St} {L : Lt} {ru n : Nat} {T : Nat → Nat} {N : Nat}
theorem d132 {f p : Nat} (h : XZ J T N f p) (hf : f ≠ 0) (h6 : f < 6) (hn : 500 < n) : ∃ J', f218_J132 n 1 (mW J L ru) = some (mW J' L ru) ∧ Fr spK [] J J' ∧ XZ J' T N f p := by
  obtain ⟨hT, a, na, ha, hS⟩ := id h
  obtain ⟨J1, e1, f1, s1⟩ := x_ended (L := L) (ru := ru) (n := n) hT ha hS hn
  have z1 : XZ J1 T N f p := ⟨hT.tf f1, _, na, skN_le ha, s1⟩
  have ef := fun x y => xz_fail (L := L) (ru := ru) (x := x) (y := y) z1 hf h6
  refine ⟨J1, ?_, f1.sp, z1⟩
  by_cases q : skN T N a < N
  · rw [if_pos q] at e1
    simp (config := { maxSteps := 2000000 }) (disch := omega) only [f218_J132, ux_at, ux_kk, ux_jo, gIx, pIx, pZx, gRx, aIx, sIx, aBx, sBx, lenx, clx, wshS, obS, reduceIte, Nat.one_ne_zero, Nat.zero_ne_one, Nat.reduceEqDiff, not_true_eq_false, not_false_eq_true, Nat.le_refl, ng_le, ng_lt, ng_nle, ng_nlt, ng_eq, ng_eq2, Bool.false_eq_true, lit_nI, nI_add, pk_mul, nI_leI, nI_ltI, nI_eq, e1, ef]
  · rw [if_neg q] at e1
    simp (config := { maxSteps := 2000000 }) (disch := omega) only [f218_J132, ux_at, ux_kk, ux_jo, gIx, pIx, pZx, gRx, aIx, sIx, aBx, sBx, lenx, clx, wshS, obS, reduceIte, Nat.one_ne_zero, Nat.zero_ne_one, Nat.reduceEqDiff, not_true_eq_false, not_false_eq_true, Nat.le_refl, ng_le, ng_lt, ng_nle, ng_nlt, ng_eq, ng_eq2, Bool.false_eq_true, lit_nI, nI_add, pk_mul, nI_leI, nI_ltI, nI_eq, e1]
theorem d118 {f p : Nat} (h : XZ J T N f p) (hf : f ≠ 0) (h6 : f < 6) (hn : 500 < n) : ∃ J', f218_J118 n 33 1 (mW J L ru) = some (mW J' L ru) ∧ Fr spK [] J J' ∧ XZ J' T N f p := by
  obtain ⟨J1, e1, f1, z1⟩ := xz_word (L := L) (ru := ru) (n := n) (u := 29) h hf h6 hn
  obtain ⟨J2, e2, f2, z2⟩ := d132 (L := L) (ru := ru) z1 hf h6 hn
  refine ⟨J2, ?_, f1.sp.tr f2, z2⟩
  simp (config := { maxSteps := 2000000 }) (disch := omega) only [f218_J118, ux_at, ux_kk, ux_jo, gIx, pIx, pZx, gRx, aIx, sIx, aBx, sBx, lenx, clx, wshS, obS, reduceIte, Nat.one_ne_zero, Nat.zero_ne_one, Nat.reduceEqDiff, not_true_eq_false, not_false_eq_true, Nat.le_refl, ng_le, ng_lt, ng_nle, ng_nlt, ng_eq, ng_eq2, Bool.false_eq_true, lit_nI, nI_add, pk_mul, nI_leI, nI_ltI, nI_eq, e1, e2]
theorem d104 {f p : Nat} (h : XZ J T N f p) (hf : f ≠ 0) (h6 : f < 6) (hn : 500 < n) : ∃ J', f218_J104 n 33 1 (mW J L ru) = some (mW J' L ru) ∧ Fr spK [] J J' ∧ XZ J' T N f p := by
  obtain ⟨J1, e1, f1, z1⟩ := xz_word (L := L) (ru := ru) (n := n) (u := 28) h hf h6 hn
  obtain ⟨J2, e2, f2, z2⟩ := d118 (L := L) (ru := ru) z1 hf h6 hn
  refine ⟨J2, ?_, f1.sp.tr f2, z2⟩
  simp (config := { maxSteps := 2000000 }) (disch := omega) only [f218_J104, ux_at, ux_kk, ux_jo, gIx, pIx, pZx, gRx, aIx, sIx, aBx, sBx, lenx, clx, wshS, obS, reduceIte, Nat.one_ne_zero, Nat.zero_ne_one, Nat.reduceEqDiff, not_true_eq_false, not_false_eq_true, Nat.le_refl, ng_le, ng_lt, ng_nle, ng_nlt, ng_eq, ng_eq2, Bool.false_eq_true, lit_nI, nI_add, pk_mul, nI_leI, nI_ltI, nI_eq, e1, e2]
theorem d84 {f p : Nat} (h : XZ J T N f p) (hf : f ≠ 0) (h6 : f < 6) (hn : 500 < n) : ∃ J', f218_J84 n 33 1 (mW J L ru) = some (mW J' L ru) ∧ Fr spK [] J J' ∧ XZ J' T N f p := by
  obtain ⟨J1, e1, f1, z1⟩ := xz_word (L := L) (ru := ru) (n := n) (u := 27) h hf h6 hn
  obtain ⟨J2, e2, f2, z2⟩ := d104 (L := L) (ru := ru) z1 hf h6 hn
  refine ⟨J2, ?_, f1.sp.tr f2, z2⟩
  simp (config := { maxSteps := 2000000 }) (disch := omega) only [f218_J84, ux_at, ux_kk, ux_jo, gIx, pIx, pZx, gRx, aIx, sIx, aBx, sBx, lenx, clx, wshS, obS, reduceIte, Nat.one_ne_zero, Nat.zero_ne_one, Nat.reduceEqDiff, not_true_eq_false, not_false_eq_true, Nat.le_refl, ng_le, ng_lt, ng_nle, ng_nlt, ng_eq, ng_eq2, Bool.false_eq_true, lit_nI, nI_add, pk_mul, nI_leI, nI_ltI, nI_eq, e1, e2]
theorem m_K96 {b last f km : Nat} (hf : f ≠ 0) (h6 : f < 6) : f204_H185 n (fun e6 w87 => some (e6, w87)) (km + 1) 67 (nI b) (nI last) (nI f) (mW I L ru) = some (nI f, mW I L ru) := by
  simp (config := { maxSteps := 2000000 }) (disch := omega) only [f204_H185, Nat.one_ne_zero, Nat.zero_ne_one, Nat.reduceEqDiff, not_true_eq_false, not_false_eq_true, Nat.le_refl, ng_le, ng_lt, ng_nle, ng_nlt, ng_eq, ng_eq2, Bool.false_eq_true, lit_nI, nI_add, pk_mul, nI_leI, nI_ltI, nI_eq, hf, reduceIte]
/-- the same rest, read from another place ahead of the same sign, the class a word on -/
theorem RNX.mono {b last a g g' : Nat} {W : Nat → Int32} {FX : Option Wd} (h : RNX n T N L ru J b last a g W FX) (hg : g ≤ g') : RNX n T N L ru J b last a g' W FX := by
  obtain ⟨J', f', p, h1, h2, h3, h4, h5, h6, h7, h8⟩ := h
  exact ⟨J', f', p, h1, h2, h3, h4, h5, h6, h7, fun I L2 ru2 km a0 k1 => h8 I L2 ru2 km a0 (by omega)⟩
theorem RNX.skip {J1 : St} {b last a g : Nat} {W : Nat → Int32} {FX FX' : Option Wd} (h : RNX n T N L ru J1 b last (skN T N a) g W FX') (f : TF J J1) (e : FX = FX') : RNX n T N L ru J b last a g W FX := by
  obtain ⟨J', f', p, h1, h2, h3, h4, h5, h6, h7, h8⟩ := h
  have r33 : J1 33 = J 33 := f.1.at (by decide) (by decide)
  refine ⟨J', f', p, h1, h2, e.trans h3, f.sp.tr h4, h5, h6, h7, fun I L2 ru2 km a0 k1 k2 k3 k4 k5 => h8 I L2 ru2 km a0 k1 k2 (by rw [k3, skN_id]) k4 ?_⟩
  unfold RQ at k5 ⊢
  rw [r33]
  exact k5
theorem r_unless (hT2 : ∀ i, T i < 256) (hn : 1000 < n) {b last a : Nat} {W : Nat → Int32} (hb20 : b ≤ 15) (hl2 : last ≤ 2) (h1 : isW T N (skN T N a) wNeed → 1 ≤ last) (h2 : isW T N (skN T N a) wBar → 2 ≤ last) (hS : XS J T N a) (hV : RvK J) : RNX n T N L ru J b last a 2 W (f218_J118 n 33 1 (mW J L ru)) := by
  have ha := hS.2.1
  have hN := hS.1.2.1
  have hid := skN_id T N a
  by_cases q : isW T N (skN T N a) wUnless
  · obtain ⟨J1, e1, f1, s1⟩ := xs_wordY (L := L) (ru := ru) (n := n) hS wd_unless lt_unless q (by omega)
    have qn : ¬ isW T N (skN T N a) wNeed := isW_diff q (by decide) (by decide) (by decide)
    have qb : ¬ isW T N (skN T N a) wBar := isW_diff q (by decide) (by decide) (by decide)
    have hlt := (isW_first q (by decide) (skN_le ha)).1
    have r33 : J1 33 = J 33 := f1.1.at (by decide) (by decide)
    obtain ⟨J2, f, p, a', hf, hp, e2, f2, q2, c0, c1, hM⟩ := p_unl (L := L) (ru := ru) hT2 hn hb20 s1
    -- the reference, behind unless
    have hR : ∀ I L2 ru2 km a0, a0 ≤ N → skN T N a0 = skN T N a → MS I T N a0 → RQ I J b W → ∃ I' L2', f204_H185 n (fun e6 w87 => some (e6, w87)) (km + 1) 67 (nI b) (nI last) (nI 0) (mW I L2 ru2) = f204_H185 n (fun e6 w87 => some (e6, w87)) km 67 (nI b) (nI 3) (nI f) (mW I' L2' ru2) ∧ Fr ruK ruF I I' ∧ (∀ q, q < b → I' 84 q = I 84 q) ∧ (f = 0 → MS I' T N a' ∧ RQ I' J2 b W) ∧ (f ≠ 0 → I' 67 16 = nI p) := by
      intro I L2 ru2 km a0 ha0 hsk hMS hRQ
      obtain ⟨Ib, Lb, y1, y2, y3, p1, p2, p3, p4⟩ := m_part (L := L2) (ru := ru2) (b := b) (last := last) (km := km) (K96 := fun e6 w87 => some (e6, w87)) hT2 hn ha0 hMS (by rw [hsk]; exact hlt)
      rw [hsk] at y1 y3 p1 p2 p3 p4
      have s5 : MS (u2 Ib 67 17 (nI (wdN T N (skN T N a)))) T N (wdN T N (skN T N a)) := ⟨y1.1.fr (Fr.rf.uf (K := []) (F := [17]) (by decide)) (by decide) (by decide) (by decide), ux_at, (ux_j (by decide)).trans y1.2.2⟩
      obtain ⟨I', L3, m1, m2, m3, m4, m5⟩ := hM _ Lb ru2 s5
      have n3 : nI last < nI 3 := nI_lt (by omega) (by decide)
      have r84 : (u2 Ib 67 17 (nI (wdN T N (skN T N a)))) 84 = I 84 := (ux_kk (by decide)).trans (y2.at (by decide) (by decide))
      refine ⟨I', L3, (p3 qn qb q).trans ?_, ((y2.mono (by decide) (by decide)).uf (by decide)).tr m2, fun q5 hq => by rw [m3 _ (by omega), r84], fun z => ⟨(m4 z).1, fun q5 hq => ?_, fun q5 hq => ?_⟩, m5⟩
      · simp (config := { maxSteps := 2000000 }) (disch := omega) only [f204_J230, ux_at, ux_kk, ux_jo, gIm, pIm, pZm, gRm, aIm, sIm, aBm, sBm, gLm, pLm, clm, wshS, obS, reduceIte, Nat.one_ne_zero, Nat.zero_ne_one, Nat.reduceEqDiff, not_true_eq_false, not_false_eq_true, Nat.le_refl, ng_le, ng_lt, ng_nle, ng_nlt, ng_eq, ng_eq2, Bool.false_eq_true, lit_nI, nI_add, pk_mul, nI_leI, nI_ltI, nI_eq, n3, y3, m1, (by decide : ¬ 3 = 1), (by decide : ¬ 3 = 2)]
      · by_cases e3 : q5 < 3
        · rw [m3 _ (by omega), r84, hRQ.1 q5 hq, q2 q5 e3, r33]
        · rcases (show q5 = 3 ∨ q5 = 4 by omega) with rfl | rfl
          · exact (m4 z).2.1
          · exact (m4 z).2.2
      · rw [m3 _ (by omega), r84]
        exact hRQ.2 q5 hq
    by_cases hf0 : f = 0
    · subst hf0
      obtain ⟨s2, v1, v2⟩ := c0 rfl
      have hV2 : RvK J2 := by
        obtain ⟨g1, g2, g3, _⟩ := hV
        exact ⟨by rw [q2 0 (by decide), r33]; exact g1, by rw [q2 1 (by decide), r33]; exact g2, by rw [q2 2 (by decide), r33]; exact g3, Or.inr ⟨v1, v2⟩⟩
      obtain ⟨J', f', p', z1, z2, z3, z4, z5, z6, z7, z8⟩ := r_end (L := L) (ru := ru) (W := W) (last := 3) hT2 hn hb20 (by decide) (fun _ => by decide) (fun _ => by decide) (fun _ => by decide) s2 hV2
      refine ⟨J', f', p', z1, z2, ?_, (f1.sp.tr f2).tr z4, z5, z6, z7, fun I L2 ru2 km a0 k1 k2 k3 k4 k5 => ?_⟩
      · simp (config := { maxSteps := 2000000 }) (disch := omega) only [f218_J118, ux_at, ux_kk, ux_jo, gIx, pIx, pZx, gRx, aIx, sIx, aBx, sBx, lenx, clx, wshS, obS, reduceIte, Nat.one_ne_zero, Nat.zero_ne_one, Nat.reduceEqDiff, not_true_eq_false, not_false_eq_true, Nat.le_refl, ng_le, ng_lt, ng_nle, ng_nlt, ng_eq, ng_eq2, Bool.false_eq_true, lit_nI, nI_add, pk_mul, nI_leI, nI_ltI, nI_eq, e1, e2]
        exact z3
      · obtain ⟨km, rfl⟩ : ∃ z, km = z + 1 := ⟨km - 1, by omega⟩
        obtain ⟨I1, L3, x1, x2, x5, x3, x4⟩ := hR I L2 ru2 km a0 k2 k3 k4 k5
        obtain ⟨m1, m2⟩ := x3 rfl
        obtain ⟨I', L4, y1, y2, y5, y3, y4⟩ := z8 I1 L3 ru2 km a' (by omega) s2.2.1 rfl m1 m2
        exact ⟨I', L4, x1.trans y1, x2.tr y2, fun q5 hq => (y5 q5 hq).trans (x5 q5 hq), y3, y4⟩
    · have z2 := c1 hf0
      obtain ⟨J3, e3, f3, z3⟩ := d132 (L := L) (ru := ru) (n := n) z2 hf0 hf (by omega)
      refine RNX.dead hf0 hf hp ?_ ((f1.sp.tr f2).tr f3) z3 fun I L2 ru2 km a0 k1 k2 k3 k4 k5 => ?_
      · simp (config := { maxSteps := 2000000 }) (disch := omega) only [f218_J118, ux_at, ux_kk, ux_jo, gIx, pIx, pZx, gRx, aIx, sIx, aBx, sBx, lenx, clx, wshS, obS, reduceIte, Nat.one_ne_zero, Nat.zero_ne_one, Nat.reduceEqDiff, not_true_eq_false, not_false_eq_true, Nat.le_refl, ng_le, ng_lt, ng_nle, ng_nlt, ng_eq, ng_eq2, Bool.false_eq_true, lit_nI, nI_add, pk_mul, nI_leI, nI_ltI, nI_eq, e1, e2, e3]
      · obtain ⟨km, rfl⟩ : ∃ z, km = z + 2 := ⟨km - 2, by omega⟩
        obtain ⟨I', L3, x1, x2, x5, x3, x4⟩ := hR I L2 ru2 (km + 1) a0 k2 k3 k4 k5
        exact ⟨I', L3, x1.trans (m_K96 hf0 hf), x2, x5, x4 hf0⟩
  · obtain ⟨J1, e1, f1, s1⟩ := xs_wordN (L := L) (ru := ru) (n := n) hS wd_unless lt_unless q (by omega)
    have r33 : J1 33 = J 33 := f1.1.at (by decide) (by decide)
    have hr := r_end (L := L) (ru := ru) (W := W) (last := last) (b := b) hT2 hn hb20 (by omega) (by rw [hid]; exact h1) (by rw [hid]; exact h2) (by rw [hid]; exact fun z => absurd z q) s1 (by unfold RvK; rw [r33]; exact hV)
    refine (hr.mono (by decide)).skip f1 ?_
    simp (config := { maxSteps := 2000000 }) (disch := omega) only [f218_J118, ux_at, ux_kk, ux_jo, gIx, pIx, pZx, gRx, aIx, sIx, aBx, sBx, lenx, clx, wshS, obS, reduceIte, Nat.one_ne_zero, Nat.zero_ne_one, Nat.reduceEqDiff, not_true_eq_false, not_false_eq_true, Nat.le_refl, ng_le, ng_lt, ng_nle, ng_nlt, ng_eq, ng_eq2, Bool.false_eq_true, lit_nI, nI_add, pk_mul, nI_leI, nI_ltI, nI_eq, e1]
theorem r_bar (hT2 : ∀ i, T i < 256) (hn : 1000 < n) {b last a : Nat} {W : Nat → Int32} (hb20 : b ≤ 15) (hl1 : last ≤ 1) (h1 : isW T N (skN T N a) wNeed → 1 ≤ last) (hbz : J 33 2 = nI 0) (hS : XS J T N a) (hV : RvK J) : RNX n T N L ru J b last a 3 W (f218_J104 n 33 1 (mW J L ru)) := by
  have ha := hS.2.1
  have hN := hS.1.2.1
  have hid := skN_id T N a
  by_cases q : isW T N (skN T N a) wBar
  · obtain ⟨J1, e1, f1, s1⟩ := xs_wordY (L := L) (ru := ru) (n := n) hS wd_bar lt_bar q (by omega)
    have qn : ¬ isW T N (skN T N a) wNeed := isW_diff q (by decide) (by decide) (by decide)
    have hlt := (isW_first q (by decide) (skN_le ha)).1
    have r33 : J1 33 = J 33 := f1.1.at (by decide) (by decide)
    have hz : cB (fun c => (0 : Nat).testBit c) 6 = 0 := cB_zero 6 fun c hc => Nat.zero_testBit c
    obtain ⟨J2, f, p, a', s', hf, hp, e2, f2, q2, c0, c1, hM⟩ := p_bars_lp (L := L) (ru := ru) (b := b) (K4 := fun e0 e1 e2 w22 => ob (getR w22 11 e0 38) (fun x23 => ob (astI w22 x23 (e1 + (2 : Int32)) e2) (fun w25 => some ((0 : Int32), w25)))) hT2 hn 301 J1 (wdN T N (skN T N a)) 0 n 0 s1 (by rw [r33]; exact hbz) (by decide) hz (by omega) (by omega)
    have eb : f179 n 33 1 (mW J1 L ru) = some (mW J2 L ru) := e2
    have hR : ∀ I L2 ru2 km a0, a0 ≤ N → skN T N a0 = skN T N a → MS I T N a0 → RQ I J b W → ∃ I' L2', f204_H185 n (fun e6 w87 => some (e6, w87)) (km + 1) 67 (nI b) (nI last) (nI 0) (mW I L2 ru2) = f204_H185 n (fun e6 w87 => some (e6, w87)) km 67 (nI b) (nI 2) (nI f) (mW I' L2' ru2) ∧ Fr ruK ruF I I' ∧ (∀ q, q < b → I' 84 q = I 84 q) ∧ (f = 0 → MS I' T N a' ∧ RQ I' J2 b W) ∧ (f ≠ 0 → I' 67 16 = nI p) := by
      intro I L2 ru2 km a0 ha0 hsk hMS hRQ
      obtain ⟨Ib, Lb, y1, y2, y3, p1, p2, p3, p4⟩ := m_part (L := L2) (ru := ru2) (b := b) (last := last) (km := km) (K96 := fun e6 w87 => some (e6, w87)) hT2 hn ha0 hMS (by rw [hsk]; exact hlt)
      rw [hsk] at y1 y3 p1 p2 p3 p4
      have s5 : MS (u2 Ib 67 17 (nI (wdN T N (skN T N a)))) T N (wdN T N (skN T N a)) := ⟨y1.1.fr (Fr.rf.uf (K := []) (F := [17]) (by decide)) (by decide) (by decide) (by decide), ux_at, (ux_j (by decide)).trans y1.2.2⟩
      obtain ⟨I', m1, m2, m3, m4, m5⟩ := hM _ Lb ru2 n (by omega) s5
      have n3 : nI last < nI 2 := nI_lt (by omega) (by decide)
      have r84 : I' 84 = I 84 := (m3.at (by decide) (by decide)).trans ((ux_kk (by decide)).trans (y2.at (by decide) (by decide)))
      have g5 : Fr ruK ruF I I' := ((y2.mono (by decide) (by decide)).uf (by decide)).tr (m3.mono (by decide) (by decide))
      by_cases hf0 : f = 0
      · subst hf0
        have m1 := m1 rfl
        obtain ⟨k1, k2, k3, k4⟩ := c0 rfl
        have etb : f192 n 67 (nI b) (mW (u2 Ib 67 17 (nI (wdN T N (skN T N a)))) Lb ru2) = some (nI 0, mW (u2 I' 84 (b + 2) (nI s')) Lb ru2) := by
          refine Eq.trans m1 ?_
          simp (config := { maxSteps := 2000000 }) (disch := omega) only [ux_at, ux_kk, ux_jo, gIm, pIm, pZm, gRm, aIm, sIm, aBm, sBm, gLm, pLm, clm, wshS, obS, reduceIte, Nat.one_ne_zero, Nat.zero_ne_one, Nat.reduceEqDiff, not_true_eq_false, not_false_eq_true, Nat.le_refl, ng_le, ng_lt, ng_nle, ng_nlt, ng_eq, ng_eq2, Bool.false_eq_true, lit_nI, nI_add, pk_mul, nI_leI, nI_ltI, nI_eq]
        have g6 : Fr [84] [] I' (u2 I' 84 (b + 2) (nI s')) := Fr.rf.u (by decide)
        refine ⟨u2 I' 84 (b + 2) (nI s'), Lb, (p2 qn q).trans ?_, g5.tr (g6.mono (by decide) (by decide)), fun q5 hq => by rw [ux_j (by omega), r84], fun z => ⟨(m4 rfl).fr g6 (by decide) (by decide) (by decide) (by decide), fun q5 hq => ?_, fun q5 hq => ?_⟩, fun z => absurd rfl z⟩
        · simp (config := { maxSteps := 2000000 }) (disch := omega) only [f204_J230, ux_at, ux_kk, ux_jo, gIm, pIm, pZm, gRm, aIm, sIm, aBm, sBm, gLm, pLm, clm, wshS, obS, reduceIte, Nat.one_ne_zero, Nat.zero_ne_one, Nat.reduceEqDiff, not_true_eq_false, not_false_eq_true, Nat.le_refl, ng_le, ng_lt, ng_nle, ng_nlt, ng_eq, ng_eq2, Bool.false_eq_true, lit_nI, nI_add, pk_mul, nI_leI, nI_ltI, nI_eq, n3, y3, etb, (by decide : ¬ 2 = 1)]
        · rw [ux_if]
          by_cases e2 : q5 = 2
          · rw [if_pos (by omega), e2]
            exact k4.symm
          · rw [if_neg (by omega), r84, hRQ.1 q5 hq, q2 q5 e2, r33]
        · rw [ux_j (by omega), r84]
          exact hRQ.2 q5 hq
      · have m2 := m2 hf0
        have etb : f192 n 67 (nI b) (mW (u2 Ib 67 17 (nI (wdN T N (skN T N a)))) Lb ru2) = some (nI f, mW I' Lb ru2) := m2
        refine ⟨I', Lb, (p2 qn q).trans ?_, g5, fun q5 _ => by rw [r84], fun z => absurd z hf0, m5⟩
        simp (config := { maxSteps := 2000000 }) (disch := omega) only [f204_J230, ux_at, ux_kk, ux_jo, gIm, pIm, pZm, gRm, aIm, sIm, aBm, sBm, gLm, pLm, clm, wshS, obS, reduceIte, Nat.one_ne_zero, Nat.zero_ne_one, Nat.reduceEqDiff, not_true_eq_false, not_false_eq_true, Nat.le_refl, ng_le, ng_lt, ng_nle, ng_nlt, ng_eq, ng_eq2, Bool.false_eq_true, lit_nI, nI_add, pk_mul, nI_leI, nI_ltI, nI_eq, n3, y3, etb, (by decide : ¬ 2 = 1)]
    by_cases hf0 : f = 0
    · subst hf0
      obtain ⟨s2, v1, v2, v3⟩ := c0 rfl
      have hV2 : RvK J2 := by
        obtain ⟨g1, g2, g3, g4⟩ := hV
        refine ⟨by rw [q2 0 (by decide), r33]; exact g1, by rw [q2 1 (by decide), r33]; exact g2, ⟨s', v2, v3⟩, ?_⟩
        rw [q2 3 (by decide), q2 4 (by decide), r33]
        exact g4
      obtain ⟨J', f', p', z1, z2, z3, z4, z5, z6, z7, z8⟩ := r_unless (L := L) (ru := ru) (W := W) (last := 2) hT2 hn hb20 (by decide) (fun _ => by decide) (fun _ => by decide) s2 hV2
      refine ⟨J', f', p', z1, z2, ?_, (f1.sp.tr f2).tr z4, z5, z6, z7, fun I L2 ru2 km a0 k1 k2 k3 k4 k5 => ?_⟩
      · simp (config := { maxSteps := 2000000 }) (disch := omega) only [f218_J104, ux_at, ux_kk, ux_jo, gIx, pIx, pZx, gRx, aIx, sIx, aBx, sBx, lenx, clx, wshS, obS, reduceIte, Nat.one_ne_zero, Nat.zero_ne_one, Nat.reduceEqDiff, not_true_eq_false, not_false_eq_true, Nat.le_refl, ng_le, ng_lt, ng_nle, ng_nlt, ng_eq, ng_eq2, Bool.false_eq_true, lit_nI, nI_add, pk_mul, nI_leI, nI_ltI, nI_eq, e1, eb]
        exact z3
      · obtain ⟨km, rfl⟩ : ∃ z, km = z + 1 := ⟨km - 1, by omega⟩
        obtain ⟨I1, L3, x1, x2, x5, x3, x4⟩ := hR I L2 ru2 km a0 k2 k3 k4 k5
        obtain ⟨m1, m2⟩ := x3 rfl
        obtain ⟨I', L4, y1, y2, y5, y3, y4⟩ := z8 I1 L3 ru2 km a' (by omega) s2.2.1 rfl m1 m2
        exact ⟨I', L4, x1.trans y1, x2.tr y2, fun q5 hq => (y5 q5 hq).trans (x5 q5 hq), y3, y4⟩
    · have z2 := c1 hf0
      obtain ⟨J3, e3, f3, z3⟩ := d118 (L := L) (ru := ru) (n := n) z2 hf0 hf (by omega)
      refine RNX.dead hf0 hf hp ?_ ((f1.sp.tr f2).tr f3) z3 fun I L2 ru2 km a0 k1 k2 k3 k4 k5 => ?_
      · simp (config := { maxSteps := 2000000 }) (disch := omega) only [f218_J104, ux_at, ux_kk, ux_jo, gIx, pIx, pZx, gRx, aIx, sIx, aBx, sBx, lenx, clx, wshS, obS, reduceIte, Nat.one_ne_zero, Nat.zero_ne_one, Nat.reduceEqDiff, not_true_eq_false, not_false_eq_true, Nat.le_refl, ng_le, ng_lt, ng_nle, ng_nlt, ng_eq, ng_eq2, Bool.false_eq_true, lit_nI, nI_add, pk_mul, nI_leI, nI_ltI, nI_eq, e1, eb, e3]
      · obtain ⟨km, rfl⟩ : ∃ z, km = z + 2 := ⟨km - 2, by omega⟩
        obtain ⟨I', L3, x1, x2, x5, x3, x4⟩ := hR I L2 ru2 (km + 1) a0 k2 k3 k4 k5
        exact ⟨I', L3, x1.trans (m_K96 hf0 hf), x2, x5, x4 hf0⟩
  · obtain ⟨J1, e1, f1, s1⟩ := xs_wordN (L := L) (ru := ru) (n := n) hS wd_bar lt_bar q (by omega)
    have r33 : J1 33 = J 33 := f1.1.at (by decide) (by decide)
    have hr := r_unless (L := L) (ru := ru) (W := W) (last := last) (b := b) hT2 hn hb20 (by omega) (by rw [hid]; exact h1) (by rw [hid]; exact fun z => absurd z q) s1 (by unfold RvK; rw [r33]; exact hV)
    refine (hr.mono (by decide)).skip f1 ?_
    simp (config := { maxSteps := 2000000 }) (disch := omega) only [f218_J104, ux_at, ux_kk, ux_jo, gIx, pIx, pZx, gRx, aIx, sIx, aBx, sBx, lenx, clx, wshS, obS, reduceIte, Nat.one_ne_zero, Nat.zero_ne_one, Nat.reduceEqDiff, not_true_eq_false, not_false_eq_true, Nat.le_refl, ng_le, ng_lt, ng_nle, ng_nlt, ng_eq, ng_eq2, Bool.false_eq_true, lit_nI, nI_add, pk_mul, nI_leI, nI_ltI, nI_eq, e1]
theorem r_need (hT2 : ∀ i, T i < 256) (hn : 1000 < n) {b a : Nat} {W : Nat → Int32} (hb20 : b ≤ 15) (hbz : J 33 2 = nI 0) (hS : XS J T N a) (hV : RvK J) : RNX n T N L ru J b 0 a 4 W (f218_J84 n 33 1 (mW J L ru)) := by
  have ha := hS.2.1
  have hN := hS.1.2.1
  have hid := skN_id T N a
  by_cases q : isW T N (skN T N a) wNeed
  · obtain ⟨J1, e1, f1, s1⟩ := xs_wordY (L := L) (ru := ru) (n := n) hS wd_need lt_need q (by omega)
    have hlt := (isW_first q (by decide) (skN_le ha)).1
    have r33 : J1 33 = J 33 := f1.1.at (by decide) (by decide)
    obtain ⟨J2, v, f, p, a', e2, f2, hf, hp, hna, c0, c1, hM⟩ := two_num (L := L) (ru := ru) (n := n) (lo := 0) (hi := 54) hT2 s1 (by decide) (by decide) (by omega)
    have r2 : J2 33 = J 33 := (f2.1.at (by decide) (by decide)).trans r33
    have hR : ∀ I L2 ru2 km a0, a0 ≤ N → skN T N a0 = skN T N a → MS I T N a0 → RQ I J b W → ∃ I' L2', f204_H185 n (fun e6 w87 => some (e6, w87)) (km + 1) 67 (nI b) (nI 0) (nI 0) (mW I L2 ru2) = f204_H185 n (fun e6 w87 => some (e6, w87)) km 67 (nI b) (nI 1) (nI f) (mW I' L2' ru2) ∧ Fr ruK ruF I I' ∧ (∀ q, q < b → I' 84 q = I 84 q) ∧ (f = 0 → MS I' T N a' ∧ RQ I' (u2 J2 33 1 v) b W) ∧ (f ≠ 0 → I' 67 16 = nI p) := by
      intro I L2 ru2 km a0 ha0 hsk hMS hRQ
      obtain ⟨Ib, Lb, y1, y2, y3, p1, p2, p3, p4⟩ := m_part (L := L2) (ru := ru2) (b := b) (last := 0) (km := km) (K96 := fun e6 w87 => some (e6, w87)) hT2 hn ha0 hMS (by rw [hsk]; exact hlt)
      rw [hsk] at y1 y3 p1 p2 p3 p4
      have s5 : MS (u2 Ib 67 17 (nI (wdN T N (skN T N a)))) T N (wdN T N (skN T N a)) := ⟨y1.1.fr (Fr.rf.uf (K := []) (F := [17]) (by decide)) (by decide) (by decide) (by decide), ux_at, (ux_j (by decide)).trans y1.2.2⟩
      obtain ⟨I1, m1, m2, m3, m4, m5⟩ := hM _ Lb ru2 s5
      have r84 : I1 84 = I 84 := (m2.at (by decide) (by decide)).trans ((ux_kk (by decide)).trans (y2.at (by decide) (by decide)))
      have g5 : Fr ruK ruF I I1 := ((y2.mono (by decide) (by decide)).uf (by decide)).tr (m2.mono (by decide) (by decide))
      have g6 : Fr [84] [] I1 (u2 I1 84 (b + 1) (I1 67 20)) := Fr.rf.u (by decide)
      refine ⟨u2 I1 84 (b + 1) (I1 67 20), Lb, (p1 q).trans ?_, g5.tr (g6.mono (by decide) (by decide)), fun q5 hq => by rw [ux_j (by omega), r84], fun z => ⟨(m4 z).1.fr g6 (by decide) (by decide) (by decide) (by decide), fun q5 hq => ?_, fun q5 hq => ?_⟩, fun z => (ux_k (by decide)).trans (m5 z)⟩
      · simp (config := { maxSteps := 2000000 }) (disch := omega) only [f204_J230, ux_at, ux_kk, ux_jo, gIm, pIm, pZm, gRm, aIm, sIm, aBm, sBm, gLm, pLm, clm, wshS, obS, reduceIte, Nat.one_ne_zero, Nat.zero_ne_one, Nat.reduceEqDiff, not_true_eq_false, not_false_eq_true, Nat.le_refl, ng_le, ng_lt, ng_nle, ng_nlt, ng_eq, ng_eq2, Bool.false_eq_true, lit_nI, nI_add, pk_mul, nI_leI, nI_ltI, nI_eq, y3, m1, Nat.zero_lt_one]
      · rw [ux_if, ux_if]
        by_cases e2 : q5 = 1
        · rw [if_pos (by omega), if_pos e2]
          exact (m4 z).2
        · rw [if_neg (by omega), if_neg e2, r84, hRQ.1 q5 hq, r2]
      · rw [ux_j (by omega), r84]
        exact hRQ.2 q5 hq
    by_cases hf0 : f = 0
    · subst hf0
      obtain ⟨s2, _, k, _, k2, rfl⟩ := c0 rfl
      have s3 : XS (u2 J2 33 1 (nI k)) T N a' := s2.fr (Fr.rf.u (K := [33]) (by decide)) (by decide) (by decide)
      have hV2 : RvK (u2 J2 33 1 (nI k)) := by
        obtain ⟨g1, g2, g3, g4⟩ := hV
        unfold RvK
        rw [ux_j (by decide : ¬ 0 = 1), ux_j (by decide : ¬ 2 = 1), ux_j (by decide : ¬ 3 = 1), ux_j (by decide : ¬ 4 = 1), r2]
        exact ⟨g1, ⟨k, k2, ux_at⟩, g3, g4⟩
      obtain ⟨J', f', p', z1, z2, z3, z4, z5, z6, z7, z8⟩ := r_bar (L := L) (ru := ru) (W := W) (last := 1) (b := b) hT2 hn hb20 (by decide) (fun _ => by decide) ((ux_j (by decide)).trans (by rw [r2]; exact hbz)) s3 hV2
      refine ⟨J', f', p', z1, z2, ?_, ((f1.sp.tr f2.sp).u (by decide)).tr z4, z5, z6, z7, fun I L2 ru2 km a0 k1 k2 k3 k4 k5 => ?_⟩
      · simp (config := { maxSteps := 2000000 }) (disch := omega) only [f218_J84, ux_at, ux_kk, ux_jo, gIx, pIx, pZx, gRx, aIx, sIx, aBx, sBx, lenx, clx, wshS, obS, reduceIte, Nat.one_ne_zero, Nat.zero_ne_one, Nat.reduceEqDiff, not_true_eq_false, not_false_eq_true, Nat.le_refl, ng_le, ng_lt, ng_nle, ng_nlt, ng_eq, ng_eq2, Bool.false_eq_true, lit_nI, nI_add, pk_mul, nI_leI, nI_ltI, nI_eq, e1, e2]
        exact z3
      · obtain ⟨km, rfl⟩ : ∃ z, km = z + 1 := ⟨km - 1, by omega⟩
        obtain ⟨I1, L3, x1, x2, x5, x3, x4⟩ := hR I L2 ru2 km a0 k2 k3 k4 k5
        obtain ⟨m1, m2⟩ := x3 rfl
        obtain ⟨I', L4, y1, y2, y5, y3, y4⟩ := z8 I1 L3 ru2 km a' (by omega) s2.2.1 rfl m1 m2
        exact ⟨I', L4, x1.trans y1, x2.tr y2, fun q5 hq => (y5 q5 hq).trans (x5 q5 hq), y3, y4⟩
    · obtain ⟨rfl, z2⟩ := c1 hf0
      have z2' : XZ (u2 J2 33 1 (nI 0)) T N f p := z2.fr (Fr.rf.u (K := [33]) (by decide)) (by decide) (by decide)
      obtain ⟨J3, e3, f3, z3⟩ := d104 (L := L) (ru := ru) (n := n) z2' hf0 hf (by omega)
      refine RNX.dead hf0 hf hp ?_ (((f1.sp.tr f2.sp).u (by decide)).tr f3) z3 fun I L2 ru2 km a0 k1 k2 k3 k4 k5 => ?_
      · simp (config := { maxSteps := 2000000 }) (disch := omega) only [f218_J84, ux_at, ux_kk, ux_jo, gIx, pIx, pZx, gRx, aIx, sIx, aBx, sBx, lenx, clx, wshS, obS, reduceIte, Nat.one_ne_zero, Nat.zero_ne_one, Nat.reduceEqDiff, not_true_eq_false, not_false_eq_true, Nat.le_refl, ng_le, ng_lt, ng_nle, ng_nlt, ng_eq, ng_eq2, Bool.false_eq_true, lit_nI, nI_add, pk_mul, nI_leI, nI_ltI, nI_eq, e1, e2, e3]
      · obtain ⟨km, rfl⟩ : ∃ z, km = z + 2 := ⟨km - 2, by omega⟩
        obtain ⟨I', L3, x1, x2, x5, x3, x4⟩ := hR I L2 ru2 (km + 1) a0 k2 k3 k4 k5
        exact ⟨I', L3, x1.trans (m_K96 hf0 hf), x2, x5, x4 hf0⟩
  · obtain ⟨J1, e1, f1, s1⟩ := xs_wordN (L := L) (ru := ru) (n := n) hS wd_need lt_need q (by omega)
    have r33 : J1 33 = J 33 := f1.1.at (by decide) (by decide)
    have hr := r_bar (L := L) (ru := ru) (W := W) (last := 0) (b := b) hT2 hn hb20 (by omega) (by rw [hid]; exact fun z => absurd z q) (by rw [r33]; exact hbz) s1 (by unfold RvK; rw [r33]; exact hV)
    refine (hr.mono (by decide)).skip f1 ?_
    simp (config := { maxSteps := 2000000 }) (disch := omega) only [f218_J84, ux_at, ux_kk, ux_jo, gIx, pIx, pZx, gRx, aIx, sIx, aBx, sBx, lenx, clx, wshS, obS, reduceIte, Nat.one_ne_zero, Nat.zero_ne_one, Nat.reduceEqDiff, not_true_eq_false, not_false_eq_true, Nat.le_refl, ng_le, ng_lt, ng_nle, ng_nlt, ng_eq, ng_eq2, Bool.false_eq_true, lit_nI, nI_add, pk_mul, nI_leI, nI_ltI, nI_eq, e1]
end
