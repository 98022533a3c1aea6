/-! TEXTS: a clause on both sides -/
theorem told_t {I J : St} {k t' : Nat} (h : RDr I J k) (h1 : J 27 2 = nI t') (h2 : t' < 16) : ∃ t, t < 32 ∧ I 67 33 = nI t ∧ t % 16 = t' := by
  obtain ⟨b1, b2, b3, b4, b5, ⟨t, c1, c2, c3⟩, b7⟩ := h
  refine ⟨t, c1, c2, ?_⟩
  rw [h1] at c3
  exact ((nI_eq (by omega) (by omega)).mp c3).symm
theorem DrK.put {J J' : St} (h : DrK J) (f : Fr [1, 15] [] J J') (h1 : ∃ k, k < 64 ∧ J' 15 0 = nI k) (h2 : ∃ k, k < 8 ∧ J' 15 1 = nI k) (h3 : J' 15 3 = nI 0 ∨ ∃ e d, 1 ≤ e ∧ e ≤ 9 ∧ d < 8 ∧ J' 15 3 = nI e ∧ J' 15 2 = nI d) (h4 : ∃ k, k ≤ 2 ∧ J' 15 4 = nI k) (h5 : J' 15 5 = J 15 5) : DrK J' := by
  obtain ⟨b1, b2, b3, b4, b5, b6, b7, b8⟩ := h
  have es : soD J' = soD J := by unfold soD; rw [h5]
  unfold DrK DrT
  rw [es, h5, f.at (k := 26) (by decide) (by decide), f.at (k := 27) (by decide) (by decide)]
  refine ⟨h1, h2, h3, h4, b5, b6, fun s hs => ?_, b8⟩
  have := b7 s hs
  unfold DrS at this ⊢
  rw [f.at (k := 16) (by decide) (by decide), f.at (k := 17) (by decide) (by decide), f.at (k := 20 + s) (by simp; omega) (by omega)]
  exact this
theorem RDr.put {I I' J J' : St} {k : Nat} (h : RDr I J k) (h6 : soD J ≤ 6) (f : Fr [1, 15] [] J J') (g : Fr [] [16, 17, 20, 21, 22, 23, 25, 26, 27] I I') (h1 : I' 67 22 = J' 15 0) (h2 : I' 67 23 = J' 15 1) (h3 : (J' 15 3 = nI 0 ∧ I' 67 26 = -nI 1 ∧ I' 67 25 = -nI 1) ∨ (J' 15 3 ≠ nI 0 ∧ I' 67 26 = J' 15 3 ∧ I' 67 25 = J' 15 2)) (h4 : I' 67 27 = J' 15 4) (h5 : J' 15 5 = J 15 5) : RDr I' J' k := by
  obtain ⟨b1, b2, b3, b4, b5, b6, b7, b8⟩ := h
  have es : soD J' = soD J := by unfold soD; rw [h5]
  unfold RDr
  rw [es, g.f (j := 28) (by decide) (by decide), g.f (j := 33) (by decide) (by decide), g.at (k := 77) (by decide) (by decide), g.at (k := 78) (by decide) (by decide), g.at (k := 79) (by decide) (by decide), g.at (k := 80) (by decide) (by decide), f.at (k := 26) (by decide) (by decide), f.at (k := 27) (by decide) (by decide), f.at (k := 16) (by decide) (by decide), f.at (k := 17) (by decide) (by decide)]
  refine ⟨h1, h2, h3, h4, b5, b6, b7, fun s hs => ?_⟩
  rw [f.at (k := 20 + s) (by simp; omega) (by omega)]
  exact b8 s hs
theorem RDr.told4 {I J : St} {k : Nat} (h : RDr I J k) {t : Nat} (ht : t < 32) (h1 : I 67 33 = nI t) : RDr (u2 I 67 33 (nI (t ||| 2 ^ 4))) J k := by
  obtain ⟨b1, b2, b3, b4, b5, ⟨t', c1, c2, c3⟩, b7, b8⟩ := h
  obtain ⟨a1, a2⟩ := told_4 t ht
  have et : t' = t := by
    rw [c2] at h1
    exact (nI_eq (by omega) (by omega)).mp h1
  unfold RDr
  rw [ux_j (by decide : ¬ 22 = 33), ux_j (by decide : ¬ 23 = 33), ux_j (by decide : ¬ 25 = 33), ux_j (by decide : ¬ 26 = 33), ux_j (by decide : ¬ 27 = 33), ux_j (by decide : ¬ 28 = 33), ux_kk (by decide : ¬ 77 = 67), ux_kk (by decide : ¬ 78 = 67), ux_kk (by decide : ¬ 79 = 67), ux_kk (by decide : ¬ 80 = 67)]
  exact ⟨b1, b2, b3, b4, b5, ⟨_, a1, ux_at, by rw [a2, ← et]; exact c3⟩, b7, b8⟩
section
variable {I J : St} {L : Lt} {ru n : Nat} {T : Nat → Nat} {N : Nat}
theorem DrK.told' (h : DrK J) {t i : Nat} (ht : t < 16) (hi : i < 4) (h1 : J 27 2 = nI t) : DrK (u2 J 27 2 (nI (t ||| 2 ^ i))) := by
  have e : t % 16 = t := Nat.mod_eq_of_lt ht
  have := h.told (t := t) (i := i) (by omega) hi (by rw [e]; exact h1)
  rw [e] at this
  exact this
theorem x_onceNo' {t i b st a : Nat} (hi : i < 4) (hb : b = 2 ^ i) (ht : t < 16) (hS : XS J T N a) (hD : DrK J) (h : J 27 2 = nI t) (h0 : bN t i ≠ 0) : ∃ J', f76 27 (nI b) (nI st) (mW J L ru) = some (mW J' L ru) ∧ Fr dxK [] J J' ∧ XZ J' T N 3 st ∧ DrK J' := by
  obtain ⟨e1, e2⟩ := told_and t ht i hi
  have e1 : ¬ _ := fun z => h0 (e1.mp z)
  obtain ⟨J1, x1, f1, z1⟩ := xs_fail (L := L) (ru := ru) (k := 3) (p := st) hS (by decide)
  have h2 : J1 27 2 = nI t := by rw [f1.1.at (by decide) (by decide)]; exact h
  subst hb
  refine ⟨u2 J1 27 2 (nI (t ||| 2 ^ i)), ?_, f1.dx.u (by decide), z1.fr (Fr.rf.u (K := [27]) (by decide)) (by decide) (by decide), (hD.fr f1.1 (by decide)).told' ht hi h2⟩
  simp (config := { maxSteps := 2000000 }) (disch := omega) only [f76, f76_J18, ux_at, ux_kk, ux_jo, gIx, pIx, pZx, gRx, aIx, sIx, aBx, sBx, lenx, clx, wshS, obS, reduceIte, Nat.one_ne_zero, Nat.zero_ne_one, Nat.reduceEqDiff, not_true_eq_false, not_false_eq_true, Nat.le_refl, ng_le, ng_lt, ng_nle, ng_nlt, ng_eq, ng_eq2, Bool.false_eq_true, lit_nI, nI_add, pk_mul, nI_leI, nI_ltI, nI_eq, h, e1, e2, x1, h2]
theorem rocks_dead {f p : Nat} (h : XZ J T N f p) (hf : f ≠ 0) (h6 : f < 6) (hD : DrK J) (hn : 500 < n) : ∃ J', f176 n 27 (mW J L ru) = some (mW J' L ru) ∧ Fr dxK [] J J' ∧ XZ J' T N f p := by
  obtain ⟨J1, e1, f1, z1⟩ := xz_num (L := L) (ru := ru) (n := n) (lo := nI 0) (hi := nI 63) h hf h6 hn
  have d1 := hD.fr f1.1 (by decide)
  have rkc := d1.2.2.2.2.2.1 0 (by decide)
  have hr := dr_isRock (J := J1) (L := L) (ru := ru) (c := 0) (by decide) rkc
  have xf := xz_f z1
  obtain ⟨J3, e3, f3, z3⟩ := xz_sign (L := L) (ru := ru) (n := n) (x := nI 44) z1 hf h6 hn
  refine ⟨J3, ?_, f1.dx.tr f3.dx, z3⟩
  obtain ⟨m, hm⟩ : ∃ z, n = z + 1 := ⟨n - 1, by omega⟩
  have he := fun v w => rocks_end (n := n) (K := fun w38 => some w38) (v := v) (w := w) m (by omega)
  have ef := fun y => xz_fail (L := L) (ru := ru) (x := nI 4) (y := y) z1 hf h6
  unfold f176
  conv => lhs; arg 3; rw [hm]
  rcases rkc with rc | rc
  · rw [rc] at hr
    simp (config := { maxSteps := 2000000 }) (disch := omega) only [f176_H4, f176_J51, f176_J69, ux_at, ux_kk, ux_jo, gIx, pIx, pZx, gRx, aIx, sIx, aBx, sBx, lenx, clx, wshS, obS, reduceIte, Nat.one_ne_zero, Nat.zero_ne_one, Nat.reduceEqDiff, not_true_eq_false, not_false_eq_true, Nat.le_refl, ng_le, ng_lt, ng_nle, ng_nlt, ng_eq, ng_eq2, Bool.false_eq_true, lit_nI, nI_add, pk_mul, nI_leI, nI_ltI, nI_eq, Nat.not_lt_zero, e1, hr, xf, hf, e3, he]
  · rw [rc] at hr
    simp (config := { maxSteps := 2000000 }) (disch := omega) only [f176_H4, f176_J51, f176_J69, ux_at, ux_kk, ux_jo, gIx, pIx, pZx, gRx, aIx, sIx, aBx, sBx, lenx, clx, wshS, obS, reduceIte, Nat.one_ne_zero, Nat.zero_ne_one, Nat.reduceEqDiff, not_true_eq_false, not_false_eq_true, Nat.le_refl, ng_le, ng_lt, ng_nle, ng_nlt, ng_eq, ng_eq2, Bool.false_eq_true, lit_nI, nI_add, pk_mul, nI_leI, nI_ltI, nI_eq, Nat.not_lt_zero, e1, hr, ef, xf, hf, e3, he]
theorem people_dead {f p : Nat} (h : XZ J T N f p) (hf : f ≠ 0) (h6 : f < 6) (hn : 500 < n) : ∃ J', f206 n 27 (mW J L ru) = some (mW J' L ru) ∧ Fr dxK [] J J' ∧ XZ J' T N f p := by
  obtain ⟨J1, e1, f1, z1⟩ := xz_num (L := L) (ru := ru) (n := n) (lo := nI 1) (hi := nI 9) h hf h6 hn
  have xf := xz_f z1
  refine ⟨J1, ?_, f1.dx, z1⟩
  simp (config := { maxSteps := 2000000 }) (disch := omega) only [f206, ux_at, ux_kk, ux_jo, gIx, pIx, pZx, gRx, aIx, sIx, aBx, sBx, lenx, clx, wshS, obS, reduceIte, Nat.one_ne_zero, Nat.zero_ne_one, Nat.reduceEqDiff, not_true_eq_false, not_false_eq_true, Nat.le_refl, ng_le, ng_lt, ng_nle, ng_nlt, ng_eq, ng_eq2, Bool.false_eq_true, lit_nI, nI_add, pk_mul, nI_leI, nI_ltI, nI_eq, e1, xf, hf]
/-- a dead number that is stored -/
theorem num_dead {f p j : Nat} {lo hi : Int32} (h : XZ J T N f p) (hf : f ≠ 0) (h6 : f < 6) (hn : 500 < n) : ∃ J1, f140 n 1 lo hi (mW J L ru) = some (nI 0, mW J1 L ru) ∧ Fr dxK [] J (u2 J1 15 j (nI 0)) ∧ XZ (u2 J1 15 j (nI 0)) T N f p := by
  obtain ⟨J1, e1, f1, z1⟩ := xz_num (L := L) (ru := ru) (n := n) (lo := lo) (hi := hi) h hf h6 hn
  exact ⟨J1, e1, f1.dx.u (by decide), z1.fr (Fr.rf.u (K := [15]) (by decide)) (by decide) (by decide)⟩
theorem xs_nY {a : Nat} {u : UInt32} {wl : List Nat} (h : XS J T N a) (hD : WD u wl) (hl : ltW wl) (hk : skN T N a = a) (q : isW T N a wl) (hn : 500 < n) : ∃ J', f197 n 1 u (mW J L ru) = some (nI 1, mW J' L ru) ∧ TF J J' ∧ XS J' T N (wdN T N a) := by
  have := xs_wordY (L := L) (ru := ru) (n := n) h hD hl (by rw [hk]; exact q) hn
  rw [hk] at this
  exact this
theorem xs_nN {a : Nat} {u : UInt32} {wl : List Nat} (h : XS J T N a) (hD : WD u wl) (hl : ltW wl) (hk : skN T N a = a) (q : ¬ isW T N a wl) (hn : 500 < n) : ∃ J', f197 n 1 u (mW J L ru) = some (nI 0, mW J' L ru) ∧ TF J J' ∧ XS J' T N a := by
  have := xs_wordN (L := L) (ru := ru) (n := n) h hD hl (by rw [hk]; exact q) hn
  rw [hk] at this
  exact this
theorem wdN_lt {a : Nat} {w : List Nat} (q : isW T N a w) (hw : 0 < w.length) : a < wdN T N a := by
  have := q.1
  omega
def cl_ship (n : Nat) (v0 : Nat) (v1 : Int32) (w : Wd) : Option Wd :=
  (if (wsh w v0).map (fun q => q.1) = some 7 then ob (f76 v0 (1 : Int32) v1 w) (fun p86 => ob (getR p86 7 v0 1) (fun x88 => ob (getR p86 7 v0 0) (fun x90 => (if (wsh p86 x90).map (fun q => q.1) = some 9 then ob (f140 n x90 (0 : Int32) (63 : Int32) p86) (fun p92 => ob (putI p92.2 6 x88 0 p92.1) (fun w94 => ob (getR w94 7 v0 1) (fun x96 => ob (getR w94 7 v0 0) (fun x98 => (if (wsh w94 x98).map (fun q => q.1) = some 9 then ob (f140 n x98 (0 : Int32) (7 : Int32) w94) (fun p100 => ob (putI p100.2 6 x96 1 p100.1) (fun w102 => some w102)) else none))))) else none)))) else none)
def cl_rocks (n : Nat) (v0 : Nat) (v1 : Int32) (w : Wd) : Option Wd :=
  (if (wsh w v0).map (fun q => q.1) = some 7 then ob (f76 v0 (2 : Int32) v1 w) (fun p78 => (if (wsh p78 v0).map (fun q => q.1) = some 7 then ob (f176 n v0 p78) (fun p80 => some p80) else none)) else none)
def cl_drift (n : Nat) (v0 : Nat) (v1 : Int32) (w : Wd) : Option Wd :=
  (if (wsh w v0).map (fun q => q.1) = some 7 then ob (f76 v0 (4 : Int32) v1 w) (fun p55 => ob (getR p55 7 v0 1) (fun x57 => ob (getR p55 7 v0 0) (fun x59 => (if (wsh p55 x59).map (fun q => q.1) = some 9 then ob (f140 n x59 (0 : Int32) (7 : Int32) p55) (fun p61 => ob (putI p61.2 6 x57 2 p61.1) (fun w63 => ob (getR w63 7 v0 1) (fun x65 => ob (getR w63 7 v0 0) (fun x67 => (if (wsh w63 x67).map (fun q => q.1) = some 9 then ob (f140 n x67 (1 : Int32) (9 : Int32) w63) (fun p69 => ob (putI p69.2 6 x65 3 p69.1) (fun w71 => some w71)) else none))))) else none)))) else none)
def cl_lag (n : Nat) (v0 : Nat) (v1 : Int32) (w : Wd) : Option Wd :=
  (if (wsh w v0).map (fun q => q.1) = some 7 then ob (f76 v0 (8 : Int32) v1 w) (fun p41 => ob (getR p41 7 v0 1) (fun x43 => ob (getR p41 7 v0 0) (fun x45 => (if (wsh p41 x45).map (fun q => q.1) = some 9 then ob (f140 n x45 (0 : Int32) (2 : Int32) p41) (fun p47 => ob (putI p47.2 6 x43 4 p47.1) (fun w49 => some w49)) else none)))) else none)
def cl_sort (n : Nat) (v0 : Nat) (v1 : Int32) (w : Wd) : Option Wd :=
  ob (getR w 7 v0 1) (fun x26 => ob (getI w 6 x26 5) (fun x28 => (if x28 < (6 : Int32) then f217_J206 n v0 w
              else ob (getR w 7 v0 0) (fun x33 => (if (wsh w x33).map (fun q => q.1) = some 9 then ob (f8 x33 (3 : Int32) v1 w) (fun p35 => f217_J206 n v0 p35) else none)))))
def cl_none (v0 : Nat) (v1 : Int32) (w : Wd) : Option Wd :=
  ob (getR w 7 v0 0) (fun x21 => (if (wsh w x21).map (fun q => q.1) = some 9 then ob (f8 x21 (1 : Int32) v1 w) (fun p23 => some p23) else none))
def cl_4 (n : Nat) (v0 : Nat) (v1 : Int32) (w : Wd) : Option Wd := ob (getR w 7 v0 0) (fun x1 => (if (wsh w x1).map (fun q => q.1) = some 9 then ob (f197 n x1 20 w) (fun p3 => (if p3.1 = 0 then cl_none v0 v1 p3.2 else cl_sort n v0 v1 p3.2)) else none))
def cl_3 (n : Nat) (v0 : Nat) (v1 : Int32) (w : Wd) : Option Wd := ob (getR w 7 v0 0) (fun x1 => (if (wsh w x1).map (fun q => q.1) = some 9 then ob (f197 n x1 19 w) (fun p3 => (if p3.1 = 0 then cl_4 n v0 v1 p3.2 else cl_lag n v0 v1 p3.2)) else none))
def cl_2 (n : Nat) (v0 : Nat) (v1 : Int32) (w : Wd) : Option Wd := ob (getR w 7 v0 0) (fun x1 => (if (wsh w x1).map (fun q => q.1) = some 9 then ob (f197 n x1 18 w) (fun p3 => (if p3.1 = 0 then cl_3 n v0 v1 p3.2 else cl_drift n v0 v1 p3.2)) else none))
def cl_1 (n : Nat) (v0 : Nat) (v1 : Int32) (w : Wd) : Option Wd := ob (getR w 7 v0 0) (fun x1 => (if (wsh w x1).map (fun q => q.1) = some 9 then ob (f197 n x1 17 w) (fun p3 => (if p3.1 = 0 then cl_2 n v0 v1 p3.2 else cl_rocks n v0 v1 p3.2)) else none))
theorem cl_eq (v0 : Nat) (v1 : Int32) (w : Wd) : f217 n v0 v1 w = ob (getR w 7 v0 0) (fun x1 => (if (wsh w x1).map (fun q => q.1) = some 9 then ob (f197 n x1 16 w) (fun p3 => (if p3.1 = 0 then cl_1 n v0 v1 p3.2 else cl_ship n v0 v1 p3.2)) else none)) := rfl
theorem m_stM {x : Int32} (h28 : I 67 28 = nI 6) : f211 n 67 x (mW I L ru) = some (nI 3, mW (u2 I 67 16 x) L ru) := by
  simp (config := { maxSteps := 2000000 }) (disch := omega) only [f211, f46, ux_at, ux_kk, ux_jo, gIm, pIm, pZm, gRm, aIm, sIm, aBm, sBm, gLm, pLm, clm, wshS, obS, reduceIte, Nat.one_ne_zero, Nat.zero_ne_one, Nat.reduceEqDiff, not_true_eq_false, not_false_eq_true, Nat.le_refl, ng_le, ng_lt, ng_nle, ng_nlt, ng_eq, ng_eq2, Bool.false_eq_true, lit_nI, nI_add, pk_mul, nI_leI, nI_ltI, nI_eq, h28]
theorem c_ship (hT2 : ∀ i, T i < 256) (hn : 1000 < n) {a : Nat} (hS : XS J T N a) (hk : skN T N a = a) (hD : DrK J) (q0 : isW T N a wShip) : CLN n T N L ru J a (f217 n 27 (nI a) (mW J L ru)) := by
  have ha := hS.2.1
  have hN := hS.1.2.1
  have h66 := hD.2.2.2.2.1.2
  obtain ⟨t', ht', hto, hrk⟩ := hD.2.2.2.2.2.2.2
  have hlt := wdN_lt q0 (by decide)
  obtain ⟨Jw0, w0, g0, s0⟩ := xs_nY (L := L) (ru := ru) (n := n) hS wd_ship lt_ship hk q0 (by omega)
  have t0 : f217 n 27 (nI a) (mW J L ru) = cl_ship n 27 (nI a) (mW Jw0 L ru) := by
    rw [cl_eq]
    simp (config := { maxSteps := 2000000 }) (disch := omega) only [ux_at, ux_kk, ux_jo, gIx, pIx, pZx, gRx, aIx, sIx, aBx, sBx, lenx, clx, wshS, obS, reduceIte, Nat.one_ne_zero, Nat.zero_ne_one, Nat.reduceEqDiff, not_true_eq_false, not_false_eq_true, Nat.le_refl, ng_le, ng_lt, ng_nle, ng_nlt, ng_eq, ng_eq2, Bool.false_eq_true, lit_nI, nI_add, pk_mul, nI_leI, nI_ltI, nI_eq, w0]
  have d1 := hD.fr g0.1 (by decide)
  have to1 : Jw0 27 2 = nI t' := by rw [g0.1.at (by decide) (by decide)]; exact hto
  have es1 : soD Jw0 = soD J := by unfold soD; rw [g0.1.at (by decide) (by decide)]
  by_cases h0 : bN t' 0 = 0
  · have eo := x_onceOk (J := Jw0) (L := L) (ru := ru) (t := t') (i := 0) (b := 1) (st := nI a) (by decide) rfl ht' to1 h0
    have d2 := d1.told' ht' (i := 0) (by decide) to1
    have s2 : XS (u2 Jw0 27 2 (nI (t' ||| 2 ^ 0))) T N (wdN T N a) := s0.fr (Fr.rf.u (K := [27]) (by decide)) (by decide) (by decide)
    have es2 : soD (u2 Jw0 27 2 (nI (t' ||| 2 ^ 0))) = soD J := by
      refine Eq.trans ?_ es1
      unfold soD
      rw [ux_kk (by decide)]
    have fx2 : Fr dxK [] J (u2 Jw0 27 2 (nI (t' ||| 2 ^ 0))) := g0.dx.u (by decide)
    have to2 : (u2 Jw0 27 2 (nI (t' ||| 2 ^ 0))) 27 2 = nI (t' ||| 2 ^ 0) := ux_at
    have rk2 : (u2 Jw0 27 2 (nI (t' ||| 2 ^ 0))) 26 = J 26 := (ux_kk (by decide)).trans (g0.1.at (by decide) (by decide))
    -- the reference, behind its head
    have hR : ∀ I L2 ru2, MS I T N a → RDr I J (soD J) → ∃ Ib La, f226 n 67 (mW I L2 ru2) = f226_J152 n 67 (nI 0) 67 (nI 0) (nI 63) (mW Ib La ru2) ∧ MS Ib T N (wdN T N a) ∧ Fr [] [17, 19, 33] I Ib ∧ RDr Ib (u2 Jw0 27 2 (nI (t' ||| 2 ^ 0))) (soD J) := by
      intro I L2 ru2 hMS hRD
      obtain ⟨t, ht, h33, htt⟩ := told_t hRD hto ht'
      have hb : bN t 0 = 0 := by
        have := (told_all t ht 0 (by decide)).2.2.1
        rw [htt] at this
        omega
      obtain ⟨Ib, La, x1, x2, x3, x4⟩ := m_head0 (L := L2) (ru := ru2) hT2 hn hMS ha hk ht h33 q0 hb
      refine ⟨Ib, La, x1, x2, x3, ?_⟩
      have r1 := ((hRD.x h66 g0.1 (by decide)).told (J := Jw0) (t := t) (i := 0) (by omega) ht (by decide))
      rw [htt] at r1
      exact r1.m x4 (by decide) (by decide)
    generalize u2 Jw0 27 2 (nI (t' ||| 2 ^ 0)) = J2 at *
    have h62 := d2.2.2.2.2.1.2
    obtain ⟨J3, v, f, p, a1, e1, f1, hf, hp, hna, c0, c1, hM1⟩ := two_num (J := J2) (L := L) (ru := ru) (n := n) (lo := 0) (hi := 63) hT2 s2 (by decide) (by decide) (by omega)
    have hst : ∀ I1 L2 ru2 v g, g < 6 → f226_J197 n 67 (nI 0) v (nI g) (mW I1 L2 ru2) = f226_J271 n 67 (nI g) (mW (u2 (u2 (u2 (u2 I1 67 22 v) 67 23 (I1 67 20)) 67 25 (I1 67 25)) 67 26 (I1 67 26)) L2 ru2) := by
      intro I1 L2 ru2 v g hg
      simp (config := { maxSteps := 2000000 }) (disch := omega) only [f226_J197, f226_J213, f226_J232, f226_J249, ux_at, ux_kk, ux_jo, gIm, pIm, pZm, gRm, aIm, sIm, aBm, sBm, gLm, pLm, clm, wshS, obS, reduceIte, Nat.one_ne_zero, Nat.zero_ne_one, Nat.reduceEqDiff, not_true_eq_false, not_false_eq_true, Nat.le_refl, ng_le, ng_lt, ng_nle, ng_nlt, ng_eq, ng_eq2, Bool.false_eq_true, lit_nI, nI_add, pk_mul, nI_leI, nI_ltI, nI_eq]
    have g4 : ∀ I1 v, Fr [] [22, 23, 25, 26] I1 (u2 (u2 (u2 (u2 I1 67 22 v) 67 23 (I1 67 20)) 67 25 (I1 67 25)) 67 26 (I1 67 26)) := fun I1 v => (((Fr.rf.uf (by decide)).uf (by decide)).uf (by decide)).uf (by decide)
    have b4 : ∀ I1 : St, ∀ v, (u2 (u2 (u2 (u2 I1 67 22 v) 67 23 (I1 67 20)) 67 25 (I1 67 25)) 67 26 (I1 67 26)) 67 16 = I1 67 16 := fun I1 v => (ux_j (by decide)).trans ((ux_j (by decide)).trans ((ux_j (by decide)).trans (ux_j (by decide))))
    by_cases hf0 : f = 0
    · subst hf0
      obtain ⟨s3, lt3, k1, k1a, hk1, hv⟩ := c0 rfl
      have s4 : XS (u2 J3 15 0 v) T N a1 := s3.fr (Fr.rf.u (K := [15]) (by decide)) (by decide) (by decide)
      obtain ⟨J5, v2, g, p2, a2, e2, f2, hg, hp2, hna2, c2, c3, hM2⟩ := two_num (J := u2 J3 15 0 v) (L := L) (ru := ru) (n := n) (lo := 0) (hi := 7) hT2 s4 (by decide) (by decide) (by omega)
      have ex : f217 n 27 (nI a) (mW J L ru) = some (mW (u2 J5 15 1 v2) L ru) := by
        rw [t0]
        simp (config := { maxSteps := 2000000 }) (disch := omega) only [cl_ship, ux_at, ux_kk, ux_jo, gIx, pIx, pZx, gRx, aIx, sIx, aBx, sBx, lenx, clx, wshS, obS, reduceIte, Nat.one_ne_zero, Nat.zero_ne_one, Nat.reduceEqDiff, not_true_eq_false, not_false_eq_true, Nat.le_refl, ng_le, ng_lt, ng_nle, ng_nlt, ng_eq, ng_eq2, Bool.false_eq_true, lit_nI, nI_add, pk_mul, nI_leI, nI_ltI, nI_eq, eo, e1, e2]
      have fx6 : Fr [1, 15] [] J2 (u2 J5 15 1 v2) := (((f1.1.mono (by decide) (by decide)).u (by decide)).tr (f2.1.mono (by decide) (by decide))).u (by decide)
      have fx7 : Fr dxK [] J (u2 J5 15 1 v2) := fx2.tr (fx6.mono (by decide) (by decide))
      have e5 : J5 15 = (u2 J3 15 0 v) 15 := f2.1.at (by decide) (by decide)
      have e3 : J3 15 = J2 15 := f1.1.at (by decide) (by decide)
      have hA : ∀ j, j ≠ 1 → (u2 J5 15 1 v2) 15 j = (u2 J3 15 0 v) 15 j := fun j hj => (ux_j hj).trans (congrFun e5 j)
      have hB : ∀ j, j ≠ 0 → j ≠ 1 → (u2 J5 15 1 v2) 15 j = J2 15 j := fun j h1 h2 => (hA j h2).trans ((ux_j h1).trans (congrFun e3 j))
      have hC : (u2 J5 15 1 v2) 15 0 = v := (hA 0 (by decide)).trans ux_at
      have hE : (u2 J5 15 1 v2) 15 1 = v2 := ux_at
      have s6 : ∀ x, XS J5 T N x → XS (u2 J5 15 1 v2) T N x := fun x h => h.fr (Fr.rf.u (K := [15]) (by decide)) (by decide) (by decide)
      have z6 : ∀ x y, XZ J5 T N x y → XZ (u2 J5 15 1 v2) T N x y := fun x y h => h.fr (Fr.rf.u (K := [15]) (by decide)) (by decide) (by decide)
      generalize u2 J5 15 1 v2 = J6 at *
      -- the reference, up to its stores
      have hR2 : ∀ I L2 ru2, MS I T N a → RDr I J (soD J) → ∃ I2 La, f226 n 67 (mW I L2 ru2) = f226_J271 n 67 (nI g) (mW (u2 (u2 (u2 (u2 I2 67 22 v) 67 23 (I2 67 20)) 67 25 (I2 67 25)) 67 26 (I2 67 26)) La ru2) ∧ Fr dmK dmF I I2 ∧ RDr I2 J2 (soD J) ∧ (g = 0 → MS I2 T N a2 ∧ I2 67 20 = v2) ∧ (g ≠ 0 → I2 67 16 = nI p2) := by
        intro I L2 ru2 hMS hRD
        obtain ⟨Ib, La, x1, x2, x3, x4⟩ := hR I L2 ru2 hMS hRD
        obtain ⟨I1, m1, m2, m3, m4, m5⟩ := hM1 Ib La ru2 x2
        obtain ⟨q3, q4⟩ := m4 rfl
        obtain ⟨I2, m6, m7, m8, m9, m10⟩ := hM2 I1 La ru2 q3
        refine ⟨I2, La, ?_, ((x3.mono (by decide) (by decide)).tr (m2.mono (by decide) (by decide))).tr (m7.mono (by decide) (by decide)), (x4.m m2 (by decide) (by decide)).m m7 (by decide) (by decide), m9, m10⟩
        rw [x1, ← hst I2 La ru2 v g hg]
        simp (config := { maxSteps := 2000000 }) (disch := omega) only [f226_J152, f226_J183, f226_J194, ux_at, ux_kk, ux_jo, gIm, pIm, pZm, gRm, aIm, sIm, aBm, sBm, gLm, pLm, clm, wshS, obS, reduceIte, Nat.one_ne_zero, Nat.zero_ne_one, Nat.reduceEqDiff, not_true_eq_false, not_false_eq_true, Nat.le_refl, ng_le, ng_lt, ng_nle, ng_nlt, ng_eq, ng_eq2, Bool.false_eq_true, lit_nI, nI_add, pk_mul, nI_leI, nI_ltI, nI_eq, m1, q4, m6]
      by_cases hg0 : g = 0
      · subst hg0
        obtain ⟨s5, lt5, k2, k2a, hk2, hv2⟩ := c2 rfl
        have d6 : DrK J6 := d2.put fx6 ⟨k1, by omega, hC.trans hv⟩ ⟨k2, by omega, hE.trans hv2⟩ (by rw [hB 3 (by decide) (by decide), hB 2 (by decide) (by decide)]; exact d2.2.2.1) (by rw [hB 4 (by decide) (by decide)]; exact d2.2.2.2.1) (hB 5 (by decide) (by decide))
        have es9 : soD J6 = soD J := by
          refine Eq.trans ?_ es2
          unfold soD
          rw [hB 5 (by decide) (by decide)]
        refine ⟨J6, 0, 0, a2, by decide, by decide, ex, fx7, fun _ => ⟨s6 _ s5, by omega, d6⟩, fun y => absurd rfl y, fun I L2 ru2 hMS hRD => ?_⟩
        obtain ⟨I2, La, x1, x2, x3, x4, x5⟩ := hR2 I L2 ru2 hMS hRD
        obtain ⟨q5, q6⟩ := x4 rfl
        have g9 := g4 I2 v
        have h22 : (u2 (u2 (u2 (u2 I2 67 22 v) 67 23 (I2 67 20)) 67 25 (I2 67 25)) 67 26 (I2 67 26)) 67 22 = v := (ux_j (by decide)).trans ((ux_j (by decide)).trans ((ux_j (by decide)).trans ux_at))
        have h23 : (u2 (u2 (u2 (u2 I2 67 22 v) 67 23 (I2 67 20)) 67 25 (I2 67 25)) 67 26 (I2 67 26)) 67 23 = I2 67 20 := (ux_j (by decide)).trans ((ux_j (by decide)).trans ux_at)
        have h25 : (u2 (u2 (u2 (u2 I2 67 22 v) 67 23 (I2 67 20)) 67 25 (I2 67 25)) 67 26 (I2 67 26)) 67 25 = I2 67 25 := (ux_j (by decide)).trans ux_at
        have h26 : (u2 (u2 (u2 (u2 I2 67 22 v) 67 23 (I2 67 20)) 67 25 (I2 67 25)) 67 26 (I2 67 26)) 67 26 = I2 67 26 := ux_at
        have h27 : (u2 (u2 (u2 (u2 I2 67 22 v) 67 23 (I2 67 20)) 67 25 (I2 67 25)) 67 26 (I2 67 26)) 67 27 = I2 67 27 := (ux_j (by decide)).trans ((ux_j (by decide)).trans ((ux_j (by decide)).trans (ux_j (by decide))))
        have ms9 := q5.fr g9 (by decide) (by decide) (by decide) (by decide)
        generalize (u2 (u2 (u2 (u2 I2 67 22 v) 67 23 (I2 67 20)) 67 25 (I2 67 25)) 67 26 (I2 67 26)) = I3 at *
        have rd9 : RDr I3 J6 (soD J) := x3.put h62 fx6 (g9.mono (by decide) (by decide)) (h22.trans hC.symm) (h23.trans (q6.trans hE.symm)) (by rw [hB 3 (by decide) (by decide), hB 2 (by decide) (by decide), h25, h26]; exact x3.2.2.1) (by rw [h27, hB 4 (by decide) (by decide)]; exact x3.2.2.2.1) (hB 5 (by decide) (by decide))
        obtain ⟨I', y5, y6, y7, y8⟩ := m_271s (L := La) (ru := ru2) (n := n) ms9 (s6 _ s5).2.1 (by omega)
        refine ⟨I', La, x1.trans y5, ((x2.tr (g9.mono (by decide) (by decide))).tr (y6.mono (by decide) (by decide))), fun z => ⟨y7 z, ?_⟩, fun z => (y8 z).trans (by unfold stP; rw [if_pos rfl])⟩
        rw [es9]
        exact rd9.m y6 (by decide) (by decide)
      · refine CLN.dead hg0 hg hp2 ex fx7 (z6 _ _ (c3 hg0).2) fun I L2 ru2 hMS hRD => ?_
        obtain ⟨I2, La, x1, x2, x3, x4, x5⟩ := hR2 I L2 ru2 hMS hRD
        exact ⟨_, La, x1.trans (m_271f hg0 hg), x2.tr ((g4 I2 v).mono (by decide) (by decide)), (b4 I2 v).trans (x5 hg0)⟩
    · obtain ⟨rfl, z3⟩ := c1 hf0
      have z4 : XZ (u2 J3 15 0 (nI 0)) T N f p := z3.fr (Fr.rf.u (K := [15]) (by decide)) (by decide) (by decide)
      obtain ⟨J5, e2, f2, z5⟩ := num_dead (J := u2 J3 15 0 (nI 0)) (L := L) (ru := ru) (n := n) (j := 1) (lo := nI 0) (hi := nI 7) z4 hf0 hf (by omega)
      refine CLN.dead hf0 hf hp ?_ ((fx2.tr (f1.dx.u (by decide))).tr f2) z5 fun I L2 ru2 hMS hRD => ?_
      · rw [t0]
        simp (config := { maxSteps := 2000000 }) (disch := omega) only [cl_ship, ux_at, ux_kk, ux_jo, gIx, pIx, pZx, gRx, aIx, sIx, aBx, sBx, lenx, clx, wshS, obS, reduceIte, Nat.one_ne_zero, Nat.zero_ne_one, Nat.reduceEqDiff, not_true_eq_false, not_false_eq_true, Nat.le_refl, ng_le, ng_lt, ng_nle, ng_nlt, ng_eq, ng_eq2, Bool.false_eq_true, lit_nI, nI_add, pk_mul, nI_leI, nI_ltI, nI_eq, eo, e1, e2]
      · obtain ⟨Ib, La, x1, x2, x3, x4⟩ := hR I L2 ru2 hMS hRD
        obtain ⟨I1, m1, m2, m3, m4, m5⟩ := hM1 Ib La ru2 x2
        have hx := hst I1 La ru2 (I1 67 20) f hf
        rw [m_271f hf0 hf] at hx
        have h0' : ¬ f ≤ 0 := Nat.not_le_of_gt (Nat.pos_of_ne_zero hf0)
        refine ⟨_, La, ?_, ((x3.mono (by decide) (by decide)).tr (m2.mono (by decide) (by decide))).tr ((g4 I1 (I1 67 20)).mono (by decide) (by decide)), (b4 I1 (I1 67 20)).trans (m5 hf0)⟩
        rw [x1, ← hx]
        simp (config := { maxSteps := 2000000 }) (disch := omega) only [f226_J152, ux_at, ux_kk, ux_jo, gIm, pIm, pZm, gRm, aIm, sIm, aBm, sBm, gLm, pLm, clm, wshS, obS, reduceIte, Nat.one_ne_zero, Nat.zero_ne_one, Nat.reduceEqDiff, not_true_eq_false, not_false_eq_true, Nat.le_refl, ng_le, ng_lt, ng_nle, ng_nlt, ng_eq, ng_eq2, Bool.false_eq_true, lit_nI, nI_add, pk_mul, nI_leI, nI_ltI, nI_eq, m1, h0']
  · obtain ⟨J2, eo, f2, z2, d2⟩ := x_onceNo' (J := Jw0) (L := L) (ru := ru) (t := t') (i := 0) (b := 1) (st := a) (by decide) rfl ht' s0 d1 to1 h0
    obtain ⟨J3, e3, f3, z3⟩ := num_dead (L := L) (ru := ru) (n := n) (j := 0) (lo := nI 0) (hi := nI 63) z2 (by decide) (by decide) (by omega)
    obtain ⟨J4, e4, f4, z4⟩ := num_dead (L := L) (ru := ru) (n := n) (j := 1) (lo := nI 0) (hi := nI 7) z3 (by decide) (by decide) (by omega)
    refine CLN.dead (f := 3) (p := a) (by decide) (by decide) (by omega) ?_ (((g0.dx.tr f2).tr f3).tr f4) z4 fun I L2 ru2 hMS hRD => ?_
    · rw [t0]
      simp (config := { maxSteps := 2000000 }) (disch := omega) only [cl_ship, ux_at, ux_kk, ux_jo, gIx, pIx, pZx, gRx, aIx, sIx, aBx, sBx, lenx, clx, wshS, obS, reduceIte, Nat.one_ne_zero, Nat.zero_ne_one, Nat.reduceEqDiff, not_true_eq_false, not_false_eq_true, Nat.le_refl, ng_le, ng_lt, ng_nle, ng_nlt, ng_eq, ng_eq2, Bool.false_eq_true, lit_nI, nI_add, pk_mul, nI_leI, nI_ltI, nI_eq, eo, e3, e4]
    · obtain ⟨t, ht, h33, htt⟩ := told_t hRD hto ht'
      have hb : bN t 0 ≠ 0 := by
        have := (told_all t ht 0 (by decide)).2.2.1
        rw [htt] at this
        omega
      obtain ⟨I', La, x1, x2, x3⟩ := m_again0 (L := L2) (ru := ru2) hT2 hn hMS ha hk ht h33 q0 hb
      exact ⟨I', La, x1, x2.mono (by decide) (by decide), x3⟩
theorem c_rocks (hT2 : ∀ i, T i < 256) (hn : 1000 < n) {a : Nat} (hS : XS J T N a) (hk : skN T N a = a) (hD : DrK J) (q0 : ¬ isW T N a wShip) (q1 : isW T N a wRocks) : CLN n T N L ru J a (f217 n 27 (nI a) (mW J L ru)) := by
  have ha := hS.2.1
  have hN := hS.1.2.1
  have h66 := hD.2.2.2.2.1.2
  obtain ⟨t', ht', hto, hrk⟩ := hD.2.2.2.2.2.2.2
  have hlt := wdN_lt q1 (by decide)
  obtain ⟨Jw0, w0, g0, s0⟩ := xs_nN (L := L) (ru := ru) (n := n) hS wd_ship lt_ship hk q0 (by omega)
  have t0 : f217 n 27 (nI a) (mW J L ru) = cl_1 n 27 (nI a) (mW Jw0 L ru) := by
    rw [cl_eq]
    simp (config := { maxSteps := 2000000 }) (disch := omega) only [ux_at, ux_kk, ux_jo, gIx, pIx, pZx, gRx, aIx, sIx, aBx, sBx, lenx, clx, wshS, obS, reduceIte, Nat.one_ne_zero, Nat.zero_ne_one, Nat.reduceEqDiff, not_true_eq_false, not_false_eq_true, Nat.le_refl, ng_le, ng_lt, ng_nle, ng_nlt, ng_eq, ng_eq2, Bool.false_eq_true, lit_nI, nI_add, pk_mul, nI_leI, nI_ltI, nI_eq, w0]
  obtain ⟨Jw1, w1, g1, s1⟩ := xs_nY (L := L) (ru := ru) (n := n) s0 wd_rocks lt_rocks hk q1 (by omega)
  have t1 : cl_1 n 27 (nI a) (mW Jw0 L ru) = cl_rocks n 27 (nI a) (mW Jw1 L ru) := by
    simp (config := { maxSteps := 2000000 }) (disch := omega) only [cl_1, ux_at, ux_kk, ux_jo, gIx, pIx, pZx, gRx, aIx, sIx, aBx, sBx, lenx, clx, wshS, obS, reduceIte, Nat.one_ne_zero, Nat.zero_ne_one, Nat.reduceEqDiff, not_true_eq_false, not_false_eq_true, Nat.le_refl, ng_le, ng_lt, ng_nle, ng_nlt, ng_eq, ng_eq2, Bool.false_eq_true, lit_nI, nI_add, pk_mul, nI_leI, nI_ltI, nI_eq, w1]
  have g1 := g0.tr g1
  have t1 := t0.trans t1
  have d1 := hD.fr g1.1 (by decide)
  have to1 : Jw1 27 2 = nI t' := by rw [g1.1.at (by decide) (by decide)]; exact hto
  have es1 : soD Jw1 = soD J := by unfold soD; rw [g1.1.at (by decide) (by decide)]
  by_cases h0 : bN t' 1 = 0
  · have eo := x_onceOk (J := Jw1) (L := L) (ru := ru) (t := t') (i := 1) (b := 2) (st := nI a) (by decide) rfl ht' to1 h0
    have d2 := d1.told' ht' (i := 1) (by decide) to1
    have s2 : XS (u2 Jw1 27 2 (nI (t' ||| 2 ^ 1))) T N (wdN T N a) := s1.fr (Fr.rf.u (K := [27]) (by decide)) (by decide) (by decide)
    have es2 : soD (u2 Jw1 27 2 (nI (t' ||| 2 ^ 1))) = soD J := by
      refine Eq.trans ?_ es1
      unfold soD
      rw [ux_kk (by decide)]
    have fx2 : Fr dxK [] J (u2 Jw1 27 2 (nI (t' ||| 2 ^ 1))) := g1.dx.u (by decide)
    have to2 : (u2 Jw1 27 2 (nI (t' ||| 2 ^ 1))) 27 2 = nI (t' ||| 2 ^ 1) := ux_at
    have rk2 : (u2 Jw1 27 2 (nI (t' ||| 2 ^ 1))) 26 = J 26 := (ux_kk (by decide)).trans (g1.1.at (by decide) (by decide))
    -- the reference, behind its head
    have hR : ∀ I L2 ru2, MS I T N a → RDr I J (soD J) → ∃ Ib La, f226 n 67 (mW I L2 ru2) = ob (f201 n 67 (mW Ib La ru2)) (fun p73 => f226_J271 n 67 p73.1 p73.2) ∧ MS Ib T N (wdN T N a) ∧ Fr [] [17, 19, 33] I Ib ∧ RDr Ib (u2 Jw1 27 2 (nI (t' ||| 2 ^ 1))) (soD J) := by
      intro I L2 ru2 hMS hRD
      obtain ⟨t, ht, h33, htt⟩ := told_t hRD hto ht'
      have hb : bN t 1 = 0 := by
        have := (told_all t ht 1 (by decide)).2.2.1
        rw [htt] at this
        omega
      obtain ⟨Ib, La, x1, x2, x3, x4⟩ := m_head1 (L := L2) (ru := ru2) hT2 hn hMS ha hk ht h33 q0 q1 hb
      refine ⟨Ib, La, x1, x2, x3, ?_⟩
      have r1 := ((hRD.x h66 g1.1 (by decide)).told (J := Jw1) (t := t) (i := 1) (by omega) ht (by decide))
      rw [htt] at r1
      exact r1.m x4 (by decide) (by decide)
    generalize u2 Jw1 27 2 (nI (t' ||| 2 ^ 1)) = J2 at *
    have h62 := d2.2.2.2.2.1.2
    have hz : ∀ c, c < 64 → J 26 c = nI 0 := hrk h0
    have ht2 : bN (J2 27 2).toNatClampNeg 1 = 1 := by
      have := told_all t' (by omega) 1 (by decide)
      rw [Nat.mod_eq_of_lt ht'] at this
      rw [to2, nI_clamp (by omega)]
      exact this.2.2.2.2.2
    obtain ⟨J', f, p, a', z1, z2, z3, z4, z5, z6, z7⟩ := p_rocks (L := L) (ru := ru) (k := soD J) hT2 hn s2 d2 (fun c hc => by rw [rk2]; exact hz c hc) ht2
    have ex : f217 n 27 (nI a) (mW J L ru) = some (mW J' L ru) := by
      rw [t1]
      simp (config := { maxSteps := 2000000 }) (disch := omega) only [cl_rocks, ux_at, ux_kk, ux_jo, gIx, pIx, pZx, gRx, aIx, sIx, aBx, sBx, lenx, clx, wshS, obS, reduceIte, Nat.one_ne_zero, Nat.zero_ne_one, Nat.reduceEqDiff, not_true_eq_false, not_false_eq_true, Nat.le_refl, ng_le, ng_lt, ng_nle, ng_nlt, ng_eq, ng_eq2, Bool.false_eq_true, lit_nI, nI_add, pk_mul, nI_leI, nI_ltI, nI_eq, eo, z3]
    by_cases hf0 : f = 0
    · subst hf0
      obtain ⟨s3, lt3, d3, es3⟩ := z5 rfl
      have es9 : soD J' = soD J := es3.trans es2
      refine ⟨J', 0, 0, a', by decide, by decide, ex, fx2.tr z4, fun _ => ⟨s3, by omega, d3⟩, fun y => absurd rfl y, fun I L2 ru2 hMS hRD => ?_⟩
      obtain ⟨Ib, Lb, x1, x2, x3, x4⟩ := hR I L2 ru2 hMS hRD
      obtain ⟨I1, La, y1, y2, y3, y4⟩ := z7 Ib Lb ru2 x2 x4
      obtain ⟨ms9, rd9⟩ := y3 rfl
      obtain ⟨I', y5, y6, y7, y8⟩ := m_271s (L := La) (ru := ru2) (n := n) ms9 s3.2.1 (by omega)
      refine ⟨I', La, by rw [x1, y1]; exact y5, (((x3.mono (by decide) (by decide)).tr y2).tr (y6.mono (by decide) (by decide))), fun z => ⟨y7 z, ?_⟩, fun z => (y8 z).trans (by unfold stP; rw [if_pos rfl])⟩
      rw [es9]
      exact rd9.m y6 (by decide) (by decide)
    · refine CLN.dead hf0 z1 z2 ex (fx2.tr z4) (z6 hf0) fun I L2 ru2 hMS hRD => ?_
      obtain ⟨Ib, Lb, x1, x2, x3, x4⟩ := hR I L2 ru2 hMS hRD
      obtain ⟨I1, La, y1, y2, y3, y4⟩ := z7 Ib Lb ru2 x2 x4
      refine ⟨I1, La, ?_, (x3.mono (by decide) (by decide)).tr y2, y4 hf0⟩
      rw [x1, y1]
      exact m_271f hf0 z1
  · obtain ⟨J2, eo, f2, z2, d2⟩ := x_onceNo' (J := Jw1) (L := L) (ru := ru) (t := t') (i := 1) (b := 2) (st := a) (by decide) rfl ht' s1 d1 to1 h0
    obtain ⟨J4, e4, f4, z4⟩ := rocks_dead (L := L) (ru := ru) (n := n) z2 (by decide) (by decide) d2 (by omega)
    refine CLN.dead (J' := J4) (f := 3) (p := a) (by decide) (by decide) (by omega) ?_ ((g1.dx.tr f2).tr f4) z4 fun I L2 ru2 hMS hRD => ?_
    · rw [t1]
      simp (config := { maxSteps := 2000000 }) (disch := omega) only [cl_rocks, ux_at, ux_kk, ux_jo, gIx, pIx, pZx, gRx, aIx, sIx, aBx, sBx, lenx, clx, wshS, obS, reduceIte, Nat.one_ne_zero, Nat.zero_ne_one, Nat.reduceEqDiff, not_true_eq_false, not_false_eq_true, Nat.le_refl, ng_le, ng_lt, ng_nle, ng_nlt, ng_eq, ng_eq2, Bool.false_eq_true, lit_nI, nI_add, pk_mul, nI_leI, nI_ltI, nI_eq, eo, e4]
    · obtain ⟨t, ht, h33, htt⟩ := told_t hRD hto ht'
      have hb : bN t 1 ≠ 0 := by
        have := (told_all t ht 1 (by decide)).2.2.1
        rw [htt] at this
        omega
      obtain ⟨I', La, x1, x2, x3⟩ := m_again1 (L := L2) (ru := ru2) hT2 hn hMS ha hk ht h33 q0 q1 hb
      exact ⟨I', La, x1, x2.mono (by decide) (by decide), x3⟩
theorem c_drift (hT2 : ∀ i, T i < 256) (hn : 1000 < n) {a : Nat} (hS : XS J T N a) (hk : skN T N a = a) (hD : DrK J) (q0 : ¬ isW T N a wShip) (q1 : ¬ isW T N a wRocks) (q2 : isW T N a wDrift) : CLN n T N L ru J a (f217 n 27 (nI a) (mW J L ru)) := by
  have ha := hS.2.1
  have hN := hS.1.2.1
  have h66 := hD.2.2.2.2.1.2
  obtain ⟨t', ht', hto, hrk⟩ := hD.2.2.2.2.2.2.2
  have hlt := wdN_lt q2 (by decide)
  obtain ⟨Jw0, w0, g0, s0⟩ := xs_nN (L := L) (ru := ru) (n := n) hS wd_ship lt_ship hk q0 (by omega)
  have t0 : f217 n 27 (nI a) (mW J L ru) = cl_1 n 27 (nI a) (mW Jw0 L ru) := by
    rw [cl_eq]
    simp (config := { maxSteps := 2000000 }) (disch := omega) only [ux_at, ux_kk, ux_jo, gIx, pIx, pZx, gRx, aIx, sIx, aBx, sBx, lenx, clx, wshS, obS, reduceIte, Nat.one_ne_zero, Nat.zero_ne_one, Nat.reduceEqDiff, not_true_eq_false, not_false_eq_true, Nat.le_refl, ng_le, ng_lt, ng_nle, ng_nlt, ng_eq, ng_eq2, Bool.false_eq_true, lit_nI, nI_add, pk_mul, nI_leI, nI_ltI, nI_eq, w0]
  obtain ⟨Jw1, w1, g1, s1⟩ := xs_nN (L := L) (ru := ru) (n := n) s0 wd_rocks lt_rocks hk q1 (by omega)
  have t1 : cl_1 n 27 (nI a) (mW Jw0 L ru) = cl_2 n 27 (nI a) (mW Jw1 L ru) := by
    simp (config := { maxSteps := 2000000 }) (disch := omega) only [cl_1, ux_at, ux_kk, ux_jo, gIx, pIx, pZx, gRx, aIx, sIx, aBx, sBx, lenx, clx, wshS, obS, reduceIte, Nat.one_ne_zero, Nat.zero_ne_one, Nat.reduceEqDiff, not_true_eq_false, not_false_eq_true, Nat.le_refl, ng_le, ng_lt, ng_nle, ng_nlt, ng_eq, ng_eq2, Bool.false_eq_true, lit_nI, nI_add, pk_mul, nI_leI, nI_ltI, nI_eq, w1]
  have g1 := g0.tr g1
  have t1 := t0.trans t1
  obtain ⟨Jw2, w2, g2, s2⟩ := xs_nY (L := L) (ru := ru) (n := n) s1 wd_drift lt_drift hk q2 (by omega)
  have t2 : cl_2 n 27 (nI a) (mW Jw1 L ru) = cl_drift n 27 (nI a) (mW Jw2 L ru) := by
    simp (config := { maxSteps := 2000000 }) (disch := omega) only [cl_2, ux_at, ux_kk, ux_jo, gIx, pIx, pZx, gRx, aIx, sIx, aBx, sBx, lenx, clx, wshS, obS, reduceIte, Nat.one_ne_zero, Nat.zero_ne_one, Nat.reduceEqDiff, not_true_eq_false, not_false_eq_true, Nat.le_refl, ng_le, ng_lt, ng_nle, ng_nlt, ng_eq, ng_eq2, Bool.false_eq_true, lit_nI, nI_add, pk_mul, nI_leI, nI_ltI, nI_eq, w2]
  have g2 := g1.tr g2
  have t2 := t1.trans t2
  have d1 := hD.fr g2.1 (by decide)
  have to1 : Jw2 27 2 = nI t' := by rw [g2.1.at (by decide) (by decide)]; exact hto
  have es1 : soD Jw2 = soD J := by unfold soD; rw [g2.1.at (by decide) (by decide)]
  by_cases h0 : bN t' 2 = 0
  · have eo := x_onceOk (J := Jw2) (L := L) (ru := ru) (t := t') (i := 2) (b := 4) (st := nI a) (by decide) rfl ht' to1 h0
    have d2 := d1.told' ht' (i := 2) (by decide) to1
    have s2 : XS (u2 Jw2 27 2 (nI (t' ||| 2 ^ 2))) T N (wdN T N a) := s2.fr (Fr.rf.u (K := [27]) (by decide)) (by decide) (by decide)
    have es2 : soD (u2 Jw2 27 2 (nI (t' ||| 2 ^ 2))) = soD J := by
      refine Eq.trans ?_ es1
      unfold soD
      rw [ux_kk (by decide)]
    have fx2 : Fr dxK [] J (u2 Jw2 27 2 (nI (t' ||| 2 ^ 2))) := g2.dx.u (by decide)
    have to2 : (u2 Jw2 27 2 (nI (t' ||| 2 ^ 2))) 27 2 = nI (t' ||| 2 ^ 2) := ux_at
    have rk2 : (u2 Jw2 27 2 (nI (t' ||| 2 ^ 2))) 26 = J 26 := (ux_kk (by decide)).trans (g2.1.at (by decide) (by decide))
    -- the reference, behind its head
    have hR : ∀ I L2 ru2, MS I T N a → RDr I J (soD J) → ∃ Ib La, f226 n 67 (mW I L2 ru2) = f226_J152 n 67 (nI 2) 67 (nI 0) (nI 7) (mW Ib La ru2) ∧ MS Ib T N (wdN T N a) ∧ Fr [] [17, 19, 33] I Ib ∧ RDr Ib (u2 Jw2 27 2 (nI (t' ||| 2 ^ 2))) (soD J) := by
      intro I L2 ru2 hMS hRD
      obtain ⟨t, ht, h33, htt⟩ := told_t hRD hto ht'
      have hb : bN t 2 = 0 := by
        have := (told_all t ht 2 (by decide)).2.2.1
        rw [htt] at this
        omega
      obtain ⟨Ib, La, x1, x2, x3, x4⟩ := m_head2 (L := L2) (ru := ru2) hT2 hn hMS ha hk ht h33 q0 q1 q2 hb
      refine ⟨Ib, La, x1, x2, x3, ?_⟩
      have r1 := ((hRD.x h66 g2.1 (by decide)).told (J := Jw2) (t := t) (i := 2) (by omega) ht (by decide))
      rw [htt] at r1
      exact r1.m x4 (by decide) (by decide)
    generalize u2 Jw2 27 2 (nI (t' ||| 2 ^ 2)) = J2 at *
    have h62 := d2.2.2.2.2.1.2
    obtain ⟨J3, v, f, p, a1, e1, f1, hf, hp, hna, c0, c1, hM1⟩ := two_num (J := J2) (L := L) (ru := ru) (n := n) (lo := 0) (hi := 7) hT2 s2 (by decide) (by decide) (by omega)
    have hst : ∀ I1 L2 ru2 v g, g < 6 → f226_J197 n 67 (nI 2) v (nI g) (mW I1 L2 ru2) = f226_J271 n 67 (nI g) (mW (u2 (u2 (u2 (u2 I1 67 22 (I1 67 22)) 67 23 (I1 67 23)) 67 25 v) 67 26 (I1 67 20)) L2 ru2) := by
      intro I1 L2 ru2 v g hg
      simp (config := { maxSteps := 2000000 }) (disch := omega) only [f226_J197, f226_J213, f226_J232, f226_J249, ux_at, ux_kk, ux_jo, gIm, pIm, pZm, gRm, aIm, sIm, aBm, sBm, gLm, pLm, clm, wshS, obS, reduceIte, Nat.one_ne_zero, Nat.zero_ne_one, Nat.reduceEqDiff, not_true_eq_false, not_false_eq_true, Nat.le_refl, ng_le, ng_lt, ng_nle, ng_nlt, ng_eq, ng_eq2, Bool.false_eq_true, lit_nI, nI_add, pk_mul, nI_leI, nI_ltI, nI_eq]
    have g4 : ∀ I1 v, Fr [] [22, 23, 25, 26] I1 (u2 (u2 (u2 (u2 I1 67 22 (I1 67 22)) 67 23 (I1 67 23)) 67 25 v) 67 26 (I1 67 20)) := fun I1 v => (((Fr.rf.uf (by decide)).uf (by decide)).uf (by decide)).uf (by decide)
    have b4 : ∀ I1 : St, ∀ v, (u2 (u2 (u2 (u2 I1 67 22 (I1 67 22)) 67 23 (I1 67 23)) 67 25 v) 67 26 (I1 67 20)) 67 16 = I1 67 16 := fun I1 v => (ux_j (by decide)).trans ((ux_j (by decide)).trans ((ux_j (by decide)).trans (ux_j (by decide))))
    by_cases hf0 : f = 0
    · subst hf0
      obtain ⟨s3, lt3, k1, k1a, hk1, hv⟩ := c0 rfl
      have s4 : XS (u2 J3 15 2 v) T N a1 := s3.fr (Fr.rf.u (K := [15]) (by decide)) (by decide) (by decide)
      obtain ⟨J5, v2, g, p2, a2, e2, f2, hg, hp2, hna2, c2, c3, hM2⟩ := two_num (J := u2 J3 15 2 v) (L := L) (ru := ru) (n := n) (lo := 1) (hi := 9) hT2 s4 (by decide) (by decide) (by omega)
      have ex : f217 n 27 (nI a) (mW J L ru) = some (mW (u2 J5 15 3 v2) L ru) := by
        rw [t2]
        simp (config := { maxSteps := 2000000 }) (disch := omega) only [cl_drift, ux_at, ux_kk, ux_jo, gIx, pIx, pZx, gRx, aIx, sIx, aBx, sBx, lenx, clx, wshS, obS, reduceIte, Nat.one_ne_zero, Nat.zero_ne_one, Nat.reduceEqDiff, not_true_eq_false, not_false_eq_true, Nat.le_refl, ng_le, ng_lt, ng_nle, ng_nlt, ng_eq, ng_eq2, Bool.false_eq_true, lit_nI, nI_add, pk_mul, nI_leI, nI_ltI, nI_eq, eo, e1, e2]
      have fx6 : Fr [1, 15] [] J2 (u2 J5 15 3 v2) := (((f1.1.mono (by decide) (by decide)).u (by decide)).tr (f2.1.mono (by decide) (by decide))).u (by decide)
      have fx7 : Fr dxK [] J (u2 J5 15 3 v2) := fx2.tr (fx6.mono (by decide) (by decide))
      have e5 : J5 15 = (u2 J3 15 2 v) 15 := f2.1.at (by decide) (by decide)
      have e3 : J3 15 = J2 15 := f1.1.at (by decide) (by decide)
      have hA : ∀ j, j ≠ 3 → (u2 J5 15 3 v2) 15 j = (u2 J3 15 2 v) 15 j := fun j hj => (ux_j hj).trans (congrFun e5 j)
      have hB : ∀ j, j ≠ 2 → j ≠ 3 → (u2 J5 15 3 v2) 15 j = J2 15 j := fun j h1 h2 => (hA j h2).trans ((ux_j h1).trans (congrFun e3 j))
      have hC : (u2 J5 15 3 v2) 15 2 = v := (hA 2 (by decide)).trans ux_at
      have hE : (u2 J5 15 3 v2) 15 3 = v2 := ux_at
      have s6 : ∀ x, XS J5 T N x → XS (u2 J5 15 3 v2) T N x := fun x h => h.fr (Fr.rf.u (K := [15]) (by decide)) (by decide) (by decide)
      have z6 : ∀ x y, XZ J5 T N x y → XZ (u2 J5 15 3 v2) T N x y := fun x y h => h.fr (Fr.rf.u (K := [15]) (by decide)) (by decide) (by decide)
      generalize u2 J5 15 3 v2 = J6 at *
      -- the reference, up to its stores
      have hR2 : ∀ I L2 ru2, MS I T N a → RDr I J (soD J) → ∃ I2 La, f226 n 67 (mW I L2 ru2) = f226_J271 n 67 (nI g) (mW (u2 (u2 (u2 (u2 I2 67 22 (I2 67 22)) 67 23 (I2 67 23)) 67 25 v) 67 26 (I2 67 20)) La ru2) ∧ Fr dmK dmF I I2 ∧ RDr I2 J2 (soD J) ∧ (g = 0 → MS I2 T N a2 ∧ I2 67 20 = v2) ∧ (g ≠ 0 → I2 67 16 = nI p2) := by
        intro I L2 ru2 hMS hRD
        obtain ⟨Ib, La, x1, x2, x3, x4⟩ := hR I L2 ru2 hMS hRD
        obtain ⟨I1, m1, m2, m3, m4, m5⟩ := hM1 Ib La ru2 x2
        obtain ⟨q3, q4⟩ := m4 rfl
        obtain ⟨I2, m6, m7, m8, m9, m10⟩ := hM2 I1 La ru2 q3
        refine ⟨I2, La, ?_, ((x3.mono (by decide) (by decide)).tr (m2.mono (by decide) (by decide))).tr (m7.mono (by decide) (by decide)), (x4.m m2 (by decide) (by decide)).m m7 (by decide) (by decide), m9, m10⟩
        rw [x1, ← hst I2 La ru2 v g hg]
        simp (config := { maxSteps := 2000000 }) (disch := omega) only [f226_J152, f226_J183, f226_J194, ux_at, ux_kk, ux_jo, gIm, pIm, pZm, gRm, aIm, sIm, aBm, sBm, gLm, pLm, clm, wshS, obS, reduceIte, Nat.one_ne_zero, Nat.zero_ne_one, Nat.reduceEqDiff, not_true_eq_false, not_false_eq_true, Nat.le_refl, ng_le, ng_lt, ng_nle, ng_nlt, ng_eq, ng_eq2, Bool.false_eq_true, lit_nI, nI_add, pk_mul, nI_leI, nI_ltI, nI_eq, m1, q4, m6]
      by_cases hg0 : g = 0
      · subst hg0
        obtain ⟨s5, lt5, k2, k2a, hk2, hv2⟩ := c2 rfl
        have d6 : DrK J6 := d2.put fx6 (by rw [hB 0 (by decide) (by decide)]; exact d2.1) (by rw [hB 1 (by decide) (by decide)]; exact d2.2.1) (Or.inr ⟨k2, k1, by omega, by omega, by omega, hE.trans hv2, hC.trans hv⟩) (by rw [hB 4 (by decide) (by decide)]; exact d2.2.2.2.1) (hB 5 (by decide) (by decide))
        have es9 : soD J6 = soD J := by
          refine Eq.trans ?_ es2
          unfold soD
          rw [hB 5 (by decide) (by decide)]
        refine ⟨J6, 0, 0, a2, by decide, by decide, ex, fx7, fun _ => ⟨s6 _ s5, by omega, d6⟩, fun y => absurd rfl y, fun I L2 ru2 hMS hRD => ?_⟩
        obtain ⟨I2, La, x1, x2, x3, x4, x5⟩ := hR2 I L2 ru2 hMS hRD
        obtain ⟨q5, q6⟩ := x4 rfl
        have g9 := g4 I2 v
        have h22 : (u2 (u2 (u2 (u2 I2 67 22 (I2 67 22)) 67 23 (I2 67 23)) 67 25 v) 67 26 (I2 67 20)) 67 22 = I2 67 22 := (ux_j (by decide)).trans ((ux_j (by decide)).trans ((ux_j (by decide)).trans ux_at))
        have h23 : (u2 (u2 (u2 (u2 I2 67 22 (I2 67 22)) 67 23 (I2 67 23)) 67 25 v) 67 26 (I2 67 20)) 67 23 = I2 67 23 := (ux_j (by decide)).trans ((ux_j (by decide)).trans ux_at)
        have h25 : (u2 (u2 (u2 (u2 I2 67 22 (I2 67 22)) 67 23 (I2 67 23)) 67 25 v) 67 26 (I2 67 20)) 67 25 = v := (ux_j (by decide)).trans ux_at
        have h26 : (u2 (u2 (u2 (u2 I2 67 22 (I2 67 22)) 67 23 (I2 67 23)) 67 25 v) 67 26 (I2 67 20)) 67 26 = I2 67 20 := ux_at
        have h27 : (u2 (u2 (u2 (u2 I2 67 22 (I2 67 22)) 67 23 (I2 67 23)) 67 25 v) 67 26 (I2 67 20)) 67 27 = I2 67 27 := (ux_j (by decide)).trans ((ux_j (by decide)).trans ((ux_j (by decide)).trans (ux_j (by decide))))
        have ms9 := q5.fr g9 (by decide) (by decide) (by decide) (by decide)
        generalize (u2 (u2 (u2 (u2 I2 67 22 (I2 67 22)) 67 23 (I2 67 23)) 67 25 v) 67 26 (I2 67 20)) = I3 at *
        have ne : v2 ≠ nI 0 := by
          rw [hv2, Ne, nI_eq (by omega) (by omega)]
          omega
        have rd9 : RDr I3 J6 (soD J) := x3.put h62 fx6 (g9.mono (by decide) (by decide)) (by rw [h22, hB 0 (by decide) (by decide)]; exact x3.1) (by rw [h23, hB 1 (by decide) (by decide)]; exact x3.2.1) (Or.inr ⟨by rw [hE]; exact ne, by rw [h26, hE]; exact q6, by rw [h25, hC]⟩) (by rw [h27, hB 4 (by decide) (by decide)]; exact x3.2.2.2.1) (hB 5 (by decide) (by decide))
        obtain ⟨I', y5, y6, y7, y8⟩ := m_271s (L := La) (ru := ru2) (n := n) ms9 (s6 _ s5).2.1 (by omega)
        refine ⟨I', La, x1.trans y5, ((x2.tr (g9.mono (by decide) (by decide))).tr (y6.mono (by decide) (by decide))), fun z => ⟨y7 z, ?_⟩, fun z => (y8 z).trans (by unfold stP; rw [if_pos rfl])⟩
        rw [es9]
        exact rd9.m y6 (by decide) (by decide)
      · refine CLN.dead hg0 hg hp2 ex fx7 (z6 _ _ (c3 hg0).2) fun I L2 ru2 hMS hRD => ?_
        obtain ⟨I2, La, x1, x2, x3, x4, x5⟩ := hR2 I L2 ru2 hMS hRD
        exact ⟨_, La, x1.trans (m_271f hg0 hg), x2.tr ((g4 I2 v).mono (by decide) (by decide)), (b4 I2 v).trans (x5 hg0)⟩
    · obtain ⟨rfl, z3⟩ := c1 hf0
      have z4 : XZ (u2 J3 15 2 (nI 0)) T N f p := z3.fr (Fr.rf.u (K := [15]) (by decide)) (by decide) (by decide)
      obtain ⟨J5, e2, f2, z5⟩ := num_dead (J := u2 J3 15 2 (nI 0)) (L := L) (ru := ru) (n := n) (j := 3) (lo := nI 1) (hi := nI 9) z4 hf0 hf (by omega)
      refine CLN.dead hf0 hf hp ?_ ((fx2.tr (f1.dx.u (by decide))).tr f2) z5 fun I L2 ru2 hMS hRD => ?_
      · rw [t2]
        simp (config := { maxSteps := 2000000 }) (disch := omega) only [cl_drift, ux_at, ux_kk, ux_jo, gIx, pIx, pZx, gRx, aIx, sIx, aBx, sBx, lenx, clx, wshS, obS, reduceIte, Nat.one_ne_zero, Nat.zero_ne_one, Nat.reduceEqDiff, not_true_eq_false, not_false_eq_true, Nat.le_refl, ng_le, ng_lt, ng_nle, ng_nlt, ng_eq, ng_eq2, Bool.false_eq_true, lit_nI, nI_add, pk_mul, nI_leI, nI_ltI, nI_eq, eo, e1, e2]
      · obtain ⟨Ib, La, x1, x2, x3, x4⟩ := hR I L2 ru2 hMS hRD
        obtain ⟨I1, m1, m2, m3, m4, m5⟩ := hM1 Ib La ru2 x2
        have hx := hst I1 La ru2 (I1 67 20) f hf
        rw [m_271f hf0 hf] at hx
        have h0' : ¬ f ≤ 0 := Nat.not_le_of_gt (Nat.pos_of_ne_zero hf0)
        refine ⟨_, La, ?_, ((x3.mono (by decide) (by decide)).tr (m2.mono (by decide) (by decide))).tr ((g4 I1 (I1 67 20)).mono (by decide) (by decide)), (b4 I1 (I1 67 20)).trans (m5 hf0)⟩
        rw [x1, ← hx]
        simp (config := { maxSteps := 2000000 }) (disch := omega) only [f226_J152, ux_at, ux_kk, ux_jo, gIm, pIm, pZm, gRm, aIm, sIm, aBm, sBm, gLm, pLm, clm, wshS, obS, reduceIte, Nat.one_ne_zero, Nat.zero_ne_one, Nat.reduceEqDiff, not_true_eq_false, not_false_eq_true, Nat.le_refl, ng_le, ng_lt, ng_nle, ng_nlt, ng_eq, ng_eq2, Bool.false_eq_true, lit_nI, nI_add, pk_mul, nI_leI, nI_ltI, nI_eq, m1, h0']
  · obtain ⟨J2, eo, f2, z2, d2⟩ := x_onceNo' (J := Jw2) (L := L) (ru := ru) (t := t') (i := 2) (b := 4) (st := a) (by decide) rfl ht' s2 d1 to1 h0
    obtain ⟨J3, e3, f3, z3⟩ := num_dead (L := L) (ru := ru) (n := n) (j := 2) (lo := nI 0) (hi := nI 7) z2 (by decide) (by decide) (by omega)
    obtain ⟨J4, e4, f4, z4⟩ := num_dead (L := L) (ru := ru) (n := n) (j := 3) (lo := nI 1) (hi := nI 9) z3 (by decide) (by decide) (by omega)
    refine CLN.dead (f := 3) (p := a) (by decide) (by decide) (by omega) ?_ (((g2.dx.tr f2).tr f3).tr f4) z4 fun I L2 ru2 hMS hRD => ?_
    · rw [t2]
      simp (config := { maxSteps := 2000000 }) (disch := omega) only [cl_drift, ux_at, ux_kk, ux_jo, gIx, pIx, pZx, gRx, aIx, sIx, aBx, sBx, lenx, clx, wshS, obS, reduceIte, Nat.one_ne_zero, Nat.zero_ne_one, Nat.reduceEqDiff, not_true_eq_false, not_false_eq_true, Nat.le_refl, ng_le, ng_lt, ng_nle, ng_nlt, ng_eq, ng_eq2, Bool.false_eq_true, lit_nI, nI_add, pk_mul, nI_leI, nI_ltI, nI_eq, eo, e3, e4]
    · obtain ⟨t, ht, h33, htt⟩ := told_t hRD hto ht'
      have hb : bN t 2 ≠ 0 := by
        have := (told_all t ht 2 (by decide)).2.2.1
        rw [htt] at this
        omega
      obtain ⟨I', La, x1, x2, x3⟩ := m_again2 (L := L2) (ru := ru2) hT2 hn hMS ha hk ht h33 q0 q1 q2 hb
      exact ⟨I', La, x1, x2.mono (by decide) (by decide), x3⟩
theorem c_lag (hT2 : ∀ i, T i < 256) (hn : 1000 < n) {a : Nat} (hS : XS J T N a) (hk : skN T N a = a) (hD : DrK J) (q0 : ¬ isW T N a wShip) (q1 : ¬ isW T N a wRocks) (q2 : ¬ isW T N a wDrift) (q3 : isW T N a wLag) : CLN n T N L ru J a (f217 n 27 (nI a) (mW J L ru)) := by
  have ha := hS.2.1
  have hN := hS.1.2.1
  have h66 := hD.2.2.2.2.1.2
  obtain ⟨t', ht', hto, hrk⟩ := hD.2.2.2.2.2.2.2
  have hlt := wdN_lt q3 (by decide)
  obtain ⟨Jw0, w0, g0, s0⟩ := xs_nN (L := L) (ru := ru) (n := n) hS wd_ship lt_ship hk q0 (by omega)
  have t0 : f217 n 27 (nI a) (mW J L ru) = cl_1 n 27 (nI a) (mW Jw0 L ru) := by
    rw [cl_eq]
    simp (config := { maxSteps := 2000000 }) (disch := omega) only [ux_at, ux_kk, ux_jo, gIx, pIx, pZx, gRx, aIx, sIx, aBx, sBx, lenx, clx, wshS, obS, reduceIte, Nat.one_ne_zero, Nat.zero_ne_one, Nat.reduceEqDiff, not_true_eq_false, not_false_eq_true, Nat.le_refl, ng_le, ng_lt, ng_nle, ng_nlt, ng_eq, ng_eq2, Bool.false_eq_true, lit_nI, nI_add, pk_mul, nI_leI, nI_ltI, nI_eq, w0]
  obtain ⟨Jw1, w1, g1, s1⟩ := xs_nN (L := L) (ru := ru) (n := n) s0 wd_rocks lt_rocks hk q1 (by omega)
  have t1 : cl_1 n 27 (nI a) (mW Jw0 L ru) = cl_2 n 27 (nI a) (mW Jw1 L ru) := by
    simp (config := { maxSteps := 2000000 }) (disch := omega) only [cl_1, ux_at, ux_kk, ux_jo, gIx, pIx, pZx, gRx, aIx, sIx, aBx, sBx, lenx, clx, wshS, obS, reduceIte, Nat.one_ne_zero, Nat.zero_ne_one, Nat.reduceEqDiff, not_true_eq_false, not_false_eq_true, Nat.le_refl, ng_le, ng_lt, ng_nle, ng_nlt, ng_eq, ng_eq2, Bool.false_eq_true, lit_nI, nI_add, pk_mul, nI_leI, nI_ltI, nI_eq, w1]
  have g1 := g0.tr g1
  have t1 := t0.trans t1
  obtain ⟨Jw2, w2, g2, s2⟩ := xs_nN (L := L) (ru := ru) (n := n) s1 wd_drift lt_drift hk q2 (by omega)
  have t2 : cl_2 n 27 (nI a) (mW Jw1 L ru) = cl_3 n 27 (nI a) (mW Jw2 L ru) := by
    simp (config := { maxSteps := 2000000 }) (disch := omega) only [cl_2, ux_at, ux_kk, ux_jo, gIx, pIx, pZx, gRx, aIx, sIx, aBx, sBx, lenx, clx, wshS, obS, reduceIte, Nat.one_ne_zero, Nat.zero_ne_one, Nat.reduceEqDiff, not_true_eq_false, not_false_eq_true, Nat.le_refl, ng_le, ng_lt, ng_nle, ng_nlt, ng_eq, ng_eq2, Bool.false_eq_true, lit_nI, nI_add, pk_mul, nI_leI, nI_ltI, nI_eq, w2]
  have g2 := g1.tr g2
  have t2 := t1.trans t2
  obtain ⟨Jw3, w3, g3, s3⟩ := xs_nY (L := L) (ru := ru) (n := n) s2 wd_lag lt_lag hk q3 (by omega)
  have t3 : cl_3 n 27 (nI a) (mW Jw2 L ru) = cl_lag n 27 (nI a) (mW Jw3 L ru) := by
    simp (config := { maxSteps := 2000000 }) (disch := omega) only [cl_3, ux_at, ux_kk, ux_jo, gIx, pIx, pZx, gRx, aIx, sIx, aBx, sBx, lenx, clx, wshS, obS, reduceIte, Nat.one_ne_zero, Nat.zero_ne_one, Nat.reduceEqDiff, not_true_eq_false, not_false_eq_true, Nat.le_refl, ng_le, ng_lt, ng_nle, ng_nlt, ng_eq, ng_eq2, Bool.false_eq_true, lit_nI, nI_add, pk_mul, nI_leI, nI_ltI, nI_eq, w3]
  have g3 := g2.tr g3
  have t3 := t2.trans t3
  have d1 := hD.fr g3.1 (by decide)
  have to1 : Jw3 27 2 = nI t' := by rw [g3.1.at (by decide) (by decide)]; exact hto
  have es1 : soD Jw3 = soD J := by unfold soD; rw [g3.1.at (by decide) (by decide)]
  by_cases h0 : bN t' 3 = 0
  · have eo := x_onceOk (J := Jw3) (L := L) (ru := ru) (t := t') (i := 3) (b := 8) (st := nI a) (by decide) rfl ht' to1 h0
    have d2 := d1.told' ht' (i := 3) (by decide) to1
    have s2 : XS (u2 Jw3 27 2 (nI (t' ||| 2 ^ 3))) T N (wdN T N a) := s3.fr (Fr.rf.u (K := [27]) (by decide)) (by decide) (by decide)
    have es2 : soD (u2 Jw3 27 2 (nI (t' ||| 2 ^ 3))) = soD J := by
      refine Eq.trans ?_ es1
      unfold soD
      rw [ux_kk (by decide)]
    have fx2 : Fr dxK [] J (u2 Jw3 27 2 (nI (t' ||| 2 ^ 3))) := g3.dx.u (by decide)
    have to2 : (u2 Jw3 27 2 (nI (t' ||| 2 ^ 3))) 27 2 = nI (t' ||| 2 ^ 3) := ux_at
    have rk2 : (u2 Jw3 27 2 (nI (t' ||| 2 ^ 3))) 26 = J 26 := (ux_kk (by decide)).trans (g3.1.at (by decide) (by decide))
    -- the reference, behind its head
    have hR : ∀ I L2 ru2, MS I T N a → RDr I J (soD J) → ∃ Ib La, f226 n 67 (mW I L2 ru2) = ob (f161 n 67 (nI 0) (nI 2) (mW Ib La ru2)) (fun p61 => ob (getI p61.2 11 67 20) (fun x63 => ob (putI p61.2 11 67 27 x63) (fun w65 => f226_J271 n 67 p61.1 w65))) ∧ MS Ib T N (wdN T N a) ∧ Fr [] [17, 19, 33] I Ib ∧ RDr Ib (u2 Jw3 27 2 (nI (t' ||| 2 ^ 3))) (soD J) := by
      intro I L2 ru2 hMS hRD
      obtain ⟨t, ht, h33, htt⟩ := told_t hRD hto ht'
      have hb : bN t 3 = 0 := by
        have := (told_all t ht 3 (by decide)).2.2.1
        rw [htt] at this
        omega
      obtain ⟨Ib, La, x1, x2, x3, x4⟩ := m_head3 (L := L2) (ru := ru2) hT2 hn hMS ha hk ht h33 q0 q1 q2 q3 hb
      refine ⟨Ib, La, x1, x2, x3, ?_⟩
      have r1 := ((hRD.x h66 g3.1 (by decide)).told (J := Jw3) (t := t) (i := 3) (by omega) ht (by decide))
      rw [htt] at r1
      exact r1.m x4 (by decide) (by decide)
    generalize u2 Jw3 27 2 (nI (t' ||| 2 ^ 3)) = J2 at *
    have h62 := d2.2.2.2.2.1.2
    obtain ⟨J3, v, f, p, a1, e1, f1, hf, hp, hna, c0, c1, hM1⟩ := two_num (J := J2) (L := L) (ru := ru) (n := n) (lo := 0) (hi := 2) hT2 s2 (by decide) (by decide) (by omega)
    have ex : f217 n 27 (nI a) (mW J L ru) = some (mW (u2 J3 15 4 v) L ru) := by
      rw [t3]
      simp (config := { maxSteps := 2000000 }) (disch := omega) only [cl_lag, ux_at, ux_kk, ux_jo, gIx, pIx, pZx, gRx, aIx, sIx, aBx, sBx, lenx, clx, wshS, obS, reduceIte, Nat.one_ne_zero, Nat.zero_ne_one, Nat.reduceEqDiff, not_true_eq_false, not_false_eq_true, Nat.le_refl, ng_le, ng_lt, ng_nle, ng_nlt, ng_eq, ng_eq2, Bool.false_eq_true, lit_nI, nI_add, pk_mul, nI_leI, nI_ltI, nI_eq, eo, e1]
    have fx6 : Fr [1, 15] [] J2 (u2 J3 15 4 v) := (f1.1.mono (by decide) (by decide)).u (by decide)
    have fx7 : Fr dxK [] J (u2 J3 15 4 v) := fx2.tr (fx6.mono (by decide) (by decide))
    have e3 : J3 15 = J2 15 := f1.1.at (by decide) (by decide)
    have hB : ∀ j, j ≠ 4 → (u2 J3 15 4 v) 15 j = J2 15 j := fun j h1 => (ux_j h1).trans (congrFun e3 j)
    have hE : (u2 J3 15 4 v) 15 4 = v := ux_at
    have s6 : ∀ x, XS J3 T N x → XS (u2 J3 15 4 v) T N x := fun x h => h.fr (Fr.rf.u (K := [15]) (by decide)) (by decide) (by decide)
    have z6 : ∀ x y, XZ J3 T N x y → XZ (u2 J3 15 4 v) T N x y := fun x y h => h.fr (Fr.rf.u (K := [15]) (by decide)) (by decide) (by decide)
    generalize u2 J3 15 4 v = J6 at *
    have hR2 : ∀ I L2 ru2, MS I T N a → RDr I J (soD J) → ∃ I2 La, f226 n 67 (mW I L2 ru2) = f226_J271 n 67 (nI f) (mW (u2 I2 67 27 (I2 67 20)) La ru2) ∧ Fr dmK dmF I I2 ∧ RDr I2 J2 (soD J) ∧ (f = 0 → MS I2 T N a1 ∧ I2 67 20 = v) ∧ (f ≠ 0 → I2 67 16 = nI p) := by
      intro I L2 ru2 hMS hRD
      obtain ⟨Ib, La, x1, x2, x3, x4⟩ := hR I L2 ru2 hMS hRD
      obtain ⟨I1, m1, m2, m3, m4, m5⟩ := hM1 Ib La ru2 x2
      refine ⟨I1, La, ?_, (x3.mono (by decide) (by decide)).tr (m2.mono (by decide) (by decide)), x4.m m2 (by decide) (by decide), m4, m5⟩
      rw [x1]
      simp (config := { maxSteps := 2000000 }) (disch := omega) only [ux_at, ux_kk, ux_jo, gIm, pIm, pZm, gRm, aIm, sIm, aBm, sBm, gLm, pLm, clm, wshS, obS, reduceIte, m1]
    by_cases hf0 : f = 0
    · subst hf0
      obtain ⟨s5, lt5, k2, k2a, hk2, hv2⟩ := c0 rfl
      have d6 : DrK J6 := d2.put fx6 (by rw [hB 0 (by decide)]; exact d2.1) (by rw [hB 1 (by decide)]; exact d2.2.1) (by rw [hB 3 (by decide), hB 2 (by decide)]; exact d2.2.2.1) ⟨k2, hk2, hE.trans hv2⟩ (hB 5 (by decide))
      have es9 : soD J6 = soD J := by
        refine Eq.trans ?_ es2
        unfold soD
        rw [hB 5 (by decide)]
      refine ⟨J6, 0, 0, a1, by decide, by decide, ex, fx7, fun _ => ⟨s6 _ s5, by omega, d6⟩, fun y => absurd rfl y, fun I L2 ru2 hMS hRD => ?_⟩
      obtain ⟨I2, La, x1, x2, x3, x4, x5⟩ := hR2 I L2 ru2 hMS hRD
      obtain ⟨q5, q6⟩ := x4 rfl
      have g9 : Fr [] [27] I2 (u2 I2 67 27 (I2 67 20)) := Fr.rf.uf (by decide)
      have h27 : (u2 I2 67 27 (I2 67 20)) 67 27 = v := ux_at.trans q6
      have ms9 := q5.fr g9 (by decide) (by decide) (by decide) (by decide)
      generalize u2 I2 67 27 (I2 67 20) = I3 at *
      have rd9 : RDr I3 J6 (soD J) := x3.put h62 fx6 (g9.mono (by decide) (by decide)) (by rw [g9.f (by decide) (by decide), hB 0 (by decide)]; exact x3.1) (by rw [g9.f (by decide) (by decide), hB 1 (by decide)]; exact x3.2.1) (by rw [hB 3 (by decide), hB 2 (by decide), g9.f (j := 25) (by decide) (by decide), g9.f (j := 26) (by decide) (by decide)]; exact x3.2.2.1) (h27.trans hE.symm) (hB 5 (by decide))
      obtain ⟨I', y5, y6, y7, y8⟩ := m_271s (L := La) (ru := ru2) (n := n) ms9 (s6 _ s5).2.1 (by omega)
      refine ⟨I', La, x1.trans y5, ((x2.tr (g9.mono (by decide) (by decide))).tr (y6.mono (by decide) (by decide))), fun z => ⟨y7 z, ?_⟩, fun z => (y8 z).trans (by unfold stP; rw [if_pos rfl])⟩
      rw [es9]
      exact rd9.m y6 (by decide) (by decide)
    · refine CLN.dead hf0 hf hp ex fx7 (z6 _ _ (c1 hf0).2) fun I L2 ru2 hMS hRD => ?_
      obtain ⟨I2, La, x1, x2, x3, x4, x5⟩ := hR2 I L2 ru2 hMS hRD
      exact ⟨_, La, x1.trans (m_271f hf0 hf), x2.uf (by decide), (ux_j (by decide)).trans (x5 hf0)⟩
  · obtain ⟨J2, eo, f2, z2, d2⟩ := x_onceNo' (J := Jw3) (L := L) (ru := ru) (t := t') (i := 3) (b := 8) (st := a) (by decide) rfl ht' s3 d1 to1 h0
    obtain ⟨J3, e3, f3, z3⟩ := num_dead (L := L) (ru := ru) (n := n) (j := 4) (lo := nI 0) (hi := nI 2) z2 (by decide) (by decide) (by omega)
    refine CLN.dead (f := 3) (p := a) (by decide) (by decide) (by omega) ?_ ((g3.dx.tr f2).tr f3) z3 fun I L2 ru2 hMS hRD => ?_
    · rw [t3]
      simp (config := { maxSteps := 2000000 }) (disch := omega) only [cl_lag, ux_at, ux_kk, ux_jo, gIx, pIx, pZx, gRx, aIx, sIx, aBx, sBx, lenx, clx, wshS, obS, reduceIte, Nat.one_ne_zero, Nat.zero_ne_one, Nat.reduceEqDiff, not_true_eq_false, not_false_eq_true, Nat.le_refl, ng_le, ng_lt, ng_nle, ng_nlt, ng_eq, ng_eq2, Bool.false_eq_true, lit_nI, nI_add, pk_mul, nI_leI, nI_ltI, nI_eq, eo, e3]
    · obtain ⟨t, ht, h33, htt⟩ := told_t hRD hto ht'
      have hb : bN t 3 ≠ 0 := by
        have := (told_all t ht 3 (by decide)).2.2.1
        rw [htt] at this
        omega
      obtain ⟨I', La, x1, x2, x3⟩ := m_again3 (L := L2) (ru := ru2) hT2 hn hMS ha hk ht h33 q0 q1 q2 q3 hb
      exact ⟨I', La, x1, x2.mono (by decide) (by decide), x3⟩
theorem c_sort (hT2 : ∀ i, T i < 256) (hn : 1000 < n) {a : Nat} (hS : XS J T N a) (hk : skN T N a = a) (hD : DrK J) (q0 : ¬ isW T N a wShip) (q1 : ¬ isW T N a wRocks) (q2 : ¬ isW T N a wDrift) (q3 : ¬ isW T N a wLag) (q4 : isW T N a wSort) : CLN n T N L ru J a (f217 n 27 (nI a) (mW J L ru)) := by
  have ha := hS.2.1
  have hN := hS.1.2.1
  have h66 := hD.2.2.2.2.1.2
  obtain ⟨t', ht', hto, hrk⟩ := hD.2.2.2.2.2.2.2
  have hlt := wdN_lt q4 (by decide)
  obtain ⟨Jw0, w0, g0, s0⟩ := xs_nN (L := L) (ru := ru) (n := n) hS wd_ship lt_ship hk q0 (by omega)
  have t0 : f217 n 27 (nI a) (mW J L ru) = cl_1 n 27 (nI a) (mW Jw0 L ru) := by
    rw [cl_eq]
    simp (config := { maxSteps := 2000000 }) (disch := omega) only [ux_at, ux_kk, ux_jo, gIx, pIx, pZx, gRx, aIx, sIx, aBx, sBx, lenx, clx, wshS, obS, reduceIte, Nat.one_ne_zero, Nat.zero_ne_one, Nat.reduceEqDiff, not_true_eq_false, not_false_eq_true, Nat.le_refl, ng_le, ng_lt, ng_nle, ng_nlt, ng_eq, ng_eq2, Bool.false_eq_true, lit_nI, nI_add, pk_mul, nI_leI, nI_ltI, nI_eq, w0]
  obtain ⟨Jw1, w1, g1, s1⟩ := xs_nN (L := L) (ru := ru) (n := n) s0 wd_rocks lt_rocks hk q1 (by omega)
  have t1 : cl_1 n 27 (nI a) (mW Jw0 L ru) = cl_2 n 27 (nI a) (mW Jw1 L ru) := by
    simp (config := { maxSteps := 2000000 }) (disch := omega) only [cl_1, ux_at, ux_kk, ux_jo, gIx, pIx, pZx, gRx, aIx, sIx, aBx, sBx, lenx, clx, wshS, obS, reduceIte, Nat.one_ne_zero, Nat.zero_ne_one, Nat.reduceEqDiff, not_true_eq_false, not_false_eq_true, Nat.le_refl, ng_le, ng_lt, ng_nle, ng_nlt, ng_eq, ng_eq2, Bool.false_eq_true, lit_nI, nI_add, pk_mul, nI_leI, nI_ltI, nI_eq, w1]
  have g1 := g0.tr g1
  have t1 := t0.trans t1
  obtain ⟨Jw2, w2, g2, s2⟩ := xs_nN (L := L) (ru := ru) (n := n) s1 wd_drift lt_drift hk q2 (by omega)
  have t2 : cl_2 n 27 (nI a) (mW Jw1 L ru) = cl_3 n 27 (nI a) (mW Jw2 L ru) := by
    simp (config := { maxSteps := 2000000 }) (disch := omega) only [cl_2, ux_at, ux_kk, ux_jo, gIx, pIx, pZx, gRx, aIx, sIx, aBx, sBx, lenx, clx, wshS, obS, reduceIte, Nat.one_ne_zero, Nat.zero_ne_one, Nat.reduceEqDiff, not_true_eq_false, not_false_eq_true, Nat.le_refl, ng_le, ng_lt, ng_nle, ng_nlt, ng_eq, ng_eq2, Bool.false_eq_true, lit_nI, nI_add, pk_mul, nI_leI, nI_ltI, nI_eq, w2]
  have g2 := g1.tr g2
  have t2 := t1.trans t2
  obtain ⟨Jw3, w3, g3, s3⟩ := xs_nN (L := L) (ru := ru) (n := n) s2 wd_lag lt_lag hk q3 (by omega)
  have t3 : cl_3 n 27 (nI a) (mW Jw2 L ru) = cl_4 n 27 (nI a) (mW Jw3 L ru) := by
    simp (config := { maxSteps := 2000000 }) (disch := omega) only [cl_3, ux_at, ux_kk, ux_jo, gIx, pIx, pZx, gRx, aIx, sIx, aBx, sBx, lenx, clx, wshS, obS, reduceIte, Nat.one_ne_zero, Nat.zero_ne_one, Nat.reduceEqDiff, not_true_eq_false, not_false_eq_true, Nat.le_refl, ng_le, ng_lt, ng_nle, ng_nlt, ng_eq, ng_eq2, Bool.false_eq_true, lit_nI, nI_add, pk_mul, nI_leI, nI_ltI, nI_eq, w3]
  have g3 := g2.tr g3
  have t3 := t2.trans t3
  obtain ⟨Jw4, w4, g4, s4⟩ := xs_nY (L := L) (ru := ru) (n := n) s3 wd_sort lt_sort hk q4 (by omega)
  have t4 : cl_4 n 27 (nI a) (mW Jw3 L ru) = cl_sort n 27 (nI a) (mW Jw4 L ru) := by
    simp (config := { maxSteps := 2000000 }) (disch := omega) only [cl_4, ux_at, ux_kk, ux_jo, gIx, pIx, pZx, gRx, aIx, sIx, aBx, sBx, lenx, clx, wshS, obS, reduceIte, Nat.one_ne_zero, Nat.zero_ne_one, Nat.reduceEqDiff, not_true_eq_false, not_false_eq_true, Nat.le_refl, ng_le, ng_lt, ng_nle, ng_nlt, ng_eq, ng_eq2, Bool.false_eq_true, lit_nI, nI_add, pk_mul, nI_leI, nI_ltI, nI_eq, w4]
  have g4 := g3.tr g4
  have t4 := t3.trans t4
  have d1 := hD.fr g4.1 (by decide)
  have to1 : Jw4 27 2 = nI t' := by rw [g4.1.at (by decide) (by decide)]; exact hto
  have es1 : soD Jw4 = soD J := by unfold soD; rw [g4.1.at (by decide) (by decide)]
  -- the reference, behind its head
  have hR : ∀ I L2 ru2, MS I T N a → RDr I J (soD J) → ∃ Ib La, f226 n 67 (mW I L2 ru2) = ob (f211 n 67 (nI a) (mW Ib La ru2)) (fun p69 => f226_J271 n 67 p69.1 p69.2) ∧ MS Ib T N (wdN T N a) ∧ Fr [] [17, 19, 33] I Ib ∧ RDr Ib Jw4 (soD J) := by
    intro I L2 ru2 hMS hRD
    obtain ⟨t, ht, h33, htt⟩ := told_t hRD hto ht'
    obtain ⟨Ib, La, x1, x2, x3, x4⟩ := m_head4 (L := L2) (ru := ru2) hT2 hn hMS ha hk ht h33 q0 q1 q2 q3 q4
    exact ⟨Ib, La, x1, x2, x3, ((hRD.x h66 g4.1 (by decide)).told4 ht h33).m x4 (by decide) (by decide)⟩
  have h5 := d1.2.2.2.2.1.1
  rw [es1] at h5
  by_cases h6 : soD J < 6
  · obtain ⟨J', f, p, a', z1, z2, z3, z4, z5, z6, z7⟩ := p_people (J := Jw4) (L := L) (ru := ru) hT2 hn s4 d1 (by omega)
    have ex : f217 n 27 (nI a) (mW J L ru) = some (mW J' L ru) := by
      rw [t4]
      simp (config := { maxSteps := 2000000 }) (disch := omega) only [cl_sort, f217_J206, ux_at, ux_kk, ux_jo, gIx, pIx, pZx, gRx, aIx, sIx, aBx, sBx, lenx, clx, wshS, obS, reduceIte, Nat.one_ne_zero, Nat.zero_ne_one, Nat.reduceEqDiff, not_true_eq_false, not_false_eq_true, Nat.le_refl, ng_le, ng_lt, ng_nle, ng_nlt, ng_eq, ng_eq2, Bool.false_eq_true, lit_nI, nI_add, pk_mul, nI_leI, nI_ltI, nI_eq, h5, h6, z3]
    refine ⟨J', f, p, a', z1, z2, ex, g4.dx.tr z4, fun z => ⟨(z5 z).1, by have := (z5 z).2.1; omega, (z5 z).2.2⟩, z6, fun I L2 ru2 hMS hRD => ?_⟩
    obtain ⟨Ib, Lb, x1, x2, x3, x4⟩ := hR I L2 ru2 hMS hRD
    rw [es1] at z7
    obtain ⟨I1, La, y1, y2, y3, y4⟩ := z7 Ib Lb ru2 (nI a) x2 x4
    have hsl : stF T N f a' < 6 := by
      unfold stF
      split
      · split <;> decide
      · exact z1
    by_cases hs0 : stF T N f a' = 0
    · obtain ⟨ms9, rd9⟩ := y3 hs0
      have hf0 : f = 0 := by
        unfold stF at hs0
        split at hs0
        · assumption
        · exact absurd hs0 (by assumption)
      have hax := (z5 hf0).1.2.1
      rw [hs0] at y1
      obtain ⟨I', y5, y6, y7, y8⟩ := m_271s (L := La) (ru := ru2) (n := n) ms9 (skN_le hax) (by omega)
      have est : stF T N 0 (skN T N a') = 0 := by
        have h := hs0
        rw [hf0] at h
        unfold stF at h ⊢
        rw [skN_id]
        exact h
      rw [est] at y5
      rw [skN_id] at y7
      refine ⟨I', La, ?_, ((x3.mono (by decide) (by decide)).tr y2).tr (y6.mono (by decide) (by decide)), fun z => ⟨y7 est, rd9.m y6 (by decide) (by decide)⟩, fun z => absurd hs0 z⟩
      rw [x1, y1, hs0]
      exact y5
    · refine ⟨I1, La, ?_, (x3.mono (by decide) (by decide)).tr y2, fun z => absurd z hs0, y4⟩
      rw [x1, y1]
      exact m_271f hs0 hsl
  · have hs6 : soD J = 6 := by omega
    rw [hs6] at h5
    obtain ⟨J2, e2, f2, z2⟩ := xs_fail (L := L) (ru := ru) (k := 3) (p := a) s4 (by decide)
    obtain ⟨J4, e4, f4, z4⟩ := people_dead (L := L) (ru := ru) (n := n) z2 (by decide) (by decide) (by omega)
    refine CLN.dead (J' := J4) (f := 3) (p := a) (by decide) (by decide) (by omega) ?_ ((g4.dx.tr f2.dx).tr f4) z4 fun I L2 ru2 hMS hRD => ?_
    · rw [t4]
      simp (config := { maxSteps := 2000000 }) (disch := omega) only [cl_sort, f217_J206, ux_at, ux_kk, ux_jo, gIx, pIx, pZx, gRx, aIx, sIx, aBx, sBx, lenx, clx, wshS, obS, reduceIte, Nat.one_ne_zero, Nat.zero_ne_one, Nat.reduceEqDiff, not_true_eq_false, not_false_eq_true, Nat.le_refl, ng_le, ng_lt, ng_nle, ng_nlt, ng_eq, ng_eq2, Bool.false_eq_true, lit_nI, nI_add, pk_mul, nI_leI, nI_ltI, nI_eq, h5, e2, e4, Nat.lt_irrefl]
    · obtain ⟨Ib, Lb, x1, x2, x3, x4⟩ := hR I L2 ru2 hMS hRD
      have h28 := x4.2.2.2.2.1
      rw [hs6] at h28
      refine ⟨_, Lb, ?_, (x3.mono (by decide) (by decide)).uf (j := 16) (v := nI a) (by decide), ux_at⟩
      rw [x1, m_stM h28]
      exact m_271f (by decide) (by decide)
theorem c_none (hT2 : ∀ i, T i < 256) (hn : 1000 < n) {a : Nat} (hS : XS J T N a) (hk : skN T N a = a) (hD : DrK J) (q0 : ¬ isW T N a wShip) (q1 : ¬ isW T N a wRocks) (q2 : ¬ isW T N a wDrift) (q3 : ¬ isW T N a wLag) (q4 : ¬ isW T N a wSort) : CLN n T N L ru J a (f217 n 27 (nI a) (mW J L ru)) := by
  have ha := hS.2.1
  have hN := hS.1.2.1
  have h66 := hD.2.2.2.2.1.2
  obtain ⟨t', ht', hto, hrk⟩ := hD.2.2.2.2.2.2.2
  obtain ⟨Jw0, w0, g0, s0⟩ := xs_nN (L := L) (ru := ru) (n := n) hS wd_ship lt_ship hk q0 (by omega)
  have t0 : f217 n 27 (nI a) (mW J L ru) = cl_1 n 27 (nI a) (mW Jw0 L ru) := by
    rw [cl_eq]
    simp (config := { maxSteps := 2000000 }) (disch := omega) only [ux_at, ux_kk, ux_jo, gIx, pIx, pZx, gRx, aIx, sIx, aBx, sBx, lenx, clx, wshS, obS, reduceIte, Nat.one_ne_zero, Nat.zero_ne_one, Nat.reduceEqDiff, not_true_eq_false, not_false_eq_true, Nat.le_refl, ng_le, ng_lt, ng_nle, ng_nlt, ng_eq, ng_eq2, Bool.false_eq_true, lit_nI, nI_add, pk_mul, nI_leI, nI_ltI, nI_eq, w0]
  obtain ⟨Jw1, w1, g1, s1⟩ := xs_nN (L := L) (ru := ru) (n := n) s0 wd_rocks lt_rocks hk q1 (by omega)
  have t1 : cl_1 n 27 (nI a) (mW Jw0 L ru) = cl_2 n 27 (nI a) (mW Jw1 L ru) := by
    simp (config := { maxSteps := 2000000 }) (disch := omega) only [cl_1, ux_at, ux_kk, ux_jo, gIx, pIx, pZx, gRx, aIx, sIx, aBx, sBx, lenx, clx, wshS, obS, reduceIte, Nat.one_ne_zero, Nat.zero_ne_one, Nat.reduceEqDiff, not_true_eq_false, not_false_eq_true, Nat.le_refl, ng_le, ng_lt, ng_nle, ng_nlt, ng_eq, ng_eq2, Bool.false_eq_true, lit_nI, nI_add, pk_mul, nI_leI, nI_ltI, nI_eq, w1]
  have g1 := g0.tr g1
  have t1 := t0.trans t1
  obtain ⟨Jw2, w2, g2, s2⟩ := xs_nN (L := L) (ru := ru) (n := n) s1 wd_drift lt_drift hk q2 (by omega)
  have t2 : cl_2 n 27 (nI a) (mW Jw1 L ru) = cl_3 n 27 (nI a) (mW Jw2 L ru) := by
    simp (config := { maxSteps := 2000000 }) (disch := omega) only [cl_2, ux_at, ux_kk, ux_jo, gIx, pIx, pZx, gRx, aIx, sIx, aBx, sBx, lenx, clx, wshS, obS, reduceIte, Nat.one_ne_zero, Nat.zero_ne_one, Nat.reduceEqDiff, not_true_eq_false, not_false_eq_true, Nat.le_refl, ng_le, ng_lt, ng_nle, ng_nlt, ng_eq, ng_eq2, Bool.false_eq_true, lit_nI, nI_add, pk_mul, nI_leI, nI_ltI, nI_eq, w2]
  have g2 := g1.tr g2
  have t2 := t1.trans t2
  obtain ⟨Jw3, w3, g3, s3⟩ := xs_nN (L := L) (ru := ru) (n := n) s2 wd_lag lt_lag hk q3 (by omega)
  have t3 : cl_3 n 27 (nI a) (mW Jw2 L ru) = cl_4 n 27 (nI a) (mW Jw3 L ru) := by
    simp (config := { maxSteps := 2000000 }) (disch := omega) only [cl_3, ux_at, ux_kk, ux_jo, gIx, pIx, pZx, gRx, aIx, sIx, aBx, sBx, lenx, clx, wshS, obS, reduceIte, Nat.one_ne_zero, Nat.zero_ne_one, Nat.reduceEqDiff, not_true_eq_false, not_false_eq_true, Nat.le_refl, ng_le, ng_lt, ng_nle, ng_nlt, ng_eq, ng_eq2, Bool.false_eq_true, lit_nI, nI_add, pk_mul, nI_leI, nI_ltI, nI_eq, w3]
  have g3 := g2.tr g3
  have t3 := t2.trans t3
  obtain ⟨Jw4, w4, g4, s4⟩ := xs_nN (L := L) (ru := ru) (n := n) s3 wd_sort lt_sort hk q4 (by omega)
  have t4 : cl_4 n 27 (nI a) (mW Jw3 L ru) = cl_none 27 (nI a) (mW Jw4 L ru) := by
    simp (config := { maxSteps := 2000000 }) (disch := omega) only [cl_4, ux_at, ux_kk, ux_jo, gIx, pIx, pZx, gRx, aIx, sIx, aBx, sBx, lenx, clx, wshS, obS, reduceIte, Nat.one_ne_zero, Nat.zero_ne_one, Nat.reduceEqDiff, not_true_eq_false, not_false_eq_true, Nat.le_refl, ng_le, ng_lt, ng_nle, ng_nlt, ng_eq, ng_eq2, Bool.false_eq_true, lit_nI, nI_add, pk_mul, nI_leI, nI_ltI, nI_eq, w4]
  have g4 := g3.tr g4
  have t4 := t3.trans t4
  have d1 := hD.fr g4.1 (by decide)
  have to1 : Jw4 27 2 = nI t' := by rw [g4.1.at (by decide) (by decide)]; exact hto
  have es1 : soD Jw4 = soD J := by unfold soD; rw [g4.1.at (by decide) (by decide)]
  obtain ⟨J2, e2, f2, z2⟩ := xs_fail (L := L) (ru := ru) (k := 1) (p := a) s4 (by decide)
  refine CLN.dead (J' := J2) (f := 1) (p := a) (by decide) (by decide) (by omega) ?_ (g4.dx.tr f2.dx) z2 fun I L2 ru2 hMS hRD => ?_
  · rw [t4]
    simp (config := { maxSteps := 2000000 }) (disch := omega) only [cl_none, ux_at, ux_kk, ux_jo, gIx, pIx, pZx, gRx, aIx, sIx, aBx, sBx, lenx, clx, wshS, obS, reduceIte, Nat.one_ne_zero, Nat.zero_ne_one, Nat.reduceEqDiff, not_true_eq_false, not_false_eq_true, Nat.le_refl, ng_le, ng_lt, ng_nle, ng_nlt, ng_eq, ng_eq2, Bool.false_eq_true, lit_nI, nI_add, pk_mul, nI_leI, nI_ltI, nI_eq, e2]
  · obtain ⟨t, ht, h33, htt⟩ := told_t hRD hto ht'
    obtain ⟨I', La, x1, x2, x3⟩ := m_none (L := L2) (ru := ru2) hT2 hn hMS ha hk ht h33 q0 q1 q2 q3 q4
    exact ⟨I', La, x1, x2.mono (by decide) (by decide), x3⟩
/-- any clause -/
theorem c_all (hT2 : ∀ i, T i < 256) (hn : 1000 < n) {a : Nat} (hS : XS J T N a) (hk : skN T N a = a) (hD : DrK J) : CLN n T N L ru J a (f217 n 27 (nI a) (mW J L ru)) := by
  by_cases q0 : isW T N a wShip
  · exact c_ship hT2 hn hS hk hD q0
  by_cases q1 : isW T N a wRocks
  · exact c_rocks hT2 hn hS hk hD q0 q1
  by_cases q2 : isW T N a wDrift
  · exact c_drift hT2 hn hS hk hD q0 q1 q2
  by_cases q3 : isW T N a wLag
  · exact c_lag hT2 hn hS hk hD q0 q1 q2 q3
  by_cases q4 : isW T N a wSort
  · exact c_sort hT2 hn hS hk hD q0 q1 q2 q3 q4
  · exact c_none hT2 hn hS hk hD q0 q1 q2 q3 q4
end
