/-! TEXTS: rocks, likes: both sides -/
/-- a piece of a text, read by both: the class from the picture J -/
def NT (n : Nat) (T : Nat → Nat) (N : Nat) (L : Lt) (ru : Nat) (J : St) (k k' a : Nat) (FX : Option Wd) (FM : Wd → Option (Int32 × Wd)) : Prop :=
  ∃ J' f p a', f < 6 ∧ p ≤ 300 ∧ FX = some (mW J' L ru) ∧ Fr dxK [] J J' ∧ (f = 0 → XS J' T N a' ∧ a < a' ∧ DrK J' ∧ soD J' = soD J) ∧ (f ≠ 0 → XZ J' T N f p) ∧ ∀ I L2 ru2, MS I T N a → RDr I J k → ∃ I' L2', FM (mW I L2 ru2) = some (nI f, mW I' L2' ru2) ∧ Fr dmK dmF I I' ∧ (f = 0 → MS I' T N a' ∧ RDr I' J' k') ∧ (f ≠ 0 → I' 67 16 = nI p)
theorem TF.dx {J J' : St} (h : TF J J') : Fr dxK [] J J' := h.1.mono (by decide) (by decide)
theorem MS.le {I : St} {T : Nat → Nat} {N a : Nat} (h : MS I T N a) : N ≤ 300 := h.1.2.1
def rkB (J : St) : Nat → Bool := fun c => decide (J 26 c = nI 1)
section
variable {I J : St} {L : Lt} {ru n : Nat} {T : Nat → Nat} {N : Nat}
/-- dead: a sign -/
theorem xz_sign {f p : Nat} {x : Int32} (h : XZ J T N f p) (hf : f ≠ 0) (h6 : f < 6) (hn : 500 < n) : ∃ J', f141 n 1 x (mW J L ru) = some (nI 0, mW J' L ru) ∧ TF J J' ∧ XZ J' T N f p := by
  obtain ⟨hT, a, na, ha, hS⟩ := h
  obtain ⟨J', e1, f1, s1⟩ := x_takesCD (L := L) (ru := ru) (n := n) (x := x) hT ha hS hf (by omega) hn
  exact ⟨J', e1, f1, hT.tf f1, _, na, skN_le ha, s1⟩
theorem xz_word {f p : Nat} {u : UInt32} (h : XZ J T N f p) (hf : f ≠ 0) (h6 : f < 6) (hn : 500 < n) : ∃ J', f197 n 1 u (mW J L ru) = some (nI 0, mW J' L ru) ∧ TF J J' ∧ XZ J' T N f p := by
  obtain ⟨hT, a, na, ha, hS⟩ := h
  obtain ⟨J', e1, f1, s1⟩ := x_takesSD (L := L) (ru := ru) (n := n) (u := u) hT ha hS hf (by omega) hn
  exact ⟨J', e1, f1, hT.tf f1, _, na, skN_le ha, s1⟩
theorem xz_num {f p : Nat} {lo hi : Int32} (h : XZ J T N f p) (hf : f ≠ 0) (h6 : f < 6) (hn : 500 < n) : ∃ J', f140 n 1 lo hi (mW J L ru) = some (nI 0, mW J' L ru) ∧ TF J J' ∧ XZ J' T N f p := by
  obtain ⟨hT, a, na, ha, hS⟩ := h
  obtain ⟨J', e1, f1, s1⟩ := x_numD (L := L) (ru := ru) (n := n) (lo := lo) (hi := hi) hT ha hS hf (by omega) hn
  exact ⟨J', e1, f1, hT.tf f1, _, na, skN_le ha, s1⟩
theorem xz_fail {f p : Nat} {x y : Int32} (h : XZ J T N f p) (hf : f ≠ 0) (h6 : f < 6) : f8 1 x y (mW J L ru) = some (mW J L ru) := by
  obtain ⟨hT, a, na, ha, hS⟩ := h
  exact x_failD hS hf (by omega)
theorem xz_f {f p : Nat} (h : XZ J T N f p) : J 1 4 = nI f := by
  obtain ⟨hT, a, na, ha, hS⟩ := h
  exact hS.2.2.1
theorem xs_f {a : Nat} (h : XS J T N a) : J 1 4 = nI 0 := by
  obtain ⟨hT, ha, na, hS⟩ := h
  exact hS.2.2.1
theorem xs_fail {a k p : Nat} (h : XS J T N a) (hk : k < 6) : ∃ J', f8 1 (nI k) (nI p) (mW J L ru) = some (mW J' L ru) ∧ TF J J' ∧ XZ J' T N k p := by
  obtain ⟨hT, ha, na, hS⟩ := h
  obtain ⟨J', e1, f1, s1⟩ := x_fail0 (L := L) (ru := ru) (k := k) (p := p) hS
  exact ⟨J', e1, f1, hT.tf f1, a, na, ha, s1⟩
theorem ar_m {N a a1 a2 m : Nat} (h : N - a < m + 1) (h1 : a < a1) (h2 : a1 ≤ a2) (h3 : a2 ≤ N) : N - a2 < m := by omega
theorem ar_k {N a a1 a2 k : Nat} (h : N - a + 5 < k + 1) (h1 : a < a1) (h2 : a1 ≤ a2) (h3 : a2 ≤ N) : N - a2 + 5 < k := by omega
theorem rocks_end {K : Wd → Option Wd} {v : Int32} {w : Wd} : ∀ k, 0 < k → f176_H4 n K k 27 (nI 0) v w = K w
  | 0, h => absurd h (Nat.not_lt_zero _)
  | k + 1, _ => by
    simp only [f176_H4, lit_nI, reduceIte, ite_self]
theorem mrocks_end {K : Wd → Option (Int32 × Wd)} {w : Wd} : ∀ k, 0 < k → f201_H6 n K k 67 (nI 0) w = K w
  | 0, h => absurd h (Nat.not_lt_zero _)
  | k + 1, _ => by
    simp only [f201_H6, lit_nI, reduceIte]
/-- the rest of the rocks, from a number on -/
theorem p_rocks_lp (hT2 : ∀ i, T i < 256) (hn : 1000 < n) : ∀ m J a i kx, XS J T N a → DrK J → J 26 = J 26 → cB (rkB J) 64 = i → N - a < m → N - a + 5 < kx → bN (J 27 2).toNatClampNeg 1 = 1 →
    ∃ J' f p a', f < 6 ∧ p ≤ 300 ∧ f176_H4 n (fun w38 => some w38) kx 27 (nI 1) (nI i) (mW J L ru) = some (mW J' L ru) ∧ Fr dxK [] J J' ∧ (f = 0 → XS J' T N a' ∧ a < a' ∧ DrK J' ∧ soD J' = soD J) ∧ (f ≠ 0 → XZ J' T N f p) ∧ ∀ I L2 ru2 km k, N - a + 5 < km → MS I T N a → RDr I J k → (∀ c, c < 64 → I 81 c = J 26 c) → ∃ I', f201_H6 n (fun w17 => some (nI 0, w17)) km 67 (nI 1) (mW I L2 ru2) = some (nI f, mW I' L2 ru2) ∧ Fr dmK dmF I I' ∧ (f = 0 → MS I' T N a' ∧ RDr I' J' k) ∧ (f ≠ 0 → I' 67 16 = nI p) := by
  intro m
  induction m with
  | zero => intro J a i kx _ _ _ _ h; omega
  | succ m ih =>
    intro J a i kx hS hD _ hi hm hk hto
    obtain ⟨kx, rfl⟩ : ∃ z, kx = z + 1 := ⟨kx - 1, by omega⟩
    have i64 : i ≤ 64 := by rw [← hi]; exact cB_le _ _
    have i64' : ¬ 64 < i := by omega
    obtain ⟨J1, v, f, p, a1, e1, f1, hf, hp, hna, c0, c1, hM⟩ := two_num (L := L) (ru := ru) (n := n) (lo := 0) (hi := 63) hT2 hS (by decide) (by decide) (by omega)
    have d1 := hD.fr f1.1 (by decide)
    have r1 : J1 26 = J 26 := f1.1.at (by decide) (by decide)
    have t1 : J1 27 = J 27 := f1.1.at (by decide) (by decide)
    by_cases hf0 : f = 0
    · subst hf0
      obtain ⟨s1, lt1, c, _, hc, rfl⟩ := c0 rfl
      have xf := xs_f s1
      have rkc := d1.2.2.2.2.2.1 c (by omega)
      have hr := dr_isRock (J := J1) (L := L) (ru := ru) (c := c) (by omega) rkc
      rcases rkc with rc | rc
      · -- another rock
        rw [rc] at hr
        have hs := dr_setRock (J := J1) (L := L) (ru := ru) (c := c) (by omega)
        have g2 : Fr dxK [] J (u2 J1 26 c (nI 1)) := f1.dx.u (by decide)
        have s2 : XS (u2 J1 26 c (nI 1)) T N a1 := s1.fr (Fr.rf.u (K := [26]) (by decide)) (by decide) (by decide)
        have cz : cB (rkB (u2 J1 26 c (nI 1))) 64 = i + 1 := by
          rw [← hi]
          refine cB_set (c := c) 64 (by omega) ?_ ?_ fun j hj => ?_
          · unfold rkB
            rw [← r1, rc]
            exact decide_eq_false (by decide +kernel)
          · unfold rkB
            rw [ux_at]
            exact decide_eq_true rfl
          · unfold rkB
            rw [ux_j hj, r1]
        have d2 : DrK (u2 J1 26 c (nI 1)) := by
          obtain ⟨b1, b2, b3, b4, b5, b6, b7, t, b8, b9, b10⟩ := d1
          have es : soD (u2 J1 26 c (nI 1)) = soD J1 := by unfold soD; rw [ux_kk (by decide)]
          unfold DrK DrT
          rw [es, ux_kk (by decide : ¬ 15 = 26), ux_kk (by decide : ¬ 27 = 26)]
          refine ⟨b1, b2, b3, b4, b5, fun c' hc' => ?_, fun s hs => ?_, t, b8, b9, fun z => ?_⟩
          · rw [ux_if]
            split
            · exact Or.inr rfl
            · exact b6 c' hc'
          · have := b7 s hs
            unfold DrS at this ⊢
            rw [ux_kk (by decide : ¬ 16 = 26), ux_kk (by decide : ¬ 17 = 26), ux_kk (by omega)]
            exact this
          · rw [← t1, b9, nI_clamp (by omega)] at hto
            omega
        obtain ⟨J2, cm, a2, hcm, e2, f2, s3, le2, hC⟩ := two_comma (L := L) (ru := ru) (n := n) s2 (by omega)
        have d3 := d2.fr f2.1 (by decide)
        have es3 : soD J2 = soD J := by
          unfold soD
          rw [f2.1.at (by decide) (by decide), ux_kk (by decide), f1.1.at (by decide) (by decide)]
        have r3 : J2 26 = (u2 J1 26 c (nI 1)) 26 := f2.1.at (by decide) (by decide)
        -- the reference, up to the comma
        have hR : ∀ I L2 ru2 k, MS I T N a → RDr I J k → (∀ c, c < 64 → I 81 c = J 26 c) → ∃ I1 I2, f189 n 67 (mW I L2 ru2) = some (nI 0, mW I1 L2 ru2) ∧ I1 67 20 = nI c ∧ f114 n 67 (mW (u2 I1 77 c (nI 1)) L2 ru2) = some (nI cm, mW I2 L2 ru2) ∧ Fr dmK dmF I I2 ∧ MS I2 T N a2 ∧ RDr I2 J2 k ∧ (∀ c, c < 64 → I2 81 c = J2 26 c) := by
          intro I L2 ru2 k hMS hRD hL
          obtain ⟨I1, m1, m2, m3, m4, m5⟩ := hM I L2 ru2 hMS
          obtain ⟨q1, q2⟩ := m4 rfl
          have l1 : I1 81 = I 81 := m2.at (by decide) (by decide)
          have l2 : I1 81 c = nI 0 := by rw [l1, hL c (by omega), ← r1]; exact rc
          have e3 := m_cell0 m1 q2 (by omega) l2
          have g3 : Fr dmK dmF I1 (u2 (u2 I1 81 c (nI 1)) 77 c (nI 1)) := (Fr.rf.u (by decide)).u (by decide)
          have s4 : MS (u2 (u2 I1 81 c (nI 1)) 77 c (nI 1)) T N a1 := ⟨q1.1.fr g3 (by decide) (by decide) (by decide), (ux_k (by decide)).trans ((ux_k (by decide)).trans q1.2.1), (ux_k (by decide)).trans ((ux_k (by decide)).trans q1.2.2)⟩
          obtain ⟨I2, m6, m7, m8⟩ := hC _ L2 ru2 s4
          refine ⟨_, I2, e3, (ux_k (by decide)).trans q2, m6, ((m2.mono (by decide) (by decide)).tr g3).tr (m7.mono (by decide) (by decide)), m8, ?_, fun c' hc' => ?_⟩
          · have q3 : RDr I1 J1 k := (hRD.x hD.2.2.2.2.1.2 f1.1 (by decide)).m m2 (by decide) (by decide)
            have q4 : RDr (u2 (u2 I1 81 c (nI 1)) 77 c (nI 1)) (u2 J1 26 c (nI 1)) k := by
              have q5 : RDr (u2 I1 81 c (nI 1)) J1 k := q3.m (Fr.rf.u (K := [81]) (F := []) (by decide)) (by decide) (by decide)
              obtain ⟨b1, b2, b3, b4, b5, b6, b7, b8⟩ := q5
              have es : soD (u2 J1 26 c (nI 1)) = soD J1 := by unfold soD; rw [ux_kk (by decide)]
              unfold RDr
              rw [es, ux_kk (by decide : ¬ 67 = 77), ux_kk (by decide : ¬ 15 = 26), ux_kk (by decide : ¬ 27 = 26), ux_kk (by decide : ¬ 78 = 77), ux_kk (by decide : ¬ 79 = 77), ux_kk (by decide : ¬ 80 = 77), ux_kk (by decide : ¬ 16 = 26), ux_kk (by decide : ¬ 17 = 26)]
              refine ⟨b1, b2, b3, b4, b5, b6, fun c' hc' => ?_, fun s hs => ?_⟩
              · rw [ux_if, ux_if]
                split
                · rfl
                · exact b7 c' hc'
              · rw [ux_kk (show ¬ 20 + s = 26 by have := d1.2.2.2.2.1.2; omega)]
                exact b8 s hs
            exact (q4.x (by have := d2.2.2.2.2.1.2; exact this) f2.1 (by decide)).m m7 (by decide) (by decide)
          · rw [m7.at (by decide) (by decide), r3, ux_if, ux_kk (by decide), ux_if]
            split
            · rfl
            · rw [l1, hL c' hc', r1]
        rcases one_or hcm with rfl | rfl
        · refine ⟨J2, 0, 0, a2, by decide, by decide, ?_, g2.tr f2.dx, fun _ => ⟨s3, by omega, d3, es3⟩, fun y => absurd rfl y, fun I L2 ru2 km k hkm hMS hRD hL => ?_⟩
          · have he := fun v w => rocks_end (n := n) (K := fun w38 => some w38) (v := v) (w := w) kx (by omega)
            simp (config := { maxSteps := 2000000 }) (disch := omega) only [f176_H4, f176_J51, f176_J69, ux_at, ux_kk, ux_jo, gIx, pIx, pZx, gRx, aIx, sIx, aBx, sBx, lenx, clx, wshS, obS, reduceIte, Nat.one_ne_zero, Nat.zero_ne_one, Nat.reduceEqDiff, not_true_eq_false, not_false_eq_true, Nat.le_refl, ng_le, ng_lt, ng_nle, ng_nlt, ng_eq, ng_eq2, Bool.false_eq_true, lit_nI, nI_add, pk_mul, nI_leI, nI_ltI, nI_eq, i64', e1, hr, xf, hs, e2, he]
          · obtain ⟨km, rfl⟩ : ∃ z, km = z + 1 := ⟨km - 1, by omega⟩
            have he := fun w => mrocks_end (n := n) (K := fun w17 => some (nI 0, w17)) (w := w) km (by omega)
            obtain ⟨I1, I2, m1, m2, m3, m4, m5, m6, m7⟩ := hR I L2 ru2 k hMS hRD hL
            refine ⟨I2, ?_, m4, fun _ => ⟨m5, m6⟩, fun y => absurd rfl y⟩
            simp (config := { maxSteps := 2000000 }) (disch := omega) only [f201_H6, ux_at, ux_kk, ux_jo, gIm, pIm, pZm, gRm, aIm, sIm, aBm, sBm, gLm, pLm, clm, wshS, obS, reduceIte, Nat.one_ne_zero, Nat.zero_ne_one, Nat.reduceEqDiff, not_true_eq_false, not_false_eq_true, Nat.le_refl, ng_le, ng_lt, ng_nle, ng_nlt, ng_eq, ng_eq2, Bool.false_eq_true, lit_nI, nI_add, pk_mul, nI_leI, nI_ltI, nI_eq, m1, m2, e1_and, m3, he]
        · have k1 : N - a2 < m := ar_m hm lt1 le2 s3.2.1
          obtain ⟨J', f', p', a', z1, z2, z3, z4, z5, z6, z7⟩ := ih J2 a2 (i + 1) kx s3 d3 rfl (by
            rw [← cz]
            refine cB_eq 64 fun j _ => ?_
            unfold rkB
            rw [r3]) k1 (ar_k hk lt1 le2 s3.2.1) (by
              rw [f2.1.at (by decide) (by decide), ux_kk (by decide), t1]
              exact hto)
          refine ⟨J', f', p', a', z1, z2, ?_, (g2.tr f2.dx).tr z4, fun y => ⟨(z5 y).1, by have := (z5 y).2.1; omega, (z5 y).2.2.1, (z5 y).2.2.2.trans es3⟩, z6, fun I L2 ru2 km k hkm hMS hRD hL => ?_⟩
          · simp (config := { maxSteps := 2000000 }) (disch := omega) only [f176_H4, f176_J51, f176_J69, ux_at, ux_kk, ux_jo, gIx, pIx, pZx, gRx, aIx, sIx, aBx, sBx, lenx, clx, wshS, obS, reduceIte, Nat.one_ne_zero, Nat.zero_ne_one, Nat.reduceEqDiff, not_true_eq_false, not_false_eq_true, Nat.le_refl, ng_le, ng_lt, ng_nle, ng_nlt, ng_eq, ng_eq2, Bool.false_eq_true, lit_nI, nI_add, pk_mul, nI_leI, nI_ltI, nI_eq, i64', e1, hr, xf, hs, e2]
            exact z3
          · obtain ⟨km, rfl⟩ : ∃ z, km = z + 1 := ⟨km - 1, by omega⟩
            obtain ⟨I1, I2, m1, m2, m3, m4, m5, m6, m7⟩ := hR I L2 ru2 k hMS hRD hL
            obtain ⟨I', y1, y2, y3, y4⟩ := z7 I2 L2 ru2 km k (ar_k hkm lt1 le2 s3.2.1) m5 m6 m7
            refine ⟨I', ?_, m4.tr y2, y3, y4⟩
            simp (config := { maxSteps := 2000000 }) (disch := omega) only [f201_H6, ux_at, ux_kk, ux_jo, gIm, pIm, pZm, gRm, aIm, sIm, aBm, sBm, gLm, pLm, clm, wshS, obS, reduceIte, Nat.one_ne_zero, Nat.zero_ne_one, Nat.reduceEqDiff, not_true_eq_false, not_false_eq_true, Nat.le_refl, ng_le, ng_lt, ng_nle, ng_nlt, ng_eq, ng_eq2, Bool.false_eq_true, lit_nI, nI_add, pk_mul, nI_leI, nI_ltI, nI_eq, m1, m2, e1_and, m3]
            exact y1
      · -- the same again
        rw [rc] at hr
        obtain ⟨J2, e2, f2, z2⟩ := xs_fail (L := L) (ru := ru) (k := 4) (p := p) s1 (by decide)
        obtain ⟨J3, e3, f3, z3⟩ := xz_sign (L := L) (ru := ru) (n := n) (x := nI 44) z2 (by decide) (by decide) (by omega)
        refine ⟨J3, 4, p, 0, by decide, hp, ?_, (f1.dx.tr f2.dx).tr f3.dx, fun y => absurd y (by decide), fun _ => z3, fun I L2 ru2 km k hkm hMS hRD hL => ?_⟩
        · have he := fun v w => rocks_end (n := n) (K := fun w38 => some w38) (v := v) (w := w) kx (by omega)
          have xf2 := xz_f z2
          simp (config := { maxSteps := 2000000 }) (disch := omega) only [f176_H4, f176_J51, f176_J69, ux_at, ux_kk, ux_jo, gIx, pIx, pZx, gRx, aIx, sIx, aBx, sBx, lenx, clx, wshS, obS, reduceIte, Nat.one_ne_zero, Nat.zero_ne_one, Nat.reduceEqDiff, not_true_eq_false, not_false_eq_true, Nat.le_refl, ng_le, ng_lt, ng_nle, ng_nlt, ng_eq, ng_eq2, Bool.false_eq_true, lit_nI, nI_add, pk_mul, nI_leI, nI_ltI, nI_eq, i64', e1, hr, hna, e2, xf2, e3, he]
        · obtain ⟨km, rfl⟩ : ∃ z, km = z + 1 := ⟨km - 1, by omega⟩
          obtain ⟨I1, m1, m2, m3, m4, m5⟩ := hM I L2 ru2 hMS
          obtain ⟨q1, q2⟩ := m4 rfl
          have l2 : I1 81 c = nI 1 := by rw [m2.at (by decide) (by decide), hL c (by omega), ← r1]; exact rc
          have e4 := m_cell4 m1 q2 (by omega) l2 m3
          refine ⟨_, ?_, (m2.mono (by decide) (by decide)).uf (j := 16) (v := nI p) (by decide), fun y => absurd y (by decide), fun _ => ux_at⟩
          simp (config := { maxSteps := 2000000 }) (disch := omega) only [f201_H6, ux_at, ux_kk, ux_jo, gIm, pIm, pZm, gRm, aIm, sIm, aBm, sBm, gLm, pLm, clm, wshS, obS, reduceIte, Nat.one_ne_zero, Nat.zero_ne_one, Nat.reduceEqDiff, not_true_eq_false, not_false_eq_true, Nat.le_refl, ng_le, ng_lt, ng_nle, ng_nlt, ng_eq, ng_eq2, Bool.false_eq_true, lit_nI, nI_add, pk_mul, nI_leI, nI_ltI, nI_eq, e4, (by decide : ¬ 4 ≤ 0)]
    · -- no number
      obtain ⟨rfl, z1⟩ := c1 hf0
      have rkc := d1.2.2.2.2.2.1 0 (by decide)
      have hr := dr_isRock (J := J1) (L := L) (ru := ru) (c := 0) (by decide) rkc
      have xf := xz_f z1
      obtain ⟨J3, e3, f3, z3⟩ := xz_sign (L := L) (ru := ru) (n := n) (x := nI 44) z1 hf0 hf (by omega)
      refine ⟨J3, f, p, 0, hf, hp, ?_, f1.dx.tr f3.dx, fun y => absurd y hf0, fun _ => z3, fun I L2 ru2 km k hkm hMS hRD hL => ?_⟩
      · have he := fun v w => rocks_end (n := n) (K := fun w38 => some w38) (v := v) (w := w) kx (by omega)
        have ef := xz_fail (L := L) (ru := ru) (x := nI 4) (y := nI p) z1 hf0 hf
        rcases rkc with rc | rc
        · rw [rc] at hr
          simp (config := { maxSteps := 2000000 }) (disch := omega) only [f176_H4, f176_J51, f176_J69, ux_at, ux_kk, ux_jo, gIx, pIx, pZx, gRx, aIx, sIx, aBx, sBx, lenx, clx, wshS, obS, reduceIte, Nat.one_ne_zero, Nat.zero_ne_one, Nat.reduceEqDiff, not_true_eq_false, not_false_eq_true, Nat.le_refl, ng_le, ng_lt, ng_nle, ng_nlt, ng_eq, ng_eq2, Bool.false_eq_true, lit_nI, nI_add, pk_mul, nI_leI, nI_ltI, nI_eq, i64', e1, hr, xf, hf0, e3, he]
        · rw [rc] at hr
          simp (config := { maxSteps := 2000000 }) (disch := omega) only [f176_H4, f176_J51, f176_J69, ux_at, ux_kk, ux_jo, gIx, pIx, pZx, gRx, aIx, sIx, aBx, sBx, lenx, clx, wshS, obS, reduceIte, Nat.one_ne_zero, Nat.zero_ne_one, Nat.reduceEqDiff, not_true_eq_false, not_false_eq_true, Nat.le_refl, ng_le, ng_lt, ng_nle, ng_nlt, ng_eq, ng_eq2, Bool.false_eq_true, lit_nI, nI_add, pk_mul, nI_leI, nI_ltI, nI_eq, i64', e1, hr, hna, ef, xf, hf0, e3, he]
      · obtain ⟨km, rfl⟩ : ∃ z, km = z + 1 := ⟨km - 1, by omega⟩
        obtain ⟨I1, m1, m2, m3, m4, m5⟩ := hM I L2 ru2 hMS
        have e4 := m_cellF m1 hf0 hf
        have h0 : ¬ f ≤ 0 := Nat.not_le_of_gt (Nat.pos_of_ne_zero hf0)
        refine ⟨I1, ?_, m2.mono (by decide) (by decide), fun y => absurd y hf0, m5⟩
        simp (config := { maxSteps := 2000000 }) (disch := omega) only [f201_H6, ux_at, ux_kk, ux_jo, gIm, pIm, pZm, gRm, aIm, sIm, aBm, sBm, gLm, pLm, clm, wshS, obS, reduceIte, Nat.one_ne_zero, Nat.zero_ne_one, Nat.reduceEqDiff, not_true_eq_false, not_false_eq_true, Nat.le_refl, ng_le, ng_lt, ng_nle, ng_nlt, ng_eq, ng_eq2, Bool.false_eq_true, lit_nI, nI_add, pk_mul, nI_leI, nI_ltI, nI_eq, e4, h0]
/-- the rocks -/
theorem p_rocks (hT2 : ∀ i, T i < 256) (hn : 1000 < n) {a k : Nat} (hS : XS J T N a) (hD : DrK J) (h0 : ∀ c, c < 64 → J 26 c = nI 0) (hto : bN (J 27 2).toNatClampNeg 1 = 1) : NT n T N L ru J k k a (f176 n 27 (mW J L ru)) (f201 n 67) := by
  have hN := hS.1.2.1
  have hz : cB (rkB J) 64 = 0 := cB_zero 64 fun c hc => by
    unfold rkB
    rw [h0 c hc]
    exact decide_eq_false (by decide +kernel)
  obtain ⟨J', f, p, a', z1, z2, z3, z4, z5, z6, z7⟩ := p_rocks_lp (L := L) (ru := ru) hT2 hn 301 J a 0 n hS hD rfl hz (by omega) (by omega) hto
  refine ⟨J', f, p, a', z1, z2, z3, z4, z5, z6, fun I L2 ru2 hMS hRD => ?_⟩
  obtain ⟨I1, e1, f1, l1⟩ := m_begin (I := I) (L := L2) (ru := ru2) (n := n) (by omega)
  obtain ⟨I', y1, y2, y3, y4⟩ := z7 I1 L2 ru2 n k (by omega) (hMS.fr f1 (by decide) (by decide) (by decide) (by decide)) (hRD.m f1 (by decide) (by decide)) fun c hc => by rw [l1 c hc, h0 c hc]
  refine ⟨I', L2, ?_, (f1.mono (by decide) (by decide)).tr y2, y3, y4⟩
  simp (config := { maxSteps := 2000000 }) (disch := omega) only [f201, ux_at, ux_kk, ux_jo, gIm, pIm, pZm, gRm, aIm, sIm, aBm, sBm, gLm, pLm, clm, wshS, obS, reduceIte, Nat.one_ne_zero, Nat.zero_ne_one, Nat.reduceEqDiff, not_true_eq_false, not_false_eq_true, Nat.le_refl, ng_le, ng_lt, ng_nle, ng_nlt, ng_eq, ng_eq2, Bool.false_eq_true, lit_nI, nI_add, pk_mul, nI_leI, nI_ltI, nI_eq, e1]
  exact y1
end
