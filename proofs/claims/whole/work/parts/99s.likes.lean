/-! TEXTS: likes: both sides -/
theorem lk_test {l c : Nat} (hl : l < 2 ^ 64) (hc : c < 64) : (lg_cmp (lush (lN l) (nI c) &&& lN 1) (lN 0) = nI 0) = (l.testBit c = false) := by
  have h1 : lush (lN l) (nI c) = lN (l / 2 ^ c) := wb_shr hl hc
  have h2 : l / 2 ^ c < 2 ^ 64 := Nat.lt_of_le_of_lt (Nat.div_le_self _ _) hl
  have h3 := wb_mask (n := l / 2 ^ c) (k := 1) h2 (by decide)
  have h4 : l / 2 ^ c % 2 ^ 1 < 2 := Nat.mod_lt _ (by decide)
  rw [h1]
  refine (congrArg (fun y => lg_cmp y (lN 0) = nI 0) h3).trans ?_
  rw [lge (by omega) (by decide), Nat.testBit_eq_decide_div_mod_eq, Nat.pow_one]
  rw [Nat.pow_one] at h4
  refine propext ⟨fun z => ?_, fun z => ?_⟩
  · rw [z]
    rfl
  · have := of_decide_eq_false z
    omega
theorem lk_set {l c : Nat} (hl : l < 2 ^ 64) (hc : c < 64) : lN l ||| (lN 1 <<< (Int32.toInt64 (nI c) &&& lN 63)) = lN (l ||| 2 ^ c) := by
  have e : lN 63 = (63 : Int64) := by decide +kernel
  have h2 : 2 ^ c < 2 ^ 64 := wb_lt2 hc
  rw [e, wb_shl 1 hc, Nat.one_mul, wb_or hl h2]
theorem lk_lt {l c : Nat} (hl : l < 2 ^ 64) (hc : c < 64) : l ||| 2 ^ c < 2 ^ 64 := Nat.or_lt_two_pow hl (wb_lt2 hc)
theorem lk_bit (l c j : Nat) : (l ||| 2 ^ c).testBit j = (l.testBit j || decide (c = j)) := by
  rw [Nat.testBit_or, Nat.testBit_two_pow]
abbrev lmK : List Nat := [80, 81]
abbrev lmF : List Nat := [16, 17, 20, 21]
theorem row_dx {s : Nat} (h : s < 6) : 20 + s ∈ dxK := by
  rcases (show s = 0 ∨ s = 1 ∨ s = 2 ∨ s = 3 ∨ s = 4 ∨ s = 5 by omega) with rfl | rfl | rfl | rfl | rfl | rfl <;> decide
theorem row_ne {s : Nat} (h : s < 6) : 20 + s ≠ 15 ∧ 20 + s ≠ 16 ∧ 20 + s ≠ 17 ∧ 20 + s ≠ 26 ∧ 20 + s ≠ 27 ∧ 20 + s ≠ 1 ∧ 20 + s ≠ 2 := by omega
theorem DrK.like {J : St} (h : DrK J) {s c : Nat} {v : Int32} (hs : s < soD J) (hv : -9 ≤ v.toInt ∧ v.toInt ≤ 9) : DrK (u2 J (20 + s) c v) := by
  obtain ⟨b1, b2, b3, b4, b5, b6, b7, b8⟩ := h
  have h6 := b5.2
  have e1 : (u2 J (20 + s) c v) 15 = J 15 := ux_kk (by omega)
  have es : soD (u2 J (20 + s) c v) = soD J := by unfold soD; rw [e1]
  unfold DrK DrT
  rw [es, e1, ux_kk (show ¬ 26 = 20 + s by omega), ux_kk (show ¬ 27 = 20 + s by omega)]
  refine ⟨b1, b2, b3, b4, b5, b6, fun s' hs' => ?_, b8⟩
  have := b7 s' hs'
  unfold DrS at this ⊢
  rw [ux_kk (show ¬ 16 = 20 + s by omega), ux_kk (show ¬ 17 = 20 + s by omega)]
  refine ⟨this.1, this.2.1, fun c' hc' => ?_⟩
  by_cases e : s' = s
  · rw [e, ux_if]
    split
    · exact hv
    · rw [← e]
      exact this.2.2 c' hc'
  · rw [ux_kk (by omega)]
    exact this.2.2 c' hc'
theorem RDr.like {I J : St} {k : Nat} (h : RDr I J k) (h6 : soD J ≤ 6) {s c : Nat} {v : Int32} (hs : s < soD J) (hc : c < 64) : RDr (u2 I 80 (64 * s + c) v) (u2 J (20 + s) c v) k := by
  obtain ⟨b1, b2, b3, b4, b5, b6, b7, b8⟩ := h
  have e1 : (u2 J (20 + s) c v) 15 = J 15 := ux_kk (by omega)
  have es : soD (u2 J (20 + s) c v) = soD J := by unfold soD; rw [e1]
  unfold RDr
  rw [es, e1, ux_kk (show ¬ 26 = 20 + s by omega), ux_kk (show ¬ 27 = 20 + s by omega), ux_kk (show ¬ 16 = 20 + s by omega), ux_kk (show ¬ 17 = 20 + s by omega), ux_kk (by decide : ¬ 67 = 80), ux_kk (by decide : ¬ 77 = 80), ux_kk (by decide : ¬ 78 = 80), ux_kk (by decide : ¬ 79 = 80)]
  refine ⟨b1, b2, b3, b4, b5, b6, b7, fun s' hs' => ?_⟩
  obtain ⟨d1, d2, d3⟩ := b8 s' hs'
  refine ⟨d1, d2, fun c' hc' => ?_⟩
  by_cases e : s' = s
  · rw [e, ux_if, ux_if]
    by_cases e2 : c' = c
    · rw [if_pos (by omega), if_pos e2]
    · rw [if_neg (by omega), if_neg e2, ← e]
      exact d3 c' hc'
  · rw [ux_j (by omega), ux_kk (show ¬ 20 + s' = 20 + s by omega)]
    exact d3 c' hc'
section
variable {I J : St} {L : Lt} {ru n : Nat} {T : Nat → Nat} {N : Nat}
theorem likes_end {K : Wd → Option Wd} {v : Int32} {x : Int64} {y : Int32} {w : Wd} : ∀ k, 0 < k → f177_H8 n K k 27 y x (nI 0) v w = K w
  | 0, h => absurd h (Nat.not_lt_zero _)
  | k + 1, _ => by
    simp only [f177_H8, lit_nI, reduceIte, ite_self]
theorem mlikes_end {K : Wd → Option (Int32 × Wd)} {y : Int32} {w : Wd} : ∀ k, 0 < k → f202_H6 n K k 67 y (nI 0) w = K w
  | 0, h => absurd h (Nat.not_lt_zero _)
  | k + 1, _ => by
    simp only [f202_H6, lit_nI, reduceIte]
/-- dead: a like's number and what is behind it -/
theorem likes_dead {f p s c : Nat} {x : Int64} {y : Int32} {kx : Nat} (hk : 0 < kx) (h : XZ J T N f p) (hf : f ≠ 0) (h6 : f < 6) (hD : DrK J) (hs : s < soD J) (hc : c < 64) (hn : 500 < n) : ∃ J', f177_J58 n (fun v0 v1 v2 v4 v5 w => f177_H8 n (fun w33 => some w33) kx v0 v1 v2 v4 v5 w) (fun w33 => some w33) 27 (nI s) x y (nI c) (mW J L ru) = some (mW J' L ru) ∧ Fr dxK [] J J' ∧ XZ J' T N f p := by
  obtain ⟨J1, e1, f1, z1⟩ := xz_num (L := L) (ru := ru) (n := n) (lo := -nI 9) (hi := nI 9) h hf h6 hn
  have d1 := hD.fr f1.1 (by decide)
  have es : soD J1 = soD J := by unfold soD; rw [f1.1.at (by decide) (by decide)]
  have h66 := d1.2.2.2.2.1.2
  have e2 := dr_setLiking (L := L) (ru := ru) (v := nI 0) d1.2.2.2.2.1.1 h66 (es ▸ hs) hc
  have z2 : XZ (u2 J1 (20 + s) c (nI 0)) T N f p := z1.fr (Fr.rf.u (K := [20 + s]) (List.mem_singleton.mpr rfl)) (by simp; omega) (by simp; omega)
  obtain ⟨J3, e3, f3, z3⟩ := xz_sign (L := L) (ru := ru) (n := n) (x := nI 44) z2 hf h6 hn
  have he := fun y x v w => likes_end (n := n) (K := fun w33 => some w33) (y := y) (x := x) (v := v) (w := w) kx hk
  refine ⟨J3, ?_, (f1.dx.u (row_dx (by omega))).tr f3.dx, z3⟩
  simp (config := { maxSteps := 2000000 }) (disch := omega) only [f177_J58, ux_at, ux_kk, ux_jo, gIx, pIx, pZx, gRx, aIx, sIx, aBx, sBx, lenx, clx, wshS, obS, reduceIte, Nat.one_ne_zero, Nat.zero_ne_one, Nat.reduceEqDiff, not_true_eq_false, not_false_eq_true, Nat.le_refl, ng_le, ng_lt, ng_nle, ng_nlt, ng_eq, ng_eq2, Bool.false_eq_true, lit_nI, nI_add, pk_mul, nI_leI, nI_ltI, nI_eq, e1, e2, e3, he]
theorem p_likes_lp (hT2 : ∀ i, T i < 256) (hn : 1000 < n) {s : Nat} : ∀ m J a i kx l, XS J T N a → DrK J → s < soD J → l < 2 ^ 64 → cB (fun c => l.testBit c) 64 = i → N - a < m → N - a + 5 < kx →
    ∃ J' f p a', f < 6 ∧ p ≤ 300 ∧ f177_H8 n (fun w33 => some w33) kx 27 (nI s) (lN l) (nI 1) (nI i) (mW J L ru) = some (mW J' L ru) ∧ Fr dxK [] J J' ∧ (f = 0 → XS J' T N a' ∧ a < a' ∧ DrK J' ∧ soD J' = soD J ∧ J' 17 = J 17) ∧ (f ≠ 0 → XZ J' T N f p) ∧ ∀ I L2 ru2 km k, N - a + 5 < km → MS I T N a → RDr I J k → (∀ c, c < 64 → I 81 c = if l.testBit c then nI 1 else nI 0) → ∃ I', f202_H6 n (fun w23 => some (nI 0, w23)) km 67 (nI s) (nI 1) (mW I L2 ru2) = some (nI f, mW I' L2 ru2) ∧ Fr lmK lmF I I' ∧ (f = 0 → MS I' T N a' ∧ RDr I' J' k) ∧ (f ≠ 0 → I' 67 16 = nI p) := by
  intro m
  induction m with
  | zero => intro J a i kx l _ _ _ _ _ h; omega
  | succ m ih =>
    intro J a i kx l hS hD hs hl hi hm hk
    obtain ⟨kx, rfl⟩ : ∃ z, kx = z + 1 := ⟨kx - 1, by omega⟩
    have i64 : i ≤ 64 := by rw [← hi]; exact cB_le _ _
    have i64' : ¬ 64 < i := by omega
    have h66 := hD.2.2.2.2.1.2
    have s6 : s < 6 := Nat.lt_of_lt_of_le hs h66
    have kx0 : 0 < kx := by omega
    obtain ⟨J1, v, f, p, a1, e1, f1, hf, hp, hna, c0, c1, hM⟩ := two_num (L := L) (ru := ru) (n := n) (lo := 0) (hi := 63) hT2 hS (by decide) (by decide) (by omega)
    have d1 := hD.fr f1.1 (by decide)
    have es1 : soD J1 = soD J := by unfold soD; rw [f1.1.at (by decide) (by decide)]
    by_cases hf0 : f = 0
    · subst hf0
      obtain ⟨s1, lt1, c, _, hc, rfl⟩ := c0 rfl
      have hc : c < 64 := Nat.lt_succ_of_le hc
      have lt := lk_test hl hc
      cases hb : l.testBit c with
      | true =>
        rw [hb] at lt
        have lt' : ¬ lg_cmp (lush (lN l) (nI c) &&& lN 1) (lN 0) = nI 0 := by rw [lt]; decide
        obtain ⟨J2, e2, f2, z2⟩ := xs_fail (L := L) (ru := ru) (k := 4) (p := p) s1 (by decide)
        have d2 := d1.fr f2.1 (by decide)
        have es2 : soD J2 = soD J1 := by unfold soD; rw [f2.1.at (by decide) (by decide)]
        obtain ⟨J3, e3, f3, z3⟩ := likes_dead (L := L) (ru := ru) (n := n) (s := s) (c := c) (x := lN l) (y := nI i) (kx := kx) kx0 z2 (by decide) (by decide) d2 (by rw [es2, es1]; exact hs) hc (by omega)
        refine ⟨J3, 4, p, 0, by decide, hp, ?_, (f1.dx.tr f2.dx).tr f3, fun y => absurd y (by decide), fun _ => z3, fun I L2 ru2 km k hkm hMS hRD hL => ?_⟩
        · simp (config := { maxSteps := 2000000 }) (disch := omega) only [f177_H8, ux_at, ux_kk, ux_jo, gIx, pIx, pZx, gRx, aIx, sIx, aBx, sBx, lenx, clx, wshS, obS, reduceIte, Nat.one_ne_zero, Nat.zero_ne_one, Nat.reduceEqDiff, not_true_eq_false, not_false_eq_true, Nat.le_refl, ng_le, ng_lt, ng_nle, ng_nlt, ng_eq, ng_eq2, Bool.false_eq_true, lit_nI, nI_add, pk_mul, nI_leI, nI_ltI, nI_eq, lit_lN, i64', e1, lt', hna, e2]
          exact e3
        · obtain ⟨km, rfl⟩ : ∃ z, km = z + 1 := ⟨km - 1, by omega⟩
          obtain ⟨I1, m1, m2, m3, m4, m5⟩ := hM I L2 ru2 hMS
          obtain ⟨q1, q2⟩ := m4 rfl
          have l2 : I1 81 c = nI 1 := by rw [m2.at (by decide) (by decide), hL c hc, hb]; rfl
          have e4 := m_cell4 m1 q2 hc l2 m3
          refine ⟨_, ?_, (m2.mono (by decide) (by decide)).uf (j := 16) (v := nI p) (by decide), fun y => absurd y (by decide), fun _ => ux_at⟩
          simp (config := { maxSteps := 2000000 }) (disch := omega) only [f202_H6, f202_J35, ux_at, ux_kk, ux_jo, gIm, pIm, pZm, gRm, aIm, sIm, aBm, sBm, gLm, pLm, clm, wshS, obS, reduceIte, Nat.one_ne_zero, Nat.zero_ne_one, Nat.reduceEqDiff, not_true_eq_false, not_false_eq_true, Nat.le_refl, ng_le, ng_lt, ng_nle, ng_nlt, ng_eq, ng_eq2, Bool.false_eq_true, lit_nI, nI_add, pk_mul, nI_leI, nI_ltI, nI_eq, e4, (by decide : ¬ 4 ≤ 0)]
      | false =>
        rw [hb] at lt
        have lt' : lg_cmp (lush (lN l) (nI c) &&& lN 1) (lN 0) = nI 0 := by rw [lt]
        have st := lk_set hl hc
        obtain ⟨J2, v, g, q, a2, e2, f2, hg, hq, g0, g1, hM2⟩ := two_sgn (L := L) (ru := ru) (n := n) hT2 s1 (by omega)
        have d2 := d1.fr f2.1 (by decide)
        have es2 : soD J2 = soD J1 := by unfold soD; rw [f2.1.at (by decide) (by decide)]
        have hs2 : s < soD J2 := by rw [es2, es1]; exact hs
        have e3 := dr_setLiking (J := J2) (L := L) (ru := ru) (v := v) d2.2.2.2.2.1.1 d2.2.2.2.2.1.2 hs2 hc
        -- the reference's cell and number
        have hR : ∀ I L2 ru2 k, MS I T N a → RDr I J k → (∀ c, c < 64 → I 81 c = if l.testBit c then nI 1 else nI 0) → ∃ I1 I2, f189 n 67 (mW I L2 ru2) = some (nI 0, mW I1 L2 ru2) ∧ I1 67 20 = nI c ∧ f162 n 67 (nI 9) (mW I1 L2 ru2) = some (nI g, mW I2 L2 ru2) ∧ Fr lmK lmF I I2 ∧ (g = 0 → MS I2 T N a2 ∧ RDr I2 J2 k ∧ I2 67 20 = v ∧ ∀ c', c' < 64 → I2 81 c' = if (l ||| 2 ^ c).testBit c' then nI 1 else nI 0) ∧ (g ≠ 0 → I2 67 16 = nI q) := by
          intro I L2 ru2 k hMS hRD hL
          obtain ⟨I1, m1, m2, m3, m4, m5⟩ := hM I L2 ru2 hMS
          obtain ⟨q1, q2⟩ := m4 rfl
          have l1 : I1 81 = I 81 := m2.at (by decide) (by decide)
          have l2 : I1 81 c = nI 0 := by rw [l1, hL c hc, hb]; rfl
          have e4 := m_cell0 m1 q2 hc l2
          have g3 : Fr lmK lmF I1 (u2 I1 81 c (nI 1)) := Fr.rf.u (by decide)
          have s4 : MS (u2 I1 81 c (nI 1)) T N a1 := ⟨q1.1.fr g3 (by decide) (by decide) (by decide), (ux_k (by decide)).trans q1.2.1, (ux_k (by decide)).trans q1.2.2⟩
          obtain ⟨I2, m6, m7, m8, m9⟩ := hM2 _ L2 ru2 s4
          refine ⟨_, I2, e4, (ux_k (by decide)).trans q2, m6, ((m2.mono (by decide) (by decide)).tr g3).tr (m7.mono (by decide) (by decide)), fun z => ⟨(m8 z).1, ?_, (m8 z).2, fun c' hc' => ?_⟩, m9⟩
          · have q3 : RDr I1 J1 k := (hRD.x h66 f1.1 (by decide)).m m2 (by decide) (by decide)
            have q5 : RDr (u2 I1 81 c (nI 1)) J1 k := q3.m (Fr.rf.u (K := [81]) (F := []) (by decide)) (by decide) (by decide)
            exact (q5.x d1.2.2.2.2.1.2 f2.1 (by decide)).m m7 (by decide) (by decide)
          · rw [m7.at (by decide) (by decide), ux_if, l1, hL c' hc', lk_bit]
            by_cases e : c' = c
            · rw [if_pos e, if_pos (by rw [e, decide_eq_true rfl, Bool.or_true])]
            · rw [if_neg e, decide_eq_false (fun z => e z.symm), Bool.or_false]
        by_cases hg0 : g = 0
        · subst hg0
          obtain ⟨s2, lt2, v1, v2⟩ := g0 rfl
          have d3 := d2.like (s := s) (c := c) hs2 ⟨v1, v2⟩
          have s3 : XS (u2 J2 (20 + s) c v) T N a2 := s2.fr (Fr.rf.u (K := [20 + s]) (List.mem_singleton.mpr rfl)) (by simp; omega) (by simp; omega)
          have es3 : soD (u2 J2 (20 + s) c v) = soD J2 := by unfold soD; rw [ux_kk (by omega)]
          obtain ⟨J4, cm, a3, hcm, e4, f4, s4, le4, hC⟩ := two_comma (L := L) (ru := ru) (n := n) s3 (by omega)
          have d4 := d3.fr f4.1 (by decide)
          have es4 : soD J4 = soD J := by
            unfold soD
            rw [f4.1.at (by decide) (by decide)]
            exact es3.trans (es2.trans es1)
          have ef4 : J4 17 = J 17 := by rw [f4.1.at (by decide) (by decide), ux_kk (by omega), f2.1.at (by decide) (by decide), f1.1.at (by decide) (by decide)]
          have g4 : Fr dxK [] J J4 := ((f1.dx.tr f2.dx).u (row_dx s6)).tr f4.dx
          have hR2 : ∀ I L2 ru2 k, MS I T N a → RDr I J k → (∀ c, c < 64 → I 81 c = if l.testBit c then nI 1 else nI 0) → ∃ I1 I2 I3, f189 n 67 (mW I L2 ru2) = some (nI 0, mW I1 L2 ru2) ∧ I1 67 20 = nI c ∧ f162 n 67 (nI 9) (mW I1 L2 ru2) = some (nI 0, mW I2 L2 ru2) ∧ I2 67 20 = v ∧ f114 n 67 (mW (u2 I2 80 (64 * s + c) v) L2 ru2) = some (nI cm, mW I3 L2 ru2) ∧ Fr lmK lmF I I3 ∧ MS I3 T N a3 ∧ RDr I3 J4 k ∧ ∀ c', c' < 64 → I3 81 c' = if (l ||| 2 ^ c).testBit c' then nI 1 else nI 0 := by
            intro I L2 ru2 k hMS hRD hL
            obtain ⟨I1, I2, m1, m2, m3, m4, m5, m6⟩ := hR I L2 ru2 k hMS hRD hL
            obtain ⟨q1, q2, q3, q4⟩ := m5 rfl
            have g3 : Fr lmK lmF I2 (u2 I2 80 (64 * s + c) v) := Fr.rf.u (by decide)
            have s5 : MS (u2 I2 80 (64 * s + c) v) T N a2 := ⟨q1.1.fr g3 (by decide) (by decide) (by decide), (ux_k (by decide)).trans q1.2.1, (ux_k (by decide)).trans q1.2.2⟩
            obtain ⟨I3, m7, m8, m9⟩ := hC _ L2 ru2 s5
            refine ⟨I1, I2, I3, m1, m2, m3, q3, m7, (m4.tr g3).tr (m8.mono (by decide) (by decide)), m9, ?_, fun c' hc' => ?_⟩
            · exact ((q2.like d2.2.2.2.2.1.2 hs2 hc).x d3.2.2.2.2.1.2 f4.1 (by decide)).m m8 (by decide) (by decide)
            · rw [m8.at (by decide) (by decide), ux_kk (by decide)]
              exact q4 c' hc'
          rcases one_or hcm with rfl | rfl
          · refine ⟨J4, 0, 0, a3, by decide, by decide, ?_, g4, fun _ => ⟨s4, Nat.lt_of_lt_of_le (Nat.lt_trans lt1 lt2) le4, d4, es4, ef4⟩, fun y => absurd rfl y, fun I L2 ru2 km k hkm hMS hRD hL => ?_⟩
            · have he := fun y x v w => likes_end (n := n) (K := fun w33 => some w33) (y := y) (x := x) (v := v) (w := w) kx kx0
              simp (config := { maxSteps := 2000000 }) (disch := omega) only [f177_H8, f177_J58, ux_at, ux_kk, ux_jo, gIx, pIx, pZx, gRx, aIx, sIx, aBx, sBx, lenx, clx, wshS, obS, reduceIte, Nat.one_ne_zero, Nat.zero_ne_one, Nat.reduceEqDiff, not_true_eq_false, not_false_eq_true, Nat.le_refl, ng_le, ng_lt, ng_nle, ng_nlt, ng_eq, ng_eq2, Bool.false_eq_true, lit_nI, nI_add, pk_mul, nI_leI, nI_ltI, nI_eq, lit_lN, i64', e1, lt', e2, e3, e4, he]
            · obtain ⟨km, rfl⟩ : ∃ z, km = z + 1 := ⟨km - 1, by omega⟩
              have he := fun y w => mlikes_end (n := n) (K := fun w23 => some (nI 0, w23)) (y := y) (w := w) km (by omega)
              obtain ⟨I1, I2, I3, m1, m2, m3, m4, m5, m6, m7, m8, m9⟩ := hR2 I L2 ru2 k hMS hRD hL
              refine ⟨I3, ?_, m6, fun _ => ⟨m7, m8⟩, fun y => absurd rfl y⟩
              simp (config := { maxSteps := 2000000 }) (disch := omega) only [f202_H6, f202_J35, ux_at, ux_kk, ux_jo, gIm, pIm, pZm, gRm, aIm, sIm, aBm, sBm, gLm, pLm, clm, wshS, obS, reduceIte, Nat.one_ne_zero, Nat.zero_ne_one, Nat.reduceEqDiff, not_true_eq_false, not_false_eq_true, Nat.le_refl, ng_le, ng_lt, ng_nle, ng_nlt, ng_eq, ng_eq2, Bool.false_eq_true, lit_nI, nI_add, pk_mul, nI_leI, nI_ltI, nI_eq, m1, m2, m3, m4, m5, he]
          · have cz : cB (fun c' => (l ||| 2 ^ c).testBit c') 64 = i + 1 := by
              rw [← hi]
              refine cB_set (c := c) 64 hc hb ?_ fun j hj => ?_
              · rw [lk_bit, decide_eq_true rfl, Bool.or_true]
              · rw [lk_bit, decide_eq_false (fun z => hj z.symm), Bool.or_false]
            have lt3 : a < a2 := Nat.lt_trans lt1 lt2
            obtain ⟨J', f', p', a', z1, z2, z3, z4, z5, z6, z7⟩ := ih J4 a3 (i + 1) kx (l ||| 2 ^ c) s4 d4 (by rw [es4]; exact hs) (lk_lt hl hc) cz (ar_m hm lt3 le4 s4.2.1) (ar_k hk lt3 le4 s4.2.1)
            refine ⟨J', f', p', a', z1, z2, ?_, g4.tr z4, fun y => ⟨(z5 y).1, Nat.lt_trans (Nat.lt_of_lt_of_le lt3 le4) (z5 y).2.1, (z5 y).2.2.1, (z5 y).2.2.2.1.trans es4, (z5 y).2.2.2.2.trans ef4⟩, z6, fun I L2 ru2 km k hkm hMS hRD hL => ?_⟩
            · simp (config := { maxSteps := 2000000 }) (disch := omega) only [f177_H8, f177_J58, ux_at, ux_kk, ux_jo, gIx, pIx, pZx, gRx, aIx, sIx, aBx, sBx, lenx, clx, wshS, obS, reduceIte, Nat.one_ne_zero, Nat.zero_ne_one, Nat.reduceEqDiff, not_true_eq_false, not_false_eq_true, Nat.le_refl, ng_le, ng_lt, ng_nle, ng_nlt, ng_eq, ng_eq2, Bool.false_eq_true, lit_nI, nI_add, pk_mul, nI_leI, nI_ltI, nI_eq, lit_lN, i64', e1, lt', e2, e3, e4, st]
              exact z3
            · obtain ⟨km, rfl⟩ : ∃ z, km = z + 1 := ⟨km - 1, by omega⟩
              obtain ⟨I1, I2, I3, m1, m2, m3, m4, m5, m6, m7, m8, m9⟩ := hR2 I L2 ru2 k hMS hRD hL
              obtain ⟨I', y1, y2, y3, y4⟩ := z7 I3 L2 ru2 km k (ar_k hkm lt3 le4 s4.2.1) m7 m8 m9
              refine ⟨I', ?_, m6.tr y2, y3, y4⟩
              simp (config := { maxSteps := 2000000 }) (disch := omega) only [f202_H6, f202_J35, ux_at, ux_kk, ux_jo, gIm, pIm, pZm, gRm, aIm, sIm, aBm, sBm, gLm, pLm, clm, wshS, obS, reduceIte, Nat.one_ne_zero, Nat.zero_ne_one, Nat.reduceEqDiff, not_true_eq_false, not_false_eq_true, Nat.le_refl, ng_le, ng_lt, ng_nle, ng_nlt, ng_eq, ng_eq2, Bool.false_eq_true, lit_nI, nI_add, pk_mul, nI_leI, nI_ltI, nI_eq, m1, m2, m3, m4, m5]
              exact y1
        · obtain ⟨rfl, z2⟩ := g1 hg0
          have z3 : XZ (u2 J2 (20 + s) c (nI 0)) T N g q := z2.fr (Fr.rf.u (K := [20 + s]) (List.mem_singleton.mpr rfl)) (by simp; omega) (by simp; omega)
          obtain ⟨J4, e4, f4, z4⟩ := xz_sign (L := L) (ru := ru) (n := n) (x := nI 44) z3 hg0 hg (by omega)
          have h0 : ¬ g ≤ 0 := Nat.not_le_of_gt (Nat.pos_of_ne_zero hg0)
          refine ⟨J4, g, q, 0, hg, hq, ?_, ((f1.dx.tr f2.dx).u (row_dx s6)).tr f4.dx, fun y => absurd y hg0, fun _ => z4, fun I L2 ru2 km k hkm hMS hRD hL => ?_⟩
          · have he := fun y x v w => likes_end (n := n) (K := fun w33 => some w33) (y := y) (x := x) (v := v) (w := w) kx kx0
            simp (config := { maxSteps := 2000000 }) (disch := omega) only [f177_H8, f177_J58, ux_at, ux_kk, ux_jo, gIx, pIx, pZx, gRx, aIx, sIx, aBx, sBx, lenx, clx, wshS, obS, reduceIte, Nat.one_ne_zero, Nat.zero_ne_one, Nat.reduceEqDiff, not_true_eq_false, not_false_eq_true, Nat.le_refl, ng_le, ng_lt, ng_nle, ng_nlt, ng_eq, ng_eq2, Bool.false_eq_true, lit_nI, nI_add, pk_mul, nI_leI, nI_ltI, nI_eq, lit_lN, i64', e1, lt', e2, e3, e4, he]
          · obtain ⟨km, rfl⟩ : ∃ z, km = z + 1 := ⟨km - 1, by omega⟩
            obtain ⟨I1, I2, m1, m2, m3, m4, m5, m6⟩ := hR I L2 ru2 k hMS hRD hL
            refine ⟨I2, ?_, m4, fun y => absurd y hg0, m6⟩
            simp (config := { maxSteps := 2000000 }) (disch := omega) only [f202_H6, f202_J35, ux_at, ux_kk, ux_jo, gIm, pIm, pZm, gRm, aIm, sIm, aBm, sBm, gLm, pLm, clm, wshS, obS, reduceIte, Nat.one_ne_zero, Nat.zero_ne_one, Nat.reduceEqDiff, not_true_eq_false, not_false_eq_true, Nat.le_refl, ng_le, ng_lt, ng_nle, ng_nlt, ng_eq, ng_eq2, Bool.false_eq_true, lit_nI, nI_add, pk_mul, nI_leI, nI_ltI, nI_eq, m1, m2, m3, h0]
    · obtain ⟨rfl, z1⟩ := c1 hf0
      obtain ⟨J3, e3, f3, z3⟩ := likes_dead (L := L) (ru := ru) (n := n) (s := s) (c := 0) (x := lN l) (y := nI i) (kx := kx) kx0 z1 hf0 hf d1 (by rw [es1]; exact hs) (by decide) (by omega)
      refine ⟨J3, f, p, 0, hf, hp, ?_, f1.dx.tr f3, fun y => absurd y hf0, fun _ => z3, fun I L2 ru2 km k hkm hMS hRD hL => ?_⟩
      · have ef := xz_fail (L := L) (ru := ru) (x := nI 4) (y := nI p) z1 hf0 hf
        by_cases q : lg_cmp (lush (lN l) (nI 0) &&& lN 1) (lN 0) = nI 0
        · simp (config := { maxSteps := 2000000 }) (disch := omega) only [f177_H8, ux_at, ux_kk, ux_jo, gIx, pIx, pZx, gRx, aIx, sIx, aBx, sBx, lenx, clx, wshS, obS, reduceIte, Nat.one_ne_zero, Nat.zero_ne_one, Nat.reduceEqDiff, not_true_eq_false, not_false_eq_true, Nat.le_refl, ng_le, ng_lt, ng_nle, ng_nlt, ng_eq, ng_eq2, Bool.false_eq_true, lit_nI, nI_add, pk_mul, nI_leI, nI_ltI, nI_eq, lit_lN, i64', e1, q]
          exact e3
        · simp (config := { maxSteps := 2000000 }) (disch := omega) only [f177_H8, ux_at, ux_kk, ux_jo, gIx, pIx, pZx, gRx, aIx, sIx, aBx, sBx, lenx, clx, wshS, obS, reduceIte, Nat.one_ne_zero, Nat.zero_ne_one, Nat.reduceEqDiff, not_true_eq_false, not_false_eq_true, Nat.le_refl, ng_le, ng_lt, ng_nle, ng_nlt, ng_eq, ng_eq2, Bool.false_eq_true, lit_nI, nI_add, pk_mul, nI_leI, nI_ltI, nI_eq, lit_lN, i64', e1, q, hna, ef]
          exact e3
      · obtain ⟨km, rfl⟩ : ∃ z, km = z + 1 := ⟨km - 1, by omega⟩
        obtain ⟨I1, m1, m2, m3, m4, m5⟩ := hM I L2 ru2 hMS
        have e4 := m_cellF m1 hf0 hf
        have h0 : ¬ f ≤ 0 := Nat.not_le_of_gt (Nat.pos_of_ne_zero hf0)
        refine ⟨I1, ?_, m2.mono (by decide) (by decide), fun y => absurd y hf0, m5⟩
        simp (config := { maxSteps := 2000000 }) (disch := omega) only [f202_H6, f202_J35, ux_at, ux_kk, ux_jo, gIm, pIm, pZm, gRm, aIm, sIm, aBm, sBm, gLm, pLm, clm, wshS, obS, reduceIte, Nat.one_ne_zero, Nat.zero_ne_one, Nat.reduceEqDiff, not_true_eq_false, not_false_eq_true, Nat.le_refl, ng_le, ng_lt, ng_nle, ng_nlt, ng_eq, ng_eq2, Bool.false_eq_true, lit_nI, nI_add, pk_mul, nI_leI, nI_ltI, nI_eq, e4, h0]
/-- the likes of a sort -/
theorem p_likes (hT2 : ∀ i, T i < 256) (hn : 1000 < n) {a s : Nat} (hS : XS J T N a) (hD : DrK J) (hs : s < soD J) :
    ∃ J' f p a', f < 6 ∧ p ≤ 300 ∧ f177 n 27 (nI s) (mW J L ru) = some (mW J' L ru) ∧ Fr dxK [] J J' ∧ (f = 0 → XS J' T N a' ∧ a < a' ∧ DrK J' ∧ soD J' = soD J ∧ J' 17 = J 17) ∧ (f ≠ 0 → XZ J' T N f p) ∧ ∀ I L2 ru2 k, MS I T N a → RDr I J k → ∃ I', f202 n 67 (nI s) (mW I L2 ru2) = some (nI f, mW I' L2 ru2) ∧ Fr lmK lmF I I' ∧ (f = 0 → MS I' T N a' ∧ RDr I' J' k) ∧ (f ≠ 0 → I' 67 16 = nI p) := by
  have hN := hS.1.2.1
  have hz : cB (fun c => (0 : Nat).testBit c) 64 = 0 := cB_zero 64 fun c hc => Nat.zero_testBit c
  obtain ⟨J', f, p, a', z1, z2, z3, z4, z5, z6, z7⟩ := p_likes_lp (L := L) (ru := ru) hT2 hn (s := s) 301 J a 0 n 0 hS hD hs (by decide) hz (by omega) (by omega)
  refine ⟨J', f, p, a', z1, z2, z3, z4, z5, z6, fun I L2 ru2 k hMS hRD => ?_⟩
  obtain ⟨I1, e1, f1, l1⟩ := m_begin (I := I) (L := L2) (ru := ru2) (n := n) (by omega)
  obtain ⟨I', y1, y2, y3, y4⟩ := z7 I1 L2 ru2 n k (by omega) (hMS.fr f1 (by decide) (by decide) (by decide) (by decide)) (hRD.m f1 (by decide) (by decide)) fun c hc => by rw [l1 c hc, Nat.zero_testBit]; rfl
  refine ⟨I', ?_, (f1.mono (by decide) (by decide)).tr y2, y3, y4⟩
  simp (config := { maxSteps := 2000000 }) (disch := omega) only [f202, ux_at, ux_kk, ux_jo, gIm, pIm, pZm, gRm, aIm, sIm, aBm, sBm, gLm, pLm, clm, wshS, obS, reduceIte, Nat.one_ne_zero, Nat.zero_ne_one, Nat.reduceEqDiff, not_true_eq_false, not_false_eq_true, Nat.le_refl, ng_le, ng_lt, ng_nle, ng_nlt, ng_eq, ng_eq2, Bool.false_eq_true, lit_nI, nI_add, pk_mul, nI_leI, nI_ltI, nI_eq, e1]
  exact y1
end
