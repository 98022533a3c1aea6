/-! TEXTS: a sort: both sides -/
theorem nI0_toInt : (nI 0).toInt = 0 := by decide +kernel
section
variable {I J : St} {L : Lt} {ru n : Nat} {T : Nat → Nat} {N : Nat}
theorem m_zero {s : Nat} {v : Int32} {K : Nat → Int32 → Int32 → Wd → Option (Int32 × Wd)} (hs : s < 6) (hn : 500 < n) : ∃ I', f211_H49 n K n 67 (nI s) v (nI 0) (mW I L ru) = K 67 (nI s) v (mW I' L ru) ∧ Fr [80] [] I I' ∧ (∀ q, q < 64 * s → I' 80 q = I 80 q) ∧ ∀ c, c < 64 → I' 80 (64 * s + c) = nI 0 := by
  refine lpP (F := fun k c (Z : St) => f211_H49 n K k 67 (nI s) v (nI c) (mW Z L ru)) (P := fun y => ∃ I', y = K 67 (nI s) v (mW I' L ru) ∧ Fr [80] [] I I' ∧ (∀ q, q < 64 * s → I' 80 q = I 80 q) ∧ ∀ c, c < 64 → I' 80 (64 * s + c) = nI 0) (J := fun t Z => Fr [80] [] I Z ∧ (∀ q, q < 64 * s → Z 80 q = I 80 q) ∧ ∀ c, c < t → Z 80 (64 * s + c) = nI 0) 64 ?_ ?_ n 0 I (by omega) (by omega) ⟨Fr.rf, fun _ _ => rfl, fun c hc => absurd hc (Nat.not_lt_zero _)⟩
  · rintro k Z ⟨a1, a2, a3⟩
    simp (config := { maxSteps := 2000000 }) (disch := omega) only [f211_H49, ux_at, ux_kk, ux_jo, gIm, pIm, pZm, gRm, aIm, sIm, aBm, sBm, gLm, pLm, clm, wshS, obS, reduceIte, Nat.one_ne_zero, Nat.zero_ne_one, Nat.reduceEqDiff, not_true_eq_false, not_false_eq_true, Nat.le_refl, ng_le, ng_lt, ng_nle, ng_nlt, ng_eq, ng_eq2, Bool.false_eq_true, lit_nI, nI_add, pk_mul, nI_leI, nI_ltI, nI_eq]
    exact ⟨Z, rfl, a1, a2, a3⟩
  · rintro k t Z ht ⟨a1, a2, a3⟩ ih
    have ht2 : ¬ 64 ≤ t := by omega
    simp (config := { maxSteps := 2000000 }) (disch := omega) only [f211_H49, ux_at, ux_kk, ux_jo, gIm, pIm, pZm, gRm, aIm, sIm, aBm, sBm, gLm, pLm, clm, wshS, obS, reduceIte, Nat.one_ne_zero, Nat.zero_ne_one, Nat.reduceEqDiff, not_true_eq_false, not_false_eq_true, Nat.le_refl, ng_le, ng_lt, ng_nle, ng_nlt, ng_eq, ng_eq2, Bool.false_eq_true, lit_nI, nI_add, pk_mul, nI_leI, nI_ltI, nI_eq, ht2]
    refine ih _ ⟨a1.u (by decide), fun q hq => (ux_j (by omega)).trans (a2 q hq), fun c hc => ?_⟩
    rw [ux_if]
    by_cases e : c = t
    · rw [if_pos (by omega)]
    · rw [if_neg (by omega)]
      exact a3 c (by omega)
theorem p_people (hT2 : ∀ i, T i < 256) (hn : 1000 < n) {a : Nat} (hS : XS J T N a) (hD : DrK J) (hs : soD J < 6) :
    ∃ J' f p a', f < 6 ∧ p ≤ 300 ∧ f206 n 27 (mW J L ru) = some (mW J' L ru) ∧ Fr dxK [] J J' ∧ (f = 0 → XS J' T N a' ∧ a < a' ∧ DrK J') ∧ (f ≠ 0 → XZ J' T N f p) ∧ ∀ I L2 ru2 x, MS I T N a → RDr I J (soD J) → ∃ I' L2', f211 n 67 x (mW I L2 ru2) = some (nI (stF T N f a'), mW I' L2' ru2) ∧ Fr dmK dmF I I' ∧ (stF T N f a' = 0 → MS I' T N (skN T N a') ∧ RDr I' J' (soD J')) ∧ (stF T N f a' ≠ 0 → I' 67 16 = nI (stP T N f p a')) := by
  have ha := hS.2.1
  have hN := hS.1.2.1
  have h66 := hD.2.2.2.2.1.2
  have h5 := hD.2.2.2.2.1.1
  obtain ⟨J1, v, f, p, a1, e1, f1, hf, hp, hna, c0, c1, hM⟩ := two_num (L := L) (ru := ru) (n := n) (lo := 1) (hi := 9) hT2 hS (by decide) (by decide) (by omega)
  have d1 := hD.fr f1.1 (by decide)
  have e15 : J1 15 = J 15 := f1.1.at (by decide) (by decide)
  have es1 : soD J1 = soD J := by unfold soD; rw [e15]
  generalize hsd : soD J = s at *
  -- the reference, up to the zeros
  have hR : ∀ I L2 ru2 x, MS I T N a → RDr I J s → ∃ I1, f211 n 67 x (mW I L2 ru2) = f211_H78 n (fun e0 e3 w71 => f211_J227 n e0 e3 w71) n 67 (nI s) (nI f) (-nI 1) (mW I1 L2 ru2) ∧ Fr dmK dmF I I1 ∧ RDr I1 J1 s ∧ I1 78 s = I1 67 20 ∧ I1 79 s = nI 0 ∧ (∀ c, c < 64 → I1 80 (64 * s + c) = nI 0) ∧ (f = 0 → MS I1 T N a1 ∧ I1 67 20 = v) ∧ (f ≠ 0 → I1 67 16 = nI p) := by
    intro I L2 ru2 x hMS hRD
    obtain ⟨Ia, x1, y1, w1, m4, m5⟩ := hM I L2 ru2 hMS
    have h28 := hRD.2.2.2.2.1
    have g2 : Fr [78, 79] [] Ia (u2 (u2 Ia 78 s (Ia 67 20)) 79 s (nI 0)) := (Fr.rf.u (by decide)).u (by decide)
    obtain ⟨Ib, x3, y3, z3, z4⟩ := m_zero (I := u2 (u2 Ia 78 s (Ia 67 20)) 79 s (nI 0)) (L := L2) (ru := ru2) (n := n) (s := s) (v := nI f) (K := fun e0 e2 e3 w22 => f211_H78 n (fun e0 e3 w71 => f211_J227 n e0 e3 w71) n e0 e2 e3 (-nI 1) w22) hs (by omega)
    have g3 : Fr [78, 79, 80] [] Ia Ib := (g2.mono (by decide) (by decide)).tr (y3.mono (by decide) (by decide))
    have r1 : RDr Ia J1 s := (hRD.x (by omega) f1.1 (by decide)).m y1 (by decide) (by decide)
    refine ⟨Ib, ?_, (y1.mono (by decide) (by decide)).tr (g3.mono (by decide) (by decide)), ?_, ?_, ?_, z4, fun z => ⟨(m4 z).1.fr g3 (by decide) (by decide) (by decide) (by decide), (g3.f (by decide) (by decide)).trans (m4 z).2⟩, fun z => (g3.f (by decide) (by decide)).trans (m5 z)⟩
    · have hs6 : ¬ s = 6 := by omega
      simp (config := { maxSteps := 2000000 }) (disch := omega) only [f211, ux_at, ux_kk, ux_jo, gIm, pIm, pZm, gRm, aIm, sIm, aBm, sBm, gLm, pLm, clm, wshS, obS, reduceIte, Nat.one_ne_zero, Nat.zero_ne_one, Nat.reduceEqDiff, not_true_eq_false, not_false_eq_true, Nat.le_refl, ng_le, ng_lt, ng_nle, ng_nlt, ng_eq, ng_eq2, Bool.false_eq_true, lit_nI, nI_add, pk_mul, nI_leI, nI_ltI, nI_eq, h28, hs6, x1]
      exact x3
    · obtain ⟨b1, b2, b3, b4, b5, b6, b7, b8⟩ := r1
      have e : ∀ j, Ib 67 j = Ia 67 j := fun j => g3.f (by decide) (List.not_mem_nil)
      unfold RDr
      rw [e, e, e, e, e, e, e, g3.at (k := 77) (by decide) (by decide)]
      refine ⟨b1, b2, b3, b4, b5, b6, b7, fun s' hs' => ?_⟩
      rw [es1] at hs'
      obtain ⟨d1, d2, d3⟩ := b8 s' (by omega)
      have n1 : Ib 78 = _ := y3.at (by decide) (by decide)
      have n2 : Ib 79 = _ := y3.at (by decide) (by decide)
      refine ⟨?_, ?_, fun c hc => ?_⟩
      · rw [n1, ux_kk (by decide), ux_j (by omega)]; exact d1
      · rw [n2, ux_j (by omega), ux_kk (by decide)]; exact d2
      · rw [z3 _ (by omega), ux_kk (by decide), ux_kk (by decide)]; exact d3 c hc
    · rw [y3.at (k := 78) (by decide) (by decide), ux_kk (by decide), ux_at, g3.f (by decide) (by decide)]
    · rw [y3.at (k := 79) (by decide) (by decide), ux_at]
  by_cases hf0 : f = 0
  · subst hf0
    obtain ⟨s1, lt1, k, hk1, hk2, rfl⟩ := c0 rfl
    have xf := xs_f s1
    obtain ⟨J2, e2, f2, o2, so2, pe2, fe2, li2⟩ := dr_addSort (J := J1) (L := L) (ru := ru) (n := n) (s := s) (v := nI k) (by rw [e15]; exact h5) hs (by omega)
    have f2' : Fr dxK [] J1 J2 := f2.mono (fun q hq => by
      simp only [List.mem_cons, List.not_mem_nil, or_false] at hq
      rcases hq with rfl | rfl | rfl | rfl
      · decide
      · decide
      · decide
      · exact row_dx hs) (by decide)
    have es2 : soD J2 = s + 1 := by
      unfold soD
      rw [so2, nI_clamp (by omega)]
    have s2 : XS J2 T N a1 := s1.fr f2 (by simp; omega) (by simp; omega)
    have r26 : J2 26 = J1 26 := f2.at (by simp; omega) (by decide)
    have r27 : J2 27 = J1 27 := f2.at (by simp; omega) (by decide)
    have r20 : ∀ s', s' < 6 → s' ≠ s → J2 (20 + s') = J1 (20 + s') := fun s' h1 h2 => f2.at (by simp; omega) (by omega)
    have d2 : DrK J2 := by
      obtain ⟨b1, b2, b3, b4, b5, b6, b7, b8⟩ := d1
      unfold DrK DrT
      rw [es2, o2 0 (by decide), o2 1 (by decide), o2 2 (by decide), o2 3 (by decide), o2 4 (by decide), so2, r26, r27]
      refine ⟨b1, b2, b3, b4, ⟨rfl, by omega⟩, b6, fun s' hs' => ?_, b8⟩
      unfold DrS
      rw [pe2, fe2]
      by_cases e : s' = s
      · rw [if_pos e, if_pos e, e]
        refine ⟨⟨k, hk1, hk2, rfl⟩, ⟨0, by decide, rfl⟩, fun c hc => ?_⟩
        rw [li2 c hc, nI0_toInt]
        exact ⟨by decide, by decide⟩
      · rw [if_neg e, if_neg e, r20 s' (by omega) e]
        exact b7 s' (by omega)
    have rd2 : ∀ I, RDr I J1 s → I 78 s = nI k → I 79 s = nI 0 → (∀ c, c < 64 → I 80 (64 * s + c) = nI 0) → RDr I J2 s := by
      intro I hr h1 h2 h3
      obtain ⟨b1, b2, b3, b4, b5, b6, b7, b8⟩ := hr
      unfold RDr
      rw [es2, o2 0 (by decide), o2 1 (by decide), o2 2 (by decide), o2 3 (by decide), o2 4 (by decide), r26, r27]
      refine ⟨b1, b2, b3, b4, b5, b6, b7, fun s' hs' => ?_⟩
      rw [pe2, fe2]
      by_cases e : s' = s
      · rw [if_pos e, if_pos e, e]
        exact ⟨h1, h2, fun c hc => by rw [h3 c hc, li2 c hc]⟩
      · rw [if_neg e, if_neg e, r20 s' (by omega) e]
        exact b8 s' (by omega)
    have hb := skN_le (T := T) s2.2.1
    have hid := skN_id T N a1
    have hg := skN_ge T N a1
    by_cases q : isW T N (skN T N a1) wLikes
    · obtain ⟨J3, e3, f3, s3⟩ := xs_wordY (L := L) (ru := ru) (n := n) s2 wd_likes lt_likes q (by omega)
      have d3 := d2.fr f3.1 (by decide)
      have es3 : soD J3 = s + 1 := by
        unfold soD
        rw [f3.1.at (by decide) (by decide)]
        exact es2
      have hw : skN T N a1 ≤ wdN T N (skN T N a1) := rnE_ge _ _ _
      obtain ⟨J4, g, pg, a4, hg6, hpg, e4, f4, g0, g1, hM4⟩ := p_likes (J := J3) (L := L) (ru := ru) (n := n) (s := s) hT2 hn s3 d3 (by omega)
      -- the reference, up to the likes
      have hR2 : ∀ I L2 ru2 x, MS I T N a → RDr I J s → ∃ I1 L2' km, 3 < km ∧ f211 n 67 x (mW I L2 ru2) = f211_H78 n (fun e0 e3 w71 => f211_J227 n e0 e3 w71) km 67 (nI s) (nI g) (nI 0) (mW (u2 I1 79 s (nI 0)) L2' ru2) ∧ Fr dmK dmF I I1 ∧ I1 67 28 = nI s ∧ (g = 0 → MS I1 T N a4 ∧ RDr I1 J4 s) ∧ (g ≠ 0 → I1 67 16 = nI pg) := by
        intro I L2 ru2 x hMS hRD
        obtain ⟨I1, x1, y1, r1, k1, k2, k3, m4, m5⟩ := hR I L2 ru2 x hMS hRD
        obtain ⟨q1, q2⟩ := m4 rfl
        have rd := rd2 I1 r1 (k1.trans q2) k2 k3
        obtain ⟨Ia, x2, y2, z2⟩ := ms_here (L := L2) (ru := ru2) (n := n) q1 s2.2.1 (by omega)
        obtain ⟨Ib, Lb, x3, y3, z3, w3, l3⟩ := ms_word (L := L2) (ru := ru2) (n := n) hT2 z2 hb (by omega)
        rw [hid] at z3 w3 l3
        have eb := btI_is (T := T) (N := N) (b := skN T N a1) (c := 59) (fun z => (hMS.1.2.2 _ z).1) (by decide)
        have eb : ¬ btI T N (skN T N a1) = nI 59 := by
          rw [eb]
          intro z
          have z1 := z.2
          rw [(isW_first q (by decide) hb).2] at z1
          exact absurd z1 (by decide)
        have hm1 := (m_isW (T := T) (N := N) (b := skN T N a1) lt_likes rfl hT2 rfl).mpr q
        have g5 : Fr [] [17] Ib (u2 Ib 67 17 (nI (wdN T N (skN T N a1)))) := Fr.rf.uf (by decide)
        have s5 : MS (u2 Ib 67 17 (nI (wdN T N (skN T N a1)))) T N (wdN T N (skN T N a1)) := ⟨z3.1.fr g5 (by decide) (by decide) (by decide), ux_at, (ux_j (by decide)).trans z3.2.2⟩
        have gIb : Fr [] [17, 19] I1 (u2 Ib 67 17 (nI (wdN T N (skN T N a1)))) := ((y2.mono (by decide) (by decide)).tr y3).tr (g5.mono (by decide) (by decide))
        obtain ⟨Ic, x4, y4, m6, m7⟩ := hM4 _ Lb ru2 s s5 ((rd.x (by omega) f3.1 (by decide)).m gIb (by decide) (by decide))
        have h28 : Ic 67 28 = nI s := by
          exact (y4.f (by decide) (by decide)).trans ((gIb.f (by decide) (by decide)).trans rd.2.2.2.2.1)
        obtain ⟨km, hkm⟩ : ∃ z, n = z + 1 := ⟨n - 1, by omega⟩
        refine ⟨Ic, Lb, km, by omega, x1.trans ?_, (y1.tr (gIb.mono (by decide) (by decide))).tr (y4.mono (by decide) (by decide)), h28, m6, m7⟩
        conv => lhs; arg 3; rw [hkm]
        have n0 : -nI 1 < nI 0 := by decide +kernel
        simp (config := { maxSteps := 2000000 }) (disch := omega) only [f211_H78, f211_J152, f211_J203, ux_at, ux_kk, ux_jo, gIm, pIm, pZm, gRm, aIm, sIm, aBm, sBm, gLm, pLm, clm, wshS, obS, reduceIte, Nat.one_ne_zero, Nat.zero_ne_one, Nat.reduceEqDiff, not_true_eq_false, not_false_eq_true, Nat.le_refl, ng_le, ng_lt, ng_nle, ng_nlt, ng_eq, ng_eq2, Bool.false_eq_true, lit_nI, nI_add, pk_mul, nI_leI, nI_ltI, nI_eq, x2, eb, x3, l3, mc4_likes, mc5_likes, hm1, n0, w3, x4]
      have ex : f206 n 27 (mW J L ru) = f206_J48 n 27 (nI s) (mW J4 L ru) := by
        simp (config := { maxSteps := 2000000 }) (disch := omega) only [f206, ux_at, ux_kk, ux_jo, gIx, pIx, pZx, gRx, aIx, sIx, aBx, sBx, lenx, clx, wshS, obS, reduceIte, Nat.one_ne_zero, Nat.zero_ne_one, Nat.reduceEqDiff, not_true_eq_false, not_false_eq_true, Nat.le_refl, ng_le, ng_lt, ng_nle, ng_nlt, ng_eq, ng_eq2, Bool.false_eq_true, lit_nI, nI_add, pk_mul, nI_leI, nI_ltI, nI_eq, e1, xf, e2, e3, e4]
      have fx : Fr dxK [] J J4 := ((f1.dx.tr f2').tr f3.dx).tr f4
      by_cases gz : g = 0
      · subst gz
        obtain ⟨s4, lt4, d4, es4, ef4⟩ := g0 rfl
        obtain ⟨J5, f5, p5, a5, h5f, h5p, e5, fr5, c5, c6, hM5⟩ := p_fears (J := J4) (L := L) (ru := ru) (n := n) (s := s) (last := nI 0) hT2 hn (Or.inl rfl) s4 d4 (by omega)
        refine ⟨J5, f5, p5, a5, h5f, h5p, ex.trans e5, fx.tr fr5, fun z => ⟨(c5 z).1, by have := (c5 z).2.1; omega, (c5 z).2.2.1⟩, c6, fun I L2 ru2 x hMS hRD => ?_⟩
        obtain ⟨I1, L3, km, hkm, x1, y1, h28, m6, m7⟩ := hR2 I L2 ru2 x hMS hRD
        obtain ⟨q1, q2⟩ := m6 rfl
        have gz : Fr [79] [] I1 (u2 I1 79 s (nI 0)) := Fr.rf.u (by decide)
        have q3 : RDr (u2 I1 79 s (nI 0)) J4 s := by
          have ez : (u2 J4 17 s (nI 0)) = J4 := by
            funext a b
            unfold u2
            by_cases e : a = 17 ∧ b = s
            · rw [if_pos e, e.1, e.2, ef4, f3.1.at (by decide) (by decide), fe2, if_pos rfl]
            · rw [if_neg e]
          have := q2.fear (s := s) (v := nI 0) (by omega)
          rw [ez] at this
          exact this
        obtain ⟨I', L4, x2, y2, k3, k4⟩ := hM5 _ L3 ru2 km a4 hkm s4.2.1 rfl (q1.fr gz (by decide) (by decide) (by decide) (by decide)) q3
        refine ⟨I', L4, x1.trans x2, (y1.tr (gz.mono (by decide) (by decide))).tr y2, fun z => ⟨(k3 z).1, ?_⟩, k4⟩
        have h0 : f5 = 0 := by
          unfold stF at z
          split at z
          · assumption
          · exact absurd z (by assumption)
        have : soD J5 = s + 1 := by rw [(c5 h0).2.2.2, es4, es3]
        rw [this]
        exact (k3 z).2
      · have z4 := g1 gz
        obtain ⟨J5, e5, f5, z5⟩ := xz_word (L := L) (ru := ru) (n := n) (u := 22) z4 gz hg6 (by omega)
        have est : stF T N g 0 = g := if_neg gz
        have esp : stP T N g pg 0 = pg := if_neg gz
        refine ⟨J5, g, pg, 0, hg6, hpg, ex.trans ?_, fx.tr f5.dx, fun y => absurd y gz, fun _ => z5, fun I L2 ru2 x hMS hRD => ?_⟩
        · simp (config := { maxSteps := 2000000 }) (disch := omega) only [f206_J48, ux_at, ux_kk, ux_jo, gIx, pIx, pZx, gRx, aIx, sIx, aBx, sBx, lenx, clx, wshS, obS, reduceIte, Nat.one_ne_zero, Nat.zero_ne_one, Nat.reduceEqDiff, not_true_eq_false, not_false_eq_true, Nat.le_refl, ng_le, ng_lt, ng_nle, ng_nlt, ng_eq, ng_eq2, Bool.false_eq_true, lit_nI, nI_add, pk_mul, nI_leI, nI_ltI, nI_eq, e5]
        · obtain ⟨I1, L3, km, hkm, x1, y1, h28, m6, m7⟩ := hR2 I L2 ru2 x hMS hRD
          obtain ⟨km, rfl⟩ : ∃ z, km = z + 1 := ⟨km - 1, by omega⟩
          have e28 : (u2 I1 79 s (nI 0)) 67 28 = nI s := (ux_k (by decide)).trans h28
          have x2 := m_sortF (L := L3) (ru := ru2) (n := n) (km := km) (last := nI 0) e28 gz hg6 (by omega)
          rw [est, esp]
          exact ⟨_, L3, x1.trans x2, (y1.u (by decide)).uf (by decide), fun z => absurd z gz, fun _ => (ux_j (by decide)).trans ((ux_k (by decide)).trans (m7 gz))⟩
    · obtain ⟨J3, e3, f3, s3⟩ := xs_wordN (L := L) (ru := ru) (n := n) s2 wd_likes lt_likes q (by omega)
      have d3 := d2.fr f3.1 (by decide)
      have es3 : soD J3 = s + 1 := by
        unfold soD
        rw [f3.1.at (by decide) (by decide)]
        exact es2
      obtain ⟨J5, f5, p5, a5, h5f, h5p, e5, fr5, c5, c6, hM5⟩ := p_fears (J := J3) (L := L) (ru := ru) (n := n) (s := s) (last := -nI 1) hT2 hn (Or.inr ⟨rfl, by rw [hid]; exact q⟩) s3 d3 (by omega)
      refine ⟨J5, f5, p5, a5, h5f, h5p, ?_, ((f1.dx.tr f2').tr f3.dx).tr fr5, fun z => ⟨(c5 z).1, by have := (c5 z).2.1; omega, (c5 z).2.2.1⟩, c6, fun I L2 ru2 x hMS hRD => ?_⟩
      · simp (config := { maxSteps := 2000000 }) (disch := omega) only [f206, ux_at, ux_kk, ux_jo, gIx, pIx, pZx, gRx, aIx, sIx, aBx, sBx, lenx, clx, wshS, obS, reduceIte, Nat.one_ne_zero, Nat.zero_ne_one, Nat.reduceEqDiff, not_true_eq_false, not_false_eq_true, Nat.le_refl, ng_le, ng_lt, ng_nle, ng_nlt, ng_eq, ng_eq2, Bool.false_eq_true, lit_nI, nI_add, pk_mul, nI_leI, nI_ltI, nI_eq, e1, xf, e2, e3]
        exact e5
      · obtain ⟨I1, x1, y1, r1, k1, k2, k3, m4, m5⟩ := hR I L2 ru2 x hMS hRD
        obtain ⟨q1, q2⟩ := m4 rfl
        have rd := rd2 I1 r1 (k1.trans q2) k2 k3
        obtain ⟨I', L4, x2, y2, k4, k5⟩ := hM5 I1 L2 ru2 n a1 (by omega) s2.2.1 hid.symm q1 (rd.x (by omega) f3.1 (by decide))
        refine ⟨I', L4, x1.trans x2, y1.tr y2, fun z => ⟨(k4 z).1, ?_⟩, k5⟩
        have h0 : f5 = 0 := by
          unfold stF at z
          split at z
          · assumption
          · exact absurd z (by assumption)
        have : soD J5 = s + 1 := by rw [(c5 h0).2.2.2, es3]
        rw [this]
        exact (k4 z).2
  · obtain ⟨rfl, z1⟩ := c1 hf0
    have xf := xz_f z1
    have est : stF T N f 0 = f := if_neg hf0
    have esp : stP T N f p 0 = p := if_neg hf0
    refine ⟨J1, f, p, 0, hf, hp, ?_, f1.dx, fun y => absurd y hf0, fun _ => z1, fun I L2 ru2 x hMS hRD => ?_⟩
    · simp (config := { maxSteps := 2000000 }) (disch := omega) only [f206, ux_at, ux_kk, ux_jo, gIx, pIx, pZx, gRx, aIx, sIx, aBx, sBx, lenx, clx, wshS, obS, reduceIte, Nat.one_ne_zero, Nat.zero_ne_one, Nat.reduceEqDiff, not_true_eq_false, not_false_eq_true, Nat.le_refl, ng_le, ng_lt, ng_nle, ng_nlt, ng_eq, ng_eq2, Bool.false_eq_true, lit_nI, nI_add, pk_mul, nI_leI, nI_ltI, nI_eq, e1, xf, hf0]
    · obtain ⟨I1, x1, y1, r1, k1, k2, k3, m4, m5⟩ := hR I L2 ru2 x hMS hRD
      obtain ⟨km, hkm⟩ : ∃ z, n = z + 1 := ⟨n - 1, by omega⟩
      have x2 := m_sortF (L := L2) (ru := ru2) (n := n) (km := km) (last := -nI 1) r1.2.2.2.2.1 hf0 hf (by omega)
      rw [← hkm] at x2
      rw [est, esp]
      exact ⟨_, L2, x1.trans x2, y1.uf (by decide), fun z => absurd z hf0, fun _ => (ux_j (by decide)).trans (m5 hf0)⟩
end
