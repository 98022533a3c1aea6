/-! TEXTS: words and sorts: both sides -/
theorem isW_first {T : Nat → Nat} {N b : Nat} {w : List Nat} (h : isW T N b w) (hw : 0 < w.length) (hb : b ≤ N) : b < N ∧ T b = w.getD 0 0 := by
  have h1 : wdN T N b ≤ N := rnE_le hb
  exact ⟨by have := h.1; omega, h.2 0 hw⟩
theorem mc4_likes (w : Wd) : f43 (nI 108) (nI 105) (nI 107) (nI 101) w = some (lN (cW [108, 105, 107, 101]), w) := congrArg (fun x => some (x, w)) (by decide +kernel)
theorem mc5_likes (w : Wd) : f44 (lN (cW [108, 105, 107, 101])) (nI 115) w = some (lN (cW wLikes), w) := congrArg (fun x => some (x, w)) (by decide +kernel)
theorem mc4_fears (w : Wd) : f43 (nI 102) (nI 101) (nI 97) (nI 114) w = some (lN (cW [102, 101, 97, 114]), w) := congrArg (fun x => some (x, w)) (by decide +kernel)
theorem mc5_fears (w : Wd) : f44 (lN (cW [102, 101, 97, 114])) (nI 115) w = some (lN (cW wFears), w) := congrArg (fun x => some (x, w)) (by decide +kernel)
/-- what a clause's end answers -/
def stF (T : Nat → Nat) (N f a : Nat) : Nat := if f = 0 then (if skN T N a < N ∧ T (skN T N a) = 59 then 0 else 1) else f
def stP (T : Nat → Nat) (N f p a : Nat) : Nat := if f = 0 then skN T N a else p
theorem DrK.fear {J : St} (h : DrK J) {s k : Nat} (hs : s < soD J) (hk : k ≤ 9) : DrK (u2 J 17 s (nI k)) := by
  obtain ⟨b1, b2, b3, b4, b5, b6, b7, b8⟩ := h
  have h6 := b5.2
  have es : soD (u2 J 17 s (nI k)) = soD J := by unfold soD; rw [ux_kk (by decide)]
  unfold DrK DrT
  rw [es, ux_kk (by decide : ¬ 15 = 17), ux_kk (by decide : ¬ 26 = 17), ux_kk (by decide : ¬ 27 = 17)]
  refine ⟨b1, b2, b3, b4, b5, b6, fun s' hs' => ?_, b8⟩
  have := b7 s' hs'
  unfold DrS at this ⊢
  rw [ux_kk (by decide : ¬ 16 = 17), ux_if, ux_kk (show ¬ 20 + s' = 17 by omega)]
  refine ⟨this.1, ?_, this.2.2⟩
  split
  · exact ⟨k, hk, rfl⟩
  · exact this.2.1
theorem RDr.fear {I J : St} {k : Nat} (h : RDr I J k) (h6 : soD J ≤ 6) {s : Nat} {v : Int32} : RDr (u2 I 79 s v) (u2 J 17 s v) k := by
  obtain ⟨b1, b2, b3, b4, b5, b6, b7, b8⟩ := h
  have es : soD (u2 J 17 s v) = soD J := by unfold soD; rw [ux_kk (by decide)]
  unfold RDr
  rw [es, ux_kk (by decide : ¬ 15 = 17), ux_kk (by decide : ¬ 26 = 17), ux_kk (by decide : ¬ 27 = 17), ux_kk (by decide : ¬ 16 = 17), ux_kk (by decide : ¬ 67 = 79), ux_kk (by decide : ¬ 77 = 79), ux_kk (by decide : ¬ 78 = 79), ux_kk (by decide : ¬ 80 = 79)]
  refine ⟨b1, b2, b3, b4, b5, b6, b7, fun s' hs' => ?_⟩
  obtain ⟨d1, d2, d3⟩ := b8 s' hs'
  rw [ux_if, ux_if, ux_kk (show ¬ 20 + s' = 17 by omega)]
  refine ⟨d1, ?_, d3⟩
  split
  · rfl
  · exact d2
theorem RDr.so {I I' J : St} {k k' : Nat} (h : RDr I J k) (f : Fr [] [16, 17, 19, 28] I I') (h2 : I' 67 28 = nI k') : RDr I' J k' := by
  obtain ⟨b1, b2, b3, b4, b5, b6, b7, b8⟩ := h
  have e : ∀ j, j ∈ [22, 23, 25, 26, 27, 33] → I' 67 j = I 67 j := fun j hj => f.f (by decide) (by
    have : ∀ j, j ∈ [22, 23, 25, 26, 27, 33] → j ∉ [16, 17, 19, 28] := by decide
    exact this j hj)
  unfold RDr
  rw [e 22 (by decide), e 23 (by decide), e 25 (by decide), e 26 (by decide), e 27 (by decide), e 33 (by decide), f.at (k := 77) (by decide) (by decide), f.at (k := 78) (by decide) (by decide), f.at (k := 79) (by decide) (by decide), f.at (k := 80) (by decide) (by decide)]
  exact ⟨b1, b2, b3, b4, h2, b6, b7, b8⟩
section
variable {I J : St} {L : Lt} {ru n : Nat} {T : Nat → Nat} {N : Nat}
theorem xs_wordY {a : Nat} {u : UInt32} {wl : List Nat} (h : XS J T N a) (hD : WD u wl) (hl : ltW wl) (q : isW T N (skN T N a) wl) (hn : 500 < n) : ∃ J', f197 n 1 u (mW J L ru) = some (nI 1, mW J' L ru) ∧ TF J J' ∧ XS J' T N (wdN T N (skN T N a)) := by
  obtain ⟨hT, ha, na, hS⟩ := h
  obtain ⟨J', e1, f1, s1⟩ := x_takesS (L := L) (ru := ru) (n := n) hT hD hl ha hS hn
  rw [if_pos q] at e1 s1
  refine ⟨J', e1, f1, hT.tf f1, rnE_le (skN_le ha), na, ?_⟩
  rw [q.1]
  exact s1
theorem xs_wordN {a : Nat} {u : UInt32} {wl : List Nat} (h : XS J T N a) (hD : WD u wl) (hl : ltW wl) (q : ¬ isW T N (skN T N a) wl) (hn : 500 < n) : ∃ J', f197 n 1 u (mW J L ru) = some (nI 0, mW J' L ru) ∧ TF J J' ∧ XS J' T N (skN T N a) := by
  obtain ⟨hT, ha, na, hS⟩ := h
  obtain ⟨J', e1, f1, s1⟩ := x_takesS (L := L) (ru := ru) (n := n) hT hD hl ha hS hn
  rw [if_neg q] at e1 s1
  exact ⟨J', e1, f1, hT.tf f1, skN_le ha, na, s1⟩
theorem ms_word (hT2 : ∀ i, T i < 256) {a : Nat} (h : MS I T N a) (ha : a ≤ N) (hn : 500 < n) : ∃ I' L', f111 n 67 (mW I L ru) = some (mW I' L' ru) ∧ Fr [] [17, 19] I I' ∧ MS I' T N (skN T N a) ∧ I' 67 19 = nI (wdN T N (skN T N a)) ∧ L' 67 18 = lN (sdNw T (skN T N a) (wdN T N (skN T N a) - skN T N a)) := by
  obtain ⟨I', L', e1, f1, a1, a2, a3⟩ := m_word (L := L) (ru := ru) (n := n) h.1 hT2 ha h.2.1 hn
  exact ⟨I', L', e1, f1, ⟨h.1.fr f1 (by decide) (by decide) (by decide), a1, (f1.f (by decide) (by decide)).trans h.2.2⟩, a2, a3⟩
theorem ms_here {a : Nat} (h : MS I T N a) (ha : a ≤ N) (hn : 500 < n) : ∃ I', f42 n 67 (mW I L ru) = some (btI T N (skN T N a), mW I' L ru) ∧ Fr [] [17] I I' ∧ MS I' T N (skN T N a) := by
  obtain ⟨I', e1, f1, a1⟩ := m_here (L := L) (ru := ru) (n := n) h.1 ha h.2.1 hn
  exact ⟨I', e1, f1, h.1.fr f1 (by decide) (by decide) (by decide), a1, (f1.f (by decide) (by decide)).trans h.2.2⟩
/-- what is read behind a sort's clauses: its end -/
theorem m_tail (hT2 : ∀ i, T i < 256) (hn : 1000 < n) {a s km : Nat} {last : Int32} (hl : (last = nI 1) ∨ (last = nI 0 ∧ ¬ isW T N (skN T N a) wFears) ∨ (last = -nI 1 ∧ ¬ isW T N (skN T N a) wLikes ∧ ¬ isW T N (skN T N a) wFears)) (ha : a ≤ N) (hM : MS I T N a) (hs : I 67 28 = nI s) : ∃ I' L', f211_H78 n (fun e0 e3 w71 => f211_J227 n e0 e3 w71) (km + 1) 67 (nI s) (nI 0) last (mW I L ru) = some (nI (stF T N 0 a), mW I' L' ru) ∧ Fr [] [16, 17, 19, 28] I I' ∧ (stF T N 0 a = 0 → MS I' T N (skN T N a) ∧ I' 67 28 = nI (s + 1)) ∧ (stF T N 0 a ≠ 0 → I' 67 16 = nI (skN T N a)) := by
  unfold stF
  rw [if_pos rfl]
  obtain ⟨I1, e1, f1, s1⟩ := ms_here (L := L) (ru := ru) (n := n) hM ha (by omega)
  have hb := skN_le (T := T) ha
  have hid := skN_id T N a
  have t2 := hM.1.2.1
  generalize skN T N a = b at *
  have eb := btI_is (T := T) (N := N) (b := b) (c := 59) (fun z => (hM.1.2.2 b z).1) (by decide)
  by_cases q : b < N ∧ T b = 59
  · rw [if_pos q]
    have eb : btI T N b = nI 59 := by rw [eb]; exact q
    rw [eb] at e1
    have h28 : I1 67 28 = nI s := (f1.f (by decide) (by decide)).trans hs
    refine ⟨u2 I1 67 28 (nI (s + 1)), L, ?_, (f1.mono (by decide) (by decide)).uf (by decide), fun _ => ⟨s1.fr (Fr.rf.uf (K := []) (F := [28]) (by decide)) (by decide) (by decide) (by decide) (by decide), ux_at⟩, fun z => absurd rfl z⟩
    simp (config := { maxSteps := 2000000 }) (disch := omega) only [f211_H78, f211_J227, ux_at, ux_kk, ux_jo, gIm, pIm, pZm, gRm, aIm, sIm, aBm, sBm, gLm, pLm, clm, wshS, obS, reduceIte, Nat.one_ne_zero, Nat.zero_ne_one, Nat.reduceEqDiff, not_true_eq_false, not_false_eq_true, Nat.le_refl, ng_le, ng_lt, ng_nle, ng_nlt, ng_eq, ng_eq2, Bool.false_eq_true, lit_nI, nI_add, pk_mul, nI_leI, nI_ltI, nI_eq, e1, h28]
  · rw [if_neg q]
    have eb : ¬ btI T N b = nI 59 := by rw [eb]; exact q
    obtain ⟨I2, L2, e2, f2, s2, w2, l2⟩ := ms_word (L := L) (ru := ru) (n := n) hT2 s1 hb (by omega)
    rw [hid] at s2 w2 l2
    have hm1 := m_isW (T := T) (N := N) (b := b) lt_likes rfl hT2 rfl
    have hm2 := m_isW (T := T) (N := N) (b := b) lt_fears rfl hT2 rfl
    have n1 : ¬ last < -nI 1 := by
      rcases hl with h | h | h
      · rw [h]; decide +kernel
      · rw [h.1]; decide +kernel
      · rw [h.1]; decide +kernel
    have s17 : I2 67 17 = nI b := s2.2.1
    refine ⟨u2 I2 67 16 (nI b), L2, ?_, ((f1.mono (by decide) (by decide)).tr (f2.mono (by decide) (by decide))).uf (by decide), fun z => absurd z (by decide), fun _ => ux_at⟩
    by_cases q1 : isW T N b wLikes
    · have c1 := hm1.mpr q1
      have n0 : ¬ last < nI 0 := by
        rcases hl with h | h | h
        · rw [h]; decide +kernel
        · rw [h.1]; decide +kernel
        · exact absurd q1 h.2.1
      simp (config := { maxSteps := 2000000 }) (disch := omega) only [f211_H78, f211_J152, f46, ux_at, ux_kk, ux_jo, gIm, pIm, pZm, gRm, aIm, sIm, aBm, sBm, gLm, pLm, clm, wshS, obS, reduceIte, Nat.one_ne_zero, Nat.zero_ne_one, Nat.reduceEqDiff, not_true_eq_false, not_false_eq_true, Nat.le_refl, ng_le, ng_lt, ng_nle, ng_nlt, ng_eq, ng_eq2, Bool.false_eq_true, lit_nI, nI_add, pk_mul, nI_leI, nI_ltI, nI_eq, e1, eb, e2, l2, mc4_likes, mc5_likes, c1, n0, s17]
    · have c1 : ¬ _ := fun z => q1 (hm1.mp z)
      by_cases q2 : isW T N b wFears
      · have c2 := hm2.mpr q2
        have n0 : ¬ last < nI 1 := by
          rcases hl with h | h | h
          · rw [h]; decide +kernel
          · exact absurd q2 h.2
          · exact absurd q2 h.2.2
        simp (config := { maxSteps := 2000000 }) (disch := omega) only [f211_H78, f211_J152, f46, ux_at, ux_kk, ux_jo, gIm, pIm, pZm, gRm, aIm, sIm, aBm, sBm, gLm, pLm, clm, wshS, obS, reduceIte, Nat.one_ne_zero, Nat.zero_ne_one, Nat.reduceEqDiff, not_true_eq_false, not_false_eq_true, Nat.le_refl, ng_le, ng_lt, ng_nle, ng_nlt, ng_eq, ng_eq2, Bool.false_eq_true, lit_nI, nI_add, pk_mul, nI_leI, nI_ltI, nI_eq, e1, eb, e2, l2, mc4_likes, mc5_likes, c1, mc4_fears, mc5_fears, c2, n0, s17]
      · have c2 : ¬ _ := fun z => q2 (hm2.mp z)
        simp (config := { maxSteps := 2000000 }) (disch := omega) only [f211_H78, f211_J152, f46, ux_at, ux_kk, ux_jo, gIm, pIm, pZm, gRm, aIm, sIm, aBm, sBm, gLm, pLm, clm, wshS, obS, reduceIte, Nat.one_ne_zero, Nat.zero_ne_one, Nat.reduceEqDiff, not_true_eq_false, not_false_eq_true, Nat.le_refl, ng_le, ng_lt, ng_nle, ng_nlt, ng_eq, ng_eq2, Bool.false_eq_true, lit_nI, nI_add, pk_mul, nI_leI, nI_ltI, nI_eq, e1, eb, e2, l2, mc4_likes, mc5_likes, c1, mc4_fears, mc5_fears, c2, n1, s17]
theorem m_sortF {s f km : Nat} {last : Int32} (hs : I 67 28 = nI s) (hf : f ≠ 0) (h6 : f < 6) (h : s < 10) : f211_H78 n (fun e0 e3 w71 => f211_J227 n e0 e3 w71) (km + 1) 67 (nI s) (nI f) last (mW I L ru) = some (nI f, mW (u2 I 67 28 (nI (s + 1))) L ru) := by
  simp (config := { maxSteps := 2000000 }) (disch := omega) only [f211_H78, f211_J227, ux_at, ux_kk, ux_jo, gIm, pIm, pZm, gRm, aIm, sIm, aBm, sBm, gLm, pLm, clm, wshS, obS, reduceIte, Nat.one_ne_zero, Nat.zero_ne_one, Nat.reduceEqDiff, not_true_eq_false, not_false_eq_true, Nat.le_refl, ng_le, ng_lt, ng_nle, ng_nlt, ng_eq, ng_eq2, Bool.false_eq_true, lit_nI, nI_add, pk_mul, nI_leI, nI_ltI, nI_eq, hf, hs]
/-- fears, where a sort has told its likes or has none -/
theorem p_fears (hT2 : ∀ i, T i < 256) (hn : 1000 < n) {a s : Nat} {last : Int32} (hl : last = nI 0 ∨ (last = -nI 1 ∧ ¬ isW T N (skN T N a) wLikes)) (hS : XS J T N a) (hD : DrK J) (hs : s + 1 = soD J) :
    ∃ J' f p a', f < 6 ∧ p ≤ 300 ∧ f206_J48 n 27 (nI s) (mW J L ru) = some (mW J' L ru) ∧ Fr dxK [] J J' ∧ (f = 0 → XS J' T N a' ∧ a ≤ a' ∧ DrK J' ∧ soD J' = soD J) ∧ (f ≠ 0 → XZ J' T N f p) ∧ ∀ I L2 ru2 km a0, 3 < km → a0 ≤ N → skN T N a0 = skN T N a → MS I T N a0 → RDr I J s → ∃ I' L2', f211_H78 n (fun e0 e3 w71 => f211_J227 n e0 e3 w71) km 67 (nI s) (nI 0) last (mW I L2 ru2) = some (nI (stF T N f a'), mW I' L2' ru2) ∧ Fr dmK dmF I I' ∧ (stF T N f a' = 0 → MS I' T N (skN T N a') ∧ RDr I' J' (s + 1)) ∧ (stF T N f a' ≠ 0 → I' 67 16 = nI (stP T N f p a')) := by
  have ha := hS.2.1
  have hN := hS.1.2.1
  have hb := skN_le (T := T) ha
  have hg := skN_ge T N a
  have hid := skN_id T N a
  have h66 := hD.2.2.2.2.1.2
  have s6 : s < 6 := by omega
  by_cases q : isW T N (skN T N a) wFears
  · obtain ⟨J1, e1, f1, s1⟩ := xs_wordY (L := L) (ru := ru) (n := n) hS wd_fears lt_fears q (by omega)
    have d1 := hD.fr f1.1 (by decide)
    have es1 : soD J1 = soD J := by unfold soD; rw [f1.1.at (by decide) (by decide)]
    have hw : skN T N a ≤ wdN T N (skN T N a) := rnE_ge _ _ _
    obtain ⟨J2, v, f, p, a2, e2, f2, hf, hp, hna, c0, c1, hM⟩ := two_num (L := L) (ru := ru) (n := n) (lo := 0) (hi := 9) hT2 s1 (by decide) (by decide) (by omega)
    have d2 := d1.fr f2.1 (by decide)
    have es2 : soD J2 = soD J := by
      unfold soD
      rw [f2.1.at (by decide) (by decide)]
      exact es1
    have hs2 : s < soD J2 := by rw [es2]; omega
    have e3 := dr_setFear (J := J2) (L := L) (ru := ru) (s := s) (v := v) d2.2.2.2.2.1.1 d2.2.2.2.2.1.2 hs2
    have ex : f206_J48 n 27 (nI s) (mW J L ru) = some (mW (u2 J2 17 s v) L ru) := by
      simp (config := { maxSteps := 2000000 }) (disch := omega) only [f206_J48, ux_at, ux_kk, ux_jo, gIx, pIx, pZx, gRx, aIx, sIx, aBx, sBx, lenx, clx, wshS, obS, reduceIte, Nat.one_ne_zero, Nat.zero_ne_one, Nat.reduceEqDiff, not_true_eq_false, not_false_eq_true, Nat.le_refl, ng_le, ng_lt, ng_nle, ng_nlt, ng_eq, ng_eq2, Bool.false_eq_true, lit_nI, nI_add, pk_mul, nI_leI, nI_ltI, nI_eq, e1, e2, e3]
    have g3 : Fr dxK [] J (u2 J2 17 s v) := (f1.dx.tr f2.dx).u (by decide)
    -- the reference, up to the number
    have hR : ∀ I L2 ru2 km a0, 3 < km + 1 → a0 ≤ N → skN T N a0 = skN T N a → MS I T N a0 → RDr I J s → ∃ I1 L2', f211_H78 n (fun e0 e3 w71 => f211_J227 n e0 e3 w71) (km + 1) 67 (nI s) (nI 0) last (mW I L2 ru2) = f211_H78 n (fun e0 e3 w71 => f211_J227 n e0 e3 w71) km 67 (nI s) (nI f) (nI 1) (mW (u2 I1 79 s (I1 67 20)) L2' ru2) ∧ Fr dmK dmF I I1 ∧ RDr I1 J2 s ∧ (f = 0 → MS I1 T N a2 ∧ I1 67 20 = v) ∧ (f ≠ 0 → I1 67 16 = nI p) := by
      intro I L2 ru2 km a0 hkm ha0 hsk hMS hRD
      obtain ⟨Ia, x1, y1, z1⟩ := ms_here (L := L2) (ru := ru2) (n := n) hMS ha0 (by omega)
      rw [hsk] at x1 z1
      obtain ⟨Ib, Lb, x2, y2, z2, w2, l2⟩ := ms_word (L := L2) (ru := ru2) (n := n) hT2 z1 hb (by omega)
      rw [hid] at z2 w2 l2
      have eb := btI_is (T := T) (N := N) (b := skN T N a) (c := 59) (fun z => (hMS.1.2.2 _ z).1) (by decide)
      have eb : ¬ btI T N (skN T N a) = nI 59 := by
        rw [eb]
        intro z
        have z1 := z.2
        rw [(isW_first q (by decide) hb).2] at z1
        exact absurd z1 (by decide)
      have hm1 := m_isW (T := T) (N := N) (b := skN T N a) lt_likes rfl hT2 rfl
      have hm2 := m_isW (T := T) (N := N) (b := skN T N a) lt_fears rfl hT2 rfl
      have q1 : ¬ isW T N (skN T N a) wLikes := fun z => by
        have h1 := z.2 0 (by decide)
        have h2 := q.2 0 (by decide)
        rw [h1] at h2
        exact absurd h2 (by decide)
      have k1 : ¬ _ := fun z => q1 (hm1.mp z)
      have k2 := hm2.mpr q
      have n0 : last < nI 1 := by
        rcases hl with h | h
        · rw [h]; decide +kernel
        · rw [h.1]; decide +kernel
      have g5 : Fr [] [17] Ib (u2 Ib 67 17 (nI (wdN T N (skN T N a)))) := Fr.rf.uf (by decide)
      have s5 : MS (u2 Ib 67 17 (nI (wdN T N (skN T N a)))) T N (wdN T N (skN T N a)) := ⟨z2.1.fr g5 (by decide) (by decide) (by decide), ux_at, (ux_j (by decide)).trans z2.2.2⟩
      obtain ⟨Ic, x3, y3, w3, m4, m5⟩ := hM _ Lb ru2 s5
      have gIc : Fr [] [16, 17, 19, 20, 21] I Ic := (((y1.mono (by decide) (by decide)).tr (y2.mono (by decide) (by decide))).tr (g5.mono (by decide) (by decide))).tr (y3.mono (by decide) (by decide))
      refine ⟨Ic, Lb, ?_, gIc.mono (by decide) (by decide), ((hRD.x h66 f1.1 (by decide)).x d1.2.2.2.2.1.2 f2.1 (by decide)).m gIc (by decide) (by decide), m4, m5⟩
      simp (config := { maxSteps := 2000000 }) (disch := omega) only [f211_H78, f211_J152, f211_J203, ux_at, ux_kk, ux_jo, gIm, pIm, pZm, gRm, aIm, sIm, aBm, sBm, gLm, pLm, clm, wshS, obS, reduceIte, Nat.one_ne_zero, Nat.zero_ne_one, Nat.reduceEqDiff, not_true_eq_false, not_false_eq_true, Nat.le_refl, ng_le, ng_lt, ng_nle, ng_nlt, ng_eq, ng_eq2, Bool.false_eq_true, lit_nI, nI_add, pk_mul, nI_leI, nI_ltI, nI_eq, x1, eb, x2, l2, mc4_likes, mc5_likes, k1, mc4_fears, mc5_fears, k2, n0, w2, x3]
    by_cases hf0 : f = 0
    · subst hf0
      obtain ⟨s2, lt2, k, _, hk, rfl⟩ := c0 rfl
      have s3 : XS (u2 J2 17 s (nI k)) T N a2 := s2.fr (Fr.rf.u (K := [17]) (by decide)) (by decide) (by decide)
      refine ⟨_, 0, 0, a2, by decide, by decide, ex, g3, fun _ => ⟨s3, by omega, d2.fear hs2 hk, ?_⟩, fun y => absurd rfl y, fun I L2 ru2 km a0 hkm ha0 hsk hMS hRD => ?_⟩
      · refine Eq.trans ?_ es2
        unfold soD
        rw [ux_kk (by decide)]
      · obtain ⟨km, rfl⟩ : ∃ z, km = z + 2 := ⟨km - 2, by omega⟩
        obtain ⟨I1, L3, x1, y1, r1, m4, m5⟩ := hR I L2 ru2 (km + 1) a0 (by omega) ha0 hsk hMS hRD
        obtain ⟨q3, q4⟩ := m4 rfl
        rw [q4] at x1
        have g6 : Fr [79] [] I1 (u2 I1 79 s (nI k)) := Fr.rf.u (by decide)
        have r2 : RDr (u2 I1 79 s (nI k)) (u2 J2 17 s (nI k)) s := r1.fear d2.2.2.2.2.1.2
        obtain ⟨I', L4, x2, y2, k3, k4⟩ := m_tail (L := L3) (ru := ru2) (n := n) (km := km) (last := nI 1) hT2 hn (Or.inl rfl) s2.2.1 (q3.fr g6 (by decide) (by decide) (by decide) (by decide)) r2.2.2.2.2.1
        refine ⟨I', L4, x1.trans x2, (y1.tr (g6.mono (by decide) (by decide))).tr (y2.mono (by decide) (by decide)), fun z => ?_, fun z => ?_⟩
        · obtain ⟨k5, k6⟩ := k3 z
          exact ⟨k5, RDr.so r2 y2 k6⟩
        · exact (k4 z).trans (by unfold stP; rw [if_pos rfl])
    · obtain ⟨rfl, z2⟩ := c1 hf0
      have z3 : XZ (u2 J2 17 s (nI 0)) T N f p := z2.fr (Fr.rf.u (K := [17]) (by decide)) (by decide) (by decide)
      refine ⟨_, f, p, 0, hf, hp, ex, g3, fun y => absurd y hf0, fun _ => z3, fun I L2 ru2 km a0 hkm ha0 hsk hMS hRD => ?_⟩
      obtain ⟨km, rfl⟩ : ∃ z, km = z + 2 := ⟨km - 2, by omega⟩
      obtain ⟨I1, L3, x1, y1, r1, m4, m5⟩ := hR I L2 ru2 (km + 1) a0 (by omega) ha0 hsk hMS hRD
      have e28 : (u2 I1 79 s (I1 67 20)) 67 28 = nI s := (ux_k (by decide)).trans r1.2.2.2.2.1
      have x2 := m_sortF (L := L3) (ru := ru2) (n := n) (km := km) (last := nI 1) e28 hf0 hf (by omega)
      have est : stF T N f 0 = f := if_neg hf0
      have esp : stP T N f p 0 = p := if_neg hf0
      rw [est, esp]
      exact ⟨_, L3, x1.trans x2, (y1.u (by decide)).uf (by decide), fun z => absurd z hf0, fun _ => (ux_j (by decide)).trans ((ux_k (by decide)).trans (m5 hf0))⟩
  · obtain ⟨J1, e1, f1, s1⟩ := xs_wordN (L := L) (ru := ru) (n := n) hS wd_fears lt_fears q (by omega)
    have d1 := hD.fr f1.1 (by decide)
    have es1 : soD J1 = soD J := by unfold soD; rw [f1.1.at (by decide) (by decide)]
    refine ⟨J1, 0, 0, skN T N a, by decide, by decide, ?_, f1.dx, fun _ => ⟨s1, hg, d1, es1⟩, fun y => absurd rfl y, fun I L2 ru2 km a0 hkm ha0 hsk hMS hRD => ?_⟩
    · simp (config := { maxSteps := 2000000 }) (disch := omega) only [f206_J48, ux_at, ux_kk, ux_jo, gIx, pIx, pZx, gRx, aIx, sIx, aBx, sBx, lenx, clx, wshS, obS, reduceIte, Nat.one_ne_zero, Nat.zero_ne_one, Nat.reduceEqDiff, not_true_eq_false, not_false_eq_true, Nat.le_refl, ng_le, ng_lt, ng_nle, ng_nlt, ng_eq, ng_eq2, Bool.false_eq_true, lit_nI, nI_add, pk_mul, nI_leI, nI_ltI, nI_eq, e1]
    · obtain ⟨km, rfl⟩ : ∃ z, km = z + 1 := ⟨km - 1, by omega⟩
      obtain ⟨I', L4, x2, y2, k3, k4⟩ := m_tail (L := L2) (ru := ru2) (n := n) (km := km) (last := last) hT2 hn (by
        rw [hsk]
        rcases hl with h | h
        · exact Or.inr (Or.inl ⟨h, q⟩)
        · exact Or.inr (Or.inr ⟨h.1, h.2, q⟩)) ha0 hMS hRD.2.2.2.2.1
      have est : stF T N 0 (skN T N a) = stF T N 0 a0 := by unfold stF; rw [hid, hsk]
      have esp : stP T N 0 0 (skN T N a) = skN T N a := by unfold stP; rw [if_pos rfl, hid]
      rw [est, esp, hid]
      rw [hsk] at k3 k4
      refine ⟨I', L4, x2, y2.mono (by decide) (by decide), fun z => ?_, k4⟩
      obtain ⟨k5, k6⟩ := k3 z
      exact ⟨k5, RDr.so (hRD.x h66 f1.1 (by decide)) y2 k6⟩
end
