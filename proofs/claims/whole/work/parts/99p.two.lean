/-! TEXTS: the reference's signs; both sides' numbers, commas -/
/-- the reading: where both are -/
def XS (J : St) (T : Nat → Nat) (N a : Nat) : Prop := XT J T N ∧ a ≤ N ∧ ∃ na, TS J a na 0 (-nI 1)
def XZ (J : St) (T : Nat → Nat) (N f p : Nat) : Prop := XT J T N ∧ ∃ a na, a ≤ N ∧ TS J a na f (nI p)
def MS (I : St) (T : Nat → Nat) (N a : Nat) : Prop := MT I T N ∧ I 67 17 = nI a ∧ I 67 16 = -nI 1
theorem XS.fr {J J' : St} {T : Nat → Nat} {N a : Nat} (h : XS J T N a) {K : List Nat} (f : Fr K [] J J') (h1 : 1 ∉ K) (h2 : 2 ∉ K) : XS J' T N a := by
  obtain ⟨a1, a2, na, a3⟩ := h
  exact ⟨a1.fr f h1 h2, a2, na, a3.fr f h1⟩
theorem XZ.fr {J J' : St} {T : Nat → Nat} {N g p : Nat} (h : XZ J T N g p) {K : List Nat} (f : Fr K [] J J') (h1 : 1 ∉ K) (h2 : 2 ∉ K) : XZ J' T N g p := by
  obtain ⟨a1, a, na, a2, a3⟩ := h
  exact ⟨a1.fr f h1 h2, a, na, a2, a3.fr f h1⟩
theorem MS.fr {I I' : St} {T : Nat → Nat} {N a : Nat} (h : MS I T N a) {K F : List Nat} (f : Fr K F I I') (h1 : 76 ∉ K) (h67 : 67 ∉ K) (h15 : 15 ∉ F) (h17 : 17 ∉ F) (h16 : 16 ∉ F := by decide) : MS I' T N a :=
  ⟨h.1.fr f h1 h67 h15, (f.f h67 h17).trans h.2.1, (f.f h67 h16).trans h.2.2⟩
section
variable {I J : St} {L : Lt} {ru n : Nat} {T : Nat → Nat} {N : Nat}
theorem m_sgn (hT : MT I T N) (hT2 : ∀ i, T i < 256) {a : Nat} (ha : a ≤ N) (h : I 67 17 = nI a) (hn : 500 < n) :
    ∃ I', f162 n 67 (nI 9) (mW I L ru) = some (nI (ffN T N (-nI 9) (nI 9) (mnN T N (skN T N a)) (skN T N a + mnN T N (skN T N a))), mW I' L ru) ∧ Fr [] [16, 17, 20, 21] I I' ∧ (ffN T N (-nI 9) (nI 9) (mnN T N (skN T N a)) (skN T N a + mnN T N (skN T N a)) = 0 → I' 67 17 = nI (fgN T N (skN T N a + mnN T N (skN T N a))) ∧ I' 67 20 = fvI T N (mnN T N (skN T N a)) (skN T N a + mnN T N (skN T N a)) ∧ I' 67 16 = I 67 16) ∧ (ffN T N (-nI 9) (nI 9) (mnN T N (skN T N a)) (skN T N a + mnN T N (skN T N a)) = 1 → I' 67 16 = nI (skN T N a + mnN T N (skN T N a))) ∧ (ffN T N (-nI 9) (nI 9) (mnN T N (skN T N a)) (skN T N a + mnN T N (skN T N a)) = 2 → I' 67 16 = nI (skN T N a)) := by
  obtain ⟨I1, e1, f1, a1⟩ := m_here (L := L) (ru := ru) (n := n) hT ha h hn
  have hb := skN_le (T := T) ha
  have t2 := hT.2.1
  generalize skN T N a = b at *
  have a2 : (u2 I1 67 21 (nI b)) 67 17 = nI b := (ux_j (by decide)).trans a1
  by_cases q : b < N ∧ T b = 45
  · have em : mnN T N b = 1 := if_pos q
    have eb : btI T N b = nI 45 := by
      unfold btI
      rw [if_pos q.1, q.2]
    rw [eb] at e1
    rw [em]
    have g2 : Fr [] [17, 21] I (u2 (u2 I1 67 21 (nI b)) 67 17 (nI (b + 1))) := ((f1.mono (by decide) (by decide)).uf (by decide)).uf (by decide)
    obtain ⟨I2, e2, f2, x2, c0, c1, c2⟩ := m_figs (L := L) (ru := ru) (n := n) (bl := 1) (lo := -nI 9) (hi := nI 9) (hT.fr g2 (by decide) (by decide) (by decide)) hT2 (show b + 1 ≤ N by omega) (by decide) ux_at hn
    have n21 : (u2 (u2 I1 67 21 (nI b)) 67 17 (nI (b + 1))) 67 21 = nI b := (ux_j (by decide)).trans ux_at
    refine ⟨I2, ?_, (g2.mono (by decide) (by decide)).tr (f2.mono (by decide) (by decide)), fun z => ⟨(c0 z).1, (c0 z).2.1, (c0 z).2.2.trans (g2.f (by decide) (by decide))⟩, c1, fun z => (c2 z).trans n21⟩
    simp (config := { maxSteps := 2000000 }) (disch := omega) only [f162, f162_J14, f162_J37, ux_at, ux_kk, ux_jo, gIm, pIm, pZm, gRm, aIm, sIm, aBm, sBm, gLm, pLm, clm, wshS, obS, reduceIte, Nat.one_ne_zero, Nat.zero_ne_one, Nat.reduceEqDiff, not_true_eq_false, not_false_eq_true, Nat.le_refl, ng_le, ng_lt, ng_nle, ng_nlt, ng_eq, ng_eq2, Bool.false_eq_true, lit_nI, nI_add, pk_mul, nI_leI, nI_ltI, nI_eq, e1, a1, a2, e2]
  · have em : mnN T N b = 0 := if_neg q
    have eb : ¬ btI T N b = nI 45 := by
      unfold btI
      by_cases h1 : b < N
      · rw [if_pos h1]
        have := (hT.2.2 b h1).1
        intro z
        rw [nI_eq (by omega) (by decide)] at z
        exact q ⟨h1, z⟩
      · rw [if_neg h1]
        decide +kernel
    rw [em, Nat.add_zero]
    have g2 : Fr [] [17, 21] I (u2 (u2 I1 67 21 (nI b)) 67 17 (nI b)) := ((f1.mono (by decide) (by decide)).uf (by decide)).uf (by decide)
    obtain ⟨I2, e2, f2, x2, c0, c1, c2⟩ := m_figs (L := L) (ru := ru) (n := n) (bl := 0) (lo := -nI 9) (hi := nI 9) (hT.fr g2 (by decide) (by decide) (by decide)) hT2 hb (by decide) ux_at hn
    have n21 : (u2 (u2 I1 67 21 (nI b)) 67 17 (nI b)) 67 21 = nI b := (ux_j (by decide)).trans ux_at
    refine ⟨I2, ?_, (g2.mono (by decide) (by decide)).tr (f2.mono (by decide) (by decide)), fun z => ⟨(c0 z).1, (c0 z).2.1, (c0 z).2.2.trans (g2.f (by decide) (by decide))⟩, c1, fun z => (c2 z).trans n21⟩
    simp (config := { maxSteps := 2000000 }) (disch := omega) only [f162, f162_J14, f162_J37, ux_at, ux_kk, ux_jo, gIm, pIm, pZm, gRm, aIm, sIm, aBm, sBm, gLm, pLm, clm, wshS, obS, reduceIte, Nat.one_ne_zero, Nat.zero_ne_one, Nat.reduceEqDiff, not_true_eq_false, not_false_eq_true, Nat.le_refl, ng_le, ng_lt, ng_nle, ng_nlt, ng_eq, ng_eq2, Bool.false_eq_true, lit_nI, nI_add, pk_mul, nI_leI, nI_ltI, nI_eq, Nat.add_zero, e1, eb, a1, a2, e2]
theorem btI_is {b c : Nat} (hT : b < N → T b < 256) (hc : c < 256) : (btI T N b = nI c) = (b < N ∧ T b = c) := by
  unfold btI
  by_cases h1 : b < N
  · rw [if_pos h1, nI_eq (by have := hT h1; omega) (by omega)]
    exact propext ⟨fun z => ⟨h1, z⟩, fun z => z.2⟩
  · rw [if_neg h1]
    refine propext ⟨fun z => ?_, fun z => absurd z.1 h1⟩
    have z2 : (-nI 1).toInt = (nI c).toInt := by rw [z]
    rw [nI_toInt (by omega)] at z2
    have z3 : (-nI 1).toInt = -1 := by decide +kernel
    omega
theorem m_comma (hT : MT I T N) {a : Nat} (ha : a ≤ N) (h : I 67 17 = nI a) (hn : 500 < n) : ∃ I', f114 n 67 (mW I L ru) = some (if skN T N a < N ∧ T (skN T N a) = 44 then nI 1 else nI 0, mW I' L ru) ∧ Fr [] [17] I I' ∧ I' 67 17 = nI (if skN T N a < N ∧ T (skN T N a) = 44 then skN T N a + 1 else skN T N a) := by
  obtain ⟨I1, e1, f1, a1⟩ := m_here (L := L) (ru := ru) (n := n) hT ha h hn
  have hb := skN_le (T := T) ha
  have t2 := hT.2.1
  generalize skN T N a = b at *
  have eb := btI_is (T := T) (N := N) (b := b) (c := 44) (fun z => (hT.2.2 b z).1) (by decide)
  by_cases q : b < N ∧ T b = 44
  · rw [if_pos q, if_pos q]
    have eb : btI T N b = nI 44 := by rw [eb]; exact q
    rw [eb] at e1
    refine ⟨u2 I1 67 17 (nI (b + 1)), ?_, f1.uf (by decide), ux_at⟩
    simp (config := { maxSteps := 2000000 }) (disch := omega) only [f114, f114_J14, f114_J29, ux_at, ux_kk, ux_jo, gIm, pIm, pZm, gRm, aIm, sIm, aBm, sBm, gLm, pLm, clm, wshS, obS, reduceIte, Nat.one_ne_zero, Nat.zero_ne_one, Nat.reduceEqDiff, not_true_eq_false, not_false_eq_true, Nat.le_refl, ng_le, ng_lt, ng_nle, ng_nlt, ng_eq, ng_eq2, Bool.false_eq_true, lit_nI, nI_add, pk_mul, nI_leI, nI_ltI, nI_eq, e1, a1, or_true, true_or]
  · rw [if_neg q, if_neg q]
    have eb : ¬ btI T N b = nI 44 := by rw [eb]; exact q
    refine ⟨u2 I1 67 17 (nI b), ?_, f1.uf (by decide), ux_at⟩
    simp (config := { maxSteps := 2000000 }) (disch := omega) only [f114, f114_J14, f114_J29, ux_at, ux_kk, ux_jo, gIm, pIm, pZm, gRm, aIm, sIm, aBm, sBm, gLm, pLm, clm, wshS, obS, reduceIte, Nat.one_ne_zero, Nat.zero_ne_one, Nat.reduceEqDiff, not_true_eq_false, not_false_eq_true, Nat.le_refl, ng_le, ng_lt, ng_nle, ng_nlt, ng_eq, ng_eq2, Bool.false_eq_true, lit_nI, nI_add, pk_mul, nI_leI, nI_ltI, nI_eq, Nat.add_zero, e1, eb, a1, or_true, true_or]
theorem m_stop (hT : MT I T N) {a : Nat} (ha : a ≤ N) (h : I 67 17 = nI a) (hn : 500 < n) : ∃ I', f115 n 67 (mW I L ru) = some (if skN T N a < N ∧ T (skN T N a) = 59 then nI 0 else nI 1, mW I' L ru) ∧ Fr [] [16, 17] I I' ∧ (skN T N a < N ∧ T (skN T N a) = 59 → I' 67 17 = nI (skN T N a + 1) ∧ I' 67 16 = I 67 16) ∧ (¬ (skN T N a < N ∧ T (skN T N a) = 59) → I' 67 16 = nI (skN T N a)) := by
  obtain ⟨I1, e1, f1, a1⟩ := m_here (L := L) (ru := ru) (n := n) hT ha h hn
  have hb := skN_le (T := T) ha
  have t2 := hT.2.1
  generalize skN T N a = b at *
  have eb := btI_is (T := T) (N := N) (b := b) (c := 59) (fun z => (hT.2.2 b z).1) (by decide)
  by_cases q : b < N ∧ T b = 59
  · rw [if_pos q]
    have eb : btI T N b = nI 59 := by rw [eb]; exact q
    rw [eb] at e1
    refine ⟨u2 I1 67 17 (nI (b + 1)), ?_, (f1.mono (by decide) (by decide)).uf (by decide), fun _ => ⟨ux_at, (ux_j (by decide)).trans (f1.f (by decide) (by decide))⟩, fun z => absurd q z⟩
    simp (config := { maxSteps := 2000000 }) (disch := omega) only [f115, ux_at, ux_kk, ux_jo, gIm, pIm, pZm, gRm, aIm, sIm, aBm, sBm, gLm, pLm, clm, wshS, obS, reduceIte, Nat.one_ne_zero, Nat.zero_ne_one, Nat.reduceEqDiff, not_true_eq_false, not_false_eq_true, Nat.le_refl, ng_le, ng_lt, ng_nle, ng_nlt, ng_eq, ng_eq2, Bool.false_eq_true, lit_nI, nI_add, pk_mul, nI_leI, nI_ltI, nI_eq, e1, a1]
  · rw [if_neg q]
    have eb : ¬ btI T N b = nI 59 := by rw [eb]; exact q
    refine ⟨u2 I1 67 16 (nI b), ?_, (f1.mono (by decide) (by decide)).uf (by decide), fun z => absurd z q, fun _ => ux_at⟩
    simp (config := { maxSteps := 2000000 }) (disch := omega) only [f115, f46, ux_at, ux_kk, ux_jo, gIm, pIm, pZm, gRm, aIm, sIm, aBm, sBm, gLm, pLm, clm, wshS, obS, reduceIte, Nat.one_ne_zero, Nat.zero_ne_one, Nat.reduceEqDiff, not_true_eq_false, not_false_eq_true, Nat.le_refl, ng_le, ng_lt, ng_nle, ng_nlt, ng_eq, ng_eq2, Bool.false_eq_true, lit_nI, nI_add, pk_mul, nI_leI, nI_ltI, nI_eq, e1, eb, a1]
theorem ff_pos {lo hi : Int32} {bl b : Nat} (hb : b ≤ N) (h : ffN T N lo hi bl b = 0) : b < fgN T N b ∧ fgN T N b ≤ N ∧ ¬ fvI T N bl b < lo ∧ ¬ hi < fvI T N bl b := by
  have h1 : b ≤ fgN T N b := rnE_ge _ _ _
  have h2 : fgN T N b ≤ N := rnE_le hb
  unfold ffN at h
  split at h
  · exact absurd h (by decide)
  · split at h
    · exact absurd h (by decide)
    · split at h
      · exact absurd h (by decide)
      · split at h
        · exact absurd h (by decide)
        · exact ⟨by omega, h2, by assumption, by assumption⟩
theorem dv_lt (hT2 : ∀ i, T i < 256) (b c : Nat) : dvN T b c < 10000 := by
  have := hT2 b
  have := hT2 (b + 1)
  unfold dvN
  split
  · omega
  · split <;> omega
theorem ff_k {lo hi b : Nat} (hT2 : ∀ i, T i < 256) (hlo : lo < 100) (hhi : hi < 100) (hb : b ≤ N) (h : ffN T N (nI lo) (nI hi) 0 b = 0) : ∃ k, lo ≤ k ∧ k ≤ hi ∧ fvI T N 0 b = nI k := by
  obtain ⟨h1, h2, h3, h4⟩ := ff_pos hb h
  have h5 : fvI T N 0 b = nI (dvN T b (fgN T N b - b)) := if_pos rfl
  have h6 := dv_lt hT2 b (fgN T N b - b)
  rw [h5] at h3 h4
  rw [nI_ltI (by omega) (by omega)] at h3 h4
  exact ⟨_, by omega, by omega, h5⟩
/-- a number without a sign, on both sides -/
theorem two_num (hT2 : ∀ i, T i < 256) {a lo hi : Nat} (hS : XS J T N a) (hlo : lo < 100) (hhi : hi < 100) (hn : 500 < n) :
    ∃ J' v f p a', f140 n 1 (nI lo) (nI hi) (mW J L ru) = some (v, mW J' L ru) ∧ TF J J' ∧ f < 6 ∧ p ≤ 300 ∧ J' 1 3 = nI p ∧ (f = 0 → XS J' T N a' ∧ a < a' ∧ ∃ k, lo ≤ k ∧ k ≤ hi ∧ v = nI k) ∧ (f ≠ 0 → v = nI 0 ∧ XZ J' T N f p)
      ∧ ∀ I L2 ru2, MS I T N a → ∃ I', f161 n 67 (nI lo) (nI hi) (mW I L2 ru2) = some (nI f, mW I' L2 ru2) ∧ Fr [] [16, 17, 20, 21] I I' ∧ I' 67 21 = nI p ∧ (f = 0 → MS I' T N a' ∧ I' 67 20 = v) ∧ (f ≠ 0 → I' 67 16 = nI p) := by
  obtain ⟨hT, ha, na, hS⟩ := hS
  obtain ⟨J', v, a', e1, f1, h1, c0, c1⟩ := x_num (L := L) (ru := ru) (n := n) (lo := lo) (hi := nI hi) hT hT2 ha hlo hS hn
  have hb := skN_le (T := T) ha
  have hg := skN_ge T N a
  have t2 := hT.2.1
  have h5 := ffN_le T N (nI lo) (nI hi) 0 (skN T N a)
  refine ⟨J', v, ffN T N (nI lo) (nI hi) 0 (skN T N a), skN T N a, fgN T N (skN T N a), e1, f1, by omega, by omega, ?_, fun z => ?_, fun z => ?_, fun I L2 ru2 hM => ?_⟩
  · by_cases z : ffN T N (nI lo) (nI hi) 0 (skN T N a) = 0
    · exact (c0 z).2.2.1
    · exact (c1 z).2.2.1
  · obtain ⟨g1, g2, _⟩ := ff_pos hb z
    obtain ⟨k, k1, k2, k3⟩ := ff_k hT2 hlo hhi hb z
    exact ⟨⟨hT.tf f1, g2, _, (c0 z).2⟩, by omega, k, k1, k2, (c0 z).1.trans k3⟩
  · exact ⟨(c1 z).1, hT.tf f1, a', _, h1, (c1 z).2⟩
  · obtain ⟨I', m1, m2, m3, _, m4, m5⟩ := m_num (L := L2) (ru := ru2) (n := n) (lo := nI lo) (hi := nI hi) hM.1 hT2 ha hM.2.1 hn
    refine ⟨I', m1, m2, m3, fun z => ⟨⟨hM.1.fr m2 (by decide) (by decide) (by decide), (m4 z).1, (m4 z).2.2.trans hM.2.2⟩, (m4 z).2.1.trans (c0 z).1.symm⟩, m5⟩
/-- a number that may have a sign -/
theorem two_sgn (hT2 : ∀ i, T i < 256) {a : Nat} (hS : XS J T N a) (hn : 500 < n) :
    ∃ J' v f p a', f140 n 1 (-nI 9) (nI 9) (mW J L ru) = some (v, mW J' L ru) ∧ TF J J' ∧ f < 6 ∧ p ≤ 300 ∧ (f = 0 → XS J' T N a' ∧ a < a' ∧ -9 ≤ v.toInt ∧ v.toInt ≤ 9) ∧ (f ≠ 0 → v = nI 0 ∧ XZ J' T N f p)
      ∧ ∀ I L2 ru2, MS I T N a → ∃ I', f162 n 67 (nI 9) (mW I L2 ru2) = some (nI f, mW I' L2 ru2) ∧ Fr [] [16, 17, 20, 21] I I' ∧ (f = 0 → MS I' T N a' ∧ I' 67 20 = v) ∧ (f ≠ 0 → I' 67 16 = nI p) := by
  obtain ⟨hT, ha, na, hS⟩ := hS
  obtain ⟨J', v, a', e1, f1, h1, c0, c1, c2⟩ := x_sgn (L := L) (ru := ru) (n := n) hT hT2 ha hS hn
  have hb := skN_le (T := T) ha
  have hg := skN_ge T N a
  have t2 := hT.2.1
  have hm := mnN_b (T := T) hb
  have hm1 := mnN_le T N (skN T N a)
  generalize hbl : mnN T N (skN T N a) = bl at *
  have h5 := ffN_le T N (-nI 9) (nI 9) bl (skN T N a + bl)
  have ms : ∀ I L2 ru2, MS I T N a → ∃ I', f162 n 67 (nI 9) (mW I L2 ru2) = some (nI (ffN T N (-nI 9) (nI 9) bl (skN T N a + bl)), mW I' L2 ru2) ∧ Fr [] [16, 17, 20, 21] I I' ∧ (ffN T N (-nI 9) (nI 9) bl (skN T N a + bl) = 0 → MS I' T N (fgN T N (skN T N a + bl)) ∧ I' 67 20 = fvI T N bl (skN T N a + bl)) ∧ (ffN T N (-nI 9) (nI 9) bl (skN T N a + bl) = 1 → I' 67 16 = nI (skN T N a + bl)) ∧ (ffN T N (-nI 9) (nI 9) bl (skN T N a + bl) = 2 → I' 67 16 = nI (skN T N a)) := by
    intro I L2 ru2 hM
    obtain ⟨I', m1, m2, m4, m5, m6⟩ := m_sgn (L := L2) (ru := ru2) (n := n) hM.1 hT2 ha hM.2.1 hn
    rw [hbl] at m1 m4 m5 m6
    exact ⟨I', m1, m2, fun z => ⟨⟨hM.1.fr m2 (by decide) (by decide) (by decide), (m4 z).1, (m4 z).2.2.trans hM.2.2⟩, (m4 z).2.1⟩, m5, m6⟩
  rcases (show ffN T N (-nI 9) (nI 9) bl (skN T N a + bl) = 0 ∨ ffN T N (-nI 9) (nI 9) bl (skN T N a + bl) = 1 ∨ ffN T N (-nI 9) (nI 9) bl (skN T N a + bl) = 2 by omega) with z | z | z
  · obtain ⟨g1, g2, g3, g4⟩ := ff_pos hm z
    obtain ⟨v1, v2⟩ := c0 z
    refine ⟨J', v, 0, 0, fgN T N (skN T N a + bl), e1, f1, by decide, by decide, fun _ => ⟨⟨hT.tf f1, g2, _, v2⟩, by omega, ?_, ?_⟩, fun y => absurd rfl y, fun I L2 ru2 hM => ?_⟩
    · rw [v1]
      rw [Int32.not_lt, Int32.le_iff_toInt_le] at g3
      have : (-nI 9).toInt = -9 := by decide +kernel
      omega
    · rw [v1]
      rw [Int32.not_lt, Int32.le_iff_toInt_le] at g4
      have : (nI 9).toInt = 9 := by decide +kernel
      omega
    · obtain ⟨I', m1, m2, m4, m5, m6⟩ := ms I L2 ru2 hM
      rw [z] at m1
      exact ⟨I', m1, m2, fun _ => ⟨(m4 z).1, (m4 z).2.trans v1.symm⟩, fun y => absurd rfl y⟩
  · obtain ⟨v1, v2⟩ := c1 z
    refine ⟨J', v, 1, skN T N a + bl, 0, e1, f1, by decide, by omega, fun y => absurd y (by decide), fun _ => ⟨v1, hT.tf f1, a', _, h1, v2⟩, fun I L2 ru2 hM => ?_⟩
    obtain ⟨I', m1, m2, m4, m5, m6⟩ := ms I L2 ru2 hM
    rw [z] at m1
    exact ⟨I', m1, m2, fun y => absurd y (by decide), fun _ => m5 z⟩
  · obtain ⟨v1, v2⟩ := c2 z
    refine ⟨J', v, 2, skN T N a, 0, e1, f1, by decide, by omega, fun y => absurd y (by decide), fun _ => ⟨v1, hT.tf f1, a', _, h1, v2⟩, fun I L2 ru2 hM => ?_⟩
    obtain ⟨I', m1, m2, m4, m5, m6⟩ := ms I L2 ru2 hM
    rw [z] at m1
    exact ⟨I', m1, m2, fun y => absurd y (by decide), fun _ => m6 z⟩
/-- a comma -/
theorem two_comma {a : Nat} (hS : XS J T N a) (hn : 500 < n) : ∃ J' c a', c ≤ 1 ∧ f141 n 1 (nI 44) (mW J L ru) = some (nI c, mW J' L ru) ∧ TF J J' ∧ XS J' T N a' ∧ a ≤ a' ∧ ∀ I L2 ru2, MS I T N a → ∃ I', f114 n 67 (mW I L2 ru2) = some (nI c, mW I' L2 ru2) ∧ Fr [] [17] I I' ∧ MS I' T N a' := by
  obtain ⟨hT, ha, na, hS⟩ := hS
  obtain ⟨J', e1, f1, s1⟩ := x_takesC (L := L) (ru := ru) (n := n) (c := 44) hT ha hS (by decide) hn
  have hb := skN_le (T := T) ha
  have hg := skN_ge T N a
  by_cases q : skN T N a < N ∧ T (skN T N a) = 44
  · rw [if_pos q] at e1 s1
    refine ⟨J', 1, skN T N a + 1, by decide, e1, f1, ⟨hT.tf f1, by omega, na, s1⟩, by omega, fun I L2 ru2 hM => ?_⟩
    obtain ⟨I', m1, m2, m3⟩ := m_comma (L := L2) (ru := ru2) (n := n) hM.1 ha hM.2.1 hn
    rw [if_pos q] at m1 m3
    exact ⟨I', m1, m2, hM.1.fr m2 (by decide) (by decide) (by decide), m3, (m2.f (by decide) (by decide)).trans hM.2.2⟩
  · rw [if_neg q] at e1 s1
    refine ⟨J', 0, skN T N a, by decide, e1, f1, ⟨hT.tf f1, by omega, na, s1⟩, by omega, fun I L2 ru2 hM => ?_⟩
    obtain ⟨I', m1, m2, m3⟩ := m_comma (L := L2) (ru := ru2) (n := n) hM.1 ha hM.2.1 hn
    rw [if_neg q] at m1 m3
    exact ⟨I', m1, m2, hM.1.fr m2 (by decide) (by decide) (by decide), m3, (m2.f (by decide) (by decide)).trans hM.2.2⟩
end
