/-! TEXTS: a sea that is kept: the reference's keeping -/
abbrev kK : List Nat := [68, 69, 70, 72, 73, 75, 71, 74, 94]
abbrev kF : List Nat := [0, 1, 3, 4, 5, 6, 34]
def hdV (I J : St) : Nat → Int32
  | 0 => I 67 22
  | 1 => I 67 23
  | 3 => I 67 25
  | 4 => I 67 26
  | 5 => I 67 27
  | _ => nI (soD J)
/-- the state of the keeping: sorts below s are done -/
def KpO (J I Z : St) (s : Nat) : Prop := Fr kK [0, 1, 3, 4, 5, 6] I Z ∧ (∀ j, j ∈ [0, 1, 3, 4, 5, 6] → Z 67 j = hdV I J j) ∧ (∀ c, c < 64 → Z 68 c = J 26 c) ∧ ∀ s', s' < s → Z 69 s' = J 16 s' ∧ Z 70 s' = J 17 s' ∧ Z 72 s' = nI 0 ∧ Z 73 s' = nI 0 ∧ Z 75 s' = gI (gN (rkD J) (wsD J s') 64) ∧ ∀ c, c < 64 → Z 74 (64 * s' + c) = wsD J s' c
section
variable {I J Z : St} {L : Lt} {ru n : Nat}
theorem m_near (hD : DrK J) (hr : ∀ c, c < 64 → Z 68 c = J 26 c) {c : Nat} (hc : c < 64) (hn : 500 < n) : f116 n 67 (nI c) (mW Z L ru) = some (nI (nbN (rkD J) c), mW Z L ru) := by
  refine lpP (F := fun k d (s : Nat) => f116_H4 n (fun e2 w10 => some (e2, w10)) k 67 (nI c) (nI s) (nI d) (mW Z L ru)) (P := fun y => y = some (nI (nbN (rkD J) c), mW Z L ru)) (J := fun t s => s = sumN (nbP (rkD J) c) t) 64 ?_ ?_ n 0 0 (by omega) (by omega) rfl
  · rintro k s rfl
    simp (config := { maxSteps := 2000000 }) (disch := omega) only [f116_H4, ux_at, ux_kk, ux_jo, gIm, pIm, pZm, gRm, aIm, sIm, aBm, sBm, gLm, pLm, clm, wshS, obS, reduceIte, Nat.one_ne_zero, Nat.zero_ne_one, Nat.reduceEqDiff, not_true_eq_false, not_false_eq_true, Nat.le_refl, ng_le, ng_lt, ng_nle, ng_nlt, ng_eq, ng_eq2, Bool.false_eq_true, lit_nI, nI_add, pk_mul, nI_leI, nI_ltI, nI_eq]
    rfl
  · rintro k t s ht rfl ih
    have ht2 : ¬ 64 ≤ t := by omega
    obtain ⟨h1, h2⟩ := rkD_01 hD ht
    have ei : Z 68 t = nI (rkD J t) := (hr t ht).trans h1
    have es : sumN (nbP (rkD J) c) (t + 1) = sumN (nbP (rkD J) c) t + nbP (rkD J) c t := rfl
    have ef := s48 (w := mW Z L ru) hc ht
    have hfl : farN c t < 64 := by
      have : ∀ a, a < 64 → ∀ b, b < 64 → farN a b < 64 := by decide +kernel
      exact this c hc t ht
    rcases one_or h2 with e | e
    · rw [e] at ei
      have ez : nbP (rkD J) c t = 0 := if_pos e
      simp (config := { maxSteps := 2000000 }) (disch := omega) only [f116_H4, f116_J34, ux_at, ux_kk, ux_jo, gIm, pIm, pZm, gRm, aIm, sIm, aBm, sBm, gLm, pLm, clm, wshS, obS, reduceIte, Nat.one_ne_zero, Nat.zero_ne_one, Nat.reduceEqDiff, not_true_eq_false, not_false_eq_true, Nat.le_refl, ng_le, ng_lt, ng_nle, ng_nlt, ng_eq, ng_eq2, Bool.false_eq_true, lit_nI, nI_add, pk_mul, nI_leI, nI_ltI, nI_eq, Nat.add_zero, ht2, ei]
      exact ih _ (by rw [es, ez, Nat.add_zero])
    · rw [e] at ei
      by_cases q : 1 < farN c t
      · have ez : nbP (rkD J) c t = 0 := by unfold nbP; rw [if_neg (by omega), if_pos q]
        simp (config := { maxSteps := 2000000 }) (disch := omega) only [f116_H4, f116_J34, ux_at, ux_kk, ux_jo, gIm, pIm, pZm, gRm, aIm, sIm, aBm, sBm, gLm, pLm, clm, wshS, obS, reduceIte, Nat.one_ne_zero, Nat.zero_ne_one, Nat.reduceEqDiff, not_true_eq_false, not_false_eq_true, Nat.le_refl, ng_le, ng_lt, ng_nle, ng_nlt, ng_eq, ng_eq2, Bool.false_eq_true, lit_nI, nI_add, pk_mul, nI_leI, nI_ltI, nI_eq, Nat.add_zero, ht2, ei, ef, q]
        exact ih _ (by rw [es, ez, Nat.add_zero])
      · have ez : nbP (rkD J) c t = 1 := by unfold nbP; rw [if_neg (by omega), if_neg q]
        simp (config := { maxSteps := 2000000 }) (disch := omega) only [f116_H4, f116_J34, ux_at, ux_kk, ux_jo, gIm, pIm, pZm, gRm, aIm, sIm, aBm, sBm, gLm, pLm, clm, wshS, obS, reduceIte, Nat.one_ne_zero, Nat.zero_ne_one, Nat.reduceEqDiff, not_true_eq_false, not_false_eq_true, Nat.le_refl, ng_le, ng_lt, ng_nle, ng_nlt, ng_eq, ng_eq2, Bool.false_eq_true, lit_nI, nI_add, pk_mul, nI_leI, nI_ltI, nI_eq, ht2, ei, ef, q]
        exact ih _ (by rw [es, ez])
/-- one sort's worths and its goal -/
theorem m_keepIn (hD : DrK J) {s : Nat} (hs : s < soD J) {R41 : Nat → Int32 → Wd → Option Wd} {K41 : Nat → Wd → Option Wd} {K : Nat → Int32 → Wd → Option Wd} (hn : 500 < n) (hl : ∀ c, c < 64 → I 80 (64 * s + c) = J (20 + s) c) (h0 : KpO J I Z s) (h1 : Z 69 s = J 16 s ∧ Z 70 s = J 17 s ∧ Z 72 s = nI 0 ∧ Z 73 s = nI 0) (hg : Z 75 s = -nI 1) : ∃ Y, f163_H131 n R41 K41 K n 67 (nI s) (nI 0) (mW Z L ru) = K 67 (nI s) (mW Y L ru) ∧ KpO J I Y (s + 1) := by
  have h66 := hD.2.2.2.2.1.2
  have s6 : s < 6 := by omega
  refine lpP (F := fun k c (Y : St) => f163_H131 n R41 K41 K k 67 (nI s) (nI c) (mW Y L ru)) (P := fun y => ∃ Y, y = K 67 (nI s) (mW Y L ru) ∧ KpO J I Y (s + 1)) (J := fun t Y => KpO J I Y s ∧ (Y 69 s = J 16 s ∧ Y 70 s = J 17 s ∧ Y 72 s = nI 0 ∧ Y 73 s = nI 0) ∧ (∀ c, c < t → Y 74 (64 * s + c) = wsD J s c) ∧ Y 75 s = gI (gN (rkD J) (wsD J s) t)) 64 ?_ ?_ n 0 Z (by omega) (by omega) ⟨h0, h1, fun c hc => absurd hc (Nat.not_lt_zero _), hg⟩
  · rintro k Y ⟨⟨a1, a2, a3, a4⟩, ⟨p1, p2, p3, p4⟩, b1, b2⟩
    refine ⟨Y, ?_, a1, a2, a3, fun s' hs' => ?_⟩
    · simp (config := { maxSteps := 2000000 }) (disch := omega) only [f163_H131, ux_at, ux_kk, ux_jo, gIm, pIm, pZm, gRm, aIm, sIm, aBm, sBm, gLm, pLm, clm, wshS, obS, reduceIte, Nat.one_ne_zero, Nat.zero_ne_one, Nat.reduceEqDiff, not_true_eq_false, not_false_eq_true, Nat.le_refl, ng_le, ng_lt, ng_nle, ng_nlt, ng_eq, ng_eq2, Bool.false_eq_true, lit_nI, nI_add, pk_mul, nI_leI, nI_ltI, nI_eq]
    · by_cases e : s' = s
      · rw [e]
        exact ⟨p1, p2, p3, p4, b2, b1⟩
      · exact a4 s' (by omega)
  · rintro k t Y ht ⟨⟨a1, a2, a3, a4⟩, ⟨p1, p2, p3, p4⟩, b1, b2⟩ ih
    have ht2 : ¬ 64 ≤ t := by omega
    obtain ⟨k1, k2⟩ := rkD_01 hD ht
    have hrk : Y 68 t = nI (rkD J t) := (a3 t ht).trans k1
    have hlk : Y 80 (64 * s + t) = J (20 + s) t := by rw [a1.at (by decide) (by decide)]; exact hl t ht
    -- the like, then the worth
    have n1 : ∀ v, (u2 Y 71 (64 * s + t) v) 68 t = nI (rkD J t) := fun v => (ux_k (by decide)).trans hrk
    have f1 : (u2 Y 71 (64 * s + t) (J (20 + s) t)) 70 s = J 17 s := (ux_k (by decide)).trans p2
    have en := m_near (Z := u2 Y 71 (64 * s + t) (J (20 + s) t)) (L := L) (ru := ru) (n := n) hD (fun c hc => (ux_k (by decide)).trans (a3 c hc)) ht hn
    have st : KpO J I (u2 (u2 Y 71 (64 * s + t) (J (20 + s) t)) 74 (64 * s + t) (wsD J s t)) s ∧ ((u2 (u2 Y 71 (64 * s + t) (J (20 + s) t)) 74 (64 * s + t) (wsD J s t)) 69 s = J 16 s ∧ (u2 (u2 Y 71 (64 * s + t) (J (20 + s) t)) 74 (64 * s + t) (wsD J s t)) 70 s = J 17 s ∧ (u2 (u2 Y 71 (64 * s + t) (J (20 + s) t)) 74 (64 * s + t) (wsD J s t)) 72 s = nI 0 ∧ (u2 (u2 Y 71 (64 * s + t) (J (20 + s) t)) 74 (64 * s + t) (wsD J s t)) 73 s = nI 0) ∧ (∀ c, c < t + 1 → (u2 (u2 Y 71 (64 * s + t) (J (20 + s) t)) 74 (64 * s + t) (wsD J s t)) 74 (64 * s + c) = wsD J s c) ∧ (u2 (u2 Y 71 (64 * s + t) (J (20 + s) t)) 74 (64 * s + t) (wsD J s t)) 75 s = gI (gN (rkD J) (wsD J s) t) := by
      refine ⟨⟨(a1.u (by decide)).u (by decide), fun j hj => (ux_k (by decide)).trans ((ux_k (by decide)).trans (a2 j hj)), fun c hc => (ux_k (by decide)).trans ((ux_k (by decide)).trans (a3 c hc)), fun s' hs' => ?_⟩, ⟨(ux_k (by decide)).trans ((ux_k (by decide)).trans p1), (ux_k (by decide)).trans ((ux_k (by decide)).trans p2), (ux_k (by decide)).trans ((ux_k (by decide)).trans p3), (ux_k (by decide)).trans ((ux_k (by decide)).trans p4)⟩, fun c hc => ?_, (ux_k (by decide)).trans ((ux_k (by decide)).trans b2)⟩
      · obtain ⟨d1, d2, d3, d4, d5, d6⟩ := a4 s' hs'
        exact ⟨(ux_k (by decide)).trans ((ux_k (by decide)).trans d1), (ux_k (by decide)).trans ((ux_k (by decide)).trans d2), (ux_k (by decide)).trans ((ux_k (by decide)).trans d3), (ux_k (by decide)).trans ((ux_k (by decide)).trans d4), (ux_k (by decide)).trans ((ux_k (by decide)).trans d5), fun c hc => (ux_j (by omega)).trans ((ux_k (by decide)).trans (d6 c hc))⟩
      · rw [ux_if]
        by_cases e : c = t
        · rw [if_pos (by omega), e]
        · rw [if_neg (by omega), ux_kk (by decide)]
          exact b1 c (by omega)
    have hgl := gN_le (rkD J) (wsD J s) t (by omega)
    have egs : gN (rkD J) (wsD J s) (t + 1) = if rkD J t = 0 then (if gN (rkD J) (wsD J s) t = 64 then t else if wsD J s t ≤ wsD J s (gN (rkD J) (wsD J s) t) then gN (rkD J) (wsD J s) t else t) else gN (rkD J) (wsD J s) t := rfl
    have hrk1 : (u2 (u2 Y 71 (64 * s + t) (J (20 + s) t)) 74 (64 * s + t) (wsD J s t)) 68 t = nI (rkD J t) := (ux_k (by decide)).trans (n1 _)
    have hwt : (u2 (u2 Y 71 (64 * s + t) (J (20 + s) t)) 74 (64 * s + t) (wsD J s t)) 74 (64 * s + t) = wsD J s t := ux_at
    obtain ⟨s1, s2, s3, s4⟩ := st
    have step : ∀ v, v = wsD J s t → ∃ Y2, f163_J207 n R41 K41 (fun v0 v1 v2 w => f163_H131 n R41 K41 K k v0 v1 v2 w) K 67 (nI s) (nI t) 74 (nI (64 * s + t)) v (mW (u2 Y 71 (64 * s + t) (J (20 + s) t)) L ru) = f163_H131 n R41 K41 K k 67 (nI s) (nI (t + 1)) (mW Y2 L ru) ∧ KpO J I Y2 s ∧ (Y2 69 s = J 16 s ∧ Y2 70 s = J 17 s ∧ Y2 72 s = nI 0 ∧ Y2 73 s = nI 0) ∧ (∀ c, c < t + 1 → Y2 74 (64 * s + c) = wsD J s c) ∧ Y2 75 s = gI (gN (rkD J) (wsD J s) (t + 1)) := by
      intro v hv
      subst hv
      have eg : ∀ w, astI (mW (u2 Y 71 (64 * s + t) (J (20 + s) t)) L ru) 74 (nI (64 * s + t)) w = some (mW (u2 (u2 Y 71 (64 * s + t) (J (20 + s) t)) 74 (64 * s + t) w) L ru) := fun w => by
        simp (config := { maxSteps := 2000000 }) (disch := omega) only [ux_at, ux_kk, ux_jo, gIm, pIm, pZm, gRm, aIm, sIm, aBm, sBm, gLm, pLm, clm, wshS, obS, reduceIte]
      have eg := eg (wsD J s t)
      generalize u2 (u2 Y 71 (64 * s + t) (J (20 + s) t)) 74 (64 * s + t) (wsD J s t) = Y1 at *
      -- the goal is put
      have put : ∀ x, x = gI (gN (rkD J) (wsD J s) (t + 1)) → KpO J I (u2 Y1 75 s x) s ∧ ((u2 Y1 75 s x) 69 s = J 16 s ∧ (u2 Y1 75 s x) 70 s = J 17 s ∧ (u2 Y1 75 s x) 72 s = nI 0 ∧ (u2 Y1 75 s x) 73 s = nI 0) ∧ (∀ c, c < t + 1 → (u2 Y1 75 s x) 74 (64 * s + c) = wsD J s c) ∧ (u2 Y1 75 s x) 75 s = gI (gN (rkD J) (wsD J s) (t + 1)) := by
        intro x hx
        obtain ⟨d1, d2, d3, d4⟩ := s1
        obtain ⟨c1, c2, c3, c4⟩ := s2
        refine ⟨⟨d1.u (by decide), fun j hj => (ux_k (by decide)).trans (d2 j hj), fun c hc => (ux_k (by decide)).trans (d3 c hc), fun s' hs' => ?_⟩, ⟨(ux_k (by decide)).trans c1, (ux_k (by decide)).trans c2, (ux_k (by decide)).trans c3, (ux_k (by decide)).trans c4⟩, fun c hc => (ux_k (by decide)).trans (s3 c hc), ux_at.trans hx⟩
        obtain ⟨e1, e2, e3, e4, e5, e6⟩ := d4 s' hs'
        exact ⟨(ux_k (by decide)).trans e1, (ux_k (by decide)).trans e2, (ux_k (by decide)).trans e3, (ux_k (by decide)).trans e4, (ux_j (by omega)).trans e5, fun c hc => (ux_k (by decide)).trans (e6 c hc)⟩
      rcases one_or k2 with e | e
      · rw [e] at hrk1
        rw [if_pos e] at egs
        rcases hgl with g64 | glt
        · rw [if_pos g64] at egs
          rw [g64, gI_64] at s4
          have n0 : -nI 1 < nI 0 := by decide +kernel
          refine ⟨_, ?_, put (nI t) (by rw [egs, gI_lt ht])⟩
          simp (config := { maxSteps := 2000000 }) (disch := omega) only [f163_J207, f163_J261, ux_at, ux_kk, ux_jo, gIm, pIm, pZm, gRm, aIm, sIm, aBm, sBm, gLm, pLm, clm, wshS, obS, reduceIte, Nat.one_ne_zero, Nat.zero_ne_one, Nat.reduceEqDiff, not_true_eq_false, not_false_eq_true, Nat.le_refl, ng_le, ng_lt, ng_nle, ng_nlt, ng_eq, ng_eq2, Bool.false_eq_true, lit_nI, nI_add, pk_mul, nI_leI, nI_ltI, nI_eq, eg, hrk1, s4, n0]
        · have g64 : ¬ gN (rkD J) (wsD J s) t = 64 := by omega
          rw [if_neg g64] at egs
          have gl : gN (rkD J) (wsD J s) t < 64 := by omega
          rw [gI_lt gl] at s4
          have ew := s3 (gN (rkD J) (wsD J s) t) (by omega)
          have n0 : ¬ nI (gN (rkD J) (wsD J s) t) < nI 0 := nI_pos (by omega)
          by_cases q : wsD J s t ≤ wsD J s (gN (rkD J) (wsD J s) t)
          · rw [if_pos q] at egs
            refine ⟨_, ?_, put (nI (gN (rkD J) (wsD J s) t)) (by rw [egs, gI_lt gl])⟩
            simp (config := { maxSteps := 2000000 }) (disch := omega) only [f163_J207, f163_J261, ux_at, ux_kk, ux_jo, gIm, pIm, pZm, gRm, aIm, sIm, aBm, sBm, gLm, pLm, clm, wshS, obS, reduceIte, Nat.one_ne_zero, Nat.zero_ne_one, Nat.reduceEqDiff, not_true_eq_false, not_false_eq_true, Nat.le_refl, ng_le, ng_lt, ng_nle, ng_nlt, ng_eq, ng_eq2, Bool.false_eq_true, lit_nI, nI_add, pk_mul, nI_leI, nI_ltI, nI_eq, eg, hrk1, s4, n0, hwt, ew, q]
          · rw [if_neg q] at egs
            refine ⟨_, ?_, put (nI t) (by rw [egs, gI_lt ht])⟩
            simp (config := { maxSteps := 2000000 }) (disch := omega) only [f163_J207, f163_J261, ux_at, ux_kk, ux_jo, gIm, pIm, pZm, gRm, aIm, sIm, aBm, sBm, gLm, pLm, clm, wshS, obS, reduceIte, Nat.one_ne_zero, Nat.zero_ne_one, Nat.reduceEqDiff, not_true_eq_false, not_false_eq_true, Nat.le_refl, ng_le, ng_lt, ng_nle, ng_nlt, ng_eq, ng_eq2, Bool.false_eq_true, lit_nI, nI_add, pk_mul, nI_leI, nI_ltI, nI_eq, eg, hrk1, s4, n0, hwt, ew, q]
      · rw [e] at hrk1
        rw [if_neg (by omega)] at egs
        refine ⟨_, ?_, put (gI (gN (rkD J) (wsD J s) t)) (by rw [egs])⟩
        simp (config := { maxSteps := 2000000 }) (disch := omega) only [f163_J207, f163_J261, ux_at, ux_kk, ux_jo, gIm, pIm, pZm, gRm, aIm, sIm, aBm, sBm, gLm, pLm, clm, wshS, obS, reduceIte, Nat.one_ne_zero, Nat.zero_ne_one, Nat.reduceEqDiff, not_true_eq_false, not_false_eq_true, Nat.le_refl, ng_le, ng_lt, ng_nle, ng_nlt, ng_eq, ng_eq2, Bool.false_eq_true, lit_nI, nI_add, pk_mul, nI_leI, nI_ltI, nI_eq, eg, hrk1, s4]
    have hl9 : (u2 Y 71 (64 * s + t) (J (20 + s) t)) 71 (64 * s + t) = J (20 + s) t := ux_at
    rcases one_or k2 with e | e
    · obtain ⟨Y2, y1, y2⟩ := step (J (20 + s) t - J 17 s * nI (nbN (rkD J) t)) (by unfold wsD wP; rw [if_pos e])
      have n1 := n1 (J (20 + s) t)
      rw [e] at n1
      simp (config := { maxSteps := 2000000 }) (disch := omega) only [f163_H131, ux_at, ux_kk, ux_jo, gIm, pIm, pZm, gRm, aIm, sIm, aBm, sBm, gLm, pLm, clm, wshS, obS, reduceIte, Nat.one_ne_zero, Nat.zero_ne_one, Nat.reduceEqDiff, not_true_eq_false, not_false_eq_true, Nat.le_refl, ng_le, ng_lt, ng_nle, ng_nlt, ng_eq, ng_eq2, Bool.false_eq_true, lit_nI, nI_add, pk_mul, nI_leI, nI_ltI, nI_eq, ht2, hlk, n1, f1, en]
      rw [y1]
      exact ih Y2 y2
    · obtain ⟨Y2, y1, y2⟩ := step (-nI 99) (by unfold wsD wP; rw [if_neg (by omega)])
      have n1 := n1 (J (20 + s) t)
      rw [e] at n1
      simp (config := { maxSteps := 2000000 }) (disch := omega) only [f163_H131, ux_at, ux_kk, ux_jo, gIm, pIm, pZm, gRm, aIm, sIm, aBm, sBm, gLm, pLm, clm, wshS, obS, reduceIte, Nat.one_ne_zero, Nat.zero_ne_one, Nat.reduceEqDiff, not_true_eq_false, not_false_eq_true, Nat.le_refl, ng_le, ng_lt, ng_nle, ng_nlt, ng_eq, ng_eq2, Bool.false_eq_true, lit_nI, nI_add, pk_mul, nI_leI, nI_ltI, nI_eq, ht2, hlk, n1]
      rw [y1]
      exact ih Y2 y2
theorem m_keepSea (hD : DrK J) (h : RDr I J (soD J)) (hn : 500 < n) : ∃ I', f163 n 67 (mW I L ru) = some (mW I' L ru) ∧ Fr kK kF I I' ∧ I' 67 0 = I 67 22 ∧ I' 67 1 = I 67 23 ∧ I' 67 3 = I 67 25 ∧ I' 67 4 = I 67 26 ∧ I' 67 5 = I 67 27 ∧ I' 67 6 = nI (soD J) ∧ (∀ c, c < 64 → I' 68 c = J 26 c) ∧ (∀ s, s < soD J → I' 69 s = J 16 s ∧ I' 70 s = J 17 s ∧ I' 72 s = nI 0 ∧ I' 73 s = nI 0 ∧ I' 75 s = gI (gN (rkD J) (wsD J s) 64) ∧ ∀ c, c < 64 → I' 74 (64 * s + c) = wsD J s c) ∧ I' 94 0 = nI 0 ∧ I' 94 1 = nI 0 ∧ I' 67 34 = nI 0 := by
  have h66 := hD.2.2.2.2.1.2
  obtain ⟨b1, b2, b3, b4, b5, b6, b7, b8⟩ := h
  -- the sorts
  have sorts : ∀ Z0, KpO J I Z0 0 → ∃ Z, f163_H76 n (fun e0 w130 => ob (getR w130 11 e0 62) (fun x131 => ob (astB w130 x131 (nI 0) (nI 0)) (fun w133 => ob (getR w133 11 e0 62) (fun x135 => ob (astB w133 x135 (nI 1) (nI 0)) (fun w137 => ob (putZ w137 11 e0 34 (nI 0)) (fun w139 => some w139)))))) n 67 (nI 0) (mW Z0 L ru) = some (mW (u2 (u2 (u2 Z 94 0 (nI 0)) 94 1 (nI 0)) 67 34 (nI 0)) L ru) ∧ KpO J I Z (soD J) := by
    intro Z0 hz
    refine lpP (F := fun k s (Z : St) => f163_H76 n (fun e0 w130 => ob (getR w130 11 e0 62) (fun x131 => ob (astB w130 x131 (nI 0) (nI 0)) (fun w133 => ob (getR w133 11 e0 62) (fun x135 => ob (astB w133 x135 (nI 1) (nI 0)) (fun w137 => ob (putZ w137 11 e0 34 (nI 0)) (fun w139 => some w139)))))) k 67 (nI s) (mW Z L ru)) (P := fun y => ∃ Z, y = some (mW (u2 (u2 (u2 Z 94 0 (nI 0)) 94 1 (nI 0)) 67 34 (nI 0)) L ru) ∧ KpO J I Z (soD J)) (J := fun s Z => KpO J I Z s) (soD J) ?_ ?_ n 0 Z0 (by omega) (by omega) hz
    · rintro k Z ⟨a1, a2, a3, a4⟩
      have h6 : Z 67 6 = nI (soD J) := a2 6 (by decide)
      refine ⟨Z, ?_, a1, a2, a3, a4⟩
      have z0 := fun y => sZ_of (I := y) (L := L) (ru := ru) (v := nI 0) sh_94 (show 0 < 2 by decide) (by decide)
      have z1 := fun y => sZ_of (I := y) (L := L) (ru := ru) (v := nI 0) sh_94 (show 1 < 2 by decide) (by decide)
      have e0 : nI 0 &&& 1 = nI 0 := by decide +kernel
      rw [e0] at z0 z1
      simp (config := { maxSteps := 2000000 }) (disch := omega) only [f163_H76, ux_at, ux_jo, gIm, pIm, pZm, gRm, obS, reduceIte, Nat.one_ne_zero, Nat.zero_ne_one, Nat.reduceEqDiff, not_true_eq_false, not_false_eq_true, Nat.le_refl, ng_le, ng_lt, ng_nle, ng_nlt, ng_eq, ng_eq2, Bool.false_eq_true, lit_nI, nI_add, pk_mul, nI_leI, nI_ltI, nI_eq, h6, z0, z1]
    · rintro k s Z hs ⟨a1, a2, a3, a4⟩ ih
      have hs2 : ¬ soD J ≤ s := by omega
      have h6 : Z 67 6 = nI (soD J) := a2 6 (by decide)
      obtain ⟨d1, d2, d3⟩ := b8 s hs
      have hp : Z 78 s = J 16 s := by rw [a1.at (by decide) (by decide)]; exact d1
      have hf : Z 79 s = J 17 s := by rw [a1.at (by decide) (by decide)]; exact d2
      have o1 : KpO J I (u2 (u2 (u2 (u2 (u2 Z 69 s (J 16 s)) 70 s (J 17 s)) 72 s (nI 0)) 73 s (nI 0)) 75 s (-nI 1)) s := by
        refine ⟨((((a1.u (by decide)).u (by decide)).u (by decide)).u (by decide)).u (by decide), fun j hj => ?_, fun c hc => ?_, fun s' hs' => ?_⟩
        · rw [ux_k (by decide), ux_k (by decide), ux_k (by decide), ux_k (by decide), ux_k (by decide)]
          exact a2 j hj
        · rw [ux_k (by decide), ux_k (by decide), ux_k (by decide), ux_k (by decide), ux_k (by decide)]
          exact a3 c hc
        · obtain ⟨e1, e2, e3, e4, e5, e6⟩ := a4 s' hs'
          have ne : ¬ s' = s := by omega
          refine ⟨?_, ?_, ?_, ?_, ?_, fun c hc => ?_⟩
          · rw [ux_k (by decide), ux_k (by decide), ux_k (by decide), ux_k (by decide), ux_j ne]; exact e1
          · rw [ux_k (by decide), ux_k (by decide), ux_k (by decide), ux_j ne, ux_k (by decide)]; exact e2
          · rw [ux_k (by decide), ux_k (by decide), ux_j ne, ux_k (by decide), ux_k (by decide)]; exact e3
          · rw [ux_k (by decide), ux_j ne, ux_k (by decide), ux_k (by decide), ux_k (by decide)]; exact e4
          · rw [ux_j ne, ux_k (by decide), ux_k (by decide), ux_k (by decide), ux_k (by decide)]; exact e5
          · rw [ux_k (by decide), ux_k (by decide), ux_k (by decide), ux_k (by decide), ux_k (by decide)]; exact e6 c hc
      obtain ⟨Y, e1, o2⟩ := m_keepIn (Z := u2 (u2 (u2 (u2 (u2 Z 69 s (J 16 s)) 70 s (J 17 s)) 72 s (nI 0)) 73 s (nI 0)) 75 s (-nI 1)) (L := L) (ru := ru) (n := n) (R41 := fun v0 v1 w => f163_H76 n (fun e0 w130 => ob (getR w130 11 e0 62) (fun x131 => ob (astB w130 x131 (nI 0) (nI 0)) (fun w133 => ob (getR w133 11 e0 62) (fun x135 => ob (astB w133 x135 (nI 1) (nI 0)) (fun w137 => ob (putZ w137 11 e0 34 (nI 0)) (fun w139 => some w139)))))) k v0 v1 w) (K41 := fun e0 w130 => ob (getR w130 11 e0 62) (fun x131 => ob (astB w130 x131 (nI 0) (nI 0)) (fun w133 => ob (getR w133 11 e0 62) (fun x135 => ob (astB w133 x135 (nI 1) (nI 0)) (fun w137 => ob (putZ w137 11 e0 34 (nI 0)) (fun w139 => some w139)))))) (K := fun e0 e1 w128 => f163_H76 n (fun e0 w130 => ob (getR w130 11 e0 62) (fun x131 => ob (astB w130 x131 (nI 0) (nI 0)) (fun w133 => ob (getR w133 11 e0 62) (fun x135 => ob (astB w133 x135 (nI 1) (nI 0)) (fun w137 => ob (putZ w137 11 e0 34 (nI 0)) (fun w139 => some w139)))))) k e0 (e1 + nI 1) w128) hD hs hn d3 o1 (by
        refine ⟨?_, ?_, ?_, ?_⟩
        · rw [ux_k (by decide), ux_k (by decide), ux_k (by decide), ux_k (by decide), ux_at]
        · rw [ux_k (by decide), ux_k (by decide), ux_k (by decide), ux_at]
        · rw [ux_k (by decide), ux_k (by decide), ux_at]
        · rw [ux_k (by decide), ux_at]) ux_at
      simp (config := { maxSteps := 2000000 }) (disch := omega) only [f163_H76, ux_at, ux_kk, ux_jo, gIm, pIm, pZm, gRm, aIm, sIm, aBm, sBm, gLm, pLm, clm, wshS, obS, reduceIte, Nat.one_ne_zero, Nat.zero_ne_one, Nat.reduceEqDiff, not_true_eq_false, not_false_eq_true, Nat.le_refl, ng_le, ng_lt, ng_nle, ng_nlt, ng_eq, ng_eq2, Bool.false_eq_true, lit_nI, nI_add, pk_mul, nI_leI, nI_ltI, nI_eq, h6, hs2, hp, hf]
      refine Eq.mpr ?_ (ih Y o2)
      rw [e1, nI_add]
  -- the rocks
  have rocks : ∀ Z0, Fr kK [0, 1, 3, 4, 5, 6] I Z0 → (∀ j, j ∈ [0, 1, 3, 4, 5, 6] → Z0 67 j = hdV I J j) → ∃ Z, f163_H50 n (fun e0 w34 => f163_H76 n (fun e0 w130 => ob (getR w130 11 e0 62) (fun x131 => ob (astB w130 x131 (nI 0) (nI 0)) (fun w133 => ob (getR w133 11 e0 62) (fun x135 => ob (astB w133 x135 (nI 1) (nI 0)) (fun w137 => ob (putZ w137 11 e0 34 (nI 0)) (fun w139 => some w139)))))) n e0 (nI 0) w34) n 67 (nI 0) (mW Z0 L ru) = some (mW (u2 (u2 (u2 Z 94 0 (nI 0)) 94 1 (nI 0)) 67 34 (nI 0)) L ru) ∧ KpO J I Z (soD J) := by
    intro Z0 h1 h2
    refine lpP (F := fun k c (Z : St) => f163_H50 n (fun e0 w34 => f163_H76 n (fun e0 w130 => ob (getR w130 11 e0 62) (fun x131 => ob (astB w130 x131 (nI 0) (nI 0)) (fun w133 => ob (getR w133 11 e0 62) (fun x135 => ob (astB w133 x135 (nI 1) (nI 0)) (fun w137 => ob (putZ w137 11 e0 34 (nI 0)) (fun w139 => some w139)))))) n e0 (nI 0) w34) k 67 (nI c) (mW Z L ru)) (P := fun y => ∃ Z, y = some (mW (u2 (u2 (u2 Z 94 0 (nI 0)) 94 1 (nI 0)) 67 34 (nI 0)) L ru) ∧ KpO J I Z (soD J)) (J := fun t Z => Fr kK [0, 1, 3, 4, 5, 6] I Z ∧ (∀ j, j ∈ [0, 1, 3, 4, 5, 6] → Z 67 j = hdV I J j) ∧ ∀ c, c < t → Z 68 c = J 26 c) 64 ?_ ?_ n 0 Z0 (by omega) (by omega) ⟨h1, h2, fun c hc => absurd hc (Nat.not_lt_zero _)⟩
    · rintro k Z ⟨a1, a2, a3⟩
      simp (config := { maxSteps := 2000000 }) (disch := omega) only [f163_H50, ux_at, ux_kk, ux_jo, gIm, pIm, pZm, gRm, aIm, sIm, aBm, sBm, gLm, pLm, clm, wshS, obS, reduceIte, Nat.one_ne_zero, Nat.zero_ne_one, Nat.reduceEqDiff, not_true_eq_false, not_false_eq_true, Nat.le_refl, ng_le, ng_lt, ng_nle, ng_nlt, ng_eq, ng_eq2, Bool.false_eq_true, lit_nI, nI_add, pk_mul, nI_leI, nI_ltI, nI_eq]
      exact sorts Z ⟨a1, a2, a3, fun s' h => absurd h (Nat.not_lt_zero _)⟩
    · rintro k t Z ht ⟨a1, a2, a3⟩ ih
      have ht2 : ¬ 64 ≤ t := by omega
      obtain ⟨k1, k2⟩ := rkD_01 hD ht
      have hr : Z 77 t = nI (rkD J t) := by rw [a1.at (by decide) (by decide), b7 t ht]; exact k1
      have ea : nI (rkD J t) &&& nI 1 = nI (rkD J t) := by
        rcases one_or k2 with e | e
        · rw [e]; decide +kernel
        · rw [e]; decide +kernel
      simp (config := { maxSteps := 2000000 }) (disch := omega) only [f163_H50, ux_at, ux_kk, ux_jo, gIm, pIm, pZm, gRm, aIm, sIm, aBm, sBm, gLm, pLm, clm, wshS, obS, reduceIte, Nat.one_ne_zero, Nat.zero_ne_one, Nat.reduceEqDiff, not_true_eq_false, not_false_eq_true, Nat.le_refl, ng_le, ng_lt, ng_nle, ng_nlt, ng_eq, ng_eq2, Bool.false_eq_true, lit_nI, nI_add, pk_mul, nI_leI, nI_ltI, nI_eq, ht2, hr, ea]
      refine ih _ ⟨a1.u (by decide), fun j hj => (ux_k (by decide)).trans (a2 j hj), fun c hc => ?_⟩
      rw [ux_if]
      by_cases e : c = t
      · rw [if_pos e, e, k1]
      · rw [if_neg e]
        exact a3 c (by omega)
  have g0 : Fr [] [0, 1, 3, 4, 5, 6] I (u2 (u2 (u2 (u2 (u2 (u2 I 67 0 (I 67 22)) 67 1 (I 67 23)) 67 3 (I 67 25)) 67 4 (I 67 26)) 67 5 (I 67 27)) 67 6 (nI (soD J))) := (((((Fr.rf.uf (by decide)).uf (by decide)).uf (by decide)).uf (by decide)).uf (by decide)).uf (by decide)
  obtain ⟨Z, e1, a1, a2, a3, a4⟩ := rocks (u2 (u2 (u2 (u2 (u2 (u2 I 67 0 (I 67 22)) 67 1 (I 67 23)) 67 3 (I 67 25)) 67 4 (I 67 26)) 67 5 (I 67 27)) 67 6 (nI (soD J))) (g0.mono (by decide) (by decide)) (by
    intro j hj
    simp only [List.mem_cons, List.not_mem_nil, or_false] at hj
    rcases hj with rfl | rfl | rfl | rfl | rfl | rfl
    · simp (disch := decide) only [ux_at, ux_jo]; rfl
    · simp (disch := decide) only [ux_at, ux_jo]; rfl
    · simp (disch := decide) only [ux_at, ux_jo]; rfl
    · simp (disch := decide) only [ux_at, ux_jo]; rfl
    · simp (disch := decide) only [ux_at, ux_jo]; rfl
    · simp (disch := decide) only [ux_at, ux_jo]; rfl)
  have f0 : ∀ j, j ≠ 34 → (u2 (u2 (u2 Z 94 0 (nI 0)) 94 1 (nI 0)) 67 34 (nI 0)) 67 j = Z 67 j := fun j hj => (ux_j hj).trans ((ux_k (by decide)).trans (ux_k (by decide)))
  have k0 : ∀ k, k ≠ 67 → k ≠ 94 → (u2 (u2 (u2 Z 94 0 (nI 0)) 94 1 (nI 0)) 67 34 (nI 0)) k = Z k := fun k h1 h2 => (ux_kk h1).trans ((ux_kk h2).trans (ux_kk h2))
  refine ⟨_, ?_, (((a1.mono (by decide) (by decide)).u (by decide)).u (by decide)).uf (by decide), (f0 _ (by decide)).trans (a2 0 (by decide)), (f0 _ (by decide)).trans (a2 1 (by decide)), (f0 _ (by decide)).trans (a2 3 (by decide)), (f0 _ (by decide)).trans (a2 4 (by decide)), (f0 _ (by decide)).trans (a2 5 (by decide)), (f0 _ (by decide)).trans (a2 6 (by decide)), fun c hc => ?_, fun s hs => ?_, ?_, ?_, ux_at⟩
  · simp (config := { maxSteps := 2000000 }) (disch := omega) only [f163, ux_at, ux_kk, ux_jo, gIm, pIm, pZm, gRm, aIm, sIm, aBm, sBm, gLm, pLm, clm, wshS, obS, reduceIte, Nat.one_ne_zero, Nat.zero_ne_one, Nat.reduceEqDiff, not_true_eq_false, not_false_eq_true, Nat.le_refl, ng_le, ng_lt, ng_nle, ng_nlt, ng_eq, ng_eq2, Bool.false_eq_true, lit_nI, nI_add, pk_mul, nI_leI, nI_ltI, nI_eq, b5]
    exact e1
  · rw [k0 _ (by decide) (by decide)]
    exact a3 c hc
  · rw [k0 69 (by decide) (by decide), k0 70 (by decide) (by decide), k0 72 (by decide) (by decide), k0 73 (by decide) (by decide), k0 75 (by decide) (by decide), k0 74 (by decide) (by decide)]
    exact a4 s hs
  · exact (ux_k (by decide)).trans ((ux_j (by decide)).trans ux_at)
  · exact (ux_k (by decide)).trans ux_at
end
