/-! THE BEST COURSE: the reference's brings, findBest -/
def brI (A : St) (m hours hour : Nat) (M : Nat → Nat → Int32) (c h k : Nat) : Int32 := if rkN A (stpN A c h hour k) = 1 then -nI 99 * pSet A m * (nI hours - nI hour) else wSet A (stpN A c h hour k) m + M (stpN A c h hour k) (tuN h k)
/-- the best of the turns of a set, the first i of the order looked at -/
def c3S (mask : Nat) (v : Nat → Int32) : Nat → Int32 × Nat
  | 0 => (nI 0, 0)
  | i + 1 => if mask.testBit (toN i) then (if (c3S mask v i).2 = 0 then v (toN i) else if v (toN i) ≤ (c3S mask v i).1 then (c3S mask v i).1 else v (toN i), 1) else c3S mask v i
/-- the most that the last r of so many hours bring -/
def bvI (A : St) (m hours : Nat) (mf : Nat → Nat → Nat → Nat) : Nat → Nat → Nat → Int32
  | 0, _, _ => nI 0
  | r + 1, c, h => (c3S (mf (hours - (r + 1)) c h) (brI A m hours (hours - (r + 1)) (bvI A m hours mf r) c h) 3).1
theorem bvI_s {A : St} {m hours hour c h : Nat} {mf : Nat → Nat → Nat → Nat} (hh : hour < hours) : bvI A m hours mf (hours - hour) c h = (c3S (mf hour c h) (brI A m hours hour (bvI A m hours mf (hours - (hour + 1))) c h) 3).1 := by
  obtain ⟨r, hr⟩ : ∃ r, hours - hour = r + 1 := ⟨hours - hour - 1, by omega⟩
  have h1 : hours - (r + 1) = hour := by omega
  have h2 : hours - (hour + 1) = r := by omega
  rw [hr, h2]
  show (c3S (mf (hours - (r + 1)) c h) (brI A m hours (hours - (r + 1)) (bvI A m hours mf r) c h) 3).1 = _
  rw [h1]
theorem c3S_any (mask : Nat) (v : Nat → Int32) : ∀ i, (c3S mask v i).2 ≤ 1
  | 0 => Nat.zero_le _
  | i + 1 => by
    unfold c3S
    split
    · exact Nat.le_refl _
    · exact c3S_any mask v i
section
variable {I A : St} {L : Lt} {ru n : Nat}
/-- the table of the best stands for an hour -/
def BH (J A : St) (m hours : Nat) (mf : Nat → Nat → Nat → Nat) (hour : Nat) : Prop := ∀ c h, c < 64 → h < 8 → rkN A c = 0 → J 91 (512 * hour + 8 * c + h) = bvI A m hours mf (hours - hour) c h
theorem BH.fr {J J' A : St} {m hours hour : Nat} {mf : Nat → Nat → Nat → Nat} (h : BH J A m hours mf hour) {K F : List Nat} (f : Fr K F J J') (hK : 91 ∉ K) : BH J' A m hours mf hour := fun c hd a b d => (congrFun (f.at hK (by decide)) _).trans (h c hd a b d)
theorem s196 (hM : MC I A) (hW : WFs A) {m hours hour c h k : Nat} {mf : Nat → Nat → Nat → Nat} (hB : BH I A m hours mf (hour + 1)) (hm : m < 64) (hc : c < 64) (hh : h < 8) (ho : hour < 24) (hk : k < 3) (hn : 6 < n) : f196 n 67 (nI m) (nI c) (nI h) (nI hour) (nI hours) (tI k) (mW I L ru) = some (brI A m hours hour (bvI A m hours mf (hours - (hour + 1))) c h k, mW I L ru) := by
  have h8 := tuN_lt h k
  have h1 := stpN_lt hW hc (h := h) (hour := hour) (k := k)
  rcases one_or (rk_le hW h1) with e | e
  · have hb := hB _ _ h1 h8 e
    simp (config := { maxSteps := 2000000 }) (disch := omega) only [f196, ux_at, ux_kk, ux_jo, gIm, pIm, pZm, gRm, aIm, sIm, aBm, sBm, gLm, pLm, clm, wshS, obS, reduceIte, Nat.one_ne_zero, Nat.zero_ne_one, Nat.reduceEqDiff, not_true_eq_false, not_false_eq_true, Nat.le_refl, ng_le, ng_lt, ng_nle, ng_nlt, ng_eq, ng_eq2, Bool.false_eq_true, lit_nI, nI_add, pk_mul, nI_leI, nI_ltI, nI_eq, mcA hM, wfA hW, s166 hM hW, e, s120 hM hW hn h1 hm, s51, hb, brI]
  · simp (config := { maxSteps := 2000000 }) (disch := omega) only [f196, ux_at, ux_kk, ux_jo, gIm, pIm, pZm, gRm, aIm, sIm, aBm, sBm, gLm, pLm, clm, wshS, obS, reduceIte, Nat.one_ne_zero, Nat.zero_ne_one, Nat.reduceEqDiff, not_true_eq_false, not_false_eq_true, Nat.le_refl, ng_le, ng_lt, ng_nle, ng_nlt, ng_eq, ng_eq2, Bool.false_eq_true, lit_nI, nI_add, pk_mul, nI_leI, nI_ltI, nI_eq, mcA hM, wfA hW, s166 hM hW, e, s132 hM hW hn hm, brI]
theorem l215 (hM : MC I A) (hW : WFs A) {m hours hour c h mask : Nat} {mf : Nat → Nat → Nat → Nat} (hB : BH I A m hours mf (hour + 1)) (hm : m < 64) (hc : c < 64) (hh : h < 8) (ho : hour < hours) (ho2 : hours ≤ 24) (hk : mask < 8) (hn : 6 < n) {rec7 : _} {K7 : _} {rec11 : _} {K11 : _} {rec16 : _} {K16 : _} {K41 : Nat → Int32 → Int32 → Int32 → Int32 → Int32 → Int32 → Int32 → Wd → Option Wd} {fr : Int32} :
    f215_H76 n rec7 K7 rec11 K11 rec16 K16 K41 n 67 (nI m) (nI hours) fr (nI hour) (nI c) (nI h) (nI mask) (nI 0) (nI 0) (nI 0) (mW I L ru) = K41 67 (nI m) (nI hours) fr (nI hour) (nI c) (nI h) (c3S mask (brI A m hours hour (bvI A m hours mf (hours - (hour + 1))) c h) 3).1 (mW I L ru) := by
  refine lpE (F := fun k i (s : Int32 × Nat) => f215_H76 n rec7 K7 rec11 K11 rec16 K16 K41 k 67 (nI m) (nI hours) fr (nI hour) (nI c) (nI h) (nI mask) s.1 (nI s.2) (nI i) (mW I L ru)) (J := c3S mask (brI A m hours hour (bvI A m hours mf (hours - (hour + 1))) c h)) 3 ?_ ?_ n 0 (by omega) (by omega)
  · intro k
    simp (config := { maxSteps := 2000000 }) (disch := omega) only [f215_H76, ux_at, ux_kk, ux_jo, gIm, pIm, pZm, gRm, aIm, sIm, aBm, sBm, gLm, pLm, clm, wshS, obS, reduceIte, Nat.one_ne_zero, Nat.zero_ne_one, Nat.reduceEqDiff, not_true_eq_false, not_false_eq_true, Nat.le_refl, ng_le, ng_lt, ng_nle, ng_nlt, ng_eq, ng_eq2, Bool.false_eq_true, lit_nI, nI_add, pk_mul, nI_leI, nI_ltI, nI_eq]
  · intro k i hi
    have hi2 : ¬ 3 ≤ i := by omega
    have h3 := toN_lt i
    have ha := c3S_any mask (brI A m hours hour (bvI A m hours mf (hours - (hour + 1))) c h) i
    have hs := fun k hk => s196 (L := L) (ru := ru) (k := k) hM hW hB hm hc hh (show hour < 24 by omega) hk hn
    have e1 : c3S mask (brI A m hours hour (bvI A m hours mf (hours - (hour + 1))) c h) (i + 1) = if mask.testBit (toN i) then (if (c3S mask (brI A m hours hour (bvI A m hours mf (hours - (hour + 1))) c h) i).2 = 0 then brI A m hours hour (bvI A m hours mf (hours - (hour + 1))) c h (toN i) else if brI A m hours hour (bvI A m hours mf (hours - (hour + 1))) c h (toN i) ≤ (c3S mask (brI A m hours hour (bvI A m hours mf (hours - (hour + 1))) c h) i).1 then (c3S mask (brI A m hours hour (bvI A m hours mf (hours - (hour + 1))) c h) i).1 else brI A m hours hour (bvI A m hours mf (hours - (hour + 1))) c h (toN i), 1) else c3S mask (brI A m hours hour (bvI A m hours mf (hours - (hour + 1))) c h) i := rfl
    rw [e1]
    generalize c3S mask (brI A m hours hour (bvI A m hours mf (hours - (hour + 1))) c h) i = s at *
    obtain ⟨b, a⟩ := s
    have ha : a ≤ 1 := ha
    by_cases hb : mask.testBit (toN i)
    · rcases one_or ha with rfl | rfl
      · simp (config := { maxSteps := 2000000 }) (disch := omega) only [f215_H76, f215_J135, ux_at, ux_kk, ux_jo, gIm, pIm, pZm, gRm, aIm, sIm, aBm, sBm, gLm, pLm, clm, wshS, obS, reduceIte, Nat.one_ne_zero, Nat.zero_ne_one, Nat.reduceEqDiff, not_true_eq_false, not_false_eq_true, Nat.le_refl, ng_le, ng_lt, ng_nle, ng_nlt, ng_eq, ng_eq2, Bool.false_eq_true, lit_nI, nI_add, pk_mul, nI_leI, nI_ltI, nI_eq, hi2, s52, tI_p1, s45, bN, hb, hs]
      · by_cases hv : brI A m hours hour (bvI A m hours mf (hours - (hour + 1))) c h (toN i) ≤ b
        · simp (config := { maxSteps := 2000000 }) (disch := omega) only [f215_H76, f215_J135, ux_at, ux_kk, ux_jo, gIm, pIm, pZm, gRm, aIm, sIm, aBm, sBm, gLm, pLm, clm, wshS, obS, reduceIte, Nat.one_ne_zero, Nat.zero_ne_one, Nat.reduceEqDiff, not_true_eq_false, not_false_eq_true, Nat.le_refl, ng_le, ng_lt, ng_nle, ng_nlt, ng_eq, ng_eq2, Bool.false_eq_true, lit_nI, nI_add, pk_mul, nI_leI, nI_ltI, nI_eq, hi2, s52, tI_p1, s45, bN, hb, hs, hv]
        · simp (config := { maxSteps := 2000000 }) (disch := omega) only [f215_H76, f215_J135, ux_at, ux_kk, ux_jo, gIm, pIm, pZm, gRm, aIm, sIm, aBm, sBm, gLm, pLm, clm, wshS, obS, reduceIte, Nat.one_ne_zero, Nat.zero_ne_one, Nat.reduceEqDiff, not_true_eq_false, not_false_eq_true, Nat.le_refl, ng_le, ng_lt, ng_nle, ng_nlt, ng_eq, ng_eq2, Bool.false_eq_true, lit_nI, nI_add, pk_mul, nI_leI, nI_ltI, nI_eq, hi2, s52, tI_p1, s45, bN, hb, hs, hv]
    · simp (config := { maxSteps := 2000000 }) (disch := omega) only [f215_H76, f215_J135, ux_at, ux_kk, ux_jo, gIm, pIm, pZm, gRm, aIm, sIm, aBm, sBm, gLm, pLm, clm, wshS, obS, reduceIte, Nat.one_ne_zero, Nat.zero_ne_one, Nat.reduceEqDiff, not_true_eq_false, not_false_eq_true, Nat.le_refl, ng_le, ng_lt, ng_nle, ng_nlt, ng_eq, ng_eq2, Bool.false_eq_true, lit_nI, nI_add, pk_mul, nI_leI, nI_ltI, nI_eq, hi2, s52, tI_p1, s45, bN, hb]
/-- how the turns that can be are found -/
def HMay (I0 A : St) (L : Lt) (ru n m : Nat) (fr : Nat) (hours : Nat) (mf : Nat → Nat → Nat → Nat) : Prop :=
  (fr = 1 ∧ ∀ hour c h, mf hour c h = 7) ∨ (fr = 0 ∧ ∀ J, Fr [83, 85, 91] [45, 46, 47] I0 J → ∀ hour c h, hour < hours → c < 64 → h < 8 → rkN A c = 0 → mf hour c h < 8 ∧ ∃ J', f205 n 67 (nI m) (nI c) (nI h) (nI hour) (mW J L ru) = some (nI (mf hour c h), mW J' L ru) ∧ Fr [83, 85] [45, 46, 47] J J')
/-- the table of an hour below u -/
def DB (J A : St) (m hours : Nat) (mf : Nat → Nat → Nat → Nat) (hour u : Nat) : Prop := (∀ c h, c < 64 → h < 8 → rkN A c = 0 → 8 * c + h < u → J 91 (512 * hour + 8 * c + h) = bvI A m hours mf (hours - hour) c h) ∧ ∀ o, hour < o → o ≤ hours → BH J A m hours mf o
theorem DB.fr {J J' A : St} {m hours hour u : Nat} {mf : Nat → Nat → Nat → Nat} (h : DB J A m hours mf hour u) {K F : List Nat} (f : Fr K F J J') (hK : 91 ∉ K) : DB J' A m hours mf hour u := ⟨fun c hd a b d e => (congrFun (f.at hK (by decide)) _).trans (h.1 c hd a b d e), fun o a b => (h.2 o a b).fr f hK⟩
theorem DB.put {J A : St} {m hours hour c h : Nat} {mf : Nat → Nat → Nat → Nat} (hD : DB J A m hours mf hour (8 * c + h)) (hc : c < 64) (hh : h < 8) {v : Int32} (hv : v = bvI A m hours mf (hours - hour) c h) : DB (u2 J 91 (512 * hour + 8 * c + h) v) A m hours mf hour (8 * c + (h + 1)) := by
  refine ⟨fun c' h' a b d e => ?_, fun o a b c' h' a' b' d' => ?_⟩
  · rw [ux_if]
    by_cases q : 512 * hour + 8 * c' + h' = 512 * hour + 8 * c + h
    · have q1 : c' = c := by omega
      have q2 : h' = h := by omega
      rw [if_pos q, q1, q2, hv]
    · rw [if_neg q]
      exact hD.1 c' h' a b d (by omega)
  · rw [ux_if, if_neg (by omega)]
    exact hD.2 o a b c' h' a' b' d'
theorem l215h {I0 : St} (hM : MC I A) (hW : WFs A) {m hours hour c fr : Nat} {mf : Nat → Nat → Nat → Nat} (hF : Fr [83, 85, 91] [45, 46, 47] I0 I) (hM2 : HMay I0 A L ru n m fr hours mf) (hD : DB I A m hours mf hour (8 * c)) (hm : m < 64) (hc : c < 64) (ho : hour < hours) (ho2 : hours ≤ 24) (hn : 100 < n) {rec7 : _} {K7 : _} {rec11 : _} {K11 : _} {K16 : Nat → Int32 → Int32 → Int32 → Int32 → Int32 → Wd → Option Wd} {P : Option Wd → Prop}
    (hK : ∀ J, Fr [83, 85, 91] [45, 46, 47] I J → DB J A m hours mf hour (8 * c + 8) → P (K16 67 (nI m) (nI hours) (nI fr) (nI hour) (nI c) (mW J L ru))) : P (f215_H28 n rec7 K7 rec11 K11 K16 n 67 (nI m) (nI hours) (nI fr) (nI hour) (nI c) (nI 0) (mW I L ru)) := by
  rcases one_or (rk_le hW hc) with hr | hr
  · refine lpP (F := fun k h J => f215_H28 n rec7 K7 rec11 K11 K16 k 67 (nI m) (nI hours) (nI fr) (nI hour) (nI c) (nI h) (mW J L ru)) (P := P) (J := fun h J => Fr [83, 85, 91] [45, 46, 47] I J ∧ DB J A m hours mf hour (8 * c + h)) 8 ?_ ?_ n 0 I (by omega) (by omega) ⟨Fr.rf, hD⟩
    · intro k J hJ
      simp (config := { maxSteps := 2000000 }) (disch := omega) only [f215_H28, ux_at, ux_kk, ux_jo, gIm, pIm, pZm, gRm, aIm, sIm, aBm, sBm, gLm, pLm, clm, wshS, obS, reduceIte, Nat.one_ne_zero, Nat.zero_ne_one, Nat.reduceEqDiff, not_true_eq_false, not_false_eq_true, Nat.le_refl, ng_le, ng_lt, ng_nle, ng_nlt, ng_eq, ng_eq2, Bool.false_eq_true, lit_nI, nI_add, pk_mul, nI_leI, nI_ltI, nI_eq]
      exact hK J hJ.1 hJ.2
    · intro k h J hh hJ ih
      have hh2 : ¬ 8 ≤ h := by omega
      have hMJ := hM.fr hJ.1 (by decide) (by decide) (by decide)
      rcases hM2 with ⟨rfl, h7⟩ | ⟨rfl, hmf⟩
      · have hx := fun {rec7 : _} {K7 : _} {rec11 : _} {K11 : _} {rec16 : _} {K16 : _} {K41 : _} {fr : Int32} => l215 (I := J) (L := L) (ru := ru) (n := n) (rec7 := rec7) (K7 := K7) (rec11 := rec11) (K11 := K11) (rec16 := rec16) (K16 := K16) (K41 := K41) (fr := fr) (mask := 7) hMJ hW (hJ.2.2 (hour + 1) (by omega) (by omega)) hm hc hh ho ho2 (by decide) (by omega)
        simp (config := { maxSteps := 2000000 }) (disch := omega) only [f215_H28, f215_J65, ux_at, ux_kk, ux_jo, gIm, pIm, pZm, gRm, aIm, sIm, aBm, sBm, gLm, pLm, clm, wshS, obS, reduceIte, Nat.one_ne_zero, Nat.zero_ne_one, Nat.reduceEqDiff, not_true_eq_false, not_false_eq_true, Nat.le_refl, ng_le, ng_lt, ng_nle, ng_nlt, ng_eq, ng_eq2, Bool.false_eq_true, lit_nI, nI_add, pk_mul, nI_leI, nI_ltI, nI_eq, hh2, mcA hMJ, wfA hW, hr, hx]
        refine ih _ ⟨hJ.1.u (by decide), hJ.2.put hc hh ?_⟩
        rw [bvI_s ho, h7]
      · obtain ⟨hk, J1, e1, f1⟩ := hmf J (hF.tr hJ.1) hour c h ho hc hh hr
        have hMJ1 := hMJ.fr f1 (by decide) (by decide) (by decide)
        have hD1 := hJ.2.fr f1 (by decide)
        have hx := fun {rec7 : _} {K7 : _} {rec11 : _} {K11 : _} {rec16 : _} {K16 : _} {K41 : _} {fr : Int32} => l215 (I := J1) (L := L) (ru := ru) (n := n) (rec7 := rec7) (K7 := K7) (rec11 := rec11) (K11 := K11) (rec16 := rec16) (K16 := K16) (K41 := K41) (fr := fr) (mask := mf hour c h) hMJ1 hW (hD1.2 (hour + 1) (by omega) (by omega)) hm hc hh ho ho2 hk (by omega)
        simp (config := { maxSteps := 2000000 }) (disch := omega) only [f215_H28, f215_J65, ux_at, ux_kk, ux_jo, gIm, pIm, pZm, gRm, aIm, sIm, aBm, sBm, gLm, pLm, clm, wshS, obS, reduceIte, Nat.one_ne_zero, Nat.zero_ne_one, Nat.reduceEqDiff, not_true_eq_false, not_false_eq_true, Nat.le_refl, ng_le, ng_lt, ng_nle, ng_nlt, ng_eq, ng_eq2, Bool.false_eq_true, lit_nI, nI_add, pk_mul, nI_leI, nI_ltI, nI_eq, hh2, mcA hMJ, wfA hW, hr, e1, hx]
        refine ih _ ⟨(hJ.1.tr (f1.mono (by decide) (by decide))).u (by decide), hD1.put hc hh ?_⟩
        rw [bvI_s ho]
  · obtain ⟨k, hk⟩ : ∃ k, n = k + 1 := ⟨n - 1, by omega⟩
    have e : ∀ k, f215_H28 n rec7 K7 rec11 K11 K16 (k + 1) 67 (nI m) (nI hours) (nI fr) (nI hour) (nI c) (nI 0) (mW I L ru) = K16 67 (nI m) (nI hours) (nI fr) (nI hour) (nI c) (mW I L ru) := fun k => by
      have h80 : ¬ 8 ≤ 0 := by decide
      simp (config := { maxSteps := 2000000 }) (disch := omega) only [f215_H28, ux_at, ux_kk, ux_jo, gIm, pIm, pZm, gRm, aIm, sIm, aBm, sBm, gLm, pLm, clm, wshS, obS, reduceIte, Nat.one_ne_zero, Nat.zero_ne_one, Nat.reduceEqDiff, not_true_eq_false, not_false_eq_true, Nat.le_refl, ng_le, ng_lt, ng_nle, ng_nlt, ng_eq, ng_eq2, Bool.false_eq_true, lit_nI, nI_add, pk_mul, nI_leI, nI_ltI, nI_eq, mcA hM, wfA hW, hr, h80]
    have e2 : ∀ k, k = n → P (f215_H28 n rec7 K7 rec11 K11 K16 k 67 (nI m) (nI hours) (nI fr) (nI hour) (nI c) (nI 0) (mW I L ru)) := fun k q => by
      obtain ⟨k', rfl⟩ : ∃ k', k = k' + 1 := ⟨k - 1, by omega⟩
      rw [e]
      refine hK I Fr.rf ⟨fun c' h' a b d z => hD.1 c' h' a b d ?_, hD.2⟩
      have : ¬ c' = c := fun q => by rw [q, hr] at d; omega
      omega
    exact e2 n rfl
theorem l215c {I0 : St} (hM : MC I A) (hW : WFs A) {m hours hour fr : Nat} {mf : Nat → Nat → Nat → Nat} (hF : Fr [83, 85, 91] [45, 46, 47] I0 I) (hM2 : HMay I0 A L ru n m fr hours mf) (hD : ∀ o, hour < o → o ≤ hours → BH I A m hours mf o) (hm : m < 64) (ho : hour < hours) (ho2 : hours ≤ 24) (hn : 100 < n) {rec7 : _} {K7 : _} {K11 : Nat → Int32 → Int32 → Int32 → Int32 → Wd → Option Wd} {P : Option Wd → Prop}
    (hK : ∀ J, Fr [83, 85, 91] [45, 46, 47] I J → (∀ o, hour ≤ o → o ≤ hours → BH J A m hours mf o) → P (K11 67 (nI m) (nI hours) (nI fr) (nI hour) (mW J L ru))) : P (f215_H18 n rec7 K7 K11 n 67 (nI m) (nI hours) (nI fr) (nI hour) (nI 0) (mW I L ru)) := by
  refine lpP (F := fun k c J => f215_H18 n rec7 K7 K11 k 67 (nI m) (nI hours) (nI fr) (nI hour) (nI c) (mW J L ru)) (P := P) (J := fun c J => Fr [83, 85, 91] [45, 46, 47] I J ∧ DB J A m hours mf hour (8 * c)) 64 ?_ ?_ n 0 I (by omega) (by omega) ⟨Fr.rf, fun c h _ _ _ z => absurd z (Nat.not_lt_zero _), hD⟩
  · intro k J hJ
    simp (config := { maxSteps := 2000000 }) (disch := omega) only [f215_H18, ux_at, ux_kk, ux_jo, gIm, pIm, pZm, gRm, aIm, sIm, aBm, sBm, gLm, pLm, clm, wshS, obS, reduceIte, Nat.one_ne_zero, Nat.zero_ne_one, Nat.reduceEqDiff, not_true_eq_false, not_false_eq_true, Nat.le_refl, ng_le, ng_lt, ng_nle, ng_nlt, ng_eq, ng_eq2, Bool.false_eq_true, lit_nI, nI_add, pk_mul, nI_leI, nI_ltI, nI_eq]
    refine hK J hJ.1 fun o a b => ?_
    by_cases q : o = hour
    · rw [q]
      exact fun c h x y z => hJ.2.1 c h x y z (by omega)
    · exact hJ.2.2 o (by omega) b
  · intro k c J hc hJ ih
    have hc2 : ¬ 64 ≤ c := by omega
    have hMJ := hM.fr hJ.1 (by decide) (by decide) (by decide)
    simp (config := { maxSteps := 2000000 }) (disch := omega) only [f215_H18, ux_at, ux_kk, ux_jo, gIm, pIm, pZm, gRm, aIm, sIm, aBm, sBm, gLm, pLm, clm, wshS, obS, reduceIte, Nat.one_ne_zero, Nat.zero_ne_one, Nat.reduceEqDiff, not_true_eq_false, not_false_eq_true, Nat.le_refl, ng_le, ng_lt, ng_nle, ng_nlt, ng_eq, ng_eq2, Bool.false_eq_true, lit_nI, nI_add, pk_mul, nI_leI, nI_ltI, nI_eq, hc2]
    refine l215h (P := P) hMJ hW (hF.tr hJ.1) hM2 hJ.2 hm hc ho ho2 hn fun J2 f2 d2 => ?_
    simp (config := { maxSteps := 2000000 }) (disch := omega) only [Nat.one_ne_zero, Nat.zero_ne_one, Nat.reduceEqDiff, not_true_eq_false, not_false_eq_true, Nat.le_refl, ng_le, ng_lt, ng_nle, ng_nlt, ng_eq, ng_eq2, Bool.false_eq_true, lit_nI, nI_add, pk_mul, nI_leI, nI_ltI, nI_eq]
    exact ih J2 ⟨hJ.1.tr f2, d2⟩
theorem s61 (hours : Nat) (ho : hours ≤ 24) (hn : 600 < n) : ∃ I', f61 n 67 (nI hours) (mW I L ru) = some (mW I' L ru) ∧ Fr [91] [] I I' ∧ ∀ k, k < 512 → I' 91 (512 * hours + k) = nI 0 := by
  refine lpP (F := fun k i J => f61_H2 n (fun w6 => some w6) k 67 (nI hours) (nI i) (mW J L ru)) (P := fun x => ∃ I', x = some (mW I' L ru) ∧ Fr [91] [] I I' ∧ ∀ k, k < 512 → I' 91 (512 * hours + k) = nI 0) (J := fun i J => Fr [91] [] I J ∧ ∀ k, k < i → J 91 (512 * hours + k) = nI 0) 512 ?_ ?_ n 0 I (by omega) (by omega) ⟨Fr.rf, fun k hk => absurd hk (Nat.not_lt_zero _)⟩
  · intro k J hJ
    simp (config := { maxSteps := 2000000 }) (disch := omega) only [f61_H2, ux_at, ux_kk, ux_jo, gIm, pIm, pZm, gRm, aIm, sIm, aBm, sBm, gLm, pLm, clm, wshS, obS, reduceIte, Nat.one_ne_zero, Nat.zero_ne_one, Nat.reduceEqDiff, not_true_eq_false, not_false_eq_true, Nat.le_refl, ng_le, ng_lt, ng_nle, ng_nlt, ng_eq, ng_eq2, Bool.false_eq_true, lit_nI, nI_add, pk_mul, nI_leI, nI_ltI, nI_eq]
    exact ⟨J, rfl, hJ⟩
  · intro k i J hi hJ ih
    have hi2 : ¬ 512 ≤ i := by omega
    simp (config := { maxSteps := 2000000 }) (disch := omega) only [f61_H2, ux_at, ux_kk, ux_jo, gIm, pIm, pZm, gRm, aIm, sIm, aBm, sBm, gLm, pLm, clm, wshS, obS, reduceIte, Nat.one_ne_zero, Nat.zero_ne_one, Nat.reduceEqDiff, not_true_eq_false, not_false_eq_true, Nat.le_refl, ng_le, ng_lt, ng_nle, ng_nlt, ng_eq, ng_eq2, Bool.false_eq_true, lit_nI, nI_add, pk_mul, nI_leI, nI_ltI, nI_eq, hi2]
    refine ih _ ⟨hJ.1.u (by decide), fun k hk => ?_⟩
    rw [ux_if]
    split
    · rfl
    · exact hJ.2 k (by omega)
theorem s215 (hM : MC I A) (hW : WFs A) {m hours fr : Nat} {mf : Nat → Nat → Nat → Nat} (hM2 : HMay I A L ru n m fr hours mf) (hm : m < 64) (ho1 : 1 ≤ hours) (ho2 : hours ≤ 24) (hn : 600 < n) :
    ∃ I', f215 n 67 (nI m) (nI hours) (nI fr) (mW I L ru) = some (mW I' L ru) ∧ Fr [83, 85, 91] [45, 46, 47] I I' ∧ ∀ o, o ≤ hours → BH I' A m hours mf o := by
  obtain ⟨I1, e1, f1, z1⟩ := s61 (I := I) (L := L) (ru := ru) (n := n) hours ho2 hn
  have hB : BH I1 A m hours mf hours := fun c h a b d => by
    rw [Nat.sub_self]
    have := z1 (8 * c + h) (by omega)
    rw [← Nat.add_assoc] at this
    exact this
  have f1' : Fr [83, 85, 91] [45, 46, 47] I I1 := f1.mono (by decide) (by decide)
  have hs : nI hours - nI 1 = nI (hours - 0) + -nI 1 := by rw [Nat.sub_zero, Int32.sub_eq_add_neg]
  simp (config := { maxSteps := 2000000 }) (disch := omega) only [f215, ux_at, ux_kk, ux_jo, gIm, pIm, pZm, gRm, aIm, sIm, aBm, sBm, gLm, pLm, clm, wshS, obS, reduceIte, lit_nI, e1, hs]
  refine lpP (F := fun k i J => f215_H10 n (fun w35 => some w35) k 67 (nI m) (nI hours) (nI fr) (nI (hours - i) + -nI 1) (mW J L ru)) (P := fun x => ∃ I', x = some (mW I' L ru) ∧ Fr [83, 85, 91] [45, 46, 47] I I' ∧ ∀ o, o ≤ hours → BH I' A m hours mf o) (J := fun i J => Fr [83, 85, 91] [45, 46, 47] I J ∧ ∀ o, hours - i ≤ o → o ≤ hours → BH J A m hours mf o) hours ?_ ?_ n 0 I1 (by omega) (by omega) ⟨f1', fun o a b => by rw [show o = hours by omega]; exact hB⟩
  · intro k J hJ
    have e0 : nI (hours - hours) + -nI 1 = -nI 1 := by rw [Nat.sub_self]; exact dn_0
    simp (config := { maxSteps := 2000000 }) (disch := omega) only [f215_H10, ux_at, ux_kk, ux_jo, gIm, pIm, pZm, gRm, aIm, sIm, aBm, sBm, gLm, pLm, clm, wshS, obS, reduceIte, Nat.one_ne_zero, Nat.zero_ne_one, Nat.reduceEqDiff, not_true_eq_false, not_false_eq_true, Nat.le_refl, ng_le, ng_lt, ng_nle, ng_nlt, ng_eq, ng_eq2, Bool.false_eq_true, lit_nI, nI_add, pk_mul, nI_leI, nI_ltI, nI_eq, e0]
    exact ⟨J, rfl, hJ.1, fun o b => hJ.2 o (by omega) b⟩
  · intro k i J hi hJ ih
    have hMJ := hM.fr hJ.1 (by decide) (by decide) (by decide)
    have hdn : nI (hours - i) + -nI 1 = nI (hours - i - 1) := dn_nI (by omega)
    have hdn2 : nI (hours - i - 1) + -nI 1 = nI (hours - (i + 1)) + -nI 1 := by rw [show hours - i - 1 = hours - (i + 1) by omega]
    simp (config := { maxSteps := 2000000 }) (disch := omega) only [f215_H10, ux_at, ux_kk, ux_jo, gIm, pIm, pZm, gRm, aIm, sIm, aBm, sBm, gLm, pLm, clm, wshS, obS, reduceIte, Nat.one_ne_zero, Nat.zero_ne_one, Nat.reduceEqDiff, not_true_eq_false, not_false_eq_true, Nat.le_refl, ng_le, ng_lt, ng_nle, ng_nlt, ng_eq, ng_eq2, Bool.false_eq_true, lit_nI, nI_add, pk_mul, nI_leI, nI_ltI, nI_eq, hdn, Nat.not_lt_zero]
    refine l215c (P := fun x => ∃ I', x = some (mW I' L ru) ∧ Fr [83, 85, 91] [45, 46, 47] I I' ∧ ∀ o, o ≤ hours → BH I' A m hours mf o) hMJ hW hJ.1 hM2 (fun o a b => hJ.2 o (by omega) b) hm (by omega) ho2 (by omega) fun J2 f2 d2 => ?_
    simp (config := { maxSteps := 2000000 }) (disch := omega) only [lit_nI, hdn2]
    exact ih J2 ⟨hJ.1.tr f2, fun o a b => d2 o (by omega) b⟩
end
