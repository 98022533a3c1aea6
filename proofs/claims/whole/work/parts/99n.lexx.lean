/-! TEXTS: words; the class's reading -/
/-- the value of a word's letters -/
def cdF (w : Nat → Nat) : Nat → Nat
  | 0 => 0
  | l + 1 => 27 * cdF w l + (w l - 96)
theorem cdF_lt {w : Nat → Nat} : ∀ l, (∀ i, i < l → 97 ≤ w i ∧ w i ≤ 122) → cdF w l < 27 ^ l
  | 0, _ => by show 0 < 1; decide
  | l + 1, h => by
    have ih := cdF_lt l fun i hi => h i (by omega)
    have h1 := h l (Nat.lt_succ_self _)
    show 27 * cdF w l + (w l - 96) < 27 ^ (l + 1)
    rw [Nat.pow_succ]
    omega
theorem word_eq {T : Nat → Nat} {b : Nat} {w : Nat → Nat} : ∀ l c, l ≤ 6 → (∀ i, i < l → 97 ≤ w i ∧ w i ≤ 122) → (∀ i, i < c → 97 ≤ T (b + i) ∧ T (b + i) ≤ 122) → (sdNw T b c = cdF w l ↔ c = l ∧ ∀ i, i < l → T (b + i) = w i)
  | 0, 0, _, _, _ => ⟨fun _ => ⟨rfl, fun i hi => absurd hi (Nat.not_lt_zero _)⟩, fun _ => rfl⟩
  | 0, c + 1, _, _, hT => by
    have h1 := hT c (Nat.lt_succ_self _)
    constructor
    · intro z
      exfalso
      have z : (if 1000000000000 < sdNw T b c then 2000000000000 else 27 * sdNw T b c + (T (b + c) - 96)) = 0 := z
      split at z <;> omega
    · intro z
      exact absurd z.1 (by omega)
  | l + 1, 0, _, hw, _ => by
    have h1 := hw l (Nat.lt_succ_self _)
    constructor
    · intro z
      exfalso
      have z : 0 = 27 * cdF w l + (w l - 96) := z
      omega
    · intro z
      exact absurd z.1 (by omega)
  | l + 1, c + 1, hl, hw, hT => by
    have ih := word_eq (T := T) (b := b) (w := w) l c (by omega) (fun i hi => hw i (by omega)) (fun i hi => hT i (by omega))
    have h1 := hw l (Nat.lt_succ_self _)
    have h2 := hT c (Nat.lt_succ_self _)
    have h3 := cdF_lt l fun i hi => hw i (by omega)
    have h4 : 27 ^ l ≤ 27 ^ 5 := Nat.pow_le_pow_right (by decide) (by omega)
    have e1 : sdNw T b (c + 1) = if 1000000000000 < sdNw T b c then 2000000000000 else 27 * sdNw T b c + (T (b + c) - 96) := rfl
    have e2 : cdF w (l + 1) = 27 * cdF w l + (w l - 96) := rfl
    rw [e1, e2]
    by_cases q : 1000000000000 < sdNw T b c
    · rw [if_pos q]
      constructor
      · intro z
        omega
      · intro z
        exfalso
        have := ih.mpr ⟨by omega, fun i hi => z.2 i (by omega)⟩
        omega
    · rw [if_neg q]
      constructor
      · intro z
        obtain ⟨a1, a2⟩ := ih.mp (by omega)
        refine ⟨by omega, fun i hi => ?_⟩
        by_cases e : i = l
        · rw [e, ← a1]
          have : w c = w l := by rw [a1]
          omega
        · exact a2 i (by omega)
      · intro z
        have a1 := ih.mpr ⟨by omega, fun i hi => z.2 i (by omega)⟩
        have a2 := z.2 l (Nat.lt_succ_self _)
        have a3 : c = l := by omega
        rw [a1, a3, a2]
/-- a word stands there -/
abbrev isW (T : Nat → Nat) (N b : Nat) (w : List Nat) : Prop := wdN T N b = b + w.length ∧ ∀ i, i < w.length → T (b + i) = w.getD i 0
def cW (w : List Nat) : Nat := cdF (fun i => w.getD i 0) w.length
def ltW (w : List Nat) : Prop := w.length ≤ 6 ∧ ∀ i, i < w.length → 97 ≤ w.getD i 0 ∧ w.getD i 0 ≤ 122
theorem m_isW {T : Nat → Nat} {N b S v : Nat} {w : List Nat} (hw : ltW w) (hS : S = sdNw T b (wdN T N b - b)) (hT : ∀ i, T i < 256) (hv : v = cW w) : (lg_cmp (lN S) (lN v) = nI 0) = isW T N b w := by
  have hge : b ≤ wdN T N b := rnE_ge _ _ _
  have h1 := sdNw_le T b (fun i => hT _) (wdN T N b - b)
  have h2 := cdF_lt (w := fun i => w.getD i 0) w.length hw.2
  have h3 : 27 ^ w.length ≤ 27 ^ 6 := Nat.pow_le_pow_right (by decide) hw.1
  have h4 : v < 27 ^ 6 := by
    rw [hv]
    unfold cW
    omega
  rw [lge (by omega) (by omega), hS, hv]
  refine propext ((word_eq (T := T) (b := b) (w := fun i => w.getD i 0) w.length (wdN T N b - b) hw.1 hw.2 fun i hi => ?_).trans ?_)
  · have := rnE_in (P := wdP T) (N := N) (a := b) (i := b + i) (by omega) (by
      show b + i < wdN T N b
      omega)
    rw [wdP_t] at this
    exact this
  · constructor
    · intro z
      exact ⟨by omega, z.2⟩
    · intro z
      exact ⟨by omega, z.2⟩
abbrev wShip : List Nat := [115, 104, 105, 112]
abbrev wRocks : List Nat := [114, 111, 99, 107, 115]
abbrev wDrift : List Nat := [100, 114, 105, 102, 116]
abbrev wLag : List Nat := [108, 97, 103]
abbrev wSort : List Nat := [115, 111, 114, 116]
abbrev wLikes : List Nat := [108, 105, 107, 101, 115]
abbrev wFears : List Nat := [102, 101, 97, 114, 115]
abbrev wMost : List Nat := [109, 111, 115, 116]
abbrev wMiddle : List Nat := [109, 105, 100, 100, 108, 101]
abbrev wMean : List Nat := [109, 101, 97, 110]
abbrev wTurns : List Nat := [116, 117, 114, 110, 115]
abbrev wNeed : List Nat := [110, 101, 101, 100]
abbrev wBar : List Nat := [98, 97, 114]
abbrev wUnless : List Nat := [117, 110, 108, 101, 115, 115]
abbrev wLeft : List Nat := [108, 101, 102, 116]
abbrev wRight : List Nat := [114, 105, 103, 104, 116]
theorem lt_ship : ltW wShip := by unfold ltW; decide
theorem lt_rocks : ltW wRocks := by unfold ltW; decide
theorem lt_drift : ltW wDrift := by unfold ltW; decide
theorem lt_lag : ltW wLag := by unfold ltW; decide
theorem lt_sort : ltW wSort := by unfold ltW; decide
theorem lt_likes : ltW wLikes := by unfold ltW; decide
theorem lt_fears : ltW wFears := by unfold ltW; decide
theorem lt_most : ltW wMost := by unfold ltW; decide
theorem lt_middle : ltW wMiddle := by unfold ltW; decide
theorem lt_mean : ltW wMean := by unfold ltW; decide
theorem lt_turns : ltW wTurns := by unfold ltW; decide
theorem lt_need : ltW wNeed := by unfold ltW; decide
theorem lt_bar : ltW wBar := by unfold ltW; decide
theorem lt_unless : ltW wUnless := by unfold ltW; decide
theorem lt_left : ltW wLeft := by unfold ltW; decide
theorem lt_right : ltW wRight := by unfold ltW; decide
/-- a String constant of the class -/
def WD (u : UInt32) (wl : List Nat) : Prop := (16 ≤ u.toNat ∧ u.toNat < 32) ∧ wl.length ≤ 6 ∧ (∀ w, f74 u w = some (nI wl.length, w)) ∧ ∀ i, i < wl.length → ∀ w, f175 u (nI i) w = some (nI (wl.getD i 0), w)
theorem toC_128 : ∀ c, c < 128 → toC (nI c &&& nI 255) = nI c ∧ (nI c).toUInt32.toUInt16.toUInt32.toInt32 = nI c := by decide +kernel
theorem WD_of {u : UInt32} {wl : List Nat} (h1 : 16 ≤ u.toNat ∧ u.toNat < 32) (h2 : slen (u + 48) = some (nI wl.length)) (h3 : ∀ i, i < wl.length → tldB stx (u + 48) (nI i) = some (nI (wl.getD i 0)) ∧ wl.getD i 0 < 128) (h4 : wl.length ≤ 6) : WD u wl := by
  have e0 : nI wl.length >>> (nI 0 &&& nI 31) = nI wl.length := by
    have := pk_shrN (n := wl.length) (by omega) (nI 0 &&& nI 31) 0 (by decide +kernel)
    rw [Nat.pow_zero, Nat.div_one] at this
    exact this
  refine ⟨h1, h4, fun w => ?_, fun i hi w => ?_⟩
  · simp only [f74, f5, h1, h2, obS, and_self, reduceIte, lit_nI, e0]
  · obtain ⟨a1, a2⟩ := h3 i hi
    obtain ⟨c1, c2⟩ := toC_128 _ a2
    have n0 : ¬ nI i < nI 0 := nI_pos (by omega)
    have n1 : nI i < nI wl.length := nI_lt hi (by omega)
    have n2 : ¬ nI 1 = nI 0 := by decide +kernel
    simp only [f175, f6, f139, f75, f7, h1, h2, obS, and_self, reduceIte, lit_nI, n0, n1, n2, a1, c1, c2]
theorem wd_ship : WD 16 wShip := WD_of (by decide) (by decide +kernel) (by decide +kernel) (by decide)
theorem wd_rocks : WD 17 wRocks := WD_of (by decide) (by decide +kernel) (by decide +kernel) (by decide)
theorem wd_drift : WD 18 wDrift := WD_of (by decide) (by decide +kernel) (by decide +kernel) (by decide)
theorem wd_lag : WD 19 wLag := WD_of (by decide) (by decide +kernel) (by decide +kernel) (by decide)
theorem wd_sort : WD 20 wSort := WD_of (by decide) (by decide +kernel) (by decide +kernel) (by decide)
theorem wd_likes : WD 21 wLikes := WD_of (by decide) (by decide +kernel) (by decide +kernel) (by decide)
theorem wd_fears : WD 22 wFears := WD_of (by decide) (by decide +kernel) (by decide +kernel) (by decide)
theorem wd_most : WD 23 wMost := WD_of (by decide) (by decide +kernel) (by decide +kernel) (by decide)
theorem wd_middle : WD 24 wMiddle := WD_of (by decide) (by decide +kernel) (by decide +kernel) (by decide)
theorem wd_mean : WD 25 wMean := WD_of (by decide) (by decide +kernel) (by decide +kernel) (by decide)
theorem wd_turns : WD 26 wTurns := WD_of (by decide) (by decide +kernel) (by decide +kernel) (by decide)
theorem wd_need : WD 27 wNeed := WD_of (by decide) (by decide +kernel) (by decide +kernel) (by decide)
theorem wd_bar : WD 28 wBar := WD_of (by decide) (by decide +kernel) (by decide +kernel) (by decide)
theorem wd_unless : WD 29 wUnless := WD_of (by decide) (by decide +kernel) (by decide +kernel) (by decide)
theorem wd_left : WD 30 wLeft := WD_of (by decide) (by decide +kernel) (by decide +kernel) (by decide)
theorem wd_right : WD 31 wRight := WD_of (by decide) (by decide +kernel) (by decide +kernel) (by decide)
/-! the class's text -/
def XT (I : St) (T : Nat → Nat) (N : Nat) : Prop := I 1 1 = nI N ∧ N ≤ 300 ∧ ∀ i, i < N → T i < 256 ∧ I 2 i = toB (nI (T i))
/-- only the reading's place and fault have changed -/
def TF (I I' : St) : Prop := Fr [1] [] I I' ∧ I' 1 0 = I 1 0 ∧ I' 1 1 = I 1 1
theorem TF.rf {I : St} : TF I I := ⟨Fr.rf, rfl, rfl⟩
theorem TF.tr {I I' I'' : St} (h : TF I I') (h2 : TF I' I'') : TF I I'' := ⟨h.1.tr h2.1, h2.2.1.trans h.2.1, h2.2.2.trans h.2.2⟩
theorem TF.u {I I' : St} (h : TF I I') {j : Nat} {v : Int32} (h0 : j ≠ 0) (h1 : j ≠ 1) : TF I (u2 I' 1 j v) := ⟨h.1.u (by decide), (ux_j h0.symm).trans h.2.1, (ux_j h1.symm).trans h.2.2⟩
theorem XT.tf {I I' : St} {T : Nat → Nat} {N : Nat} (h : XT I T N) (f : TF I I') : XT I' T N := by
  unfold XT
  rw [f.2.2, f.1.at (by decide) (by decide)]
  exact h
theorem XT.fr {I I' : St} {T : Nat → Nat} {N : Nat} (h : XT I T N) {K F : List Nat} (f : Fr K F I I') (h1 : 1 ∉ K) (h2 : 2 ∉ K) : XT I' T N := by
  unfold XT
  rw [f.at h1 (by decide), f.at h2 (by decide)]
  exact h
/-- where the reading is, its fault -/
def TS (I : St) (a : Nat) (na : Int32) (f : Nat) (fa : Int32) : Prop := I 1 2 = nI a ∧ I 1 3 = na ∧ I 1 4 = nI f ∧ I 1 5 = fa
theorem TS.fr {I I' : St} {a f : Nat} {na fa : Int32} (h : TS I a na f fa) {K F : List Nat} (g : Fr K F I I') (h1 : 1 ∉ K) : TS I' a na f fa := by
  unfold TS
  rw [g.at h1 (by decide)]
  exact h
theorem toB_and : ∀ b, b < 256 → toB (nI b) &&& nI 255 = nI b := by decide +kernel
theorem s0g (x a b : Int32) (w : Wd) : f0 x a b w = some (if x < a then nI 1 else if b < x then nI 1 else nI 0, w) := by
  unfold f0
  by_cases h1 : x < a
  · rw [if_pos h1, if_pos h1]; rfl
  · rw [if_neg h1, if_neg h1]
    by_cases h2 : b < x
    · have h3 : ¬ x ≤ b := by rw [Int32.not_le]; exact h2
      rw [if_neg h3, if_pos h2]; rfl
    · have h3 : x ≤ b := by rw [← Int32.not_lt]; exact h2
      rw [if_pos h3, if_neg h2]; rfl
section
variable {I A : St} {L : Lt} {ru n : Nat} {T : Nat → Nat} {N : Nat}
theorem x_byteAt (hT : XT I T N) {a : Nat} (ha : a < 2 ^ 30) : f4 1 (nI a) (mW I L ru) = some (btI T N a, mW I L ru) := by
  obtain ⟨t1, t2, t3⟩ := hT
  unfold btI
  by_cases q : a < N
  · obtain ⟨b1, b2⟩ := t3 a q
    have e1 := len_of (I := I) (L := L) (ru := ru) sh_2 (by decide)
    have q2 : ¬ N ≤ a := by omega
    have q3 : ¬ 300 ≤ a := by omega
    have q4 := toB_and _ b1
    simp (config := { maxSteps := 2000000 }) (disch := omega) only [f4, ux_at, ux_kk, ux_jo, gIx, pIx, pZx, gRx, aIx, sIx, aBx, sBx, lenx, clx, wshS, obS, reduceIte, Nat.one_ne_zero, Nat.zero_ne_one, Nat.reduceEqDiff, not_true_eq_false, not_false_eq_true, Nat.le_refl, ng_le, ng_lt, ng_nle, ng_nlt, ng_eq, ng_eq2, Bool.false_eq_true, lit_nI, nI_add, pk_mul, nI_leI, nI_ltI, nI_eq, t1, e1, Nat.not_lt_zero, q, q2, q3, b2, q4]
  · have q2 : N ≤ a := by omega
    simp (config := { maxSteps := 2000000 }) (disch := omega) only [f4, ux_at, ux_kk, ux_jo, gIx, pIx, pZx, gRx, aIx, sIx, aBx, sBx, lenx, clx, wshS, obS, reduceIte, Nat.one_ne_zero, Nat.zero_ne_one, Nat.reduceEqDiff, not_true_eq_false, not_false_eq_true, Nat.le_refl, ng_le, ng_lt, ng_nle, ng_nlt, ng_eq, ng_eq2, Bool.false_eq_true, lit_nI, nI_add, pk_mul, nI_leI, nI_ltI, nI_eq, t1, Nat.not_lt_zero, q, q2]
theorem btI_ge {a : Nat} (h : N ≤ a) : btI T N a = -nI 1 := if_neg (by omega)
theorem btI_lt {a : Nat} (h : a < N) : btI T N a = nI (T a) := if_pos h
theorem x_skip (hT : XT I T N) {a f : Nat} {na fa : Int32} (ha : a ≤ N) (hS : TS I a na f fa) (hn : 500 < n) : ∃ I', f73 n 1 (mW I L ru) = some (mW I' L ru) ∧ TF I I' ∧ TS I' (skN T N a) na f fa := by
  obtain ⟨s1, s2, s3, s4⟩ := hS
  have t2 := hT.2.1
  refine lpP (F := fun k i J => f73_H0 n (fun w => some w) k 1 (mW J L ru)) (P := fun y => ∃ I', y = some (mW I' L ru) ∧ TF I I' ∧ TS I' (skN T N a) na f fa) (J := fun i J => TF I J ∧ TS J i na f fa ∧ skN T N a = skN T N i) N ?_ ?_ n a I ha (by omega) ⟨TF.rf, ⟨s1, s2, s3, s4⟩, rfl⟩
  · rintro k J ⟨j1, j2, j3⟩
    have e : skN T N N = N := rnE_stop fun z => absurd z (Nat.lt_irrefl _)
    have l1 := (hT.tf j1).1
    rw [j3, e]
    simp (config := { maxSteps := 2000000 }) (disch := omega) only [f73_H0, ux_at, ux_kk, ux_jo, gIx, pIx, pZx, gRx, aIx, sIx, aBx, sBx, lenx, clx, wshS, obS, reduceIte, Nat.one_ne_zero, Nat.zero_ne_one, Nat.reduceEqDiff, not_true_eq_false, not_false_eq_true, Nat.le_refl, ng_le, ng_lt, ng_nle, ng_nlt, ng_eq, ng_eq2, Bool.false_eq_true, lit_nI, nI_add, pk_mul, nI_leI, nI_ltI, nI_eq, j2.1, l1]
    exact ⟨J, rfl, j1, j2⟩
  · rintro k i J hi ⟨j1, j2, j3⟩ ih
    have hTJ := hT.tf j1
    have l1 := hTJ.1
    have hi2 : ¬ N ≤ i := by omega
    have b1 := x_byteAt (L := L) (ru := ru) (a := i) hTJ (by omega)
    rw [btI_lt hi] at b1
    have b2 := (hT.2.2 i hi).1
    by_cases q : T i = 32
    · have e : skN T N i = skN T N (i + 1) := rnE_step hi (by rw [skP_t]; exact q)
      simp (config := { maxSteps := 2000000 }) (disch := omega) only [f73_H0, ux_at, ux_kk, ux_jo, gIx, pIx, pZx, gRx, aIx, sIx, aBx, sBx, lenx, clx, wshS, obS, reduceIte, Nat.one_ne_zero, Nat.zero_ne_one, Nat.reduceEqDiff, not_true_eq_false, not_false_eq_true, Nat.le_refl, ng_le, ng_lt, ng_nle, ng_nlt, ng_eq, ng_eq2, Bool.false_eq_true, lit_nI, nI_add, pk_mul, nI_leI, nI_ltI, nI_eq, j2.1, l1, hi2, b1, q]
      exact ih _ ⟨j1.u (by decide) (by decide), ⟨ux_at, (ux_j (by decide)).trans j2.2.1, (ux_j (by decide)).trans j2.2.2.1, (ux_j (by decide)).trans j2.2.2.2⟩, j3.trans e⟩
    · have e : skN T N i = i := rnE_stop fun _ => bf (by rw [skP_t]; exact q)
      rw [j3, e]
      simp (config := { maxSteps := 2000000 }) (disch := omega) only [f73_H0, ux_at, ux_kk, ux_jo, gIx, pIx, pZx, gRx, aIx, sIx, aBx, sBx, lenx, clx, wshS, obS, reduceIte, Nat.one_ne_zero, Nat.zero_ne_one, Nat.reduceEqDiff, not_true_eq_false, not_false_eq_true, Nat.le_refl, ng_le, ng_lt, ng_nle, ng_nlt, ng_eq, ng_eq2, Bool.false_eq_true, lit_nI, nI_add, pk_mul, nI_leI, nI_ltI, nI_eq, j2.1, l1, hi2, b1, q]
      exact ⟨J, rfl, j1, j2⟩
theorem x_ended (hT : XT I T N) {a f : Nat} {na fa : Int32} (ha : a ≤ N) (hS : TS I a na f fa) (hn : 500 < n) : ∃ I', f138 n 1 (mW I L ru) = some (if skN T N a < N then nI 0 else nI 1, mW I' L ru) ∧ TF I I' ∧ TS I' (skN T N a) na f fa := by
  obtain ⟨I', e1, f1, s1⟩ := x_skip (L := L) (ru := ru) (n := n) hT ha hS hn
  have l1 := (hT.tf f1).1
  have h1 := skN_le (T := T) ha
  have t2 := hT.2.1
  refine ⟨I', ?_, f1, s1⟩
  by_cases q : skN T N a < N
  · simp (config := { maxSteps := 2000000 }) (disch := omega) only [f138, ux_at, ux_kk, ux_jo, gIx, pIx, pZx, gRx, aIx, sIx, aBx, sBx, lenx, clx, wshS, obS, reduceIte, Nat.one_ne_zero, Nat.zero_ne_one, Nat.reduceEqDiff, not_true_eq_false, not_false_eq_true, Nat.le_refl, ng_le, ng_lt, ng_nle, ng_nlt, ng_eq, ng_eq2, Bool.false_eq_true, lit_nI, nI_add, pk_mul, nI_leI, nI_ltI, nI_eq, e1, s1.1, l1, q]
  · simp (config := { maxSteps := 2000000 }) (disch := omega) only [f138, ux_at, ux_kk, ux_jo, gIx, pIx, pZx, gRx, aIx, sIx, aBx, sBx, lenx, clx, wshS, obS, reduceIte, Nat.one_ne_zero, Nat.zero_ne_one, Nat.reduceEqDiff, not_true_eq_false, not_false_eq_true, Nat.le_refl, ng_le, ng_lt, ng_nle, ng_nlt, ng_eq, ng_eq2, Bool.false_eq_true, lit_nI, nI_add, pk_mul, nI_leI, nI_ltI, nI_eq, e1, s1.1, l1, q]
theorem x_takesC (hT : XT I T N) {a c : Nat} {na fa : Int32} (ha : a ≤ N) (hS : TS I a na 0 fa) (hc : c < 256) (hn : 500 < n) : ∃ I', f141 n 1 (nI c) (mW I L ru) = some (if skN T N a < N ∧ T (skN T N a) = c then nI 1 else nI 0, mW I' L ru) ∧ TF I I' ∧ TS I' (if skN T N a < N ∧ T (skN T N a) = c then skN T N a + 1 else skN T N a) na 0 fa := by
  obtain ⟨I', e1, f1, s1⟩ := x_skip (L := L) (ru := ru) (n := n) hT ha hS hn
  have h1 := skN_le (T := T) ha
  have t2 := hT.2.1
  have b1 := x_byteAt (L := L) (ru := ru) (a := skN T N a) (hT.tf f1) (by omega)
  by_cases q : skN T N a < N
  · have b2 := (hT.2.2 _ q).1
    rw [btI_lt q] at b1
    by_cases q2 : T (skN T N a) = c
    · rw [if_pos ⟨q, q2⟩, if_pos ⟨q, q2⟩]
      refine ⟨u2 I' 1 2 (nI (skN T N a + 1)), ?_, f1.u (by decide) (by decide), ⟨ux_at, (ux_j (by decide)).trans s1.2.1, (ux_j (by decide)).trans s1.2.2.1, (ux_j (by decide)).trans s1.2.2.2⟩⟩
      simp (config := { maxSteps := 2000000 }) (disch := omega) only [f141, ux_at, ux_kk, ux_jo, gIx, pIx, pZx, gRx, aIx, sIx, aBx, sBx, lenx, clx, wshS, obS, reduceIte, Nat.one_ne_zero, Nat.zero_ne_one, Nat.reduceEqDiff, not_true_eq_false, not_false_eq_true, Nat.le_refl, ng_le, ng_lt, ng_nle, ng_nlt, ng_eq, ng_eq2, Bool.false_eq_true, lit_nI, nI_add, pk_mul, nI_leI, nI_ltI, nI_eq, e1, s1.1, s1.2.2.1, b1, q2]
    · rw [if_neg (fun z => q2 z.2), if_neg (fun z => q2 z.2)]
      refine ⟨I', ?_, f1, s1⟩
      simp (config := { maxSteps := 2000000 }) (disch := omega) only [f141, ux_at, ux_kk, ux_jo, gIx, pIx, pZx, gRx, aIx, sIx, aBx, sBx, lenx, clx, wshS, obS, reduceIte, Nat.one_ne_zero, Nat.zero_ne_one, Nat.reduceEqDiff, not_true_eq_false, not_false_eq_true, Nat.le_refl, ng_le, ng_lt, ng_nle, ng_nlt, ng_eq, ng_eq2, Bool.false_eq_true, lit_nI, nI_add, pk_mul, nI_leI, nI_ltI, nI_eq, e1, s1.1, s1.2.2.1, b1, q2]
  · rw [if_neg (fun z => q z.1), if_neg (fun z => q z.1)]
    rw [btI_ge (by omega)] at b1
    refine ⟨I', ?_, f1, s1⟩
    simp (config := { maxSteps := 2000000 }) (disch := omega) only [f141, ux_at, ux_kk, ux_jo, gIx, pIx, pZx, gRx, aIx, sIx, aBx, sBx, lenx, clx, wshS, obS, reduceIte, Nat.one_ne_zero, Nat.zero_ne_one, Nat.reduceEqDiff, not_true_eq_false, not_false_eq_true, Nat.le_refl, ng_le, ng_lt, ng_nle, ng_nlt, ng_eq, ng_eq2, Bool.false_eq_true, lit_nI, nI_add, pk_mul, nI_leI, nI_ltI, nI_eq, e1, s1.1, s1.2.2.1, b1]
theorem x_takesCD (hT : XT I T N) {a f : Nat} {na fa : Int32} {x : Int32} (ha : a ≤ N) (hS : TS I a na f fa) (hf : f ≠ 0) (hf2 : f < 100) (hn : 500 < n) : ∃ I', f141 n 1 x (mW I L ru) = some (nI 0, mW I' L ru) ∧ TF I I' ∧ TS I' (skN T N a) na f fa := by
  obtain ⟨I', e1, f1, s1⟩ := x_skip (L := L) (ru := ru) (n := n) hT ha hS hn
  refine ⟨I', ?_, f1, s1⟩
  simp (config := { maxSteps := 2000000 }) (disch := omega) only [f141, ux_at, ux_kk, ux_jo, gIx, pIx, pZx, gRx, aIx, sIx, aBx, sBx, lenx, clx, wshS, obS, reduceIte, Nat.one_ne_zero, Nat.zero_ne_one, Nat.reduceEqDiff, not_true_eq_false, not_false_eq_true, Nat.le_refl, ng_le, ng_lt, ng_nle, ng_nlt, ng_eq, ng_eq2, Bool.false_eq_true, lit_nI, nI_add, pk_mul, nI_leI, nI_ltI, nI_eq, e1, s1.2.2.1, hf]
theorem x_fail0 {a k p : Nat} {na fa : Int32} (hS : TS I a na 0 fa) : ∃ I', f8 1 (nI k) (nI p) (mW I L ru) = some (mW I' L ru) ∧ TF I I' ∧ TS I' a na k (nI p) := by
  obtain ⟨s1, s2, s3, s4⟩ := hS
  refine ⟨u2 (u2 I 1 4 (nI k)) 1 5 (nI p), ?_, (TF.rf.u (by decide) (by decide)).u (by decide) (by decide), (ux_j (by decide)).trans ((ux_j (by decide)).trans s1), (ux_j (by decide)).trans ((ux_j (by decide)).trans s2), (ux_j (by decide)).trans ux_at, ux_at⟩
  simp (config := { maxSteps := 2000000 }) (disch := omega) only [f8, ux_at, ux_kk, ux_jo, gIx, pIx, pZx, gRx, aIx, sIx, aBx, sBx, lenx, clx, wshS, obS, reduceIte, Nat.one_ne_zero, Nat.zero_ne_one, Nat.reduceEqDiff, not_true_eq_false, not_false_eq_true, Nat.le_refl, ng_le, ng_lt, ng_nle, ng_nlt, ng_eq, ng_eq2, Bool.false_eq_true, lit_nI, nI_add, pk_mul, nI_leI, nI_ltI, nI_eq, s3]
theorem x_failD {a f : Nat} {na fa x y : Int32} (hS : TS I a na f fa) (hf : f ≠ 0) (hf2 : f < 100) : f8 1 x y (mW I L ru) = some (mW I L ru) := by
  simp (config := { maxSteps := 2000000 }) (disch := omega) only [f8, ux_at, ux_kk, ux_jo, gIx, pIx, pZx, gRx, aIx, sIx, aBx, sBx, lenx, clx, wshS, obS, reduceIte, Nat.one_ne_zero, Nat.zero_ne_one, Nat.reduceEqDiff, not_true_eq_false, not_false_eq_true, Nat.le_refl, ng_le, ng_lt, ng_nle, ng_nlt, ng_eq, ng_eq2, Bool.false_eq_true, lit_nI, nI_add, pk_mul, nI_leI, nI_ltI, nI_eq, hS.2.2.1, hf]
end
