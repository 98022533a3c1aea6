/-! TEXTS: clauses: both sides -/
theorem told_all : ∀ t, t < 32 → ∀ i, i < 4 → (t ||| 2 ^ i) < 32 ∧ (t ||| 2 ^ i) % 16 = (t % 16 ||| 2 ^ i) ∧ bN (t % 16) i = bN t i ∧ (i ≠ 1 → bN (t % 16 ||| 2 ^ i) 1 = bN (t % 16) 1) ∧ (t % 16 ||| 2 ^ i) < 16 ∧ bN (t % 16 ||| 2 ^ i) i = 1 := by decide +kernel
theorem told_4 : ∀ t, t < 32 → (t ||| 2 ^ 4) < 32 ∧ (t ||| 2 ^ 4) % 16 = t % 16 := by decide +kernel
theorem told_or : ∀ t, t < 32 → ∀ i, i < 5 → nI t ||| (nI 1 <<< (nI i &&& nI 31)) = nI (t ||| 2 ^ i) := by decide +kernel
theorem told_and : ∀ t, t < 16 → ∀ i, i < 4 → (nI t &&& nI (2 ^ i) = nI 0 ↔ bN t i = 0) ∧ nI t ||| nI (2 ^ i) = nI (t ||| 2 ^ i) := by decide +kernel
theorem bN_1 {t i : Nat} (h : bN t i ≠ 0) : bN t i = 1 := by
  unfold bN at h ⊢
  split
  · rfl
  · rename_i z
    rw [if_neg z] at h
    exact absurd rfl h
theorem mc_ship (w : Wd) : f43 (nI 115) (nI 104) (nI 105) (nI 112) w = some (lN (cW wShip), w) := congrArg (fun x => some (x, w)) (by decide +kernel)
theorem mc4_rocks (w : Wd) : f43 (nI 114) (nI 111) (nI 99) (nI 107) w = some (lN (cW [114, 111, 99, 107]), w) := congrArg (fun x => some (x, w)) (by decide +kernel)
theorem mc5_rocks (w : Wd) : f44 (lN (cW [114, 111, 99, 107])) (nI 115) w = some (lN (cW wRocks), w) := congrArg (fun x => some (x, w)) (by decide +kernel)
theorem mc4_drift (w : Wd) : f43 (nI 100) (nI 114) (nI 105) (nI 102) w = some (lN (cW [100, 114, 105, 102]), w) := congrArg (fun x => some (x, w)) (by decide +kernel)
theorem mc5_drift (w : Wd) : f44 (lN (cW [100, 114, 105, 102])) (nI 116) w = some (lN (cW wDrift), w) := congrArg (fun x => some (x, w)) (by decide +kernel)
theorem mc_lag : (8782 : Nat) = cW wLag := by decide +kernel
theorem mc_sort (w : Wd) : f43 (nI 115) (nI 111) (nI 114) (nI 116) w = some (lN (cW wSort), w) := congrArg (fun x => some (x, w)) (by decide +kernel)
/-- a clause, read by both -/
def CLN (n : Nat) (T : Nat → Nat) (N : Nat) (L : Lt) (ru : Nat) (J : St) (a : Nat) (FX : Option Wd) : Prop :=
  ∃ J' f p a', f < 6 ∧ p ≤ 300 ∧ FX = some (mW J' L ru) ∧ Fr dxK [] J J' ∧ (f = 0 → XS J' T N a' ∧ a < a' ∧ DrK J') ∧ (f ≠ 0 → XZ J' T N f p) ∧ ∀ I L2 ru2, MS I T N a → RDr I J (soD J) → ∃ I' L2', f226 n 67 (mW I L2 ru2) = some (nI (stF T N f a'), mW I' L2' ru2) ∧ Fr dmK dmF I I' ∧ (stF T N f a' = 0 → MS I' T N (skN T N a' + 1) ∧ RDr I' J' (soD J')) ∧ (stF T N f a' ≠ 0 → I' 67 16 = nI (stP T N f p a'))
theorem CLN.dead {n : Nat} {T : Nat → Nat} {N : Nat} {L : Lt} {ru : Nat} {J J' : St} {a f p : Nat} {FX : Option Wd} (hf : f ≠ 0) (h6 : f < 6) (hp : p ≤ 300) (h1 : FX = some (mW J' L ru)) (h2 : Fr dxK [] J J') (h3 : XZ J' T N f p) (h4 : ∀ I L2 ru2, MS I T N a → RDr I J (soD J) → ∃ I' L2', f226 n 67 (mW I L2 ru2) = some (nI f, mW I' L2' ru2) ∧ Fr dmK dmF I I' ∧ I' 67 16 = nI p) : CLN n T N L ru J a FX := by
  refine ⟨J', f, p, 0, h6, hp, h1, h2, fun z => absurd z hf, fun _ => h3, fun I L2 ru2 hM hR => ?_⟩
  obtain ⟨I', L2', e1, e2, e3⟩ := h4 I L2 ru2 hM hR
  have est : stF T N f 0 = f := if_neg hf
  have esp : stP T N f p 0 = p := if_neg hf
  rw [est, esp]
  exact ⟨I', L2', e1, e2, fun z => absurd z hf, fun _ => e3⟩
/-- told, once more -/
theorem DrK.told {J : St} (h : DrK J) {t i : Nat} (ht : t < 32) (hi : i < 4) (h1 : J 27 2 = nI (t % 16)) : DrK (u2 J 27 2 (nI (t % 16 ||| 2 ^ i))) := by
  obtain ⟨b1, b2, b3, b4, b5, b6, b7, t', c1, c2, c3⟩ := h
  obtain ⟨a1, a2, a3, a4, a5, a6⟩ := told_all t ht i hi
  have h6 := b5.2
  have es : soD (u2 J 27 2 (nI (t % 16 ||| 2 ^ i))) = soD J := by unfold soD; rw [ux_kk (by decide)]
  have et : t' = t % 16 := by
    rw [c2] at h1
    exact (nI_eq (by omega) (by omega)).mp h1
  unfold DrK DrT
  rw [es, ux_kk (by decide : ¬ 15 = 27), ux_kk (by decide : ¬ 26 = 27)]
  refine ⟨b1, b2, b3, b4, b5, b6, fun s hs => ?_, t % 16 ||| 2 ^ i, a5, ux_at, fun z => ?_⟩
  · have := b7 s hs
    unfold DrS at this ⊢
    rw [ux_kk (by decide : ¬ 16 = 27), ux_kk (by decide : ¬ 17 = 27), ux_kk (show ¬ 20 + s = 27 by omega)]
    exact this
  · by_cases e : i = 1
    · rw [e] at a6 z
      omega
    · rw [a4 e] at z
      rw [et] at c3
      exact c3 z
theorem RDr.told {I J : St} {k : Nat} (h : RDr I J k) (h6 : soD J ≤ 6) {t i : Nat} (ht : t < 32) (hi : i < 4) : RDr (u2 I 67 33 (nI (t ||| 2 ^ i))) (u2 J 27 2 (nI (t % 16 ||| 2 ^ i))) k := by
  obtain ⟨b1, b2, b3, b4, b5, b6, b7, b8⟩ := h
  obtain ⟨a1, a2, a3, a4, a5, a6⟩ := told_all t ht i hi
  have es : soD (u2 J 27 2 (nI (t % 16 ||| 2 ^ i))) = soD J := by unfold soD; rw [ux_kk (by decide)]
  unfold RDr
  rw [es, ux_kk (by decide : ¬ 15 = 27), ux_kk (by decide : ¬ 26 = 27), ux_kk (by decide : ¬ 16 = 27), ux_kk (by decide : ¬ 17 = 27), ux_j (by decide : ¬ 22 = 33), ux_j (by decide : ¬ 23 = 33), ux_j (by decide : ¬ 25 = 33), ux_j (by decide : ¬ 26 = 33), ux_j (by decide : ¬ 27 = 33), ux_j (by decide : ¬ 28 = 33), ux_kk (by decide : ¬ 77 = 67), ux_kk (by decide : ¬ 78 = 67), ux_kk (by decide : ¬ 79 = 67), ux_kk (by decide : ¬ 80 = 67)]
  refine ⟨b1, b2, b3, b4, b5, ⟨_, a1, ux_at, by rw [ux_at, a2]⟩, b7, fun s hs => ?_⟩
  rw [ux_kk (show ¬ 20 + s = 27 by omega)]
  exact b8 s hs
section
variable {I J : St} {L : Lt} {ru n : Nat} {T : Nat → Nat} {N : Nat}
theorem x_onceOk {t i b : Nat} {st : Int32} (hi : i < 4) (hb : b = 2 ^ i) (ht : t < 16) (h : J 27 2 = nI t) (h0 : bN t i = 0) : f76 27 (nI b) st (mW J L ru) = some (mW (u2 J 27 2 (nI (t ||| 2 ^ i))) L ru) := by
  obtain ⟨e1, e2⟩ := told_and t ht i hi
  have e1 := e1.mpr h0
  subst hb
  simp (config := { maxSteps := 2000000 }) (disch := omega) only [f76, f76_J18, ux_at, ux_kk, ux_jo, gIx, pIx, pZx, gRx, aIx, sIx, aBx, sBx, lenx, clx, wshS, obS, reduceIte, Nat.one_ne_zero, Nat.zero_ne_one, Nat.reduceEqDiff, not_true_eq_false, not_false_eq_true, Nat.le_refl, ng_le, ng_lt, ng_nle, ng_nlt, ng_eq, ng_eq2, Bool.false_eq_true, lit_nI, nI_add, pk_mul, nI_leI, nI_ltI, nI_eq, h, e1, e2]
theorem x_onceNo {t i b st a : Nat} (hi : i < 4) (hb : b = 2 ^ i) (ht : t < 16) (hS : XS J T N a) (h : J 27 2 = nI t) (h0 : bN t i ≠ 0) : ∃ J', f76 27 (nI b) (nI st) (mW J L ru) = some (mW J' L ru) ∧ Fr dxK [] J J' ∧ XZ J' T N 3 st := by
  obtain ⟨e1, e2⟩ := told_and t ht i hi
  have e1 : ¬ _ := fun z => h0 (e1.mp z)
  obtain ⟨J1, x1, f1, z1⟩ := xs_fail (L := L) (ru := ru) (k := 3) (p := st) hS (by decide)
  have h2 : J1 27 2 = nI t := by rw [f1.1.at (by decide) (by decide)]; exact h
  subst hb
  refine ⟨u2 J1 27 2 (nI (t ||| 2 ^ i)), ?_, f1.dx.u (by decide), z1.fr (Fr.rf.u (K := [27]) (by decide)) (by decide) (by decide)⟩
  simp (config := { maxSteps := 2000000 }) (disch := omega) only [f76, f76_J18, ux_at, ux_kk, ux_jo, gIx, pIx, pZx, gRx, aIx, sIx, aBx, sBx, lenx, clx, wshS, obS, reduceIte, Nat.one_ne_zero, Nat.zero_ne_one, Nat.reduceEqDiff, not_true_eq_false, not_false_eq_true, Nat.le_refl, ng_le, ng_lt, ng_nle, ng_nlt, ng_eq, ng_eq2, Bool.false_eq_true, lit_nI, nI_add, pk_mul, nI_leI, nI_ltI, nI_eq, h, e1, e2, x1, h2]
theorem m_271f {f : Nat} (hf : f ≠ 0) (h6 : f < 6) : f226_J271 n 67 (nI f) (mW I L ru) = some (nI f, mW I L ru) := by
  have h0 : ¬ f ≤ 0 := Nat.not_le_of_gt (Nat.pos_of_ne_zero hf)
  simp (config := { maxSteps := 2000000 }) (disch := omega) only [f226_J271, ux_at, ux_kk, ux_jo, gIm, pIm, pZm, gRm, aIm, sIm, aBm, sBm, gLm, pLm, clm, wshS, obS, reduceIte, Nat.one_ne_zero, Nat.zero_ne_one, Nat.reduceEqDiff, not_true_eq_false, not_false_eq_true, Nat.le_refl, ng_le, ng_lt, ng_nle, ng_nlt, ng_eq, ng_eq2, Bool.false_eq_true, lit_nI, nI_add, pk_mul, nI_leI, nI_ltI, nI_eq, h0]
theorem m_271s {a : Nat} (h : MS I T N a) (ha : a ≤ N) (hn : 500 < n) : ∃ I', f226_J271 n 67 (nI 0) (mW I L ru) = some (nI (stF T N 0 a), mW I' L ru) ∧ Fr [] [16, 17] I I' ∧ (stF T N 0 a = 0 → MS I' T N (skN T N a + 1)) ∧ (stF T N 0 a ≠ 0 → I' 67 16 = nI (skN T N a)) := by
  obtain ⟨I', e1, f1, c0, c1⟩ := m_stop (L := L) (ru := ru) (n := n) h.1 ha h.2.1 hn
  unfold stF
  rw [if_pos rfl]
  by_cases q : skN T N a < N ∧ T (skN T N a) = 59
  · rw [if_pos q] at e1 ⊢
    refine ⟨I', ?_, f1, fun _ => ⟨h.1.fr f1 (by decide) (by decide) (by decide), (c0 q).1, (c0 q).2.trans h.2.2⟩, fun z => absurd rfl z⟩
    simp (config := { maxSteps := 2000000 }) (disch := omega) only [f226_J271, ux_at, ux_kk, ux_jo, gIm, pIm, pZm, gRm, aIm, sIm, aBm, sBm, gLm, pLm, clm, wshS, obS, reduceIte, Nat.one_ne_zero, Nat.zero_ne_one, Nat.reduceEqDiff, not_true_eq_false, not_false_eq_true, Nat.le_refl, ng_le, ng_lt, ng_nle, ng_nlt, ng_eq, ng_eq2, Bool.false_eq_true, lit_nI, nI_add, pk_mul, nI_leI, nI_ltI, nI_eq, e1]
  · rw [if_neg q] at e1 ⊢
    refine ⟨I', ?_, f1, fun z => absurd z (by decide), fun _ => c1 q⟩
    simp (config := { maxSteps := 2000000 }) (disch := omega) only [f226_J271, ux_at, ux_kk, ux_jo, gIm, pIm, pZm, gRm, aIm, sIm, aBm, sBm, gLm, pLm, clm, wshS, obS, reduceIte, Nat.one_ne_zero, Nat.zero_ne_one, Nat.reduceEqDiff, not_true_eq_false, not_false_eq_true, Nat.le_refl, ng_le, ng_lt, ng_nle, ng_nlt, ng_eq, ng_eq2, Bool.false_eq_true, lit_nI, nI_add, pk_mul, nI_leI, nI_ltI, nI_eq, e1]
theorem m_kl0 (hT2 : ∀ i, T i < 256) {a : Nat} (l1 : L 67 18 = lN (sdNw T a (wdN T N a - a))) (q0 : isW T N a wShip) : f112 67 (mW I L ru) = some (nI 0, mW I L ru) := by
  have k0 := m_isW (T := T) (N := N) (b := a) (v := cW wShip) lt_ship rfl hT2 rfl
  have k0 := k0.mpr q0
  have n1 : -nI 1 < nI 0 := by decide +kernel
  simp (config := { maxSteps := 2000000 }) (disch := omega) only [f112, f112_J84, ux_at, ux_kk, ux_jo, gIm, pIm, pZm, gRm, aIm, sIm, aBm, sBm, gLm, pLm, clm, wshS, obS, reduceIte, Nat.one_ne_zero, Nat.zero_ne_one, Nat.reduceEqDiff, not_true_eq_false, not_false_eq_true, Nat.le_refl, ng_le, ng_lt, ng_nle, ng_nlt, ng_eq, ng_eq2, Bool.false_eq_true, lit_nI, nI_add, pk_mul, nI_leI, nI_ltI, nI_eq, lit_lN, l1, n1, Nat.not_lt_zero, k0, mc_ship]
theorem m_kl1 (hT2 : ∀ i, T i < 256) {a : Nat} (l1 : L 67 18 = lN (sdNw T a (wdN T N a - a))) (q0 : ¬ isW T N a wShip) (q1 : isW T N a wRocks) : f112 67 (mW I L ru) = some (nI 1, mW I L ru) := by
  have k0 := m_isW (T := T) (N := N) (b := a) (v := cW wShip) lt_ship rfl hT2 rfl
  have k0 : ¬ _ := fun z => q0 (k0.mp z)
  have k1 := m_isW (T := T) (N := N) (b := a) (v := cW wRocks) lt_rocks rfl hT2 rfl
  have k1 := k1.mpr q1
  have n1 : -nI 1 < nI 0 := by decide +kernel
  simp (config := { maxSteps := 2000000 }) (disch := omega) only [f112, f112_J84, ux_at, ux_kk, ux_jo, gIm, pIm, pZm, gRm, aIm, sIm, aBm, sBm, gLm, pLm, clm, wshS, obS, reduceIte, Nat.one_ne_zero, Nat.zero_ne_one, Nat.reduceEqDiff, not_true_eq_false, not_false_eq_true, Nat.le_refl, ng_le, ng_lt, ng_nle, ng_nlt, ng_eq, ng_eq2, Bool.false_eq_true, lit_nI, nI_add, pk_mul, nI_leI, nI_ltI, nI_eq, lit_lN, l1, n1, Nat.not_lt_zero, k0, mc_ship, k1, mc4_rocks, mc5_rocks]
theorem m_kl2 (hT2 : ∀ i, T i < 256) {a : Nat} (l1 : L 67 18 = lN (sdNw T a (wdN T N a - a))) (q0 : ¬ isW T N a wShip) (q1 : ¬ isW T N a wRocks) (q2 : isW T N a wDrift) : f112 67 (mW I L ru) = some (nI 2, mW I L ru) := by
  have k0 := m_isW (T := T) (N := N) (b := a) (v := cW wShip) lt_ship rfl hT2 rfl
  have k0 : ¬ _ := fun z => q0 (k0.mp z)
  have k1 := m_isW (T := T) (N := N) (b := a) (v := cW wRocks) lt_rocks rfl hT2 rfl
  have k1 : ¬ _ := fun z => q1 (k1.mp z)
  have k2 := m_isW (T := T) (N := N) (b := a) (v := cW wDrift) lt_drift rfl hT2 rfl
  have k2 := k2.mpr q2
  have n1 : -nI 1 < nI 0 := by decide +kernel
  simp (config := { maxSteps := 2000000 }) (disch := omega) only [f112, f112_J84, ux_at, ux_kk, ux_jo, gIm, pIm, pZm, gRm, aIm, sIm, aBm, sBm, gLm, pLm, clm, wshS, obS, reduceIte, Nat.one_ne_zero, Nat.zero_ne_one, Nat.reduceEqDiff, not_true_eq_false, not_false_eq_true, Nat.le_refl, ng_le, ng_lt, ng_nle, ng_nlt, ng_eq, ng_eq2, Bool.false_eq_true, lit_nI, nI_add, pk_mul, nI_leI, nI_ltI, nI_eq, lit_lN, l1, n1, Nat.not_lt_zero, k0, mc_ship, k1, mc4_rocks, mc5_rocks, k2, mc4_drift, mc5_drift]
theorem m_kl3 (hT2 : ∀ i, T i < 256) {a : Nat} (l1 : L 67 18 = lN (sdNw T a (wdN T N a - a))) (q0 : ¬ isW T N a wShip) (q1 : ¬ isW T N a wRocks) (q2 : ¬ isW T N a wDrift) (q3 : isW T N a wLag) : f112 67 (mW I L ru) = some (nI 3, mW I L ru) := by
  have k0 := m_isW (T := T) (N := N) (b := a) (v := cW wShip) lt_ship rfl hT2 rfl
  have k0 : ¬ _ := fun z => q0 (k0.mp z)
  have k1 := m_isW (T := T) (N := N) (b := a) (v := cW wRocks) lt_rocks rfl hT2 rfl
  have k1 : ¬ _ := fun z => q1 (k1.mp z)
  have k2 := m_isW (T := T) (N := N) (b := a) (v := cW wDrift) lt_drift rfl hT2 rfl
  have k2 : ¬ _ := fun z => q2 (k2.mp z)
  have k3 := m_isW (T := T) (N := N) (b := a) (v := 8782) lt_lag rfl hT2 mc_lag
  have k3 := k3.mpr q3
  have n1 : -nI 1 < nI 0 := by decide +kernel
  simp (config := { maxSteps := 2000000 }) (disch := omega) only [f112, f112_J84, ux_at, ux_kk, ux_jo, gIm, pIm, pZm, gRm, aIm, sIm, aBm, sBm, gLm, pLm, clm, wshS, obS, reduceIte, Nat.one_ne_zero, Nat.zero_ne_one, Nat.reduceEqDiff, not_true_eq_false, not_false_eq_true, Nat.le_refl, ng_le, ng_lt, ng_nle, ng_nlt, ng_eq, ng_eq2, Bool.false_eq_true, lit_nI, nI_add, pk_mul, nI_leI, nI_ltI, nI_eq, lit_lN, l1, n1, Nat.not_lt_zero, k0, mc_ship, k1, mc4_rocks, mc5_rocks, k2, mc4_drift, mc5_drift, k3]
theorem m_kl4 (hT2 : ∀ i, T i < 256) {a : Nat} (l1 : L 67 18 = lN (sdNw T a (wdN T N a - a))) (q0 : ¬ isW T N a wShip) (q1 : ¬ isW T N a wRocks) (q2 : ¬ isW T N a wDrift) (q3 : ¬ isW T N a wLag) (q4 : isW T N a wSort) : f112 67 (mW I L ru) = some (nI 4, mW I L ru) := by
  have k0 := m_isW (T := T) (N := N) (b := a) (v := cW wShip) lt_ship rfl hT2 rfl
  have k0 : ¬ _ := fun z => q0 (k0.mp z)
  have k1 := m_isW (T := T) (N := N) (b := a) (v := cW wRocks) lt_rocks rfl hT2 rfl
  have k1 : ¬ _ := fun z => q1 (k1.mp z)
  have k2 := m_isW (T := T) (N := N) (b := a) (v := cW wDrift) lt_drift rfl hT2 rfl
  have k2 : ¬ _ := fun z => q2 (k2.mp z)
  have k3 := m_isW (T := T) (N := N) (b := a) (v := 8782) lt_lag rfl hT2 mc_lag
  have k3 : ¬ _ := fun z => q3 (k3.mp z)
  have k4 := m_isW (T := T) (N := N) (b := a) (v := cW wSort) lt_sort rfl hT2 rfl
  have k4 := k4.mpr q4
  have n1 : -nI 1 < nI 0 := by decide +kernel
  simp (config := { maxSteps := 2000000 }) (disch := omega) only [f112, f112_J84, ux_at, ux_kk, ux_jo, gIm, pIm, pZm, gRm, aIm, sIm, aBm, sBm, gLm, pLm, clm, wshS, obS, reduceIte, Nat.one_ne_zero, Nat.zero_ne_one, Nat.reduceEqDiff, not_true_eq_false, not_false_eq_true, Nat.le_refl, ng_le, ng_lt, ng_nle, ng_nlt, ng_eq, ng_eq2, Bool.false_eq_true, lit_nI, nI_add, pk_mul, nI_leI, nI_ltI, nI_eq, lit_lN, l1, n1, Nat.not_lt_zero, k0, mc_ship, k1, mc4_rocks, mc5_rocks, k2, mc4_drift, mc5_drift, k3, k4, mc_sort]
theorem m_kl5 (hT2 : ∀ i, T i < 256) {a : Nat} (l1 : L 67 18 = lN (sdNw T a (wdN T N a - a))) (q0 : ¬ isW T N a wShip) (q1 : ¬ isW T N a wRocks) (q2 : ¬ isW T N a wDrift) (q3 : ¬ isW T N a wLag) (q4 : ¬ isW T N a wSort) : f112 67 (mW I L ru) = some (-nI 1, mW I L ru) := by
  have k0 := m_isW (T := T) (N := N) (b := a) (v := cW wShip) lt_ship rfl hT2 rfl
  have k0 : ¬ _ := fun z => q0 (k0.mp z)
  have k1 := m_isW (T := T) (N := N) (b := a) (v := cW wRocks) lt_rocks rfl hT2 rfl
  have k1 : ¬ _ := fun z => q1 (k1.mp z)
  have k2 := m_isW (T := T) (N := N) (b := a) (v := cW wDrift) lt_drift rfl hT2 rfl
  have k2 : ¬ _ := fun z => q2 (k2.mp z)
  have k3 := m_isW (T := T) (N := N) (b := a) (v := 8782) lt_lag rfl hT2 mc_lag
  have k3 : ¬ _ := fun z => q3 (k3.mp z)
  have k4 := m_isW (T := T) (N := N) (b := a) (v := cW wSort) lt_sort rfl hT2 rfl
  have k4 : ¬ _ := fun z => q4 (k4.mp z)
  have n1 : -nI 1 < nI 0 := by decide +kernel
  simp (config := { maxSteps := 2000000 }) (disch := omega) only [f112, f112_J84, ux_at, ux_kk, ux_jo, gIm, pIm, pZm, gRm, aIm, sIm, aBm, sBm, gLm, pLm, clm, wshS, obS, reduceIte, Nat.one_ne_zero, Nat.zero_ne_one, Nat.reduceEqDiff, not_true_eq_false, not_false_eq_true, Nat.le_refl, ng_le, ng_lt, ng_nle, ng_nlt, ng_eq, ng_eq2, Bool.false_eq_true, lit_nI, nI_add, pk_mul, nI_leI, nI_ltI, nI_eq, lit_lN, l1, n1, Nat.not_lt_zero, k0, mc_ship, k1, mc4_rocks, mc5_rocks, k2, mc4_drift, mc5_drift, k3, k4, mc_sort]
theorem m_head0 (hT2 : ∀ i, T i < 256) (hn : 1000 < n) {a t : Nat} (hM : MS I T N a) (ha : a ≤ N) (hk : skN T N a = a) (ht : t < 32) (h : I 67 33 = nI t) (q0 : isW T N a wShip) (h0 : bN t 0 = 0) : ∃ Ib La, f226 n 67 (mW I L ru) = f226_J152 n 67 (nI 0) 67 (nI 0) (nI 63) (mW Ib La ru) ∧ MS Ib T N (wdN T N a) ∧ Fr [] [17, 19, 33] I Ib ∧ Fr [] [17, 19] (u2 I 67 33 (nI (t ||| 2 ^ 0))) Ib := by
  obtain ⟨Ia, La, x1, y1, z1, w1, l1⟩ := ms_word (L := L) (ru := ru) (n := n) hT2 hM ha (by omega)
  rw [hk] at z1 w1 l1
  have h33 : Ia 67 33 = nI t := (y1.f (by decide) (by decide)).trans h
  have s17 := z1.2.1
  have ek := m_kl0 (I := Ia) (ru := ru) hT2 l1 q0
  have g1 : Fr [] [17, 19, 33] I (u2 (u2 Ia 67 33 (nI (t ||| 2 ^ 0))) 67 17 (nI (wdN T N a))) := ((y1.mono (by decide) (by decide)).uf (by decide)).uf (by decide)
  refine ⟨u2 (u2 Ia 67 33 (nI (t ||| 2 ^ 0))) 67 17 (nI (wdN T N a)), La, ?_, ⟨z1.1.fr (K := []) (F := [17, 33]) ((Fr.rf.uf (by decide)).uf (by decide)) (by decide) (by decide) (by decide), ux_at, (ux_j (by decide)).trans ((ux_j (by decide)).trans z1.2.2)⟩, g1, fun k j hk hj => ?_⟩
  · have ta := told_or t ht 0 (by decide)
    have st : f226 n 67 (mW I L ru) = f226_J39 n 67 (nI a) (nI 0) (nI 0) (mW Ia La ru) := by
      simp (config := { maxSteps := 2000000 }) (disch := omega) only [f226, ux_at, ux_kk, ux_jo, gIm, pIm, pZm, gRm, aIm, sIm, aBm, sBm, gLm, pLm, clm, wshS, obS, reduceIte, Nat.one_ne_zero, Nat.zero_ne_one, Nat.reduceEqDiff, not_true_eq_false, not_false_eq_true, Nat.le_refl, ng_le, ng_lt, ng_nle, ng_nlt, ng_eq, ng_eq2, Bool.false_eq_true, lit_nI, nI_add, pk_mul, nI_leI, nI_ltI, nI_eq, x1, s17, ek, h33, Nat.not_lt_zero, h0, s45, (by decide : ¬ 4 ≤ 0)]
    rw [st]
    simp (config := { maxSteps := 2000000 }) (disch := omega) only [f226_J39, ux_at, ux_kk, ux_jo, gIm, pIm, pZm, gRm, aIm, sIm, aBm, sBm, gLm, pLm, clm, wshS, obS, reduceIte, Nat.one_ne_zero, Nat.zero_ne_one, Nat.reduceEqDiff, not_true_eq_false, not_false_eq_true, Nat.le_refl, ng_le, ng_lt, ng_nle, ng_nlt, ng_eq, ng_eq2, Bool.false_eq_true, lit_nI, nI_add, pk_mul, nI_leI, nI_ltI, nI_eq, h33, ta, w1, Nat.not_lt_zero, (by decide : ¬ 0 = 1), (by decide : ¬ 2 = 1), (by decide : ¬ 2 = 4), (by decide : ¬ 2 = 3), (by decide : ¬ 3 = 4), (by decide : ¬ 3 = 1)]
  · by_cases e : k = 67
    · subst e
      have hj := hj rfl
      have j17 : ¬ j = 17 := fun z => hj (by rw [z]; decide)
      rw [ux_jo j17, ux_if, ux_if]
      split
      · rfl
      · exact y1 67 j hk fun _ => hj
    · rw [ux_k e, ux_k e, ux_k e]
      exact y1 k j hk fun z => absurd z e
theorem m_again0 (hT2 : ∀ i, T i < 256) (hn : 1000 < n) {a t : Nat} (hM : MS I T N a) (ha : a ≤ N) (hk : skN T N a = a) (ht : t < 32) (h : I 67 33 = nI t) (q0 : isW T N a wShip) (h0 : bN t 0 ≠ 0) : ∃ I' La, f226 n 67 (mW I L ru) = some (nI 3, mW I' La ru) ∧ Fr [] [16, 17, 19] I I' ∧ I' 67 16 = nI a := by
  obtain ⟨Ia, La, x1, y1, z1, w1, l1⟩ := ms_word (L := L) (ru := ru) (n := n) hT2 hM ha (by omega)
  rw [hk] at z1 w1 l1
  have h33 : Ia 67 33 = nI t := (y1.f (by decide) (by decide)).trans h
  have s17 := z1.2.1
  have ek := m_kl0 (I := Ia) (ru := ru) hT2 l1 q0
  have h1 := bN_1 h0
  refine ⟨u2 Ia 67 16 (nI a), La, ?_, (y1.mono (by decide) (by decide)).uf (by decide), ux_at⟩
  have st : f226 n 67 (mW I L ru) = f226_J39 n 67 (nI a) (nI 0) (nI 1) (mW Ia La ru) := by
    simp (config := { maxSteps := 2000000 }) (disch := omega) only [f226, ux_at, ux_kk, ux_jo, gIm, pIm, pZm, gRm, aIm, sIm, aBm, sBm, gLm, pLm, clm, wshS, obS, reduceIte, Nat.one_ne_zero, Nat.zero_ne_one, Nat.reduceEqDiff, not_true_eq_false, not_false_eq_true, Nat.le_refl, ng_le, ng_lt, ng_nle, ng_nlt, ng_eq, ng_eq2, Bool.false_eq_true, lit_nI, nI_add, pk_mul, nI_leI, nI_ltI, nI_eq, x1, s17, ek, h33, Nat.not_lt_zero, (by decide : ¬ 4 ≤ 0), h1, s45]
  rw [st]
  simp (config := { maxSteps := 2000000 }) (disch := omega) only [f226_J39, f226_J48, f226_J58, f46, ux_at, ux_kk, ux_jo, gIm, pIm, pZm, gRm, aIm, sIm, aBm, sBm, gLm, pLm, clm, wshS, obS, reduceIte, Nat.one_ne_zero, Nat.zero_ne_one, Nat.reduceEqDiff, not_true_eq_false, not_false_eq_true, Nat.le_refl, ng_le, ng_lt, ng_nle, ng_nlt, ng_eq, ng_eq2, Bool.false_eq_true, lit_nI, nI_add, pk_mul, nI_leI, nI_ltI, nI_eq, Nat.not_lt_zero, Nat.zero_le]
theorem m_head1 (hT2 : ∀ i, T i < 256) (hn : 1000 < n) {a t : Nat} (hM : MS I T N a) (ha : a ≤ N) (hk : skN T N a = a) (ht : t < 32) (h : I 67 33 = nI t) (q0 : ¬ isW T N a wShip) (q1 : isW T N a wRocks) (h0 : bN t 1 = 0) : ∃ Ib La, f226 n 67 (mW I L ru) = ob (f201 n 67 (mW Ib La ru)) (fun p73 => f226_J271 n 67 p73.1 p73.2) ∧ MS Ib T N (wdN T N a) ∧ Fr [] [17, 19, 33] I Ib ∧ Fr [] [17, 19] (u2 I 67 33 (nI (t ||| 2 ^ 1))) Ib := by
  obtain ⟨Ia, La, x1, y1, z1, w1, l1⟩ := ms_word (L := L) (ru := ru) (n := n) hT2 hM ha (by omega)
  rw [hk] at z1 w1 l1
  have h33 : Ia 67 33 = nI t := (y1.f (by decide) (by decide)).trans h
  have s17 := z1.2.1
  have ek := m_kl1 (I := Ia) (ru := ru) hT2 l1 q0 q1
  have g1 : Fr [] [17, 19, 33] I (u2 (u2 Ia 67 33 (nI (t ||| 2 ^ 1))) 67 17 (nI (wdN T N a))) := ((y1.mono (by decide) (by decide)).uf (by decide)).uf (by decide)
  refine ⟨u2 (u2 Ia 67 33 (nI (t ||| 2 ^ 1))) 67 17 (nI (wdN T N a)), La, ?_, ⟨z1.1.fr (K := []) (F := [17, 33]) ((Fr.rf.uf (by decide)).uf (by decide)) (by decide) (by decide) (by decide), ux_at, (ux_j (by decide)).trans ((ux_j (by decide)).trans z1.2.2)⟩, g1, fun k j hk hj => ?_⟩
  · have ta := told_or t ht 1 (by decide)
    have st : f226 n 67 (mW I L ru) = f226_J39 n 67 (nI a) (nI 1) (nI 0) (mW Ia La ru) := by
      simp (config := { maxSteps := 2000000 }) (disch := omega) only [f226, ux_at, ux_kk, ux_jo, gIm, pIm, pZm, gRm, aIm, sIm, aBm, sBm, gLm, pLm, clm, wshS, obS, reduceIte, Nat.one_ne_zero, Nat.zero_ne_one, Nat.reduceEqDiff, not_true_eq_false, not_false_eq_true, Nat.le_refl, ng_le, ng_lt, ng_nle, ng_nlt, ng_eq, ng_eq2, Bool.false_eq_true, lit_nI, nI_add, pk_mul, nI_leI, nI_ltI, nI_eq, x1, s17, ek, h33, Nat.not_lt_zero, h0, s45, (by decide : ¬ 4 ≤ 1)]
    rw [st]
    simp (config := { maxSteps := 2000000 }) (disch := omega) only [f226_J39, ux_at, ux_kk, ux_jo, gIm, pIm, pZm, gRm, aIm, sIm, aBm, sBm, gLm, pLm, clm, wshS, obS, reduceIte, Nat.one_ne_zero, Nat.zero_ne_one, Nat.reduceEqDiff, not_true_eq_false, not_false_eq_true, Nat.le_refl, ng_le, ng_lt, ng_nle, ng_nlt, ng_eq, ng_eq2, Bool.false_eq_true, lit_nI, nI_add, pk_mul, nI_leI, nI_ltI, nI_eq, h33, ta, w1, Nat.not_lt_zero, (by decide : ¬ 0 = 1), (by decide : ¬ 2 = 1), (by decide : ¬ 2 = 4), (by decide : ¬ 2 = 3), (by decide : ¬ 3 = 4), (by decide : ¬ 3 = 1)]
  · by_cases e : k = 67
    · subst e
      have hj := hj rfl
      have j17 : ¬ j = 17 := fun z => hj (by rw [z]; decide)
      rw [ux_jo j17, ux_if, ux_if]
      split
      · rfl
      · exact y1 67 j hk fun _ => hj
    · rw [ux_k e, ux_k e, ux_k e]
      exact y1 k j hk fun z => absurd z e
theorem m_again1 (hT2 : ∀ i, T i < 256) (hn : 1000 < n) {a t : Nat} (hM : MS I T N a) (ha : a ≤ N) (hk : skN T N a = a) (ht : t < 32) (h : I 67 33 = nI t) (q0 : ¬ isW T N a wShip) (q1 : isW T N a wRocks) (h0 : bN t 1 ≠ 0) : ∃ I' La, f226 n 67 (mW I L ru) = some (nI 3, mW I' La ru) ∧ Fr [] [16, 17, 19] I I' ∧ I' 67 16 = nI a := by
  obtain ⟨Ia, La, x1, y1, z1, w1, l1⟩ := ms_word (L := L) (ru := ru) (n := n) hT2 hM ha (by omega)
  rw [hk] at z1 w1 l1
  have h33 : Ia 67 33 = nI t := (y1.f (by decide) (by decide)).trans h
  have s17 := z1.2.1
  have ek := m_kl1 (I := Ia) (ru := ru) hT2 l1 q0 q1
  have h1 := bN_1 h0
  refine ⟨u2 Ia 67 16 (nI a), La, ?_, (y1.mono (by decide) (by decide)).uf (by decide), ux_at⟩
  have st : f226 n 67 (mW I L ru) = f226_J39 n 67 (nI a) (nI 1) (nI 1) (mW Ia La ru) := by
    simp (config := { maxSteps := 2000000 }) (disch := omega) only [f226, ux_at, ux_kk, ux_jo, gIm, pIm, pZm, gRm, aIm, sIm, aBm, sBm, gLm, pLm, clm, wshS, obS, reduceIte, Nat.one_ne_zero, Nat.zero_ne_one, Nat.reduceEqDiff, not_true_eq_false, not_false_eq_true, Nat.le_refl, ng_le, ng_lt, ng_nle, ng_nlt, ng_eq, ng_eq2, Bool.false_eq_true, lit_nI, nI_add, pk_mul, nI_leI, nI_ltI, nI_eq, x1, s17, ek, h33, Nat.not_lt_zero, (by decide : ¬ 4 ≤ 1), h1, s45]
  rw [st]
  simp (config := { maxSteps := 2000000 }) (disch := omega) only [f226_J39, f226_J48, f226_J58, f46, ux_at, ux_kk, ux_jo, gIm, pIm, pZm, gRm, aIm, sIm, aBm, sBm, gLm, pLm, clm, wshS, obS, reduceIte, Nat.one_ne_zero, Nat.zero_ne_one, Nat.reduceEqDiff, not_true_eq_false, not_false_eq_true, Nat.le_refl, ng_le, ng_lt, ng_nle, ng_nlt, ng_eq, ng_eq2, Bool.false_eq_true, lit_nI, nI_add, pk_mul, nI_leI, nI_ltI, nI_eq, Nat.not_lt_zero, Nat.zero_le]
theorem m_head2 (hT2 : ∀ i, T i < 256) (hn : 1000 < n) {a t : Nat} (hM : MS I T N a) (ha : a ≤ N) (hk : skN T N a = a) (ht : t < 32) (h : I 67 33 = nI t) (q0 : ¬ isW T N a wShip) (q1 : ¬ isW T N a wRocks) (q2 : isW T N a wDrift) (h0 : bN t 2 = 0) : ∃ Ib La, f226 n 67 (mW I L ru) = f226_J152 n 67 (nI 2) 67 (nI 0) (nI 7) (mW Ib La ru) ∧ MS Ib T N (wdN T N a) ∧ Fr [] [17, 19, 33] I Ib ∧ Fr [] [17, 19] (u2 I 67 33 (nI (t ||| 2 ^ 2))) Ib := by
  obtain ⟨Ia, La, x1, y1, z1, w1, l1⟩ := ms_word (L := L) (ru := ru) (n := n) hT2 hM ha (by omega)
  rw [hk] at z1 w1 l1
  have h33 : Ia 67 33 = nI t := (y1.f (by decide) (by decide)).trans h
  have s17 := z1.2.1
  have ek := m_kl2 (I := Ia) (ru := ru) hT2 l1 q0 q1 q2
  have g1 : Fr [] [17, 19, 33] I (u2 (u2 Ia 67 33 (nI (t ||| 2 ^ 2))) 67 17 (nI (wdN T N a))) := ((y1.mono (by decide) (by decide)).uf (by decide)).uf (by decide)
  refine ⟨u2 (u2 Ia 67 33 (nI (t ||| 2 ^ 2))) 67 17 (nI (wdN T N a)), La, ?_, ⟨z1.1.fr (K := []) (F := [17, 33]) ((Fr.rf.uf (by decide)).uf (by decide)) (by decide) (by decide) (by decide), ux_at, (ux_j (by decide)).trans ((ux_j (by decide)).trans z1.2.2)⟩, g1, fun k j hk hj => ?_⟩
  · have ta := told_or t ht 2 (by decide)
    have st : f226 n 67 (mW I L ru) = f226_J39 n 67 (nI a) (nI 2) (nI 0) (mW Ia La ru) := by
      simp (config := { maxSteps := 2000000 }) (disch := omega) only [f226, ux_at, ux_kk, ux_jo, gIm, pIm, pZm, gRm, aIm, sIm, aBm, sBm, gLm, pLm, clm, wshS, obS, reduceIte, Nat.one_ne_zero, Nat.zero_ne_one, Nat.reduceEqDiff, not_true_eq_false, not_false_eq_true, Nat.le_refl, ng_le, ng_lt, ng_nle, ng_nlt, ng_eq, ng_eq2, Bool.false_eq_true, lit_nI, nI_add, pk_mul, nI_leI, nI_ltI, nI_eq, x1, s17, ek, h33, Nat.not_lt_zero, h0, s45, (by decide : ¬ 4 ≤ 2)]
    rw [st]
    simp (config := { maxSteps := 2000000 }) (disch := omega) only [f226_J39, ux_at, ux_kk, ux_jo, gIm, pIm, pZm, gRm, aIm, sIm, aBm, sBm, gLm, pLm, clm, wshS, obS, reduceIte, Nat.one_ne_zero, Nat.zero_ne_one, Nat.reduceEqDiff, not_true_eq_false, not_false_eq_true, Nat.le_refl, ng_le, ng_lt, ng_nle, ng_nlt, ng_eq, ng_eq2, Bool.false_eq_true, lit_nI, nI_add, pk_mul, nI_leI, nI_ltI, nI_eq, h33, ta, w1, Nat.not_lt_zero, (by decide : ¬ 0 = 1), (by decide : ¬ 2 = 1), (by decide : ¬ 2 = 4), (by decide : ¬ 2 = 3), (by decide : ¬ 3 = 4), (by decide : ¬ 3 = 1)]
  · by_cases e : k = 67
    · subst e
      have hj := hj rfl
      have j17 : ¬ j = 17 := fun z => hj (by rw [z]; decide)
      rw [ux_jo j17, ux_if, ux_if]
      split
      · rfl
      · exact y1 67 j hk fun _ => hj
    · rw [ux_k e, ux_k e, ux_k e]
      exact y1 k j hk fun z => absurd z e
theorem m_again2 (hT2 : ∀ i, T i < 256) (hn : 1000 < n) {a t : Nat} (hM : MS I T N a) (ha : a ≤ N) (hk : skN T N a = a) (ht : t < 32) (h : I 67 33 = nI t) (q0 : ¬ isW T N a wShip) (q1 : ¬ isW T N a wRocks) (q2 : isW T N a wDrift) (h0 : bN t 2 ≠ 0) : ∃ I' La, f226 n 67 (mW I L ru) = some (nI 3, mW I' La ru) ∧ Fr [] [16, 17, 19] I I' ∧ I' 67 16 = nI a := by
  obtain ⟨Ia, La, x1, y1, z1, w1, l1⟩ := ms_word (L := L) (ru := ru) (n := n) hT2 hM ha (by omega)
  rw [hk] at z1 w1 l1
  have h33 : Ia 67 33 = nI t := (y1.f (by decide) (by decide)).trans h
  have s17 := z1.2.1
  have ek := m_kl2 (I := Ia) (ru := ru) hT2 l1 q0 q1 q2
  have h1 := bN_1 h0
  refine ⟨u2 Ia 67 16 (nI a), La, ?_, (y1.mono (by decide) (by decide)).uf (by decide), ux_at⟩
  have st : f226 n 67 (mW I L ru) = f226_J39 n 67 (nI a) (nI 2) (nI 1) (mW Ia La ru) := by
    simp (config := { maxSteps := 2000000 }) (disch := omega) only [f226, ux_at, ux_kk, ux_jo, gIm, pIm, pZm, gRm, aIm, sIm, aBm, sBm, gLm, pLm, clm, wshS, obS, reduceIte, Nat.one_ne_zero, Nat.zero_ne_one, Nat.reduceEqDiff, not_true_eq_false, not_false_eq_true, Nat.le_refl, ng_le, ng_lt, ng_nle, ng_nlt, ng_eq, ng_eq2, Bool.false_eq_true, lit_nI, nI_add, pk_mul, nI_leI, nI_ltI, nI_eq, x1, s17, ek, h33, Nat.not_lt_zero, (by decide : ¬ 4 ≤ 2), h1, s45]
  rw [st]
  simp (config := { maxSteps := 2000000 }) (disch := omega) only [f226_J39, f226_J48, f226_J58, f46, ux_at, ux_kk, ux_jo, gIm, pIm, pZm, gRm, aIm, sIm, aBm, sBm, gLm, pLm, clm, wshS, obS, reduceIte, Nat.one_ne_zero, Nat.zero_ne_one, Nat.reduceEqDiff, not_true_eq_false, not_false_eq_true, Nat.le_refl, ng_le, ng_lt, ng_nle, ng_nlt, ng_eq, ng_eq2, Bool.false_eq_true, lit_nI, nI_add, pk_mul, nI_leI, nI_ltI, nI_eq, Nat.not_lt_zero, Nat.zero_le]
theorem m_head3 (hT2 : ∀ i, T i < 256) (hn : 1000 < n) {a t : Nat} (hM : MS I T N a) (ha : a ≤ N) (hk : skN T N a = a) (ht : t < 32) (h : I 67 33 = nI t) (q0 : ¬ isW T N a wShip) (q1 : ¬ isW T N a wRocks) (q2 : ¬ isW T N a wDrift) (q3 : isW T N a wLag) (h0 : bN t 3 = 0) : ∃ Ib La, f226 n 67 (mW I L ru) = ob (f161 n 67 (nI 0) (nI 2) (mW Ib La ru)) (fun p61 => ob (getI p61.2 11 67 20) (fun x63 => ob (putI p61.2 11 67 27 x63) (fun w65 => f226_J271 n 67 p61.1 w65))) ∧ MS Ib T N (wdN T N a) ∧ Fr [] [17, 19, 33] I Ib ∧ Fr [] [17, 19] (u2 I 67 33 (nI (t ||| 2 ^ 3))) Ib := by
  obtain ⟨Ia, La, x1, y1, z1, w1, l1⟩ := ms_word (L := L) (ru := ru) (n := n) hT2 hM ha (by omega)
  rw [hk] at z1 w1 l1
  have h33 : Ia 67 33 = nI t := (y1.f (by decide) (by decide)).trans h
  have s17 := z1.2.1
  have ek := m_kl3 (I := Ia) (ru := ru) hT2 l1 q0 q1 q2 q3
  have g1 : Fr [] [17, 19, 33] I (u2 (u2 Ia 67 33 (nI (t ||| 2 ^ 3))) 67 17 (nI (wdN T N a))) := ((y1.mono (by decide) (by decide)).uf (by decide)).uf (by decide)
  refine ⟨u2 (u2 Ia 67 33 (nI (t ||| 2 ^ 3))) 67 17 (nI (wdN T N a)), La, ?_, ⟨z1.1.fr (K := []) (F := [17, 33]) ((Fr.rf.uf (by decide)).uf (by decide)) (by decide) (by decide) (by decide), ux_at, (ux_j (by decide)).trans ((ux_j (by decide)).trans z1.2.2)⟩, g1, fun k j hk hj => ?_⟩
  · have ta := told_or t ht 3 (by decide)
    have st : f226 n 67 (mW I L ru) = f226_J39 n 67 (nI a) (nI 3) (nI 0) (mW Ia La ru) := by
      simp (config := { maxSteps := 2000000 }) (disch := omega) only [f226, ux_at, ux_kk, ux_jo, gIm, pIm, pZm, gRm, aIm, sIm, aBm, sBm, gLm, pLm, clm, wshS, obS, reduceIte, Nat.one_ne_zero, Nat.zero_ne_one, Nat.reduceEqDiff, not_true_eq_false, not_false_eq_true, Nat.le_refl, ng_le, ng_lt, ng_nle, ng_nlt, ng_eq, ng_eq2, Bool.false_eq_true, lit_nI, nI_add, pk_mul, nI_leI, nI_ltI, nI_eq, x1, s17, ek, h33, Nat.not_lt_zero, h0, s45, (by decide : ¬ 4 ≤ 3)]
    rw [st]
    simp (config := { maxSteps := 2000000 }) (disch := omega) only [f226_J39, ux_at, ux_kk, ux_jo, gIm, pIm, pZm, gRm, aIm, sIm, aBm, sBm, gLm, pLm, clm, wshS, obS, reduceIte, Nat.one_ne_zero, Nat.zero_ne_one, Nat.reduceEqDiff, not_true_eq_false, not_false_eq_true, Nat.le_refl, ng_le, ng_lt, ng_nle, ng_nlt, ng_eq, ng_eq2, Bool.false_eq_true, lit_nI, nI_add, pk_mul, nI_leI, nI_ltI, nI_eq, h33, ta, w1, Nat.not_lt_zero, (by decide : ¬ 0 = 1), (by decide : ¬ 2 = 1), (by decide : ¬ 2 = 4), (by decide : ¬ 2 = 3), (by decide : ¬ 3 = 4), (by decide : ¬ 3 = 1)]
  · by_cases e : k = 67
    · subst e
      have hj := hj rfl
      have j17 : ¬ j = 17 := fun z => hj (by rw [z]; decide)
      rw [ux_jo j17, ux_if, ux_if]
      split
      · rfl
      · exact y1 67 j hk fun _ => hj
    · rw [ux_k e, ux_k e, ux_k e]
      exact y1 k j hk fun z => absurd z e
theorem m_again3 (hT2 : ∀ i, T i < 256) (hn : 1000 < n) {a t : Nat} (hM : MS I T N a) (ha : a ≤ N) (hk : skN T N a = a) (ht : t < 32) (h : I 67 33 = nI t) (q0 : ¬ isW T N a wShip) (q1 : ¬ isW T N a wRocks) (q2 : ¬ isW T N a wDrift) (q3 : isW T N a wLag) (h0 : bN t 3 ≠ 0) : ∃ I' La, f226 n 67 (mW I L ru) = some (nI 3, mW I' La ru) ∧ Fr [] [16, 17, 19] I I' ∧ I' 67 16 = nI a := by
  obtain ⟨Ia, La, x1, y1, z1, w1, l1⟩ := ms_word (L := L) (ru := ru) (n := n) hT2 hM ha (by omega)
  rw [hk] at z1 w1 l1
  have h33 : Ia 67 33 = nI t := (y1.f (by decide) (by decide)).trans h
  have s17 := z1.2.1
  have ek := m_kl3 (I := Ia) (ru := ru) hT2 l1 q0 q1 q2 q3
  have h1 := bN_1 h0
  refine ⟨u2 Ia 67 16 (nI a), La, ?_, (y1.mono (by decide) (by decide)).uf (by decide), ux_at⟩
  have st : f226 n 67 (mW I L ru) = f226_J39 n 67 (nI a) (nI 3) (nI 1) (mW Ia La ru) := by
    simp (config := { maxSteps := 2000000 }) (disch := omega) only [f226, ux_at, ux_kk, ux_jo, gIm, pIm, pZm, gRm, aIm, sIm, aBm, sBm, gLm, pLm, clm, wshS, obS, reduceIte, Nat.one_ne_zero, Nat.zero_ne_one, Nat.reduceEqDiff, not_true_eq_false, not_false_eq_true, Nat.le_refl, ng_le, ng_lt, ng_nle, ng_nlt, ng_eq, ng_eq2, Bool.false_eq_true, lit_nI, nI_add, pk_mul, nI_leI, nI_ltI, nI_eq, x1, s17, ek, h33, Nat.not_lt_zero, (by decide : ¬ 4 ≤ 3), h1, s45]
  rw [st]
  simp (config := { maxSteps := 2000000 }) (disch := omega) only [f226_J39, f226_J48, f226_J58, f46, ux_at, ux_kk, ux_jo, gIm, pIm, pZm, gRm, aIm, sIm, aBm, sBm, gLm, pLm, clm, wshS, obS, reduceIte, Nat.one_ne_zero, Nat.zero_ne_one, Nat.reduceEqDiff, not_true_eq_false, not_false_eq_true, Nat.le_refl, ng_le, ng_lt, ng_nle, ng_nlt, ng_eq, ng_eq2, Bool.false_eq_true, lit_nI, nI_add, pk_mul, nI_leI, nI_ltI, nI_eq, Nat.not_lt_zero, Nat.zero_le]
theorem m_head4 (hT2 : ∀ i, T i < 256) (hn : 1000 < n) {a t : Nat} (hM : MS I T N a) (ha : a ≤ N) (hk : skN T N a = a) (ht : t < 32) (h : I 67 33 = nI t) (q0 : ¬ isW T N a wShip) (q1 : ¬ isW T N a wRocks) (q2 : ¬ isW T N a wDrift) (q3 : ¬ isW T N a wLag) (q4 : isW T N a wSort) : ∃ Ib La, f226 n 67 (mW I L ru) = ob (f211 n 67 (nI a) (mW Ib La ru)) (fun p69 => f226_J271 n 67 p69.1 p69.2) ∧ MS Ib T N (wdN T N a) ∧ Fr [] [17, 19, 33] I Ib ∧ Fr [] [17, 19] (u2 I 67 33 (nI (t ||| 2 ^ 4))) Ib := by
  obtain ⟨Ia, La, x1, y1, z1, w1, l1⟩ := ms_word (L := L) (ru := ru) (n := n) hT2 hM ha (by omega)
  rw [hk] at z1 w1 l1
  have h33 : Ia 67 33 = nI t := (y1.f (by decide) (by decide)).trans h
  have s17 := z1.2.1
  have ek := m_kl4 (I := Ia) (ru := ru) hT2 l1 q0 q1 q2 q3 q4
  have g1 : Fr [] [17, 19, 33] I (u2 (u2 Ia 67 33 (nI (t ||| 2 ^ 4))) 67 17 (nI (wdN T N a))) := ((y1.mono (by decide) (by decide)).uf (by decide)).uf (by decide)
  refine ⟨u2 (u2 Ia 67 33 (nI (t ||| 2 ^ 4))) 67 17 (nI (wdN T N a)), La, ?_, ⟨z1.1.fr (K := []) (F := [17, 33]) ((Fr.rf.uf (by decide)).uf (by decide)) (by decide) (by decide) (by decide), ux_at, (ux_j (by decide)).trans ((ux_j (by decide)).trans z1.2.2)⟩, g1, fun k j hk hj => ?_⟩
  · have ta := told_or t ht 4 (by decide)
    have st : f226 n 67 (mW I L ru) = f226_J39 n 67 (nI a) (nI 4) (nI 0) (mW Ia La ru) := by
      simp (config := { maxSteps := 2000000 }) (disch := omega) only [f226, ux_at, ux_kk, ux_jo, gIm, pIm, pZm, gRm, aIm, sIm, aBm, sBm, gLm, pLm, clm, wshS, obS, reduceIte, Nat.one_ne_zero, Nat.zero_ne_one, Nat.reduceEqDiff, not_true_eq_false, not_false_eq_true, Nat.le_refl, ng_le, ng_lt, ng_nle, ng_nlt, ng_eq, ng_eq2, Bool.false_eq_true, lit_nI, nI_add, pk_mul, nI_leI, nI_ltI, nI_eq, x1, s17, ek, h33, Nat.not_lt_zero]
    rw [st]
    simp (config := { maxSteps := 2000000 }) (disch := omega) only [f226_J39, ux_at, ux_kk, ux_jo, gIm, pIm, pZm, gRm, aIm, sIm, aBm, sBm, gLm, pLm, clm, wshS, obS, reduceIte, Nat.one_ne_zero, Nat.zero_ne_one, Nat.reduceEqDiff, not_true_eq_false, not_false_eq_true, Nat.le_refl, ng_le, ng_lt, ng_nle, ng_nlt, ng_eq, ng_eq2, Bool.false_eq_true, lit_nI, nI_add, pk_mul, nI_leI, nI_ltI, nI_eq, h33, ta, w1, Nat.not_lt_zero, (by decide : ¬ 0 = 1), (by decide : ¬ 2 = 1), (by decide : ¬ 2 = 4), (by decide : ¬ 2 = 3), (by decide : ¬ 3 = 4), (by decide : ¬ 3 = 1)]
  · by_cases e : k = 67
    · subst e
      have hj := hj rfl
      have j17 : ¬ j = 17 := fun z => hj (by rw [z]; decide)
      rw [ux_jo j17, ux_if, ux_if]
      split
      · rfl
      · exact y1 67 j hk fun _ => hj
    · rw [ux_k e, ux_k e, ux_k e]
      exact y1 k j hk fun z => absurd z e
theorem m_none (hT2 : ∀ i, T i < 256) (hn : 1000 < n) {a t : Nat} (hM : MS I T N a) (ha : a ≤ N) (hk : skN T N a = a) (ht : t < 32) (h : I 67 33 = nI t) (q0 : ¬ isW T N a wShip) (q1 : ¬ isW T N a wRocks) (q2 : ¬ isW T N a wDrift) (q3 : ¬ isW T N a wLag) (q4 : ¬ isW T N a wSort) : ∃ I' La, f226 n 67 (mW I L ru) = some (nI 1, mW I' La ru) ∧ Fr [] [16, 17, 19] I I' ∧ I' 67 16 = nI a := by
  obtain ⟨Ia, La, x1, y1, z1, w1, l1⟩ := ms_word (L := L) (ru := ru) (n := n) hT2 hM ha (by omega)
  rw [hk] at z1 w1 l1
  have h33 : Ia 67 33 = nI t := (y1.f (by decide) (by decide)).trans h
  have s17 := z1.2.1
  have ek := m_kl5 (I := Ia) (ru := ru) hT2 l1 q0 q1 q2 q3 q4
  refine ⟨u2 Ia 67 16 (nI a), La, ?_, (y1.mono (by decide) (by decide)).uf (by decide), ux_at⟩
  have n0 : ¬ nI 0 ≤ -nI 1 := by decide +kernel
  have n1 : -nI 1 < nI 0 := by decide +kernel
  have st : f226 n 67 (mW I L ru) = f226_J39 n 67 (nI a) (-nI 1) (nI 0) (mW Ia La ru) := by
    simp (config := { maxSteps := 2000000 }) (disch := omega) only [f226, ux_at, ux_kk, ux_jo, gIm, pIm, pZm, gRm, aIm, sIm, aBm, sBm, gLm, pLm, clm, wshS, obS, reduceIte, Nat.one_ne_zero, Nat.zero_ne_one, Nat.reduceEqDiff, not_true_eq_false, not_false_eq_true, Nat.le_refl, ng_le, ng_lt, ng_nle, ng_nlt, ng_eq, ng_eq2, Bool.false_eq_true, lit_nI, nI_add, pk_mul, nI_leI, nI_ltI, nI_eq, x1, s17, ek, n1]
  rw [st]
  simp (config := { maxSteps := 2000000 }) (disch := omega) only [f226_J39, f226_J48, f226_J58, f46, ux_at, ux_kk, ux_jo, gIm, pIm, pZm, gRm, aIm, sIm, aBm, sBm, gLm, pLm, clm, wshS, obS, reduceIte, Nat.one_ne_zero, Nat.zero_ne_one, Nat.reduceEqDiff, not_true_eq_false, not_false_eq_true, Nat.le_refl, ng_le, ng_lt, ng_nle, ng_nlt, ng_eq, ng_eq2, Bool.false_eq_true, lit_nI, nI_add, pk_mul, nI_leI, nI_ltI, nI_eq, n0, n1]
end
