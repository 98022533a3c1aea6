/-! BOTH TOGETHER: what stands between two calls -/
def CR (I A : St) : Prop := I 0 6 = nI (nrN A) ∧ ∀ r, r < nrN A → RX I (29 + r) (ruN A r)
def CT (I A : St) : Prop := I 1 1 = nI (txN A) ∧ I 1 5 = A 67 16 ∧ ∀ i, i < txN A → ∃ b, b < 256 ∧ A 76 i = nI b ∧ I 2 i = (nI b).toInt8.toInt32
def CL (I A : St) : Prop := I 34 3 = nI (lgN A) ∧ ∀ i, i < lgN A → I 37 i = A 90 i
def CI (I A : St) : Prop := ∀ i, i < 2 → I (39 + 4 * i) 5 = A 94 i ∧ (A 94 i = nI 1 → (∀ s, s < nsN A → I (40 + 4 * i) s = A 93 (60 * i + 2 + s) ∧ I (41 + 4 * i) s = A 93 (60 * i + 8 + s)) ∧ (∀ s, nsN A ≤ s → s < 6 → I (40 + 4 * i) s = nI 0) ∧ I (39 + 4 * i) 3 = A 93 (60 * i) ∧ I (39 + 4 * i) 4 = A 93 (60 * i + 1) ∧ ∀ k, k < (A 93 (60 * i)).toNatClampNeg → I (42 + 4 * i) k = A 93 (60 * i + 14 + k))
def CP (I A : St) : Prop := CS I A ∧ CH I A ∧ CR I A ∧ CT I A ∧ CL I A ∧ CI I A
def INV (I A : St) : Prop := MC I A ∧ WF A ∧ CA I A ∧ CXc I A ∧ CP I A ∧ ∃ s, s < 2 ^ 31 ∧ I 67 60 = nI s ∧ I 34 4 = nI s
/-- the class's cells that last; its scratch -/
abbrev cpK : List Nat := csK ++ [0, 1, 2, 29, 30, 31, 32, 34, 35, 36, 37, 39, 40, 41, 42, 43, 44, 45, 46]
abbrev qxK : List Nat := crK ++ ([52] ++ (cnK ++ (jK ++ ([57] ++ (coK ++ [33, 66])))))
theorem CP.fr {I I' A : St} (h : CP I A) (hW : WFs A) (hR : nrN A ≤ 4) {K F : List Nat} (f : Fr K F I I') (hK : ∀ k, k ∈ cpK → k ∉ K) : CP I' A := by
  obtain ⟨h1, h2, h3, h4, h5, h6⟩ := h
  have e : ∀ k, k ∈ cpK → I' k = I k := fun k hk => f.at (hK k hk) (fun q => by subst q; exact absurd hk (by decide))
  refine ⟨h1.fr hW f fun k hk => hK k (List.mem_append_left _ hk), h2.fr f (hK _ (by decide)) (hK _ (by decide)), ⟨?_, fun r hr => ?_⟩, ⟨?_, ?_, ?_⟩, ⟨?_, ?_⟩, fun i hi => ?_⟩
  · rw [e 0 (by decide)]; exact h3.1
  · have hr4 : r = 0 ∨ r = 1 ∨ r = 2 ∨ r = 3 := by omega
    have := h3.2 r hr
    unfold RX at this ⊢
    rcases hr4 with rfl | rfl | rfl | rfl
    · rw [e (29 + 0) (by decide)]; exact this
    · rw [e (29 + 1) (by decide)]; exact this
    · rw [e (29 + 2) (by decide)]; exact this
    · rw [e (29 + 3) (by decide)]; exact this
  · rw [e 1 (by decide)]; exact h4.1
  · rw [e 1 (by decide)]; exact h4.2.1
  · rw [e 2 (by decide)]; exact h4.2.2
  · rw [e 34 (by decide)]; exact h5.1
  · rw [e 37 (by decide)]; exact h5.2
  · have hi2 : i = 0 ∨ i = 1 := by omega
    have := h6 i hi
    rcases hi2 with rfl | rfl
    · rw [e (39 + 4 * 0) (by decide), e (40 + 4 * 0) (by decide), e (41 + 4 * 0) (by decide), e (42 + 4 * 0) (by decide)]; exact this
    · rw [e (39 + 4 * 1) (by decide), e (40 + 4 * 1) (by decide), e (41 + 4 * 1) (by decide), e (42 + 4 * 1) (by decide)]; exact this
theorem CXc.fr {I I' A : St} (h : CXc I A) {K F : List Nat} (f : Fr K F I I') (h1 : 47 ∉ K) (h2 : 48 ∉ K) : CXc I' A := by
  unfold CXc PK
  rw [f.at h1 (by decide), f.at h2 (by decide)]
  exact h
theorem nr4 {A : St} (hW : WF A) : nrN A ≤ 4 := hW.2.2.2.2.1.2
/-- behind a query of the class -/
theorem INV.x {I I' A : St} (h : INV I A) (f : Fr qxK [] I I') (c : CXc I' A) : INV I' A := by
  obtain ⟨h1, h2, h3, h4, h5, s, h6, h7, h8⟩ := h
  refine ⟨h1.fr f (by decide) (by decide +kernel) (by decide +kernel), h2, h3.fr f (by decide +kernel) (by decide +kernel) (by decide), c, h5.fr h2.1 (nr4 h2) f (by decide +kernel), s, h6, ?_, ?_⟩
  · rw [f.f (by decide +kernel) (by decide)]; exact h7
  · rw [f.at (by decide +kernel) (by decide)]; exact h8
/-- behind a query of the reference -/
theorem INV.m {I I' A : St} (h : INV I A) (q : Qm A I I') : INV I' A := by
  have h1' := q.MC h.1
  obtain ⟨h1, h2, h3, h4, h5, s, h6, h7, h8⟩ := h
  obtain ⟨f, c⟩ := q
  refine ⟨h1', h2, c, h4.fr f (by decide) (by decide), h5.fr h2.1 (nr4 h2) f (by decide +kernel), s, h6, ?_, ?_⟩
  · rw [f.f (by decide) (by decide)]; exact h7
  · rw [f.at (by decide) (by decide)]; exact h8
/-- one call of each, alike -/
def STEP (I : St) (L : Lt) (ru : Nat) (fx fm : Wd → Option (Int32 × Wd)) : Prop := ∃ v w1 I' L' ru' A', fx (mW I L ru) = some (v, w1) ∧ fm w1 = some (v, mW I' L' ru') ∧ wsh w1 = nwS ∧ INV I' A'
section
variable {I A : St} {L : Lt} {ru n : Nat} {fx fm : Wd → Option (Int32 × Wd)}
theorem STEP.same (hI : INV I A) {v : Int32} (h1 : fx (mW I L ru) = some (v, mW I L ru)) (h2 : fm (mW I L ru) = some (v, mW I L ru)) : STEP I L ru fx fm := ⟨v, _, I, L, ru, A, h1, h2, rfl, hI⟩
theorem STEP.q (hI : INV I A) {v : Int32} (h1 : ∃ I1 L1 ru1, fx (mW I L ru) = some (v, mW I1 L1 ru1) ∧ Fr qxK [] I I1 ∧ CXc I1 A) (h2 : ∀ I1 L1 ru1, MC I1 A → WF A → CA I1 A → ∃ I2, fm (mW I1 L1 ru1) = some (v, mW I2 L1 ru1) ∧ Qm A I1 I2) : STEP I L ru fx fm := by
  obtain ⟨I1, L1, ru1, e1, f1, c1⟩ := h1
  have hI1 := hI.x f1 c1
  obtain ⟨I2, e2, q2⟩ := h2 I1 L1 ru1 hI1.1 hI1.2.1 hI1.2.2.1
  exact ⟨v, _, I2, L1, ru1, A, e1, e2, rfl, hI1.m q2⟩
/-- the same, where what is answered is told by a property -/
theorem STEP.p (hI : INV I A) {P : Int32 → Prop} (hP : ∀ a b, P a → P b → a = b) (h1 : ∃ v I1 L1 ru1, fx (mW I L ru) = some (v, mW I1 L1 ru1) ∧ Fr qxK [] I I1 ∧ CXc I1 A ∧ P v) (h2 : ∀ I1 L1 ru1, MC I1 A → WF A → CA I1 A → ∃ I2 v, fm (mW I1 L1 ru1) = some (v, mW I2 L1 ru1) ∧ Qm A I1 I2 ∧ P v) : STEP I L ru fx fm := by
  obtain ⟨v, I1, L1, ru1, e1, f1, c1, p1⟩ := h1
  have hI1 := hI.x f1 c1
  obtain ⟨I2, v2, e2, q2, p2⟩ := h2 I1 L1 ru1 hI1.1 hI1.2.1 hI1.2.2.1
  have := hP _ _ p1 p2
  subst this
  exact ⟨v, _, I2, L1, ru1, A, e1, e2, rfl, hI1.m q2⟩
/-! the class's arguments -/
theorem x_noHeading {j : Nat} (h : j < 8) (w : Wd) : f90 (nI j) w = some (nI 0, w) := by
  simp (config := { maxSteps := 2000000 }) (disch := omega) only [f90, lit_nI, s0i, obS, true_or, reduceIte]
theorem x_noHeadingo {x : Int32} (h : x < nI 0 ∨ nI 8 ≤ x) (w : Wd) : f90 x w = some (nI 1, w) := by
  have e : nI 8 - nI 1 = nI 7 := by decide +kernel
  have e2 := s0co (x := x) (w := w) (n := 8) (by decide) h
  rw [e] at e2
  simp only [f90, lit_nI, e2, obS, or_true, reduceIte]
theorem x_noHour {j : Nat} (h : j < 1000) (w : Wd) : f91 (nI j) w = some (nI 0, w) := by
  simp (config := { maxSteps := 2000000 }) (disch := omega) only [f91, lit_nI, s0i, obS, true_or, reduceIte]
theorem x_noHouro {x : Int32} (h : x < nI 0 ∨ nI 1000 ≤ x) (w : Wd) : f91 x w = some (nI 1, w) := by
  have e : nI 1000 - nI 1 = nI 999 := by decide +kernel
  have e2 := s0co (x := x) (w := w) (n := 1000) (by decide) h
  rw [e] at e2
  simp only [f91, lit_nI, e2, obS, or_true, reduceIte]
theorem x_noTurn {k : Nat} (h : k < 3) (w : Wd) : f92 (tI k) w = some (nI 0, w) := by
  have e := s0t (w := w) h
  simp only [f92, lit_nI, e, obS, true_or, reduceIte]
theorem x_noTurno {x : Int32} (h : x < -nI 1 ∨ nI 1 < x) (w : Wd) : f92 x w = some (nI 1, w) := by
  have e := s0to (w := w) h
  simp only [f92, lit_nI, e, obS, or_true, reduceIte]
theorem x_noSort (hS : CS I A) (hW : WFs A) {j : Nat} (h : j < nsN A) : f85 0 (nI j) (mW I L ru) = some (nI 0, mW I L ru) := by
  have h6 := ns6 hW
  have e := s0ci (w := mW I L ru) (n := nsN A) (by omega) h
  simp only [f85, ux_at, ux_kk, ux_jo, gIx, pIx, pZx, gRx, aIx, sIx, aBx, sBx, lenx, clx, wshS, obS, reduceIte, lit_nI, csA hS, e, true_or]
theorem x_noSorto (hS : CS I A) (hW : WFs A) {x : Int32} (h : x < nI 0 ∨ nI (nsN A) ≤ x) : f85 0 x (mW I L ru) = some (nI 1, mW I L ru) := by
  have h6 := ns6 hW
  have e := s0co (x := x) (w := mW I L ru) (n := nsN A) (by omega) h
  simp only [f85, ux_at, ux_kk, ux_jo, gIx, pIx, pZx, gRx, aIx, sIx, aBx, sBx, lenx, clx, wshS, obS, reduceIte, lit_nI, csA hS, e, or_true]
theorem x_noSet (hS : CS I A) (hW : WFs A) {j : Nat} (h : j < 2 ^ nsN A) : f83 0 (nI j) (mW I L ru) = some (nI 0, mW I L ru) := by
  have h6 := ns6 hW
  have h7 := p2_le (nsN A) (by omega)
  have e := s0ci (w := mW I L ru) (n := 2 ^ nsN A) (by omega) h
  simp only [f83, ux_at, ux_kk, ux_jo, gIx, pIx, pZx, gRx, aIx, sIx, aBx, sBx, lenx, clx, wshS, obS, reduceIte, lit_nI, csA hS, shl_nI (nsN A) (by omega), e, true_or]
theorem x_noSeto (hS : CS I A) (hW : WFs A) {x : Int32} (h : x < nI 0 ∨ nI (2 ^ nsN A) ≤ x) : f83 0 x (mW I L ru) = some (nI 1, mW I L ru) := by
  have h6 := ns6 hW
  have h7 := p2_le (nsN A) (by omega)
  have e := s0co (x := x) (w := mW I L ru) (n := 2 ^ nsN A) (by omega) h
  simp only [f83, ux_at, ux_kk, ux_jo, gIx, pIx, pZx, gRx, aIx, sIx, aBx, sBx, lenx, clx, wshS, obS, reduceIte, lit_nI, csA hS, shl_nI (nsN A) (by omega), e, or_true]
theorem x_noRule (hR : CR I A) (hW : WF A) {j : Nat} (h : j < nrN A) : f98 0 (nI j) (mW I L ru) = some (nI 0, mW I L ru) := by
  have h4 := nr4 hW
  have e := s0ci (w := mW I L ru) (n := nrN A) (by omega) h
  have h5 : j < 4 := by omega
  have hl := len_of (I := I) (L := L) (ru := ru) sh_28 (by decide)
  simp (config := { maxSteps := 2000000 }) (disch := omega) only [f98, ux_at, ux_kk, ux_jo, gIx, pIx, pZx, gRx, aIx, sIx, aBx, sBx, lenx, clx, wshS, obS, reduceIte, Nat.one_ne_zero, Nat.zero_ne_one, Nat.reduceEqDiff, not_true_eq_false, not_false_eq_true, Nat.le_refl, ng_le, ng_lt, ng_nle, ng_nlt, ng_eq, ng_eq2, Bool.false_eq_true, lit_nI, nI_add, pk_mul, nI_leI, nI_ltI, nI_eq, hR.1, e, hl, h5]
theorem x_noRuleo (hR : CR I A) (hW : WF A) {x : Int32} (h : x < nI 0 ∨ nI (nrN A) ≤ x) : f98 0 x (mW I L ru) = some (nI 1, mW I L ru) := by
  have h4 := nr4 hW
  have e := s0co (x := x) (w := mW I L ru) (n := nrN A) (by omega) h
  simp (config := { maxSteps := 2000000 }) (disch := omega) only [f98, ux_at, ux_kk, ux_jo, gIx, pIx, pZx, gRx, aIx, sIx, aBx, sBx, lenx, clx, wshS, obS, reduceIte, Nat.one_ne_zero, Nat.zero_ne_one, Nat.reduceEqDiff, not_true_eq_false, not_false_eq_true, Nat.le_refl, ng_le, ng_lt, ng_nle, ng_nlt, ng_eq, ng_eq2, Bool.false_eq_true, lit_nI, nI_add, pk_mul, nI_leI, nI_ltI, nI_eq, hR.1, e]
theorem x_noImage {j : Nat} (h : j < 2) : f108 0 (nI j) (mW I L ru) = some (nI 0, mW I L ru) := by
  have hl := len_of (I := I) (L := L) (ru := ru) sh_38 (by decide)
  simp (config := { maxSteps := 2000000 }) (disch := omega) only [f108, ux_at, ux_kk, ux_jo, gIx, pIx, pZx, gRx, aIx, sIx, aBx, sBx, lenx, clx, wshS, obS, reduceIte, Nat.one_ne_zero, Nat.zero_ne_one, Nat.reduceEqDiff, not_true_eq_false, not_false_eq_true, Nat.le_refl, ng_le, ng_lt, ng_nle, ng_nlt, ng_eq, ng_eq2, Bool.false_eq_true, lit_nI, nI_add, pk_mul, nI_leI, nI_ltI, nI_eq, s0i, hl, h]
theorem x_noImageo {x : Int32} (h : x < nI 0 ∨ nI 2 ≤ x) : f108 0 x (mW I L ru) = some (nI 1, mW I L ru) := by
  have e1 : nI 2 - nI 1 = nI 1 := by decide +kernel
  have e := s0co (x := x) (w := mW I L ru) (n := 2) (by decide) h
  rw [e1] at e
  simp (config := { maxSteps := 2000000 }) (disch := omega) only [f108, ux_at, ux_kk, ux_jo, gIx, pIx, pZx, gRx, aIx, sIx, aBx, sBx, lenx, clx, wshS, obS, reduceIte, Nat.one_ne_zero, Nat.zero_ne_one, Nat.reduceEqDiff, not_true_eq_false, not_false_eq_true, Nat.le_refl, ng_le, ng_lt, ng_nle, ng_nlt, ng_eq, ng_eq2, Bool.false_eq_true, lit_nI, nI_add, pk_mul, nI_leI, nI_ltI, nI_eq, e]
theorem p2_set {m s k : Nat} (h : m < 2 ^ k) (hs : m.testBit s = true) : s < k := by
  refine Nat.lt_of_not_le fun z => ?_
  have h2 : 2 ^ k ≤ 2 ^ s := Nat.pow_le_pow_right (by decide) z
  rw [Nat.testBit_lt_two_pow (by omega)] at hs
  exact absurd hs (by decide)
theorem rr_nK {r : Nat} {K : List Nat} (h : nwS r = some (5, 5)) (hK : ∀ k, k ∈ K → k < 95 ∧ nw_shl[k]? ≠ some (some (5, 5))) : r ∉ K := fun z => by
  obtain ⟨a, b⟩ := hK r z
  rw [← nw_sh a, h] at b
  exact b rfl
/-- a run by a rule -/
abbrev slK : List Nat := crK ++ ([52] ++ (cnK ++ jK))
theorem x_xsail (hS : CS I A) (hH : CH I A) (hC : CXc I A) (hW : WF A) {ρ : Nat → Nat} {r : Nat} (hr : nwS r = some (5, 5)) (hX : RX I r ρ) (hR : RK ρ) {hours : Nat} (ho : hours ≤ 400) (hn : 1000 < n) :
    ∃ I', f221 n 0 r (nI hours) (-nI 1) (mW I L ru) = some (mW I' L r) ∧ Fr slK [] I I' ∧ I' 47 2 = nI 1 ∧ PK I' A ∧ JN I' A (lagN A) (shS A ρ (lagN A)) (rnT A ρ (lagN A) (shN A) (hdN A)) (gonN A (shS A ρ (lagN A)) hours) := by
  obtain ⟨o1, o2, o3⟩ := ship_ok hW.1
  obtain ⟨I1, e1, f1, c1, p1⟩ := x_ready (L := L) (ru := ru) (n := n) hS hH hW hC hn
  have hS1 := hS.fr hW.1 f1 (by decide)
  have hH1 := hH.fr f1 (by decide) (by decide)
  have hX1 := hX.fr f1 (rr_nK hr (by decide)) (rr_ne hr)
  obtain ⟨I2, e2, f2, n2⟩ := x_begin (I := I1) (A := A) (L := L) (ru := ru) (n := n) (m := 0) hr hX1 hn
  have hS2 := hS1.fr hW.1 f2 (by decide)
  have hH2 := hH1.fr f2 (by decide) (by decide)
  have p2 : PK I2 A := fun p hp => by
    rw [f2.at (by decide) (by decide)]
    exact p1 p hp
  obtain ⟨I3, e3, f3, j3, -⟩ := x_sail (L := L) (n := n) (hours := hours) hS2 hH2 p2 hW n2 hR (rr_nK hr (by decide)) o1 o2 o3 ho (by omega)
  have e4 := x_start (L := L) (ru := r) hS2 hW.1
  refine ⟨I3, ?_, (f1.mono (by decide) (by decide)).tr ((f2.mono (by decide) (by decide)).tr (f3.mono (by decide) (by decide))), ?_, ?_, j3⟩
  · simp (config := { maxSteps := 2000000 }) (disch := omega) only [f221, ux_at, ux_kk, ux_jo, gIx, pIx, pZx, gRx, aIx, sIx, aBx, sBx, lenx, clx, wshS, obS, reduceIte, Nat.one_ne_zero, Nat.zero_ne_one, Nat.reduceEqDiff, not_true_eq_false, not_false_eq_true, Nat.le_refl, ng_le, ng_lt, ng_nle, ng_nlt, ng_eq, ng_eq2, Bool.false_eq_true, lit_nI, nI_add, pk_mul, nI_leI, nI_ltI, nI_eq, e1, e2, e4, e3]
  · rw [f3.at (by decide) (by decide), f2.at (by decide) (by decide)]
    exact c1
  · intro p hp
    rw [f3.at (by decide) (by decide)]
    exact p2 p hp
end
