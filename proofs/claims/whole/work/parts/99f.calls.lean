/-! BOTH TOGETHER: gains, pacts -/
abbrev gdK : List Nat := crK ++ ([52] ++ cfK)
theorem sumI_tail {f : Nat → Int32} {a : Nat} (h : ∀ i, a ≤ i → f i = nI 0) : ∀ d, sumI f (a + d) = sumI f a
  | 0 => rfl
  | d + 1 => by
    have e : sumI f (a + (d + 1)) = sumI f (a + d) + f (a + d) := rfl
    rw [e, sumI_tail h d, h _ (by omega)]
    exact Int32.add_zero _
theorem sumN_tail {f : Nat → Nat} {a : Nat} (h : ∀ i, a ≤ i → f i = 0) : ∀ d, sumN f (a + d) = sumN f a
  | 0 => rfl
  | d + 1 => by
    have e : sumN f (a + (d + 1)) = sumN f (a + d) + f (a + d) := rfl
    rw [e, sumN_tail h d, h _ (by omega)]
    rfl
theorem dec_bc : ∀ m, m < 64 → (f36 (nI m) W0).map (fun o => o.1) = some (nI (bcN m 6)) := by decide +kernel
theorem pu_bc (v : Int32) : PU (f36 v) := by
  unfold f36
  exact PU_some _
theorem x_bitCount {A : St} (hW : WFs A) {m : Nat} (hm : m < 2 ^ nsN A) (w : Wd) : f36 (nI m) w = some (nI (bcN m (nsN A)), w) := by
  have h6 := ns6 hW
  have h7 := p2_le (nsN A) (by omega)
  have e : bcN m 6 = bcN m (nsN A) := by
    have := sumN_tail (f := fun s => bN m s) (a := nsN A) (fun i hi => by
      show (if m.testBit i then 1 else 0) = 0
      rw [if_neg]
      intro z
      have := p2_set hm z
      omega) (6 - nsN A)
    rw [show nsN A + (6 - nsN A) = 6 by omega] at this
    exact this
  rw [← e]
  exact PU_val (pu_bc _) (dec_bc m (by omega)) w
section
variable {I A : St} {L : Lt} {ru n : Nat}
theorem opt_cnt (hW : WF A) {ρ : Nat → Nat} {m r : Nat} (hR : RK ρ) (hm : m < 64) (hmn : ∀ s, m.testBit s = true → s < nsN A) (hn : 100 < n) : OPT A (mayN A ρ m) n r (fun J => CS J A ∧ CH J A ∧ PK J A ∧ CN J A ρ m r) :=
  ⟨fun J h => h.1, fun J J' h f => ⟨h.1.fr hW.1 f (by decide), h.2.1.fr f (by decide) (by decide), h.2.2.1.fr f (by decide), h.2.2.2.fr f (rr_nK h.2.2.2.1 (by decide)) (rr_ne h.2.2.2.1) (by decide) (by decide)⟩, fun J L h c hd hour hc hh ho => by
    obtain ⟨J', e, f, c'⟩ := x_options (L := L) (n := n) h.1 h.2.1 h.2.2.1 hW h.2.2.2 hR hm hmn hc hh (show hour < 1000 by omega) hn
    exact ⟨J', e, f, ⟨h.1.fr hW.1 f (by decide), h.2.1.fr f (by decide) (by decide), h.2.2.1.fr f (by decide), c'⟩, mayN_lt hR _ _ _ _, may_nz hR⟩⟩
theorem x_gained (hS : CS I A) (hH : CH I A) (hC : CXc I A) (hW : WF A) {ρ : Nat → Nat} {r : Nat} (hr : nwS r = some (5, 5)) (hX : RX I r ρ) (hR : RK ρ) {m t : Nat} (hm : m < 2 ^ nsN A) (ht1 : 1 ≤ t) (ht : t ≤ 24) (hn : 1000 < n) :
    ∃ I' L', f224 n 0 r (nI m) (nI t) (mW I L ru) = some (gnI A ρ m t, mW I' L' r) ∧ Fr gdK [] I I' ∧ I' 47 2 = nI 1 ∧ PK I' A := by
  have h6 := ns6 hW.1
  have h7 := p2_le (nsN A) (by omega)
  obtain ⟨o1, o2, o3⟩ := ship_ok hW.1
  obtain ⟨I1, e1, f1, c1, p1⟩ := x_ready (L := L) (ru := ru) (n := n) hS hH hW hC hn
  have hS1 := hS.fr hW.1 f1 (by decide)
  have hH1 := hH.fr f1 (by decide) (by decide)
  have hX1 := hX.fr f1 (rr_nK hr (by decide)) (rr_ne hr)
  obtain ⟨I2, e2, f2, n2⟩ := x_begin (I := I1) (A := A) (L := L) (ru := ru) (n := n) (m := m) hr hX1 hn
  have hS2 := hS1.fr hW.1 f2 (by decide)
  have e4 := x_start (L := L) (ru := r) hS2 hW.1
  obtain ⟨I3, L3, R3, e3, f3, q3, -, -, -⟩ := x_greatest (L := L) (n := n) (m := m) (h := hdN A) (opt_cnt hW (m := m) (r := r) hR (by omega) (fun s hs => p2_set hm hs) (show 100 < n by omega)) hW.1 (I := I2) ⟨hS2, hH1.fr f2 (by decide) (by decide), p1.fr f2 (by decide), n2⟩ (by omega) o1 o2 o3 ht1 ht hn
  have hX3 := (hX1.fr f2 (rr_nK hr (by decide)) (rr_ne hr)).fr f3 (rr_nK hr (by decide)) (rr_ne hr)
  obtain ⟨I4, e5, f4, n4⟩ := x_begin (I := I3) (A := A) (L := L3) (ru := r) (n := n) (m := 0) hr hX3 hn
  have hS4 := q3.1.fr hW.1 f4 (by decide)
  have e6 := x_start (L := L3) (ru := r) hS4 hW.1
  obtain ⟨I5, L5, R5, e7, f5, q5, -, -, -⟩ := x_greatest (L := L3) (n := n) (m := m) (h := hdN A) (opt_cnt hW (m := 0) (r := r) hR (by decide) (fun s hs => by rw [Nat.zero_testBit] at hs; exact absurd hs (by decide)) (show 100 < n by omega)) hW.1 (I := I4) ⟨hS4, q3.2.1.fr f4 (by decide) (by decide), q3.2.2.1.fr f4 (by decide), n4⟩ (by omega) o1 o2 o3 ht1 ht hn
  rw [best_val hW.1 hR o1 o2 o3] at e7
  refine ⟨I5, L5, ?_, (f1.mono (by decide +kernel) (by decide)).tr ((f2.mono (by decide +kernel) (by decide)).tr ((f3.mono (by decide +kernel) (by decide)).tr ((f4.mono (by decide +kernel) (by decide)).tr (f5.mono (by decide +kernel) (by decide))))), ?_, q5.2.2.1⟩
  · simp (config := { maxSteps := 2000000 }) (disch := omega) only [f224, ux_at, ux_kk, ux_jo, gIx, pIx, pZx, gRx, aIx, sIx, aBx, sBx, lenx, clx, wshS, obS, reduceIte, Nat.one_ne_zero, Nat.zero_ne_one, Nat.reduceEqDiff, not_true_eq_false, not_false_eq_true, Nat.le_refl, ng_le, ng_lt, ng_nle, ng_nlt, ng_eq, ng_eq2, Bool.false_eq_true, lit_nI, nI_add, pk_mul, nI_leI, nI_ltI, nI_eq, e1, e2, e4, e3, e5, e6, e7]
    rfl
  · rw [f5.at (by decide) (by decide), f4.at (by decide) (by decide), f3.at (by decide) (by decide), f2.at (by decide) (by decide)]
    exact c1
theorem q_gain (hI : INV I A) (x y z : Int32) (hn : 1000 < n) : STEP I L ru (f239 n 0 x y z) (f255 n 67 x y z) := by
  have hI9 := hI
  obtain ⟨hM, hW, hC, hX, ⟨hS, hH, hR, hT, hL, hG⟩, sd, hsd, hs1, hs2⟩ := hI9
  have h6 := ns6 hW.1
  have h7 := p2_le (nsN A) (by omega)
  have h4 := nr4 hW
  rcases ixc x (n := nrN A) (by omega) with hx | ⟨r, hr, rfl⟩
  · exact STEP.same hI (v := -nI 1000001) (by simp (config := { maxSteps := 2000000 }) (disch := omega) only [f239, ux_at, ux_kk, ux_jo, gIx, pIx, pZx, gRx, aIx, sIx, aBx, sBx, lenx, clx, wshS, obS, reduceIte, Nat.one_ne_zero, Nat.zero_ne_one, Nat.reduceEqDiff, not_true_eq_false, not_false_eq_true, Nat.le_refl, ng_le, ng_lt, ng_nle, ng_nlt, ng_eq, ng_eq2, Bool.false_eq_true, lit_nI, nI_add, pk_mul, nI_leI, nI_ltI, nI_eq, x_noRuleo hR hW hx]) (by simp (config := { maxSteps := 2000000 }) (disch := omega) only [f255, ux_at, ux_kk, ux_jo, gIm, pIm, pZm, gRm, aIm, sIm, aBm, sBm, gLm, pLm, clm, wshS, obS, reduceIte, Nat.one_ne_zero, Nat.zero_ne_one, Nat.reduceEqDiff, not_true_eq_false, not_false_eq_true, Nat.le_refl, ng_le, ng_lt, ng_nle, ng_nlt, ng_eq, ng_eq2, Bool.false_eq_true, lit_nI, nI_add, pk_mul, nI_leI, nI_ltI, nI_eq, s126o hM hW.2 hx])
  rcases ixc y (n := 2 ^ nsN A) (by omega) with hy | ⟨m, hm, rfl⟩
  · exact STEP.same hI (v := -nI 1000001) (by simp (config := { maxSteps := 2000000 }) (disch := omega) only [f239, ux_at, ux_kk, ux_jo, gIx, pIx, pZx, gRx, aIx, sIx, aBx, sBx, lenx, clx, wshS, obS, reduceIte, Nat.one_ne_zero, Nat.zero_ne_one, Nat.reduceEqDiff, not_true_eq_false, not_false_eq_true, Nat.le_refl, ng_le, ng_lt, ng_nle, ng_nlt, ng_eq, ng_eq2, Bool.false_eq_true, lit_nI, nI_add, pk_mul, nI_leI, nI_ltI, nI_eq, x_noRule hR hW hr, x_noSeto hS hW.1 hy]) (by simp (config := { maxSteps := 2000000 }) (disch := omega) only [f255, ux_at, ux_kk, ux_jo, gIm, pIm, pZm, gRm, aIm, sIm, aBm, sBm, gLm, pLm, clm, wshS, obS, reduceIte, Nat.one_ne_zero, Nat.zero_ne_one, Nat.reduceEqDiff, not_true_eq_false, not_false_eq_true, Nat.le_refl, ng_le, ng_lt, ng_nle, ng_nlt, ng_eq, ng_eq2, Bool.false_eq_true, lit_nI, nI_add, pk_mul, nI_leI, nI_ltI, nI_eq, s126 hM hW.2 hr, s119o hM hW.1 hy])
  rcases ixr z (a := 1) (b := 24) (by decide) (by decide) with hz | ⟨t, ht1, ht, rfl⟩
  · exact STEP.same hI (v := -nI 1000002) (by simp (config := { maxSteps := 2000000 }) (disch := omega) only [f239, ux_at, ux_kk, ux_jo, gIx, pIx, pZx, gRx, aIx, sIx, aBx, sBx, lenx, clx, wshS, obS, reduceIte, Nat.one_ne_zero, Nat.zero_ne_one, Nat.reduceEqDiff, not_true_eq_false, not_false_eq_true, Nat.le_refl, ng_le, ng_lt, ng_nle, ng_nlt, ng_eq, ng_eq2, Bool.false_eq_true, lit_nI, nI_add, pk_mul, nI_leI, nI_ltI, nI_eq, x_noRule hR hW hr, x_noSet hS hW.1 hm, s0o hz]) (by simp (config := { maxSteps := 2000000 }) (disch := omega) only [f255, ux_at, ux_kk, ux_jo, gIm, pIm, pZm, gRm, aIm, sIm, aBm, sBm, gLm, pLm, clm, wshS, obS, reduceIte, Nat.one_ne_zero, Nat.zero_ne_one, Nat.reduceEqDiff, not_true_eq_false, not_false_eq_true, Nat.le_refl, ng_le, ng_lt, ng_nle, ng_nlt, ng_eq, ng_eq2, Bool.false_eq_true, lit_nI, nI_add, pk_mul, nI_leI, nI_ltI, nI_eq, s126 hM hW.2 hr, s119 hM hW.1 hm, s131o hz])
  have hRK := (ruN_at hW.2 hr).1
  obtain ⟨I1, L1, e1, f1, c1, p1⟩ := x_gained (L := L) (ru := ru) (n := n) hS hH hX hW (ruleRS r (by omega)) (hR.2 r hr) hRK hm ht1 ht hn
  refine STEP.q hI (v := gnI A (ruN A r) m t) ⟨I1, L1, 29 + r, ?_, f1.mono (by decide +kernel) (by decide), Or.inr ⟨c1, p1⟩⟩ fun I2 L2 ru2 hM2 _ hC2 => m255 hM2 hW hC2 hr hm ht1 ht (by omega)
  simp (config := { maxSteps := 2000000 }) (disch := omega) only [f239, ux_at, ux_kk, ux_jo, gIx, pIx, pZx, gRx, aIx, sIx, aBx, sBx, lenx, clx, wshS, obS, reduceIte, Nat.one_ne_zero, Nat.zero_ne_one, Nat.reduceEqDiff, not_true_eq_false, not_false_eq_true, Nat.le_refl, ng_le, ng_lt, ng_nle, ng_nlt, ng_eq, ng_eq2, Bool.false_eq_true, lit_nI, nI_add, pk_mul, nI_leI, nI_ltI, nI_eq, x_noRule hR hW hr, x_noSet hS hW.1 hm, s0i, ruleR, e1]
theorem l240 (hW : WFs A) {i : Nat} {g : Nat → Int32} (hi : i < 2 ^ nsN A) (hO : ∀ s, s < nsN A → I 66 s = g s) (hn : 1000 < n) {rec43 : _} {K43 : _} {K59 : Nat → Int32 → Int32 → Int32 → Int32 → Wd → Option (Int32 × Wd)} {v1 v2 : Int32} : f240_H104 n rec43 K43 K59 n 0 v1 v2 (nI i) (nI 0) (nI 0) (mW I L ru) = K59 0 v1 v2 (nI i) (sumI (fun s => if i.testBit s then g s else nI 0) 6) (mW I L ru) := by
  have h6 := ns6 hW
  have h7 := p2_le (nsN A) (by omega)
  refine lpE (F := fun k2 s (a : Int32) => f240_H104 n rec43 K43 K59 k2 0 v1 v2 (nI i) a (nI s) (mW I L ru)) (J := fun s => sumI (fun s => if i.testBit s then g s else nI 0) s) 6 ?_ ?_ n 0 (by omega) (by omega)
  · intro k2
    simp (config := { maxSteps := 2000000 }) (disch := omega) only [f240_H104, ux_at, ux_kk, ux_jo, gIx, pIx, pZx, gRx, aIx, sIx, aBx, sBx, lenx, clx, wshS, obS, reduceIte, Nat.one_ne_zero, Nat.zero_ne_one, Nat.reduceEqDiff, not_true_eq_false, not_false_eq_true, Nat.le_refl, ng_le, ng_lt, ng_nle, ng_nlt, ng_eq, ng_eq2, Bool.false_eq_true, lit_nI, nI_add, pk_mul, nI_leI, nI_ltI, nI_eq]
  · intro k2 s hs
    have hs2 : ¬ 6 ≤ s := by omega
    have es : ∀ f : Nat → Int32, sumI f (s + 1) = sumI f s + f s := fun _ => rfl
    rw [es]
    by_cases b : i.testBit s = true
    · have ea := hO s (p2_set hi b)
      rw [if_pos b]
      simp (config := { maxSteps := 2000000 }) (disch := omega) only [f240_H104, ux_at, ux_kk, ux_jo, gIx, pIx, pZx, gRx, aIx, sIx, aBx, sBx, lenx, clx, wshS, obS, reduceIte, Nat.one_ne_zero, Nat.zero_ne_one, Nat.reduceEqDiff, not_true_eq_false, not_false_eq_true, Nat.le_refl, ng_le, ng_lt, ng_nle, ng_nlt, ng_eq, ng_eq2, Bool.false_eq_true, lit_nI, nI_add, pk_mul, nI_leI, nI_ltI, nI_eq, hs2, x_holds, bN, b, ea]
    · have ez : ∀ a : Int32, a + nI 0 = a := fun a => Int32.add_zero a
      rw [if_neg b, ez]
      simp (config := { maxSteps := 2000000 }) (disch := omega) only [f240_H104, ux_at, ux_kk, ux_jo, gIx, pIx, pZx, gRx, aIx, sIx, aBx, sBx, lenx, clx, wshS, obS, reduceIte, Nat.one_ne_zero, Nat.zero_ne_one, Nat.reduceEqDiff, not_true_eq_false, not_false_eq_true, Nat.le_refl, ng_le, ng_lt, ng_nle, ng_nlt, ng_eq, ng_eq2, Bool.false_eq_true, lit_nI, nI_add, pk_mul, nI_leI, nI_ltI, nI_eq, hs2, x_holds, bN, b]
abbrev pcK : List Nat := gdK ++ [66]
/-- what lasts while pacts are looked at -/
def PCT (I J A : St) : Prop := Fr pcK [] I J ∧ CXc J A
theorem q_pact (hI : INV I A) (x y : Int32) (hn : 1000 < n) : STEP I L ru (f240 n 0 x y) (f256 n 67 x y) := by
  have hI9 := hI
  obtain ⟨hM, hW, hC, hX, ⟨hS, hH, hR, hT, hL, hG⟩, sd, hsd, hs1, hs2⟩ := hI9
  have h6 := ns6 hW.1
  have h7 := p2_le (nsN A) (by omega)
  have h4 := nr4 hW
  rcases ixc x (n := nrN A) (by omega) with hx | ⟨r, hr, rfl⟩
  · exact STEP.same hI (v := -nI 1000001) (by simp (config := { maxSteps := 2000000 }) (disch := omega) only [f240, ux_at, ux_kk, ux_jo, gIx, pIx, pZx, gRx, aIx, sIx, aBx, sBx, lenx, clx, wshS, obS, reduceIte, Nat.one_ne_zero, Nat.zero_ne_one, Nat.reduceEqDiff, not_true_eq_false, not_false_eq_true, Nat.le_refl, ng_le, ng_lt, ng_nle, ng_nlt, ng_eq, ng_eq2, Bool.false_eq_true, lit_nI, nI_add, pk_mul, nI_leI, nI_ltI, nI_eq, x_noRuleo hR hW hx]) (by simp (config := { maxSteps := 2000000 }) (disch := omega) only [f256, ux_at, ux_kk, ux_jo, gIm, pIm, pZm, gRm, aIm, sIm, aBm, sBm, gLm, pLm, clm, wshS, obS, reduceIte, Nat.one_ne_zero, Nat.zero_ne_one, Nat.reduceEqDiff, not_true_eq_false, not_false_eq_true, Nat.le_refl, ng_le, ng_lt, ng_nle, ng_nlt, ng_eq, ng_eq2, Bool.false_eq_true, lit_nI, nI_add, pk_mul, nI_leI, nI_ltI, nI_eq, s126o hM hW.2 hx])
  rcases ixr y (a := 1) (b := 12) (by decide) (by decide) with hy | ⟨t, ht1, ht, rfl⟩
  · exact STEP.same hI (v := -nI 1000002) (by simp (config := { maxSteps := 2000000 }) (disch := omega) only [f240, ux_at, ux_kk, ux_jo, gIx, pIx, pZx, gRx, aIx, sIx, aBx, sBx, lenx, clx, wshS, obS, reduceIte, Nat.one_ne_zero, Nat.zero_ne_one, Nat.reduceEqDiff, not_true_eq_false, not_false_eq_true, Nat.le_refl, ng_le, ng_lt, ng_nle, ng_nlt, ng_eq, ng_eq2, Bool.false_eq_true, lit_nI, nI_add, pk_mul, nI_leI, nI_ltI, nI_eq, x_noRule hR hW hr, s0o hy]) (by simp (config := { maxSteps := 2000000 }) (disch := omega) only [f256, ux_at, ux_kk, ux_jo, gIm, pIm, pZm, gRm, aIm, sIm, aBm, sBm, gLm, pLm, clm, wshS, obS, reduceIte, Nat.one_ne_zero, Nat.zero_ne_one, Nat.reduceEqDiff, not_true_eq_false, not_false_eq_true, Nat.le_refl, ng_le, ng_lt, ng_nle, ng_nlt, ng_eq, ng_eq2, Bool.false_eq_true, lit_nI, nI_add, pk_mul, nI_leI, nI_ltI, nI_eq, lit_lN, s126 hM hW.2 hr, s40o (show 1 < 2 ^ 31 by decide) (show 12 < 2 ^ 31 by decide) hy])
  have hRK := (ruN_at hW.2 hr).1
  have hrr := ruleRS r (show r < 4 by omega)
  have gain : ∀ (J : St) (L1 : Lt) (ru1 : Nat) (m : Nat), PCT I J A → m < 2 ^ nsN A → ∃ J' L', f224 n 0 (29 + r) (nI m) (nI t) (mW J L1 ru1) = some (gnI A (ruN A r) m t, mW J' L' (29 + r)) ∧ PCT I J' A ∧ J' 66 = J 66 := by
    intro J L1 ru1 m hJ hm
    obtain ⟨J', L', e, f, c, p⟩ := x_gained (L := L1) (ru := ru1) (n := n) (hS.fr hW.1 hJ.1 (by decide +kernel)) (hH.fr hJ.1 (by decide +kernel) (by decide +kernel)) hJ.2 hW hrr ((hR.2 r hr).fr hJ.1 (rr_nK hrr (by decide +kernel)) (rr_ne hrr)) hRK hm ht1 (show t ≤ 24 by omega) hn
    exact ⟨J', L', e, ⟨hJ.1.tr (f.mono (by decide +kernel) (by decide)), Or.inr ⟨c, p⟩⟩, f.at (by decide +kernel) (by decide)⟩
  have sns : ∀ (J : St), PCT I J A → J 3 5 = nI (nsN A) := fun J hJ => (hS.fr hW.1 hJ.1 (by decide +kernel)).2.2.2.2.2.1
  refine STEP.p hI (P := FST (pcP A (ruN A r) t) (2 ^ nsN A)) (fun a b ha hb => ha.uniq hb) ?_ fun I2 L2 ru2 hM2 _ hC2 => m256 hM2 hW hC2 hr ht1 ht (by omega)
  -- the sets
  have sets : ∀ (J : St) (L1 : Lt) (ru1 : Nat), PCT I J A → (∀ s, s < nsN A → J 66 s = gnI A (ruN A r) (2 ^ s) t) → ∃ v I1 L1' ru1', f240_H74 n (fun w => some ((-1 : Int32), w)) n 0 (nI r) (nI t) (nI 1) (mW J L1 ru1) = some (v, mW I1 L1' ru1') ∧ PCT I I1 A ∧ FST (pcP A (ruN A r) t) (2 ^ nsN A) v := by
    intro J L1 ru1 hJ hO
    have h1p : 1 ≤ 2 ^ nsN A := Nat.pow_pos (by decide)
    refine lpP (F := fun k i (s : St × Lt × Nat) => f240_H74 n (fun w => some ((-1 : Int32), w)) k 0 (nI r) (nI t) (nI i) (mW s.1 s.2.1 s.2.2)) (P := fun y => ∃ v I1 L1' ru1', y = some (v, mW I1 L1' ru1') ∧ PCT I I1 A ∧ FST (pcP A (ruN A r) t) (2 ^ nsN A) v) (J := fun i s => PCT I s.1 A ∧ (∀ s', s' < nsN A → s.1 66 s' = gnI A (ruN A r) (2 ^ s') t) ∧ ∀ u, u < i → ¬ pcP A (ruN A r) t u) (2 ^ nsN A) ?_ ?_ n 1 (J, L1, ru1) h1p (by omega) ⟨hJ, hO, fun u hu z => by have := z.1; omega⟩
    · rintro k ⟨J, L1, ru1⟩ ⟨j1, j2, j3⟩
      have j1 : PCT I J A := j1
      have e1 := sns J j1
      have e2 := shl_nI (nsN A) (by omega)
      simp (config := { maxSteps := 2000000 }) (disch := omega) only [f240_H74, ux_at, ux_kk, ux_jo, gIx, pIx, pZx, gRx, aIx, sIx, aBx, sBx, lenx, clx, wshS, obS, reduceIte, Nat.one_ne_zero, Nat.zero_ne_one, Nat.reduceEqDiff, not_true_eq_false, not_false_eq_true, Nat.le_refl, ng_le, ng_lt, ng_nle, ng_nlt, ng_eq, ng_eq2, Bool.false_eq_true, lit_nI, nI_add, pk_mul, nI_leI, nI_ltI, nI_eq, e1, e2]
      exact ⟨-nI 1, J, L1, ru1, rfl, j1, Or.inr ⟨j3, rfl⟩⟩
    · rintro k i ⟨J, L1, ru1⟩ hi ⟨j1, j2, j3⟩ ih
      have j1 : PCT I J A := j1
      have j2 : ∀ s', s' < nsN A → J 66 s' = gnI A (ruN A r) (2 ^ s') t := j2
      have e1 := sns J j1
      have e2 := shl_nI (nsN A) (by omega)
      have hi2 : ¬ 2 ^ nsN A ≤ i := by omega
      have eb := x_bitCount (A := A) hW.1 hi
      have hbl := bcN_le i (nsN A)
      have nxt : ¬ pcP A (ruN A r) t i → ∀ u, u < i + 1 → ¬ pcP A (ruN A r) t u := fun z u hu => by
        by_cases e : u = i
        · rw [e]; exact z
        · exact j3 u (by omega)
      by_cases q : 2 ≤ bcN i (nsN A)
      · simp (config := { maxSteps := 2000000 }) (disch := omega) only [f240_H74, ux_at, ux_kk, ux_jo, gIx, pIx, pZx, gRx, aIx, sIx, aBx, sBx, lenx, clx, wshS, obS, reduceIte, Nat.one_ne_zero, Nat.zero_ne_one, Nat.reduceEqDiff, not_true_eq_false, not_false_eq_true, Nat.le_refl, ng_le, ng_lt, ng_nle, ng_nlt, ng_eq, ng_eq2, Bool.false_eq_true, lit_nI, nI_add, pk_mul, nI_leI, nI_ltI, nI_eq, e1, e2, hi2, eb, q]
        have hap : sumI (fun s => if i.testBit s then gnI A (ruN A r) (2 ^ s) t else nI 0) 6 = apI A (ruN A r) i t := by
          have := sumI_tail (f := fun s => if i.testBit s then gnI A (ruN A r) (2 ^ s) t else nI 0) (a := nsN A) (fun s hs => by
            show (if i.testBit s then gnI A (ruN A r) (2 ^ s) t else nI 0) = nI 0
            rw [if_neg]
            intro z
            have := p2_set hi z
            omega) (6 - nsN A)
          rw [show nsN A + (6 - nsN A) = 6 by omega] at this
          exact this
        rw [l240 (L := L1) (ru := ru1) (n := n) hW.1 hi j2 hn, hap]
        obtain ⟨J', L', e3, p3, a3⟩ := gain J L1 ru1 i j1 hi
        by_cases g : gnI A (ruN A r) i t ≤ apI A (ruN A r) i t
        · simp (config := { maxSteps := 2000000 }) (disch := omega) only [f240_H104, ux_at, ux_kk, ux_jo, gIx, pIx, pZx, gRx, aIx, sIx, aBx, sBx, lenx, clx, wshS, obS, reduceIte, Nat.one_ne_zero, Nat.zero_ne_one, Nat.reduceEqDiff, not_true_eq_false, not_false_eq_true, Nat.le_refl, ng_le, ng_lt, ng_nle, ng_nlt, ng_eq, ng_eq2, Bool.false_eq_true, lit_nI, nI_add, pk_mul, nI_leI, nI_ltI, nI_eq, ruleR, e3, g]
          exact ih (J', L', 29 + r) ⟨p3, fun s hs => by show J' 66 s = _; rw [a3]; exact j2 s hs, nxt fun z => z.2.2 g⟩
        · simp (config := { maxSteps := 2000000 }) (disch := omega) only [f240_H104, ux_at, ux_kk, ux_jo, gIx, pIx, pZx, gRx, aIx, sIx, aBx, sBx, lenx, clx, wshS, obS, reduceIte, Nat.one_ne_zero, Nat.zero_ne_one, Nat.reduceEqDiff, not_true_eq_false, not_false_eq_true, Nat.le_refl, ng_le, ng_lt, ng_nle, ng_nlt, ng_eq, ng_eq2, Bool.false_eq_true, lit_nI, nI_add, pk_mul, nI_leI, nI_ltI, nI_eq, ruleR, e3, g]
          exact ⟨nI i, J', L', 29 + r, rfl, p3, Or.inl ⟨i, hi, ⟨by
            refine Nat.pos_of_ne_zero fun z => ?_
            rw [z] at q
            have : ∀ d, bcN 0 d = 0 := fun d => by
              induction d with
              | zero => rfl
              | succ d ih =>
                show bcN 0 d + bN 0 d = 0
                rw [ih]
                unfold bN
                rw [Nat.zero_testBit]
                rfl
            rw [this] at q
            omega, by omega, g⟩, j3, rfl⟩⟩
      · simp (config := { maxSteps := 2000000 }) (disch := omega) only [f240_H74, ux_at, ux_kk, ux_jo, gIx, pIx, pZx, gRx, aIx, sIx, aBx, sBx, lenx, clx, wshS, obS, reduceIte, Nat.one_ne_zero, Nat.zero_ne_one, Nat.reduceEqDiff, not_true_eq_false, not_false_eq_true, Nat.le_refl, ng_le, ng_lt, ng_nle, ng_nlt, ng_eq, ng_eq2, Bool.false_eq_true, lit_nI, nI_add, pk_mul, nI_leI, nI_ltI, nI_eq, e1, e2, hi2, eb, q]
        exact ih (J, L1, ru1) ⟨j1, j2, nxt fun z => by have := z.2.1; omega⟩
  have key : ∃ v I1 L1' ru1', f240_H26 n (fun e0 e1 e2 w26 => f240_J72 n e0 e1 e2 w26) n 0 (nI r) (nI t) (nI 0) (mW I L ru) = some (v, mW I1 L1' ru1') ∧ PCT I I1 A ∧ FST (pcP A (ruN A r) t) (2 ^ nsN A) v := by
    refine lpP (F := fun k i (s : St × Lt × Nat) => f240_H26 n (fun e0 e1 e2 w26 => f240_J72 n e0 e1 e2 w26) k 0 (nI r) (nI t) (nI i) (mW s.1 s.2.1 s.2.2)) (P := fun y => ∃ v I1 L1' ru1', y = some (v, mW I1 L1' ru1') ∧ PCT I I1 A ∧ FST (pcP A (ruN A r) t) (2 ^ nsN A) v) (J := fun i s => PCT I s.1 A ∧ ∀ s', s' < i → s.1 66 s' = gnI A (ruN A r) (2 ^ s') t) (nsN A) ?_ ?_ n 0 (I, L, ru) (by omega) (by omega) ⟨⟨Fr.rf, hX⟩, fun s hs => absurd hs (Nat.not_lt_zero _)⟩
    · rintro k ⟨J, L1, ru1⟩ ⟨j1, j2⟩
      have e1 := sns J j1
      have z := sets J L1 ru1 j1 j2
      simp (config := { maxSteps := 2000000 }) (disch := omega) only [f240_H26, f240_J72, ux_at, ux_kk, ux_jo, gIx, pIx, pZx, gRx, aIx, sIx, aBx, sBx, lenx, clx, wshS, obS, reduceIte, Nat.one_ne_zero, Nat.zero_ne_one, Nat.reduceEqDiff, not_true_eq_false, not_false_eq_true, Nat.le_refl, ng_le, ng_lt, ng_nle, ng_nlt, ng_eq, ng_eq2, Bool.false_eq_true, lit_nI, nI_add, pk_mul, nI_leI, nI_ltI, nI_eq, e1]
      exact z
    · rintro k i ⟨J, L1, ru1⟩ hi ⟨j1, j2⟩ ih
      have j1 : PCT I J A := j1
      have e1 := sns J j1
      have hi2 : ¬ nsN A ≤ i := by omega
      have hi6 : ¬ 6 ≤ i := by omega
      have e2 := shl_nI i (by omega)
      obtain ⟨J', L', e3, p3, a3⟩ := gain J L1 ru1 (2 ^ i) j1 (Nat.pow_lt_pow_right (by decide) hi)
      simp (config := { maxSteps := 2000000 }) (disch := omega) only [f240_H26, ux_at, ux_kk, ux_jo, gIx, pIx, pZx, gRx, aIx, sIx, aBx, sBx, lenx, clx, wshS, obS, reduceIte, Nat.one_ne_zero, Nat.zero_ne_one, Nat.reduceEqDiff, not_true_eq_false, not_false_eq_true, Nat.le_refl, ng_le, ng_lt, ng_nle, ng_nlt, ng_eq, ng_eq2, Bool.false_eq_true, lit_nI, nI_add, pk_mul, nI_leI, nI_ltI, nI_eq, e1, hi2, hi6, ruleR, e2, e3]
      have fa : Fr [66] [] J' (u2 J' 66 i (gnI A (ruN A r) (2 ^ i) t)) := Fr.rf.u (by decide)
      refine ih (_, L', 29 + r) ⟨⟨p3.1.u (by decide +kernel), p3.2.fr fa (by decide) (by decide)⟩, fun s hs => ?_⟩
      show u2 J' 66 i (gnI A (ruN A r) (2 ^ i) t) 66 s = _
      rw [ux_if]
      by_cases e : s = i
      · rw [if_pos e, e]
      · rw [if_neg e, a3]
        exact j2 s (by omega)
  obtain ⟨v, I1, L1, ru1, k1, k2, k3⟩ := key
  refine ⟨v, I1, L1, ru1, ?_, k2.1.mono (by decide +kernel) (by decide), k2.2, k3⟩
  simp (config := { maxSteps := 2000000 }) (disch := omega) only [f240, ux_at, ux_kk, ux_jo, gIx, pIx, pZx, gRx, aIx, sIx, aBx, sBx, lenx, clx, wshS, obS, reduceIte, Nat.one_ne_zero, Nat.zero_ne_one, Nat.reduceEqDiff, not_true_eq_false, not_false_eq_true, Nat.le_refl, ng_le, ng_lt, ng_nle, ng_nlt, ng_eq, ng_eq2, Bool.false_eq_true, lit_nI, nI_add, pk_mul, nI_leI, nI_ltI, nI_eq, x_noRule hR hW hr, s0i]
  exact k1
end
