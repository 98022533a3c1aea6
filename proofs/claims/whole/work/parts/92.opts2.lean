/-! THE CLASS: the turns at a place, over all that the free ones press -/
def haN (ρ : Nat → Nat) (m : Nat) : Nat := if m = 0 then 0 else if ρ 0 = 2 then 2 else 1
def mkX (A : St) (ρ : Nat → Nat) (m c h hour b : Nat) : Nat → Nat
  | 0 => 0
  | i + 1 => mkX A ρ m c h hour b i ||| 2 ^ cntN A ρ (alkN A m c h (b + i)) hour
theorem mkX_lt (A : St) (ρ : Nat → Nat) (m c h hour b : Nat) : ∀ i, mkX A ρ m c h hour b i < 8
  | 0 => by show 0 < 8; decide
  | i + 1 => or_lt8 _ (mkX_lt A ρ m c h hour b i) _ (cntN_lt _ _ _ _)
theorem mkX_7 {A : St} {ρ : Nat → Nat} {m c h hour b i : Nat} (e : mkX A ρ m c h hour b i = 7) : ∀ j, i ≤ j → mkX A ρ m c h hour b j = 7
  | 0, hj => by
    have : i = 0 := by omega
    rw [← this]
    exact e
  | j + 1, hj => by
    by_cases q : i = j + 1
    · rw [← q]
      exact e
    · have := mkX_7 e j (by omega)
      show mkX A ρ m c h hour b j ||| 2 ^ cntN A ρ (alkN A m c h (b + j)) hour = 7
      rw [this]
      exact or7 _ (p2_lt8 _ (cntN_lt _ _ _ _))
theorem or_nz : ∀ a, a < 8 → ∀ k, k < 3 → a ||| 2 ^ k ≠ 0 := by decide
/-- presses of the same sign -/
theorem sg_most {A : St} {m : Nat} {p q : Nat → Nat} (h : ∀ s, s < nsN A → sdN (p s) = sdN (q s)) (d : Nat) : ∀ i, i ≤ nsN A → c3N A m p d i = c3N A m q d i
  | 0, _ => rfl
  | i + 1, hi => by
    have ih := sg_most (A := A) (m := m) h d i (by omega)
    have e : ∀ r, c3N A m r d (i + 1) = c3N A m r d i + (if blD A m i then 0 else if sdN (r i) = d then perN A i else 0) := fun r => rfl
    rw [e, e, ih, h i (by omega)]
theorem sg_E {A : St} {p q : Nat → Nat} (h : ∀ s, s < nsN A → sdN (p s) = sdN (q s) ∧ p s < 5 ∧ q s < 5) (b : Nat) : ∀ i, i ≤ nsN A → tlN (EcN A p i) = tlN (EcN A q i) ∧ tqN 2 (EcN A p i) = tqN 2 (EcN A q i) ∧ trN (EcN A p i) = trN (EcN A q i) ∧ ∀ d, tbrN b d (EcN A p i) = tbrN b d (EcN A q i)
  | 0, _ => ⟨rfl, rfl, rfl, fun _ => rfl⟩
  | i + 1, hi => by
    obtain ⟨h1, h2, h3, h4⟩ := sg_E (A := A) h b i (by omega)
    obtain ⟨g1, g2, g3⟩ := h i (by omega)
    have e : ∀ r, EcN A r (i + 1) = (i, r i, perN A i) :: EcN A r i := fun r => rfl
    have t2 : ∀ r, tqN 2 ((i, r i, perN A i) :: EcN A r i) = (if r i = 2 then perN A i else 0) + tqN 2 (EcN A r i) := fun r => rfl
    have tb : ∀ d r, tbrN b d ((i, r i, perN A i) :: EcN A r i) = if tbrN b d (EcN A r i) = 1 then 1 else if b.testBit i ∧ sdN (r i) = d then 1 else 0 := fun d r => rfl
    rw [e, e, tlN_cons g2, tlN_cons g3, trN_cons g2, trN_cons g3, t2, t2, h1, h2, h3]
    have s0 := sdN_0 (p i)
    have s1 := sdN_0 (q i)
    have s2 := sdN_2 (p i)
    have s3 := sdN_2 (q i)
    rw [g1] at s0 s2
    have z0 : (p i < 2) = (q i < 2) := propext (by rw [← s0, ← s1])
    have z2 : (2 < p i) = (2 < q i) := propext (by rw [← s2, ← s3])
    have z1 : (p i = 2) = (q i = 2) := propext (by
      have a := z0
      have b := z2
      constructor
      · intro e
        rw [e] at a b
        have a' : ¬ q i < 2 := by rw [← a]; decide
        have b' : ¬ 2 < q i := by rw [← b]; decide
        omega
      · intro e
        rw [e] at a b
        have a' : ¬ p i < 2 := by rw [a]; decide
        have b' : ¬ 2 < p i := by rw [b]; decide
        omega)
    refine ⟨by simp only [z0], by simp only [z1], by simp only [z2], fun d => ?_⟩
    rw [tb, tb, h4 d, g1]
theorem sg_tpr {A : St} {p q : Nat → Nat} (h : ∀ s, s < nsN A → sdN (p s) = sdN (q s)) {j : Nat} : ∀ i, i ≤ nsN A → sdN (tprN A p j i) = sdN (tprN A q j i)
  | 0, _ => rfl
  | i + 1, hi => by
    have ih := sg_tpr (A := A) h (j := j) i (by omega)
    have e : ∀ r, tprN A r j (i + 1) = if sumN (perN A) i ≤ j ∧ j < sumN (perN A) (i + 1) then r i else tprN A r j i := fun r => rfl
    rw [e, e]
    split
    · exact h i (by omega)
    · exact ih
/-- but for the mean, signs are enough -/
theorem sg_cnt {A : St} {ρ p q : Nat → Nat} {hour : Nat} (hk : ρ 0 ≠ 2) (hk4 : ρ 0 < 4) (h : ∀ s, s < nsN A → sdN (p s) = sdN (q s) ∧ p s < 5 ∧ q s < 5) : cntN A ρ p hour = cntN A ρ q hour := by
  obtain ⟨h1, h2, h3, h4⟩ := sg_E (A := A) h (ρ 2) _ (Nat.le_refl _)
  have h5 := sg_tpr (A := A) (fun s hs => (h s hs).1) (j := turnN A hour) _ (Nat.le_refl _)
  have h6 : tnN (EcN A p (nsN A)) = tnN (EcN A q (nsN A)) := by rw [tn_split, tn_split, h1, h2, h3]
  have hw : wntN (ρ 0) (EcN A p (nsN A)) (tprN A p (turnN A hour) (nsN A)) = wntN (ρ 0) (EcN A q (nsN A)) (tprN A q (turnN A hour) (nsN A)) := by
    unfold wntN
    rw [h1, h2, h3, h5]
    by_cases k0 : ρ 0 = 0
    · rw [if_pos k0, if_pos k0]
    · by_cases k1 : ρ 0 = 1
      · rw [if_neg k0, if_neg k0, if_pos k1, if_pos k1]
      · have k3 : ρ 0 = 3 := by omega
        rw [if_neg k0, if_neg k0, if_neg k1, if_neg k1, if_pos k3, if_pos k3]
  unfold cntN decN
  rw [h6, hw, h1, h3, h4 0, h4 2]
theorem alk_lt {A : St} (hW : WF A) {m c h u s : Nat} (hu : u < 5) (hs : s < nsN A) : alkN A m c h u s < 5 := by
  unfold alkN pBN
  split
  · have := mostN_lt (c3N A m (fun s => if m.testBit s then u else tbcN A s c h) 0 (nsN A)) (c3N A m (fun s => if m.testBit s then u else tbcN A s c h) 1 (nsN A)) (c3N A m (fun s => if m.testBit s then u else tbcN A s c h) 2 (nsN A))
    omega
  · dsimp only
    split
    · exact hu
    · exact tbcN_lt hW.2 hs c h
theorem alk_sg {A : St} (hW : WF A) {ρ : Nat → Nat} (hk : ρ 0 ≠ 2) (hk4 : ρ 0 < 4) {m c h hour u v : Nat} (hu : u < 5) (hv : v < 5) (huv : sdN u = sdN v) : cntN A ρ (alkN A m c h u) hour = cntN A ρ (alkN A m c h v) hour := by
  refine sg_cnt hk hk4 fun s hs => ⟨?_, alk_lt hW hu hs, alk_lt hW hv hs⟩
  have hg : ∀ s, s < nsN A → sdN (if m.testBit s then u else tbcN A s c h) = sdN (if m.testBit s then v else tbcN A s c h) := by
    intro s _
    split
    · exact huv
    · rfl
  unfold alkN pBN
  rw [sg_most hg 0 _ (Nat.le_refl _), sg_most hg 1 _ (Nat.le_refl _), sg_most hg 2 _ (Nat.le_refl _)]
  by_cases b : blD A m s = true
  · rw [if_pos b, if_pos b]
  · rw [if_neg b, if_neg b]
    exact hg s hs
theorem alk_0 {A : St} {ρ : Nat → Nat} {c h hour u v : Nat} : cntN A ρ (alkN A 0 c h u) hour = cntN A ρ (alkN A 0 c h v) hour := by
  have : alkN A 0 c h u = alkN A 0 c h v := by
    unfold alkN
    simp only [Nat.zero_testBit, Bool.false_eq_true, reduceIte]
  rw [this]
theorem or_id5 : ∀ a, a < 3 → 0 ||| 2 ^ a ||| 2 ^ a ||| 2 ^ a ||| 2 ^ a ||| 2 ^ a = 0 ||| 2 ^ a := by decide
theorem or_id3 : ∀ a, a < 3 → ∀ b, b < 3 → ∀ d, d < 3 → 0 ||| 2 ^ a ||| 2 ^ a ||| 2 ^ b ||| 2 ^ d ||| 2 ^ d = 0 ||| 2 ^ a ||| 2 ^ b ||| 2 ^ d := by decide
/-- the class's presses are enough -/
theorem mkX_all {A : St} (hW : WF A) {ρ : Nat → Nat} (hR : RK ρ) (m c h hour : Nat) : mkX A ρ m c h hour (2 - haN ρ m) (2 * haN ρ m + 1) = mskN A ρ m c h hour 5 := by
  have e5 : mskN A ρ m c h hour 5 = 0 ||| 2 ^ cntN A ρ (alkN A m c h 0) hour ||| 2 ^ cntN A ρ (alkN A m c h 1) hour ||| 2 ^ cntN A ρ (alkN A m c h 2) hour ||| 2 ^ cntN A ρ (alkN A m c h 3) hour ||| 2 ^ cntN A ρ (alkN A m c h 4) hour := rfl
  rw [e5]
  by_cases h0 : m = 0
  · have e : haN ρ m = 0 := if_pos h0
    rw [e]
    subst h0
    rw [alk_0 (u := 0) (v := 2), alk_0 (u := 1) (v := 2), alk_0 (u := 3) (v := 2), alk_0 (u := 4) (v := 2), or_id5 _ (cntN_lt _ _ _ _)]
    rfl
  · by_cases h2 : ρ 0 = 2
    · have e : haN ρ m = 2 := by
        unfold haN
        rw [if_neg h0, if_pos h2]
      rw [e]
      rfl
    · have e : haN ρ m = 1 := by
        unfold haN
        rw [if_neg h0, if_neg h2]
      rw [e, alk_sg hW h2 hR.1 (u := 0) (v := 1) (by decide) (by decide) (by decide), alk_sg hW h2 hR.1 (u := 4) (v := 3) (by decide) (by decide) (by decide), or_id3 _ (cntN_lt _ _ _ _) _ (cntN_lt _ _ _ _) _ (cntN_lt _ _ _ _)]
      rfl
/-- the row is right but for the set and the blind -/
def RWq (A : St) (m c h : Nat) (q : Nat → Nat) : Prop := (∀ s, s < 6 → q s < 5) ∧ (∀ s, nsN A ≤ s → q s = 2) ∧ ∀ s, s < nsN A → m.testBit s = false → blD A m s = false → q s = tbcN A s c h
section
variable {I A : St} {L : Lt} {ru n : Nat}
/-- one way of pressing -/
theorem x_step (hS : CS I A) (hW : WF A) {ρ : Nat → Nat} {m r : Nat} (hr : nwS r = some (5, 5)) (hX : RX I r ρ) (hR : RK ρ) (h3 : I 52 3 = nI m) (hm : m < 64) (hmn : ∀ s, m.testBit s = true → s < nsN A) {c h u hour : Nat} (hu : u < 5) {q : Nat → Nat} (hq : ∀ s, s < 6 → I 54 s = pI (q s)) (hQ : RWq A m c h q) (hn : 100 < n) {P : Option (Int32 × Wd) → Prop} {rec49 : Nat → Int32 → Int32 → Int32 → Int32 → Int32 → Wd → Option (Int32 × Wd)} {K49 : _} {mask hard : Int32}
    (hK : ∀ J q', Fr [54, 55] [] I J → (∀ s, s < 6 → J 54 s = pI (q' s)) → RWq A m c h q' → P (rec49 52 (nI (sirN A ρ hour)) (nI (bmN A m)) (mask ||| nI (2 ^ cntN A ρ (alkN A m c h u) hour)) hard (pI (u + 1)) (mW J L r))) :
    P (ob (f100 n 52 (pI u) (mW I L r)) (fun p28 => (if nI (bmN A m) = nI 0 then f183_J120 n rec49 K49 52 (nI (sirN A ρ hour)) (nI (bmN A m)) mask hard (pI u) p28
          else (if (wsh p28 52).map (fun q => q.1) = some 0 then ob (f152 n 52 (nI (bmN A m)) p28) (fun p40 => f183_J120 n rec49 K49 52 (nI (sirN A ρ hour)) (nI (bmN A m)) mask hard (pI u) p40) else none)))) := by
  have h6 := ns6 hW.1
  have hbm := bm_lt (A := A) m
  have hsr := sirN_lt hW.1 ρ hour
  have hcl : (nwS r).map (fun q => q.1) = some 5 := by
    rw [hr]
    rfl
  obtain ⟨I1, e1, f1, r1⟩ := x_pressAlike (L := L) (ru := r) (u := u) (n := n) hm h3 hq (by omega)
  have hS1 := hS.fr hW.1 f1 (by decide)
  -- from the row on
  have nxt : ∀ J q', Fr [54, 55] [] I J → (∀ s, s < 6 → J 54 s = pI (q' s)) → RWq A m c h q' → (∀ s, s < nsN A → q' s = alkN A m c h u s) → P (f183_J120 n rec49 K49 52 (nI (sirN A ρ hour)) (nI (bmN A m)) mask hard (pI u) (mW J L r)) := by
    intro J q' fJ rJ hQ' hA
    have hSJ := hS.fr hW.1 fJ (by decide)
    have rn := rr_nc hr
    have hXJ := hX.fr fJ (fun z => rn (by
      rcases List.mem_cons.mp z with z | z
      · rw [z]; decide
      · rcases List.mem_cons.mp z with z | z
        · rw [z]; decide
        · cases z)) (rr_ne hr)
    obtain ⟨J2, e2, f2, t2, z2⟩ := x_addUp (L := L) (ru := r) (n := n) hSJ hW (fun s hs => ⟨rJ s hs, hQ'.1 s hs⟩) hsr (by omega)
    have hX2 := hXJ.fr f2 (fun z => rn (by
      rcases List.mem_cons.mp z with z | z
      · rw [z]; decide
      · cases z)) (rr_ne hr)
    have q5 : ∀ s, s < nsN A → q' s < 5 := fun s hs => hQ'.1 s (by omega)
    have hall : tnN (EcN A q' (nsN A)) = allN A := EcN_q _ q5
    have ha54 := allN_le hW.1
    have e3 := x_decided (L := L) (ru := r) hr sh_55 hX2 hR t2 (by omega) (fun e he => by
      have := EcN_1 _ e he
      omega) z2 (hQ'.1 _ hsr) (fun z => hQ'.2.1 _ (by
        have := all0 hW.1 (hall.symm.trans z)
        omega))
    rw [cnt_sir hW.1 q5, cntN_cg hA] at e3
    have hc := cntN_lt A ρ (alkN A m c h u) hour
    have hf : Fr [54, 55] [] I J2 := fJ.tr (f2.mono (by decide) (by decide))
    have hf2 : ∀ s, s < 6 → J2 54 s = pI (q' s) := fun s hs => (congrFun (f2.at (by decide) (by decide)) s).trans (rJ s hs)
    have fin := hK J2 q' hf hf2 hQ'
    simp (config := { maxSteps := 2000000 }) (disch := omega) only [f183_J120, ux_at, ux_kk, ux_jo, gIx, pIx, pZx, gRx, aIx, sIx, aBx, sBx, lenx, clx, wshS, obS, reduceIte, Nat.one_ne_zero, Nat.zero_ne_one, Nat.reduceEqDiff, not_true_eq_false, not_false_eq_true, Nat.le_refl, ng_le, ng_lt, ng_nle, ng_nlt, ng_eq, ng_eq2, Bool.false_eq_true, lit_nI, nI_add, pk_mul, nI_leI, nI_ltI, nI_eq, hcl, e2, e3, tI_p1, shl_nI, pI_s]
    exact fin
  have hb0 := fun s (hs : s < 6) => bm_bit (A := A) (m := m) hm hs
  simp (config := { maxSteps := 2000000 }) (disch := omega) only [ux_at, ux_kk, ux_jo, gIx, pIx, pZx, gRx, aIx, sIx, aBx, sBx, lenx, clx, wshS, obS, reduceIte, Nat.one_ne_zero, Nat.zero_ne_one, Nat.reduceEqDiff, not_true_eq_false, not_false_eq_true, Nat.le_refl, ng_le, ng_lt, ng_nle, ng_nlt, ng_eq, ng_eq2, Bool.false_eq_true, lit_nI, nI_add, pk_mul, nI_leI, nI_ltI, nI_eq, e1]
  by_cases b : bmN A m = 0
  · simp only [b, reduceIte]
    rw [b] at nxt
    refine nxt I1 _ (f1.mono (by decide) (by decide)) r1 ⟨fun s hs => ?_, fun s hs => ?_, fun s hs a1 a2 => ?_⟩ fun s hs => ?_
    · dsimp only
      split
      · exact hu
      · exact hQ.1 s hs
    · dsimp only
      rw [if_neg (fun z => absurd (hmn s z) (by omega))]
      exact hQ.2.1 s hs
    · dsimp only
      rw [if_neg (by rw [a1]; decide)]
      exact hQ.2.2 s hs a1 a2
    · have h0 := hb0 s (by omega)
      rw [b, Nat.zero_testBit] at h0
      simp only [hs, decide_true, Bool.true_and] at h0
      unfold alkN pBN
      try dsimp only
      have h00 : ¬ blD A m s = true := by
        rw [← h0]
        decide
      rw [if_neg h00]
      by_cases a1 : m.testBit s = true
      · rw [if_pos a1, if_pos a1]
      · rw [if_neg a1, if_neg a1]
        exact hQ.2.2 s hs (by simpa using a1) h0.symm
  · have hqq : ∀ s, s < 6 → I1 54 s = pI (if m.testBit s then u else q s) ∧ (if m.testBit s then u else q s) < 5 := fun s hs => ⟨r1 s hs, by
      split
      · exact hu
      · exact hQ.1 s hs⟩
    obtain ⟨I2, e2, f2, r2⟩ := x_follow (L := L) (ru := r) (n := n) hS1 hW hm hqq (by omega)
    simp (config := { maxSteps := 2000000 }) (disch := omega) only [ux_at, ux_kk, ux_jo, gIx, pIx, pZx, gRx, aIx, sIx, aBx, sBx, lenx, clx, wshS, obS, reduceIte, Nat.one_ne_zero, Nat.zero_ne_one, Nat.reduceEqDiff, not_true_eq_false, not_false_eq_true, Nat.le_refl, ng_le, ng_lt, ng_nle, ng_nlt, ng_eq, ng_eq2, Bool.false_eq_true, lit_nI, nI_add, pk_mul, nI_leI, nI_ltI, nI_eq, b, e2]
    have hc3 : ∀ d, c3N A m (fun s => if m.testBit s then u else q s) d (nsN A) = c3N A m (fun s => if m.testBit s then u else tbcN A s c h) d (nsN A) := fun d => c3N_cg _ fun s hs a2 => by
      by_cases a1 : m.testBit s = true
      · rw [if_pos a1, if_pos a1]
      · rw [if_neg a1, if_neg a1]
        exact hQ.2.2 s hs (by simpa using a1) a2
    have hm3 := mostN_lt (c3N A m (fun s => if m.testBit s then u else q s) 0 (nsN A)) (c3N A m (fun s => if m.testBit s then u else q s) 1 (nsN A)) (c3N A m (fun s => if m.testBit s then u else q s) 2 (nsN A))
    refine nxt I2 _ ((f1.mono (by decide) (by decide)).tr (f2.mono (by decide) (by decide))) r2 ⟨fun s hs => ?_, fun s hs => ?_, fun s hs a1 a2 => ?_⟩ fun s hs => ?_
    · dsimp only
      split
      · omega
      · exact (hqq s hs).2
    · dsimp only
      have h0 : (bmN A m).testBit s = false := by
        by_cases s6 : s < 6
        · rw [hb0 s s6]
          simp only [show ¬ s < nsN A by omega, decide_false, Bool.false_and]
        · exact Nat.testBit_lt_two_pow (Nat.lt_of_lt_of_le hbm (by
            have : 2 ^ 6 ≤ 2 ^ s := Nat.pow_le_pow_right (by decide) (by omega)
            omega))
      rw [h0, if_neg (by decide), if_neg (fun z => absurd (hmn s z) (by omega))]
      exact hQ.2.1 s hs
    · dsimp only
      have h0 := hb0 s (by omega)
      rw [a2, Bool.and_false] at h0
      rw [h0, if_neg (by decide), if_neg (by rw [a1]; decide)]
      exact hQ.2.2 s hs a1 a2
    · have h0 := hb0 s (by omega)
      simp only [hs, decide_true, Bool.true_and] at h0
      unfold alkN pBN
      try dsimp only
      rw [h0, hc3, hc3, hc3]
      by_cases a2 : blD A m s = true
      · rw [if_pos a2, if_pos a2]
      · rw [if_neg a2, if_neg a2]
        by_cases a1 : m.testBit s = true
        · rw [if_pos a1, if_pos a1]
        · rw [if_neg a1, if_neg a1]
          exact hQ.2.2 s hs (by simpa using a1) (by simpa using a2)
end
