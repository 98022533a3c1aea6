/-! THE CLASS: signs, bits, digits; tallies -/
theorem or_nIg (a b : Nat) : nI a ||| nI b = nI (a ||| b) := by
  apply Int32.toBitVec_inj.1
  show BitVec.ofNat 32 a ||| BitVec.ofNat 32 b = BitVec.ofNat 32 (a ||| b)
  apply BitVec.eq_of_getLsbD_eq
  intro i hi
  simp [hi]
theorem and_nIg (a b : Nat) : nI a &&& nI b = nI (a &&& b) := by
  apply Int32.toBitVec_inj.1
  show BitVec.ofNat 32 a &&& BitVec.ofNat 32 b = BitVec.ofNat 32 (a &&& b)
  apply BitVec.eq_of_getLsbD_eq
  intro i hi
  simp [hi]
theorem of32 (x : Int32) : ∃ n, n < 2 ^ 32 ∧ x = nI n := by
  refine ⟨x.toBitVec.toNat, x.toBitVec.isLt, Int32.toBitVec_inj.1 (BitVec.eq_of_toNat_eq ?_)⟩
  show x.toBitVec.toNat = (BitVec.ofNat 32 x.toBitVec.toNat).toNat
  rw [BitVec.toNat_ofNat, Nat.mod_eq_of_lt x.toBitVec.isLt]
theorem sg31 (x : Int32) : x >>> ((31 : Int32) &&& 31) = if x < 0 then -1 else 0 := by
  have hk : (((31 : Int32) &&& 31).toBitVec.smod 32).toNat = 31 := by decide +kernel
  have h1 : (x >>> ((31 : Int32) &&& 31)).toInt = x.toInt >>> 31 := by
    have h2 : (x >>> ((31 : Int32) &&& 31)).toBitVec = x.toBitVec.sshiftRight' (((31 : Int32) &&& 31).toBitVec.smod 32) := rfl
    have h3 : (x >>> ((31 : Int32) &&& 31)).toInt = ((x >>> ((31 : Int32) &&& 31)).toBitVec).toInt := rfl
    rw [h3, h2, BitVec.toInt_sshiftRight', hk]
    rfl
  have lo := Int32.le_toInt x
  have hi := Int32.toInt_lt x
  refine Int32.toInt_inj.mp ?_
  rw [h1, Int.shiftRight_eq_div_pow]
  by_cases h : x < 0
  · rw [if_pos h]
    rw [Int32.lt_iff_toInt_lt] at h
    have h0 : (0 : Int32).toInt = 0 := by decide +kernel
    have hm : (-1 : Int32).toInt = -1 := by decide +kernel
    rw [hm]
    omega
  · rw [if_neg h]
    rw [Int32.lt_iff_toInt_lt] at h
    have h0 : (0 : Int32).toInt = 0 := by decide +kernel
    rw [h0]
    omega
theorem ush31 (x : Int32) : ush x 31 = if x < 0 then 1 else 0 := by
  obtain ⟨n, hn, rfl⟩ := of32 x
  have e : ush (nI n) 31 = nI (n / 2 ^ 31) := pk_ushrN hn _ 31 (by decide +kernel)
  have ht : (nI n).toInt = (n : Int).bmod (2 ^ 32) := Int32.toInt_ofNat'
  rw [e]
  have h0 : (0 : Int32).toInt = 0 := by decide +kernel
  have hb : (n : Int).bmod (2 ^ 32) = if n < 2 ^ 31 then (n : Int) else (n : Int) - 2 ^ 32 := by
    rw [Int.bmod_def]
    split <;> split <;> omega
  by_cases h : n < 2 ^ 31
  · have h2 : ¬ nI n < 0 := by
      rw [Int32.lt_iff_toInt_lt, ht, hb, if_pos h, h0]
      omega
    rw [if_neg h2, show n / 2 ^ 31 = 0 by omega]
    rfl
  · have h2 : nI n < 0 := by
      rw [Int32.lt_iff_toInt_lt, ht, hb, if_neg h, h0]
      omega
    rw [if_pos h2, show n / 2 ^ 31 = 1 by omega]
    rfl
theorem x_signum (x : Int32) (w : Wd) : f28 x w = some (tI (sgN x), w) := by
  have lo := Int32.le_toInt x
  have hi := Int32.toInt_lt x
  have h0 : (0 : Int32).toInt = 0 := by decide +kernel
  show some (x >>> ((31 : Int32) &&& 31) ||| ush (-x) 31, w) = _
  rw [sg31, ush31]
  unfold sgN
  by_cases h1 : x < 0
  · rw [if_pos h1, if_pos h1]
    split <;> rfl
  · rw [if_neg h1, if_neg h1]
    rw [Int32.lt_iff_toInt_lt, h0] at h1
    by_cases h2 : 0 < x
    · have h3 : -x < 0 := by
        rw [Int32.lt_iff_toInt_lt, h0] at h2 ⊢
        rw [Int32.toInt_neg]
        rw [Int.bmod_def]
        have hi : x.toInt < 2147483648 := hi
        split <;> omega
      rw [if_pos h2, if_pos h3]
      rfl
    · have h4 : x = 0 := by
        rw [Int32.lt_iff_toInt_lt, h0] at h2
        refine Int32.toInt_inj.mp ?_
        rw [h0]
        omega
      rw [h4]
      rfl
/-! digits to base 8 -/
def dgN (N s : Nat) : Nat := N / 8 ^ s % 8
theorem p8 (s : Nat) : 8 ^ s = 2 ^ (3 * s) := by
  rw [Nat.pow_mul]
theorem dg_or (a b s : Nat) : dgN (a ||| b) s = dgN a s ||| dgN b s := by
  unfold dgN
  rw [p8, ← Nat.shiftRight_eq_div_pow, ← Nat.shiftRight_eq_div_pow, ← Nat.shiftRight_eq_div_pow, Nat.shiftRight_or_distrib]
  exact Nat.or_mod_two_pow (n := 3)
theorem dg_one : ∀ u, u < 8 → ∀ s, s < 6 → ∀ t, t < 6 → dgN (u * 8 ^ s) t = if t = s then u else 0 := by decide +kernel
theorem dg_0 (t : Nat) : dgN 0 t = 0 := by
  unfold dgN
  rw [Nat.zero_div]
theorem dg_put {N u s : Nat} (hu : u < 8) (hs : s < 6) (h0 : dgN N s = 0) {t : Nat} (ht : t < 6) : dgN (N ||| u * 8 ^ s) t = if t = s then u else dgN N t := by
  rw [dg_or, dg_one u hu s hs t ht]
  by_cases e : t = s
  · rw [if_pos e, if_pos e, e, h0, Nat.zero_or]
  · rw [if_neg e, if_neg e, Nat.or_zero]
theorem put_lt {N u s : Nat} (hN : N < 2 ^ 18) (hu : u < 8) (hs : s < 6) : N ||| u * 8 ^ s < 2 ^ 18 := by
  refine Nat.or_lt_two_pow hN ?_
  have h1 : 8 ^ s ≤ 8 ^ 5 := Nat.pow_le_pow_right (by decide) (by omega)
  have h2 : u * 8 ^ s ≤ 7 * 8 ^ 5 := Nat.mul_le_mul (by omega) h1
  omega
theorem shl8 : ∀ u, u < 8 → ∀ s, s < 6 → nI u <<< (nI (3 * s) &&& nI 31) = nI (u * 8 ^ s) := by decide +kernel
theorem shr8 {N s : Nat} (hN : N < 2 ^ 18) (hs : s < 6) : (nI N >>> (nI (3 * s) &&& nI 31)) &&& nI 7 = nI (dgN N s) := by
  have e1 : nI N >>> (nI (3 * s) &&& nI 31) = nI (N / 2 ^ (3 * s)) := pk_shrN (by omega) _ (3 * s) (s_lB (3 * s) (by omega))
  have e2 : nI (N / 2 ^ (3 * s)) &&& nI 7 = nI (N / 2 ^ (3 * s) % 2 ^ 3) := pk_andN (Nat.lt_of_le_of_lt (Nat.div_le_self _ _) (by omega)) 3 (by decide +kernel)
  rw [e1, e2, ← p8]
  rfl
/-! tallies -/
def msN (d : Nat) : Tl → Nat
  | [] => 0
  | e :: E => if sdN e.2.1 = d then msN d E ||| 2 ^ e.1 else msN d E
theorem msN_lt {d : Nat} : ∀ E : Tl, (∀ e, e ∈ E → e.1 < 6) → msN d E < 64
  | [], _ => by show 0 < 64; decide
  | e :: E, h => by
    have ih := msN_lt (d := d) E fun x hx => h x (List.mem_cons_of_mem _ hx)
    have h1 := h e List.mem_cons_self
    have h2 := p2_lt64 e.1 h1
    unfold msN
    split
    · exact Nat.or_lt_two_pow (n := 6) ih h2
    · exact ih
theorem bit_and : ∀ b, b < 64 → ∀ s, s < 6 → (2 ^ s &&& b = 0) = (b.testBit s = false) := by decide +kernel
/-- does the mask meet a set -/
theorem msN_and {b d : Nat} (hb : b < 64) : ∀ E : Tl, (∀ e, e ∈ E → e.1 < 6) → (msN d E &&& b = 0 ↔ tbrN b d E = 0)
  | [], _ => by
    show 0 &&& b = 0 ↔ 0 = 0
    rw [Nat.zero_and]
  | e :: E, h => by
    have ih := msN_and (d := d) hb E fun x hx => h x (List.mem_cons_of_mem _ hx)
    have h1 := h e List.mem_cons_self
    have h3 := tbrN_le b d E
    have e1 : tbrN b d (e :: E) = if tbrN b d E = 1 then 1 else if b.testBit e.1 ∧ sdN e.2.1 = d then 1 else 0 := rfl
    have e2 : msN d (e :: E) = if sdN e.2.1 = d then msN d E ||| 2 ^ e.1 else msN d E := rfl
    rw [e1, e2]
    by_cases q : sdN e.2.1 = d
    · rw [if_pos q, Nat.and_or_distrib_right]
      have h4 := bit_and b hb e.1 h1
      rcases one_or h3 with t | t
      · rw [t, if_neg (by decide)]
        have h5 := ih.mpr t
        rw [h5, Nat.zero_or, h4]
        by_cases bt : b.testBit e.1 = true
        · rw [if_pos ⟨bt, q⟩, bt]
          simp
        · rw [if_neg (fun z => bt z.1)]
          simp [bt]
      · rw [t, if_pos rfl]
        constructor
        · intro z
          have : msN d E &&& b = 0 := by
            have := Nat.or_eq_zero_iff.mp z
            exact this.1
          have := ih.mp this
          omega
        · intro z
          omega
    · rw [if_neg q, ih]
      rcases one_or h3 with t | t
      · rw [t, if_neg (by decide), if_neg (fun z => q z.2)]
      · rw [t, if_pos rfl]
def TL (I : St) (k : Nat) (E : Tl) : Prop := I k 0 = nI (tnN E) ∧ I k 1 = nI (tlN E) ∧ I k 2 = nI (trN E) ∧ I k 3 = tsI E ∧ I k 4 = nI (msN 0 E) ∧ I k 5 = nI (msN 2 E)
theorem TL.fr {I I' : St} {k : Nat} {E : Tl} (h : TL I k E) {K F : List Nat} (f : Fr K F I I') (hk : k ∉ K) (h67 : k ≠ 67) : TL I' k E := by
  have e := f.at hk h67
  unfold TL
  rw [e]
  exact h
theorem tlN_cons {s u m : Nat} {E : Tl} (h : u < 5) : tlN ((s, u, m) :: E) = (if u < 2 then m else 0) + tlN E := by
  have tc : ∀ v e E, tqN v (e :: E) = (if e.2.1 = v then e.2.2 else 0) + tqN v E := fun _ _ _ => rfl
  have hc : u = 0 ∨ u = 1 ∨ u = 2 ∨ u = 3 ∨ u = 4 := by omega
  rcases hc with e | e | e | e | e <;> simp only [tlN, tc, e, reduceIte, Nat.reduceEqDiff, Nat.zero_add, Nat.one_ne_zero, Nat.zero_ne_one, Nat.reduceLT] <;> omega
theorem trN_cons {s u m : Nat} {E : Tl} (h : u < 5) : trN ((s, u, m) :: E) = (if 2 < u then m else 0) + trN E := by
  have tc : ∀ v e E, tqN v (e :: E) = (if e.2.1 = v then e.2.2 else 0) + tqN v E := fun _ _ _ => rfl
  have hc : u = 0 ∨ u = 1 ∨ u = 2 ∨ u = 3 ∨ u = 4 := by omega
  rcases hc with e | e | e | e | e <;> simp only [trN, tc, e, reduceIte, Nat.reduceEqDiff, Nat.zero_add, Nat.one_ne_zero, Nat.zero_ne_one, Nat.reduceLT] <;> omega
section
variable {I A : St} {L : Lt} {ru n k : Nat}
theorem x_empty (hk : nwS k = some (8, 7)) (h67 : k ≠ 67) : ∃ I', f23 k (mW I L ru) = some (mW I' L ru) ∧ Fr [k] [] I I' ∧ TL I' k [] ∧ I' k 6 = nI 0 := by
  simp (config := { maxSteps := 2000000 }) (disch := omega) only [f23, pI_of hk, obS, lit_nI]
  refine ⟨_, rfl, ((((((Fr.rf.u ?_).u ?_).u ?_).u ?_).u ?_).u ?_).u ?_, ⟨?_, ?_, ?_, ?_, ?_, ?_⟩, ?_⟩
  all_goals first | exact List.mem_singleton.mpr rfl | (simp (config := { maxSteps := 2000000 }) (disch := omega) only [ux_at, ux_jo]; done) | (simp (config := { maxSteps := 2000000 }) (disch := omega) only [ux_at, ux_jo]; rfl)
theorem x_add (hk : nwS k = some (8, 7)) {s u m : Nat} {E : Tl} (hT : TL I k E) (hs : s < 6) (hu : u < 5) : ∃ I', f24 k (nI s) (pI u) (nI m) (mW I L ru) = some (mW I' L ru) ∧ Fr [k] [] I I' ∧ TL I' k ((s, u, m) :: E) ∧ I' k 6 = I k 6 := by
  obtain ⟨t0, t1, t2, t3, t4, t5⟩ := hT
  have hn := tnN_cons (s := s) (m := m) (E := E) hu
  have hl := tlN_cons (s := s) (m := m) (E := E) hu
  have hr := trN_cons (s := s) (m := m) (E := E) hu
  have hsum : tsI ((s, u, m) :: E) = tsI E + pI u * nI m := rfl
  have hm0 : msN 0 ((s, u, m) :: E) = if sdN u = 0 then msN 0 E ||| 2 ^ s else msN 0 E := rfl
  have hm2 : msN 2 ((s, u, m) :: E) = if sdN u = 2 then msN 2 E ||| 2 ^ s else msN 2 E := rfl
  have hmem : k ∈ ([k] : List Nat) := List.mem_singleton.mpr rfl
  rcases sdN_c u with ⟨c, e⟩ | ⟨c, e⟩ | ⟨c, e⟩
  · have c1 : ¬ 2 ≤ u := by omega
    have c2 : ¬ 2 < u := by omega
    rw [if_pos c] at hl
    rw [if_neg c2] at hr
    rw [if_pos e] at hm0
    rw [if_neg (by rw [e]; decide)] at hm2
    simp (config := { maxSteps := 2000000 }) (disch := omega) only [f24, gI_of hk, pI_of hk, obS, ux_at, ux_jo, lit_nI, pI_0le, c1, reduceIte, t0, t1, t3, t4, shl_nI, or_nIg, nI_add]
    refine ⟨_, rfl, (((Fr.rf.u hmem).u hmem).u hmem).u hmem, ⟨?_, ?_, ?_, ?_, ?_, ?_⟩, ?_⟩
    · simp (config := { maxSteps := 2000000 }) (disch := omega) only [ux_at, ux_jo, hn, Nat.add_comm]
    · simp (config := { maxSteps := 2000000 }) (disch := omega) only [ux_at, ux_jo, hl, Nat.add_comm]
    · simp (config := { maxSteps := 2000000 }) (disch := omega) only [ux_at, ux_jo, hr, t2, Nat.zero_add]
    · simp (config := { maxSteps := 2000000 }) (disch := omega) only [ux_at, ux_jo, hsum]
    · simp (config := { maxSteps := 2000000 }) (disch := omega) only [ux_at, ux_jo, hm0]
    · simp (config := { maxSteps := 2000000 }) (disch := omega) only [ux_at, ux_jo, hm2, t5]
    · simp (config := { maxSteps := 2000000 }) (disch := omega) only [ux_at, ux_jo]
  · have c0 : ¬ u < 2 := by omega
    have c1 : 2 ≤ u := by omega
    have c2 : ¬ 2 < u := by omega
    have c3 : u ≤ 2 := by omega
    rw [if_neg c0] at hl
    rw [if_neg c2] at hr
    rw [if_neg (by rw [e]; decide)] at hm0
    rw [if_neg (by rw [e]; decide)] at hm2
    simp (config := { maxSteps := 2000000 }) (disch := omega) only [f24, gI_of hk, pI_of hk, obS, ux_at, ux_jo, lit_nI, pI_0le, pI_le0, c1, c3, reduceIte, t0, t3, nI_add]
    refine ⟨_, rfl, (Fr.rf.u hmem).u hmem, ⟨?_, ?_, ?_, ?_, ?_, ?_⟩, ?_⟩
    · simp (config := { maxSteps := 2000000 }) (disch := omega) only [ux_at, ux_jo, hn, Nat.add_comm]
    · simp (config := { maxSteps := 2000000 }) (disch := omega) only [ux_at, ux_jo, hl, t1, Nat.zero_add]
    · simp (config := { maxSteps := 2000000 }) (disch := omega) only [ux_at, ux_jo, hr, t2, Nat.zero_add]
    · simp (config := { maxSteps := 2000000 }) (disch := omega) only [ux_at, ux_jo, hsum]
    · simp (config := { maxSteps := 2000000 }) (disch := omega) only [ux_at, ux_jo, hm0, t4]
    · simp (config := { maxSteps := 2000000 }) (disch := omega) only [ux_at, ux_jo, hm2, t5]
    · simp (config := { maxSteps := 2000000 }) (disch := omega) only [ux_at, ux_jo]
  · have c0 : ¬ u < 2 := by omega
    have c1 : 2 ≤ u := by omega
    have c3 : ¬ u ≤ 2 := by omega
    rw [if_neg c0] at hl
    rw [if_pos c] at hr
    rw [if_neg (by rw [e]; decide)] at hm0
    rw [if_pos e] at hm2
    simp (config := { maxSteps := 2000000 }) (disch := omega) only [f24, gI_of hk, pI_of hk, obS, ux_at, ux_jo, lit_nI, pI_0le, pI_le0, c1, c3, reduceIte, t0, t2, t3, t5, shl_nI, or_nIg, nI_add]
    refine ⟨_, rfl, (((Fr.rf.u hmem).u hmem).u hmem).u hmem, ⟨?_, ?_, ?_, ?_, ?_, ?_⟩, ?_⟩
    · simp (config := { maxSteps := 2000000 }) (disch := omega) only [ux_at, ux_jo, hn, Nat.add_comm]
    · simp (config := { maxSteps := 2000000 }) (disch := omega) only [ux_at, ux_jo, hl, t1, Nat.zero_add]
    · simp (config := { maxSteps := 2000000 }) (disch := omega) only [ux_at, ux_jo, hr, Nat.add_comm]
    · simp (config := { maxSteps := 2000000 }) (disch := omega) only [ux_at, ux_jo, hsum]
    · simp (config := { maxSteps := 2000000 }) (disch := omega) only [ux_at, ux_jo, hm0, t4]
    · simp (config := { maxSteps := 2000000 }) (disch := omega) only [ux_at, ux_jo, hm2]
    · simp (config := { maxSteps := 2000000 }) (disch := omega) only [ux_at, ux_jo]
theorem tn_split (E : Tl) : tnN E = tlN E + tqN 2 E + trN E := rfl
theorem x_most (hk : nwS k = some (8, 7)) {E : Tl} (hT : TL I k E) (hN : tnN E < 1000) : f25 k (mW I L ru) = some (tI (mostN (tlN E) (tqN 2 E) (trN E)), mW I L ru) := by
  obtain ⟨t0, t1, t2, t3, t4, t5⟩ := hT
  have hs := tn_split E
  have e1 : nI (tnN E) - nI (tlN E) - nI (trN E) = nI (tqN 2 E) := by
    rw [pk_sub (by omega), pk_sub (by omega)]
    congr 1
    omega
  unfold mostN
  by_cases h1 : tqN 2 E < tlN E
  · have q : ¬ (tlN E ≤ tqN 2 E ∧ trN E ≤ tqN 2 E) := by omega
    by_cases h2 : tlN E < trN E
    · have q2 : ¬ trN E ≤ tlN E := by omega
      simp (config := { maxSteps := 2000000 }) (disch := omega) only [f25, f25_J33, gI_of hk, obS, t0, t1, t2, e1, lit_nI, nI_ltI, h1, h2, q, q2, reduceIte, tI_2]
    · have q2 : trN E ≤ tlN E := by omega
      simp (config := { maxSteps := 2000000 }) (disch := omega) only [f25, f25_J33, gI_of hk, obS, t0, t1, t2, e1, lit_nI, nI_ltI, h1, h2, q, q2, reduceIte, tI_0]
  · by_cases h3 : tqN 2 E < trN E
    · have q : ¬ (tlN E ≤ tqN 2 E ∧ trN E ≤ tqN 2 E) := by omega
      have h2 : tlN E < trN E := by omega
      have q2 : ¬ trN E ≤ tlN E := by omega
      simp (config := { maxSteps := 2000000 }) (disch := omega) only [f25, f25_J33, gI_of hk, obS, t0, t1, t2, e1, lit_nI, nI_ltI, h1, h2, h3, q, q2, reduceIte, tI_2]
    · have q : tlN E ≤ tqN 2 E ∧ trN E ≤ tqN 2 E := by omega
      rw [if_pos q]
      simp (config := { maxSteps := 2000000 }) (disch := omega) only [f25, f25_J33, gI_of hk, obS, t0, t1, t2, e1, lit_nI, nI_ltI, h1, h3, reduceIte, tI_1]
theorem x_middle (hk : nwS k = some (8, 7)) {E : Tl} (hT : TL I k E) (hN : tnN E < 1000) (h0 : 0 < tnN E) : f27 k (mW I L ru) = some (tI (midN (tlN E) (tqN 2 E) (trN E)), mW I L ru) := by
  obtain ⟨t0, t1, t2, t3, t4, t5⟩ := hT
  have hs := tn_split E
  have e1 : nI (tnN E) - nI 1 = nI (tnN E - 1) := pk_sub (by omega)
  have e2 : nI (tnN E) - nI (trN E) = nI (tlN E + tqN 2 E) := by
    rw [pk_sub (by omega)]
    congr 1
    omega
  have e3 : tlN E + tqN 2 E + trN E - 1 = tnN E - 1 := by omega
  unfold midN
  rw [e3]
  by_cases h1 : (tnN E - 1) / 2 < tlN E
  · have q : ¬ tlN E ≤ (tnN E - 1) / 2 := by omega
    simp (config := { maxSteps := 2000000 }) (disch := omega) only [f27, gI_of hk, obS, t0, t1, t2, lit_nI, e1, pk_div, nI_ltI, nI_leI, h0, h1, q, reduceIte, tI_0]
  · have q : tlN E ≤ (tnN E - 1) / 2 := by omega
    by_cases h2 : (tnN E - 1) / 2 < tlN E + tqN 2 E
    · have q2 : ¬ tlN E + tqN 2 E ≤ (tnN E - 1) / 2 := by omega
      simp (config := { maxSteps := 2000000 }) (disch := omega) only [f27, gI_of hk, obS, t0, t1, t2, lit_nI, e1, e2, pk_div, nI_ltI, nI_leI, h0, h1, h2, q, q2, reduceIte, tI_1]
    · have q2 : tlN E + tqN 2 E ≤ (tnN E - 1) / 2 := by omega
      simp (config := { maxSteps := 2000000 }) (disch := omega) only [f27, gI_of hk, obS, t0, t1, t2, lit_nI, e1, e2, pk_div, nI_ltI, nI_leI, h0, h1, h2, q, q2, reduceIte, tI_2]
theorem x_mean (hk : nwS k = some (8, 7)) {E : Tl} (hT : TL I k E) (hN : tnN E < 1000) (h0 : 0 < tnN E) : f101 k (mW I L ru) = some (tI (menN (tsI E) (nI (tnN E))), mW I L ru) := by
  obtain ⟨t0, t1, t2, t3, t4, t5⟩ := hT
  have h2 : ¬ 2 * tnN E = 0 := by omega
  have h3 : 0 < 2 * tnN E := by omega
  unfold menN
  by_cases q : tsI E = nI 0
  · simp (config := { maxSteps := 2000000 }) (disch := omega) only [f101, gI_of hk, obS, t0, t3, lit_nI, q, reduceIte, tI_1]
  · by_cases p : nI 0 < tsI E
    · have p2 : ¬ tsI E ≤ nI 0 := by rw [Int32.not_le]; exact p
      simp (config := { maxSteps := 2000000 }) (disch := omega) only [f101, f101_J45, gI_of hk, obS, t0, t3, lit_nI, q, p, p2, pk_mul, nI_ltI, nI_eq, h2, h3, not_false_eq_true, reduceIte, x_signum]
    · have p2 : tsI E ≤ nI 0 := by rw [← Int32.not_lt]; exact p
      simp (config := { maxSteps := 2000000 }) (disch := omega) only [f101, f101_J45, gI_of hk, obS, t0, t3, lit_nI, q, p, p2, pk_mul, nI_ltI, nI_eq, h2, h3, not_false_eq_true, reduceIte, x_signum]
end
