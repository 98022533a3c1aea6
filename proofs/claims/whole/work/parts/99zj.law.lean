/-! THE LAW: the loop over the script -/
theorem tld3 {L : Nat} {xs : Nat → Int32} {i : Nat} (h : i < L) (hL : L < 2 ^ 31) : tldI (L, xs) 3 (nI i) = some (xs i) := by
  have e : tabN (L, xs) 3 = some (L, xs) := rfl
  unfold tldI
  rw [e]
  dsimp only
  rw [nI_clamp (by omega)]
  refine if_pos fun z => ?_
  rcases z with z | z
  · exact nI_pos (by omega) z
  · omega
theorem lw_cond {L i : Nat} (hL : L ≤ 3072) (hi : i < 10000) : (Int32.ofNat L - (6 : Int32) < nI i) = (L < i + 6) := by
  have e6 : (6 : Int32) = nI 6 := by decide +kernel
  show (nI L - (6 : Int32) < nI i) = _
  rw [e6]
  by_cases h : 6 ≤ L
  · rw [pk_sub h, nI_ltI (by omega) (by omega)]
    exact propext (by omega)
  · have h2 : nI L - nI 6 < nI 0 := by
      have : ∀ L, L < 6 → nI L - nI 6 < nI 0 := by decide +kernel
      exact this L (by omega)
    have h3 : nI L - nI 6 < nI i := by
      rw [Int32.lt_iff_toInt_lt, nI_toInt (by omega)] at h2
      rw [Int32.lt_iff_toInt_lt, nI_toInt (by omega)]
      omega
    exact propext ⟨fun _ => by omega, fun _ => h3⟩
section
variable {I A : St} {L : Lt} {ru n : Nat}
/-- one call of each, and on -/
theorem lw_step {fx fm : Wd → Option (Int32 × Wd)} (h : STEP I L ru fx fm) {R : Wd → Option (Int32 × Wd)} (ih : ∀ I L ru A, INV I A → ∃ I' L' ru', R (mW I L ru) = some (nI 1, mW I' L' ru')) : ∃ I' L' ru', (if (wsh (mW I L ru) 0).map (fun q => q.1) = some 10 then ob (fx (mW I L ru)) (fun p => (if (wsh p.2 67).map (fun q => q.1) = some 11 then ob (fm p.2) (fun r => (if p.1 = r.1 then R r.2 else some ((0 : Int32), r.2))) else none)) else none) = some (nI 1, mW I' L' ru') := by
  obtain ⟨v, w1, I', L', ru', A', e1, e2, e3, e4⟩ := h
  obtain ⟨I2, L2, ru2, z⟩ := ih I' L' ru' A' e4
  have c0 : (wsh (mW I L ru) 0).map (fun q => q.1) = some 10 := cls_of sh_0
  have c1 : (wsh w1 67).map (fun q => q.1) = some 11 := by rw [e3]; exact cls_of sh_67
  refine ⟨I2, L2, ru2, ?_⟩
  rw [if_pos c0, e1, obS]
  dsimp only
  rw [if_pos c1, e2, obS]
  dsimp only
  rw [if_pos rfl]
  exact z
end
theorem lw_loop {n N : Nat} {xs : Nat → Int32} (hn : 1000 < n) (hN : N ≤ 3072) {I A : St} {L : Lt} {ru : Nat} (hI : INV I A) : ∃ I' L' ru', f272_H18 (N, xs) n (fun w481 => some ((1 : Int32), w481)) n 0 67 (nI 0) (mW I L ru) = some (nI 1, mW I' L' ru') := by
  refine lpP (F := fun k t (s : St × Lt × Nat) => f272_H18 (N, xs) n (fun w481 => some ((1 : Int32), w481)) k 0 67 (nI (6 * t)) (mW s.1 s.2.1 s.2.2)) (P := fun y => ∃ I' L' ru', y = some (nI 1, mW I' L' ru')) (J := fun t s => ∃ A, INV s.1 A) (N / 6) ?_ ?_ n 0 (I, L, ru) (by omega) (by omega) ⟨A, hI⟩
  · rintro k ⟨I, L, ru⟩ _
    refine ⟨I, L, ru, ?_⟩
    have hc : Int32.ofNat N - (6 : Int32) < nI (6 * (N / 6)) := by
      rw [lw_cond hN (by omega)]
      omega
    unfold f272_H18
    exact if_pos hc
  · rintro k t ⟨I, L, ru⟩ ht ⟨A, hI⟩ ih
    have hI : INV I A := hI
    have ih' : ∀ I L ru A, INV I A → ∃ I' L' ru', f272_H18 (N, xs) n (fun w481 => some ((1 : Int32), w481)) k 0 67 (nI (6 * t) + (6 : Int32)) (mW I L ru) = some (nI 1, mW I' L' ru') := fun I L ru A h => by
      have z := ih (I, L, ru) ⟨A, h⟩
      have e : nI (6 * t) + (6 : Int32) = nI (6 * (t + 1)) := by
        show nI (6 * t) + nI 6 = _
        rw [nI_add]
        rfl
      rw [e]
      exact z
    have hc : ¬ Int32.ofNat N - (6 : Int32) < nI (6 * t) := by
      rw [lw_cond hN (by omega)]
      omega
    have hL : 6 * t + 6 ≤ N := by omega
    have t0 : tldI (N, xs) 3 (nI (6 * t)) = some (xs (6 * t)) := tld3 (by omega) (by omega)
    have t1 : tldI (N, xs) 3 (nI (6 * t) + (1 : Int32)) = some (xs (6 * t + 1)) := by
      have z := tld3 (L := N) (xs := xs) (i := 6 * t + 1) (by omega) (by omega)
      rw [← nI_add] at z
      exact z
    have t2 : tldI (N, xs) 3 (nI (6 * t) + (2 : Int32)) = some (xs (6 * t + 2)) := by
      have z := tld3 (L := N) (xs := xs) (i := 6 * t + 2) (by omega) (by omega)
      rw [← nI_add] at z
      exact z
    have t3 : tldI (N, xs) 3 (nI (6 * t) + (3 : Int32)) = some (xs (6 * t + 3)) := by
      have z := tld3 (L := N) (xs := xs) (i := 6 * t + 3) (by omega) (by omega)
      rw [← nI_add] at z
      exact z
    have t4 : tldI (N, xs) 3 (nI (6 * t) + (4 : Int32)) = some (xs (6 * t + 4)) := by
      have z := tld3 (L := N) (xs := xs) (i := 6 * t + 4) (by omega) (by omega)
      rw [← nI_add] at z
      exact z
    have t5 : tldI (N, xs) 3 (nI (6 * t) + (5 : Int32)) = some (xs (6 * t + 5)) := by
      have z := tld3 (L := N) (xs := xs) (i := 6 * t + 5) (by omega) (by omega)
      rw [← nI_add] at z
      exact z
    show ∃ I' L' ru', f272_H18 (N, xs) n (fun w481 => some ((1 : Int32), w481)) (k + 1) 0 67 (nI (6 * t)) (mW I L ru) = some (nI 1, mW I' L' ru')
    unfold f272_H18
    rw [if_neg hc, t0, obS]
    by_cases h0 : (xs (6 * t) &&& (31 : Int32)) = 0
    · rw [if_pos h0]
      simp only [t1, t2, t3, obS]
      exact lw_step (q_feed (L := L) (ru := ru) (n := n) hI (xs (6 * t + 1)) (((Int32.toInt64 (xs (6 * t + 2))) <<< (Int32.toInt64 (32 : Int32) &&& 63)) ||| ((Int32.toInt64 (xs (6 * t + 3))) &&& (4294967295 : Int64))) hn) ih'
    rw [if_neg h0]
    by_cases h1 : (xs (6 * t) &&& (31 : Int32)) = 1
    · rw [if_pos h1]
      exact lw_step (q_sea (L := L) (ru := ru) (n := n) hI hn) ih'
    rw [if_neg h1]
    by_cases h2 : (xs (6 * t) &&& (31 : Int32)) = 2
    · rw [if_pos h2]
      exact lw_step (q_rule (L := L) (ru := ru) (n := n) hI hn) ih'
    rw [if_neg h2]
    by_cases h3 : (xs (6 * t) &&& (31 : Int32)) = 3
    · rw [if_pos h3]
      exact lw_step (q_fault (L := L) (ru := ru) hI) ih'
    rw [if_neg h3]
    by_cases h4 : (xs (6 * t) &&& (31 : Int32)) = 4
    · rw [if_pos h4]
      simp only [t1, obS]
      exact lw_step (q_told (L := L) (ru := ru) (n := n) hI (xs (6 * t + 1)) hn) ih'
    rw [if_neg h4]
    by_cases h5 : (xs (6 * t) &&& (31 : Int32)) = 5
    · rw [if_pos h5]
      simp only [t1, t2, obS]
      exact lw_step (q_worth (L := L) (ru := ru) (n := n) hI (xs (6 * t + 1)) (xs (6 * t + 2)) hn) ih'
    rw [if_neg h5]
    by_cases h6 : (xs (6 * t) &&& (31 : Int32)) = 6
    · rw [if_pos h6]
      simp only [t1, t2, obS]
      exact lw_step (q_sort (L := L) (ru := ru) hI (xs (6 * t + 1)) (xs (6 * t + 2))) ih'
    rw [if_neg h6]
    by_cases h7 : (xs (6 * t) &&& (31 : Int32)) = 7
    · rw [if_pos h7]
      simp only [t1, t2, t3, t4, t5, obS]
      exact lw_step (q_turns (L := L) (ru := ru) hI (xs (6 * t + 1)) (xs (6 * t + 2)) (xs (6 * t + 3)) (xs (6 * t + 4)) (xs (6 * t + 5))) ih'
    rw [if_neg h7]
    by_cases h8 : (xs (6 * t) &&& (31 : Int32)) = 8
    · rw [if_pos h8]
      simp only [t1, t2, t3, obS]
      exact lw_step (q_way (L := L) (ru := ru) hI (xs (6 * t + 1)) (xs (6 * t + 2)) (xs (6 * t + 3))) ih'
    rw [if_neg h8]
    by_cases h9 : (xs (6 * t) &&& (31 : Int32)) = 9
    · rw [if_pos h9]
      simp only [t1, t2, t3, obS]
      exact lw_step (q_presses (L := L) (ru := ru) (n := n) hI (xs (6 * t + 1)) (xs (6 * t + 2)) (xs (6 * t + 3)) hn) ih'
    rw [if_neg h9]
    by_cases h10 : (xs (6 * t) &&& (31 : Int32)) = 10
    · rw [if_pos h10]
      simp only [t1, t2, t3, t4, obS]
      exact lw_step (q_counted (L := L) (ru := ru) (n := n) hI (xs (6 * t + 1)) (xs (6 * t + 2)) (xs (6 * t + 3)) (xs (6 * t + 4)) hn) ih'
    rw [if_neg h10]
    by_cases h11 : (xs (6 * t) &&& (31 : Int32)) = 11
    · rw [if_pos h11]
      simp only [t1, t2, obS]
      exact lw_step (q_run (L := L) (ru := ru) (n := n) hI (xs (6 * t + 1)) (xs (6 * t + 2)) hn) ih'
    rw [if_neg h11]
    by_cases h12 : (xs (6 * t) &&& (31 : Int32)) = 12
    · rw [if_pos h12]
      simp only [t1, t2, t3, obS]
      exact lw_step (q_at (L := L) (ru := ru) (n := n) hI (xs (6 * t + 1)) (xs (6 * t + 2)) (xs (6 * t + 3)) hn) ih'
    rw [if_neg h12]
    by_cases h13 : (xs (6 * t) &&& (31 : Int32)) = 13
    · rw [if_pos h13]
      simp only [t1, t2, obS]
      exact lw_step (q_comes (L := L) (ru := ru) (n := n) hI (xs (6 * t + 1)) (xs (6 * t + 2)) hn) ih'
    rw [if_neg h13]
    by_cases h14 : (xs (6 * t) &&& (31 : Int32)) = 14
    · rw [if_pos h14]
      simp only [t1, obS]
      exact lw_step (q_log (L := L) (ru := ru) hI (xs (6 * t + 1))) ih'
    rw [if_neg h14]
    by_cases h15 : (xs (6 * t) &&& (31 : Int32)) = 15
    · rw [if_pos h15]
      exact lw_step (q_clear (L := L) (ru := ru) hI) ih'
    rw [if_neg h15]
    by_cases h16 : (xs (6 * t) &&& (31 : Int32)) = 16
    · rw [if_pos h16]
      simp only [t1, obS]
      exact lw_step (q_judge (L := L) (ru := ru) (n := n) hI (xs (6 * t + 1)) hn) ih'
    rw [if_neg h16]
    by_cases h17 : (xs (6 * t) &&& (31 : Int32)) = 17
    · rw [if_pos h17]
      simp only [t1, t2, t3, t4, obS]
      exact lw_step (q_best (L := L) (ru := ru) (n := n) hI (xs (6 * t + 1)) (xs (6 * t + 2)) (xs (6 * t + 3)) (xs (6 * t + 4)) hn) ih'
    rw [if_neg h17]
    by_cases h18 : (xs (6 * t) &&& (31 : Int32)) = 18
    · rw [if_pos h18]
      simp only [t1, t2, t3, obS]
      exact lw_step (q_course (L := L) (ru := ru) (n := n) hI (xs (6 * t + 1)) (xs (6 * t + 2)) (xs (6 * t + 3)) hn) ih'
    rw [if_neg h18]
    by_cases h19 : (xs (6 * t) &&& (31 : Int32)) = 19
    · rw [if_pos h19]
      simp only [t1, t2, t3, obS]
      exact lw_step (q_value (L := L) (ru := ru) (n := n) hI (xs (6 * t + 1)) (xs (6 * t + 2)) (xs (6 * t + 3)) hn) ih'
    rw [if_neg h19]
    by_cases h20 : (xs (6 * t) &&& (31 : Int32)) = 20
    · rw [if_pos h20]
      simp only [t1, t2, t3, obS]
      exact lw_step (q_gain (L := L) (ru := ru) (n := n) hI (xs (6 * t + 1)) (xs (6 * t + 2)) (xs (6 * t + 3)) hn) ih'
    rw [if_neg h20]
    by_cases h21 : (xs (6 * t) &&& (31 : Int32)) = 21
    · rw [if_pos h21]
      simp only [t1, t2, obS]
      exact lw_step (q_pact (L := L) (ru := ru) (n := n) hI (xs (6 * t + 1)) (xs (6 * t + 2)) hn) ih'
    rw [if_neg h21]
    by_cases h22 : (xs (6 * t) &&& (31 : Int32)) = 22
    · rw [if_pos h22]
      simp only [t1, t2, t3, obS]
      exact lw_step (q_sides (L := L) (ru := ru) (n := n) hI (xs (6 * t + 1)) (xs (6 * t + 2)) (xs (6 * t + 3)) hn) ih'
    rw [if_neg h22]
    by_cases h23 : (xs (6 * t) &&& (31 : Int32)) = 23
    · rw [if_pos h23]
      simp only [t1, t2, t3, obS]
      exact lw_step (q_bestRule (L := L) (ru := ru) (n := n) hI (xs (6 * t + 1)) (xs (6 * t + 2)) (xs (6 * t + 3)) hn) ih'
    rw [if_neg h23]
    by_cases h24 : (xs (6 * t) &&& (31 : Int32)) = 24
    · rw [if_pos h24]
      simp only [t1, obS]
      exact lw_step (q_seed (L := L) (ru := ru) hI (xs (6 * t + 1))) ih'
    rw [if_neg h24]
    by_cases h25 : (xs (6 * t) &&& (31 : Int32)) = 25
    · rw [if_pos h25]
      simp only [t1, t2, t3, obS]
      exact lw_step (q_voyage (L := L) (ru := ru) (n := n) hI (xs (6 * t + 1)) (xs (6 * t + 2)) (xs (6 * t + 3)) hn) ih'
    rw [if_neg h25]
    by_cases h26 : (xs (6 * t) &&& (31 : Int32)) = 26
    · rw [if_pos h26]
      simp only [t1, obS]
      exact lw_step (q_count (L := L) (ru := ru) hI (xs (6 * t + 1))) ih'
    rw [if_neg h26]
    by_cases h27 : (xs (6 * t) &&& (31 : Int32)) = 27
    · rw [if_pos h27]
      simp only [t1, obS]
      exact lw_step (q_keep (L := L) (ru := ru) (n := n) hI (xs (6 * t + 1)) hn) ih'
    rw [if_neg h27]
    by_cases h28 : (xs (6 * t) &&& (31 : Int32)) = 28
    · rw [if_pos h28]
      simp only [t1, obS]
      exact lw_step (q_goBack (L := L) (ru := ru) (n := n) hI (xs (6 * t + 1)) hn) ih'
    rw [if_neg h28]
    exact ih' I L ru A hI
