/-! THE METHODS AS FUNCTIONS, 28 -/
/-- NineWheelModel.judge(I)I -/
theorem ft251 : ∀ (i : Nat) {q : Nat × XI}, cd251[i]? = some q → fetch 251 q.1 = some q.2 := ft_of (by decide +kernel)
theorem pr251 : pRt 251 = some .int := rfl
def f251_H19 (n : Nat)  (K11 : Wd → Option (Int32 × Wd)) : Nat → Nat → Int32 → Wd → Option (Int32 × Wd)
  | 0, _, _, _ => none
  | k + 1, v0, v2, w =>
    ob (getI w 11 v0 56) (fun x5 => (if x5 ≤ v2 then K11 w
      else ob (getI w 11 v0 53) (fun x7 => (if x7 ≤ v2 then some (v2, w)
        else ob (getR w 11 v0 51) (fun x9 => ob (aldI w x9 v2) (fun x11 => ob (getR w 11 v0 57) (fun x13 => ob (aldI w x13 v2) (fun x15 => (if x11 = x15 then (fun (v0 : Nat) (v2 : Int32) w => f251_H19 n  K11 k v0 v2 w) v0 (v2 + (1 : Int32)) w
          else some (v2, w))))))))))
set_option maxRecDepth 10000 in
theorem rf251_H19 {S : Sc} (n : Nat)  (K11 : Wd → Option (Int32 × Wd))  (hK11 : ∀  (w : Wd) (o : (Int32 × Wd)), K11 w = some o → Rn S 251 58 [none, none, none] [] w (some (.int o.1), o.2)) : ∀ (k : Nat) (v0 : Nat) (v2 : Int32) (w : Wd) (o : (Int32 × Wd)), f251_H19 n  K11 k v0 v2 w = some o → Rn S 251 19 [some (.ref v0), none, some (.int v2)] [] w (some (.int o.1), o.2) := by
  intro k
  induction k with
  | zero =>
    intro v0 v2 w o h
    exact nomatch h
  | succ k ih =>
    intro v0 v2 w o h
    have hrec11 : ∀ (y0 : Nat) (y2 : Int32) (w : Wd) (o : (Int32 × Wd)), (fun (v0 : Nat) (v2 : Int32) w => f251_H19 n  K11 k v0 v2 w) y0 y2 w = some o → Rn S 251 19 [some (.ref y0), none, some (.int y2)] [] w (some (.int o.1), o.2) := fun y0 y2 w o h => ih y0 y2 w o h
    unfold f251_H19 at h
    refine rn_iload_n (ft251 11 rfl) rfl ?_
    refine rn_aload_n (ft251 12 rfl) rfl ?_
    obtain ⟨x5, q6, h⟩ := ob_some h
    refine rn_getI (ft251 13 rfl) (by decide) (by decide) q6 ?_
    by_cases c19 : x5 ≤ v2
    · replace h := ifp c19 h
      refine rn_icmp_ge_t (ft251 14 rfl) c19 ?_
      exact rn_forget (ls := [none, none, none]) trivial (hK11 w _ h)
    · replace h := ifn c19 h
      refine rn_icmp_ge_f (ft251 14 rfl) c19 ?_
      refine rn_iload_n (ft251 15 rfl) rfl ?_
      refine rn_aload_n (ft251 16 rfl) rfl ?_
      obtain ⟨x7, q8, h⟩ := ob_some h
      refine rn_getI (ft251 17 rfl) (by decide) (by decide) q8 ?_
      by_cases c18 : x7 ≤ v2
      · replace h := ifp c18 h
        refine rn_icmp_ge_t (ft251 18 rfl) c18 ?_
        refine rn_iload_n (ft251 28 rfl) rfl ?_
        cases h
        exact rn_iretI pr251 (ft251 29 rfl)
      · replace h := ifn c18 h
        refine rn_icmp_ge_f (ft251 18 rfl) c18 ?_
        refine rn_aload_n (ft251 19 rfl) rfl ?_
        obtain ⟨x9, q10, h⟩ := ob_some h
        refine rn_getR (ft251 20 rfl) q10 ?_
        refine rn_iload_n (ft251 21 rfl) rfl ?_
        obtain ⟨x11, q12, h⟩ := ob_some h
        refine rn_iaload (ft251 22 rfl) q12 ?_
        refine rn_aload_n (ft251 23 rfl) rfl ?_
        obtain ⟨x13, q14, h⟩ := ob_some h
        refine rn_getR (ft251 24 rfl) q14 ?_
        refine rn_iload_n (ft251 25 rfl) rfl ?_
        obtain ⟨x15, q16, h⟩ := ob_some h
        refine rn_iaload (ft251 26 rfl) q16 ?_
        by_cases c17 : x11 = x15
        · replace h := ifp c17 h
          refine rn_icmp_eq_t (ft251 27 rfl) c17 ?_
          refine rn_iinc (u := 1) (ls' := [some (.ref v0), none, some (.int (v2 + (1 : Int32)))]) (ft251 30 rfl) rfl (by decide) rfl ?_
          refine rn_goto (ft251 31 rfl) ?_
          exact rn_forget (ls := [some (.ref v0), none, some (.int (v2 + (1 : Int32)))]) (And.intro rfl (And.intro rfl trivial)) (hrec11 v0 (v2 + (1 : Int32)) w _ h)
        · replace h := ifn c17 h
          refine rn_icmp_eq_f (ft251 27 rfl) c17 ?_
          refine rn_iload_n (ft251 28 rfl) rfl ?_
          cases h
          exact rn_iretI pr251 (ft251 29 rfl)
def f251 (n : Nat) (v0 : Nat) (v1 : Int32) (w : Wd) : Option (Int32 × Wd) :=
  (if (wsh w v0).map (fun q => q.1) = some 11 then ob (f126 v0 v1 w) (fun p1 => (if ¬ p1.1 = 0 then (if (wsh p1.2 v0).map (fun q => q.1) = some 11 then ob (f244 n v0 v1 p1.2) (fun p3 => f251_H19 n  (fun  (w20 : Wd) => some ((-1 : Int32), w20)) n v0 (0 : Int32) p3) else none)
    else some ((-1000001 : Int32), p1.2))) else none)
set_option maxRecDepth 10000 in
theorem r251 {S : Sc} (n : Nat) (v0 : Nat) (v1 : Int32) (w : Wd) (o : (Int32 × Wd)) (h : f251 n v0 v1 w = some o) : Rn S 251 0 [some (.ref v0), some (.int v1), none] [] w (some (.int o.1), o.2) := by
  unfold f251 at h
  refine rn_aload_n (ft251 0 rfl) rfl ?_
  refine rn_iload_n (ft251 1 rfl) rfl ?_
  obtain ⟨g23, h⟩ := ifg h
  obtain ⟨p1, q2, h⟩ := ob_some h
  refine rn_callV (as := [.int v1]) (k0 := v0) (r := []) (v := (some (.int p1.1))) (w1 := p1.2) (ft251 2 rfl) (by decide +kernel) rfl (Nat.le_of_ble_eq_true rfl) (Nat.le_of_ble_eq_true rfl) (r126 v0 v1 w _ q2) (by decide +kernel) g23 ?_
  by_cases c22 : ¬ p1.1 = 0
  · replace h := ifp c22 h
    refine rn_if_ne_t (ft251 3 rfl) c22 ?_
    refine rn_aload_n (ft251 6 rfl) rfl ?_
    refine rn_iload_n (ft251 7 rfl) rfl ?_
    obtain ⟨g21, h⟩ := ifg h
    obtain ⟨p3, q4, h⟩ := ob_some h
    refine rn_callV (as := [.int v1]) (k0 := v0) (r := []) (v := none) (w1 := p3) (ft251 8 rfl) (by decide +kernel) rfl (Nat.le_of_ble_eq_true rfl) (Nat.le_of_ble_eq_true rfl) (r244 n v0 v1 p1.2 _ q4) (by decide +kernel) g21 ?_
    refine rn_iconst (v := (0 : Int32)) (ft251 9 rfl) (by decide) ?_
    refine rn_istore_n (ls' := [some (.ref v0), some (.int v1), some (.int (0 : Int32))]) (ft251 10 rfl) rfl ?_
    refine rn_forget (ls := [some (.ref v0), none, some (.int (0 : Int32))]) (And.intro rfl (And.intro rfl trivial)) (rf251_H19 n  _  (fun  w20 o h => ?_) n v0 (0 : Int32) p3 _ h)
    refine rn_iconst (v := (-1 : Int32)) (ft251 32 rfl) (by decide) ?_
    cases h
    exact rn_iretI pr251 (ft251 33 rfl)
  · replace h := ifn c22 h
    refine rn_if_ne_f (ft251 3 rfl) c22 ?_
    refine rn_ldcw (v := (-1000001 : Int32)) (ft251 4 rfl) (by decide) ?_
    cases h
    exact rn_iretI pr251 (ft251 5 rfl)
/-- NineWheelModel.value(III)I -/
theorem ft252 : ∀ (i : Nat) {q : Nat × XI}, cd252[i]? = some q → fetch 252 q.1 = some q.2 := ft_of (by decide +kernel)
theorem pr252 : pRt 252 = some .int := rfl
def f252 (n : Nat) (v0 : Nat) (v1 : Int32) (v2 : Int32) (v3 : Int32) (w : Wd) : Option (Int32 × Wd) :=
  (if (wsh w v0).map (fun q => q.1) = some 11 then ob (f126 v0 v1 w) (fun p1 => (if p1.1 = 0 then some ((-1000001 : Int32), p1.2)
    else (if (wsh p1.2 v0).map (fun q => q.1) = some 11 then ob (f119 v0 v2 p1.2) (fun p3 => (if ¬ p3.1 = 0 then ob (f131 v3 p3.2) (fun p5 => (if ¬ p5.1 = 0 then (if (wsh p5.2 v0).map (fun q => q.1) = some 11 then ob (f54 v0 v1 p5.2) (fun p7 => ob (getI p7 11 v0 5) (fun x9 => (if (wsh p7 v0).map (fun q => q.1) = some 11 then ob (f245 n v0 v2 v3 x9 p7) (fun p11 => some (p11.1, p11.2)) else none))) else none)
        else some ((-1000002 : Int32), p5.2)))
      else some ((-1000001 : Int32), p3.2))) else none))) else none)
set_option maxRecDepth 10000 in
theorem r252 {S : Sc} (n : Nat) (v0 : Nat) (v1 : Int32) (v2 : Int32) (v3 : Int32) (w : Wd) (o : (Int32 × Wd)) (h : f252 n v0 v1 v2 v3 w = some o) : Rn S 252 0 [some (.ref v0), some (.int v1), some (.int v2), some (.int v3)] [] w (some (.int o.1), o.2) := by
  unfold f252 at h
  refine rn_aload_n (ft252 0 rfl) rfl ?_
  refine rn_iload_n (ft252 1 rfl) rfl ?_
  obtain ⟨g19, h⟩ := ifg h
  obtain ⟨p1, q2, h⟩ := ob_some h
  refine rn_callV (as := [.int v1]) (k0 := v0) (r := []) (v := (some (.int p1.1))) (w1 := p1.2) (ft252 2 rfl) (by decide +kernel) rfl (Nat.le_of_ble_eq_true rfl) (Nat.le_of_ble_eq_true rfl) (r126 v0 v1 w _ q2) (by decide +kernel) g19 ?_
  by_cases c18 : p1.1 = 0
  · replace h := ifp c18 h
    refine rn_if_eq_t (ft252 3 rfl) c18 ?_
    refine rn_ldcw (v := (-1000001 : Int32)) (ft252 8 rfl) (by decide) ?_
    cases h
    exact rn_iretI pr252 (ft252 9 rfl)
  · replace h := ifn c18 h
    refine rn_if_eq_f (ft252 3 rfl) c18 ?_
    refine rn_aload_n (ft252 4 rfl) rfl ?_
    refine rn_iload_n (ft252 5 rfl) rfl ?_
    obtain ⟨g17, h⟩ := ifg h
    obtain ⟨p3, q4, h⟩ := ob_some h
    refine rn_callV (as := [.int v2]) (k0 := v0) (r := []) (v := (some (.int p3.1))) (w1 := p3.2) (ft252 6 rfl) (by decide +kernel) rfl (Nat.le_of_ble_eq_true rfl) (Nat.le_of_ble_eq_true rfl) (r119 v0 v2 p1.2 _ q4) (by decide +kernel) g17 ?_
    by_cases c16 : ¬ p3.1 = 0
    · replace h := ifp c16 h
      refine rn_if_ne_t (ft252 7 rfl) c16 ?_
      refine rn_iload_n (ft252 10 rfl) rfl ?_
      obtain ⟨p5, q6, h⟩ := ob_some h
      refine rn_callS (as := [.int v3]) (r := []) (v := (some (.int p5.1))) (w1 := p5.2) (ft252 11 rfl) (by decide +kernel) rfl (Nat.le_of_ble_eq_true rfl) (Nat.le_of_ble_eq_true rfl) (r131 v3 p3.2 _ q6) ?_
      by_cases c15 : ¬ p5.1 = 0
      · replace h := ifp c15 h
        refine rn_if_ne_t (ft252 12 rfl) c15 ?_
        refine rn_aload_n (ft252 15 rfl) rfl ?_
        refine rn_iload_n (ft252 16 rfl) rfl ?_
        obtain ⟨g14, h⟩ := ifg h
        obtain ⟨p7, q8, h⟩ := ob_some h
        refine rn_callV (as := [.int v1]) (k0 := v0) (r := []) (v := none) (w1 := p7) (ft252 17 rfl) (by decide +kernel) rfl (Nat.le_of_ble_eq_true rfl) (Nat.le_of_ble_eq_true rfl) (r54 v0 v1 p5.2 _ q8) (by decide +kernel) g14 ?_
        refine rn_aload_n (ft252 18 rfl) rfl ?_
        refine rn_iload_n (ft252 19 rfl) rfl ?_
        refine rn_iload_n (ft252 20 rfl) rfl ?_
        refine rn_aload_n (ft252 21 rfl) rfl ?_
        obtain ⟨x9, q10, h⟩ := ob_some h
        refine rn_getI (ft252 22 rfl) (by decide) (by decide) q10 ?_
        obtain ⟨g13, h⟩ := ifg h
        obtain ⟨p11, q12, h⟩ := ob_some h
        refine rn_callV (as := [.int v2, .int v3, .int x9]) (k0 := v0) (r := []) (v := (some (.int p11.1))) (w1 := p11.2) (ft252 23 rfl) (by decide +kernel) rfl (Nat.le_of_ble_eq_true rfl) (Nat.le_of_ble_eq_true rfl) (r245 n v0 v2 v3 x9 p7 _ q12) (by decide +kernel) g13 ?_
        cases h
        exact rn_iretI pr252 (ft252 24 rfl)
      · replace h := ifn c15 h
        refine rn_if_ne_f (ft252 12 rfl) c15 ?_
        refine rn_ldc (v := (-1000002 : Int32)) (ft252 13 rfl) (by decide) rfl ?_
        cases h
        exact rn_iretI pr252 (ft252 14 rfl)
    · replace h := ifn c16 h
      refine rn_if_ne_f (ft252 7 rfl) c16 ?_
      refine rn_ldcw (v := (-1000001 : Int32)) (ft252 8 rfl) (by decide) ?_
      cases h
      exact rn_iretI pr252 (ft252 9 rfl)
/-- NineWheelModel.gainOf(II)I -/
theorem ft253 : ∀ (i : Nat) {q : Nat × XI}, cd253[i]? = some q → fetch 253 q.1 = some q.2 := ft_of (by decide +kernel)
theorem pr253 : pRt 253 = some .int := rfl
def f253 (n : Nat) (v0 : Nat) (v1 : Int32) (v2 : Int32) (w : Wd) : Option (Int32 × Wd) :=
  (if (wsh w v0).map (fun q => q.1) = some 11 then ob (f191 n v0 w) (fun p1 => (if (wsh p1 v0).map (fun q => q.1) = some 11 then ob (f245 n v0 v1 v2 (0 : Int32) p1) (fun p3 => (if (wsh p3.2 v0).map (fun q => q.1) = some 11 then ob (f215 n v0 v1 v2 (0 : Int32) p3.2) (fun p5 => ob (getR p5 11 v0 58) (fun x7 => ob (getI p5 11 v0 0) (fun x9 => ob (getI p5 11 v0 1) (fun x11 => ob (aldI p5 x7 (((8 : Int32) * x9) + x11)) (fun x13 => some ((x13 - p3.1), p5)))))) else none)) else none)) else none)
set_option maxRecDepth 10000 in
theorem r253 {S : Sc} (n : Nat) (v0 : Nat) (v1 : Int32) (v2 : Int32) (w : Wd) (o : (Int32 × Wd)) (h : f253 n v0 v1 v2 w = some o) : Rn S 253 0 [some (.ref v0), some (.int v1), some (.int v2), none] [] w (some (.int o.1), o.2) := by
  unfold f253 at h
  refine rn_aload_n (ft253 0 rfl) rfl ?_
  obtain ⟨g17, h⟩ := ifg h
  obtain ⟨p1, q2, h⟩ := ob_some h
  refine rn_callV (as := []) (k0 := v0) (r := []) (v := none) (w1 := p1) (ft253 1 rfl) (by decide +kernel) rfl (Nat.le_of_ble_eq_true rfl) (Nat.le_of_ble_eq_true rfl) (r191 n v0 w _ q2) (by decide +kernel) g17 ?_
  refine rn_aload_n (ft253 2 rfl) rfl ?_
  refine rn_iload_n (ft253 3 rfl) rfl ?_
  refine rn_iload_n (ft253 4 rfl) rfl ?_
  refine rn_iconst (v := (0 : Int32)) (ft253 5 rfl) (by decide) ?_
  obtain ⟨g16, h⟩ := ifg h
  obtain ⟨p3, q4, h⟩ := ob_some h
  refine rn_callV (as := [.int v1, .int v2, .int (0 : Int32)]) (k0 := v0) (r := []) (v := (some (.int p3.1))) (w1 := p3.2) (ft253 6 rfl) (by decide +kernel) rfl (Nat.le_of_ble_eq_true rfl) (Nat.le_of_ble_eq_true rfl) (r245 n v0 v1 v2 (0 : Int32) p1 _ q4) (by decide +kernel) g16 ?_
  refine rn_istore_n (ls' := [some (.ref v0), some (.int v1), some (.int v2), some (.int p3.1)]) (ft253 7 rfl) rfl ?_
  refine rn_aload_n (ft253 8 rfl) rfl ?_
  refine rn_iload_n (ft253 9 rfl) rfl ?_
  refine rn_iload_n (ft253 10 rfl) rfl ?_
  refine rn_iconst (v := (0 : Int32)) (ft253 11 rfl) (by decide) ?_
  obtain ⟨g15, h⟩ := ifg h
  obtain ⟨p5, q6, h⟩ := ob_some h
  refine rn_callV (as := [.int v1, .int v2, .int (0 : Int32)]) (k0 := v0) (r := []) (v := none) (w1 := p5) (ft253 12 rfl) (by decide +kernel) rfl (Nat.le_of_ble_eq_true rfl) (Nat.le_of_ble_eq_true rfl) (r215 n v0 v1 v2 (0 : Int32) p3.2 _ q6) (by decide +kernel) g15 ?_
  refine rn_aload_n (ft253 13 rfl) rfl ?_
  obtain ⟨x7, q8, h⟩ := ob_some h
  refine rn_getR (ft253 14 rfl) q8 ?_
  refine rn_bipush (v := (8 : Int32)) (ft253 15 rfl) (by decide) ?_
  refine rn_aload_n (ft253 16 rfl) rfl ?_
  obtain ⟨x9, q10, h⟩ := ob_some h
  refine rn_getI (ft253 17 rfl) (by decide) (by decide) q10 ?_
  refine rn_imul (ft253 18 rfl) ?_
  refine rn_aload_n (ft253 19 rfl) rfl ?_
  obtain ⟨x11, q12, h⟩ := ob_some h
  refine rn_getI (ft253 20 rfl) (by decide) (by decide) q12 ?_
  refine rn_iadd (ft253 21 rfl) ?_
  obtain ⟨x13, q14, h⟩ := ob_some h
  refine rn_iaload (ft253 22 rfl) q14 ?_
  refine rn_iload_n (ft253 23 rfl) rfl ?_
  refine rn_isub (ft253 24 rfl) ?_
  cases h
  exact rn_iretI pr253 (ft253 25 rfl)
/-- NineWheelModel.bestRule(III)I -/
theorem ft254 : ∀ (i : Nat) {q : Nat × XI}, cd254[i]? = some q → fetch 254 q.1 = some q.2 := ft_of (by decide +kernel)
theorem pr254 : pRt 254 = some .int := rfl
def f254_J156 (n : Nat) (rec23 : Nat → Int32 → Int32 → Int32 → Int32 → Int32 → Int32 → Wd → Option (Int32 × Wd)) (K23 : Int32 → Int32 → Int32 → Wd → Option (Int32 × Wd)) (v0 : Nat) (v1 : Int32) (v2 : Int32) (v3 : Int32) (v5 : Int32) (v6 : Int32) (v8 : Int32) (s0 : Int32) (w : Wd) : Option (Int32 × Wd) :=
  (if ¬ s0 = v6 then rec23 v0 v1 v2 v3 s0 v5 (v6 + (1 : Int32)) w
    else rec23 v0 v1 v2 v3 s0 v8 (v6 + (1 : Int32)) w)
set_option maxRecDepth 10000 in
theorem rf254_J156 {S : Sc} (n : Nat) (rec23 : Nat → Int32 → Int32 → Int32 → Int32 → Int32 → Int32 → Wd → Option (Int32 × Wd)) (K23 : Int32 → Int32 → Int32 → Wd → Option (Int32 × Wd)) (v0 : Nat) (v1 : Int32) (v2 : Int32) (v3 : Int32) (v5 : Int32) (v6 : Int32) (v8 : Int32) (s0 : Int32) (w : Wd) (o : (Int32 × Wd)) (hrec23 : ∀ (y0 : Nat) (y1 : Int32) (y2 : Int32) (y3 : Int32) (y4 : Int32) (y5 : Int32) (y6 : Int32) (w : Wd) (o : (Int32 × Wd)), rec23 y0 y1 y2 y3 y4 y5 y6 w = some o → Rn S 254 41 [some (.ref y0), some (.int y1), some (.int y2), some (.int y3), some (.int y4), some (.int y5), some (.int y6), none, none] [] w (some (.int o.1), o.2)) (hK23 : ∀ (y3 : Int32) (y4 : Int32) (y5 : Int32) (w : Wd) (o : (Int32 × Wd)), K23 y3 y4 y5 w = some o → Rn S 254 180 [none, none, none, some (.int y3), some (.int y4), some (.int y5), none, none, none] [] w (some (.int o.1), o.2)) (h : f254_J156 n rec23 K23 v0 v1 v2 v3 v5 v6 v8 s0 w = some o) : Rn S 254 156 [some (.ref v0), some (.int v1), some (.int v2), some (.int v3), none, some (.int v5), some (.int v6), none, some (.int v8)] [.int s0] w (some (.int o.1), o.2) := by
  unfold f254_J156 at h
  refine rn_istore (ls' := [some (.ref v0), some (.int v1), some (.int v2), some (.int v3), some (.int s0), some (.int v5), some (.int v6), none, some (.int v8)]) (ft254 85 rfl) rfl ?_
  refine rn_iload (ft254 86 rfl) rfl ?_
  refine rn_iload (ft254 87 rfl) rfl ?_
  by_cases c21 : ¬ s0 = v6
  · replace h := ifp c21 h
    refine rn_icmp_ne_t (ft254 88 rfl) c21 ?_
    refine rn_iload (ft254 91 rfl) rfl ?_
    refine rn_istore (ls' := [some (.ref v0), some (.int v1), some (.int v2), some (.int v3), some (.int s0), some (.int v5), some (.int v6), none, some (.int v8)]) (ft254 92 rfl) rfl ?_
    refine rn_iinc (u := 1) (ls' := [some (.ref v0), some (.int v1), some (.int v2), some (.int v3), some (.int s0), some (.int v5), some (.int (v6 + (1 : Int32))), none, some (.int v8)]) (ft254 93 rfl) rfl (by decide) rfl ?_
    refine rn_goto (ft254 94 rfl) ?_
    exact rn_forget (ls := [some (.ref v0), some (.int v1), some (.int v2), some (.int v3), some (.int s0), some (.int v5), some (.int (v6 + (1 : Int32))), none, none]) (And.intro rfl (And.intro rfl (And.intro rfl (And.intro rfl (And.intro rfl (And.intro rfl (And.intro rfl trivial))))))) (hrec23 v0 v1 v2 v3 s0 v5 (v6 + (1 : Int32)) w _ h)
  · replace h := ifn c21 h
    refine rn_icmp_ne_f (ft254 88 rfl) c21 ?_
    refine rn_iload (ft254 89 rfl) rfl ?_
    refine rn_goto (ft254 90 rfl) ?_
    refine rn_istore (ls' := [some (.ref v0), some (.int v1), some (.int v2), some (.int v3), some (.int s0), some (.int v8), some (.int v6), none, some (.int v8)]) (ft254 92 rfl) rfl ?_
    refine rn_iinc (u := 1) (ls' := [some (.ref v0), some (.int v1), some (.int v2), some (.int v3), some (.int s0), some (.int v8), some (.int (v6 + (1 : Int32))), none, some (.int v8)]) (ft254 93 rfl) rfl (by decide) rfl ?_
    refine rn_goto (ft254 94 rfl) ?_
    exact rn_forget (ls := [some (.ref v0), some (.int v1), some (.int v2), some (.int v3), some (.int s0), some (.int v8), some (.int (v6 + (1 : Int32))), none, none]) (And.intro rfl (And.intro rfl (And.intro rfl (And.intro rfl (And.intro rfl (And.intro rfl (And.intro rfl trivial))))))) (hrec23 v0 v1 v2 v3 s0 v8 (v6 + (1 : Int32)) w _ h)
def f254_J122 (n : Nat) (rec23 : Nat → Int32 → Int32 → Int32 → Int32 → Int32 → Int32 → Wd → Option (Int32 × Wd)) (K23 : Int32 → Int32 → Int32 → Wd → Option (Int32 × Wd)) (v0 : Nat) (v1 : Int32) (v2 : Int32) (v3 : Int32) (v4 : Int32) (v5 : Int32) (v6 : Int32) (s0 : Nat) (s1 : Int32) (w : Wd) : Option (Int32 × Wd) :=
  ob (putI w 11 s0 43 s1) (fun w15 => ob (getI w15 11 v0 5) (fun x17 => (if (wsh w15 v0).map (fun q => q.1) = some 11 then ob (f245 n v0 v1 v2 x17 w15) (fun p19 => (if v4 < 0 then f254_J156 n rec23 K23 v0 v1 v2 v3 v5 v6 p19.1 v6 p19.2
    else (if p19.1 ≤ v5 then f254_J156 n rec23 K23 v0 v1 v2 v3 v5 v6 p19.1 v4 p19.2
      else f254_J156 n rec23 K23 v0 v1 v2 v3 v5 v6 p19.1 v6 p19.2))) else none)))
set_option maxRecDepth 10000 in
theorem rf254_J122 {S : Sc} (n : Nat) (rec23 : Nat → Int32 → Int32 → Int32 → Int32 → Int32 → Int32 → Wd → Option (Int32 × Wd)) (K23 : Int32 → Int32 → Int32 → Wd → Option (Int32 × Wd)) (v0 : Nat) (v1 : Int32) (v2 : Int32) (v3 : Int32) (v4 : Int32) (v5 : Int32) (v6 : Int32) (s0 : Nat) (s1 : Int32) (w : Wd) (o : (Int32 × Wd)) (hrec23 : ∀ (y0 : Nat) (y1 : Int32) (y2 : Int32) (y3 : Int32) (y4 : Int32) (y5 : Int32) (y6 : Int32) (w : Wd) (o : (Int32 × Wd)), rec23 y0 y1 y2 y3 y4 y5 y6 w = some o → Rn S 254 41 [some (.ref y0), some (.int y1), some (.int y2), some (.int y3), some (.int y4), some (.int y5), some (.int y6), none, none] [] w (some (.int o.1), o.2)) (hK23 : ∀ (y3 : Int32) (y4 : Int32) (y5 : Int32) (w : Wd) (o : (Int32 × Wd)), K23 y3 y4 y5 w = some o → Rn S 254 180 [none, none, none, some (.int y3), some (.int y4), some (.int y5), none, none, none] [] w (some (.int o.1), o.2)) (h : f254_J122 n rec23 K23 v0 v1 v2 v3 v4 v5 v6 s0 s1 w = some o) : Rn S 254 122 [some (.ref v0), some (.int v1), some (.int v2), some (.int v3), some (.int v4), some (.int v5), some (.int v6), none, none] [.int s1, .ref s0] w (some (.int o.1), o.2) := by
  unfold f254_J122 at h
  obtain ⟨w15, q16, h⟩ := ob_some h
  refine rn_putI (ft254 69 rfl) q16 ?_
  refine rn_aload_n (ft254 70 rfl) rfl ?_
  refine rn_iload_n (ft254 71 rfl) rfl ?_
  refine rn_iload_n (ft254 72 rfl) rfl ?_
  refine rn_aload_n (ft254 73 rfl) rfl ?_
  obtain ⟨x17, q18, h⟩ := ob_some h
  refine rn_getI (ft254 74 rfl) (by decide) (by decide) q18 ?_
  obtain ⟨g24, h⟩ := ifg h
  obtain ⟨p19, q20, h⟩ := ob_some h
  refine rn_callV (as := [.int v1, .int v2, .int x17]) (k0 := v0) (r := []) (v := (some (.int p19.1))) (w1 := p19.2) (ft254 75 rfl) (by decide +kernel) rfl (Nat.le_of_ble_eq_true rfl) (Nat.le_of_ble_eq_true rfl) (r245 n v0 v1 v2 x17 w15 _ q20) (by decide +kernel) g24 ?_
  refine rn_istore (ls' := [some (.ref v0), some (.int v1), some (.int v2), some (.int v3), some (.int v4), some (.int v5), some (.int v6), none, some (.int p19.1)]) (ft254 76 rfl) rfl ?_
  refine rn_iload (ft254 77 rfl) rfl ?_
  by_cases c23 : v4 < 0
  · replace h := ifp c23 h
    refine rn_if_lt_t (ft254 78 rfl) c23 ?_
    refine rn_iload (ft254 82 rfl) rfl ?_
    refine rn_goto (ft254 83 rfl) ?_
    exact rn_forget (ls := [some (.ref v0), some (.int v1), some (.int v2), some (.int v3), none, some (.int v5), some (.int v6), none, some (.int p19.1)]) (And.intro rfl (And.intro rfl (And.intro rfl (And.intro rfl (And.intro rfl (And.intro rfl (And.intro rfl trivial))))))) (rf254_J156 n rec23 K23 v0 v1 v2 v3 v5 v6 p19.1 v6 p19.2 _ hrec23 hK23 h)
  · replace h := ifn c23 h
    refine rn_if_lt_f (ft254 78 rfl) c23 ?_
    refine rn_iload (ft254 79 rfl) rfl ?_
    refine rn_iload (ft254 80 rfl) rfl ?_
    by_cases c22 : p19.1 ≤ v5
    · replace h := ifp c22 h
      refine rn_icmp_le_t (ft254 81 rfl) c22 ?_
      refine rn_iload (ft254 84 rfl) rfl ?_
      exact rn_forget (ls := [some (.ref v0), some (.int v1), some (.int v2), some (.int v3), none, some (.int v5), some (.int v6), none, some (.int p19.1)]) (And.intro rfl (And.intro rfl (And.intro rfl (And.intro rfl (And.intro rfl (And.intro rfl (And.intro rfl trivial))))))) (rf254_J156 n rec23 K23 v0 v1 v2 v3 v5 v6 p19.1 v4 p19.2 _ hrec23 hK23 h)
    · replace h := ifn c22 h
      refine rn_icmp_le_f (ft254 81 rfl) c22 ?_
      refine rn_iload (ft254 82 rfl) rfl ?_
      refine rn_goto (ft254 83 rfl) ?_
      exact rn_forget (ls := [some (.ref v0), some (.int v1), some (.int v2), some (.int v3), none, some (.int v5), some (.int v6), none, some (.int p19.1)]) (And.intro rfl (And.intro rfl (And.intro rfl (And.intro rfl (And.intro rfl (And.intro rfl (And.intro rfl trivial))))))) (rf254_J156 n rec23 K23 v0 v1 v2 v3 v5 v6 p19.1 v6 p19.2 _ hrec23 hK23 h)
def f254_J103 (n : Nat) (rec23 : Nat → Int32 → Int32 → Int32 → Int32 → Int32 → Int32 → Wd → Option (Int32 × Wd)) (K23 : Int32 → Int32 → Int32 → Wd → Option (Int32 × Wd)) (v0 : Nat) (v1 : Int32) (v2 : Int32) (v3 : Int32) (v4 : Int32) (v5 : Int32) (v6 : Int32) (v7 : Int32) (s0 : Nat) (s1 : Int32) (w : Wd) : Option (Int32 × Wd) :=
  ob (putI w 11 s0 42 s1) (fun w13 => (if ¬ v7 = 0 then f254_J122 n rec23 K23 v0 v1 v2 v3 v4 v5 v6 v0 ((v7 + (1 : Int32)) / (2 : Int32)) w13
    else f254_J122 n rec23 K23 v0 v1 v2 v3 v4 v5 v6 v0 (0 : Int32) w13))
set_option maxRecDepth 10000 in
theorem rf254_J103 {S : Sc} (n : Nat) (rec23 : Nat → Int32 → Int32 → Int32 → Int32 → Int32 → Int32 → Wd → Option (Int32 × Wd)) (K23 : Int32 → Int32 → Int32 → Wd → Option (Int32 × Wd)) (v0 : Nat) (v1 : Int32) (v2 : Int32) (v3 : Int32) (v4 : Int32) (v5 : Int32) (v6 : Int32) (v7 : Int32) (s0 : Nat) (s1 : Int32) (w : Wd) (o : (Int32 × Wd)) (hrec23 : ∀ (y0 : Nat) (y1 : Int32) (y2 : Int32) (y3 : Int32) (y4 : Int32) (y5 : Int32) (y6 : Int32) (w : Wd) (o : (Int32 × Wd)), rec23 y0 y1 y2 y3 y4 y5 y6 w = some o → Rn S 254 41 [some (.ref y0), some (.int y1), some (.int y2), some (.int y3), some (.int y4), some (.int y5), some (.int y6), none, none] [] w (some (.int o.1), o.2)) (hK23 : ∀ (y3 : Int32) (y4 : Int32) (y5 : Int32) (w : Wd) (o : (Int32 × Wd)), K23 y3 y4 y5 w = some o → Rn S 254 180 [none, none, none, some (.int y3), some (.int y4), some (.int y5), none, none, none] [] w (some (.int o.1), o.2)) (h : f254_J103 n rec23 K23 v0 v1 v2 v3 v4 v5 v6 v7 s0 s1 w = some o) : Rn S 254 103 [some (.ref v0), some (.int v1), some (.int v2), some (.int v3), some (.int v4), some (.int v5), some (.int v6), some (.int v7), none] [.int s1, .ref s0] w (some (.int o.1), o.2) := by
  unfold f254_J103 at h
  obtain ⟨w13, q14, h⟩ := ob_some h
  refine rn_putI (ft254 58 rfl) q14 ?_
  refine rn_aload_n (ft254 59 rfl) rfl ?_
  refine rn_iload (ft254 60 rfl) rfl ?_
  by_cases c25 : ¬ v7 = 0
  · replace h := ifp c25 h
    refine rn_if_ne_t (ft254 61 rfl) c25 ?_
    refine rn_iload (ft254 64 rfl) rfl ?_
    refine rn_iconst (v := (1 : Int32)) (ft254 65 rfl) (by decide) ?_
    refine rn_iadd (ft254 66 rfl) ?_
    refine rn_iconst (v := (2 : Int32)) (ft254 67 rfl) (by decide) ?_
    refine rn_idiv (ft254 68 rfl) (by decide) ?_
    exact rn_forget (ls := [some (.ref v0), some (.int v1), some (.int v2), some (.int v3), some (.int v4), some (.int v5), some (.int v6), none, none]) (And.intro rfl (And.intro rfl (And.intro rfl (And.intro rfl (And.intro rfl (And.intro rfl (And.intro rfl trivial))))))) (rf254_J122 n rec23 K23 v0 v1 v2 v3 v4 v5 v6 v0 ((v7 + (1 : Int32)) / (2 : Int32)) w13 _ hrec23 hK23 h)
  · replace h := ifn c25 h
    refine rn_if_ne_f (ft254 61 rfl) c25 ?_
    refine rn_iconst (v := (0 : Int32)) (ft254 62 rfl) (by decide) ?_
    refine rn_goto (ft254 63 rfl) ?_
    exact rn_forget (ls := [some (.ref v0), some (.int v1), some (.int v2), some (.int v3), some (.int v4), some (.int v5), some (.int v6), none, none]) (And.intro rfl (And.intro rfl (And.intro rfl (And.intro rfl (And.intro rfl (And.intro rfl (And.intro rfl trivial))))))) (rf254_J122 n rec23 K23 v0 v1 v2 v3 v4 v5 v6 v0 (0 : Int32) w13 _ hrec23 hK23 h)
def f254_H41 (n : Nat)  (K23 : Int32 → Int32 → Int32 → Wd → Option (Int32 × Wd)) : Nat → Nat → Int32 → Int32 → Int32 → Int32 → Int32 → Int32 → Wd → Option (Int32 × Wd)
  | 0, _, _, _, _, _, _, _, _ => none
  | k + 1, v0, v1, v2, v3, v4, v5, v6, w =>
    (if (200 : Int32) ≤ v6 then K23 v3 v4 v5 w
      else ob (putI w 11 v0 39 (v6 / (50 : Int32))) (fun w7 => ob (putI w7 11 v0 40 (irm (v6 / (5 : Int32)) (10 : Int32))) (fun w9 => ob (putI w9 11 v0 41 (0 : Int32)) (fun w11 => (if ¬ (irm v6 (5 : Int32)) = 0 then (if ¬ (irm (irm v6 (5 : Int32)) (2 : Int32)) = (1 : Int32) then f254_J103 n (fun (v0 : Nat) (v1 : Int32) (v2 : Int32) (v3 : Int32) (v4 : Int32) (v5 : Int32) (v6 : Int32) w => f254_H41 n  K23 k v0 v1 v2 v3 v4 v5 v6 w) K23 v0 v1 v2 v3 v4 v5 v6 (irm v6 (5 : Int32)) v0 (1 : Int32) w11
          else f254_J103 n (fun (v0 : Nat) (v1 : Int32) (v2 : Int32) (v3 : Int32) (v4 : Int32) (v5 : Int32) (v6 : Int32) w => f254_H41 n  K23 k v0 v1 v2 v3 v4 v5 v6 w) K23 v0 v1 v2 v3 v4 v5 v6 (irm v6 (5 : Int32)) v0 (-1 : Int32) w11)
        else f254_J103 n (fun (v0 : Nat) (v1 : Int32) (v2 : Int32) (v3 : Int32) (v4 : Int32) (v5 : Int32) (v6 : Int32) w => f254_H41 n  K23 k v0 v1 v2 v3 v4 v5 v6 w) K23 v0 v1 v2 v3 v4 v5 v6 (irm v6 (5 : Int32)) v0 (0 : Int32) w11)))))
set_option maxRecDepth 10000 in
theorem rf254_H41 {S : Sc} (n : Nat)  (K23 : Int32 → Int32 → Int32 → Wd → Option (Int32 × Wd))  (hK23 : ∀ (y3 : Int32) (y4 : Int32) (y5 : Int32) (w : Wd) (o : (Int32 × Wd)), K23 y3 y4 y5 w = some o → Rn S 254 180 [none, none, none, some (.int y3), some (.int y4), some (.int y5), none, none, none] [] w (some (.int o.1), o.2)) : ∀ (k : Nat) (v0 : Nat) (v1 : Int32) (v2 : Int32) (v3 : Int32) (v4 : Int32) (v5 : Int32) (v6 : Int32) (w : Wd) (o : (Int32 × Wd)), f254_H41 n  K23 k v0 v1 v2 v3 v4 v5 v6 w = some o → Rn S 254 41 [some (.ref v0), some (.int v1), some (.int v2), some (.int v3), some (.int v4), some (.int v5), some (.int v6), none, none] [] w (some (.int o.1), o.2) := by
  intro k
  induction k with
  | zero =>
    intro v0 v1 v2 v3 v4 v5 v6 w o h
    exact nomatch h
  | succ k ih =>
    intro v0 v1 v2 v3 v4 v5 v6 w o h
    have hrec23 : ∀ (y0 : Nat) (y1 : Int32) (y2 : Int32) (y3 : Int32) (y4 : Int32) (y5 : Int32) (y6 : Int32) (w : Wd) (o : (Int32 × Wd)), (fun (v0 : Nat) (v1 : Int32) (v2 : Int32) (v3 : Int32) (v4 : Int32) (v5 : Int32) (v6 : Int32) w => f254_H41 n  K23 k v0 v1 v2 v3 v4 v5 v6 w) y0 y1 y2 y3 y4 y5 y6 w = some o → Rn S 254 41 [some (.ref y0), some (.int y1), some (.int y2), some (.int y3), some (.int y4), some (.int y5), some (.int y6), none, none] [] w (some (.int o.1), o.2) := fun y0 y1 y2 y3 y4 y5 y6 w o h => ih y0 y1 y2 y3 y4 y5 y6 w o h
    unfold f254_H41 at h
    refine rn_iload (ft254 23 rfl) rfl ?_
    refine rn_sipush (v := (200 : Int32)) (ft254 24 rfl) (by decide) ?_
    by_cases c28 : (200 : Int32) ≤ v6
    · replace h := ifp c28 h
      refine rn_icmp_ge_t (ft254 25 rfl) c28 ?_
      exact rn_forget (ls := [none, none, none, some (.int v3), some (.int v4), some (.int v5), none, none, none]) (And.intro rfl (And.intro rfl (And.intro rfl trivial))) (hK23 v3 v4 v5 w _ h)
    · replace h := ifn c28 h
      refine rn_icmp_ge_f (ft254 25 rfl) c28 ?_
      refine rn_iload (ft254 26 rfl) rfl ?_
      refine rn_iconst (v := (5 : Int32)) (ft254 27 rfl) (by decide) ?_
      refine rn_irem (ft254 28 rfl) (by decide) ?_
      refine rn_istore (ls' := [some (.ref v0), some (.int v1), some (.int v2), some (.int v3), some (.int v4), some (.int v5), some (.int v6), some (.int (irm v6 (5 : Int32))), none]) (ft254 29 rfl) rfl ?_
      refine rn_aload_n (ft254 30 rfl) rfl ?_
      refine rn_iload (ft254 31 rfl) rfl ?_
      refine rn_bipush (v := (50 : Int32)) (ft254 32 rfl) (by decide) ?_
      refine rn_idiv (ft254 33 rfl) (by decide) ?_
      obtain ⟨w7, q8, h⟩ := ob_some h
      refine rn_putI (ft254 34 rfl) q8 ?_
      refine rn_aload_n (ft254 35 rfl) rfl ?_
      refine rn_iload (ft254 36 rfl) rfl ?_
      refine rn_iconst (v := (5 : Int32)) (ft254 37 rfl) (by decide) ?_
      refine rn_idiv (ft254 38 rfl) (by decide) ?_
      refine rn_bipush (v := (10 : Int32)) (ft254 39 rfl) (by decide) ?_
      refine rn_irem (ft254 40 rfl) (by decide) ?_
      obtain ⟨w9, q10, h⟩ := ob_some h
      refine rn_putI (ft254 41 rfl) q10 ?_
      refine rn_aload_n (ft254 42 rfl) rfl ?_
      refine rn_iconst (v := (0 : Int32)) (ft254 43 rfl) (by decide) ?_
      obtain ⟨w11, q12, h⟩ := ob_some h
      refine rn_putI (ft254 44 rfl) q12 ?_
      refine rn_aload_n (ft254 45 rfl) rfl ?_
      refine rn_iload (ft254 46 rfl) rfl ?_
      by_cases c27 : ¬ (irm v6 (5 : Int32)) = 0
      · replace h := ifp c27 h
        refine rn_if_ne_t (ft254 47 rfl) c27 ?_
        refine rn_iload (ft254 50 rfl) rfl ?_
        refine rn_iconst (v := (2 : Int32)) (ft254 51 rfl) (by decide) ?_
        refine rn_irem (ft254 52 rfl) (by decide) ?_
        refine rn_iconst (v := (1 : Int32)) (ft254 53 rfl) (by decide) ?_
        by_cases c26 : ¬ (irm (irm v6 (5 : Int32)) (2 : Int32)) = (1 : Int32)
        · replace h := ifp c26 h
          refine rn_icmp_ne_t (ft254 54 rfl) c26 ?_
          refine rn_iconst (v := (1 : Int32)) (ft254 57 rfl) (by decide) ?_
          exact rn_forget (ls := [some (.ref v0), some (.int v1), some (.int v2), some (.int v3), some (.int v4), some (.int v5), some (.int v6), some (.int (irm v6 (5 : Int32))), none]) (And.intro rfl (And.intro rfl (And.intro rfl (And.intro rfl (And.intro rfl (And.intro rfl (And.intro rfl (And.intro rfl trivial)))))))) (rf254_J103 n (fun (v0 : Nat) (v1 : Int32) (v2 : Int32) (v3 : Int32) (v4 : Int32) (v5 : Int32) (v6 : Int32) w => f254_H41 n  K23 k v0 v1 v2 v3 v4 v5 v6 w) K23 v0 v1 v2 v3 v4 v5 v6 (irm v6 (5 : Int32)) v0 (1 : Int32) w11 _ hrec23 hK23 h)
        · replace h := ifn c26 h
          refine rn_icmp_ne_f (ft254 54 rfl) c26 ?_
          refine rn_iconst (v := (-1 : Int32)) (ft254 55 rfl) (by decide) ?_
          refine rn_goto (ft254 56 rfl) ?_
          exact rn_forget (ls := [some (.ref v0), some (.int v1), some (.int v2), some (.int v3), some (.int v4), some (.int v5), some (.int v6), some (.int (irm v6 (5 : Int32))), none]) (And.intro rfl (And.intro rfl (And.intro rfl (And.intro rfl (And.intro rfl (And.intro rfl (And.intro rfl (And.intro rfl trivial)))))))) (rf254_J103 n (fun (v0 : Nat) (v1 : Int32) (v2 : Int32) (v3 : Int32) (v4 : Int32) (v5 : Int32) (v6 : Int32) w => f254_H41 n  K23 k v0 v1 v2 v3 v4 v5 v6 w) K23 v0 v1 v2 v3 v4 v5 v6 (irm v6 (5 : Int32)) v0 (-1 : Int32) w11 _ hrec23 hK23 h)
      · replace h := ifn c27 h
        refine rn_if_ne_f (ft254 47 rfl) c27 ?_
        refine rn_iconst (v := (0 : Int32)) (ft254 48 rfl) (by decide) ?_
        refine rn_goto (ft254 49 rfl) ?_
        exact rn_forget (ls := [some (.ref v0), some (.int v1), some (.int v2), some (.int v3), some (.int v4), some (.int v5), some (.int v6), some (.int (irm v6 (5 : Int32))), none]) (And.intro rfl (And.intro rfl (And.intro rfl (And.intro rfl (And.intro rfl (And.intro rfl (And.intro rfl (And.intro rfl trivial)))))))) (rf254_J103 n (fun (v0 : Nat) (v1 : Int32) (v2 : Int32) (v3 : Int32) (v4 : Int32) (v5 : Int32) (v6 : Int32) w => f254_H41 n  K23 k v0 v1 v2 v3 v4 v5 v6 w) K23 v0 v1 v2 v3 v4 v5 v6 (irm v6 (5 : Int32)) v0 (0 : Int32) w11 _ hrec23 hK23 h)
def f254 (n : Nat) (v0 : Nat) (v1 : Int32) (v2 : Int32) (v3 : Int32) (w : Wd) : Option (Int32 × Wd) :=
  (if (wsh w v0).map (fun q => q.1) = some 11 then ob (f119 v0 v1 w) (fun p1 => (if ¬ p1.1 = 0 then ob (f131 v2 p1.2) (fun p3 => (if p3.1 = 0 then some ((-1000002 : Int32), p3.2)
      else ob (f40 (Int32.toInt64 v3) (0 : Int64) (1 : Int64) p3.2) (fun p5 => (if ¬ p5.1 = 0 then f254_H41 n  (fun (e3_29 : Int32) (e4_29 : Int32) (e5_29 : Int32) (w29 : Wd) => (if ¬ e3_29 = 0 then some (e5_29, w29)
            else some (e4_29, w29))) n v0 v1 v2 v3 (-1 : Int32) (0 : Int32) (0 : Int32) p5.2
        else some ((-1000002 : Int32), p5.2)))))
    else some ((-1000001 : Int32), p1.2))) else none)
set_option maxRecDepth 10000 in
theorem r254 {S : Sc} (n : Nat) (v0 : Nat) (v1 : Int32) (v2 : Int32) (v3 : Int32) (w : Wd) (o : (Int32 × Wd)) (h : f254 n v0 v1 v2 v3 w = some o) : Rn S 254 0 [some (.ref v0), some (.int v1), some (.int v2), some (.int v3), none, none, none, none, none] [] w (some (.int o.1), o.2) := by
  unfold f254 at h
  refine rn_aload_n (ft254 0 rfl) rfl ?_
  refine rn_iload_n (ft254 1 rfl) rfl ?_
  obtain ⟨g34, h⟩ := ifg h
  obtain ⟨p1, q2, h⟩ := ob_some h
  refine rn_callV (as := [.int v1]) (k0 := v0) (r := []) (v := (some (.int p1.1))) (w1 := p1.2) (ft254 2 rfl) (by decide +kernel) rfl (Nat.le_of_ble_eq_true rfl) (Nat.le_of_ble_eq_true rfl) (r119 v0 v1 w _ q2) (by decide +kernel) g34 ?_
  by_cases c33 : ¬ p1.1 = 0
  · replace h := ifp c33 h
    refine rn_if_ne_t (ft254 3 rfl) c33 ?_
    refine rn_iload_n (ft254 6 rfl) rfl ?_
    obtain ⟨p3, q4, h⟩ := ob_some h
    refine rn_callS (as := [.int v2]) (r := []) (v := (some (.int p3.1))) (w1 := p3.2) (ft254 7 rfl) (by decide +kernel) rfl (Nat.le_of_ble_eq_true rfl) (Nat.le_of_ble_eq_true rfl) (r131 v2 p1.2 _ q4) ?_
    by_cases c32 : p3.1 = 0
    · replace h := ifp c32 h
      refine rn_if_eq_t (ft254 8 rfl) c32 ?_
      refine rn_ldc (v := (-1000002 : Int32)) (ft254 15 rfl) (by decide) rfl ?_
      cases h
      exact rn_iretI pr254 (ft254 16 rfl)
    · replace h := ifn c32 h
      refine rn_if_eq_f (ft254 8 rfl) c32 ?_
      refine rn_iload_n (ft254 9 rfl) rfl ?_
      refine rn_i2l (ft254 10 rfl) ?_
      refine rn_lconst (v := (0 : Int64)) (ft254 11 rfl) (by decide) ?_
      refine rn_lconst (v := (1 : Int64)) (ft254 12 rfl) (by decide) ?_
      obtain ⟨p5, q6, h⟩ := ob_some h
      refine rn_callS (as := [.long (Int32.toInt64 v3), .long (0 : Int64), .long (1 : Int64)]) (r := []) (v := (some (.int p5.1))) (w1 := p5.2) (ft254 13 rfl) (by decide +kernel) rfl (Nat.le_of_ble_eq_true rfl) (Nat.le_of_ble_eq_true rfl) (r40 (Int32.toInt64 v3) (0 : Int64) (1 : Int64) p3.2 _ q6) ?_
      by_cases c31 : ¬ p5.1 = 0
      · replace h := ifp c31 h
        refine rn_if_ne_t (ft254 14 rfl) c31 ?_
        refine rn_iconst (v := (-1 : Int32)) (ft254 17 rfl) (by decide) ?_
        refine rn_istore (ls' := [some (.ref v0), some (.int v1), some (.int v2), some (.int v3), some (.int (-1 : Int32)), none, none, none, none]) (ft254 18 rfl) rfl ?_
        refine rn_iconst (v := (0 : Int32)) (ft254 19 rfl) (by decide) ?_
        refine rn_istore (ls' := [some (.ref v0), some (.int v1), some (.int v2), some (.int v3), some (.int (-1 : Int32)), some (.int (0 : Int32)), none, none, none]) (ft254 20 rfl) rfl ?_
        refine rn_iconst (v := (0 : Int32)) (ft254 21 rfl) (by decide) ?_
        refine rn_istore (ls' := [some (.ref v0), some (.int v1), some (.int v2), some (.int v3), some (.int (-1 : Int32)), some (.int (0 : Int32)), some (.int (0 : Int32)), none, none]) (ft254 22 rfl) rfl ?_
        refine rn_forget (ls := [some (.ref v0), some (.int v1), some (.int v2), some (.int v3), some (.int (-1 : Int32)), some (.int (0 : Int32)), some (.int (0 : Int32)), none, none]) (And.intro rfl (And.intro rfl (And.intro rfl (And.intro rfl (And.intro rfl (And.intro rfl (And.intro rfl trivial))))))) (rf254_H41 n  _  (fun e3_29 e4_29 e5_29 w29 o h => ?_) n v0 v1 v2 v3 (-1 : Int32) (0 : Int32) (0 : Int32) p5.2 _ h)
        refine rn_iload_n (ft254 95 rfl) rfl ?_
        by_cases c30 : ¬ e3_29 = 0
        · replace h := ifp c30 h
          refine rn_if_ne_t (ft254 96 rfl) c30 ?_
          refine rn_iload (ft254 99 rfl) rfl ?_
          cases h
          exact rn_iretI pr254 (ft254 100 rfl)
        · replace h := ifn c30 h
          refine rn_if_ne_f (ft254 96 rfl) c30 ?_
          refine rn_iload (ft254 97 rfl) rfl ?_
          refine rn_goto (ft254 98 rfl) ?_
          cases h
          exact rn_iretI pr254 (ft254 100 rfl)
      · replace h := ifn c31 h
        refine rn_if_ne_f (ft254 14 rfl) c31 ?_
        refine rn_ldc (v := (-1000002 : Int32)) (ft254 15 rfl) (by decide) rfl ?_
        cases h
        exact rn_iretI pr254 (ft254 16 rfl)
  · replace h := ifn c33 h
    refine rn_if_ne_f (ft254 3 rfl) c33 ?_
    refine rn_ldcw (v := (-1000001 : Int32)) (ft254 4 rfl) (by decide) ?_
    cases h
    exact rn_iretI pr254 (ft254 5 rfl)
/-- NineWheelModel.gain(III)I -/
theorem ft255 : ∀ (i : Nat) {q : Nat × XI}, cd255[i]? = some q → fetch 255 q.1 = some q.2 := ft_of (by decide +kernel)
theorem pr255 : pRt 255 = some .int := rfl
def f255 (n : Nat) (v0 : Nat) (v1 : Int32) (v2 : Int32) (v3 : Int32) (w : Wd) : Option (Int32 × Wd) :=
  (if (wsh w v0).map (fun q => q.1) = some 11 then ob (f126 v0 v1 w) (fun p1 => (if p1.1 = 0 then some ((-1000001 : Int32), p1.2)
    else (if (wsh p1.2 v0).map (fun q => q.1) = some 11 then ob (f119 v0 v2 p1.2) (fun p3 => (if ¬ p3.1 = 0 then ob (f131 v3 p3.2) (fun p5 => (if ¬ p5.1 = 0 then (if (wsh p5.2 v0).map (fun q => q.1) = some 11 then ob (f54 v0 v1 p5.2) (fun p7 => (if (wsh p7 v0).map (fun q => q.1) = some 11 then ob (f253 n v0 v2 v3 p7) (fun p9 => some (p9.1, p9.2)) else none)) else none)
        else some ((-1000002 : Int32), p5.2)))
      else some ((-1000001 : Int32), p3.2))) else none))) else none)
set_option maxRecDepth 10000 in
theorem r255 {S : Sc} (n : Nat) (v0 : Nat) (v1 : Int32) (v2 : Int32) (v3 : Int32) (w : Wd) (o : (Int32 × Wd)) (h : f255 n v0 v1 v2 v3 w = some o) : Rn S 255 0 [some (.ref v0), some (.int v1), some (.int v2), some (.int v3)] [] w (some (.int o.1), o.2) := by
  unfold f255 at h
  refine rn_aload_n (ft255 0 rfl) rfl ?_
  refine rn_iload_n (ft255 1 rfl) rfl ?_
  obtain ⟨g17, h⟩ := ifg h
  obtain ⟨p1, q2, h⟩ := ob_some h
  refine rn_callV (as := [.int v1]) (k0 := v0) (r := []) (v := (some (.int p1.1))) (w1 := p1.2) (ft255 2 rfl) (by decide +kernel) rfl (Nat.le_of_ble_eq_true rfl) (Nat.le_of_ble_eq_true rfl) (r126 v0 v1 w _ q2) (by decide +kernel) g17 ?_
  by_cases c16 : p1.1 = 0
  · replace h := ifp c16 h
    refine rn_if_eq_t (ft255 3 rfl) c16 ?_
    refine rn_ldcw (v := (-1000001 : Int32)) (ft255 8 rfl) (by decide) ?_
    cases h
    exact rn_iretI pr255 (ft255 9 rfl)
  · replace h := ifn c16 h
    refine rn_if_eq_f (ft255 3 rfl) c16 ?_
    refine rn_aload_n (ft255 4 rfl) rfl ?_
    refine rn_iload_n (ft255 5 rfl) rfl ?_
    obtain ⟨g15, h⟩ := ifg h
    obtain ⟨p3, q4, h⟩ := ob_some h
    refine rn_callV (as := [.int v2]) (k0 := v0) (r := []) (v := (some (.int p3.1))) (w1 := p3.2) (ft255 6 rfl) (by decide +kernel) rfl (Nat.le_of_ble_eq_true rfl) (Nat.le_of_ble_eq_true rfl) (r119 v0 v2 p1.2 _ q4) (by decide +kernel) g15 ?_
    by_cases c14 : ¬ p3.1 = 0
    · replace h := ifp c14 h
      refine rn_if_ne_t (ft255 7 rfl) c14 ?_
      refine rn_iload_n (ft255 10 rfl) rfl ?_
      obtain ⟨p5, q6, h⟩ := ob_some h
      refine rn_callS (as := [.int v3]) (r := []) (v := (some (.int p5.1))) (w1 := p5.2) (ft255 11 rfl) (by decide +kernel) rfl (Nat.le_of_ble_eq_true rfl) (Nat.le_of_ble_eq_true rfl) (r131 v3 p3.2 _ q6) ?_
      by_cases c13 : ¬ p5.1 = 0
      · replace h := ifp c13 h
        refine rn_if_ne_t (ft255 12 rfl) c13 ?_
        refine rn_aload_n (ft255 15 rfl) rfl ?_
        refine rn_iload_n (ft255 16 rfl) rfl ?_
        obtain ⟨g12, h⟩ := ifg h
        obtain ⟨p7, q8, h⟩ := ob_some h
        refine rn_callV (as := [.int v1]) (k0 := v0) (r := []) (v := none) (w1 := p7) (ft255 17 rfl) (by decide +kernel) rfl (Nat.le_of_ble_eq_true rfl) (Nat.le_of_ble_eq_true rfl) (r54 v0 v1 p5.2 _ q8) (by decide +kernel) g12 ?_
        refine rn_aload_n (ft255 18 rfl) rfl ?_
        refine rn_iload_n (ft255 19 rfl) rfl ?_
        refine rn_iload_n (ft255 20 rfl) rfl ?_
        obtain ⟨g11, h⟩ := ifg h
        obtain ⟨p9, q10, h⟩ := ob_some h
        refine rn_callV (as := [.int v2, .int v3]) (k0 := v0) (r := []) (v := (some (.int p9.1))) (w1 := p9.2) (ft255 21 rfl) (by decide +kernel) rfl (Nat.le_of_ble_eq_true rfl) (Nat.le_of_ble_eq_true rfl) (r253 n v0 v2 v3 p7 _ q10) (by decide +kernel) g11 ?_
        cases h
        exact rn_iretI pr255 (ft255 22 rfl)
      · replace h := ifn c13 h
        refine rn_if_ne_f (ft255 12 rfl) c13 ?_
        refine rn_ldc (v := (-1000002 : Int32)) (ft255 13 rfl) (by decide) rfl ?_
        cases h
        exact rn_iretI pr255 (ft255 14 rfl)
    · replace h := ifn c14 h
      refine rn_if_ne_f (ft255 7 rfl) c14 ?_
      refine rn_ldcw (v := (-1000001 : Int32)) (ft255 8 rfl) (by decide) ?_
      cases h
      exact rn_iretI pr255 (ft255 9 rfl)
/-- NineWheelModel.pact(II)I -/
theorem ft256 : ∀ (i : Nat) {q : Nat × XI}, cd256[i]? = some q → fetch 256 q.1 = some q.2 := ft_of (by decide +kernel)
theorem pr256 : pRt 256 = some .int := rfl
def f256_H34 (n : Nat)  (K19 : Nat → Int32 → Wd → Option (Int32 × Wd)) : Nat → Nat → Int32 → Int32 → Wd → Option (Int32 × Wd)
  | 0, _, _, _, _ => none
  | k + 1, v0, v2, v3, w =>
    ob (getI w 11 v0 6) (fun x7 => (if x7 ≤ v3 then K19 v0 v2 w
      else ob (getR w 11 v0 59) (fun x9 => (if (wsh w v0).map (fun q => q.1) = some 11 then ob (f253 n v0 ((1 : Int32) <<< (v3 &&& 31)) v2 w) (fun p11 => ob (astI p11.2 x9 v3 p11.1) (fun w13 => (fun (v0 : Nat) (v2 : Int32) (v3 : Int32) w => f256_H34 n  K19 k v0 v2 v3 w) v0 v2 (v3 + (1 : Int32)) w13)) else none))))
set_option maxRecDepth 10000 in
theorem rf256_H34 {S : Sc} (n : Nat)  (K19 : Nat → Int32 → Wd → Option (Int32 × Wd))  (hK19 : ∀ (y0 : Nat) (y2 : Int32) (w : Wd) (o : (Int32 × Wd)), K19 y0 y2 w = some o → Rn S 256 62 [some (.ref y0), none, some (.int y2), none, none, none, none] [] w (some (.int o.1), o.2)) : ∀ (k : Nat) (v0 : Nat) (v2 : Int32) (v3 : Int32) (w : Wd) (o : (Int32 × Wd)), f256_H34 n  K19 k v0 v2 v3 w = some o → Rn S 256 34 [some (.ref v0), none, some (.int v2), some (.int v3), none, none, none] [] w (some (.int o.1), o.2) := by
  intro k
  induction k with
  | zero =>
    intro v0 v2 v3 w o h
    exact nomatch h
  | succ k ih =>
    intro v0 v2 v3 w o h
    have hrec19 : ∀ (y0 : Nat) (y2 : Int32) (y3 : Int32) (w : Wd) (o : (Int32 × Wd)), (fun (v0 : Nat) (v2 : Int32) (v3 : Int32) w => f256_H34 n  K19 k v0 v2 v3 w) y0 y2 y3 w = some o → Rn S 256 34 [some (.ref y0), none, some (.int y2), some (.int y3), none, none, none] [] w (some (.int o.1), o.2) := fun y0 y2 y3 w o h => ih y0 y2 y3 w o h
    unfold f256_H34 at h
    refine rn_iload_n (ft256 19 rfl) rfl ?_
    refine rn_aload_n (ft256 20 rfl) rfl ?_
    obtain ⟨x7, q8, h⟩ := ob_some h
    refine rn_getI (ft256 21 rfl) (by decide) (by decide) q8 ?_
    by_cases c16 : x7 ≤ v3
    · replace h := ifp c16 h
      refine rn_icmp_ge_t (ft256 22 rfl) c16 ?_
      exact rn_forget (ls := [some (.ref v0), none, some (.int v2), none, none, none, none]) (And.intro rfl (And.intro rfl trivial)) (hK19 v0 v2 w _ h)
    · replace h := ifn c16 h
      refine rn_icmp_ge_f (ft256 22 rfl) c16 ?_
      refine rn_aload_n (ft256 23 rfl) rfl ?_
      obtain ⟨x9, q10, h⟩ := ob_some h
      refine rn_getR (ft256 24 rfl) q10 ?_
      refine rn_iload_n (ft256 25 rfl) rfl ?_
      refine rn_aload_n (ft256 26 rfl) rfl ?_
      refine rn_iconst (v := (1 : Int32)) (ft256 27 rfl) (by decide) ?_
      refine rn_iload_n (ft256 28 rfl) rfl ?_
      refine rn_ishl (ft256 29 rfl) ?_
      refine rn_iload_n (ft256 30 rfl) rfl ?_
      obtain ⟨g15, h⟩ := ifg h
      obtain ⟨p11, q12, h⟩ := ob_some h
      refine rn_callV (as := [.int ((1 : Int32) <<< (v3 &&& 31)), .int v2]) (k0 := v0) (r := [.int v3, .ref x9]) (v := (some (.int p11.1))) (w1 := p11.2) (ft256 31 rfl) (by decide +kernel) rfl (Nat.le_of_ble_eq_true rfl) (Nat.le_of_ble_eq_true rfl) (r253 n v0 ((1 : Int32) <<< (v3 &&& 31)) v2 w _ q12) (by decide +kernel) g15 ?_
      obtain ⟨w13, q14, h⟩ := ob_some h
      refine rn_iastore (ft256 32 rfl) q14 ?_
      refine rn_iinc (u := 1) (ls' := [some (.ref v0), none, some (.int v2), some (.int (v3 + (1 : Int32))), none, none, none]) (ft256 33 rfl) rfl (by decide) rfl ?_
      refine rn_goto (ft256 34 rfl) ?_
      exact rn_forget (ls := [some (.ref v0), none, some (.int v2), some (.int (v3 + (1 : Int32))), none, none, none]) (And.intro rfl (And.intro rfl (And.intro rfl trivial))) (hrec19 v0 v2 (v3 + (1 : Int32)) w13 _ h)
def f256_J133 (n : Nat) (rec37 : Nat → Int32 → Int32 → Wd → Option (Int32 × Wd)) (K37 : Wd → Option (Int32 × Wd)) (rec49 : Nat → Int32 → Int32 → Int32 → Int32 → Int32 → Wd → Option (Int32 × Wd)) (K49 : Nat → Int32 → Int32 → Int32 → Int32 → Wd → Option (Int32 × Wd)) (v0 : Nat) (v2 : Int32) (v3 : Int32) (v4 : Int32) (v6 : Int32) (s0 : Int32) (s1 : Int32) (w : Wd) : Option (Int32 × Wd) :=
  rec49 v0 v2 v3 v4 (s0 + s1) (v6 + (1 : Int32)) w
set_option maxRecDepth 10000 in
theorem rf256_J133 {S : Sc} (n : Nat) (rec37 : Nat → Int32 → Int32 → Wd → Option (Int32 × Wd)) (K37 : Wd → Option (Int32 × Wd)) (rec49 : Nat → Int32 → Int32 → Int32 → Int32 → Int32 → Wd → Option (Int32 × Wd)) (K49 : Nat → Int32 → Int32 → Int32 → Int32 → Wd → Option (Int32 × Wd)) (v0 : Nat) (v2 : Int32) (v3 : Int32) (v4 : Int32) (v6 : Int32) (s0 : Int32) (s1 : Int32) (w : Wd) (o : (Int32 × Wd)) (hrec37 : ∀ (y0 : Nat) (y2 : Int32) (y3 : Int32) (w : Wd) (o : (Int32 × Wd)), rec37 y0 y2 y3 w = some o → Rn S 256 64 [some (.ref y0), none, some (.int y2), some (.int y3), none, none, none] [] w (some (.int o.1), o.2)) (hK37 : ∀  (w : Wd) (o : (Int32 × Wd)), K37 w = some o → Rn S 256 167 [none, none, none, none, none, none, none] [] w (some (.int o.1), o.2)) (hrec49 : ∀ (y0 : Nat) (y2 : Int32) (y3 : Int32) (y4 : Int32) (y5 : Int32) (y6 : Int32) (w : Wd) (o : (Int32 × Wd)), rec49 y0 y2 y3 y4 y5 y6 w = some o → Rn S 256 83 [some (.ref y0), none, some (.int y2), some (.int y3), some (.int y4), some (.int y5), some (.int y6)] [] w (some (.int o.1), o.2)) (hK49 : ∀ (y0 : Nat) (y2 : Int32) (y3 : Int32) (y4 : Int32) (y5 : Int32) (w : Wd) (o : (Int32 × Wd)), K49 y0 y2 y3 y4 y5 w = some o → Rn S 256 142 [some (.ref y0), none, some (.int y2), some (.int y3), some (.int y4), some (.int y5), none] [] w (some (.int o.1), o.2)) (h : f256_J133 n rec37 K37 rec49 K49 v0 v2 v3 v4 v6 s0 s1 w = some o) : Rn S 256 133 [some (.ref v0), none, some (.int v2), some (.int v3), some (.int v4), none, some (.int v6)] [.int s1, .int s0] w (some (.int o.1), o.2) := by
  unfold f256_J133 at h
  refine rn_iadd (ft256 74 rfl) ?_
  refine rn_istore (ls' := [some (.ref v0), none, some (.int v2), some (.int v3), some (.int v4), some (.int (s0 + s1)), some (.int v6)]) (ft256 75 rfl) rfl ?_
  refine rn_iinc (u := 1) (ls' := [some (.ref v0), none, some (.int v2), some (.int v3), some (.int v4), some (.int (s0 + s1)), some (.int (v6 + (1 : Int32)))]) (ft256 76 rfl) rfl (by decide) rfl ?_
  refine rn_goto (ft256 77 rfl) ?_
  exact rn_forget (ls := [some (.ref v0), none, some (.int v2), some (.int v3), some (.int v4), some (.int (s0 + s1)), some (.int (v6 + (1 : Int32)))]) (And.intro rfl (And.intro rfl (And.intro rfl (And.intro rfl (And.intro rfl (And.intro rfl trivial)))))) (hrec49 v0 v2 v3 v4 (s0 + s1) (v6 + (1 : Int32)) w _ h)
def f256_J114 (n : Nat) (rec37 : Nat → Int32 → Int32 → Wd → Option (Int32 × Wd)) (K37 : Wd → Option (Int32 × Wd)) (rec49 : Nat → Int32 → Int32 → Int32 → Int32 → Int32 → Wd → Option (Int32 × Wd)) (K49 : Nat → Int32 → Int32 → Int32 → Int32 → Wd → Option (Int32 × Wd)) (v0 : Nat) (v2 : Int32) (v3 : Int32) (v5 : Int32) (v6 : Int32) (s0 : Int32) (s1 : Int32) (w : Wd) : Option (Int32 × Wd) :=
  ob (f45 v3 v6 w) (fun p24 => (if p24.1 = 0 then f256_J133 n rec37 K37 rec49 K49 v0 v2 v3 (s0 + s1) v6 v5 (0 : Int32) p24.2
    else f256_J133 n rec37 K37 rec49 K49 v0 v2 v3 (s0 + s1) v6 v5 (1 : Int32) p24.2))
set_option maxRecDepth 10000 in
theorem rf256_J114 {S : Sc} (n : Nat) (rec37 : Nat → Int32 → Int32 → Wd → Option (Int32 × Wd)) (K37 : Wd → Option (Int32 × Wd)) (rec49 : Nat → Int32 → Int32 → Int32 → Int32 → Int32 → Wd → Option (Int32 × Wd)) (K49 : Nat → Int32 → Int32 → Int32 → Int32 → Wd → Option (Int32 × Wd)) (v0 : Nat) (v2 : Int32) (v3 : Int32) (v5 : Int32) (v6 : Int32) (s0 : Int32) (s1 : Int32) (w : Wd) (o : (Int32 × Wd)) (hrec37 : ∀ (y0 : Nat) (y2 : Int32) (y3 : Int32) (w : Wd) (o : (Int32 × Wd)), rec37 y0 y2 y3 w = some o → Rn S 256 64 [some (.ref y0), none, some (.int y2), some (.int y3), none, none, none] [] w (some (.int o.1), o.2)) (hK37 : ∀  (w : Wd) (o : (Int32 × Wd)), K37 w = some o → Rn S 256 167 [none, none, none, none, none, none, none] [] w (some (.int o.1), o.2)) (hrec49 : ∀ (y0 : Nat) (y2 : Int32) (y3 : Int32) (y4 : Int32) (y5 : Int32) (y6 : Int32) (w : Wd) (o : (Int32 × Wd)), rec49 y0 y2 y3 y4 y5 y6 w = some o → Rn S 256 83 [some (.ref y0), none, some (.int y2), some (.int y3), some (.int y4), some (.int y5), some (.int y6)] [] w (some (.int o.1), o.2)) (hK49 : ∀ (y0 : Nat) (y2 : Int32) (y3 : Int32) (y4 : Int32) (y5 : Int32) (w : Wd) (o : (Int32 × Wd)), K49 y0 y2 y3 y4 y5 w = some o → Rn S 256 142 [some (.ref y0), none, some (.int y2), some (.int y3), some (.int y4), some (.int y5), none] [] w (some (.int o.1), o.2)) (h : f256_J114 n rec37 K37 rec49 K49 v0 v2 v3 v5 v6 s0 s1 w = some o) : Rn S 256 114 [some (.ref v0), none, some (.int v2), some (.int v3), none, some (.int v5), some (.int v6)] [.int s1, .int s0] w (some (.int o.1), o.2) := by
  unfold f256_J114 at h
  refine rn_iadd (ft256 64 rfl) ?_
  refine rn_istore (ls' := [some (.ref v0), none, some (.int v2), some (.int v3), some (.int (s0 + s1)), some (.int v5), some (.int v6)]) (ft256 65 rfl) rfl ?_
  refine rn_iload (ft256 66 rfl) rfl ?_
  refine rn_iload_n (ft256 67 rfl) rfl ?_
  refine rn_iload (ft256 68 rfl) rfl ?_
  obtain ⟨p24, q25, h⟩ := ob_some h
  refine rn_callS (as := [.int v3, .int v6]) (r := [.int v5]) (v := (some (.int p24.1))) (w1 := p24.2) (ft256 69 rfl) (by decide +kernel) rfl (Nat.le_of_ble_eq_true rfl) (Nat.le_of_ble_eq_true rfl) (r45 v3 v6 w _ q25) ?_
  by_cases c26 : p24.1 = 0
  · replace h := ifp c26 h
    refine rn_if_eq_t (ft256 70 rfl) c26 ?_
    refine rn_iconst (v := (0 : Int32)) (ft256 73 rfl) (by decide) ?_
    exact rn_forget (ls := [some (.ref v0), none, some (.int v2), some (.int v3), some (.int (s0 + s1)), none, some (.int v6)]) (And.intro rfl (And.intro rfl (And.intro rfl (And.intro rfl (And.intro rfl trivial))))) (rf256_J133 n rec37 K37 rec49 K49 v0 v2 v3 (s0 + s1) v6 v5 (0 : Int32) p24.2 _ hrec37 hK37 hrec49 hK49 h)
  · replace h := ifn c26 h
    refine rn_if_eq_f (ft256 70 rfl) c26 ?_
    refine rn_iconst (v := (1 : Int32)) (ft256 71 rfl) (by decide) ?_
    refine rn_goto (ft256 72 rfl) ?_
    exact rn_forget (ls := [some (.ref v0), none, some (.int v2), some (.int v3), some (.int (s0 + s1)), none, some (.int v6)]) (And.intro rfl (And.intro rfl (And.intro rfl (And.intro rfl (And.intro rfl trivial))))) (rf256_J133 n rec37 K37 rec49 K49 v0 v2 v3 (s0 + s1) v6 v5 (1 : Int32) p24.2 _ hrec37 hK37 hrec49 hK49 h)
def f256_H83 (n : Nat) (rec37 : Nat → Int32 → Int32 → Wd → Option (Int32 × Wd)) (K37 : Wd → Option (Int32 × Wd)) (K49 : Nat → Int32 → Int32 → Int32 → Int32 → Wd → Option (Int32 × Wd)) : Nat → Nat → Int32 → Int32 → Int32 → Int32 → Int32 → Wd → Option (Int32 × Wd)
  | 0, _, _, _, _, _, _, _ => none
  | k + 1, v0, v2, v3, v4, v5, v6, w =>
    ob (getI w 11 v0 6) (fun x20 => (if x20 ≤ v6 then K49 v0 v2 v3 v4 v5 w
      else ob (f45 v3 v6 w) (fun p22 => (if p22.1 = 0 then f256_J114 n rec37 K37 (fun (v0 : Nat) (v2 : Int32) (v3 : Int32) (v4 : Int32) (v5 : Int32) (v6 : Int32) w => f256_H83 n rec37 K37 K49 k v0 v2 v3 v4 v5 v6 w) K49 v0 v2 v3 v5 v6 v4 (0 : Int32) p22.2
        else ob (getR p22.2 11 v0 59) (fun x27 => ob (aldI p22.2 x27 v6) (fun x29 => f256_J114 n rec37 K37 (fun (v0 : Nat) (v2 : Int32) (v3 : Int32) (v4 : Int32) (v5 : Int32) (v6 : Int32) w => f256_H83 n rec37 K37 K49 k v0 v2 v3 v4 v5 v6 w) K49 v0 v2 v3 v5 v6 v4 x29 p22.2))))))
set_option maxRecDepth 10000 in
theorem rf256_H83 {S : Sc} (n : Nat) (rec37 : Nat → Int32 → Int32 → Wd → Option (Int32 × Wd)) (K37 : Wd → Option (Int32 × Wd)) (K49 : Nat → Int32 → Int32 → Int32 → Int32 → Wd → Option (Int32 × Wd)) (hrec37 : ∀ (y0 : Nat) (y2 : Int32) (y3 : Int32) (w : Wd) (o : (Int32 × Wd)), rec37 y0 y2 y3 w = some o → Rn S 256 64 [some (.ref y0), none, some (.int y2), some (.int y3), none, none, none] [] w (some (.int o.1), o.2)) (hK37 : ∀  (w : Wd) (o : (Int32 × Wd)), K37 w = some o → Rn S 256 167 [none, none, none, none, none, none, none] [] w (some (.int o.1), o.2)) (hK49 : ∀ (y0 : Nat) (y2 : Int32) (y3 : Int32) (y4 : Int32) (y5 : Int32) (w : Wd) (o : (Int32 × Wd)), K49 y0 y2 y3 y4 y5 w = some o → Rn S 256 142 [some (.ref y0), none, some (.int y2), some (.int y3), some (.int y4), some (.int y5), none] [] w (some (.int o.1), o.2)) : ∀ (k : Nat) (v0 : Nat) (v2 : Int32) (v3 : Int32) (v4 : Int32) (v5 : Int32) (v6 : Int32) (w : Wd) (o : (Int32 × Wd)), f256_H83 n rec37 K37 K49 k v0 v2 v3 v4 v5 v6 w = some o → Rn S 256 83 [some (.ref v0), none, some (.int v2), some (.int v3), some (.int v4), some (.int v5), some (.int v6)] [] w (some (.int o.1), o.2) := by
  intro k
  induction k with
  | zero =>
    intro v0 v2 v3 v4 v5 v6 w o h
    exact nomatch h
  | succ k ih =>
    intro v0 v2 v3 v4 v5 v6 w o h
    have hrec49 : ∀ (y0 : Nat) (y2 : Int32) (y3 : Int32) (y4 : Int32) (y5 : Int32) (y6 : Int32) (w : Wd) (o : (Int32 × Wd)), (fun (v0 : Nat) (v2 : Int32) (v3 : Int32) (v4 : Int32) (v5 : Int32) (v6 : Int32) w => f256_H83 n rec37 K37 K49 k v0 v2 v3 v4 v5 v6 w) y0 y2 y3 y4 y5 y6 w = some o → Rn S 256 83 [some (.ref y0), none, some (.int y2), some (.int y3), some (.int y4), some (.int y5), some (.int y6)] [] w (some (.int o.1), o.2) := fun y0 y2 y3 y4 y5 y6 w o h => ih y0 y2 y3 y4 y5 y6 w o h
    unfold f256_H83 at h
    refine rn_iload (ft256 49 rfl) rfl ?_
    refine rn_aload_n (ft256 50 rfl) rfl ?_
    obtain ⟨x20, q21, h⟩ := ob_some h
    refine rn_getI (ft256 51 rfl) (by decide) (by decide) q21 ?_
    by_cases c32 : x20 ≤ v6
    · replace h := ifp c32 h
      refine rn_icmp_ge_t (ft256 52 rfl) c32 ?_
      exact rn_forget (ls := [some (.ref v0), none, some (.int v2), some (.int v3), some (.int v4), some (.int v5), none]) (And.intro rfl (And.intro rfl (And.intro rfl (And.intro rfl (And.intro rfl trivial))))) (hK49 v0 v2 v3 v4 v5 w _ h)
    · replace h := ifn c32 h
      refine rn_icmp_ge_f (ft256 52 rfl) c32 ?_
      refine rn_iload (ft256 53 rfl) rfl ?_
      refine rn_iload_n (ft256 54 rfl) rfl ?_
      refine rn_iload (ft256 55 rfl) rfl ?_
      obtain ⟨p22, q23, h⟩ := ob_some h
      refine rn_callS (as := [.int v3, .int v6]) (r := [.int v4]) (v := (some (.int p22.1))) (w1 := p22.2) (ft256 56 rfl) (by decide +kernel) rfl (Nat.le_of_ble_eq_true rfl) (Nat.le_of_ble_eq_true rfl) (r45 v3 v6 w _ q23) ?_
      by_cases c31 : p22.1 = 0
      · replace h := ifp c31 h
        refine rn_if_eq_t (ft256 57 rfl) c31 ?_
        refine rn_iconst (v := (0 : Int32)) (ft256 63 rfl) (by decide) ?_
        exact rn_forget (ls := [some (.ref v0), none, some (.int v2), some (.int v3), none, some (.int v5), some (.int v6)]) (And.intro rfl (And.intro rfl (And.intro rfl (And.intro rfl (And.intro rfl trivial))))) (rf256_J114 n rec37 K37 (fun (v0 : Nat) (v2 : Int32) (v3 : Int32) (v4 : Int32) (v5 : Int32) (v6 : Int32) w => f256_H83 n rec37 K37 K49 k v0 v2 v3 v4 v5 v6 w) K49 v0 v2 v3 v5 v6 v4 (0 : Int32) p22.2 _ hrec37 hK37 hrec49 hK49 h)
      · replace h := ifn c31 h
        refine rn_if_eq_f (ft256 57 rfl) c31 ?_
        refine rn_aload_n (ft256 58 rfl) rfl ?_
        obtain ⟨x27, q28, h⟩ := ob_some h
        refine rn_getR (ft256 59 rfl) q28 ?_
        refine rn_iload (ft256 60 rfl) rfl ?_
        obtain ⟨x29, q30, h⟩ := ob_some h
        refine rn_iaload (ft256 61 rfl) q30 ?_
        refine rn_goto (ft256 62 rfl) ?_
        exact rn_forget (ls := [some (.ref v0), none, some (.int v2), some (.int v3), none, some (.int v5), some (.int v6)]) (And.intro rfl (And.intro rfl (And.intro rfl (And.intro rfl (And.intro rfl trivial))))) (rf256_J114 n rec37 K37 (fun (v0 : Nat) (v2 : Int32) (v3 : Int32) (v4 : Int32) (v5 : Int32) (v6 : Int32) w => f256_H83 n rec37 K37 K49 k v0 v2 v3 v4 v5 v6 w) K49 v0 v2 v3 v5 v6 v4 x29 p22.2 _ hrec37 hK37 hrec49 hK49 h)
def f256_H64 (n : Nat)  (K37 : Wd → Option (Int32 × Wd)) : Nat → Nat → Int32 → Int32 → Wd → Option (Int32 × Wd)
  | 0, _, _, _, _ => none
  | k + 1, v0, v2, v3, w =>
    ob (getI w 11 v0 6) (fun x18 => (if ((1 : Int32) <<< (x18 &&& 31)) ≤ v3 then K37 w
      else f256_H83 n (fun (v0 : Nat) (v2 : Int32) (v3 : Int32) w => f256_H64 n  K37 k v0 v2 v3 w) K37 (fun (e0_33 : Nat) (e2_33 : Int32) (e3_33 : Int32) (e4_33 : Int32) (e5_33 : Int32) (w33 : Wd) => (if e5_33 ≤ (1 : Int32) then (fun (v0 : Nat) (v2 : Int32) (v3 : Int32) w => f256_H64 n  K37 k v0 v2 v3 w) e0_33 e2_33 (e3_33 + (1 : Int32)) w33
          else (if (wsh w33 e0_33).map (fun q => q.1) = some 11 then ob (f253 n e0_33 e3_33 e2_33 w33) (fun p34 => (if p34.1 ≤ e4_33 then (fun (v0 : Nat) (v2 : Int32) (v3 : Int32) w => f256_H64 n  K37 k v0 v2 v3 w) e0_33 e2_33 (e3_33 + (1 : Int32)) p34.2
            else some (e3_33, p34.2))) else none))) n v0 v2 v3 (0 : Int32) (0 : Int32) (0 : Int32) w))
set_option maxRecDepth 10000 in
theorem rf256_H64 {S : Sc} (n : Nat)  (K37 : Wd → Option (Int32 × Wd))  (hK37 : ∀  (w : Wd) (o : (Int32 × Wd)), K37 w = some o → Rn S 256 167 [none, none, none, none, none, none, none] [] w (some (.int o.1), o.2)) : ∀ (k : Nat) (v0 : Nat) (v2 : Int32) (v3 : Int32) (w : Wd) (o : (Int32 × Wd)), f256_H64 n  K37 k v0 v2 v3 w = some o → Rn S 256 64 [some (.ref v0), none, some (.int v2), some (.int v3), none, none, none] [] w (some (.int o.1), o.2) := by
  intro k
  induction k with
  | zero =>
    intro v0 v2 v3 w o h
    exact nomatch h
  | succ k ih =>
    intro v0 v2 v3 w o h
    have hrec37 : ∀ (y0 : Nat) (y2 : Int32) (y3 : Int32) (w : Wd) (o : (Int32 × Wd)), (fun (v0 : Nat) (v2 : Int32) (v3 : Int32) w => f256_H64 n  K37 k v0 v2 v3 w) y0 y2 y3 w = some o → Rn S 256 64 [some (.ref y0), none, some (.int y2), some (.int y3), none, none, none] [] w (some (.int o.1), o.2) := fun y0 y2 y3 w o h => ih y0 y2 y3 w o h
    unfold f256_H64 at h
    refine rn_iload_n (ft256 37 rfl) rfl ?_
    refine rn_iconst (v := (1 : Int32)) (ft256 38 rfl) (by decide) ?_
    refine rn_aload_n (ft256 39 rfl) rfl ?_
    obtain ⟨x18, q19, h⟩ := ob_some h
    refine rn_getI (ft256 40 rfl) (by decide) (by decide) q19 ?_
    refine rn_ishl (ft256 41 rfl) ?_
    by_cases c39 : ((1 : Int32) <<< (x18 &&& 31)) ≤ v3
    · replace h := ifp c39 h
      refine rn_icmp_ge_t (ft256 42 rfl) c39 ?_
      exact rn_forget (ls := [none, none, none, none, none, none, none]) trivial (hK37 w _ h)
    · replace h := ifn c39 h
      refine rn_icmp_ge_f (ft256 42 rfl) c39 ?_
      refine rn_iconst (v := (0 : Int32)) (ft256 43 rfl) (by decide) ?_
      refine rn_istore (ls' := [some (.ref v0), none, some (.int v2), some (.int v3), some (.int (0 : Int32)), none, none]) (ft256 44 rfl) rfl ?_
      refine rn_iconst (v := (0 : Int32)) (ft256 45 rfl) (by decide) ?_
      refine rn_istore (ls' := [some (.ref v0), none, some (.int v2), some (.int v3), some (.int (0 : Int32)), some (.int (0 : Int32)), none]) (ft256 46 rfl) rfl ?_
      refine rn_iconst (v := (0 : Int32)) (ft256 47 rfl) (by decide) ?_
      refine rn_istore (ls' := [some (.ref v0), none, some (.int v2), some (.int v3), some (.int (0 : Int32)), some (.int (0 : Int32)), some (.int (0 : Int32))]) (ft256 48 rfl) rfl ?_
      refine rn_forget (ls := [some (.ref v0), none, some (.int v2), some (.int v3), some (.int (0 : Int32)), some (.int (0 : Int32)), some (.int (0 : Int32))]) (And.intro rfl (And.intro rfl (And.intro rfl (And.intro rfl (And.intro rfl (And.intro rfl trivial)))))) (rf256_H83 n (fun (v0 : Nat) (v2 : Int32) (v3 : Int32) w => f256_H64 n  K37 k v0 v2 v3 w) K37 _ hrec37 hK37 (fun e0_33 e2_33 e3_33 e4_33 e5_33 w33 o h => ?_) n v0 v2 v3 (0 : Int32) (0 : Int32) (0 : Int32) w _ h)
      refine rn_iload (ft256 78 rfl) rfl ?_
      refine rn_iconst (v := (1 : Int32)) (ft256 79 rfl) (by decide) ?_
      by_cases c38 : e5_33 ≤ (1 : Int32)
      · replace h := ifp c38 h
        refine rn_icmp_le_t (ft256 80 rfl) c38 ?_
        refine rn_iinc (u := 1) (ls' := [some (.ref e0_33), none, some (.int e2_33), some (.int (e3_33 + (1 : Int32))), some (.int e4_33), some (.int e5_33), none]) (ft256 89 rfl) rfl (by decide) rfl ?_
        refine rn_goto (ft256 90 rfl) ?_
        exact rn_forget (ls := [some (.ref e0_33), none, some (.int e2_33), some (.int (e3_33 + (1 : Int32))), none, none, none]) (And.intro rfl (And.intro rfl (And.intro rfl trivial))) (hrec37 e0_33 e2_33 (e3_33 + (1 : Int32)) w33 _ h)
      · replace h := ifn c38 h
        refine rn_icmp_le_f (ft256 80 rfl) c38 ?_
        refine rn_aload_n (ft256 81 rfl) rfl ?_
        refine rn_iload_n (ft256 82 rfl) rfl ?_
        refine rn_iload_n (ft256 83 rfl) rfl ?_
        obtain ⟨g37, h⟩ := ifg h
        obtain ⟨p34, q35, h⟩ := ob_some h
        refine rn_callV (as := [.int e3_33, .int e2_33]) (k0 := e0_33) (r := []) (v := (some (.int p34.1))) (w1 := p34.2) (ft256 84 rfl) (by decide +kernel) rfl (Nat.le_of_ble_eq_true rfl) (Nat.le_of_ble_eq_true rfl) (r253 n e0_33 e3_33 e2_33 w33 _ q35) (by decide +kernel) g37 ?_
        refine rn_iload (ft256 85 rfl) rfl ?_
        by_cases c36 : p34.1 ≤ e4_33
        · replace h := ifp c36 h
          refine rn_icmp_le_t (ft256 86 rfl) c36 ?_
          refine rn_iinc (u := 1) (ls' := [some (.ref e0_33), none, some (.int e2_33), some (.int (e3_33 + (1 : Int32))), some (.int e4_33), some (.int e5_33), none]) (ft256 89 rfl) rfl (by decide) rfl ?_
          refine rn_goto (ft256 90 rfl) ?_
          exact rn_forget (ls := [some (.ref e0_33), none, some (.int e2_33), some (.int (e3_33 + (1 : Int32))), none, none, none]) (And.intro rfl (And.intro rfl (And.intro rfl trivial))) (hrec37 e0_33 e2_33 (e3_33 + (1 : Int32)) p34.2 _ h)
        · replace h := ifn c36 h
          refine rn_icmp_le_f (ft256 86 rfl) c36 ?_
          refine rn_iload_n (ft256 87 rfl) rfl ?_
          cases h
          exact rn_iretI pr256 (ft256 88 rfl)
def f256 (n : Nat) (v0 : Nat) (v1 : Int32) (v2 : Int32) (w : Wd) : Option (Int32 × Wd) :=
  (if (wsh w v0).map (fun q => q.1) = some 11 then ob (f126 v0 v1 w) (fun p1 => (if ¬ p1.1 = 0 then ob (f40 (Int32.toInt64 v2) (1 : Int64) (12 : Int64) p1.2) (fun p3 => (if ¬ p3.1 = 0 then (if (wsh p3.2 v0).map (fun q => q.1) = some 11 then ob (f54 v0 v1 p3.2) (fun p5 => f256_H34 n  (fun (e0_17 : Nat) (e2_17 : Int32) (w17 : Wd) => f256_H64 n  (fun  (w40 : Wd) => some ((-1 : Int32), w40)) n e0_17 e2_17 (1 : Int32) w17) n v0 v2 (0 : Int32) p5) else none)
      else some ((-1000002 : Int32), p3.2)))
    else some ((-1000001 : Int32), p1.2))) else none)
set_option maxRecDepth 10000 in
theorem r256 {S : Sc} (n : Nat) (v0 : Nat) (v1 : Int32) (v2 : Int32) (w : Wd) (o : (Int32 × Wd)) (h : f256 n v0 v1 v2 w = some o) : Rn S 256 0 [some (.ref v0), some (.int v1), some (.int v2), none, none, none, none] [] w (some (.int o.1), o.2) := by
  unfold f256 at h
  refine rn_aload_n (ft256 0 rfl) rfl ?_
  refine rn_iload_n (ft256 1 rfl) rfl ?_
  obtain ⟨g44, h⟩ := ifg h
  obtain ⟨p1, q2, h⟩ := ob_some h
  refine rn_callV (as := [.int v1]) (k0 := v0) (r := []) (v := (some (.int p1.1))) (w1 := p1.2) (ft256 2 rfl) (by decide +kernel) rfl (Nat.le_of_ble_eq_true rfl) (Nat.le_of_ble_eq_true rfl) (r126 v0 v1 w _ q2) (by decide +kernel) g44 ?_
  by_cases c43 : ¬ p1.1 = 0
  · replace h := ifp c43 h
    refine rn_if_ne_t (ft256 3 rfl) c43 ?_
    refine rn_iload_n (ft256 6 rfl) rfl ?_
    refine rn_i2l (ft256 7 rfl) ?_
    refine rn_lconst (v := (1 : Int64)) (ft256 8 rfl) (by decide) ?_
    refine rn_ldc2 (v := (12 : Int64)) (ft256 9 rfl) (by decide) ?_
    obtain ⟨p3, q4, h⟩ := ob_some h
    refine rn_callS (as := [.long (Int32.toInt64 v2), .long (1 : Int64), .long (12 : Int64)]) (r := []) (v := (some (.int p3.1))) (w1 := p3.2) (ft256 10 rfl) (by decide +kernel) rfl (Nat.le_of_ble_eq_true rfl) (Nat.le_of_ble_eq_true rfl) (r40 (Int32.toInt64 v2) (1 : Int64) (12 : Int64) p1.2 _ q4) ?_
    by_cases c42 : ¬ p3.1 = 0
    · replace h := ifp c42 h
      refine rn_if_ne_t (ft256 11 rfl) c42 ?_
      refine rn_aload_n (ft256 14 rfl) rfl ?_
      refine rn_iload_n (ft256 15 rfl) rfl ?_
      obtain ⟨g41, h⟩ := ifg h
      obtain ⟨p5, q6, h⟩ := ob_some h
      refine rn_callV (as := [.int v1]) (k0 := v0) (r := []) (v := none) (w1 := p5) (ft256 16 rfl) (by decide +kernel) rfl (Nat.le_of_ble_eq_true rfl) (Nat.le_of_ble_eq_true rfl) (r54 v0 v1 p3.2 _ q6) (by decide +kernel) g41 ?_
      refine rn_iconst (v := (0 : Int32)) (ft256 17 rfl) (by decide) ?_
      refine rn_istore_n (ls' := [some (.ref v0), some (.int v1), some (.int v2), some (.int (0 : Int32)), none, none, none]) (ft256 18 rfl) rfl ?_
      refine rn_forget (ls := [some (.ref v0), none, some (.int v2), some (.int (0 : Int32)), none, none, none]) (And.intro rfl (And.intro rfl (And.intro rfl trivial))) (rf256_H34 n  _  (fun e0_17 e2_17 w17 o h => ?_) n v0 v2 (0 : Int32) p5 _ h)
      refine rn_iconst (v := (1 : Int32)) (ft256 35 rfl) (by decide) ?_
      refine rn_istore_n (ls' := [some (.ref e0_17), none, some (.int e2_17), some (.int (1 : Int32)), none, none, none]) (ft256 36 rfl) rfl ?_
      refine rn_forget (ls := [some (.ref e0_17), none, some (.int e2_17), some (.int (1 : Int32)), none, none, none]) (And.intro rfl (And.intro rfl (And.intro rfl trivial))) (rf256_H64 n  _  (fun  w40 o h => ?_) n e0_17 e2_17 (1 : Int32) w17 _ h)
      refine rn_iconst (v := (-1 : Int32)) (ft256 91 rfl) (by decide) ?_
      cases h
      exact rn_iretI pr256 (ft256 92 rfl)
    · replace h := ifn c42 h
      refine rn_if_ne_f (ft256 11 rfl) c42 ?_
      refine rn_ldc (v := (-1000002 : Int32)) (ft256 12 rfl) (by decide) rfl ?_
      cases h
      exact rn_iretI pr256 (ft256 13 rfl)
  · replace h := ifn c43 h
    refine rn_if_ne_f (ft256 3 rfl) c43 ?_
    refine rn_ldcw (v := (-1000001 : Int32)) (ft256 4 rfl) (by decide) ?_
    cases h
    exact rn_iretI pr256 (ft256 5 rfl)
