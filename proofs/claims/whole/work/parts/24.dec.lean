/-! THE METHODS AS FUNCTIONS, 7 -/
/-- NineWheelModel.needs(I)I -/
theorem ft125 : ∀ (i : Nat) {q : Nat × XI}, cd125[i]? = some q → fetch 125 q.1 = some q.2 := ft_of (by decide +kernel)
theorem pr125 : pRt 125 = some .int := rfl
def f125_J51  (v0 : Nat) (v1 : Int32) (s0 : Int64) (w : Wd) : Option (Int32 × Wd) :=
  ob (getL w 11 v0 18) (fun x7 => (if ¬ (lg_cmp x7 s0) = 0 then some ((-1 : Int32), w)
    else some (v1, w)))
set_option maxRecDepth 10000 in
theorem rf125_J51 {S : Sc}  (v0 : Nat) (v1 : Int32) (s0 : Int64) (w : Wd) (o : (Int32 × Wd))  (h : f125_J51  v0 v1 s0 w = some o) : Rn S 125 51 [some (.ref v0), some (.int v1), none, none] [.long s0] w (some (.int o.1), o.2) := by
  unfold f125_J51 at h
  refine rn_lstore_n (ls' := [some (.ref v0), some (.int v1), some (.long s0), none]) (ft125 23 rfl) rfl ?_
  refine rn_aload_n (ft125 24 rfl) rfl ?_
  obtain ⟨x7, q8, h⟩ := ob_some h
  refine rn_getL (ft125 25 rfl) q8 ?_
  refine rn_lload_n (ft125 26 rfl) rfl ?_
  refine rn_lcmp (ft125 27 rfl) ?_
  by_cases c9 : ¬ (lg_cmp x7 s0) = 0
  · replace h := ifp c9 h
    refine rn_if_ne_t (ft125 28 rfl) c9 ?_
    refine rn_iconst (v := (-1 : Int32)) (ft125 31 rfl) (by decide) ?_
    cases h
    exact rn_iretI pr125 (ft125 32 rfl)
  · replace h := ifn c9 h
    refine rn_if_ne_f (ft125 28 rfl) c9 ?_
    refine rn_iload_n (ft125 29 rfl) rfl ?_
    refine rn_goto (ft125 30 rfl) ?_
    cases h
    exact rn_iretI pr125 (ft125 32 rfl)
def f125 (v0 : Nat) (v1 : Int32) (w : Wd) : Option (Int32 × Wd) :=
  (if ¬ v1 = (1 : Int32) then (if ¬ v1 = (2 : Int32) then ob (f43 (117 : Int32) (110 : Int32) (108 : Int32) (101 : Int32) w) (fun p1 => ob (f44 p1.1 (115 : Int32) p1.2) (fun p3 => ob (f44 p3.1 (115 : Int32) p3.2) (fun p5 => f125_J51  v0 v1 p5.1 p5.2)))
      else f125_J51  v0 v1 (1503 : Int64) w)
    else ob (f43 (110 : Int32) (101 : Int32) (101 : Int32) (100 : Int32) w) (fun p11 => f125_J51  v0 v1 p11.1 p11.2))
set_option maxRecDepth 10000 in
theorem r125 {S : Sc} (v0 : Nat) (v1 : Int32) (w : Wd) (o : (Int32 × Wd)) (h : f125 v0 v1 w = some o) : Rn S 125 0 [some (.ref v0), some (.int v1), none, none] [] w (some (.int o.1), o.2) := by
  unfold f125 at h
  refine rn_iload_n (ft125 0 rfl) rfl ?_
  refine rn_iconst (v := (1 : Int32)) (ft125 1 rfl) (by decide) ?_
  by_cases c13 : ¬ v1 = (1 : Int32)
  · replace h := ifp c13 h
    refine rn_icmp_ne_t (ft125 2 rfl) c13 ?_
    refine rn_iload_n (ft125 9 rfl) rfl ?_
    refine rn_iconst (v := (2 : Int32)) (ft125 10 rfl) (by decide) ?_
    by_cases c10 : ¬ v1 = (2 : Int32)
    · replace h := ifp c10 h
      refine rn_icmp_ne_t (ft125 11 rfl) c10 ?_
      refine rn_bipush (v := (117 : Int32)) (ft125 14 rfl) (by decide) ?_
      refine rn_bipush (v := (110 : Int32)) (ft125 15 rfl) (by decide) ?_
      refine rn_bipush (v := (108 : Int32)) (ft125 16 rfl) (by decide) ?_
      refine rn_bipush (v := (101 : Int32)) (ft125 17 rfl) (by decide) ?_
      obtain ⟨p1, q2, h⟩ := ob_some h
      refine rn_callS (as := [.int (117 : Int32), .int (110 : Int32), .int (108 : Int32), .int (101 : Int32)]) (r := []) (v := (some (.long p1.1))) (w1 := p1.2) (ft125 18 rfl) (by decide +kernel) rfl (Nat.le_of_ble_eq_true rfl) (Nat.le_of_ble_eq_true rfl) (r43 (117 : Int32) (110 : Int32) (108 : Int32) (101 : Int32) w _ q2) ?_
      refine rn_bipush (v := (115 : Int32)) (ft125 19 rfl) (by decide) ?_
      obtain ⟨p3, q4, h⟩ := ob_some h
      refine rn_callS (as := [.long p1.1, .int (115 : Int32)]) (r := []) (v := (some (.long p3.1))) (w1 := p3.2) (ft125 20 rfl) (by decide +kernel) rfl (Nat.le_of_ble_eq_true rfl) (Nat.le_of_ble_eq_true rfl) (r44 p1.1 (115 : Int32) p1.2 _ q4) ?_
      refine rn_bipush (v := (115 : Int32)) (ft125 21 rfl) (by decide) ?_
      obtain ⟨p5, q6, h⟩ := ob_some h
      refine rn_callS (as := [.long p3.1, .int (115 : Int32)]) (r := []) (v := (some (.long p5.1))) (w1 := p5.2) (ft125 22 rfl) (by decide +kernel) rfl (Nat.le_of_ble_eq_true rfl) (Nat.le_of_ble_eq_true rfl) (r44 p3.1 (115 : Int32) p3.2 _ q6) ?_
      exact rn_forget (ls := [some (.ref v0), some (.int v1), none, none]) (And.intro rfl (And.intro rfl trivial)) (rf125_J51  v0 v1 p5.1 p5.2 _  h)
    · replace h := ifn c10 h
      refine rn_icmp_ne_f (ft125 11 rfl) c10 ?_
      refine rn_ldc2 (v := (1503 : Int64)) (ft125 12 rfl) (by decide) ?_
      refine rn_goto (ft125 13 rfl) ?_
      exact rn_forget (ls := [some (.ref v0), some (.int v1), none, none]) (And.intro rfl (And.intro rfl trivial)) (rf125_J51  v0 v1 (1503 : Int64) w _  h)
  · replace h := ifn c13 h
    refine rn_icmp_ne_f (ft125 2 rfl) c13 ?_
    refine rn_bipush (v := (110 : Int32)) (ft125 3 rfl) (by decide) ?_
    refine rn_bipush (v := (101 : Int32)) (ft125 4 rfl) (by decide) ?_
    refine rn_bipush (v := (101 : Int32)) (ft125 5 rfl) (by decide) ?_
    refine rn_bipush (v := (100 : Int32)) (ft125 6 rfl) (by decide) ?_
    obtain ⟨p11, q12, h⟩ := ob_some h
    refine rn_callS (as := [.int (110 : Int32), .int (101 : Int32), .int (101 : Int32), .int (100 : Int32)]) (r := []) (v := (some (.long p11.1))) (w1 := p11.2) (ft125 7 rfl) (by decide +kernel) rfl (Nat.le_of_ble_eq_true rfl) (Nat.le_of_ble_eq_true rfl) (r43 (110 : Int32) (101 : Int32) (101 : Int32) (100 : Int32) w _ q12) ?_
    refine rn_goto (ft125 8 rfl) ?_
    exact rn_forget (ls := [some (.ref v0), some (.int v1), none, none]) (And.intro rfl (And.intro rfl trivial)) (rf125_J51  v0 v1 p11.1 p11.2 _  h)
/-- NineWheelModel.isRule(I)Z -/
theorem ft126 : ∀ (i : Nat) {q : Nat × XI}, cd126[i]? = some q → fetch 126 q.1 = some q.2 := ft_of (by decide +kernel)
theorem pr126 : pRt 126 = some .boolean := rfl
def f126 (v0 : Nat) (v1 : Int32) (w : Wd) : Option (Int32 × Wd) :=
  ob (getI w 11 v0 37) (fun x1 => ob (f40 (Int32.toInt64 v1) (0 : Int64) (Int32.toInt64 (x1 - (1 : Int32))) w) (fun p3 => (if p3.1 = 0 ∨ p3.1 = 1 then some (p3.1, p3.2) else none)))
set_option maxRecDepth 10000 in
theorem r126 {S : Sc} (v0 : Nat) (v1 : Int32) (w : Wd) (o : (Int32 × Wd)) (h : f126 v0 v1 w = some o) : Rn S 126 0 [some (.ref v0), some (.int v1)] [] w (some (.int o.1), o.2) := by
  unfold f126 at h
  refine rn_iload_n (ft126 0 rfl) rfl ?_
  refine rn_i2l (ft126 1 rfl) ?_
  refine rn_lconst (v := (0 : Int64)) (ft126 2 rfl) (by decide) ?_
  refine rn_aload_n (ft126 3 rfl) rfl ?_
  obtain ⟨x1, q2, h⟩ := ob_some h
  refine rn_getI (ft126 4 rfl) (by decide) (by decide) q2 ?_
  refine rn_iconst (v := (1 : Int32)) (ft126 5 rfl) (by decide) ?_
  refine rn_isub (ft126 6 rfl) ?_
  refine rn_i2l (ft126 7 rfl) ?_
  obtain ⟨p3, q4, h⟩ := ob_some h
  refine rn_callS (as := [.long (Int32.toInt64 v1), .long (0 : Int64), .long (Int32.toInt64 (x1 - (1 : Int32)))]) (r := []) (v := (some (.int p3.1))) (w1 := p3.2) (ft126 8 rfl) (by decide +kernel) rfl (Nat.le_of_ble_eq_true rfl) (Nat.le_of_ble_eq_true rfl) (r40 (Int32.toInt64 v1) (0 : Int64) (Int32.toInt64 (x1 - (1 : Int32))) w _ q4) ?_
  obtain ⟨g5, h⟩ := ifg h
  cases h
  exact rn_iretZ pr126 g5 (ft126 9 rfl)
/-- NineWheelModel.countOne(III)V -/
theorem ft127 : ∀ (i : Nat) {q : Nat × XI}, cd127[i]? = some q → fetch 127 q.1 = some q.2 := ft_of (by decide +kernel)
theorem pr127 : pRt 127 = none := rfl
def f127_J40  (v0 : Nat) (v1 : Int32) (v3 : Int32) (s0 : Nat) (s1 : Int32) (w : Wd) : Option Wd :=
  ob (putZ w 11 s0 45 s1) (fun w9 => ob (getI w9 11 v0 46) (fun x11 => (if ¬ x11 = 0 then ob (putZ w9 11 v0 46 (1 : Int32)) (fun w13 => some w13)
    else ob (getI w9 11 v0 41) (fun x15 => ob (f45 x15 v3 w9) (fun p17 => (if p17.1 = 0 then ob (putZ p17.2 11 v0 46 (0 : Int32)) (fun w19 => some w19)
      else (if v1 ≤ 0 then ob (putZ p17.2 11 v0 46 (0 : Int32)) (fun w21 => some w21)
        else ob (putZ p17.2 11 v0 46 (1 : Int32)) (fun w23 => some w23))))))))
set_option maxRecDepth 10000 in
theorem rf127_J40 {S : Sc}  (v0 : Nat) (v1 : Int32) (v3 : Int32) (s0 : Nat) (s1 : Int32) (w : Wd) (o : Wd)  (h : f127_J40  v0 v1 v3 s0 s1 w = some o) : Rn S 127 40 [some (.ref v0), some (.int v1), none, some (.int v3)] [.int s1, .ref s0] w (none, o) := by
  unfold f127_J40 at h
  obtain ⟨w9, q10, h⟩ := ob_some h
  refine rn_putZ (ft127 24 rfl) q10 ?_
  refine rn_aload_n (ft127 25 rfl) rfl ?_
  refine rn_aload_n (ft127 26 rfl) rfl ?_
  obtain ⟨x11, q12, h⟩ := ob_some h
  refine rn_getI (ft127 27 rfl) (by decide) (by decide) q12 ?_
  by_cases c27 : ¬ x11 = 0
  · replace h := ifp c27 h
    refine rn_if_ne_t (ft127 28 rfl) c27 ?_
    refine rn_iconst (v := (1 : Int32)) (ft127 36 rfl) (by decide) ?_
    refine rn_goto (ft127 37 rfl) ?_
    obtain ⟨w13, q14, h⟩ := ob_some h
    refine rn_putZ (ft127 39 rfl) q14 ?_
    cases h
    exact rn_vret pr127 (ft127 40 rfl)
  · replace h := ifn c27 h
    refine rn_if_ne_f (ft127 28 rfl) c27 ?_
    refine rn_aload_n (ft127 29 rfl) rfl ?_
    obtain ⟨x15, q16, h⟩ := ob_some h
    refine rn_getI (ft127 30 rfl) (by decide) (by decide) q16 ?_
    refine rn_iload_n (ft127 31 rfl) rfl ?_
    obtain ⟨p17, q18, h⟩ := ob_some h
    refine rn_callS (as := [.int x15, .int v3]) (r := [.ref v0]) (v := (some (.int p17.1))) (w1 := p17.2) (ft127 32 rfl) (by decide +kernel) rfl (Nat.le_of_ble_eq_true rfl) (Nat.le_of_ble_eq_true rfl) (r45 x15 v3 w9 _ q18) ?_
    by_cases c26 : p17.1 = 0
    · replace h := ifp c26 h
      refine rn_if_eq_t (ft127 33 rfl) c26 ?_
      refine rn_iconst (v := (0 : Int32)) (ft127 38 rfl) (by decide) ?_
      obtain ⟨w19, q20, h⟩ := ob_some h
      refine rn_putZ (ft127 39 rfl) q20 ?_
      cases h
      exact rn_vret pr127 (ft127 40 rfl)
    · replace h := ifn c26 h
      refine rn_if_eq_f (ft127 33 rfl) c26 ?_
      refine rn_iload_n (ft127 34 rfl) rfl ?_
      by_cases c25 : v1 ≤ 0
      · replace h := ifp c25 h
        refine rn_if_le_t (ft127 35 rfl) c25 ?_
        refine rn_iconst (v := (0 : Int32)) (ft127 38 rfl) (by decide) ?_
        obtain ⟨w21, q22, h⟩ := ob_some h
        refine rn_putZ (ft127 39 rfl) q22 ?_
        cases h
        exact rn_vret pr127 (ft127 40 rfl)
      · replace h := ifn c25 h
        refine rn_if_le_f (ft127 35 rfl) c25 ?_
        refine rn_iconst (v := (1 : Int32)) (ft127 36 rfl) (by decide) ?_
        refine rn_goto (ft127 37 rfl) ?_
        obtain ⟨w23, q24, h⟩ := ob_some h
        refine rn_putZ (ft127 39 rfl) q24 ?_
        cases h
        exact rn_vret pr127 (ft127 40 rfl)
def f127 (v0 : Nat) (v1 : Int32) (v2 : Int32) (v3 : Int32) (w : Wd) : Option Wd :=
  ob (getR w 11 v0 44) (fun x1 => ob (aldI w x1 (v1 + (2 : Int32))) (fun x3 => ob (astI w x1 (v1 + (2 : Int32)) (x3 + v2)) (fun w5 => ob (getI w5 11 v0 45) (fun x7 => (if ¬ x7 = 0 then f127_J40  v0 v1 v3 v0 (1 : Int32) w5
    else ob (getI w5 11 v0 41) (fun x28 => ob (f45 x28 v3 w5) (fun p30 => (if p30.1 = 0 then f127_J40  v0 v1 v3 v0 (0 : Int32) p30.2
      else (if 0 ≤ v1 then f127_J40  v0 v1 v3 v0 (0 : Int32) p30.2
        else f127_J40  v0 v1 v3 v0 (1 : Int32) p30.2)))))))))
set_option maxRecDepth 10000 in
theorem r127 {S : Sc} (v0 : Nat) (v1 : Int32) (v2 : Int32) (v3 : Int32) (w : Wd) (o : Wd) (h : f127 v0 v1 v2 v3 w = some o) : Rn S 127 0 [some (.ref v0), some (.int v1), some (.int v2), some (.int v3)] [] w (none, o) := by
  unfold f127 at h
  refine rn_aload_n (ft127 0 rfl) rfl ?_
  obtain ⟨x1, q2, h⟩ := ob_some h
  refine rn_getR (ft127 1 rfl) q2 ?_
  refine rn_iload_n (ft127 2 rfl) rfl ?_
  refine rn_iconst (v := (2 : Int32)) (ft127 3 rfl) (by decide) ?_
  refine rn_iadd (ft127 4 rfl) ?_
  refine rn_dup2 (ft127 5 rfl) rfl rfl ?_
  obtain ⟨x3, q4, h⟩ := ob_some h
  refine rn_iaload (ft127 6 rfl) q4 ?_
  refine rn_iload_n (ft127 7 rfl) rfl ?_
  refine rn_iadd (ft127 8 rfl) ?_
  obtain ⟨w5, q6, h⟩ := ob_some h
  refine rn_iastore (ft127 9 rfl) q6 ?_
  refine rn_aload_n (ft127 10 rfl) rfl ?_
  refine rn_aload_n (ft127 11 rfl) rfl ?_
  obtain ⟨x7, q8, h⟩ := ob_some h
  refine rn_getI (ft127 12 rfl) (by decide) (by decide) q8 ?_
  by_cases c34 : ¬ x7 = 0
  · replace h := ifp c34 h
    refine rn_if_ne_t (ft127 13 rfl) c34 ?_
    refine rn_iconst (v := (1 : Int32)) (ft127 21 rfl) (by decide) ?_
    refine rn_goto (ft127 22 rfl) ?_
    exact rn_forget (ls := [some (.ref v0), some (.int v1), none, some (.int v3)]) (And.intro rfl (And.intro rfl (And.intro rfl trivial))) (rf127_J40  v0 v1 v3 v0 (1 : Int32) w5 _  h)
  · replace h := ifn c34 h
    refine rn_if_ne_f (ft127 13 rfl) c34 ?_
    refine rn_aload_n (ft127 14 rfl) rfl ?_
    obtain ⟨x28, q29, h⟩ := ob_some h
    refine rn_getI (ft127 15 rfl) (by decide) (by decide) q29 ?_
    refine rn_iload_n (ft127 16 rfl) rfl ?_
    obtain ⟨p30, q31, h⟩ := ob_some h
    refine rn_callS (as := [.int x28, .int v3]) (r := [.ref v0]) (v := (some (.int p30.1))) (w1 := p30.2) (ft127 17 rfl) (by decide +kernel) rfl (Nat.le_of_ble_eq_true rfl) (Nat.le_of_ble_eq_true rfl) (r45 x28 v3 w5 _ q31) ?_
    by_cases c33 : p30.1 = 0
    · replace h := ifp c33 h
      refine rn_if_eq_t (ft127 18 rfl) c33 ?_
      refine rn_iconst (v := (0 : Int32)) (ft127 23 rfl) (by decide) ?_
      exact rn_forget (ls := [some (.ref v0), some (.int v1), none, some (.int v3)]) (And.intro rfl (And.intro rfl (And.intro rfl trivial))) (rf127_J40  v0 v1 v3 v0 (0 : Int32) p30.2 _  h)
    · replace h := ifn c33 h
      refine rn_if_eq_f (ft127 18 rfl) c33 ?_
      refine rn_iload_n (ft127 19 rfl) rfl ?_
      by_cases c32 : 0 ≤ v1
      · replace h := ifp c32 h
        refine rn_if_ge_t (ft127 20 rfl) c32 ?_
        refine rn_iconst (v := (0 : Int32)) (ft127 23 rfl) (by decide) ?_
        exact rn_forget (ls := [some (.ref v0), some (.int v1), none, some (.int v3)]) (And.intro rfl (And.intro rfl (And.intro rfl trivial))) (rf127_J40  v0 v1 v3 v0 (0 : Int32) p30.2 _  h)
      · replace h := ifn c32 h
        refine rn_if_ge_f (ft127 20 rfl) c32 ?_
        refine rn_iconst (v := (1 : Int32)) (ft127 21 rfl) (by decide) ?_
        refine rn_goto (ft127 22 rfl) ?_
        exact rn_forget (ls := [some (.ref v0), some (.int v1), none, some (.int v3)]) (And.intro rfl (And.intro rfl (And.intro rfl trivial))) (rf127_J40  v0 v1 v3 v0 (1 : Int32) p30.2 _  h)
/-- NineWheelModel.middleOf(I)I -/
theorem ft128 : ∀ (i : Nat) {q : Nat × XI}, cd128[i]? = some q → fetch 128 q.1 = some q.2 := ft_of (by decide +kernel)
theorem pr128 : pRt 128 = some .int := rfl
def f128_H22 (n : Nat) (rec10 : Nat → Int32 → Int32 → Int32 → Wd → Option (Int32 × Wd)) (K10 : Int32 → Wd → Option (Int32 × Wd)) (K16 : Nat → Int32 → Int32 → Int32 → Int32 → Wd → Option (Int32 × Wd)) : Nat → Nat → Int32 → Int32 → Int32 → Int32 → Int32 → Wd → Option (Int32 × Wd)
  | 0, _, _, _, _, _, _, _ => none
  | k + 1, v0, v2, v3, v4, v5, v6, w =>
    (if v4 ≤ v6 then K16 v0 v2 v3 v4 v5 w
      else ob (getR w 11 v0 44) (fun x1 => ob (aldI w x1 v6) (fun x3 => (fun (v0 : Nat) (v2 : Int32) (v3 : Int32) (v4 : Int32) (v5 : Int32) (v6 : Int32) w => f128_H22 n rec10 K10 K16 k v0 v2 v3 v4 v5 v6 w) v0 v2 v3 v4 (v5 + x3) (v6 + (1 : Int32)) w)))
set_option maxRecDepth 10000 in
theorem rf128_H22 {S : Sc} (n : Nat) (rec10 : Nat → Int32 → Int32 → Int32 → Wd → Option (Int32 × Wd)) (K10 : Int32 → Wd → Option (Int32 × Wd)) (K16 : Nat → Int32 → Int32 → Int32 → Int32 → Wd → Option (Int32 × Wd)) (hrec10 : ∀ (y0 : Nat) (y2 : Int32) (y3 : Int32) (y4 : Int32) (w : Wd) (o : (Int32 × Wd)), rec10 y0 y2 y3 y4 w = some o → Rn S 128 11 [some (.ref y0), none, some (.int y2), some (.int y3), some (.int y4), none, none] [] w (some (.int o.1), o.2)) (hK10 : ∀ (y3 : Int32) (w : Wd) (o : (Int32 × Wd)), K10 y3 w = some o → Rn S 128 80 [none, none, none, some (.int y3), none, none, none] [] w (some (.int o.1), o.2)) (hK16 : ∀ (y0 : Nat) (y2 : Int32) (y3 : Int32) (y4 : Int32) (y5 : Int32) (w : Wd) (o : (Int32 × Wd)), K16 y0 y2 y3 y4 y5 w = some o → Rn S 128 47 [some (.ref y0), none, some (.int y2), some (.int y3), some (.int y4), some (.int y5), none] [] w (some (.int o.1), o.2)) : ∀ (k : Nat) (v0 : Nat) (v2 : Int32) (v3 : Int32) (v4 : Int32) (v5 : Int32) (v6 : Int32) (w : Wd) (o : (Int32 × Wd)), f128_H22 n rec10 K10 K16 k v0 v2 v3 v4 v5 v6 w = some o → Rn S 128 22 [some (.ref v0), none, some (.int v2), some (.int v3), some (.int v4), some (.int v5), some (.int v6)] [] w (some (.int o.1), o.2) := by
  intro k
  induction k with
  | zero =>
    intro v0 v2 v3 v4 v5 v6 w o h
    exact nomatch h
  | succ k ih =>
    intro v0 v2 v3 v4 v5 v6 w o h
    have hrec16 : ∀ (y0 : Nat) (y2 : Int32) (y3 : Int32) (y4 : Int32) (y5 : Int32) (y6 : Int32) (w : Wd) (o : (Int32 × Wd)), (fun (v0 : Nat) (v2 : Int32) (v3 : Int32) (v4 : Int32) (v5 : Int32) (v6 : Int32) w => f128_H22 n rec10 K10 K16 k v0 v2 v3 v4 v5 v6 w) y0 y2 y3 y4 y5 y6 w = some o → Rn S 128 22 [some (.ref y0), none, some (.int y2), some (.int y3), some (.int y4), some (.int y5), some (.int y6)] [] w (some (.int o.1), o.2) := fun y0 y2 y3 y4 y5 y6 w o h => ih y0 y2 y3 y4 y5 y6 w o h
    unfold f128_H22 at h
    refine rn_iload (ft128 16 rfl) rfl ?_
    refine rn_iload (ft128 17 rfl) rfl ?_
    by_cases c5 : v4 ≤ v6
    · replace h := ifp c5 h
      refine rn_icmp_ge_t (ft128 18 rfl) c5 ?_
      exact rn_forget (ls := [some (.ref v0), none, some (.int v2), some (.int v3), some (.int v4), some (.int v5), none]) (And.intro rfl (And.intro rfl (And.intro rfl (And.intro rfl (And.intro rfl trivial))))) (hK16 v0 v2 v3 v4 v5 w _ h)
    · replace h := ifn c5 h
      refine rn_icmp_ge_f (ft128 18 rfl) c5 ?_
      refine rn_iload (ft128 19 rfl) rfl ?_
      refine rn_aload_n (ft128 20 rfl) rfl ?_
      obtain ⟨x1, q2, h⟩ := ob_some h
      refine rn_getR (ft128 21 rfl) q2 ?_
      refine rn_iload (ft128 22 rfl) rfl ?_
      obtain ⟨x3, q4, h⟩ := ob_some h
      refine rn_iaload (ft128 23 rfl) q4 ?_
      refine rn_iadd (ft128 24 rfl) ?_
      refine rn_istore (ls' := [some (.ref v0), none, some (.int v2), some (.int v3), some (.int v4), some (.int (v5 + x3)), some (.int v6)]) (ft128 25 rfl) rfl ?_
      refine rn_iinc (u := 1) (ls' := [some (.ref v0), none, some (.int v2), some (.int v3), some (.int v4), some (.int (v5 + x3)), some (.int (v6 + (1 : Int32)))]) (ft128 26 rfl) rfl (by decide) rfl ?_
      refine rn_goto (ft128 27 rfl) ?_
      exact rn_forget (ls := [some (.ref v0), none, some (.int v2), some (.int v3), some (.int v4), some (.int (v5 + x3)), some (.int (v6 + (1 : Int32)))]) (And.intro rfl (And.intro rfl (And.intro rfl (And.intro rfl (And.intro rfl (And.intro rfl trivial)))))) (hrec16 v0 v2 v3 v4 (v5 + x3) (v6 + (1 : Int32)) w _ h)
def f128_H11 (n : Nat)  (K10 : Int32 → Wd → Option (Int32 × Wd)) : Nat → Nat → Int32 → Int32 → Int32 → Wd → Option (Int32 × Wd)
  | 0, _, _, _, _, _ => none
  | k + 1, v0, v2, v3, v4, w =>
    (if v4 < 0 then K10 v3 w
      else f128_H22 n (fun (v0 : Nat) (v2 : Int32) (v3 : Int32) (v4 : Int32) w => f128_H11 n  K10 k v0 v2 v3 v4 w) K10 (fun (e0_6 : Nat) (e2_6 : Int32) (e3_6 : Int32) (e4_6 : Int32) (e5_6 : Int32) (w6 : Wd) => (if e2_6 < e5_6 then (fun (v0 : Nat) (v2 : Int32) (v3 : Int32) (v4 : Int32) w => f128_H11 n  K10 k v0 v2 v3 v4 w) e0_6 e2_6 e3_6 (e4_6 + (-1 : Int32)) w6
          else ob (getR w6 11 e0_6 44) (fun x7 => ob (aldI w6 x7 e4_6) (fun x9 => (if (e5_6 + x9) ≤ e2_6 then (fun (v0 : Nat) (v2 : Int32) (v3 : Int32) (v4 : Int32) w => f128_H11 n  K10 k v0 v2 v3 v4 w) e0_6 e2_6 e3_6 (e4_6 + (-1 : Int32)) w6
            else (fun (v0 : Nat) (v2 : Int32) (v3 : Int32) (v4 : Int32) w => f128_H11 n  K10 k v0 v2 v3 v4 w) e0_6 e2_6 e4_6 (e4_6 + (-1 : Int32)) w6))))) n v0 v2 v3 v4 (0 : Int32) (0 : Int32) w)
set_option maxRecDepth 10000 in
theorem rf128_H11 {S : Sc} (n : Nat)  (K10 : Int32 → Wd → Option (Int32 × Wd))  (hK10 : ∀ (y3 : Int32) (w : Wd) (o : (Int32 × Wd)), K10 y3 w = some o → Rn S 128 80 [none, none, none, some (.int y3), none, none, none] [] w (some (.int o.1), o.2)) : ∀ (k : Nat) (v0 : Nat) (v2 : Int32) (v3 : Int32) (v4 : Int32) (w : Wd) (o : (Int32 × Wd)), f128_H11 n  K10 k v0 v2 v3 v4 w = some o → Rn S 128 11 [some (.ref v0), none, some (.int v2), some (.int v3), some (.int v4), none, none] [] w (some (.int o.1), o.2) := by
  intro k
  induction k with
  | zero =>
    intro v0 v2 v3 v4 w o h
    exact nomatch h
  | succ k ih =>
    intro v0 v2 v3 v4 w o h
    have hrec10 : ∀ (y0 : Nat) (y2 : Int32) (y3 : Int32) (y4 : Int32) (w : Wd) (o : (Int32 × Wd)), (fun (v0 : Nat) (v2 : Int32) (v3 : Int32) (v4 : Int32) w => f128_H11 n  K10 k v0 v2 v3 v4 w) y0 y2 y3 y4 w = some o → Rn S 128 11 [some (.ref y0), none, some (.int y2), some (.int y3), some (.int y4), none, none] [] w (some (.int o.1), o.2) := fun y0 y2 y3 y4 w o h => ih y0 y2 y3 y4 w o h
    unfold f128_H11 at h
    refine rn_iload (ft128 10 rfl) rfl ?_
    by_cases c13 : v4 < 0
    · replace h := ifp c13 h
      refine rn_if_lt_t (ft128 11 rfl) c13 ?_
      exact rn_forget (ls := [none, none, none, some (.int v3), none, none, none]) (And.intro rfl trivial) (hK10 v3 w _ h)
    · replace h := ifn c13 h
      refine rn_if_lt_f (ft128 11 rfl) c13 ?_
      refine rn_iconst (v := (0 : Int32)) (ft128 12 rfl) (by decide) ?_
      refine rn_istore (ls' := [some (.ref v0), none, some (.int v2), some (.int v3), some (.int v4), some (.int (0 : Int32)), none]) (ft128 13 rfl) rfl ?_
      refine rn_iconst (v := (0 : Int32)) (ft128 14 rfl) (by decide) ?_
      refine rn_istore (ls' := [some (.ref v0), none, some (.int v2), some (.int v3), some (.int v4), some (.int (0 : Int32)), some (.int (0 : Int32))]) (ft128 15 rfl) rfl ?_
      refine rn_forget (ls := [some (.ref v0), none, some (.int v2), some (.int v3), some (.int v4), some (.int (0 : Int32)), some (.int (0 : Int32))]) (And.intro rfl (And.intro rfl (And.intro rfl (And.intro rfl (And.intro rfl (And.intro rfl trivial)))))) (rf128_H22 n (fun (v0 : Nat) (v2 : Int32) (v3 : Int32) (v4 : Int32) w => f128_H11 n  K10 k v0 v2 v3 v4 w) K10 _ hrec10 hK10 (fun e0_6 e2_6 e3_6 e4_6 e5_6 w6 o h => ?_) n v0 v2 v3 v4 (0 : Int32) (0 : Int32) w _ h)
      refine rn_iload_n (ft128 28 rfl) rfl ?_
      refine rn_iload (ft128 29 rfl) rfl ?_
      by_cases c12 : e2_6 < e5_6
      · replace h := ifp c12 h
        refine rn_icmp_lt_t (ft128 30 rfl) c12 ?_
        refine rn_iload_n (ft128 41 rfl) rfl ?_
        refine rn_istore_n (ls' := [some (.ref e0_6), none, some (.int e2_6), some (.int e3_6), some (.int e4_6), some (.int e5_6), none]) (ft128 42 rfl) rfl ?_
        refine rn_iinc (u := (-1)) (ls' := [some (.ref e0_6), none, some (.int e2_6), some (.int e3_6), some (.int (e4_6 + (-1 : Int32))), some (.int e5_6), none]) (ft128 43 rfl) rfl (by decide) rfl ?_
        refine rn_goto (ft128 44 rfl) ?_
        exact rn_forget (ls := [some (.ref e0_6), none, some (.int e2_6), some (.int e3_6), some (.int (e4_6 + (-1 : Int32))), none, none]) (And.intro rfl (And.intro rfl (And.intro rfl (And.intro rfl trivial)))) (hrec10 e0_6 e2_6 e3_6 (e4_6 + (-1 : Int32)) w6 _ h)
      · replace h := ifn c12 h
        refine rn_icmp_lt_f (ft128 30 rfl) c12 ?_
        refine rn_iload_n (ft128 31 rfl) rfl ?_
        refine rn_iload (ft128 32 rfl) rfl ?_
        refine rn_aload_n (ft128 33 rfl) rfl ?_
        obtain ⟨x7, q8, h⟩ := ob_some h
        refine rn_getR (ft128 34 rfl) q8 ?_
        refine rn_iload (ft128 35 rfl) rfl ?_
        obtain ⟨x9, q10, h⟩ := ob_some h
        refine rn_iaload (ft128 36 rfl) q10 ?_
        refine rn_iadd (ft128 37 rfl) ?_
        by_cases c11 : (e5_6 + x9) ≤ e2_6
        · replace h := ifp c11 h
          refine rn_icmp_ge_t (ft128 38 rfl) c11 ?_
          refine rn_iload_n (ft128 41 rfl) rfl ?_
          refine rn_istore_n (ls' := [some (.ref e0_6), none, some (.int e2_6), some (.int e3_6), some (.int e4_6), some (.int e5_6), none]) (ft128 42 rfl) rfl ?_
          refine rn_iinc (u := (-1)) (ls' := [some (.ref e0_6), none, some (.int e2_6), some (.int e3_6), some (.int (e4_6 + (-1 : Int32))), some (.int e5_6), none]) (ft128 43 rfl) rfl (by decide) rfl ?_
          refine rn_goto (ft128 44 rfl) ?_
          exact rn_forget (ls := [some (.ref e0_6), none, some (.int e2_6), some (.int e3_6), some (.int (e4_6 + (-1 : Int32))), none, none]) (And.intro rfl (And.intro rfl (And.intro rfl (And.intro rfl trivial)))) (hrec10 e0_6 e2_6 e3_6 (e4_6 + (-1 : Int32)) w6 _ h)
        · replace h := ifn c11 h
          refine rn_icmp_ge_f (ft128 38 rfl) c11 ?_
          refine rn_iload (ft128 39 rfl) rfl ?_
          refine rn_goto (ft128 40 rfl) ?_
          refine rn_istore_n (ls' := [some (.ref e0_6), none, some (.int e2_6), some (.int e4_6), some (.int e4_6), some (.int e5_6), none]) (ft128 42 rfl) rfl ?_
          refine rn_iinc (u := (-1)) (ls' := [some (.ref e0_6), none, some (.int e2_6), some (.int e4_6), some (.int (e4_6 + (-1 : Int32))), some (.int e5_6), none]) (ft128 43 rfl) rfl (by decide) rfl ?_
          refine rn_goto (ft128 44 rfl) ?_
          exact rn_forget (ls := [some (.ref e0_6), none, some (.int e2_6), some (.int e4_6), some (.int (e4_6 + (-1 : Int32))), none, none]) (And.intro rfl (And.intro rfl (And.intro rfl (And.intro rfl trivial)))) (hrec10 e0_6 e2_6 e4_6 (e4_6 + (-1 : Int32)) w6 _ h)
def f128 (n : Nat) (v0 : Nat) (v1 : Int32) (w : Wd) : Option (Int32 × Wd) :=
  f128_H11 n  (fun (e3_14 : Int32) (w14 : Wd) => ob (f56 (e3_14 - (2 : Int32)) w14) (fun p15 => some (p15.1, p15.2))) n v0 ((v1 - (1 : Int32)) / (2 : Int32)) (2 : Int32) (4 : Int32) w
set_option maxRecDepth 10000 in
theorem r128 {S : Sc} (n : Nat) (v0 : Nat) (v1 : Int32) (w : Wd) (o : (Int32 × Wd)) (h : f128 n v0 v1 w = some o) : Rn S 128 0 [some (.ref v0), some (.int v1), none, none, none, none, none] [] w (some (.int o.1), o.2) := by
  unfold f128 at h
  refine rn_iload_n (ft128 0 rfl) rfl ?_
  refine rn_iconst (v := (1 : Int32)) (ft128 1 rfl) (by decide) ?_
  refine rn_isub (ft128 2 rfl) ?_
  refine rn_iconst (v := (2 : Int32)) (ft128 3 rfl) (by decide) ?_
  refine rn_idiv (ft128 4 rfl) (by decide) ?_
  refine rn_istore_n (ls' := [some (.ref v0), some (.int v1), some (.int ((v1 - (1 : Int32)) / (2 : Int32))), none, none, none, none]) (ft128 5 rfl) rfl ?_
  refine rn_iconst (v := (2 : Int32)) (ft128 6 rfl) (by decide) ?_
  refine rn_istore_n (ls' := [some (.ref v0), some (.int v1), some (.int ((v1 - (1 : Int32)) / (2 : Int32))), some (.int (2 : Int32)), none, none, none]) (ft128 7 rfl) rfl ?_
  refine rn_iconst (v := (4 : Int32)) (ft128 8 rfl) (by decide) ?_
  refine rn_istore (ls' := [some (.ref v0), some (.int v1), some (.int ((v1 - (1 : Int32)) / (2 : Int32))), some (.int (2 : Int32)), some (.int (4 : Int32)), none, none]) (ft128 9 rfl) rfl ?_
  refine rn_forget (ls := [some (.ref v0), none, some (.int ((v1 - (1 : Int32)) / (2 : Int32))), some (.int (2 : Int32)), some (.int (4 : Int32)), none, none]) (And.intro rfl (And.intro rfl (And.intro rfl (And.intro rfl trivial)))) (rf128_H11 n  _  (fun e3_14 w14 o h => ?_) n v0 ((v1 - (1 : Int32)) / (2 : Int32)) (2 : Int32) (4 : Int32) w _ h)
  refine rn_iload_n (ft128 45 rfl) rfl ?_
  refine rn_iconst (v := (2 : Int32)) (ft128 46 rfl) (by decide) ?_
  refine rn_isub (ft128 47 rfl) ?_
  obtain ⟨p15, q16, h⟩ := ob_some h
  refine rn_callS (as := [.int (e3_14 - (2 : Int32))]) (r := []) (v := (some (.int p15.1))) (w1 := p15.2) (ft128 48 rfl) (by decide +kernel) rfl (Nat.le_of_ble_eq_true rfl) (Nat.le_of_ble_eq_true rfl) (r56 (e3_14 - (2 : Int32)) w14 _ q16) ?_
  cases h
  exact rn_iretI pr128 (ft128 49 rfl)
/-- NineWheelModel.period()I -/
theorem ft129 : ∀ (i : Nat) {q : Nat × XI}, cd129[i]? = some q → fetch 129 q.1 = some q.2 := ft_of (by decide +kernel)
theorem pr129 : pRt 129 = some .int := rfl
def f129_J14 (n : Nat)  (v0 : Nat) (s0 : Int32) (w : Wd) : Option (Int32 × Wd) :=
  ob (getI w 11 v0 4) (fun x3 => (if 0 ≤ x3 then ob (getI w 11 v0 4) (fun x5 => some ((s0 * x5), w))
    else some ((s0 * (1 : Int32)), w)))
set_option maxRecDepth 10000 in
theorem rf129_J14 {S : Sc} (n : Nat)  (v0 : Nat) (s0 : Int32) (w : Wd) (o : (Int32 × Wd))  (h : f129_J14 n  v0 s0 w = some o) : Rn S 129 14 [some (.ref v0), none] [.int s0] w (some (.int o.1), o.2) := by
  unfold f129_J14 at h
  refine rn_aload_n (ft129 8 rfl) rfl ?_
  obtain ⟨x3, q4, h⟩ := ob_some h
  refine rn_getI (ft129 9 rfl) (by decide) (by decide) q4 ?_
  by_cases c7 : 0 ≤ x3
  · replace h := ifp c7 h
    refine rn_if_ge_t (ft129 10 rfl) c7 ?_
    refine rn_aload_n (ft129 13 rfl) rfl ?_
    obtain ⟨x5, q6, h⟩ := ob_some h
    refine rn_getI (ft129 14 rfl) (by decide) (by decide) q6 ?_
    refine rn_imul (ft129 15 rfl) ?_
    cases h
    exact rn_iretI pr129 (ft129 16 rfl)
  · replace h := ifn c7 h
    refine rn_if_ge_f (ft129 10 rfl) c7 ?_
    refine rn_iconst (v := (1 : Int32)) (ft129 11 rfl) (by decide) ?_
    refine rn_goto (ft129 12 rfl) ?_
    refine rn_imul (ft129 15 rfl) ?_
    cases h
    exact rn_iretI pr129 (ft129 16 rfl)
def f129 (n : Nat) (v0 : Nat) (w : Wd) : Option (Int32 × Wd) :=
  (if (wsh w v0).map (fun q => q.1) = some 11 then ob (f50 n v0 w) (fun p1 => (if ¬ p1.1 = 0 then f129_J14 n  v0 p1.1 p1.2
    else f129_J14 n  v0 (1 : Int32) p1.2)) else none)
set_option maxRecDepth 10000 in
theorem r129 {S : Sc} (n : Nat) (v0 : Nat) (w : Wd) (o : (Int32 × Wd)) (h : f129 n v0 w = some o) : Rn S 129 0 [some (.ref v0), none] [] w (some (.int o.1), o.2) := by
  unfold f129 at h
  refine rn_aload_n (ft129 0 rfl) rfl ?_
  obtain ⟨g9, h⟩ := ifg h
  obtain ⟨p1, q2, h⟩ := ob_some h
  refine rn_callV (as := []) (k0 := v0) (r := []) (v := (some (.int p1.1))) (w1 := p1.2) (ft129 1 rfl) (by decide +kernel) rfl (Nat.le_of_ble_eq_true rfl) (Nat.le_of_ble_eq_true rfl) (r50 n v0 w _ q2) (by decide +kernel) g9 ?_
  refine rn_istore_n (ls' := [some (.ref v0), some (.int p1.1)]) (ft129 2 rfl) rfl ?_
  refine rn_iload_n (ft129 3 rfl) rfl ?_
  by_cases c8 : ¬ p1.1 = 0
  · replace h := ifp c8 h
    refine rn_if_ne_t (ft129 4 rfl) c8 ?_
    refine rn_iload_n (ft129 7 rfl) rfl ?_
    exact rn_forget (ls := [some (.ref v0), none]) (And.intro rfl trivial) (rf129_J14 n  v0 p1.1 p1.2 _  h)
  · replace h := ifn c8 h
    refine rn_if_ne_f (ft129 4 rfl) c8 ?_
    refine rn_iconst (v := (1 : Int32)) (ft129 5 rfl) (by decide) ?_
    refine rn_goto (ft129 6 rfl) ?_
    exact rn_forget (ls := [some (.ref v0), none]) (And.intro rfl trivial) (rf129_J14 n  v0 (1 : Int32) p1.2 _  h)
/-- NineWheelModel.log(I)I -/
theorem ft130 : ∀ (i : Nat) {q : Nat × XI}, cd130[i]? = some q → fetch 130 q.1 = some q.2 := ft_of (by decide +kernel)
theorem pr130 : pRt 130 = some .int := rfl
def f130 (v0 : Nat) (v1 : Int32) (w : Wd) : Option (Int32 × Wd) :=
  ob (f40 (Int32.toInt64 v1) (-1 : Int64) (1 : Int64) w) (fun p1 => (if ¬ p1.1 = 0 then ob (getI p1.2 11 v0 56) (fun x3 => (if ¬ x3 = (40 : Int32) then ob (getR p1.2 11 v0 57) (fun x5 => ob (getI p1.2 11 v0 56) (fun x7 => ob (astI p1.2 x5 x7 v1) (fun w9 => ob (getI w9 11 v0 56) (fun x11 => ob (putI w9 11 v0 56 (x11 + (1 : Int32))) (fun w13 => ob (getI w13 11 v0 56) (fun x15 => some (x15, w13)))))))
      else some ((-1000004 : Int32), p1.2)))
    else some ((-1000002 : Int32), p1.2)))
set_option maxRecDepth 10000 in
theorem r130 {S : Sc} (v0 : Nat) (v1 : Int32) (w : Wd) (o : (Int32 × Wd)) (h : f130 v0 v1 w = some o) : Rn S 130 0 [some (.ref v0), some (.int v1)] [] w (some (.int o.1), o.2) := by
  unfold f130 at h
  refine rn_iload_n (ft130 0 rfl) rfl ?_
  refine rn_i2l (ft130 1 rfl) ?_
  refine rn_ldc2 (v := (-1 : Int64)) (ft130 2 rfl) (by decide) ?_
  refine rn_lconst (v := (1 : Int64)) (ft130 3 rfl) (by decide) ?_
  obtain ⟨p1, q2, h⟩ := ob_some h
  refine rn_callS (as := [.long (Int32.toInt64 v1), .long (-1 : Int64), .long (1 : Int64)]) (r := []) (v := (some (.int p1.1))) (w1 := p1.2) (ft130 4 rfl) (by decide +kernel) rfl (Nat.le_of_ble_eq_true rfl) (Nat.le_of_ble_eq_true rfl) (r40 (Int32.toInt64 v1) (-1 : Int64) (1 : Int64) w _ q2) ?_
  by_cases c18 : ¬ p1.1 = 0
  · replace h := ifp c18 h
    refine rn_if_ne_t (ft130 5 rfl) c18 ?_
    refine rn_aload_n (ft130 8 rfl) rfl ?_
    obtain ⟨x3, q4, h⟩ := ob_some h
    refine rn_getI (ft130 9 rfl) (by decide) (by decide) q4 ?_
    refine rn_bipush (v := (40 : Int32)) (ft130 10 rfl) (by decide) ?_
    by_cases c17 : ¬ x3 = (40 : Int32)
    · replace h := ifp c17 h
      refine rn_icmp_ne_t (ft130 11 rfl) c17 ?_
      refine rn_aload_n (ft130 14 rfl) rfl ?_
      obtain ⟨x5, q6, h⟩ := ob_some h
      refine rn_getR (ft130 15 rfl) q6 ?_
      refine rn_aload_n (ft130 16 rfl) rfl ?_
      obtain ⟨x7, q8, h⟩ := ob_some h
      refine rn_getI (ft130 17 rfl) (by decide) (by decide) q8 ?_
      refine rn_iload_n (ft130 18 rfl) rfl ?_
      obtain ⟨w9, q10, h⟩ := ob_some h
      refine rn_iastore (ft130 19 rfl) q10 ?_
      refine rn_aload_n (ft130 20 rfl) rfl ?_
      refine rn_dup (ft130 21 rfl) rfl ?_
      obtain ⟨x11, q12, h⟩ := ob_some h
      refine rn_getI (ft130 22 rfl) (by decide) (by decide) q12 ?_
      refine rn_iconst (v := (1 : Int32)) (ft130 23 rfl) (by decide) ?_
      refine rn_iadd (ft130 24 rfl) ?_
      obtain ⟨w13, q14, h⟩ := ob_some h
      refine rn_putI (ft130 25 rfl) q14 ?_
      refine rn_aload_n (ft130 26 rfl) rfl ?_
      obtain ⟨x15, q16, h⟩ := ob_some h
      refine rn_getI (ft130 27 rfl) (by decide) (by decide) q16 ?_
      cases h
      exact rn_iretI pr130 (ft130 28 rfl)
    · replace h := ifn c17 h
      refine rn_icmp_ne_f (ft130 11 rfl) c17 ?_
      refine rn_ldc (v := (-1000004 : Int32)) (ft130 12 rfl) (by decide) rfl ?_
      cases h
      exact rn_iretI pr130 (ft130 13 rfl)
  · replace h := ifn c18 h
    refine rn_if_ne_f (ft130 5 rfl) c18 ?_
    refine rn_ldc (v := (-1000002 : Int32)) (ft130 6 rfl) (by decide) rfl ?_
    cases h
    exact rn_iretI pr130 (ft130 7 rfl)
/-- NineWheelModel.isTime(I)Z -/
theorem ft131 : ∀ (i : Nat) {q : Nat × XI}, cd131[i]? = some q → fetch 131 q.1 = some q.2 := ft_of (by decide +kernel)
theorem pr131 : pRt 131 = some .boolean := rfl
def f131 (v0 : Int32) (w : Wd) : Option (Int32 × Wd) :=
  ob (f40 (Int32.toInt64 v0) (1 : Int64) (24 : Int64) w) (fun p1 => (if p1.1 = 0 ∨ p1.1 = 1 then some (p1.1, p1.2) else none))
set_option maxRecDepth 10000 in
theorem r131 {S : Sc} (v0 : Int32) (w : Wd) (o : (Int32 × Wd)) (h : f131 v0 w = some o) : Rn S 131 0 [some (.int v0)] [] w (some (.int o.1), o.2) := by
  unfold f131 at h
  refine rn_iload_n (ft131 0 rfl) rfl ?_
  refine rn_i2l (ft131 1 rfl) ?_
  refine rn_lconst (v := (1 : Int64)) (ft131 2 rfl) (by decide) ?_
  refine rn_ldc2 (v := (24 : Int64)) (ft131 3 rfl) (by decide) ?_
  obtain ⟨p1, q2, h⟩ := ob_some h
  refine rn_callS (as := [.long (Int32.toInt64 v0), .long (1 : Int64), .long (24 : Int64)]) (r := []) (v := (some (.int p1.1))) (w1 := p1.2) (ft131 4 rfl) (by decide +kernel) rfl (Nat.le_of_ble_eq_true rfl) (Nat.le_of_ble_eq_true rfl) (r40 (Int32.toInt64 v0) (1 : Int64) (24 : Int64) w _ q2) ?_
  obtain ⟨g3, h⟩ := ifg h
  cases h
  exact rn_iretZ pr131 g3 (ft131 5 rfl)
/-- NineWheelModel.personsOf(I)I -/
theorem ft132 : ∀ (i : Nat) {q : Nat × XI}, cd132[i]? = some q → fetch 132 q.1 = some q.2 := ft_of (by decide +kernel)
theorem pr132 : pRt 132 = some .int := rfl
def f132_J31 (n : Nat) (rec4 : Nat → Int32 → Int32 → Int32 → Wd → Option (Int32 × Wd)) (K4 : Int32 → Wd → Option (Int32 × Wd)) (v0 : Nat) (v1 : Int32) (v3 : Int32) (s0 : Int32) (s1 : Int32) (w : Wd) : Option (Int32 × Wd) :=
  rec4 v0 v1 (s0 + s1) (v3 + (1 : Int32)) w
set_option maxRecDepth 10000 in
theorem rf132_J31 {S : Sc} (n : Nat) (rec4 : Nat → Int32 → Int32 → Int32 → Wd → Option (Int32 × Wd)) (K4 : Int32 → Wd → Option (Int32 × Wd)) (v0 : Nat) (v1 : Int32) (v3 : Int32) (s0 : Int32) (s1 : Int32) (w : Wd) (o : (Int32 × Wd)) (hrec4 : ∀ (y0 : Nat) (y1 : Int32) (y2 : Int32) (y3 : Int32) (w : Wd) (o : (Int32 × Wd)), rec4 y0 y1 y2 y3 w = some o → Rn S 132 4 [some (.ref y0), some (.int y1), some (.int y2), some (.int y3)] [] w (some (.int o.1), o.2)) (hK4 : ∀ (y2 : Int32) (w : Wd) (o : (Int32 × Wd)), K4 y2 w = some o → Rn S 132 39 [none, none, some (.int y2), none] [] w (some (.int o.1), o.2)) (h : f132_J31 n rec4 K4 v0 v1 v3 s0 s1 w = some o) : Rn S 132 31 [some (.ref v0), some (.int v1), none, some (.int v3)] [.int s1, .int s0] w (some (.int o.1), o.2) := by
  unfold f132_J31 at h
  refine rn_iadd (ft132 19 rfl) ?_
  refine rn_istore_n (ls' := [some (.ref v0), some (.int v1), some (.int (s0 + s1)), some (.int v3)]) (ft132 20 rfl) rfl ?_
  refine rn_iinc (u := 1) (ls' := [some (.ref v0), some (.int v1), some (.int (s0 + s1)), some (.int (v3 + (1 : Int32)))]) (ft132 21 rfl) rfl (by decide) rfl ?_
  refine rn_goto (ft132 22 rfl) ?_
  exact rn_forget (ls := [some (.ref v0), some (.int v1), some (.int (s0 + s1)), some (.int (v3 + (1 : Int32)))]) (And.intro rfl (And.intro rfl (And.intro rfl (And.intro rfl trivial)))) (hrec4 v0 v1 (s0 + s1) (v3 + (1 : Int32)) w _ h)
def f132_H4 (n : Nat)  (K4 : Int32 → Wd → Option (Int32 × Wd)) : Nat → Nat → Int32 → Int32 → Int32 → Wd → Option (Int32 × Wd)
  | 0, _, _, _, _, _ => none
  | k + 1, v0, v1, v2, v3, w =>
    ob (getI w 11 v0 6) (fun x1 => (if x1 ≤ v3 then K4 v2 w
      else ob (f45 v1 v3 w) (fun p3 => (if p3.1 = 0 then f132_J31 n (fun (v0 : Nat) (v1 : Int32) (v2 : Int32) (v3 : Int32) w => f132_H4 n  K4 k v0 v1 v2 v3 w) K4 v0 v1 v3 v2 (0 : Int32) p3.2
        else ob (getR p3.2 11 v0 7) (fun x5 => ob (aldI p3.2 x5 v3) (fun x7 => f132_J31 n (fun (v0 : Nat) (v1 : Int32) (v2 : Int32) (v3 : Int32) w => f132_H4 n  K4 k v0 v1 v2 v3 w) K4 v0 v1 v3 v2 x7 p3.2))))))
set_option maxRecDepth 10000 in
theorem rf132_H4 {S : Sc} (n : Nat)  (K4 : Int32 → Wd → Option (Int32 × Wd))  (hK4 : ∀ (y2 : Int32) (w : Wd) (o : (Int32 × Wd)), K4 y2 w = some o → Rn S 132 39 [none, none, some (.int y2), none] [] w (some (.int o.1), o.2)) : ∀ (k : Nat) (v0 : Nat) (v1 : Int32) (v2 : Int32) (v3 : Int32) (w : Wd) (o : (Int32 × Wd)), f132_H4 n  K4 k v0 v1 v2 v3 w = some o → Rn S 132 4 [some (.ref v0), some (.int v1), some (.int v2), some (.int v3)] [] w (some (.int o.1), o.2) := by
  intro k
  induction k with
  | zero =>
    intro v0 v1 v2 v3 w o h
    exact nomatch h
  | succ k ih =>
    intro v0 v1 v2 v3 w o h
    have hrec4 : ∀ (y0 : Nat) (y1 : Int32) (y2 : Int32) (y3 : Int32) (w : Wd) (o : (Int32 × Wd)), (fun (v0 : Nat) (v1 : Int32) (v2 : Int32) (v3 : Int32) w => f132_H4 n  K4 k v0 v1 v2 v3 w) y0 y1 y2 y3 w = some o → Rn S 132 4 [some (.ref y0), some (.int y1), some (.int y2), some (.int y3)] [] w (some (.int o.1), o.2) := fun y0 y1 y2 y3 w o h => ih y0 y1 y2 y3 w o h
    unfold f132_H4 at h
    refine rn_iload_n (ft132 4 rfl) rfl ?_
    refine rn_aload_n (ft132 5 rfl) rfl ?_
    obtain ⟨x1, q2, h⟩ := ob_some h
    refine rn_getI (ft132 6 rfl) (by decide) (by decide) q2 ?_
    by_cases c10 : x1 ≤ v3
    · replace h := ifp c10 h
      refine rn_icmp_ge_t (ft132 7 rfl) c10 ?_
      exact rn_forget (ls := [none, none, some (.int v2), none]) (And.intro rfl trivial) (hK4 v2 w _ h)
    · replace h := ifn c10 h
      refine rn_icmp_ge_f (ft132 7 rfl) c10 ?_
      refine rn_iload_n (ft132 8 rfl) rfl ?_
      refine rn_iload_n (ft132 9 rfl) rfl ?_
      refine rn_iload_n (ft132 10 rfl) rfl ?_
      obtain ⟨p3, q4, h⟩ := ob_some h
      refine rn_callS (as := [.int v1, .int v3]) (r := [.int v2]) (v := (some (.int p3.1))) (w1 := p3.2) (ft132 11 rfl) (by decide +kernel) rfl (Nat.le_of_ble_eq_true rfl) (Nat.le_of_ble_eq_true rfl) (r45 v1 v3 w _ q4) ?_
      by_cases c9 : p3.1 = 0
      · replace h := ifp c9 h
        refine rn_if_eq_t (ft132 12 rfl) c9 ?_
        refine rn_iconst (v := (0 : Int32)) (ft132 18 rfl) (by decide) ?_
        exact rn_forget (ls := [some (.ref v0), some (.int v1), none, some (.int v3)]) (And.intro rfl (And.intro rfl (And.intro rfl trivial))) (rf132_J31 n (fun (v0 : Nat) (v1 : Int32) (v2 : Int32) (v3 : Int32) w => f132_H4 n  K4 k v0 v1 v2 v3 w) K4 v0 v1 v3 v2 (0 : Int32) p3.2 _ hrec4 hK4 h)
      · replace h := ifn c9 h
        refine rn_if_eq_f (ft132 12 rfl) c9 ?_
        refine rn_aload_n (ft132 13 rfl) rfl ?_
        obtain ⟨x5, q6, h⟩ := ob_some h
        refine rn_getR (ft132 14 rfl) q6 ?_
        refine rn_iload_n (ft132 15 rfl) rfl ?_
        obtain ⟨x7, q8, h⟩ := ob_some h
        refine rn_iaload (ft132 16 rfl) q8 ?_
        refine rn_goto (ft132 17 rfl) ?_
        exact rn_forget (ls := [some (.ref v0), some (.int v1), none, some (.int v3)]) (And.intro rfl (And.intro rfl (And.intro rfl trivial))) (rf132_J31 n (fun (v0 : Nat) (v1 : Int32) (v2 : Int32) (v3 : Int32) w => f132_H4 n  K4 k v0 v1 v2 v3 w) K4 v0 v1 v3 v2 x7 p3.2 _ hrec4 hK4 h)
def f132 (n : Nat) (v0 : Nat) (v1 : Int32) (w : Wd) : Option (Int32 × Wd) :=
  f132_H4 n  (fun (e2_11 : Int32) (w11 : Wd) => some (e2_11, w11)) n v0 v1 (0 : Int32) (0 : Int32) w
set_option maxRecDepth 10000 in
theorem r132 {S : Sc} (n : Nat) (v0 : Nat) (v1 : Int32) (w : Wd) (o : (Int32 × Wd)) (h : f132 n v0 v1 w = some o) : Rn S 132 0 [some (.ref v0), some (.int v1), none, none] [] w (some (.int o.1), o.2) := by
  unfold f132 at h
  refine rn_iconst (v := (0 : Int32)) (ft132 0 rfl) (by decide) ?_
  refine rn_istore_n (ls' := [some (.ref v0), some (.int v1), some (.int (0 : Int32)), none]) (ft132 1 rfl) rfl ?_
  refine rn_iconst (v := (0 : Int32)) (ft132 2 rfl) (by decide) ?_
  refine rn_istore_n (ls' := [some (.ref v0), some (.int v1), some (.int (0 : Int32)), some (.int (0 : Int32))]) (ft132 3 rfl) rfl ?_
  refine rn_forget (ls := [some (.ref v0), some (.int v1), some (.int (0 : Int32)), some (.int (0 : Int32))]) (And.intro rfl (And.intro rfl (And.intro rfl (And.intro rfl trivial)))) (rf132_H4 n  _  (fun e2_11 w11 o h => ?_) n v0 v1 (0 : Int32) (0 : Int32) w _ h)
  refine rn_iload_n (ft132 23 rfl) rfl ?_
  cases h
  exact rn_iretI pr132 (ft132 24 rfl)
/-- NineWheelModel.keep(I)I -/
theorem ft133 : ∀ (i : Nat) {q : Nat × XI}, cd133[i]? = some q → fetch 133 q.1 = some q.2 := ft_of (by decide +kernel)
theorem pr133 : pRt 133 = some .int := rfl
def f133_H43 (n : Nat)  (K28 : Nat → Int32 → Int32 → Wd → Option (Int32 × Wd)) : Nat → Nat → Int32 → Int32 → Int32 → Wd → Option (Int32 × Wd)
  | 0, _, _, _, _, _ => none
  | k + 1, v0, v1, v2, v3, w =>
    (if (6 : Int32) ≤ v3 then K28 v0 v1 v2 w
      else ob (getR w 11 v0 61) (fun x15 => ob (getR w 11 v0 10) (fun x17 => ob (aldI w x17 v3) (fun x19 => ob (astI w x15 ((v2 + (2 : Int32)) + v3) x19) (fun w21 => ob (getR w21 11 v0 61) (fun x23 => ob (getR w21 11 v0 11) (fun x25 => ob (aldI w21 x25 v3) (fun x27 => ob (astI w21 x23 ((v2 + (8 : Int32)) + v3) x27) (fun w29 => (fun (v0 : Nat) (v1 : Int32) (v2 : Int32) (v3 : Int32) w => f133_H43 n  K28 k v0 v1 v2 v3 w) v0 v1 v2 (v3 + (1 : Int32)) w29)))))))))
set_option maxRecDepth 10000 in
theorem rf133_H43 {S : Sc} (n : Nat)  (K28 : Nat → Int32 → Int32 → Wd → Option (Int32 × Wd))  (hK28 : ∀ (y0 : Nat) (y1 : Int32) (y2 : Int32) (w : Wd) (o : (Int32 × Wd)), K28 y0 y1 y2 w = some o → Rn S 133 88 [some (.ref y0), some (.int y1), some (.int y2), none] [] w (some (.int o.1), o.2)) : ∀ (k : Nat) (v0 : Nat) (v1 : Int32) (v2 : Int32) (v3 : Int32) (w : Wd) (o : (Int32 × Wd)), f133_H43 n  K28 k v0 v1 v2 v3 w = some o → Rn S 133 43 [some (.ref v0), some (.int v1), some (.int v2), some (.int v3)] [] w (some (.int o.1), o.2) := by
  intro k
  induction k with
  | zero =>
    intro v0 v1 v2 v3 w o h
    exact nomatch h
  | succ k ih =>
    intro v0 v1 v2 v3 w o h
    have hrec28 : ∀ (y0 : Nat) (y1 : Int32) (y2 : Int32) (y3 : Int32) (w : Wd) (o : (Int32 × Wd)), (fun (v0 : Nat) (v1 : Int32) (v2 : Int32) (v3 : Int32) w => f133_H43 n  K28 k v0 v1 v2 v3 w) y0 y1 y2 y3 w = some o → Rn S 133 43 [some (.ref y0), some (.int y1), some (.int y2), some (.int y3)] [] w (some (.int o.1), o.2) := fun y0 y1 y2 y3 w o h => ih y0 y1 y2 y3 w o h
    unfold f133_H43 at h
    refine rn_iload_n (ft133 28 rfl) rfl ?_
    refine rn_bipush (v := (6 : Int32)) (ft133 29 rfl) (by decide) ?_
    by_cases c31 : (6 : Int32) ≤ v3
    · replace h := ifp c31 h
      refine rn_icmp_ge_t (ft133 30 rfl) c31 ?_
      exact rn_forget (ls := [some (.ref v0), some (.int v1), some (.int v2), none]) (And.intro rfl (And.intro rfl (And.intro rfl trivial))) (hK28 v0 v1 v2 w _ h)
    · replace h := ifn c31 h
      refine rn_icmp_ge_f (ft133 30 rfl) c31 ?_
      refine rn_aload_n (ft133 31 rfl) rfl ?_
      obtain ⟨x15, q16, h⟩ := ob_some h
      refine rn_getR (ft133 32 rfl) q16 ?_
      refine rn_iload_n (ft133 33 rfl) rfl ?_
      refine rn_iconst (v := (2 : Int32)) (ft133 34 rfl) (by decide) ?_
      refine rn_iadd (ft133 35 rfl) ?_
      refine rn_iload_n (ft133 36 rfl) rfl ?_
      refine rn_iadd (ft133 37 rfl) ?_
      refine rn_aload_n (ft133 38 rfl) rfl ?_
      obtain ⟨x17, q18, h⟩ := ob_some h
      refine rn_getR (ft133 39 rfl) q18 ?_
      refine rn_iload_n (ft133 40 rfl) rfl ?_
      obtain ⟨x19, q20, h⟩ := ob_some h
      refine rn_iaload (ft133 41 rfl) q20 ?_
      obtain ⟨w21, q22, h⟩ := ob_some h
      refine rn_iastore (ft133 42 rfl) q22 ?_
      refine rn_aload_n (ft133 43 rfl) rfl ?_
      obtain ⟨x23, q24, h⟩ := ob_some h
      refine rn_getR (ft133 44 rfl) q24 ?_
      refine rn_iload_n (ft133 45 rfl) rfl ?_
      refine rn_bipush (v := (8 : Int32)) (ft133 46 rfl) (by decide) ?_
      refine rn_iadd (ft133 47 rfl) ?_
      refine rn_iload_n (ft133 48 rfl) rfl ?_
      refine rn_iadd (ft133 49 rfl) ?_
      refine rn_aload_n (ft133 50 rfl) rfl ?_
      obtain ⟨x25, q26, h⟩ := ob_some h
      refine rn_getR (ft133 51 rfl) q26 ?_
      refine rn_iload_n (ft133 52 rfl) rfl ?_
      obtain ⟨x27, q28, h⟩ := ob_some h
      refine rn_iaload (ft133 53 rfl) q28 ?_
      obtain ⟨w29, q30, h⟩ := ob_some h
      refine rn_iastore (ft133 54 rfl) q30 ?_
      refine rn_iinc (u := 1) (ls' := [some (.ref v0), some (.int v1), some (.int v2), some (.int (v3 + (1 : Int32)))]) (ft133 55 rfl) rfl (by decide) rfl ?_
      refine rn_goto (ft133 56 rfl) ?_
      exact rn_forget (ls := [some (.ref v0), some (.int v1), some (.int v2), some (.int (v3 + (1 : Int32)))]) (And.intro rfl (And.intro rfl (And.intro rfl (And.intro rfl trivial)))) (hrec28 v0 v1 v2 (v3 + (1 : Int32)) w29 _ h)
def f133_H90 (n : Nat)  (K59 : Nat → Int32 → Wd → Option (Int32 × Wd)) : Nat → Nat → Int32 → Int32 → Int32 → Wd → Option (Int32 × Wd)
  | 0, _, _, _, _, _ => none
  | k + 1, v0, v1, v2, v3, w =>
    (if (40 : Int32) ≤ v3 then K59 v0 v1 w
      else ob (getR w 11 v0 61) (fun x33 => ob (getR w 11 v0 57) (fun x35 => ob (aldI w x35 v3) (fun x37 => ob (astI w x33 ((v2 + (14 : Int32)) + v3) x37) (fun w39 => (fun (v0 : Nat) (v1 : Int32) (v2 : Int32) (v3 : Int32) w => f133_H90 n  K59 k v0 v1 v2 v3 w) v0 v1 v2 (v3 + (1 : Int32)) w39)))))
set_option maxRecDepth 10000 in
theorem rf133_H90 {S : Sc} (n : Nat)  (K59 : Nat → Int32 → Wd → Option (Int32 × Wd))  (hK59 : ∀ (y0 : Nat) (y1 : Int32) (w : Wd) (o : (Int32 × Wd)), K59 y0 y1 w = some o → Rn S 133 119 [some (.ref y0), some (.int y1), none, none] [] w (some (.int o.1), o.2)) : ∀ (k : Nat) (v0 : Nat) (v1 : Int32) (v2 : Int32) (v3 : Int32) (w : Wd) (o : (Int32 × Wd)), f133_H90 n  K59 k v0 v1 v2 v3 w = some o → Rn S 133 90 [some (.ref v0), some (.int v1), some (.int v2), some (.int v3)] [] w (some (.int o.1), o.2) := by
  intro k
  induction k with
  | zero =>
    intro v0 v1 v2 v3 w o h
    exact nomatch h
  | succ k ih =>
    intro v0 v1 v2 v3 w o h
    have hrec59 : ∀ (y0 : Nat) (y1 : Int32) (y2 : Int32) (y3 : Int32) (w : Wd) (o : (Int32 × Wd)), (fun (v0 : Nat) (v1 : Int32) (v2 : Int32) (v3 : Int32) w => f133_H90 n  K59 k v0 v1 v2 v3 w) y0 y1 y2 y3 w = some o → Rn S 133 90 [some (.ref y0), some (.int y1), some (.int y2), some (.int y3)] [] w (some (.int o.1), o.2) := fun y0 y1 y2 y3 w o h => ih y0 y1 y2 y3 w o h
    unfold f133_H90 at h
    refine rn_iload_n (ft133 59 rfl) rfl ?_
    refine rn_bipush (v := (40 : Int32)) (ft133 60 rfl) (by decide) ?_
    by_cases c41 : (40 : Int32) ≤ v3
    · replace h := ifp c41 h
      refine rn_icmp_ge_t (ft133 61 rfl) c41 ?_
      exact rn_forget (ls := [some (.ref v0), some (.int v1), none, none]) (And.intro rfl (And.intro rfl trivial)) (hK59 v0 v1 w _ h)
    · replace h := ifn c41 h
      refine rn_icmp_ge_f (ft133 61 rfl) c41 ?_
      refine rn_aload_n (ft133 62 rfl) rfl ?_
      obtain ⟨x33, q34, h⟩ := ob_some h
      refine rn_getR (ft133 63 rfl) q34 ?_
      refine rn_iload_n (ft133 64 rfl) rfl ?_
      refine rn_bipush (v := (14 : Int32)) (ft133 65 rfl) (by decide) ?_
      refine rn_iadd (ft133 66 rfl) ?_
      refine rn_iload_n (ft133 67 rfl) rfl ?_
      refine rn_iadd (ft133 68 rfl) ?_
      refine rn_aload_n (ft133 69 rfl) rfl ?_
      obtain ⟨x35, q36, h⟩ := ob_some h
      refine rn_getR (ft133 70 rfl) q36 ?_
      refine rn_iload_n (ft133 71 rfl) rfl ?_
      obtain ⟨x37, q38, h⟩ := ob_some h
      refine rn_iaload (ft133 72 rfl) q38 ?_
      obtain ⟨w39, q40, h⟩ := ob_some h
      refine rn_iastore (ft133 73 rfl) q40 ?_
      refine rn_iinc (u := 1) (ls' := [some (.ref v0), some (.int v1), some (.int v2), some (.int (v3 + (1 : Int32)))]) (ft133 74 rfl) rfl (by decide) rfl ?_
      refine rn_goto (ft133 75 rfl) ?_
      exact rn_forget (ls := [some (.ref v0), some (.int v1), some (.int v2), some (.int (v3 + (1 : Int32)))]) (And.intro rfl (And.intro rfl (And.intro rfl (And.intro rfl trivial)))) (hrec59 v0 v1 v2 (v3 + (1 : Int32)) w39 _ h)
def f133 (n : Nat) (v0 : Nat) (v1 : Int32) (w : Wd) : Option (Int32 × Wd) :=
  ob (f40 (Int32.toInt64 v1) (0 : Int64) (1 : Int64) w) (fun p1 => (if ¬ p1.1 = 0 then ob (getR p1.2 11 v0 61) (fun x3 => ob (getI p1.2 11 v0 56) (fun x5 => ob (astI p1.2 x3 ((60 : Int32) * v1) x5) (fun w7 => ob (getR w7 11 v0 61) (fun x9 => ob (getI w7 11 v0 60) (fun x11 => ob (astI w7 x9 (((60 : Int32) * v1) + (1 : Int32)) x11) (fun w13 => f133_H43 n  (fun (e0_32 : Nat) (e1_32 : Int32) (e2_32 : Int32) (w32 : Wd) => f133_H90 n  (fun (e0_42 : Nat) (e1_42 : Int32) (w42 : Wd) => ob (getR w42 11 e0_42 62) (fun x43 => ob (astB w42 x43 e1_42 (1 : Int32)) (fun w45 => some ((1 : Int32), w45)))) n e0_32 e1_32 e2_32 (0 : Int32) w32) n v0 v1 ((60 : Int32) * v1) (0 : Int32) w13))))))
    else some ((-1000001 : Int32), p1.2)))
set_option maxRecDepth 10000 in
theorem r133 {S : Sc} (n : Nat) (v0 : Nat) (v1 : Int32) (w : Wd) (o : (Int32 × Wd)) (h : f133 n v0 v1 w = some o) : Rn S 133 0 [some (.ref v0), some (.int v1), none, none] [] w (some (.int o.1), o.2) := by
  unfold f133 at h
  refine rn_iload_n (ft133 0 rfl) rfl ?_
  refine rn_i2l (ft133 1 rfl) ?_
  refine rn_lconst (v := (0 : Int64)) (ft133 2 rfl) (by decide) ?_
  refine rn_lconst (v := (1 : Int64)) (ft133 3 rfl) (by decide) ?_
  obtain ⟨p1, q2, h⟩ := ob_some h
  refine rn_callS (as := [.long (Int32.toInt64 v1), .long (0 : Int64), .long (1 : Int64)]) (r := []) (v := (some (.int p1.1))) (w1 := p1.2) (ft133 4 rfl) (by decide +kernel) rfl (Nat.le_of_ble_eq_true rfl) (Nat.le_of_ble_eq_true rfl) (r40 (Int32.toInt64 v1) (0 : Int64) (1 : Int64) w _ q2) ?_
  by_cases c47 : ¬ p1.1 = 0
  · replace h := ifp c47 h
    refine rn_if_ne_t (ft133 5 rfl) c47 ?_
    refine rn_bipush (v := (60 : Int32)) (ft133 8 rfl) (by decide) ?_
    refine rn_iload_n (ft133 9 rfl) rfl ?_
    refine rn_imul (ft133 10 rfl) ?_
    refine rn_istore_n (ls' := [some (.ref v0), some (.int v1), some (.int ((60 : Int32) * v1)), none]) (ft133 11 rfl) rfl ?_
    refine rn_aload_n (ft133 12 rfl) rfl ?_
    obtain ⟨x3, q4, h⟩ := ob_some h
    refine rn_getR (ft133 13 rfl) q4 ?_
    refine rn_iload_n (ft133 14 rfl) rfl ?_
    refine rn_aload_n (ft133 15 rfl) rfl ?_
    obtain ⟨x5, q6, h⟩ := ob_some h
    refine rn_getI (ft133 16 rfl) (by decide) (by decide) q6 ?_
    obtain ⟨w7, q8, h⟩ := ob_some h
    refine rn_iastore (ft133 17 rfl) q8 ?_
    refine rn_aload_n (ft133 18 rfl) rfl ?_
    obtain ⟨x9, q10, h⟩ := ob_some h
    refine rn_getR (ft133 19 rfl) q10 ?_
    refine rn_iload_n (ft133 20 rfl) rfl ?_
    refine rn_iconst (v := (1 : Int32)) (ft133 21 rfl) (by decide) ?_
    refine rn_iadd (ft133 22 rfl) ?_
    refine rn_aload_n (ft133 23 rfl) rfl ?_
    obtain ⟨x11, q12, h⟩ := ob_some h
    refine rn_getI (ft133 24 rfl) (by decide) (by decide) q12 ?_
    obtain ⟨w13, q14, h⟩ := ob_some h
    refine rn_iastore (ft133 25 rfl) q14 ?_
    refine rn_iconst (v := (0 : Int32)) (ft133 26 rfl) (by decide) ?_
    refine rn_istore_n (ls' := [some (.ref v0), some (.int v1), some (.int ((60 : Int32) * v1)), some (.int (0 : Int32))]) (ft133 27 rfl) rfl ?_
    refine rn_forget (ls := [some (.ref v0), some (.int v1), some (.int ((60 : Int32) * v1)), some (.int (0 : Int32))]) (And.intro rfl (And.intro rfl (And.intro rfl (And.intro rfl trivial)))) (rf133_H43 n  _  (fun e0_32 e1_32 e2_32 w32 o h => ?_) n v0 v1 ((60 : Int32) * v1) (0 : Int32) w13 _ h)
    refine rn_iconst (v := (0 : Int32)) (ft133 57 rfl) (by decide) ?_
    refine rn_istore_n (ls' := [some (.ref e0_32), some (.int e1_32), some (.int e2_32), some (.int (0 : Int32))]) (ft133 58 rfl) rfl ?_
    refine rn_forget (ls := [some (.ref e0_32), some (.int e1_32), some (.int e2_32), some (.int (0 : Int32))]) (And.intro rfl (And.intro rfl (And.intro rfl (And.intro rfl trivial)))) (rf133_H90 n  _  (fun e0_42 e1_42 w42 o h => ?_) n e0_32 e1_32 e2_32 (0 : Int32) w32 _ h)
    refine rn_aload_n (ft133 76 rfl) rfl ?_
    obtain ⟨x43, q44, h⟩ := ob_some h
    refine rn_getR (ft133 77 rfl) q44 ?_
    refine rn_iload_n (ft133 78 rfl) rfl ?_
    refine rn_iconst (v := (1 : Int32)) (ft133 79 rfl) (by decide) ?_
    obtain ⟨w45, q46, h⟩ := ob_some h
    refine rn_bastore (ft133 80 rfl) q46 ?_
    refine rn_iconst (v := (1 : Int32)) (ft133 81 rfl) (by decide) ?_
    cases h
    exact rn_iretI pr133 (ft133 82 rfl)
  · replace h := ifn c47 h
    refine rn_if_ne_f (ft133 5 rfl) c47 ?_
    refine rn_ldcw (v := (-1000001 : Int32)) (ft133 6 rfl) (by decide) ?_
    cases h
    exact rn_iretI pr133 (ft133 7 rfl)
/-- NineWheelModel.goBack(I)I -/
theorem ft134 : ∀ (i : Nat) {q : Nat × XI}, cd134[i]? = some q → fetch 134 q.1 = some q.2 := ft_of (by decide +kernel)
theorem pr134 : pRt 134 = some .int := rfl
def f134_H56 (n : Nat)  (K35 : Nat → Int32 → Wd → Option (Int32 × Wd)) : Nat → Nat → Int32 → Int32 → Wd → Option (Int32 × Wd)
  | 0, _, _, _, _ => none
  | k + 1, v0, v2, v3, w =>
    (if (6 : Int32) ≤ v3 then K35 v0 v2 w
      else ob (getR w 11 v0 10) (fun x19 => ob (getR w 11 v0 61) (fun x21 => ob (aldI w x21 ((v2 + (2 : Int32)) + v3)) (fun x23 => ob (astI w x19 v3 x23) (fun w25 => ob (getR w25 11 v0 11) (fun x27 => ob (getR w25 11 v0 61) (fun x29 => ob (aldI w25 x29 ((v2 + (8 : Int32)) + v3)) (fun x31 => ob (astI w25 x27 v3 x31) (fun w33 => (fun (v0 : Nat) (v2 : Int32) (v3 : Int32) w => f134_H56 n  K35 k v0 v2 v3 w) v0 v2 (v3 + (1 : Int32)) w33)))))))))
set_option maxRecDepth 10000 in
theorem rf134_H56 {S : Sc} (n : Nat)  (K35 : Nat → Int32 → Wd → Option (Int32 × Wd))  (hK35 : ∀ (y0 : Nat) (y2 : Int32) (w : Wd) (o : (Int32 × Wd)), K35 y0 y2 w = some o → Rn S 134 101 [some (.ref y0), none, some (.int y2), none] [] w (some (.int o.1), o.2)) : ∀ (k : Nat) (v0 : Nat) (v2 : Int32) (v3 : Int32) (w : Wd) (o : (Int32 × Wd)), f134_H56 n  K35 k v0 v2 v3 w = some o → Rn S 134 56 [some (.ref v0), none, some (.int v2), some (.int v3)] [] w (some (.int o.1), o.2) := by
  intro k
  induction k with
  | zero =>
    intro v0 v2 v3 w o h
    exact nomatch h
  | succ k ih =>
    intro v0 v2 v3 w o h
    have hrec35 : ∀ (y0 : Nat) (y2 : Int32) (y3 : Int32) (w : Wd) (o : (Int32 × Wd)), (fun (v0 : Nat) (v2 : Int32) (v3 : Int32) w => f134_H56 n  K35 k v0 v2 v3 w) y0 y2 y3 w = some o → Rn S 134 56 [some (.ref y0), none, some (.int y2), some (.int y3)] [] w (some (.int o.1), o.2) := fun y0 y2 y3 w o h => ih y0 y2 y3 w o h
    unfold f134_H56 at h
    refine rn_iload_n (ft134 35 rfl) rfl ?_
    refine rn_bipush (v := (6 : Int32)) (ft134 36 rfl) (by decide) ?_
    by_cases c35 : (6 : Int32) ≤ v3
    · replace h := ifp c35 h
      refine rn_icmp_ge_t (ft134 37 rfl) c35 ?_
      exact rn_forget (ls := [some (.ref v0), none, some (.int v2), none]) (And.intro rfl (And.intro rfl trivial)) (hK35 v0 v2 w _ h)
    · replace h := ifn c35 h
      refine rn_icmp_ge_f (ft134 37 rfl) c35 ?_
      refine rn_aload_n (ft134 38 rfl) rfl ?_
      obtain ⟨x19, q20, h⟩ := ob_some h
      refine rn_getR (ft134 39 rfl) q20 ?_
      refine rn_iload_n (ft134 40 rfl) rfl ?_
      refine rn_aload_n (ft134 41 rfl) rfl ?_
      obtain ⟨x21, q22, h⟩ := ob_some h
      refine rn_getR (ft134 42 rfl) q22 ?_
      refine rn_iload_n (ft134 43 rfl) rfl ?_
      refine rn_iconst (v := (2 : Int32)) (ft134 44 rfl) (by decide) ?_
      refine rn_iadd (ft134 45 rfl) ?_
      refine rn_iload_n (ft134 46 rfl) rfl ?_
      refine rn_iadd (ft134 47 rfl) ?_
      obtain ⟨x23, q24, h⟩ := ob_some h
      refine rn_iaload (ft134 48 rfl) q24 ?_
      obtain ⟨w25, q26, h⟩ := ob_some h
      refine rn_iastore (ft134 49 rfl) q26 ?_
      refine rn_aload_n (ft134 50 rfl) rfl ?_
      obtain ⟨x27, q28, h⟩ := ob_some h
      refine rn_getR (ft134 51 rfl) q28 ?_
      refine rn_iload_n (ft134 52 rfl) rfl ?_
      refine rn_aload_n (ft134 53 rfl) rfl ?_
      obtain ⟨x29, q30, h⟩ := ob_some h
      refine rn_getR (ft134 54 rfl) q30 ?_
      refine rn_iload_n (ft134 55 rfl) rfl ?_
      refine rn_bipush (v := (8 : Int32)) (ft134 56 rfl) (by decide) ?_
      refine rn_iadd (ft134 57 rfl) ?_
      refine rn_iload_n (ft134 58 rfl) rfl ?_
      refine rn_iadd (ft134 59 rfl) ?_
      obtain ⟨x31, q32, h⟩ := ob_some h
      refine rn_iaload (ft134 60 rfl) q32 ?_
      obtain ⟨w33, q34, h⟩ := ob_some h
      refine rn_iastore (ft134 61 rfl) q34 ?_
      refine rn_iinc (u := 1) (ls' := [some (.ref v0), none, some (.int v2), some (.int (v3 + (1 : Int32)))]) (ft134 62 rfl) rfl (by decide) rfl ?_
      refine rn_goto (ft134 63 rfl) ?_
      exact rn_forget (ls := [some (.ref v0), none, some (.int v2), some (.int (v3 + (1 : Int32)))]) (And.intro rfl (And.intro rfl (And.intro rfl trivial))) (hrec35 v0 v2 (v3 + (1 : Int32)) w33 _ h)
def f134_H103 (n : Nat)  (K66 : Nat → Wd → Option (Int32 × Wd)) : Nat → Nat → Int32 → Int32 → Wd → Option (Int32 × Wd)
  | 0, _, _, _, _ => none
  | k + 1, v0, v2, v3, w =>
    (if (40 : Int32) ≤ v3 then K66 v0 w
      else ob (getR w 11 v0 57) (fun x37 => ob (getR w 11 v0 61) (fun x39 => ob (aldI w x39 ((v2 + (14 : Int32)) + v3)) (fun x41 => ob (astI w x37 v3 x41) (fun w43 => (fun (v0 : Nat) (v2 : Int32) (v3 : Int32) w => f134_H103 n  K66 k v0 v2 v3 w) v0 v2 (v3 + (1 : Int32)) w43)))))
set_option maxRecDepth 10000 in
theorem rf134_H103 {S : Sc} (n : Nat)  (K66 : Nat → Wd → Option (Int32 × Wd))  (hK66 : ∀ (y0 : Nat) (w : Wd) (o : (Int32 × Wd)), K66 y0 w = some o → Rn S 134 132 [some (.ref y0), none, none, none] [] w (some (.int o.1), o.2)) : ∀ (k : Nat) (v0 : Nat) (v2 : Int32) (v3 : Int32) (w : Wd) (o : (Int32 × Wd)), f134_H103 n  K66 k v0 v2 v3 w = some o → Rn S 134 103 [some (.ref v0), none, some (.int v2), some (.int v3)] [] w (some (.int o.1), o.2) := by
  intro k
  induction k with
  | zero =>
    intro v0 v2 v3 w o h
    exact nomatch h
  | succ k ih =>
    intro v0 v2 v3 w o h
    have hrec66 : ∀ (y0 : Nat) (y2 : Int32) (y3 : Int32) (w : Wd) (o : (Int32 × Wd)), (fun (v0 : Nat) (v2 : Int32) (v3 : Int32) w => f134_H103 n  K66 k v0 v2 v3 w) y0 y2 y3 w = some o → Rn S 134 103 [some (.ref y0), none, some (.int y2), some (.int y3)] [] w (some (.int o.1), o.2) := fun y0 y2 y3 w o h => ih y0 y2 y3 w o h
    unfold f134_H103 at h
    refine rn_iload_n (ft134 66 rfl) rfl ?_
    refine rn_bipush (v := (40 : Int32)) (ft134 67 rfl) (by decide) ?_
    by_cases c45 : (40 : Int32) ≤ v3
    · replace h := ifp c45 h
      refine rn_icmp_ge_t (ft134 68 rfl) c45 ?_
      exact rn_forget (ls := [some (.ref v0), none, none, none]) (And.intro rfl trivial) (hK66 v0 w _ h)
    · replace h := ifn c45 h
      refine rn_icmp_ge_f (ft134 68 rfl) c45 ?_
      refine rn_aload_n (ft134 69 rfl) rfl ?_
      obtain ⟨x37, q38, h⟩ := ob_some h
      refine rn_getR (ft134 70 rfl) q38 ?_
      refine rn_iload_n (ft134 71 rfl) rfl ?_
      refine rn_aload_n (ft134 72 rfl) rfl ?_
      obtain ⟨x39, q40, h⟩ := ob_some h
      refine rn_getR (ft134 73 rfl) q40 ?_
      refine rn_iload_n (ft134 74 rfl) rfl ?_
      refine rn_bipush (v := (14 : Int32)) (ft134 75 rfl) (by decide) ?_
      refine rn_iadd (ft134 76 rfl) ?_
      refine rn_iload_n (ft134 77 rfl) rfl ?_
      refine rn_iadd (ft134 78 rfl) ?_
      obtain ⟨x41, q42, h⟩ := ob_some h
      refine rn_iaload (ft134 79 rfl) q42 ?_
      obtain ⟨w43, q44, h⟩ := ob_some h
      refine rn_iastore (ft134 80 rfl) q44 ?_
      refine rn_iinc (u := 1) (ls' := [some (.ref v0), none, some (.int v2), some (.int (v3 + (1 : Int32)))]) (ft134 81 rfl) rfl (by decide) rfl ?_
      refine rn_goto (ft134 82 rfl) ?_
      exact rn_forget (ls := [some (.ref v0), none, some (.int v2), some (.int (v3 + (1 : Int32)))]) (And.intro rfl (And.intro rfl (And.intro rfl trivial))) (hrec66 v0 v2 (v3 + (1 : Int32)) w43 _ h)
def f134 (n : Nat) (v0 : Nat) (v1 : Int32) (w : Wd) : Option (Int32 × Wd) :=
  ob (f40 (Int32.toInt64 v1) (0 : Int64) (1 : Int64) w) (fun p1 => (if ¬ p1.1 = 0 then ob (getR p1.2 11 v0 62) (fun x3 => ob (aldB p1.2 x3 v1) (fun x5 => (if ¬ x5 = 0 then ob (getR p1.2 11 v0 61) (fun x7 => ob (aldI p1.2 x7 ((60 : Int32) * v1)) (fun x9 => ob (putI p1.2 11 v0 56 x9) (fun w11 => ob (getR w11 11 v0 61) (fun x13 => ob (aldI w11 x13 (((60 : Int32) * v1) + (1 : Int32))) (fun x15 => ob (putI w11 11 v0 60 x15) (fun w17 => f134_H56 n  (fun (e0_36 : Nat) (e2_36 : Int32) (w36 : Wd) => f134_H103 n  (fun (e0_46 : Nat) (w46 : Wd) => ob (putZ w46 11 e0_46 34 (0 : Int32)) (fun w47 => some ((1 : Int32), w47))) n e0_36 e2_36 (0 : Int32) w36) n v0 ((60 : Int32) * v1) (0 : Int32) w17))))))
      else some ((-1000003 : Int32), p1.2))))
    else some ((-1000001 : Int32), p1.2)))
set_option maxRecDepth 10000 in
theorem r134 {S : Sc} (n : Nat) (v0 : Nat) (v1 : Int32) (w : Wd) (o : (Int32 × Wd)) (h : f134 n v0 v1 w = some o) : Rn S 134 0 [some (.ref v0), some (.int v1), none, none] [] w (some (.int o.1), o.2) := by
  unfold f134 at h
  refine rn_iload_n (ft134 0 rfl) rfl ?_
  refine rn_i2l (ft134 1 rfl) ?_
  refine rn_lconst (v := (0 : Int64)) (ft134 2 rfl) (by decide) ?_
  refine rn_lconst (v := (1 : Int64)) (ft134 3 rfl) (by decide) ?_
  obtain ⟨p1, q2, h⟩ := ob_some h
  refine rn_callS (as := [.long (Int32.toInt64 v1), .long (0 : Int64), .long (1 : Int64)]) (r := []) (v := (some (.int p1.1))) (w1 := p1.2) (ft134 4 rfl) (by decide +kernel) rfl (Nat.le_of_ble_eq_true rfl) (Nat.le_of_ble_eq_true rfl) (r40 (Int32.toInt64 v1) (0 : Int64) (1 : Int64) w _ q2) ?_
  by_cases c50 : ¬ p1.1 = 0
  · replace h := ifp c50 h
    refine rn_if_ne_t (ft134 5 rfl) c50 ?_
    refine rn_aload_n (ft134 8 rfl) rfl ?_
    obtain ⟨x3, q4, h⟩ := ob_some h
    refine rn_getR (ft134 9 rfl) q4 ?_
    refine rn_iload_n (ft134 10 rfl) rfl ?_
    obtain ⟨x5, q6, h⟩ := ob_some h
    refine rn_baload (ft134 11 rfl) q6 ?_
    by_cases c49 : ¬ x5 = 0
    · replace h := ifp c49 h
      refine rn_if_ne_t (ft134 12 rfl) c49 ?_
      refine rn_bipush (v := (60 : Int32)) (ft134 15 rfl) (by decide) ?_
      refine rn_iload_n (ft134 16 rfl) rfl ?_
      refine rn_imul (ft134 17 rfl) ?_
      refine rn_istore_n (ls' := [some (.ref v0), some (.int v1), some (.int ((60 : Int32) * v1)), none]) (ft134 18 rfl) rfl ?_
      refine rn_aload_n (ft134 19 rfl) rfl ?_
      refine rn_aload_n (ft134 20 rfl) rfl ?_
      obtain ⟨x7, q8, h⟩ := ob_some h
      refine rn_getR (ft134 21 rfl) q8 ?_
      refine rn_iload_n (ft134 22 rfl) rfl ?_
      obtain ⟨x9, q10, h⟩ := ob_some h
      refine rn_iaload (ft134 23 rfl) q10 ?_
      obtain ⟨w11, q12, h⟩ := ob_some h
      refine rn_putI (ft134 24 rfl) q12 ?_
      refine rn_aload_n (ft134 25 rfl) rfl ?_
      refine rn_aload_n (ft134 26 rfl) rfl ?_
      obtain ⟨x13, q14, h⟩ := ob_some h
      refine rn_getR (ft134 27 rfl) q14 ?_
      refine rn_iload_n (ft134 28 rfl) rfl ?_
      refine rn_iconst (v := (1 : Int32)) (ft134 29 rfl) (by decide) ?_
      refine rn_iadd (ft134 30 rfl) ?_
      obtain ⟨x15, q16, h⟩ := ob_some h
      refine rn_iaload (ft134 31 rfl) q16 ?_
      obtain ⟨w17, q18, h⟩ := ob_some h
      refine rn_putI (ft134 32 rfl) q18 ?_
      refine rn_iconst (v := (0 : Int32)) (ft134 33 rfl) (by decide) ?_
      refine rn_istore_n (ls' := [some (.ref v0), some (.int v1), some (.int ((60 : Int32) * v1)), some (.int (0 : Int32))]) (ft134 34 rfl) rfl ?_
      refine rn_forget (ls := [some (.ref v0), none, some (.int ((60 : Int32) * v1)), some (.int (0 : Int32))]) (And.intro rfl (And.intro rfl (And.intro rfl trivial))) (rf134_H56 n  _  (fun e0_36 e2_36 w36 o h => ?_) n v0 ((60 : Int32) * v1) (0 : Int32) w17 _ h)
      refine rn_iconst (v := (0 : Int32)) (ft134 64 rfl) (by decide) ?_
      refine rn_istore_n (ls' := [some (.ref e0_36), none, some (.int e2_36), some (.int (0 : Int32))]) (ft134 65 rfl) rfl ?_
      refine rn_forget (ls := [some (.ref e0_36), none, some (.int e2_36), some (.int (0 : Int32))]) (And.intro rfl (And.intro rfl (And.intro rfl trivial))) (rf134_H103 n  _  (fun e0_46 w46 o h => ?_) n e0_36 e2_36 (0 : Int32) w36 _ h)
      refine rn_aload_n (ft134 83 rfl) rfl ?_
      refine rn_iconst (v := (0 : Int32)) (ft134 84 rfl) (by decide) ?_
      obtain ⟨w47, q48, h⟩ := ob_some h
      refine rn_putZ (ft134 85 rfl) q48 ?_
      refine rn_iconst (v := (1 : Int32)) (ft134 86 rfl) (by decide) ?_
      cases h
      exact rn_iretI pr134 (ft134 87 rfl)
    · replace h := ifn c49 h
      refine rn_if_ne_f (ft134 12 rfl) c49 ?_
      refine rn_ldcw (v := (-1000003 : Int32)) (ft134 13 rfl) (by decide) ?_
      cases h
      exact rn_iretI pr134 (ft134 14 rfl)
  · replace h := ifn c50 h
    refine rn_if_ne_f (ft134 5 rfl) c50 ?_
    refine rn_ldcw (v := (-1000001 : Int32)) (ft134 6 rfl) (by decide) ?_
    cases h
    exact rn_iretI pr134 (ft134 7 rfl)
/-- NineWheel$Crew.<init>(LNineWheel$Sea;LNineWheel$Held;)V -/
theorem ft135 : ∀ (i : Nat) {q : Nat × XI}, cd135[i]? = some q → fetch 135 q.1 = some q.2 := ft_of (by decide +kernel)
theorem pr135 : pRt 135 = none := rfl
def f135 (v0 : Nat) (v1 : Nat) (v2 : Nat) (w : Wd) : Option Wd :=
  ob (putR (newC w 20 (Int32.toNatClampNeg (512 : Int32))) 2 v0 3 (wn w)) (fun w1 => ob (putR (newC w1 20 (Int32.toNatClampNeg (512 : Int32))) 2 v0 4 (wn w1)) (fun w3 => ob (putR (newC w3 20 (Int32.toNatClampNeg (512 : Int32))) 2 v0 5 (wn w3)) (fun w5 => ob (f70 (wn w5) (newC w5 8 (NF 8))) (fun p7 => ob (putR p7 2 v0 6 (wn w5)) (fun w9 => ob (putR w9 2 v0 0 v1) (fun w11 => ob (putR w11 2 v0 1 v2) (fun w13 => some w13)))))))
set_option maxRecDepth 10000 in
theorem r135 {S : Sc} (v0 : Nat) (v1 : Nat) (v2 : Nat) (w : Wd) (o : Wd) (h : f135 v0 v1 v2 w = some o) : Rn S 135 0 [some (.ref v0), some (.ref v1), some (.ref v2)] [] w (none, o) := by
  unfold f135 at h
  refine rn_aload_n (ft135 0 rfl) rfl ?_
  refine rn_objInit (ft135 1 rfl) (Nat.le_of_ble_eq_true rfl) ?_
  refine rn_aload_n (ft135 2 rfl) rfl ?_
  refine rn_sipush (v := (512 : Int32)) (ft135 3 rfl) (by decide) ?_
  refine rn_newA (kd := 20) (ft135 4 rfl) rfl (by decide) ?_
  obtain ⟨w1, q2, h⟩ := ob_some h
  refine rn_putR (ft135 5 rfl) q2 ?_
  refine rn_aload_n (ft135 6 rfl) rfl ?_
  refine rn_sipush (v := (512 : Int32)) (ft135 7 rfl) (by decide) ?_
  refine rn_newA (kd := 20) (ft135 8 rfl) rfl (by decide) ?_
  obtain ⟨w3, q4, h⟩ := ob_some h
  refine rn_putR (ft135 9 rfl) q4 ?_
  refine rn_aload_n (ft135 10 rfl) rfl ?_
  refine rn_sipush (v := (512 : Int32)) (ft135 11 rfl) (by decide) ?_
  refine rn_newA (kd := 20) (ft135 12 rfl) rfl (by decide) ?_
  obtain ⟨w5, q6, h⟩ := ob_some h
  refine rn_putR (ft135 13 rfl) q6 ?_
  refine rn_aload_n (ft135 14 rfl) rfl ?_
  refine rn_new (ft135 15 rfl) ?_
  refine rn_dup (ft135 16 rfl) rfl ?_
  obtain ⟨p7, q8, h⟩ := ob_some h
  refine rn_callI (as := []) (k0 := (wn w5)) (r := [.ref (wn w5), .ref v0]) (v := none) (w1 := p7) (ft135 17 rfl) (by decide +kernel) rfl (Nat.le_of_ble_eq_true rfl) (Nat.le_of_ble_eq_true rfl) (r70 (wn w5) (newC w5 8 (NF 8)) _ q8) ?_
  obtain ⟨w9, q10, h⟩ := ob_some h
  refine rn_putR (ft135 18 rfl) q10 ?_
  refine rn_aload_n (ft135 19 rfl) rfl ?_
  refine rn_aload_n (ft135 20 rfl) rfl ?_
  obtain ⟨w11, q12, h⟩ := ob_some h
  refine rn_putR (ft135 21 rfl) q12 ?_
  refine rn_aload_n (ft135 22 rfl) rfl ?_
  refine rn_aload_n (ft135 23 rfl) rfl ?_
  obtain ⟨w13, q14, h⟩ := ob_some h
  refine rn_putR (ft135 24 rfl) q14 ?_
  cases h
  exact rn_vret pr135 (ft135 25 rfl)
