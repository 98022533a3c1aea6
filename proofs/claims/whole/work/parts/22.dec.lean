/-! THE METHODS AS FUNCTIONS, 5 -/
/-- NineWheel$Journey.turnAt(I)I -/
theorem ft106 : ∀ (i : Nat) {q : Nat × XI}, cd106[i]? = some q → fetch 106 q.1 = some q.2 := ft_of (by decide +kernel)
theorem pr106 : pRt 106 = some .int := rfl
def f106 (v0 : Nat) (v1 : Int32) (w : Wd) : Option (Int32 × Wd) :=
  ob (f0 v1 (0 : Int32) (399 : Int32) w) (fun p1 => (if p1.1 = 0 then ob (getR p1.2 4 v0 6) (fun x3 => ob (aldI p1.2 x3 v1) (fun x5 => some (x5, p1.2)))
    else some ((0 : Int32), p1.2)))
set_option maxRecDepth 10000 in
theorem r106 {S : Sc} (v0 : Nat) (v1 : Int32) (w : Wd) (o : (Int32 × Wd)) (h : f106 v0 v1 w = some o) : Rn S 106 0 [some (.ref v0), some (.int v1)] [] w (some (.int o.1), o.2) := by
  unfold f106 at h
  refine rn_iload_n (ft106 0 rfl) rfl ?_
  refine rn_iconst (v := (0 : Int32)) (ft106 1 rfl) (by decide) ?_
  refine rn_sipush (v := (399 : Int32)) (ft106 2 rfl) (by decide) ?_
  obtain ⟨p1, q2, h⟩ := ob_some h
  refine rn_callS (as := [.int v1, .int (0 : Int32), .int (399 : Int32)]) (r := []) (v := (some (.int p1.1))) (w1 := p1.2) (ft106 3 rfl) (by decide +kernel) rfl (Nat.le_of_ble_eq_true rfl) (Nat.le_of_ble_eq_true rfl) (r0 v1 (0 : Int32) (399 : Int32) w _ q2) ?_
  by_cases c7 : p1.1 = 0
  · replace h := ifp c7 h
    refine rn_if_eq_t (ft106 4 rfl) c7 ?_
    refine rn_aload_n (ft106 7 rfl) rfl ?_
    obtain ⟨x3, q4, h⟩ := ob_some h
    refine rn_getR (ft106 8 rfl) q4 ?_
    refine rn_iload_n (ft106 9 rfl) rfl ?_
    obtain ⟨x5, q6, h⟩ := ob_some h
    refine rn_iaload (ft106 10 rfl) q6 ?_
    cases h
    exact rn_iretI pr106 (ft106 11 rfl)
  · replace h := ifn c7 h
    refine rn_if_eq_f (ft106 4 rfl) c7 ?_
    refine rn_iconst (v := (0 : Int32)) (ft106 5 rfl) (by decide) ?_
    refine rn_goto (ft106 6 rfl) ?_
    cases h
    exact rn_iretI pr106 (ft106 11 rfl)
/-- NineWheel$Held.turnAt(I)I -/
theorem ft107 : ∀ (i : Nat) {q : Nat × XI}, cd107[i]? = some q → fetch 107 q.1 = some q.2 := ft_of (by decide +kernel)
theorem pr107 : pRt 107 = some .int := rfl
def f107 (v0 : Nat) (v1 : Int32) (w : Wd) : Option (Int32 × Wd) :=
  ob (f0 v1 (0 : Int32) (39 : Int32) w) (fun p1 => (if p1.1 = 0 then ob (getR p1.2 3 v0 2) (fun x3 => ob (aldI p1.2 x3 v1) (fun x5 => some (x5, p1.2)))
    else some ((0 : Int32), p1.2)))
set_option maxRecDepth 10000 in
theorem r107 {S : Sc} (v0 : Nat) (v1 : Int32) (w : Wd) (o : (Int32 × Wd)) (h : f107 v0 v1 w = some o) : Rn S 107 0 [some (.ref v0), some (.int v1)] [] w (some (.int o.1), o.2) := by
  unfold f107 at h
  refine rn_iload_n (ft107 0 rfl) rfl ?_
  refine rn_iconst (v := (0 : Int32)) (ft107 1 rfl) (by decide) ?_
  refine rn_bipush (v := (39 : Int32)) (ft107 2 rfl) (by decide) ?_
  obtain ⟨p1, q2, h⟩ := ob_some h
  refine rn_callS (as := [.int v1, .int (0 : Int32), .int (39 : Int32)]) (r := []) (v := (some (.int p1.1))) (w1 := p1.2) (ft107 3 rfl) (by decide +kernel) rfl (Nat.le_of_ble_eq_true rfl) (Nat.le_of_ble_eq_true rfl) (r0 v1 (0 : Int32) (39 : Int32) w _ q2) ?_
  by_cases c7 : p1.1 = 0
  · replace h := ifp c7 h
    refine rn_if_eq_t (ft107 4 rfl) c7 ?_
    refine rn_aload_n (ft107 7 rfl) rfl ?_
    obtain ⟨x3, q4, h⟩ := ob_some h
    refine rn_getR (ft107 8 rfl) q4 ?_
    refine rn_iload_n (ft107 9 rfl) rfl ?_
    obtain ⟨x5, q6, h⟩ := ob_some h
    refine rn_iaload (ft107 10 rfl) q6 ?_
    cases h
    exact rn_iretI pr107 (ft107 11 rfl)
  · replace h := ifn c7 h
    refine rn_if_eq_f (ft107 4 rfl) c7 ?_
    refine rn_iconst (v := (0 : Int32)) (ft107 5 rfl) (by decide) ?_
    refine rn_goto (ft107 6 rfl) ?_
    cases h
    exact rn_iretI pr107 (ft107 11 rfl)
/-- NineWheel.noImage(I)Z -/
theorem ft108 : ∀ (i : Nat) {q : Nat × XI}, cd108[i]? = some q → fetch 108 q.1 = some q.2 := ft_of (by decide +kernel)
theorem pr108 : pRt 108 = some .boolean := rfl
def f108 (v0 : Nat) (v1 : Int32) (w : Wd) : Option (Int32 × Wd) :=
  ob (f0 v1 (0 : Int32) (1 : Int32) w) (fun p1 => (if ¬ p1.1 = 0 then some ((1 : Int32), p1.2)
    else ob (getR p1.2 10 v0 8) (fun x3 => ob (alen p1.2 x3) (fun x5 => (if v1 < x5 then some ((0 : Int32), p1.2)
      else some ((1 : Int32), p1.2))))))
set_option maxRecDepth 10000 in
theorem r108 {S : Sc} (v0 : Nat) (v1 : Int32) (w : Wd) (o : (Int32 × Wd)) (h : f108 v0 v1 w = some o) : Rn S 108 0 [some (.ref v0), some (.int v1)] [] w (some (.int o.1), o.2) := by
  unfold f108 at h
  refine rn_iload_n (ft108 0 rfl) rfl ?_
  refine rn_iconst (v := (0 : Int32)) (ft108 1 rfl) (by decide) ?_
  refine rn_iconst (v := (1 : Int32)) (ft108 2 rfl) (by decide) ?_
  obtain ⟨p1, q2, h⟩ := ob_some h
  refine rn_callS (as := [.int v1, .int (0 : Int32), .int (1 : Int32)]) (r := []) (v := (some (.int p1.1))) (w1 := p1.2) (ft108 3 rfl) (by decide +kernel) rfl (Nat.le_of_ble_eq_true rfl) (Nat.le_of_ble_eq_true rfl) (r0 v1 (0 : Int32) (1 : Int32) w _ q2) ?_
  by_cases c8 : ¬ p1.1 = 0
  · replace h := ifp c8 h
    refine rn_if_ne_t (ft108 4 rfl) c8 ?_
    refine rn_iconst (v := (1 : Int32)) (ft108 10 rfl) (by decide) ?_
    refine rn_goto (ft108 11 rfl) ?_
    cases h
    exact rn_iretZ pr108 (by decide) (ft108 13 rfl)
  · replace h := ifn c8 h
    refine rn_if_ne_f (ft108 4 rfl) c8 ?_
    refine rn_iload_n (ft108 5 rfl) rfl ?_
    refine rn_aload_n (ft108 6 rfl) rfl ?_
    obtain ⟨x3, q4, h⟩ := ob_some h
    refine rn_getR (ft108 7 rfl) q4 ?_
    obtain ⟨x5, q6, h⟩ := ob_some h
    refine rn_alen (ft108 8 rfl) q6 ?_
    by_cases c7 : v1 < x5
    · replace h := ifp c7 h
      refine rn_icmp_lt_t (ft108 9 rfl) c7 ?_
      refine rn_iconst (v := (0 : Int32)) (ft108 12 rfl) (by decide) ?_
      cases h
      exact rn_iretZ pr108 (by decide) (ft108 13 rfl)
    · replace h := ifn c7 h
      refine rn_icmp_lt_f (ft108 9 rfl) c7 ?_
      refine rn_iconst (v := (1 : Int32)) (ft108 10 rfl) (by decide) ?_
      refine rn_goto (ft108 11 rfl) ?_
      cases h
      exact rn_iretZ pr108 (by decide) (ft108 13 rfl)
/-- NineWheelModel.<init>()V -/
theorem ft109 : ∀ (i : Nat) {q : Nat × XI}, cd109[i]? = some q → fetch 109 q.1 = some q.2 := ft_of (by decide +kernel)
theorem pr109 : pRt 109 = none := rfl
def f109 (v0 : Nat) (w : Wd) : Option Wd :=
  ob (putI w 11 v0 1 (4 : Int32)) (fun w1 => ob (putR (newC w1 22 (Int32.toNatClampNeg (64 : Int32))) 11 v0 2 (wn w1)) (fun w3 => ob (putI w3 11 v0 3 (-1 : Int32)) (fun w5 => ob (putI w5 11 v0 4 (-1 : Int32)) (fun w7 => ob (putR (newC w7 20 (Int32.toNatClampNeg (6 : Int32))) 11 v0 7 (wn w7)) (fun w9 => ob (putR (newC w9 20 (Int32.toNatClampNeg (6 : Int32))) 11 v0 8 (wn w9)) (fun w11 => ob (putR (newC w11 20 (Int32.toNatClampNeg (384 : Int32))) 11 v0 9 (wn w11)) (fun w13 => ob (putR (newC w13 20 (Int32.toNatClampNeg (6 : Int32))) 11 v0 10 (wn w13)) (fun w15 => ob (putR (newC w15 20 (Int32.toNatClampNeg (6 : Int32))) 11 v0 11 (wn w15)) (fun w17 => ob (putR (newC w17 20 (Int32.toNatClampNeg (384 : Int32))) 11 v0 12 (wn w17)) (fun w19 => ob (putR (newC w19 20 (Int32.toNatClampNeg (6 : Int32))) 11 v0 13 (wn w19)) (fun w21 => ob (putR (newC w21 20 (Int32.toNatClampNeg (300 : Int32))) 11 v0 14 (wn w21)) (fun w23 => ob (putI w23 11 v0 16 (-1 : Int32)) (fun w25 => ob (putR (newC w25 22 (Int32.toNatClampNeg (64 : Int32))) 11 v0 24 (wn w25)) (fun w27 => ob (putR (newC w27 20 (Int32.toNatClampNeg (6 : Int32))) 11 v0 29 (wn w27)) (fun w29 => ob (putR (newC w29 20 (Int32.toNatClampNeg (6 : Int32))) 11 v0 30 (wn w29)) (fun w31 => ob (putR (newC w31 20 (Int32.toNatClampNeg (384 : Int32))) 11 v0 31 (wn w31)) (fun w33 => ob (putR (newC w33 22 (Int32.toNatClampNeg (64 : Int32))) 11 v0 32 (wn w33)) (fun w35 => ob (putR (newC w35 20 (Int32.toNatClampNeg (3072 : Int32))) 11 v0 35 (wn w35)) (fun w37 => ob (putR (newC w37 20 (Int32.toNatClampNeg (6 : Int32))) 11 v0 36 (wn w37)) (fun w39 => ob (putR (newC w39 20 (Int32.toNatClampNeg (20 : Int32))) 11 v0 38 (wn w39)) (fun w41 => ob (putR (newC w41 20 (Int32.toNatClampNeg (5 : Int32))) 11 v0 44 (wn w41)) (fun w43 => ob (putR (newC w43 20 (Int32.toNatClampNeg (401 : Int32))) 11 v0 48 (wn w43)) (fun w45 => ob (putR (newC w45 20 (Int32.toNatClampNeg (401 : Int32))) 11 v0 49 (wn w45)) (fun w47 => ob (putR (newC w47 20 (Int32.toNatClampNeg (401 : Int32))) 11 v0 50 (wn w47)) (fun w49 => ob (putR (newC w49 20 (Int32.toNatClampNeg (400 : Int32))) 11 v0 51 (wn w49)) (fun w51 => ob (putR (newC w51 20 (Int32.toNatClampNeg (40 : Int32))) 11 v0 57 (wn w51)) (fun w53 => ob (putR (newC w53 20 (Int32.toNatClampNeg (12800 : Int32))) 11 v0 58 (wn w53)) (fun w55 => ob (putR (newC w55 20 (Int32.toNatClampNeg (6 : Int32))) 11 v0 59 (wn w55)) (fun w57 => ob (putR (newC w57 20 (Int32.toNatClampNeg (120 : Int32))) 11 v0 61 (wn w57)) (fun w59 => ob (putR (newC w59 22 (Int32.toNatClampNeg (2 : Int32))) 11 v0 62 (wn w59)) (fun w61 => ob (putI w61 11 v0 6 (0 : Int32)) (fun w63 => some w63))))))))))))))))))))))))))))))))
set_option maxRecDepth 10000 in
theorem r109 {S : Sc} (v0 : Nat) (w : Wd) (o : Wd) (h : f109 v0 w = some o) : Rn S 109 0 [some (.ref v0)] [] w (none, o) := by
  unfold f109 at h
  refine rn_aload_n (ft109 0 rfl) rfl ?_
  refine rn_objInit (ft109 1 rfl) (Nat.le_of_ble_eq_true rfl) ?_
  refine rn_aload_n (ft109 2 rfl) rfl ?_
  refine rn_iconst (v := (4 : Int32)) (ft109 3 rfl) (by decide) ?_
  obtain ⟨w1, q2, h⟩ := ob_some h
  refine rn_putI (ft109 4 rfl) q2 ?_
  refine rn_aload_n (ft109 5 rfl) rfl ?_
  refine rn_bipush (v := (64 : Int32)) (ft109 6 rfl) (by decide) ?_
  refine rn_newA (kd := 22) (ft109 7 rfl) rfl (by decide) ?_
  obtain ⟨w3, q4, h⟩ := ob_some h
  refine rn_putR (ft109 8 rfl) q4 ?_
  refine rn_aload_n (ft109 9 rfl) rfl ?_
  refine rn_iconst (v := (-1 : Int32)) (ft109 10 rfl) (by decide) ?_
  obtain ⟨w5, q6, h⟩ := ob_some h
  refine rn_putI (ft109 11 rfl) q6 ?_
  refine rn_aload_n (ft109 12 rfl) rfl ?_
  refine rn_iconst (v := (-1 : Int32)) (ft109 13 rfl) (by decide) ?_
  obtain ⟨w7, q8, h⟩ := ob_some h
  refine rn_putI (ft109 14 rfl) q8 ?_
  refine rn_aload_n (ft109 15 rfl) rfl ?_
  refine rn_bipush (v := (6 : Int32)) (ft109 16 rfl) (by decide) ?_
  refine rn_newA (kd := 20) (ft109 17 rfl) rfl (by decide) ?_
  obtain ⟨w9, q10, h⟩ := ob_some h
  refine rn_putR (ft109 18 rfl) q10 ?_
  refine rn_aload_n (ft109 19 rfl) rfl ?_
  refine rn_bipush (v := (6 : Int32)) (ft109 20 rfl) (by decide) ?_
  refine rn_newA (kd := 20) (ft109 21 rfl) rfl (by decide) ?_
  obtain ⟨w11, q12, h⟩ := ob_some h
  refine rn_putR (ft109 22 rfl) q12 ?_
  refine rn_aload_n (ft109 23 rfl) rfl ?_
  refine rn_sipush (v := (384 : Int32)) (ft109 24 rfl) (by decide) ?_
  refine rn_newA (kd := 20) (ft109 25 rfl) rfl (by decide) ?_
  obtain ⟨w13, q14, h⟩ := ob_some h
  refine rn_putR (ft109 26 rfl) q14 ?_
  refine rn_aload_n (ft109 27 rfl) rfl ?_
  refine rn_bipush (v := (6 : Int32)) (ft109 28 rfl) (by decide) ?_
  refine rn_newA (kd := 20) (ft109 29 rfl) rfl (by decide) ?_
  obtain ⟨w15, q16, h⟩ := ob_some h
  refine rn_putR (ft109 30 rfl) q16 ?_
  refine rn_aload_n (ft109 31 rfl) rfl ?_
  refine rn_bipush (v := (6 : Int32)) (ft109 32 rfl) (by decide) ?_
  refine rn_newA (kd := 20) (ft109 33 rfl) rfl (by decide) ?_
  obtain ⟨w17, q18, h⟩ := ob_some h
  refine rn_putR (ft109 34 rfl) q18 ?_
  refine rn_aload_n (ft109 35 rfl) rfl ?_
  refine rn_sipush (v := (384 : Int32)) (ft109 36 rfl) (by decide) ?_
  refine rn_newA (kd := 20) (ft109 37 rfl) rfl (by decide) ?_
  obtain ⟨w19, q20, h⟩ := ob_some h
  refine rn_putR (ft109 38 rfl) q20 ?_
  refine rn_aload_n (ft109 39 rfl) rfl ?_
  refine rn_bipush (v := (6 : Int32)) (ft109 40 rfl) (by decide) ?_
  refine rn_newA (kd := 20) (ft109 41 rfl) rfl (by decide) ?_
  obtain ⟨w21, q22, h⟩ := ob_some h
  refine rn_putR (ft109 42 rfl) q22 ?_
  refine rn_aload_n (ft109 43 rfl) rfl ?_
  refine rn_sipush (v := (300 : Int32)) (ft109 44 rfl) (by decide) ?_
  refine rn_newA (kd := 20) (ft109 45 rfl) rfl (by decide) ?_
  obtain ⟨w23, q24, h⟩ := ob_some h
  refine rn_putR (ft109 46 rfl) q24 ?_
  refine rn_aload_n (ft109 47 rfl) rfl ?_
  refine rn_iconst (v := (-1 : Int32)) (ft109 48 rfl) (by decide) ?_
  obtain ⟨w25, q26, h⟩ := ob_some h
  refine rn_putI (ft109 49 rfl) q26 ?_
  refine rn_aload_n (ft109 50 rfl) rfl ?_
  refine rn_bipush (v := (64 : Int32)) (ft109 51 rfl) (by decide) ?_
  refine rn_newA (kd := 22) (ft109 52 rfl) rfl (by decide) ?_
  obtain ⟨w27, q28, h⟩ := ob_some h
  refine rn_putR (ft109 53 rfl) q28 ?_
  refine rn_aload_n (ft109 54 rfl) rfl ?_
  refine rn_bipush (v := (6 : Int32)) (ft109 55 rfl) (by decide) ?_
  refine rn_newA (kd := 20) (ft109 56 rfl) rfl (by decide) ?_
  obtain ⟨w29, q30, h⟩ := ob_some h
  refine rn_putR (ft109 57 rfl) q30 ?_
  refine rn_aload_n (ft109 58 rfl) rfl ?_
  refine rn_bipush (v := (6 : Int32)) (ft109 59 rfl) (by decide) ?_
  refine rn_newA (kd := 20) (ft109 60 rfl) rfl (by decide) ?_
  obtain ⟨w31, q32, h⟩ := ob_some h
  refine rn_putR (ft109 61 rfl) q32 ?_
  refine rn_aload_n (ft109 62 rfl) rfl ?_
  refine rn_sipush (v := (384 : Int32)) (ft109 63 rfl) (by decide) ?_
  refine rn_newA (kd := 20) (ft109 64 rfl) rfl (by decide) ?_
  obtain ⟨w33, q34, h⟩ := ob_some h
  refine rn_putR (ft109 65 rfl) q34 ?_
  refine rn_aload_n (ft109 66 rfl) rfl ?_
  refine rn_bipush (v := (64 : Int32)) (ft109 67 rfl) (by decide) ?_
  refine rn_newA (kd := 22) (ft109 68 rfl) rfl (by decide) ?_
  obtain ⟨w35, q36, h⟩ := ob_some h
  refine rn_putR (ft109 69 rfl) q36 ?_
  refine rn_aload_n (ft109 70 rfl) rfl ?_
  refine rn_sipush (v := (3072 : Int32)) (ft109 71 rfl) (by decide) ?_
  refine rn_newA (kd := 20) (ft109 72 rfl) rfl (by decide) ?_
  obtain ⟨w37, q38, h⟩ := ob_some h
  refine rn_putR (ft109 73 rfl) q38 ?_
  refine rn_aload_n (ft109 74 rfl) rfl ?_
  refine rn_bipush (v := (6 : Int32)) (ft109 75 rfl) (by decide) ?_
  refine rn_newA (kd := 20) (ft109 76 rfl) rfl (by decide) ?_
  obtain ⟨w39, q40, h⟩ := ob_some h
  refine rn_putR (ft109 77 rfl) q40 ?_
  refine rn_aload_n (ft109 78 rfl) rfl ?_
  refine rn_bipush (v := (20 : Int32)) (ft109 79 rfl) (by decide) ?_
  refine rn_newA (kd := 20) (ft109 80 rfl) rfl (by decide) ?_
  obtain ⟨w41, q42, h⟩ := ob_some h
  refine rn_putR (ft109 81 rfl) q42 ?_
  refine rn_aload_n (ft109 82 rfl) rfl ?_
  refine rn_iconst (v := (5 : Int32)) (ft109 83 rfl) (by decide) ?_
  refine rn_newA (kd := 20) (ft109 84 rfl) rfl (by decide) ?_
  obtain ⟨w43, q44, h⟩ := ob_some h
  refine rn_putR (ft109 85 rfl) q44 ?_
  refine rn_aload_n (ft109 86 rfl) rfl ?_
  refine rn_sipush (v := (401 : Int32)) (ft109 87 rfl) (by decide) ?_
  refine rn_newA (kd := 20) (ft109 88 rfl) rfl (by decide) ?_
  obtain ⟨w45, q46, h⟩ := ob_some h
  refine rn_putR (ft109 89 rfl) q46 ?_
  refine rn_aload_n (ft109 90 rfl) rfl ?_
  refine rn_sipush (v := (401 : Int32)) (ft109 91 rfl) (by decide) ?_
  refine rn_newA (kd := 20) (ft109 92 rfl) rfl (by decide) ?_
  obtain ⟨w47, q48, h⟩ := ob_some h
  refine rn_putR (ft109 93 rfl) q48 ?_
  refine rn_aload_n (ft109 94 rfl) rfl ?_
  refine rn_sipush (v := (401 : Int32)) (ft109 95 rfl) (by decide) ?_
  refine rn_newA (kd := 20) (ft109 96 rfl) rfl (by decide) ?_
  obtain ⟨w49, q50, h⟩ := ob_some h
  refine rn_putR (ft109 97 rfl) q50 ?_
  refine rn_aload_n (ft109 98 rfl) rfl ?_
  refine rn_sipush (v := (400 : Int32)) (ft109 99 rfl) (by decide) ?_
  refine rn_newA (kd := 20) (ft109 100 rfl) rfl (by decide) ?_
  obtain ⟨w51, q52, h⟩ := ob_some h
  refine rn_putR (ft109 101 rfl) q52 ?_
  refine rn_aload_n (ft109 102 rfl) rfl ?_
  refine rn_bipush (v := (40 : Int32)) (ft109 103 rfl) (by decide) ?_
  refine rn_newA (kd := 20) (ft109 104 rfl) rfl (by decide) ?_
  obtain ⟨w53, q54, h⟩ := ob_some h
  refine rn_putR (ft109 105 rfl) q54 ?_
  refine rn_aload_n (ft109 106 rfl) rfl ?_
  refine rn_sipush (v := (12800 : Int32)) (ft109 107 rfl) (by decide) ?_
  refine rn_newA (kd := 20) (ft109 108 rfl) rfl (by decide) ?_
  obtain ⟨w55, q56, h⟩ := ob_some h
  refine rn_putR (ft109 109 rfl) q56 ?_
  refine rn_aload_n (ft109 110 rfl) rfl ?_
  refine rn_bipush (v := (6 : Int32)) (ft109 111 rfl) (by decide) ?_
  refine rn_newA (kd := 20) (ft109 112 rfl) rfl (by decide) ?_
  obtain ⟨w57, q58, h⟩ := ob_some h
  refine rn_putR (ft109 113 rfl) q58 ?_
  refine rn_aload_n (ft109 114 rfl) rfl ?_
  refine rn_bipush (v := (120 : Int32)) (ft109 115 rfl) (by decide) ?_
  refine rn_newA (kd := 20) (ft109 116 rfl) rfl (by decide) ?_
  obtain ⟨w59, q60, h⟩ := ob_some h
  refine rn_putR (ft109 117 rfl) q60 ?_
  refine rn_aload_n (ft109 118 rfl) rfl ?_
  refine rn_iconst (v := (2 : Int32)) (ft109 119 rfl) (by decide) ?_
  refine rn_newA (kd := 22) (ft109 120 rfl) rfl (by decide) ?_
  obtain ⟨w61, q62, h⟩ := ob_some h
  refine rn_putR (ft109 121 rfl) q62 ?_
  refine rn_aload_n (ft109 122 rfl) rfl ?_
  refine rn_iconst (v := (0 : Int32)) (ft109 123 rfl) (by decide) ?_
  obtain ⟨w63, q64, h⟩ := ob_some h
  refine rn_putI (ft109 124 rfl) q64 ?_
  cases h
  exact rn_vret pr109 (ft109 125 rfl)
/-- NineWheelModel.feed(IJ)I -/
theorem ft110 : ∀ (i : Nat) {q : Nat × XI}, cd110[i]? = some q → fetch 110 q.1 = some q.2 := ft_of (by decide +kernel)
theorem pr110 : pRt 110 = some .int := rfl
def f110_H35 (n : Nat)  (K20 : Nat → Wd → Option (Int32 × Wd)) : Nat → Nat → Int64 → Int32 → Wd → Option (Int32 × Wd)
  | 0, _, _, _, _ => none
  | k + 1, v0, v2, v4, w =>
    (if v4 < 0 then K20 v0 w
      else ob (getR w 11 v0 14) (fun x5 => ob (getI w 11 v0 15) (fun x7 => ob (astI w x5 x7 (Int64.toInt32 ((v2 >>> (Int32.toInt64 ((8 : Int32) * v4) &&& 63)) &&& (255 : Int64)))) (fun w9 => ob (getI w9 11 v0 15) (fun x11 => ob (putI w9 11 v0 15 (x11 + (1 : Int32))) (fun w13 => (fun (v0 : Nat) (v2 : Int64) (v4 : Int32) w => f110_H35 n  K20 k v0 v2 v4 w) v0 v2 (v4 + (-1 : Int32)) w13))))))
set_option maxRecDepth 10000 in
theorem rf110_H35 {S : Sc} (n : Nat)  (K20 : Nat → Wd → Option (Int32 × Wd))  (hK20 : ∀ (y0 : Nat) (w : Wd) (o : (Int32 × Wd)), K20 y0 w = some o → Rn S 110 77 [some (.ref y0), none, none, none, none] [] w (some (.int o.1), o.2)) : ∀ (k : Nat) (v0 : Nat) (v2 : Int64) (v4 : Int32) (w : Wd) (o : (Int32 × Wd)), f110_H35 n  K20 k v0 v2 v4 w = some o → Rn S 110 35 [some (.ref v0), none, some (.long v2), none, some (.int v4)] [] w (some (.int o.1), o.2) := by
  intro k
  induction k with
  | zero =>
    intro v0 v2 v4 w o h
    exact nomatch h
  | succ k ih =>
    intro v0 v2 v4 w o h
    have hrec20 : ∀ (y0 : Nat) (y2 : Int64) (y4 : Int32) (w : Wd) (o : (Int32 × Wd)), (fun (v0 : Nat) (v2 : Int64) (v4 : Int32) w => f110_H35 n  K20 k v0 v2 v4 w) y0 y2 y4 w = some o → Rn S 110 35 [some (.ref y0), none, some (.long y2), none, some (.int y4)] [] w (some (.int o.1), o.2) := fun y0 y2 y4 w o h => ih y0 y2 y4 w o h
    unfold f110_H35 at h
    refine rn_iload (ft110 20 rfl) rfl ?_
    by_cases c15 : v4 < 0
    · replace h := ifp c15 h
      refine rn_if_lt_t (ft110 21 rfl) c15 ?_
      exact rn_forget (ls := [some (.ref v0), none, none, none, none]) (And.intro rfl trivial) (hK20 v0 w _ h)
    · replace h := ifn c15 h
      refine rn_if_lt_f (ft110 21 rfl) c15 ?_
      refine rn_aload_n (ft110 22 rfl) rfl ?_
      obtain ⟨x5, q6, h⟩ := ob_some h
      refine rn_getR (ft110 23 rfl) q6 ?_
      refine rn_aload_n (ft110 24 rfl) rfl ?_
      obtain ⟨x7, q8, h⟩ := ob_some h
      refine rn_getI (ft110 25 rfl) (by decide) (by decide) q8 ?_
      refine rn_lload_n (ft110 26 rfl) rfl ?_
      refine rn_bipush (v := (8 : Int32)) (ft110 27 rfl) (by decide) ?_
      refine rn_iload (ft110 28 rfl) rfl ?_
      refine rn_imul (ft110 29 rfl) ?_
      refine rn_lshr (ft110 30 rfl) ?_
      refine rn_ldc2 (v := (255 : Int64)) (ft110 31 rfl) (by decide) ?_
      refine rn_land (ft110 32 rfl) ?_
      refine rn_l2i (ft110 33 rfl) ?_
      obtain ⟨w9, q10, h⟩ := ob_some h
      refine rn_iastore (ft110 34 rfl) q10 ?_
      refine rn_aload_n (ft110 35 rfl) rfl ?_
      refine rn_dup (ft110 36 rfl) rfl ?_
      obtain ⟨x11, q12, h⟩ := ob_some h
      refine rn_getI (ft110 37 rfl) (by decide) (by decide) q12 ?_
      refine rn_iconst (v := (1 : Int32)) (ft110 38 rfl) (by decide) ?_
      refine rn_iadd (ft110 39 rfl) ?_
      obtain ⟨w13, q14, h⟩ := ob_some h
      refine rn_putI (ft110 40 rfl) q14 ?_
      refine rn_iinc (u := (-1)) (ls' := [some (.ref v0), none, some (.long v2), none, some (.int (v4 + (-1 : Int32)))]) (ft110 41 rfl) rfl (by decide) rfl ?_
      refine rn_goto (ft110 42 rfl) ?_
      exact rn_forget (ls := [some (.ref v0), none, some (.long v2), none, some (.int (v4 + (-1 : Int32)))]) (And.intro rfl (And.intro rfl (And.intro rfl trivial))) (hrec20 v0 v2 (v4 + (-1 : Int32)) w13 _ h)
def f110 (n : Nat) (v0 : Nat) (v1 : Int32) (v2 : Int64) (w : Wd) : Option (Int32 × Wd) :=
  ob (f40 (Int32.toInt64 v1) (1 : Int64) (8 : Int64) w) (fun p1 => (if ¬ p1.1 = 0 then ob (getI p1.2 11 v0 15) (fun x3 => (if (x3 + v1) ≤ (300 : Int32) then f110_H35 n  (fun (e0_16 : Nat) (w16 : Wd) => ob (getI w16 11 e0_16 15) (fun x17 => some (x17, w16))) n v0 v2 (v1 - (1 : Int32)) p1.2
      else some ((-1000004 : Int32), p1.2)))
    else some ((-1000002 : Int32), p1.2)))
set_option maxRecDepth 10000 in
theorem r110 {S : Sc} (n : Nat) (v0 : Nat) (v1 : Int32) (v2 : Int64) (w : Wd) (o : (Int32 × Wd)) (h : f110 n v0 v1 v2 w = some o) : Rn S 110 0 [some (.ref v0), some (.int v1), some (.long v2), none, none] [] w (some (.int o.1), o.2) := by
  unfold f110 at h
  refine rn_iload_n (ft110 0 rfl) rfl ?_
  refine rn_i2l (ft110 1 rfl) ?_
  refine rn_lconst (v := (1 : Int64)) (ft110 2 rfl) (by decide) ?_
  refine rn_ldc2 (v := (8 : Int64)) (ft110 3 rfl) (by decide) ?_
  obtain ⟨p1, q2, h⟩ := ob_some h
  refine rn_callS (as := [.long (Int32.toInt64 v1), .long (1 : Int64), .long (8 : Int64)]) (r := []) (v := (some (.int p1.1))) (w1 := p1.2) (ft110 4 rfl) (by decide +kernel) rfl (Nat.le_of_ble_eq_true rfl) (Nat.le_of_ble_eq_true rfl) (r40 (Int32.toInt64 v1) (1 : Int64) (8 : Int64) w _ q2) ?_
  by_cases c20 : ¬ p1.1 = 0
  · replace h := ifp c20 h
    refine rn_if_ne_t (ft110 5 rfl) c20 ?_
    refine rn_aload_n (ft110 8 rfl) rfl ?_
    obtain ⟨x3, q4, h⟩ := ob_some h
    refine rn_getI (ft110 9 rfl) (by decide) (by decide) q4 ?_
    refine rn_iload_n (ft110 10 rfl) rfl ?_
    refine rn_iadd (ft110 11 rfl) ?_
    refine rn_sipush (v := (300 : Int32)) (ft110 12 rfl) (by decide) ?_
    by_cases c19 : (x3 + v1) ≤ (300 : Int32)
    · replace h := ifp c19 h
      refine rn_icmp_le_t (ft110 13 rfl) c19 ?_
      refine rn_iload_n (ft110 16 rfl) rfl ?_
      refine rn_iconst (v := (1 : Int32)) (ft110 17 rfl) (by decide) ?_
      refine rn_isub (ft110 18 rfl) ?_
      refine rn_istore (ls' := [some (.ref v0), some (.int v1), some (.long v2), none, some (.int (v1 - (1 : Int32)))]) (ft110 19 rfl) rfl ?_
      refine rn_forget (ls := [some (.ref v0), none, some (.long v2), none, some (.int (v1 - (1 : Int32)))]) (And.intro rfl (And.intro rfl (And.intro rfl trivial))) (rf110_H35 n  _  (fun e0_16 w16 o h => ?_) n v0 v2 (v1 - (1 : Int32)) p1.2 _ h)
      refine rn_aload_n (ft110 43 rfl) rfl ?_
      obtain ⟨x17, q18, h⟩ := ob_some h
      refine rn_getI (ft110 44 rfl) (by decide) (by decide) q18 ?_
      cases h
      exact rn_iretI pr110 (ft110 45 rfl)
    · replace h := ifn c19 h
      refine rn_icmp_le_f (ft110 13 rfl) c19 ?_
      refine rn_ldc (v := (-1000004 : Int32)) (ft110 14 rfl) (by decide) rfl ?_
      cases h
      exact rn_iretI pr110 (ft110 15 rfl)
  · replace h := ifn c20 h
    refine rn_if_ne_f (ft110 5 rfl) c20 ?_
    refine rn_ldc (v := (-1000002 : Int32)) (ft110 6 rfl) (by decide) rfl ?_
    cases h
    exact rn_iretI pr110 (ft110 7 rfl)
/-- NineWheelModel.readWord()V -/
theorem ft111 : ∀ (i : Nat) {q : Nat × XI}, cd111[i]? = some q → fetch 111 q.1 = some q.2 := ft_of (by decide +kernel)
theorem pr111 : pRt 111 = none := rfl
def f111_J92 (n : Nat) (rec10 : Nat → Wd → Option Wd) (K10 : Wd → Option Wd) (v0 : Nat) (s0 : Nat) (s1 : Int64) (w : Wd) : Option Wd :=
  ob (putL w 11 s0 18 s1) (fun w31 => ob (getI w31 11 v0 19) (fun x33 => ob (putI w31 11 v0 19 (x33 + (1 : Int32))) (fun w35 => rec10 v0 w35)))
set_option maxRecDepth 10000 in
theorem rf111_J92 {S : Sc} (n : Nat) (rec10 : Nat → Wd → Option Wd) (K10 : Wd → Option Wd) (v0 : Nat) (s0 : Nat) (s1 : Int64) (w : Wd) (o : Wd) (hrec10 : ∀ (y0 : Nat) (w : Wd) (o : Wd), rec10 y0 w = some o → Rn S 111 18 [some (.ref y0), none] [] w (none, o)) (hK10 : ∀  (w : Wd) (o : Wd), K10 w = some o → Rn S 111 108 [none, none] [] w (none, o)) (h : f111_J92 n rec10 K10 v0 s0 s1 w = some o) : Rn S 111 92 [some (.ref v0), none] [.long s1, .ref s0] w (none, o) := by
  unfold f111_J92 at h
  obtain ⟨w31, q32, h⟩ := ob_some h
  refine rn_putL (ft111 46 rfl) q32 ?_
  refine rn_aload_n (ft111 47 rfl) rfl ?_
  refine rn_dup (ft111 48 rfl) rfl ?_
  obtain ⟨x33, q34, h⟩ := ob_some h
  refine rn_getI (ft111 49 rfl) (by decide) (by decide) q34 ?_
  refine rn_iconst (v := (1 : Int32)) (ft111 50 rfl) (by decide) ?_
  refine rn_iadd (ft111 51 rfl) ?_
  obtain ⟨w35, q36, h⟩ := ob_some h
  refine rn_putI (ft111 52 rfl) q36 ?_
  refine rn_goto (ft111 53 rfl) ?_
  exact rn_forget (ls := [some (.ref v0), none]) (And.intro rfl trivial) (hrec10 v0 w35 _ h)
def f111_H18 (n : Nat)  (K10 : Wd → Option Wd) : Nat → Nat → Wd → Option Wd
  | 0, _, _ => none
  | k + 1, v0, w =>
    ob (getI w 11 v0 19) (fun x9 => ob (getI w 11 v0 15) (fun x11 => (if x11 ≤ x9 then K10 w
      else ob (getR w 11 v0 14) (fun x13 => ob (getI w 11 v0 19) (fun x15 => ob (aldI w x13 x15) (fun x17 => ob (f40 (Int32.toInt64 x17) (97 : Int64) (122 : Int64) w) (fun p19 => (if p19.1 = 0 then K10 p19.2
        else ob (getL p19.2 11 v0 18) (fun x21 => (if (lg_cmp x21 (1000000000000 : Int64)) ≤ 0 then ob (getL p19.2 11 v0 18) (fun x23 => ob (getR p19.2 11 v0 14) (fun x25 => ob (getI p19.2 11 v0 19) (fun x27 => ob (aldI p19.2 x25 x27) (fun x29 => f111_J92 n (fun (v0 : Nat) w => f111_H18 n  K10 k v0 w) K10 v0 v0 ((((27 : Int64) * x23) + (Int32.toInt64 x29)) - (96 : Int64)) p19.2))))
          else f111_J92 n (fun (v0 : Nat) w => f111_H18 n  K10 k v0 w) K10 v0 v0 (2000000000000 : Int64) p19.2))))))))))
set_option maxRecDepth 10000 in
theorem rf111_H18 {S : Sc} (n : Nat)  (K10 : Wd → Option Wd)  (hK10 : ∀  (w : Wd) (o : Wd), K10 w = some o → Rn S 111 108 [none, none] [] w (none, o)) : ∀ (k : Nat) (v0 : Nat) (w : Wd) (o : Wd), f111_H18 n  K10 k v0 w = some o → Rn S 111 18 [some (.ref v0), none] [] w (none, o) := by
  intro k
  induction k with
  | zero =>
    intro v0 w o h
    exact nomatch h
  | succ k ih =>
    intro v0 w o h
    have hrec10 : ∀ (y0 : Nat) (w : Wd) (o : Wd), (fun (v0 : Nat) w => f111_H18 n  K10 k v0 w) y0 w = some o → Rn S 111 18 [some (.ref y0), none] [] w (none, o) := fun y0 w o h => ih y0 w o h
    unfold f111_H18 at h
    refine rn_aload_n (ft111 10 rfl) rfl ?_
    obtain ⟨x9, q10, h⟩ := ob_some h
    refine rn_getI (ft111 11 rfl) (by decide) (by decide) q10 ?_
    refine rn_aload_n (ft111 12 rfl) rfl ?_
    obtain ⟨x11, q12, h⟩ := ob_some h
    refine rn_getI (ft111 13 rfl) (by decide) (by decide) q12 ?_
    by_cases c39 : x11 ≤ x9
    · replace h := ifp c39 h
      refine rn_icmp_ge_t (ft111 14 rfl) c39 ?_
      exact rn_forget (ls := [none, none]) trivial (hK10 w _ h)
    · replace h := ifn c39 h
      refine rn_icmp_ge_f (ft111 14 rfl) c39 ?_
      refine rn_aload_n (ft111 15 rfl) rfl ?_
      obtain ⟨x13, q14, h⟩ := ob_some h
      refine rn_getR (ft111 16 rfl) q14 ?_
      refine rn_aload_n (ft111 17 rfl) rfl ?_
      obtain ⟨x15, q16, h⟩ := ob_some h
      refine rn_getI (ft111 18 rfl) (by decide) (by decide) q16 ?_
      obtain ⟨x17, q18, h⟩ := ob_some h
      refine rn_iaload (ft111 19 rfl) q18 ?_
      refine rn_i2l (ft111 20 rfl) ?_
      refine rn_ldc2 (v := (97 : Int64)) (ft111 21 rfl) (by decide) ?_
      refine rn_ldc2 (v := (122 : Int64)) (ft111 22 rfl) (by decide) ?_
      obtain ⟨p19, q20, h⟩ := ob_some h
      refine rn_callS (as := [.long (Int32.toInt64 x17), .long (97 : Int64), .long (122 : Int64)]) (r := []) (v := (some (.int p19.1))) (w1 := p19.2) (ft111 23 rfl) (by decide +kernel) rfl (Nat.le_of_ble_eq_true rfl) (Nat.le_of_ble_eq_true rfl) (r40 (Int32.toInt64 x17) (97 : Int64) (122 : Int64) w _ q20) ?_
      by_cases c38 : p19.1 = 0
      · replace h := ifp c38 h
        refine rn_if_eq_t (ft111 24 rfl) c38 ?_
        exact rn_forget (ls := [none, none]) trivial (hK10 p19.2 _ h)
      · replace h := ifn c38 h
        refine rn_if_eq_f (ft111 24 rfl) c38 ?_
        refine rn_aload_n (ft111 25 rfl) rfl ?_
        refine rn_aload_n (ft111 26 rfl) rfl ?_
        obtain ⟨x21, q22, h⟩ := ob_some h
        refine rn_getL (ft111 27 rfl) q22 ?_
        refine rn_ldc2 (v := (1000000000000 : Int64)) (ft111 28 rfl) (by decide) ?_
        refine rn_lcmp (ft111 29 rfl) ?_
        by_cases c37 : (lg_cmp x21 (1000000000000 : Int64)) ≤ 0
        · replace h := ifp c37 h
          refine rn_if_le_t (ft111 30 rfl) c37 ?_
          refine rn_ldc2 (v := (27 : Int64)) (ft111 33 rfl) (by decide) ?_
          refine rn_aload_n (ft111 34 rfl) rfl ?_
          obtain ⟨x23, q24, h⟩ := ob_some h
          refine rn_getL (ft111 35 rfl) q24 ?_
          refine rn_lmul (ft111 36 rfl) ?_
          refine rn_aload_n (ft111 37 rfl) rfl ?_
          obtain ⟨x25, q26, h⟩ := ob_some h
          refine rn_getR (ft111 38 rfl) q26 ?_
          refine rn_aload_n (ft111 39 rfl) rfl ?_
          obtain ⟨x27, q28, h⟩ := ob_some h
          refine rn_getI (ft111 40 rfl) (by decide) (by decide) q28 ?_
          obtain ⟨x29, q30, h⟩ := ob_some h
          refine rn_iaload (ft111 41 rfl) q30 ?_
          refine rn_i2l (ft111 42 rfl) ?_
          refine rn_ladd (ft111 43 rfl) ?_
          refine rn_ldc2 (v := (96 : Int64)) (ft111 44 rfl) (by decide) ?_
          refine rn_lsub (ft111 45 rfl) ?_
          exact rn_forget (ls := [some (.ref v0), none]) (And.intro rfl trivial) (rf111_J92 n (fun (v0 : Nat) w => f111_H18 n  K10 k v0 w) K10 v0 v0 ((((27 : Int64) * x23) + (Int32.toInt64 x29)) - (96 : Int64)) p19.2 _ hrec10 hK10 h)
        · replace h := ifn c37 h
          refine rn_if_le_f (ft111 30 rfl) c37 ?_
          refine rn_ldc2 (v := (2000000000000 : Int64)) (ft111 31 rfl) (by decide) ?_
          refine rn_goto (ft111 32 rfl) ?_
          exact rn_forget (ls := [some (.ref v0), none]) (And.intro rfl trivial) (rf111_J92 n (fun (v0 : Nat) w => f111_H18 n  K10 k v0 w) K10 v0 v0 (2000000000000 : Int64) p19.2 _ hrec10 hK10 h)
def f111 (n : Nat) (v0 : Nat) (w : Wd) : Option Wd :=
  (if (wsh w v0).map (fun q => q.1) = some 11 then ob (f42 n v0 w) (fun p1 => ob (putL p1.2 11 v0 18 (0 : Int64)) (fun w3 => ob (getI w3 11 v0 17) (fun x5 => ob (putI w3 11 v0 19 x5) (fun w7 => f111_H18 n  (fun  (w40 : Wd) => some w40) n v0 w7)))) else none)
set_option maxRecDepth 10000 in
theorem r111 {S : Sc} (n : Nat) (v0 : Nat) (w : Wd) (o : Wd) (h : f111 n v0 w = some o) : Rn S 111 0 [some (.ref v0), none] [] w (none, o) := by
  unfold f111 at h
  refine rn_aload_n (ft111 0 rfl) rfl ?_
  obtain ⟨g41, h⟩ := ifg h
  obtain ⟨p1, q2, h⟩ := ob_some h
  refine rn_callV (as := []) (k0 := v0) (r := []) (v := (some (.int p1.1))) (w1 := p1.2) (ft111 1 rfl) (by decide +kernel) rfl (Nat.le_of_ble_eq_true rfl) (Nat.le_of_ble_eq_true rfl) (r42 n v0 w _ q2) (by decide +kernel) g41 ?_
  refine rn_istore_n (ls' := [some (.ref v0), some (.int p1.1)]) (ft111 2 rfl) rfl ?_
  refine rn_aload_n (ft111 3 rfl) rfl ?_
  refine rn_lconst (v := (0 : Int64)) (ft111 4 rfl) (by decide) ?_
  obtain ⟨w3, q4, h⟩ := ob_some h
  refine rn_putL (ft111 5 rfl) q4 ?_
  refine rn_aload_n (ft111 6 rfl) rfl ?_
  refine rn_aload_n (ft111 7 rfl) rfl ?_
  obtain ⟨x5, q6, h⟩ := ob_some h
  refine rn_getI (ft111 8 rfl) (by decide) (by decide) q6 ?_
  obtain ⟨w7, q8, h⟩ := ob_some h
  refine rn_putI (ft111 9 rfl) q8 ?_
  refine rn_forget (ls := [some (.ref v0), none]) (And.intro rfl trivial) (rf111_H18 n  _  (fun  w40 o h => ?_) n v0 w7 _ h)
  cases h
  exact rn_vret pr111 (ft111 54 rfl)
/-- NineWheelModel.clauseOf()I -/
theorem ft112 : ∀ (i : Nat) {q : Nat × XI}, cd112[i]? = some q → fetch 112 q.1 = some q.2 := ft_of (by decide +kernel)
theorem pr112 : pRt 112 = some .int := rfl
def f112_J84  (v0 : Nat) (v1 : Int64) (s0 : Int32) (w : Wd) : Option (Int32 × Wd) :=
  (if s0 < 0 then ob (getL w 11 v0 18) (fun x17 => (if ¬ (lg_cmp x17 v1) = 0 then ob (getL w 11 v0 18) (fun x19 => ob (f43 (115 : Int32) (111 : Int32) (114 : Int32) (116 : Int32) w) (fun p21 => (if ¬ (lg_cmp x19 p21.1) = 0 then some ((-1 : Int32), p21.2)
        else some ((4 : Int32), p21.2))))
      else some ((3 : Int32), w)))
    else some (s0, w))
set_option maxRecDepth 10000 in
theorem rf112_J84 {S : Sc}  (v0 : Nat) (v1 : Int64) (s0 : Int32) (w : Wd) (o : (Int32 × Wd))  (h : f112_J84  v0 v1 s0 w = some o) : Rn S 112 84 [some (.ref v0), some (.long v1), none, none] [.int s0] w (some (.int o.1), o.2) := by
  unfold f112_J84 at h
  refine rn_istore_n (ls' := [some (.ref v0), some (.long v1), none, some (.int s0)]) (ft112 40 rfl) rfl ?_
  refine rn_iload_n (ft112 41 rfl) rfl ?_
  by_cases c25 : s0 < 0
  · replace h := ifp c25 h
    refine rn_if_lt_t (ft112 42 rfl) c25 ?_
    refine rn_aload_n (ft112 45 rfl) rfl ?_
    obtain ⟨x17, q18, h⟩ := ob_some h
    refine rn_getL (ft112 46 rfl) q18 ?_
    refine rn_lload_n (ft112 47 rfl) rfl ?_
    refine rn_lcmp (ft112 48 rfl) ?_
    by_cases c24 : ¬ (lg_cmp x17 v1) = 0
    · replace h := ifp c24 h
      refine rn_if_ne_t (ft112 49 rfl) c24 ?_
      refine rn_aload_n (ft112 52 rfl) rfl ?_
      obtain ⟨x19, q20, h⟩ := ob_some h
      refine rn_getL (ft112 53 rfl) q20 ?_
      refine rn_bipush (v := (115 : Int32)) (ft112 54 rfl) (by decide) ?_
      refine rn_bipush (v := (111 : Int32)) (ft112 55 rfl) (by decide) ?_
      refine rn_bipush (v := (114 : Int32)) (ft112 56 rfl) (by decide) ?_
      refine rn_bipush (v := (116 : Int32)) (ft112 57 rfl) (by decide) ?_
      obtain ⟨p21, q22, h⟩ := ob_some h
      refine rn_callS (as := [.int (115 : Int32), .int (111 : Int32), .int (114 : Int32), .int (116 : Int32)]) (r := [.long x19]) (v := (some (.long p21.1))) (w1 := p21.2) (ft112 58 rfl) (by decide +kernel) rfl (Nat.le_of_ble_eq_true rfl) (Nat.le_of_ble_eq_true rfl) (r43 (115 : Int32) (111 : Int32) (114 : Int32) (116 : Int32) w _ q22) ?_
      refine rn_lcmp (ft112 59 rfl) ?_
      by_cases c23 : ¬ (lg_cmp x19 p21.1) = 0
      · replace h := ifp c23 h
        refine rn_if_ne_t (ft112 60 rfl) c23 ?_
        refine rn_iconst (v := (-1 : Int32)) (ft112 63 rfl) (by decide) ?_
        cases h
        exact rn_iretI pr112 (ft112 64 rfl)
      · replace h := ifn c23 h
        refine rn_if_ne_f (ft112 60 rfl) c23 ?_
        refine rn_iconst (v := (4 : Int32)) (ft112 61 rfl) (by decide) ?_
        refine rn_goto (ft112 62 rfl) ?_
        cases h
        exact rn_iretI pr112 (ft112 64 rfl)
    · replace h := ifn c24 h
      refine rn_if_ne_f (ft112 49 rfl) c24 ?_
      refine rn_iconst (v := (3 : Int32)) (ft112 50 rfl) (by decide) ?_
      refine rn_goto (ft112 51 rfl) ?_
      cases h
      exact rn_iretI pr112 (ft112 64 rfl)
  · replace h := ifn c25 h
    refine rn_if_lt_f (ft112 42 rfl) c25 ?_
    refine rn_iload_n (ft112 43 rfl) rfl ?_
    refine rn_goto (ft112 44 rfl) ?_
    cases h
    exact rn_iretI pr112 (ft112 64 rfl)
def f112 (v0 : Nat) (w : Wd) : Option (Int32 × Wd) :=
  ob (getL w 11 v0 18) (fun x1 => ob (f43 (115 : Int32) (104 : Int32) (105 : Int32) (112 : Int32) w) (fun p3 => (if ¬ (lg_cmp x1 p3.1) = 0 then ob (getL p3.2 11 v0 18) (fun x5 => ob (f43 (114 : Int32) (111 : Int32) (99 : Int32) (107 : Int32) p3.2) (fun p7 => ob (f44 p7.1 (115 : Int32) p7.2) (fun p9 => (if ¬ (lg_cmp x5 p9.1) = 0 then ob (getL p9.2 11 v0 18) (fun x11 => ob (f43 (100 : Int32) (114 : Int32) (105 : Int32) (102 : Int32) p9.2) (fun p13 => ob (f44 p13.1 (116 : Int32) p13.2) (fun p15 => (if ¬ (lg_cmp x11 p15.1) = 0 then f112_J84  v0 (8782 : Int64) (-1 : Int32) p15.2
        else f112_J84  v0 (8782 : Int64) (2 : Int32) p15.2))))
      else f112_J84  v0 (8782 : Int64) (1 : Int32) p9.2))))
    else f112_J84  v0 (8782 : Int64) (0 : Int32) p3.2)))
set_option maxRecDepth 10000 in
theorem r112 {S : Sc} (v0 : Nat) (w : Wd) (o : (Int32 × Wd)) (h : f112 v0 w = some o) : Rn S 112 0 [some (.ref v0), none, none, none] [] w (some (.int o.1), o.2) := by
  unfold f112 at h
  refine rn_ldc2 (v := (8782 : Int64)) (ft112 0 rfl) (by decide) ?_
  refine rn_lstore_n (ls' := [some (.ref v0), some (.long (8782 : Int64)), none, none]) (ft112 1 rfl) rfl ?_
  refine rn_aload_n (ft112 2 rfl) rfl ?_
  obtain ⟨x1, q2, h⟩ := ob_some h
  refine rn_getL (ft112 3 rfl) q2 ?_
  refine rn_bipush (v := (115 : Int32)) (ft112 4 rfl) (by decide) ?_
  refine rn_bipush (v := (104 : Int32)) (ft112 5 rfl) (by decide) ?_
  refine rn_bipush (v := (105 : Int32)) (ft112 6 rfl) (by decide) ?_
  refine rn_bipush (v := (112 : Int32)) (ft112 7 rfl) (by decide) ?_
  obtain ⟨p3, q4, h⟩ := ob_some h
  refine rn_callS (as := [.int (115 : Int32), .int (104 : Int32), .int (105 : Int32), .int (112 : Int32)]) (r := [.long x1]) (v := (some (.long p3.1))) (w1 := p3.2) (ft112 8 rfl) (by decide +kernel) rfl (Nat.le_of_ble_eq_true rfl) (Nat.le_of_ble_eq_true rfl) (r43 (115 : Int32) (104 : Int32) (105 : Int32) (112 : Int32) w _ q4) ?_
  refine rn_lcmp (ft112 9 rfl) ?_
  by_cases c28 : ¬ (lg_cmp x1 p3.1) = 0
  · replace h := ifp c28 h
    refine rn_if_ne_t (ft112 10 rfl) c28 ?_
    refine rn_aload_n (ft112 13 rfl) rfl ?_
    obtain ⟨x5, q6, h⟩ := ob_some h
    refine rn_getL (ft112 14 rfl) q6 ?_
    refine rn_bipush (v := (114 : Int32)) (ft112 15 rfl) (by decide) ?_
    refine rn_bipush (v := (111 : Int32)) (ft112 16 rfl) (by decide) ?_
    refine rn_bipush (v := (99 : Int32)) (ft112 17 rfl) (by decide) ?_
    refine rn_bipush (v := (107 : Int32)) (ft112 18 rfl) (by decide) ?_
    obtain ⟨p7, q8, h⟩ := ob_some h
    refine rn_callS (as := [.int (114 : Int32), .int (111 : Int32), .int (99 : Int32), .int (107 : Int32)]) (r := [.long x5]) (v := (some (.long p7.1))) (w1 := p7.2) (ft112 19 rfl) (by decide +kernel) rfl (Nat.le_of_ble_eq_true rfl) (Nat.le_of_ble_eq_true rfl) (r43 (114 : Int32) (111 : Int32) (99 : Int32) (107 : Int32) p3.2 _ q8) ?_
    refine rn_bipush (v := (115 : Int32)) (ft112 20 rfl) (by decide) ?_
    obtain ⟨p9, q10, h⟩ := ob_some h
    refine rn_callS (as := [.long p7.1, .int (115 : Int32)]) (r := [.long x5]) (v := (some (.long p9.1))) (w1 := p9.2) (ft112 21 rfl) (by decide +kernel) rfl (Nat.le_of_ble_eq_true rfl) (Nat.le_of_ble_eq_true rfl) (r44 p7.1 (115 : Int32) p7.2 _ q10) ?_
    refine rn_lcmp (ft112 22 rfl) ?_
    by_cases c27 : ¬ (lg_cmp x5 p9.1) = 0
    · replace h := ifp c27 h
      refine rn_if_ne_t (ft112 23 rfl) c27 ?_
      refine rn_aload_n (ft112 26 rfl) rfl ?_
      obtain ⟨x11, q12, h⟩ := ob_some h
      refine rn_getL (ft112 27 rfl) q12 ?_
      refine rn_bipush (v := (100 : Int32)) (ft112 28 rfl) (by decide) ?_
      refine rn_bipush (v := (114 : Int32)) (ft112 29 rfl) (by decide) ?_
      refine rn_bipush (v := (105 : Int32)) (ft112 30 rfl) (by decide) ?_
      refine rn_bipush (v := (102 : Int32)) (ft112 31 rfl) (by decide) ?_
      obtain ⟨p13, q14, h⟩ := ob_some h
      refine rn_callS (as := [.int (100 : Int32), .int (114 : Int32), .int (105 : Int32), .int (102 : Int32)]) (r := [.long x11]) (v := (some (.long p13.1))) (w1 := p13.2) (ft112 32 rfl) (by decide +kernel) rfl (Nat.le_of_ble_eq_true rfl) (Nat.le_of_ble_eq_true rfl) (r43 (100 : Int32) (114 : Int32) (105 : Int32) (102 : Int32) p9.2 _ q14) ?_
      refine rn_bipush (v := (116 : Int32)) (ft112 33 rfl) (by decide) ?_
      obtain ⟨p15, q16, h⟩ := ob_some h
      refine rn_callS (as := [.long p13.1, .int (116 : Int32)]) (r := [.long x11]) (v := (some (.long p15.1))) (w1 := p15.2) (ft112 34 rfl) (by decide +kernel) rfl (Nat.le_of_ble_eq_true rfl) (Nat.le_of_ble_eq_true rfl) (r44 p13.1 (116 : Int32) p13.2 _ q16) ?_
      refine rn_lcmp (ft112 35 rfl) ?_
      by_cases c26 : ¬ (lg_cmp x11 p15.1) = 0
      · replace h := ifp c26 h
        refine rn_if_ne_t (ft112 36 rfl) c26 ?_
        refine rn_iconst (v := (-1 : Int32)) (ft112 39 rfl) (by decide) ?_
        exact rn_forget (ls := [some (.ref v0), some (.long (8782 : Int64)), none, none]) (And.intro rfl (And.intro rfl trivial)) (rf112_J84  v0 (8782 : Int64) (-1 : Int32) p15.2 _  h)
      · replace h := ifn c26 h
        refine rn_if_ne_f (ft112 36 rfl) c26 ?_
        refine rn_iconst (v := (2 : Int32)) (ft112 37 rfl) (by decide) ?_
        refine rn_goto (ft112 38 rfl) ?_
        exact rn_forget (ls := [some (.ref v0), some (.long (8782 : Int64)), none, none]) (And.intro rfl (And.intro rfl trivial)) (rf112_J84  v0 (8782 : Int64) (2 : Int32) p15.2 _  h)
    · replace h := ifn c27 h
      refine rn_if_ne_f (ft112 23 rfl) c27 ?_
      refine rn_iconst (v := (1 : Int32)) (ft112 24 rfl) (by decide) ?_
      refine rn_goto (ft112 25 rfl) ?_
      exact rn_forget (ls := [some (.ref v0), some (.long (8782 : Int64)), none, none]) (And.intro rfl (And.intro rfl trivial)) (rf112_J84  v0 (8782 : Int64) (1 : Int32) p9.2 _  h)
  · replace h := ifn c28 h
    refine rn_if_ne_f (ft112 10 rfl) c28 ?_
    refine rn_iconst (v := (0 : Int32)) (ft112 11 rfl) (by decide) ?_
    refine rn_goto (ft112 12 rfl) ?_
    exact rn_forget (ls := [some (.ref v0), some (.long (8782 : Int64)), none, none]) (And.intro rfl (And.intro rfl trivial)) (rf112_J84  v0 (8782 : Int64) (0 : Int32) p3.2 _  h)
/-- NineWheelModel.takeFigures(IIZ)I -/
theorem ft113 : ∀ (i : Nat) {q : Nat × XI}, cd113[i]? = some q → fetch 113 q.1 = some q.2 := ft_of (by decide +kernel)
theorem pr113 : pRt 113 = some .int := rfl
def f113_J82 (n : Nat) (rec6 : Nat → Int32 → Int32 → Int32 → Int32 → Wd → Option (Int32 × Wd)) (K6 : Nat → Int32 → Int32 → Int32 → Int32 → Wd → Option (Int32 × Wd)) (v0 : Nat) (v1 : Int32) (v2 : Int32) (v3 : Int32) (v4 : Int32) (s0 : Nat) (s1 : Int32) (w : Wd) : Option (Int32 × Wd) :=
  ob (putI w 11 s0 20 s1) (fun w27 => ob (getI w27 11 v0 17) (fun x29 => ob (putI w27 11 v0 17 (x29 + (1 : Int32))) (fun w31 => rec6 v0 v1 v2 v3 v4 w31)))
set_option maxRecDepth 10000 in
theorem rf113_J82 {S : Sc} (n : Nat) (rec6 : Nat → Int32 → Int32 → Int32 → Int32 → Wd → Option (Int32 × Wd)) (K6 : Nat → Int32 → Int32 → Int32 → Int32 → Wd → Option (Int32 × Wd)) (v0 : Nat) (v1 : Int32) (v2 : Int32) (v3 : Int32) (v4 : Int32) (s0 : Nat) (s1 : Int32) (w : Wd) (o : (Int32 × Wd)) (hrec6 : ∀ (y0 : Nat) (y1 : Int32) (y2 : Int32) (y3 : Int32) (y4 : Int32) (w : Wd) (o : (Int32 × Wd)), rec6 y0 y1 y2 y3 y4 w = some o → Rn S 113 11 [some (.ref y0), some (.int y1), some (.int y2), some (.int y3), some (.int y4), none] [] w (some (.int o.1), o.2)) (hK6 : ∀ (y0 : Nat) (y1 : Int32) (y2 : Int32) (y3 : Int32) (y4 : Int32) (w : Wd) (o : (Int32 × Wd)), K6 y0 y1 y2 y3 y4 w = some o → Rn S 113 98 [some (.ref y0), some (.int y1), some (.int y2), some (.int y3), some (.int y4), none] [] w (some (.int o.1), o.2)) (h : f113_J82 n rec6 K6 v0 v1 v2 v3 v4 s0 s1 w = some o) : Rn S 113 82 [some (.ref v0), some (.int v1), some (.int v2), some (.int v3), some (.int v4), none] [.int s1, .ref s0] w (some (.int o.1), o.2) := by
  unfold f113_J82 at h
  obtain ⟨w27, q28, h⟩ := ob_some h
  refine rn_putI (ft113 41 rfl) q28 ?_
  refine rn_aload_n (ft113 42 rfl) rfl ?_
  refine rn_dup (ft113 43 rfl) rfl ?_
  obtain ⟨x29, q30, h⟩ := ob_some h
  refine rn_getI (ft113 44 rfl) (by decide) (by decide) q30 ?_
  refine rn_iconst (v := (1 : Int32)) (ft113 45 rfl) (by decide) ?_
  refine rn_iadd (ft113 46 rfl) ?_
  obtain ⟨w31, q32, h⟩ := ob_some h
  refine rn_putI (ft113 47 rfl) q32 ?_
  refine rn_goto (ft113 48 rfl) ?_
  exact rn_forget (ls := [some (.ref v0), some (.int v1), some (.int v2), some (.int v3), some (.int v4), none]) (And.intro rfl (And.intro rfl (And.intro rfl (And.intro rfl (And.intro rfl trivial))))) (hrec6 v0 v1 v2 v3 v4 w31 _ h)
def f113_H11 (n : Nat)  (K6 : Nat → Int32 → Int32 → Int32 → Int32 → Wd → Option (Int32 × Wd)) : Nat → Nat → Int32 → Int32 → Int32 → Int32 → Wd → Option (Int32 × Wd)
  | 0, _, _, _, _, _, _ => none
  | k + 1, v0, v1, v2, v3, v4, w =>
    ob (getI w 11 v0 17) (fun x5 => ob (getI w 11 v0 15) (fun x7 => (if x7 ≤ x5 then K6 v0 v1 v2 v3 v4 w
      else ob (getR w 11 v0 14) (fun x9 => ob (getI w 11 v0 17) (fun x11 => ob (aldI w x9 x11) (fun x13 => ob (f40 (Int32.toInt64 x13) (48 : Int64) (57 : Int64) w) (fun p15 => (if p15.1 = 0 then K6 v0 v1 v2 v3 v4 p15.2
        else ob (getI p15.2 11 v0 20) (fun x17 => (if x17 ≤ (10000 : Int32) then ob (getI p15.2 11 v0 20) (fun x19 => ob (getR p15.2 11 v0 14) (fun x21 => ob (getI p15.2 11 v0 17) (fun x23 => ob (aldI p15.2 x21 x23) (fun x25 => f113_J82 n (fun (v0 : Nat) (v1 : Int32) (v2 : Int32) (v3 : Int32) (v4 : Int32) w => f113_H11 n  K6 k v0 v1 v2 v3 v4 w) K6 v0 v1 v2 v3 v4 v0 ((((10 : Int32) * x19) + x25) - (48 : Int32)) p15.2))))
          else ob (getI p15.2 11 v0 20) (fun x33 => f113_J82 n (fun (v0 : Nat) (v1 : Int32) (v2 : Int32) (v3 : Int32) (v4 : Int32) w => f113_H11 n  K6 k v0 v1 v2 v3 v4 w) K6 v0 v1 v2 v3 v4 v0 x33 p15.2)))))))))))
set_option maxRecDepth 10000 in
theorem rf113_H11 {S : Sc} (n : Nat)  (K6 : Nat → Int32 → Int32 → Int32 → Int32 → Wd → Option (Int32 × Wd))  (hK6 : ∀ (y0 : Nat) (y1 : Int32) (y2 : Int32) (y3 : Int32) (y4 : Int32) (w : Wd) (o : (Int32 × Wd)), K6 y0 y1 y2 y3 y4 w = some o → Rn S 113 98 [some (.ref y0), some (.int y1), some (.int y2), some (.int y3), some (.int y4), none] [] w (some (.int o.1), o.2)) : ∀ (k : Nat) (v0 : Nat) (v1 : Int32) (v2 : Int32) (v3 : Int32) (v4 : Int32) (w : Wd) (o : (Int32 × Wd)), f113_H11 n  K6 k v0 v1 v2 v3 v4 w = some o → Rn S 113 11 [some (.ref v0), some (.int v1), some (.int v2), some (.int v3), some (.int v4), none] [] w (some (.int o.1), o.2) := by
  intro k
  induction k with
  | zero =>
    intro v0 v1 v2 v3 v4 w o h
    exact nomatch h
  | succ k ih =>
    intro v0 v1 v2 v3 v4 w o h
    have hrec6 : ∀ (y0 : Nat) (y1 : Int32) (y2 : Int32) (y3 : Int32) (y4 : Int32) (w : Wd) (o : (Int32 × Wd)), (fun (v0 : Nat) (v1 : Int32) (v2 : Int32) (v3 : Int32) (v4 : Int32) w => f113_H11 n  K6 k v0 v1 v2 v3 v4 w) y0 y1 y2 y3 y4 w = some o → Rn S 113 11 [some (.ref y0), some (.int y1), some (.int y2), some (.int y3), some (.int y4), none] [] w (some (.int o.1), o.2) := fun y0 y1 y2 y3 y4 w o h => ih y0 y1 y2 y3 y4 w o h
    unfold f113_H11 at h
    refine rn_aload_n (ft113 6 rfl) rfl ?_
    obtain ⟨x5, q6, h⟩ := ob_some h
    refine rn_getI (ft113 7 rfl) (by decide) (by decide) q6 ?_
    refine rn_aload_n (ft113 8 rfl) rfl ?_
    obtain ⟨x7, q8, h⟩ := ob_some h
    refine rn_getI (ft113 9 rfl) (by decide) (by decide) q8 ?_
    by_cases c37 : x7 ≤ x5
    · replace h := ifp c37 h
      refine rn_icmp_ge_t (ft113 10 rfl) c37 ?_
      exact rn_forget (ls := [some (.ref v0), some (.int v1), some (.int v2), some (.int v3), some (.int v4), none]) (And.intro rfl (And.intro rfl (And.intro rfl (And.intro rfl (And.intro rfl trivial))))) (hK6 v0 v1 v2 v3 v4 w _ h)
    · replace h := ifn c37 h
      refine rn_icmp_ge_f (ft113 10 rfl) c37 ?_
      refine rn_aload_n (ft113 11 rfl) rfl ?_
      obtain ⟨x9, q10, h⟩ := ob_some h
      refine rn_getR (ft113 12 rfl) q10 ?_
      refine rn_aload_n (ft113 13 rfl) rfl ?_
      obtain ⟨x11, q12, h⟩ := ob_some h
      refine rn_getI (ft113 14 rfl) (by decide) (by decide) q12 ?_
      obtain ⟨x13, q14, h⟩ := ob_some h
      refine rn_iaload (ft113 15 rfl) q14 ?_
      refine rn_i2l (ft113 16 rfl) ?_
      refine rn_ldc2 (v := (48 : Int64)) (ft113 17 rfl) (by decide) ?_
      refine rn_ldc2 (v := (57 : Int64)) (ft113 18 rfl) (by decide) ?_
      obtain ⟨p15, q16, h⟩ := ob_some h
      refine rn_callS (as := [.long (Int32.toInt64 x13), .long (48 : Int64), .long (57 : Int64)]) (r := []) (v := (some (.int p15.1))) (w1 := p15.2) (ft113 19 rfl) (by decide +kernel) rfl (Nat.le_of_ble_eq_true rfl) (Nat.le_of_ble_eq_true rfl) (r40 (Int32.toInt64 x13) (48 : Int64) (57 : Int64) w _ q16) ?_
      by_cases c36 : p15.1 = 0
      · replace h := ifp c36 h
        refine rn_if_eq_t (ft113 20 rfl) c36 ?_
        exact rn_forget (ls := [some (.ref v0), some (.int v1), some (.int v2), some (.int v3), some (.int v4), none]) (And.intro rfl (And.intro rfl (And.intro rfl (And.intro rfl (And.intro rfl trivial))))) (hK6 v0 v1 v2 v3 v4 p15.2 _ h)
      · replace h := ifn c36 h
        refine rn_if_eq_f (ft113 20 rfl) c36 ?_
        refine rn_aload_n (ft113 21 rfl) rfl ?_
        refine rn_aload_n (ft113 22 rfl) rfl ?_
        obtain ⟨x17, q18, h⟩ := ob_some h
        refine rn_getI (ft113 23 rfl) (by decide) (by decide) q18 ?_
        refine rn_sipush (v := (10000 : Int32)) (ft113 24 rfl) (by decide) ?_
        by_cases c35 : x17 ≤ (10000 : Int32)
        · replace h := ifp c35 h
          refine rn_icmp_le_t (ft113 25 rfl) c35 ?_
          refine rn_bipush (v := (10 : Int32)) (ft113 29 rfl) (by decide) ?_
          refine rn_aload_n (ft113 30 rfl) rfl ?_
          obtain ⟨x19, q20, h⟩ := ob_some h
          refine rn_getI (ft113 31 rfl) (by decide) (by decide) q20 ?_
          refine rn_imul (ft113 32 rfl) ?_
          refine rn_aload_n (ft113 33 rfl) rfl ?_
          obtain ⟨x21, q22, h⟩ := ob_some h
          refine rn_getR (ft113 34 rfl) q22 ?_
          refine rn_aload_n (ft113 35 rfl) rfl ?_
          obtain ⟨x23, q24, h⟩ := ob_some h
          refine rn_getI (ft113 36 rfl) (by decide) (by decide) q24 ?_
          obtain ⟨x25, q26, h⟩ := ob_some h
          refine rn_iaload (ft113 37 rfl) q26 ?_
          refine rn_iadd (ft113 38 rfl) ?_
          refine rn_bipush (v := (48 : Int32)) (ft113 39 rfl) (by decide) ?_
          refine rn_isub (ft113 40 rfl) ?_
          exact rn_forget (ls := [some (.ref v0), some (.int v1), some (.int v2), some (.int v3), some (.int v4), none]) (And.intro rfl (And.intro rfl (And.intro rfl (And.intro rfl (And.intro rfl trivial))))) (rf113_J82 n (fun (v0 : Nat) (v1 : Int32) (v2 : Int32) (v3 : Int32) (v4 : Int32) w => f113_H11 n  K6 k v0 v1 v2 v3 v4 w) K6 v0 v1 v2 v3 v4 v0 ((((10 : Int32) * x19) + x25) - (48 : Int32)) p15.2 _ hrec6 hK6 h)
        · replace h := ifn c35 h
          refine rn_icmp_le_f (ft113 25 rfl) c35 ?_
          refine rn_aload_n (ft113 26 rfl) rfl ?_
          obtain ⟨x33, q34, h⟩ := ob_some h
          refine rn_getI (ft113 27 rfl) (by decide) (by decide) q34 ?_
          refine rn_goto (ft113 28 rfl) ?_
          exact rn_forget (ls := [some (.ref v0), some (.int v1), some (.int v2), some (.int v3), some (.int v4), none]) (And.intro rfl (And.intro rfl (And.intro rfl (And.intro rfl (And.intro rfl trivial))))) (rf113_J82 n (fun (v0 : Nat) (v1 : Int32) (v2 : Int32) (v3 : Int32) (v4 : Int32) w => f113_H11 n  K6 k v0 v1 v2 v3 v4 w) K6 v0 v1 v2 v3 v4 v0 x33 p15.2 _ hrec6 hK6 h)
def f113_J165 (n : Nat)  (v0 : Nat) (w : Wd) : Option (Int32 × Wd) :=
  ob (getI w 11 v0 21) (fun x47 => (if (wsh w v0).map (fun q => q.1) = some 11 then ob (f46 v0 (2 : Int32) x47 w) (fun p49 => some (p49.1, p49.2)) else none))
set_option maxRecDepth 10000 in
theorem rf113_J165 {S : Sc} (n : Nat)  (v0 : Nat) (w : Wd) (o : (Int32 × Wd))  (h : f113_J165 n  v0 w = some o) : Rn S 113 165 [some (.ref v0), none, none, none, none, none] [] w (some (.int o.1), o.2) := by
  unfold f113_J165 at h
  refine rn_aload_n (ft113 85 rfl) rfl ?_
  refine rn_iconst (v := (2 : Int32)) (ft113 86 rfl) (by decide) ?_
  refine rn_aload_n (ft113 87 rfl) rfl ?_
  obtain ⟨x47, q48, h⟩ := ob_some h
  refine rn_getI (ft113 88 rfl) (by decide) (by decide) q48 ?_
  obtain ⟨g51, h⟩ := ifg h
  obtain ⟨p49, q50, h⟩ := ob_some h
  refine rn_callV (as := [.int (2 : Int32), .int x47]) (k0 := v0) (r := []) (v := (some (.int p49.1))) (w1 := p49.2) (ft113 89 rfl) (by decide +kernel) rfl (Nat.le_of_ble_eq_true rfl) (Nat.le_of_ble_eq_true rfl) (r46 v0 (2 : Int32) x47 w _ q50) (by decide +kernel) g51 ?_
  refine rn_goto (ft113 90 rfl) ?_
  cases h
  exact rn_iretI pr113 (ft113 92 rfl)
def f113_J141 (n : Nat)  (v0 : Nat) (v1 : Int32) (v2 : Int32) (v5 : Int32) (s0 : Nat) (s1 : Int32) (w : Wd) : Option (Int32 × Wd) :=
  ob (putI w 11 s0 20 s1) (fun w45 => (if (2 : Int32) < v5 then f113_J165 n  v0 w45
    else ob (getI w45 11 v0 20) (fun x52 => ob (f40 (Int32.toInt64 x52) (Int32.toInt64 v1) (Int32.toInt64 v2) w45) (fun p54 => (if ¬ p54.1 = 0 then some ((0 : Int32), p54.2)
      else f113_J165 n  v0 p54.2)))))
set_option maxRecDepth 10000 in
theorem rf113_J141 {S : Sc} (n : Nat)  (v0 : Nat) (v1 : Int32) (v2 : Int32) (v5 : Int32) (s0 : Nat) (s1 : Int32) (w : Wd) (o : (Int32 × Wd))  (h : f113_J141 n  v0 v1 v2 v5 s0 s1 w = some o) : Rn S 113 141 [some (.ref v0), some (.int v1), some (.int v2), none, none, some (.int v5)] [.int s1, .ref s0] w (some (.int o.1), o.2) := by
  unfold f113_J141 at h
  obtain ⟨w45, q46, h⟩ := ob_some h
  refine rn_putI (ft113 72 rfl) q46 ?_
  refine rn_iload (ft113 73 rfl) rfl ?_
  refine rn_iconst (v := (2 : Int32)) (ft113 74 rfl) (by decide) ?_
  by_cases c57 : (2 : Int32) < v5
  · replace h := ifp c57 h
    refine rn_icmp_gt_t (ft113 75 rfl) c57 ?_
    exact rn_forget (ls := [some (.ref v0), none, none, none, none, none]) (And.intro rfl trivial) (rf113_J165 n  v0 w45 _  h)
  · replace h := ifn c57 h
    refine rn_icmp_gt_f (ft113 75 rfl) c57 ?_
    refine rn_aload_n (ft113 76 rfl) rfl ?_
    obtain ⟨x52, q53, h⟩ := ob_some h
    refine rn_getI (ft113 77 rfl) (by decide) (by decide) q53 ?_
    refine rn_i2l (ft113 78 rfl) ?_
    refine rn_iload_n (ft113 79 rfl) rfl ?_
    refine rn_i2l (ft113 80 rfl) ?_
    refine rn_iload_n (ft113 81 rfl) rfl ?_
    refine rn_i2l (ft113 82 rfl) ?_
    obtain ⟨p54, q55, h⟩ := ob_some h
    refine rn_callS (as := [.long (Int32.toInt64 x52), .long (Int32.toInt64 v1), .long (Int32.toInt64 v2)]) (r := []) (v := (some (.int p54.1))) (w1 := p54.2) (ft113 83 rfl) (by decide +kernel) rfl (Nat.le_of_ble_eq_true rfl) (Nat.le_of_ble_eq_true rfl) (r40 (Int32.toInt64 x52) (Int32.toInt64 v1) (Int32.toInt64 v2) w45 _ q55) ?_
    by_cases c56 : ¬ p54.1 = 0
    · replace h := ifp c56 h
      refine rn_if_ne_t (ft113 84 rfl) c56 ?_
      refine rn_iconst (v := (0 : Int32)) (ft113 91 rfl) (by decide) ?_
      cases h
      exact rn_iretI pr113 (ft113 92 rfl)
    · replace h := ifn c56 h
      refine rn_if_ne_f (ft113 84 rfl) c56 ?_
      exact rn_forget (ls := [some (.ref v0), none, none, none, none, none]) (And.intro rfl trivial) (rf113_J165 n  v0 p54.2 _  h)
def f113_J98 (n : Nat)  (v0 : Nat) (v1 : Int32) (v2 : Int32) (v3 : Int32) (v4 : Int32) (w : Wd) : Option (Int32 × Wd) :=
  ob (getI w 11 v0 17) (fun x39 => (if ¬ x39 = v4 then ob (getI w 11 v0 17) (fun x41 => (if v3 = 0 then ob (getI w 11 v0 20) (fun x43 => f113_J141 n  v0 v1 v2 (x41 - v4) v0 x43 w)
      else ob (getI w 11 v0 20) (fun x58 => f113_J141 n  v0 v1 v2 (x41 - v4) v0 (-x58) w)))
    else (if (wsh w v0).map (fun q => q.1) = some 11 then ob (f46 v0 (1 : Int32) v4 w) (fun p61 => some (p61.1, p61.2)) else none)))
set_option maxRecDepth 10000 in
theorem rf113_J98 {S : Sc} (n : Nat)  (v0 : Nat) (v1 : Int32) (v2 : Int32) (v3 : Int32) (v4 : Int32) (w : Wd) (o : (Int32 × Wd))  (h : f113_J98 n  v0 v1 v2 v3 v4 w = some o) : Rn S 113 98 [some (.ref v0), some (.int v1), some (.int v2), some (.int v3), some (.int v4), none] [] w (some (.int o.1), o.2) := by
  unfold f113_J98 at h
  refine rn_aload_n (ft113 49 rfl) rfl ?_
  obtain ⟨x39, q40, h⟩ := ob_some h
  refine rn_getI (ft113 50 rfl) (by decide) (by decide) q40 ?_
  refine rn_iload (ft113 51 rfl) rfl ?_
  by_cases c64 : ¬ x39 = v4
  · replace h := ifp c64 h
    refine rn_icmp_ne_t (ft113 52 rfl) c64 ?_
    refine rn_aload_n (ft113 58 rfl) rfl ?_
    obtain ⟨x41, q42, h⟩ := ob_some h
    refine rn_getI (ft113 59 rfl) (by decide) (by decide) q42 ?_
    refine rn_iload (ft113 60 rfl) rfl ?_
    refine rn_isub (ft113 61 rfl) ?_
    refine rn_istore (ls' := [some (.ref v0), some (.int v1), some (.int v2), some (.int v3), some (.int v4), some (.int (x41 - v4))]) (ft113 62 rfl) rfl ?_
    refine rn_aload_n (ft113 63 rfl) rfl ?_
    refine rn_iload_n (ft113 64 rfl) rfl ?_
    by_cases c60 : v3 = 0
    · replace h := ifp c60 h
      refine rn_if_eq_t (ft113 65 rfl) c60 ?_
      refine rn_aload_n (ft113 70 rfl) rfl ?_
      obtain ⟨x43, q44, h⟩ := ob_some h
      refine rn_getI (ft113 71 rfl) (by decide) (by decide) q44 ?_
      exact rn_forget (ls := [some (.ref v0), some (.int v1), some (.int v2), none, none, some (.int (x41 - v4))]) (And.intro rfl (And.intro rfl (And.intro rfl (And.intro rfl trivial)))) (rf113_J141 n  v0 v1 v2 (x41 - v4) v0 x43 w _  h)
    · replace h := ifn c60 h
      refine rn_if_eq_f (ft113 65 rfl) c60 ?_
      refine rn_aload_n (ft113 66 rfl) rfl ?_
      obtain ⟨x58, q59, h⟩ := ob_some h
      refine rn_getI (ft113 67 rfl) (by decide) (by decide) q59 ?_
      refine rn_ineg (ft113 68 rfl) ?_
      refine rn_goto (ft113 69 rfl) ?_
      exact rn_forget (ls := [some (.ref v0), some (.int v1), some (.int v2), none, none, some (.int (x41 - v4))]) (And.intro rfl (And.intro rfl (And.intro rfl (And.intro rfl trivial)))) (rf113_J141 n  v0 v1 v2 (x41 - v4) v0 (-x58) w _  h)
  · replace h := ifn c64 h
    refine rn_icmp_ne_f (ft113 52 rfl) c64 ?_
    refine rn_aload_n (ft113 53 rfl) rfl ?_
    refine rn_iconst (v := (1 : Int32)) (ft113 54 rfl) (by decide) ?_
    refine rn_iload (ft113 55 rfl) rfl ?_
    obtain ⟨g63, h⟩ := ifg h
    obtain ⟨p61, q62, h⟩ := ob_some h
    refine rn_callV (as := [.int (1 : Int32), .int v4]) (k0 := v0) (r := []) (v := (some (.int p61.1))) (w1 := p61.2) (ft113 56 rfl) (by decide +kernel) rfl (Nat.le_of_ble_eq_true rfl) (Nat.le_of_ble_eq_true rfl) (r46 v0 (1 : Int32) v4 w _ q62) (by decide +kernel) g63 ?_
    cases h
    exact rn_iretI pr113 (ft113 57 rfl)
def f113 (n : Nat) (v0 : Nat) (v1 : Int32) (v2 : Int32) (v3 : Int32) (w : Wd) : Option (Int32 × Wd) :=
  ob (getI w 11 v0 17) (fun x1 => ob (putI w 11 v0 20 (0 : Int32)) (fun w3 => f113_H11 n  (fun (e0_38 : Nat) (e1_38 : Int32) (e2_38 : Int32) (e3_38 : Int32) (e4_38 : Int32) (w38 : Wd) => f113_J98 n  e0_38 e1_38 e2_38 e3_38 e4_38 w38) n v0 v1 v2 v3 x1 w3))
set_option maxRecDepth 10000 in
theorem r113 {S : Sc} (n : Nat) (v0 : Nat) (v1 : Int32) (v2 : Int32) (v3 : Int32) (w : Wd) (o : (Int32 × Wd)) (h : f113 n v0 v1 v2 v3 w = some o) : Rn S 113 0 [some (.ref v0), some (.int v1), some (.int v2), some (.int v3), none, none] [] w (some (.int o.1), o.2) := by
  unfold f113 at h
  refine rn_aload_n (ft113 0 rfl) rfl ?_
  obtain ⟨x1, q2, h⟩ := ob_some h
  refine rn_getI (ft113 1 rfl) (by decide) (by decide) q2 ?_
  refine rn_istore (ls' := [some (.ref v0), some (.int v1), some (.int v2), some (.int v3), some (.int x1), none]) (ft113 2 rfl) rfl ?_
  refine rn_aload_n (ft113 3 rfl) rfl ?_
  refine rn_iconst (v := (0 : Int32)) (ft113 4 rfl) (by decide) ?_
  obtain ⟨w3, q4, h⟩ := ob_some h
  refine rn_putI (ft113 5 rfl) q4 ?_
  refine rn_forget (ls := [some (.ref v0), some (.int v1), some (.int v2), some (.int v3), some (.int x1), none]) (And.intro rfl (And.intro rfl (And.intro rfl (And.intro rfl (And.intro rfl trivial))))) (rf113_H11 n  _  (fun e0_38 e1_38 e2_38 e3_38 e4_38 w38 o h => ?_) n v0 v1 v2 v3 x1 w3 _ h)
  exact rn_forget (ls := [some (.ref e0_38), some (.int e1_38), some (.int e2_38), some (.int e3_38), some (.int e4_38), none]) (And.intro rfl (And.intro rfl (And.intro rfl (And.intro rfl (And.intro rfl trivial))))) (rf113_J98 n  e0_38 e1_38 e2_38 e3_38 e4_38 w38 _  h)
/-- NineWheelModel.isComma()Z -/
theorem ft114 : ∀ (i : Nat) {q : Nat × XI}, cd114[i]? = some q → fetch 114 q.1 = some q.2 := ft_of (by decide +kernel)
theorem pr114 : pRt 114 = some .boolean := rfl
def f114_J29 (n : Nat)  (v1 : Int32) (s0 : Nat) (s1 : Int32) (s2 : Int32) (w : Wd) : Option (Int32 × Wd) :=
  ob (putI w 11 s0 17 (s1 + s2)) (fun w5 => (if v1 = 0 ∨ v1 = 1 then some (v1, w5) else none))
set_option maxRecDepth 10000 in
theorem rf114_J29 {S : Sc} (n : Nat)  (v1 : Int32) (s0 : Nat) (s1 : Int32) (s2 : Int32) (w : Wd) (o : (Int32 × Wd))  (h : f114_J29 n  v1 s0 s1 s2 w = some o) : Rn S 114 29 [none, some (.int v1)] [.int s2, .int s1, .ref s0] w (some (.int o.1), o.2) := by
  unfold f114_J29 at h
  refine rn_iadd (ft114 16 rfl) ?_
  obtain ⟨w5, q6, h⟩ := ob_some h
  refine rn_putI (ft114 17 rfl) q6 ?_
  refine rn_iload_n (ft114 18 rfl) rfl ?_
  obtain ⟨g7, h⟩ := ifg h
  cases h
  exact rn_iretZ pr114 g7 (ft114 19 rfl)
def f114_J14 (n : Nat)  (v0 : Nat) (s0 : Int32) (w : Wd) : Option (Int32 × Wd) :=
  ob (getI w 11 v0 17) (fun x3 => (if s0 = 0 then f114_J29 n  s0 v0 x3 (0 : Int32) w
    else f114_J29 n  s0 v0 x3 (1 : Int32) w))
set_option maxRecDepth 10000 in
theorem rf114_J14 {S : Sc} (n : Nat)  (v0 : Nat) (s0 : Int32) (w : Wd) (o : (Int32 × Wd))  (h : f114_J14 n  v0 s0 w = some o) : Rn S 114 14 [some (.ref v0), none] [.int s0] w (some (.int o.1), o.2) := by
  unfold f114_J14 at h
  refine rn_istore_n (ls' := [some (.ref v0), some (.int s0)]) (ft114 7 rfl) rfl ?_
  refine rn_aload_n (ft114 8 rfl) rfl ?_
  refine rn_dup (ft114 9 rfl) rfl ?_
  obtain ⟨x3, q4, h⟩ := ob_some h
  refine rn_getI (ft114 10 rfl) (by decide) (by decide) q4 ?_
  refine rn_iload_n (ft114 11 rfl) rfl ?_
  by_cases c8 : s0 = 0
  · replace h := ifp c8 h
    refine rn_if_eq_t (ft114 12 rfl) c8 ?_
    refine rn_iconst (v := (0 : Int32)) (ft114 15 rfl) (by decide) ?_
    exact rn_forget (ls := [none, some (.int s0)]) (And.intro rfl trivial) (rf114_J29 n  s0 v0 x3 (0 : Int32) w _  h)
  · replace h := ifn c8 h
    refine rn_if_eq_f (ft114 12 rfl) c8 ?_
    refine rn_iconst (v := (1 : Int32)) (ft114 13 rfl) (by decide) ?_
    refine rn_goto (ft114 14 rfl) ?_
    exact rn_forget (ls := [none, some (.int s0)]) (And.intro rfl trivial) (rf114_J29 n  s0 v0 x3 (1 : Int32) w _  h)
def f114 (n : Nat) (v0 : Nat) (w : Wd) : Option (Int32 × Wd) :=
  (if (wsh w v0).map (fun q => q.1) = some 11 then ob (f42 n v0 w) (fun p1 => (if ¬ p1.1 = (44 : Int32) then f114_J14 n  v0 (0 : Int32) p1.2
    else f114_J14 n  v0 (1 : Int32) p1.2)) else none)
set_option maxRecDepth 10000 in
theorem r114 {S : Sc} (n : Nat) (v0 : Nat) (w : Wd) (o : (Int32 × Wd)) (h : f114 n v0 w = some o) : Rn S 114 0 [some (.ref v0), none] [] w (some (.int o.1), o.2) := by
  unfold f114 at h
  refine rn_aload_n (ft114 0 rfl) rfl ?_
  obtain ⟨g10, h⟩ := ifg h
  obtain ⟨p1, q2, h⟩ := ob_some h
  refine rn_callV (as := []) (k0 := v0) (r := []) (v := (some (.int p1.1))) (w1 := p1.2) (ft114 1 rfl) (by decide +kernel) rfl (Nat.le_of_ble_eq_true rfl) (Nat.le_of_ble_eq_true rfl) (r42 n v0 w _ q2) (by decide +kernel) g10 ?_
  refine rn_bipush (v := (44 : Int32)) (ft114 2 rfl) (by decide) ?_
  by_cases c9 : ¬ p1.1 = (44 : Int32)
  · replace h := ifp c9 h
    refine rn_icmp_ne_t (ft114 3 rfl) c9 ?_
    refine rn_iconst (v := (0 : Int32)) (ft114 6 rfl) (by decide) ?_
    exact rn_forget (ls := [some (.ref v0), none]) (And.intro rfl trivial) (rf114_J14 n  v0 (0 : Int32) p1.2 _  h)
  · replace h := ifn c9 h
    refine rn_icmp_ne_f (ft114 3 rfl) c9 ?_
    refine rn_iconst (v := (1 : Int32)) (ft114 4 rfl) (by decide) ?_
    refine rn_goto (ft114 5 rfl) ?_
    exact rn_forget (ls := [some (.ref v0), none]) (And.intro rfl trivial) (rf114_J14 n  v0 (1 : Int32) p1.2 _  h)
/-- NineWheelModel.takeStop()I -/
theorem ft115 : ∀ (i : Nat) {q : Nat × XI}, cd115[i]? = some q → fetch 115 q.1 = some q.2 := ft_of (by decide +kernel)
theorem pr115 : pRt 115 = some .int := rfl
def f115 (n : Nat) (v0 : Nat) (w : Wd) : Option (Int32 × Wd) :=
  (if (wsh w v0).map (fun q => q.1) = some 11 then ob (f42 n v0 w) (fun p1 => (if p1.1 = (59 : Int32) then ob (getI p1.2 11 v0 17) (fun x3 => ob (putI p1.2 11 v0 17 (x3 + (1 : Int32))) (fun w5 => some ((0 : Int32), w5)))
    else ob (getI p1.2 11 v0 17) (fun x7 => (if (wsh p1.2 v0).map (fun q => q.1) = some 11 then ob (f46 v0 (1 : Int32) x7 p1.2) (fun p9 => some (p9.1, p9.2)) else none)))) else none)
set_option maxRecDepth 10000 in
theorem r115 {S : Sc} (n : Nat) (v0 : Nat) (w : Wd) (o : (Int32 × Wd)) (h : f115 n v0 w = some o) : Rn S 115 0 [some (.ref v0)] [] w (some (.int o.1), o.2) := by
  unfold f115 at h
  refine rn_aload_n (ft115 0 rfl) rfl ?_
  obtain ⟨g13, h⟩ := ifg h
  obtain ⟨p1, q2, h⟩ := ob_some h
  refine rn_callV (as := []) (k0 := v0) (r := []) (v := (some (.int p1.1))) (w1 := p1.2) (ft115 1 rfl) (by decide +kernel) rfl (Nat.le_of_ble_eq_true rfl) (Nat.le_of_ble_eq_true rfl) (r42 n v0 w _ q2) (by decide +kernel) g13 ?_
  refine rn_bipush (v := (59 : Int32)) (ft115 2 rfl) (by decide) ?_
  by_cases c12 : p1.1 = (59 : Int32)
  · replace h := ifp c12 h
    refine rn_icmp_eq_t (ft115 3 rfl) c12 ?_
    refine rn_aload_n (ft115 10 rfl) rfl ?_
    refine rn_dup (ft115 11 rfl) rfl ?_
    obtain ⟨x3, q4, h⟩ := ob_some h
    refine rn_getI (ft115 12 rfl) (by decide) (by decide) q4 ?_
    refine rn_iconst (v := (1 : Int32)) (ft115 13 rfl) (by decide) ?_
    refine rn_iadd (ft115 14 rfl) ?_
    obtain ⟨w5, q6, h⟩ := ob_some h
    refine rn_putI (ft115 15 rfl) q6 ?_
    refine rn_iconst (v := (0 : Int32)) (ft115 16 rfl) (by decide) ?_
    cases h
    exact rn_iretI pr115 (ft115 17 rfl)
  · replace h := ifn c12 h
    refine rn_icmp_eq_f (ft115 3 rfl) c12 ?_
    refine rn_aload_n (ft115 4 rfl) rfl ?_
    refine rn_iconst (v := (1 : Int32)) (ft115 5 rfl) (by decide) ?_
    refine rn_aload_n (ft115 6 rfl) rfl ?_
    obtain ⟨x7, q8, h⟩ := ob_some h
    refine rn_getI (ft115 7 rfl) (by decide) (by decide) q8 ?_
    obtain ⟨g11, h⟩ := ifg h
    obtain ⟨p9, q10, h⟩ := ob_some h
    refine rn_callV (as := [.int (1 : Int32), .int x7]) (k0 := v0) (r := []) (v := (some (.int p9.1))) (w1 := p9.2) (ft115 8 rfl) (by decide +kernel) rfl (Nat.le_of_ble_eq_true rfl) (Nat.le_of_ble_eq_true rfl) (r46 v0 (1 : Int32) x7 p1.2 _ q10) (by decide +kernel) g11 ?_
    cases h
    exact rn_iretI pr115 (ft115 9 rfl)
