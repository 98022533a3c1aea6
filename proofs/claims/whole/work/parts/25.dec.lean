/-! THE METHODS AS FUNCTIONS, 8 -/
/-- NineWheelModel.keep(I)I -/
theorem ft133 : ∀ (i : Nat) {q : Nat × XI}, cd133[i]? = some q → fetch 133 q.1 = some q.2 := ft_of (by decide +kernel)
theorem pr133 : pRt 133 = some .int := rfl
def f133_H43 (n : Nat)  (K28 : Nat → Int32 → Int32 → Wd → Option (Int32 × Wd)) : Nat → Nat → Int32 → Int32 → Int32 → Wd → Option (Int32 × Wd)
  | 0, _, _, _, _, _ => none
  | k + 1, v0, v1, v2, v3, w =>
    (if (6 : Int32) ≤ v3 then K28 v0 v1 v2 w
      else ob (getR w 11 v0 61) (fun x15 => ob (getR w 11 v0 10) (fun x17 => ob (aldI w x17 v3) (fun x19 => ob (astI w x15 ((v2 + (2 : Int32)) + v3) x19) (fun w21 => ob (getR w21 11 v0 61) (fun x23 => ob (getR w21 11 v0 11) (fun x25 => ob (aldI w21 x25 v3) (fun x27 => ob (astI w21 x23 ((v2 + (8 : Int32)) + v3) x27) (fun w29 => (fun (v0 : Nat) (v1 : Int32) (v2 : Int32) (v3 : Int32) w => f133_H43 n  K28 k v0 v1 v2 v3 w) v0 v1 v2 (v3 + (1 : Int32)) w29)))))))))
set_option maxRecDepth 10000 in
theorem rf133_H43 {S : Sc} (n : Nat)  (K28 : Nat → Int32 → Int32 → Wd → Option (Int32 × Wd))  (hK28 : ∀ (y0 : Nat) (y1 : Int32) (y2 : Int32) (w : Wd) (o : (Int32 × Wd)), K28 y0 y1 y2 w = some o → Rn S 133 88 [some (.ref y0), some (.int y1), some (.int y2), none] [] w (some (.int o.1), o.2)) : ∀ (k : Nat) (v0 : Nat) (v1 : Int32) (v2 : Int32) (v3 : Int32) (w : Wd) (o : (Int32 × Wd)), f133_H43 n  K28 k v0 v1 v2 v3 w = some o → Rn S 133 43 [some (.ref v0), some (.int v1), some (.int v2), some (.int v3)] [] w (some (.int o.1), o.2) := by
  intro k
  induction k with
  | zero =>
    intro v0 v1 v2 v3 w o h
    exact nomatch h
  | succ k ih =>
    intro v0 v1 v2 v3 w o h
    have hrec28 : ∀ (y0 : Nat) (y1 : Int32) (y2 : Int32) (y3 : Int32) (w : Wd) (o : (Int32 × Wd)), (fun (v0 : Nat) (v1 : Int32) (v2 : Int32) (v3 : Int32) w => f133_H43 n  K28 k v0 v1 v2 v3 w) y0 y1 y2 y3 w = some o → Rn S 133 43 [some (.ref y0), some (.int y1), some (.int y2), some (.int y3)] [] w (some (.int o.1), o.2) := fun y0 y1 y2 y3 w o h => ih y0 y1 y2 y3 w o h
    unfold f133_H43 at h
    refine rn_iload_n (ft133 28 rfl) rfl ?_
    refine rn_bipush (v := (6 : Int32)) (ft133 29 rfl) (by decide) ?_
    by_cases c31 : (6 : Int32) ≤ v3
    · replace h := ifp c31 h
      refine rn_icmp_ge_t (ft133 30 rfl) c31 ?_
      exact rn_forget (ls := [some (.ref v0), some (.int v1), some (.int v2), none]) (And.intro rfl (And.intro rfl (And.intro rfl trivial))) (hK28 v0 v1 v2 w _ h)
    · replace h := ifn c31 h
      refine rn_icmp_ge_f (ft133 30 rfl) c31 ?_
      refine rn_aload_n (ft133 31 rfl) rfl ?_
      obtain ⟨x15, q16, h⟩ := ob_some h
      refine rn_getR (ft133 32 rfl) q16 ?_
      refine rn_iload_n (ft133 33 rfl) rfl ?_
      refine rn_iconst (v := (2 : Int32)) (ft133 34 rfl) (by decide) ?_
      refine rn_iadd (ft133 35 rfl) ?_
      refine rn_iload_n (ft133 36 rfl) rfl ?_
      refine rn_iadd (ft133 37 rfl) ?_
      refine rn_aload_n (ft133 38 rfl) rfl ?_
      obtain ⟨x17, q18, h⟩ := ob_some h
      refine rn_getR (ft133 39 rfl) q18 ?_
      refine rn_iload_n (ft133 40 rfl) rfl ?_
      obtain ⟨x19, q20, h⟩ := ob_some h
      refine rn_iaload (ft133 41 rfl) q20 ?_
      obtain ⟨w21, q22, h⟩ := ob_some h
      refine rn_iastore (ft133 42 rfl) q22 ?_
      refine rn_aload_n (ft133 43 rfl) rfl ?_
      obtain ⟨x23, q24, h⟩ := ob_some h
      refine rn_getR (ft133 44 rfl) q24 ?_
      refine rn_iload_n (ft133 45 rfl) rfl ?_
      refine rn_bipush (v := (8 : Int32)) (ft133 46 rfl) (by decide) ?_
      refine rn_iadd (ft133 47 rfl) ?_
      refine rn_iload_n (ft133 48 rfl) rfl ?_
      refine rn_iadd (ft133 49 rfl) ?_
      refine rn_aload_n (ft133 50 rfl) rfl ?_
      obtain ⟨x25, q26, h⟩ := ob_some h
      refine rn_getR (ft133 51 rfl) q26 ?_
      refine rn_iload_n (ft133 52 rfl) rfl ?_
      obtain ⟨x27, q28, h⟩ := ob_some h
      refine rn_iaload (ft133 53 rfl) q28 ?_
      obtain ⟨w29, q30, h⟩ := ob_some h
      refine rn_iastore (ft133 54 rfl) q30 ?_
      refine rn_iinc (u := 1) (ls' := [some (.ref v0), some (.int v1), some (.int v2), some (.int (v3 + (1 : Int32)))]) (ft133 55 rfl) rfl (by decide) rfl ?_
      refine rn_goto (ft133 56 rfl) ?_
      exact rn_forget (ls := [some (.ref v0), some (.int v1), some (.int v2), some (.int (v3 + (1 : Int32)))]) (And.intro rfl (And.intro rfl (And.intro rfl (And.intro rfl trivial)))) (hrec28 v0 v1 v2 (v3 + (1 : Int32)) w29 _ h)
def f133_H90 (n : Nat)  (K59 : Nat → Int32 → Wd → Option (Int32 × Wd)) : Nat → Nat → Int32 → Int32 → Int32 → Wd → Option (Int32 × Wd)
  | 0, _, _, _, _, _ => none
  | k + 1, v0, v1, v2, v3, w =>
    (if (40 : Int32) ≤ v3 then K59 v0 v1 w
      else ob (getR w 11 v0 61) (fun x33 => ob (getR w 11 v0 57) (fun x35 => ob (aldI w x35 v3) (fun x37 => ob (astI w x33 ((v2 + (14 : Int32)) + v3) x37) (fun w39 => (fun (v0 : Nat) (v1 : Int32) (v2 : Int32) (v3 : Int32) w => f133_H90 n  K59 k v0 v1 v2 v3 w) v0 v1 v2 (v3 + (1 : Int32)) w39)))))
set_option maxRecDepth 10000 in
theorem rf133_H90 {S : Sc} (n : Nat)  (K59 : Nat → Int32 → Wd → Option (Int32 × Wd))  (hK59 : ∀ (y0 : Nat) (y1 : Int32) (w : Wd) (o : (Int32 × Wd)), K59 y0 y1 w = some o → Rn S 133 119 [some (.ref y0), some (.int y1), none, none] [] w (some (.int o.1), o.2)) : ∀ (k : Nat) (v0 : Nat) (v1 : Int32) (v2 : Int32) (v3 : Int32) (w : Wd) (o : (Int32 × Wd)), f133_H90 n  K59 k v0 v1 v2 v3 w = some o → Rn S 133 90 [some (.ref v0), some (.int v1), some (.int v2), some (.int v3)] [] w (some (.int o.1), o.2) := by
  intro k
  induction k with
  | zero =>
    intro v0 v1 v2 v3 w o h
    exact nomatch h
  | succ k ih =>
    intro v0 v1 v2 v3 w o h
    have hrec59 : ∀ (y0 : Nat) (y1 : Int32) (y2 : Int32) (y3 : Int32) (w : Wd) (o : (Int32 × Wd)), (fun (v0 : Nat) (v1 : Int32) (v2 : Int32) (v3 : Int32) w => f133_H90 n  K59 k v0 v1 v2 v3 w) y0 y1 y2 y3 w = some o → Rn S 133 90 [some (.ref y0), some (.int y1), some (.int y2), some (.int y3)] [] w (some (.int o.1), o.2) := fun y0 y1 y2 y3 w o h => ih y0 y1 y2 y3 w o h
    unfold f133_H90 at h
    refine rn_iload_n (ft133 59 rfl) rfl ?_
    refine rn_bipush (v := (40 : Int32)) (ft133 60 rfl) (by decide) ?_
    by_cases c41 : (40 : Int32) ≤ v3
    · replace h := ifp c41 h
      refine rn_icmp_ge_t (ft133 61 rfl) c41 ?_
      exact rn_forget (ls := [some (.ref v0), some (.int v1), none, none]) (And.intro rfl (And.intro rfl trivial)) (hK59 v0 v1 w _ h)
    · replace h := ifn c41 h
      refine rn_icmp_ge_f (ft133 61 rfl) c41 ?_
      refine rn_aload_n (ft133 62 rfl) rfl ?_
      obtain ⟨x33, q34, h⟩ := ob_some h
      refine rn_getR (ft133 63 rfl) q34 ?_
      refine rn_iload_n (ft133 64 rfl) rfl ?_
      refine rn_bipush (v := (14 : Int32)) (ft133 65 rfl) (by decide) ?_
      refine rn_iadd (ft133 66 rfl) ?_
      refine rn_iload_n (ft133 67 rfl) rfl ?_
      refine rn_iadd (ft133 68 rfl) ?_
      refine rn_aload_n (ft133 69 rfl) rfl ?_
      obtain ⟨x35, q36, h⟩ := ob_some h
      refine rn_getR (ft133 70 rfl) q36 ?_
      refine rn_iload_n (ft133 71 rfl) rfl ?_
      obtain ⟨x37, q38, h⟩ := ob_some h
      refine rn_iaload (ft133 72 rfl) q38 ?_
      obtain ⟨w39, q40, h⟩ := ob_some h
      refine rn_iastore (ft133 73 rfl) q40 ?_
      refine rn_iinc (u := 1) (ls' := [some (.ref v0), some (.int v1), some (.int v2), some (.int (v3 + (1 : Int32)))]) (ft133 74 rfl) rfl (by decide) rfl ?_
      refine rn_goto (ft133 75 rfl) ?_
      exact rn_forget (ls := [some (.ref v0), some (.int v1), some (.int v2), some (.int (v3 + (1 : Int32)))]) (And.intro rfl (And.intro rfl (And.intro rfl (And.intro rfl trivial)))) (hrec59 v0 v1 v2 (v3 + (1 : Int32)) w39 _ h)
def f133 (n : Nat) (v0 : Nat) (v1 : Int32) (w : Wd) : Option (Int32 × Wd) :=
  ob (f39 (Int32.toInt64 v1) (0 : Int64) (1 : Int64) w) (fun p1 => (if ¬ p1.1 = 0 then ob (getR p1.2 11 v0 61) (fun x3 => ob (getI p1.2 11 v0 56) (fun x5 => ob (astI p1.2 x3 ((60 : Int32) * v1) x5) (fun w7 => ob (getR w7 11 v0 61) (fun x9 => ob (getI w7 11 v0 60) (fun x11 => ob (astI w7 x9 (((60 : Int32) * v1) + (1 : Int32)) x11) (fun w13 => f133_H43 n  (fun (e0_32 : Nat) (e1_32 : Int32) (e2_32 : Int32) (w32 : Wd) => f133_H90 n  (fun (e0_42 : Nat) (e1_42 : Int32) (w42 : Wd) => ob (getR w42 11 e0_42 62) (fun x43 => ob (astB w42 x43 e1_42 (1 : Int32)) (fun w45 => some ((1 : Int32), w45)))) n e0_32 e1_32 e2_32 (0 : Int32) w32) n v0 v1 ((60 : Int32) * v1) (0 : Int32) w13))))))
    else some ((-1000001 : Int32), p1.2)))
set_option maxRecDepth 10000 in
theorem r133 {S : Sc} (n : Nat) (v0 : Nat) (v1 : Int32) (w : Wd) (o : (Int32 × Wd)) (h : f133 n v0 v1 w = some o) : Rn S 133 0 [some (.ref v0), some (.int v1), none, none] [] w (some (.int o.1), o.2) := by
  unfold f133 at h
  refine rn_iload_n (ft133 0 rfl) rfl ?_
  refine rn_i2l (ft133 1 rfl) ?_
  refine rn_lconst (v := (0 : Int64)) (ft133 2 rfl) (by decide) ?_
  refine rn_lconst (v := (1 : Int64)) (ft133 3 rfl) (by decide) ?_
  obtain ⟨p1, q2, h⟩ := ob_some h
  refine rn_callS (as := [.long (Int32.toInt64 v1), .long (0 : Int64), .long (1 : Int64)]) (r := []) (v := (some (.int p1.1))) (w1 := p1.2) (ft133 4 rfl) (by decide +kernel) rfl (Nat.le_of_ble_eq_true rfl) (Nat.le_of_ble_eq_true rfl) (r39 (Int32.toInt64 v1) (0 : Int64) (1 : Int64) w _ q2) ?_
  by_cases c47 : ¬ p1.1 = 0
  · replace h := ifp c47 h
    refine rn_if_ne_t (ft133 5 rfl) c47 ?_
    refine rn_bipush (v := (60 : Int32)) (ft133 8 rfl) (by decide) ?_
    refine rn_iload_n (ft133 9 rfl) rfl ?_
    refine rn_imul (ft133 10 rfl) ?_
    refine rn_istore_n (ls' := [some (.ref v0), some (.int v1), some (.int ((60 : Int32) * v1)), none]) (ft133 11 rfl) rfl ?_
    refine rn_aload_n (ft133 12 rfl) rfl ?_
    obtain ⟨x3, q4, h⟩ := ob_some h
    refine rn_getR (ft133 13 rfl) q4 ?_
    refine rn_iload_n (ft133 14 rfl) rfl ?_
    refine rn_aload_n (ft133 15 rfl) rfl ?_
    obtain ⟨x5, q6, h⟩ := ob_some h
    refine rn_getI (ft133 16 rfl) (by decide) (by decide) q6 ?_
    obtain ⟨w7, q8, h⟩ := ob_some h
    refine rn_iastore (ft133 17 rfl) q8 ?_
    refine rn_aload_n (ft133 18 rfl) rfl ?_
    obtain ⟨x9, q10, h⟩ := ob_some h
    refine rn_getR (ft133 19 rfl) q10 ?_
    refine rn_iload_n (ft133 20 rfl) rfl ?_
    refine rn_iconst (v := (1 : Int32)) (ft133 21 rfl) (by decide) ?_
    refine rn_iadd (ft133 22 rfl) ?_
    refine rn_aload_n (ft133 23 rfl) rfl ?_
    obtain ⟨x11, q12, h⟩ := ob_some h
    refine rn_getI (ft133 24 rfl) (by decide) (by decide) q12 ?_
    obtain ⟨w13, q14, h⟩ := ob_some h
    refine rn_iastore (ft133 25 rfl) q14 ?_
    refine rn_iconst (v := (0 : Int32)) (ft133 26 rfl) (by decide) ?_
    refine rn_istore_n (ls' := [some (.ref v0), some (.int v1), some (.int ((60 : Int32) * v1)), some (.int (0 : Int32))]) (ft133 27 rfl) rfl ?_
    refine rn_forget (ls := [some (.ref v0), some (.int v1), some (.int ((60 : Int32) * v1)), some (.int (0 : Int32))]) (And.intro rfl (And.intro rfl (And.intro rfl (And.intro rfl trivial)))) (rf133_H43 n  _  (fun e0_32 e1_32 e2_32 w32 o h => ?_) n v0 v1 ((60 : Int32) * v1) (0 : Int32) w13 _ h)
    refine rn_iconst (v := (0 : Int32)) (ft133 57 rfl) (by decide) ?_
    refine rn_istore_n (ls' := [some (.ref e0_32), some (.int e1_32), some (.int e2_32), some (.int (0 : Int32))]) (ft133 58 rfl) rfl ?_
    refine rn_forget (ls := [some (.ref e0_32), some (.int e1_32), some (.int e2_32), some (.int (0 : Int32))]) (And.intro rfl (And.intro rfl (And.intro rfl (And.intro rfl trivial)))) (rf133_H90 n  _  (fun e0_42 e1_42 w42 o h => ?_) n e0_32 e1_32 e2_32 (0 : Int32) w32 _ h)
    refine rn_aload_n (ft133 76 rfl) rfl ?_
    obtain ⟨x43, q44, h⟩ := ob_some h
    refine rn_getR (ft133 77 rfl) q44 ?_
    refine rn_iload_n (ft133 78 rfl) rfl ?_
    refine rn_iconst (v := (1 : Int32)) (ft133 79 rfl) (by decide) ?_
    obtain ⟨w45, q46, h⟩ := ob_some h
    refine rn_bastore (ft133 80 rfl) q46 ?_
    refine rn_iconst (v := (1 : Int32)) (ft133 81 rfl) (by decide) ?_
    cases h
    exact rn_iretI pr133 (ft133 82 rfl)
  · replace h := ifn c47 h
    refine rn_if_ne_f (ft133 5 rfl) c47 ?_
    refine rn_ldcw (v := (-1000001 : Int32)) (ft133 6 rfl) (by decide) ?_
    cases h
    exact rn_iretI pr133 (ft133 7 rfl)
/-- NineWheelModel.goBack(I)I -/
theorem ft134 : ∀ (i : Nat) {q : Nat × XI}, cd134[i]? = some q → fetch 134 q.1 = some q.2 := ft_of (by decide +kernel)
theorem pr134 : pRt 134 = some .int := rfl
def f134_H56 (n : Nat)  (K35 : Nat → Int32 → Wd → Option (Int32 × Wd)) : Nat → Nat → Int32 → Int32 → Wd → Option (Int32 × Wd)
  | 0, _, _, _, _ => none
  | k + 1, v0, v2, v3, w =>
    (if (6 : Int32) ≤ v3 then K35 v0 v2 w
      else ob (getR w 11 v0 10) (fun x19 => ob (getR w 11 v0 61) (fun x21 => ob (aldI w x21 ((v2 + (2 : Int32)) + v3)) (fun x23 => ob (astI w x19 v3 x23) (fun w25 => ob (getR w25 11 v0 11) (fun x27 => ob (getR w25 11 v0 61) (fun x29 => ob (aldI w25 x29 ((v2 + (8 : Int32)) + v3)) (fun x31 => ob (astI w25 x27 v3 x31) (fun w33 => (fun (v0 : Nat) (v2 : Int32) (v3 : Int32) w => f134_H56 n  K35 k v0 v2 v3 w) v0 v2 (v3 + (1 : Int32)) w33)))))))))
set_option maxRecDepth 10000 in
theorem rf134_H56 {S : Sc} (n : Nat)  (K35 : Nat → Int32 → Wd → Option (Int32 × Wd))  (hK35 : ∀ (y0 : Nat) (y2 : Int32) (w : Wd) (o : (Int32 × Wd)), K35 y0 y2 w = some o → Rn S 134 101 [some (.ref y0), none, some (.int y2), none] [] w (some (.int o.1), o.2)) : ∀ (k : Nat) (v0 : Nat) (v2 : Int32) (v3 : Int32) (w : Wd) (o : (Int32 × Wd)), f134_H56 n  K35 k v0 v2 v3 w = some o → Rn S 134 56 [some (.ref v0), none, some (.int v2), some (.int v3)] [] w (some (.int o.1), o.2) := by
  intro k
  induction k with
  | zero =>
    intro v0 v2 v3 w o h
    exact nomatch h
  | succ k ih =>
    intro v0 v2 v3 w o h
    have hrec35 : ∀ (y0 : Nat) (y2 : Int32) (y3 : Int32) (w : Wd) (o : (Int32 × Wd)), (fun (v0 : Nat) (v2 : Int32) (v3 : Int32) w => f134_H56 n  K35 k v0 v2 v3 w) y0 y2 y3 w = some o → Rn S 134 56 [some (.ref y0), none, some (.int y2), some (.int y3)] [] w (some (.int o.1), o.2) := fun y0 y2 y3 w o h => ih y0 y2 y3 w o h
    unfold f134_H56 at h
    refine rn_iload_n (ft134 35 rfl) rfl ?_
    refine rn_bipush (v := (6 : Int32)) (ft134 36 rfl) (by decide) ?_
    by_cases c35 : (6 : Int32) ≤ v3
    · replace h := ifp c35 h
      refine rn_icmp_ge_t (ft134 37 rfl) c35 ?_
      exact rn_forget (ls := [some (.ref v0), none, some (.int v2), none]) (And.intro rfl (And.intro rfl trivial)) (hK35 v0 v2 w _ h)
    · replace h := ifn c35 h
      refine rn_icmp_ge_f (ft134 37 rfl) c35 ?_
      refine rn_aload_n (ft134 38 rfl) rfl ?_
      obtain ⟨x19, q20, h⟩ := ob_some h
      refine rn_getR (ft134 39 rfl) q20 ?_
      refine rn_iload_n (ft134 40 rfl) rfl ?_
      refine rn_aload_n (ft134 41 rfl) rfl ?_
      obtain ⟨x21, q22, h⟩ := ob_some h
      refine rn_getR (ft134 42 rfl) q22 ?_
      refine rn_iload_n (ft134 43 rfl) rfl ?_
      refine rn_iconst (v := (2 : Int32)) (ft134 44 rfl) (by decide) ?_
      refine rn_iadd (ft134 45 rfl) ?_
      refine rn_iload_n (ft134 46 rfl) rfl ?_
      refine rn_iadd (ft134 47 rfl) ?_
      obtain ⟨x23, q24, h⟩ := ob_some h
      refine rn_iaload (ft134 48 rfl) q24 ?_
      obtain ⟨w25, q26, h⟩ := ob_some h
      refine rn_iastore (ft134 49 rfl) q26 ?_
      refine rn_aload_n (ft134 50 rfl) rfl ?_
      obtain ⟨x27, q28, h⟩ := ob_some h
      refine rn_getR (ft134 51 rfl) q28 ?_
      refine rn_iload_n (ft134 52 rfl) rfl ?_
      refine rn_aload_n (ft134 53 rfl) rfl ?_
      obtain ⟨x29, q30, h⟩ := ob_some h
      refine rn_getR (ft134 54 rfl) q30 ?_
      refine rn_iload_n (ft134 55 rfl) rfl ?_
      refine rn_bipush (v := (8 : Int32)) (ft134 56 rfl) (by decide) ?_
      refine rn_iadd (ft134 57 rfl) ?_
      refine rn_iload_n (ft134 58 rfl) rfl ?_
      refine rn_iadd (ft134 59 rfl) ?_
      obtain ⟨x31, q32, h⟩ := ob_some h
      refine rn_iaload (ft134 60 rfl) q32 ?_
      obtain ⟨w33, q34, h⟩ := ob_some h
      refine rn_iastore (ft134 61 rfl) q34 ?_
      refine rn_iinc (u := 1) (ls' := [some (.ref v0), none, some (.int v2), some (.int (v3 + (1 : Int32)))]) (ft134 62 rfl) rfl (by decide) rfl ?_
      refine rn_goto (ft134 63 rfl) ?_
      exact rn_forget (ls := [some (.ref v0), none, some (.int v2), some (.int (v3 + (1 : Int32)))]) (And.intro rfl (And.intro rfl (And.intro rfl trivial))) (hrec35 v0 v2 (v3 + (1 : Int32)) w33 _ h)
def f134_H103 (n : Nat)  (K66 : Nat → Wd → Option (Int32 × Wd)) : Nat → Nat → Int32 → Int32 → Wd → Option (Int32 × Wd)
  | 0, _, _, _, _ => none
  | k + 1, v0, v2, v3, w =>
    (if (40 : Int32) ≤ v3 then K66 v0 w
      else ob (getR w 11 v0 57) (fun x37 => ob (getR w 11 v0 61) (fun x39 => ob (aldI w x39 ((v2 + (14 : Int32)) + v3)) (fun x41 => ob (astI w x37 v3 x41) (fun w43 => (fun (v0 : Nat) (v2 : Int32) (v3 : Int32) w => f134_H103 n  K66 k v0 v2 v3 w) v0 v2 (v3 + (1 : Int32)) w43)))))
set_option maxRecDepth 10000 in
theorem rf134_H103 {S : Sc} (n : Nat)  (K66 : Nat → Wd → Option (Int32 × Wd))  (hK66 : ∀ (y0 : Nat) (w : Wd) (o : (Int32 × Wd)), K66 y0 w = some o → Rn S 134 132 [some (.ref y0), none, none, none] [] w (some (.int o.1), o.2)) : ∀ (k : Nat) (v0 : Nat) (v2 : Int32) (v3 : Int32) (w : Wd) (o : (Int32 × Wd)), f134_H103 n  K66 k v0 v2 v3 w = some o → Rn S 134 103 [some (.ref v0), none, some (.int v2), some (.int v3)] [] w (some (.int o.1), o.2) := by
  intro k
  induction k with
  | zero =>
    intro v0 v2 v3 w o h
    exact nomatch h
  | succ k ih =>
    intro v0 v2 v3 w o h
    have hrec66 : ∀ (y0 : Nat) (y2 : Int32) (y3 : Int32) (w : Wd) (o : (Int32 × Wd)), (fun (v0 : Nat) (v2 : Int32) (v3 : Int32) w => f134_H103 n  K66 k v0 v2 v3 w) y0 y2 y3 w = some o → Rn S 134 103 [some (.ref y0), none, some (.int y2), some (.int y3)] [] w (some (.int o.1), o.2) := fun y0 y2 y3 w o h => ih y0 y2 y3 w o h
    unfold f134_H103 at h
    refine rn_iload_n (ft134 66 rfl) rfl ?_
    refine rn_bipush (v := (40 : Int32)) (ft134 67 rfl) (by decide) ?_
    by_cases c45 : (40 : Int32) ≤ v3
    · replace h := ifp c45 h
      refine rn_icmp_ge_t (ft134 68 rfl) c45 ?_
      exact rn_forget (ls := [some (.ref v0), none, none, none]) (And.intro rfl trivial) (hK66 v0 w _ h)
    · replace h := ifn c45 h
      refine rn_icmp_ge_f (ft134 68 rfl) c45 ?_
      refine rn_aload_n (ft134 69 rfl) rfl ?_
      obtain ⟨x37, q38, h⟩ := ob_some h
      refine rn_getR (ft134 70 rfl) q38 ?_
      refine rn_iload_n (ft134 71 rfl) rfl ?_
      refine rn_aload_n (ft134 72 rfl) rfl ?_
      obtain ⟨x39, q40, h⟩ := ob_some h
      refine rn_getR (ft134 73 rfl) q40 ?_
      refine rn_iload_n (ft134 74 rfl) rfl ?_
      refine rn_bipush (v := (14 : Int32)) (ft134 75 rfl) (by decide) ?_
      refine rn_iadd (ft134 76 rfl) ?_
      refine rn_iload_n (ft134 77 rfl) rfl ?_
      refine rn_iadd (ft134 78 rfl) ?_
      obtain ⟨x41, q42, h⟩ := ob_some h
      refine rn_iaload (ft134 79 rfl) q42 ?_
      obtain ⟨w43, q44, h⟩ := ob_some h
      refine rn_iastore (ft134 80 rfl) q44 ?_
      refine rn_iinc (u := 1) (ls' := [some (.ref v0), none, some (.int v2), some (.int (v3 + (1 : Int32)))]) (ft134 81 rfl) rfl (by decide) rfl ?_
      refine rn_goto (ft134 82 rfl) ?_
      exact rn_forget (ls := [some (.ref v0), none, some (.int v2), some (.int (v3 + (1 : Int32)))]) (And.intro rfl (And.intro rfl (And.intro rfl trivial))) (hrec66 v0 v2 (v3 + (1 : Int32)) w43 _ h)
def f134 (n : Nat) (v0 : Nat) (v1 : Int32) (w : Wd) : Option (Int32 × Wd) :=
  ob (f39 (Int32.toInt64 v1) (0 : Int64) (1 : Int64) w) (fun p1 => (if ¬ p1.1 = 0 then ob (getR p1.2 11 v0 62) (fun x3 => ob (aldB p1.2 x3 v1) (fun x5 => (if ¬ x5 = 0 then ob (getR p1.2 11 v0 61) (fun x7 => ob (aldI p1.2 x7 ((60 : Int32) * v1)) (fun x9 => ob (putI p1.2 11 v0 56 x9) (fun w11 => ob (getR w11 11 v0 61) (fun x13 => ob (aldI w11 x13 (((60 : Int32) * v1) + (1 : Int32))) (fun x15 => ob (putI w11 11 v0 60 x15) (fun w17 => f134_H56 n  (fun (e0_36 : Nat) (e2_36 : Int32) (w36 : Wd) => f134_H103 n  (fun (e0_46 : Nat) (w46 : Wd) => ob (putZ w46 11 e0_46 34 (0 : Int32)) (fun w47 => some ((1 : Int32), w47))) n e0_36 e2_36 (0 : Int32) w36) n v0 ((60 : Int32) * v1) (0 : Int32) w17))))))
      else some ((-1000003 : Int32), p1.2))))
    else some ((-1000001 : Int32), p1.2)))
set_option maxRecDepth 10000 in
theorem r134 {S : Sc} (n : Nat) (v0 : Nat) (v1 : Int32) (w : Wd) (o : (Int32 × Wd)) (h : f134 n v0 v1 w = some o) : Rn S 134 0 [some (.ref v0), some (.int v1), none, none] [] w (some (.int o.1), o.2) := by
  unfold f134 at h
  refine rn_iload_n (ft134 0 rfl) rfl ?_
  refine rn_i2l (ft134 1 rfl) ?_
  refine rn_lconst (v := (0 : Int64)) (ft134 2 rfl) (by decide) ?_
  refine rn_lconst (v := (1 : Int64)) (ft134 3 rfl) (by decide) ?_
  obtain ⟨p1, q2, h⟩ := ob_some h
  refine rn_callS (as := [.long (Int32.toInt64 v1), .long (0 : Int64), .long (1 : Int64)]) (r := []) (v := (some (.int p1.1))) (w1 := p1.2) (ft134 4 rfl) (by decide +kernel) rfl (Nat.le_of_ble_eq_true rfl) (Nat.le_of_ble_eq_true rfl) (r39 (Int32.toInt64 v1) (0 : Int64) (1 : Int64) w _ q2) ?_
  by_cases c50 : ¬ p1.1 = 0
  · replace h := ifp c50 h
    refine rn_if_ne_t (ft134 5 rfl) c50 ?_
    refine rn_aload_n (ft134 8 rfl) rfl ?_
    obtain ⟨x3, q4, h⟩ := ob_some h
    refine rn_getR (ft134 9 rfl) q4 ?_
    refine rn_iload_n (ft134 10 rfl) rfl ?_
    obtain ⟨x5, q6, h⟩ := ob_some h
    refine rn_baload (ft134 11 rfl) q6 ?_
    by_cases c49 : ¬ x5 = 0
    · replace h := ifp c49 h
      refine rn_if_ne_t (ft134 12 rfl) c49 ?_
      refine rn_bipush (v := (60 : Int32)) (ft134 15 rfl) (by decide) ?_
      refine rn_iload_n (ft134 16 rfl) rfl ?_
      refine rn_imul (ft134 17 rfl) ?_
      refine rn_istore_n (ls' := [some (.ref v0), some (.int v1), some (.int ((60 : Int32) * v1)), none]) (ft134 18 rfl) rfl ?_
      refine rn_aload_n (ft134 19 rfl) rfl ?_
      refine rn_aload_n (ft134 20 rfl) rfl ?_
      obtain ⟨x7, q8, h⟩ := ob_some h
      refine rn_getR (ft134 21 rfl) q8 ?_
      refine rn_iload_n (ft134 22 rfl) rfl ?_
      obtain ⟨x9, q10, h⟩ := ob_some h
      refine rn_iaload (ft134 23 rfl) q10 ?_
      obtain ⟨w11, q12, h⟩ := ob_some h
      refine rn_putI (ft134 24 rfl) q12 ?_
      refine rn_aload_n (ft134 25 rfl) rfl ?_
      refine rn_aload_n (ft134 26 rfl) rfl ?_
      obtain ⟨x13, q14, h⟩ := ob_some h
      refine rn_getR (ft134 27 rfl) q14 ?_
      refine rn_iload_n (ft134 28 rfl) rfl ?_
      refine rn_iconst (v := (1 : Int32)) (ft134 29 rfl) (by decide) ?_
      refine rn_iadd (ft134 30 rfl) ?_
      obtain ⟨x15, q16, h⟩ := ob_some h
      refine rn_iaload (ft134 31 rfl) q16 ?_
      obtain ⟨w17, q18, h⟩ := ob_some h
      refine rn_putI (ft134 32 rfl) q18 ?_
      refine rn_iconst (v := (0 : Int32)) (ft134 33 rfl) (by decide) ?_
      refine rn_istore_n (ls' := [some (.ref v0), some (.int v1), some (.int ((60 : Int32) * v1)), some (.int (0 : Int32))]) (ft134 34 rfl) rfl ?_
      refine rn_forget (ls := [some (.ref v0), none, some (.int ((60 : Int32) * v1)), some (.int (0 : Int32))]) (And.intro rfl (And.intro rfl (And.intro rfl trivial))) (rf134_H56 n  _  (fun e0_36 e2_36 w36 o h => ?_) n v0 ((60 : Int32) * v1) (0 : Int32) w17 _ h)
      refine rn_iconst (v := (0 : Int32)) (ft134 64 rfl) (by decide) ?_
      refine rn_istore_n (ls' := [some (.ref e0_36), none, some (.int e2_36), some (.int (0 : Int32))]) (ft134 65 rfl) rfl ?_
      refine rn_forget (ls := [some (.ref e0_36), none, some (.int e2_36), some (.int (0 : Int32))]) (And.intro rfl (And.intro rfl (And.intro rfl trivial))) (rf134_H103 n  _  (fun e0_46 w46 o h => ?_) n e0_36 e2_36 (0 : Int32) w36 _ h)
      refine rn_aload_n (ft134 83 rfl) rfl ?_
      refine rn_iconst (v := (0 : Int32)) (ft134 84 rfl) (by decide) ?_
      obtain ⟨w47, q48, h⟩ := ob_some h
      refine rn_putZ (ft134 85 rfl) q48 ?_
      refine rn_iconst (v := (1 : Int32)) (ft134 86 rfl) (by decide) ?_
      cases h
      exact rn_iretI pr134 (ft134 87 rfl)
    · replace h := ifn c49 h
      refine rn_if_ne_f (ft134 12 rfl) c49 ?_
      refine rn_ldcw (v := (-1000003 : Int32)) (ft134 13 rfl) (by decide) ?_
      cases h
      exact rn_iretI pr134 (ft134 14 rfl)
  · replace h := ifn c50 h
    refine rn_if_ne_f (ft134 5 rfl) c50 ?_
    refine rn_ldcw (v := (-1000001 : Int32)) (ft134 6 rfl) (by decide) ?_
    cases h
    exact rn_iretI pr134 (ft134 7 rfl)
/-- NineWheel$Crew.<init>(LNineWheel$Sea;LNineWheel$Held;)V -/
theorem ft135 : ∀ (i : Nat) {q : Nat × XI}, cd135[i]? = some q → fetch 135 q.1 = some q.2 := ft_of (by decide +kernel)
theorem pr135 : pRt 135 = none := rfl
def f135 (v0 : Nat) (v1 : Nat) (v2 : Nat) (w : Wd) : Option Wd :=
  ob (putR (newC w 20 (Int32.toNatClampNeg (512 : Int32))) 2 v0 3 (wn w)) (fun w1 => ob (putR (newC w1 20 (Int32.toNatClampNeg (512 : Int32))) 2 v0 4 (wn w1)) (fun w3 => ob (putR (newC w3 20 (Int32.toNatClampNeg (512 : Int32))) 2 v0 5 (wn w3)) (fun w5 => ob (f69 (wn w5) (newC w5 8 (NF 8))) (fun p7 => ob (putR p7 2 v0 6 (wn w5)) (fun w9 => ob (putR w9 2 v0 0 v1) (fun w11 => ob (putR w11 2 v0 1 v2) (fun w13 => some w13)))))))
set_option maxRecDepth 10000 in
theorem r135 {S : Sc} (v0 : Nat) (v1 : Nat) (v2 : Nat) (w : Wd) (o : Wd) (h : f135 v0 v1 v2 w = some o) : Rn S 135 0 [some (.ref v0), some (.ref v1), some (.ref v2)] [] w (none, o) := by
  unfold f135 at h
  refine rn_aload_n (ft135 0 rfl) rfl ?_
  refine rn_objInit (ft135 1 rfl) (Nat.le_of_ble_eq_true rfl) ?_
  refine rn_aload_n (ft135 2 rfl) rfl ?_
  refine rn_sipush (v := (512 : Int32)) (ft135 3 rfl) (by decide) ?_
  refine rn_newA (kd := 20) (ft135 4 rfl) rfl (by decide) ?_
  obtain ⟨w1, q2, h⟩ := ob_some h
  refine rn_putR (ft135 5 rfl) q2 ?_
  refine rn_aload_n (ft135 6 rfl) rfl ?_
  refine rn_sipush (v := (512 : Int32)) (ft135 7 rfl) (by decide) ?_
  refine rn_newA (kd := 20) (ft135 8 rfl) rfl (by decide) ?_
  obtain ⟨w3, q4, h⟩ := ob_some h
  refine rn_putR (ft135 9 rfl) q4 ?_
  refine rn_aload_n (ft135 10 rfl) rfl ?_
  refine rn_sipush (v := (512 : Int32)) (ft135 11 rfl) (by decide) ?_
  refine rn_newA (kd := 20) (ft135 12 rfl) rfl (by decide) ?_
  obtain ⟨w5, q6, h⟩ := ob_some h
  refine rn_putR (ft135 13 rfl) q6 ?_
  refine rn_aload_n (ft135 14 rfl) rfl ?_
  refine rn_new (ft135 15 rfl) ?_
  refine rn_dup (ft135 16 rfl) rfl ?_
  obtain ⟨p7, q8, h⟩ := ob_some h
  refine rn_callI (as := []) (k0 := (wn w5)) (r := [.ref (wn w5), .ref v0]) (v := none) (w1 := p7) (ft135 17 rfl) (by decide +kernel) rfl (Nat.le_of_ble_eq_true rfl) (Nat.le_of_ble_eq_true rfl) (r69 (wn w5) (newC w5 8 (NF 8)) _ q8) ?_
  obtain ⟨w9, q10, h⟩ := ob_some h
  refine rn_putR (ft135 18 rfl) q10 ?_
  refine rn_aload_n (ft135 19 rfl) rfl ?_
  refine rn_aload_n (ft135 20 rfl) rfl ?_
  obtain ⟨w11, q12, h⟩ := ob_some h
  refine rn_putR (ft135 21 rfl) q12 ?_
  refine rn_aload_n (ft135 22 rfl) rfl ?_
  refine rn_aload_n (ft135 23 rfl) rfl ?_
  obtain ⟨w13, q14, h⟩ := ob_some h
  refine rn_putR (ft135 24 rfl) q14 ?_
  cases h
  exact rn_vret pr135 (ft135 25 rfl)
/-- NineWheel$Counting.<init>(LNineWheel$Sea;LNineWheel$Crew;LNineWheel$Rule;)V -/
theorem ft136 : ∀ (i : Nat) {q : Nat × XI}, cd136[i]? = some q → fetch 136 q.1 = some q.2 := ft_of (by decide +kernel)
theorem pr136 : pRt 136 = none := rfl
def f136 (v0 : Nat) (v1 : Nat) (v2 : Nat) (v3 : Nat) (w : Wd) : Option Wd :=
  ob (putR (newC w 20 (Int32.toNatClampNeg (512 : Int32))) 0 v0 5 (wn w)) (fun w1 => ob (putR (newC w1 20 (Int32.toNatClampNeg (6 : Int32))) 0 v0 6 (wn w1)) (fun w3 => ob (f69 (wn w3) (newC w3 8 (NF 8))) (fun p5 => ob (putR p5 0 v0 7 (wn w3)) (fun w7 => ob (putR w7 0 v0 0 v1) (fun w9 => ob (putR w9 0 v0 1 v2) (fun w11 => ob (putR w11 0 v0 2 v3) (fun w13 => some w13)))))))
set_option maxRecDepth 10000 in
theorem r136 {S : Sc} (v0 : Nat) (v1 : Nat) (v2 : Nat) (v3 : Nat) (w : Wd) (o : Wd) (h : f136 v0 v1 v2 v3 w = some o) : Rn S 136 0 [some (.ref v0), some (.ref v1), some (.ref v2), some (.ref v3)] [] w (none, o) := by
  unfold f136 at h
  refine rn_aload_n (ft136 0 rfl) rfl ?_
  refine rn_objInit (ft136 1 rfl) (Nat.le_of_ble_eq_true rfl) ?_
  refine rn_aload_n (ft136 2 rfl) rfl ?_
  refine rn_sipush (v := (512 : Int32)) (ft136 3 rfl) (by decide) ?_
  refine rn_newA (kd := 20) (ft136 4 rfl) rfl (by decide) ?_
  obtain ⟨w1, q2, h⟩ := ob_some h
  refine rn_putR (ft136 5 rfl) q2 ?_
  refine rn_aload_n (ft136 6 rfl) rfl ?_
  refine rn_bipush (v := (6 : Int32)) (ft136 7 rfl) (by decide) ?_
  refine rn_newA (kd := 20) (ft136 8 rfl) rfl (by decide) ?_
  obtain ⟨w3, q4, h⟩ := ob_some h
  refine rn_putR (ft136 9 rfl) q4 ?_
  refine rn_aload_n (ft136 10 rfl) rfl ?_
  refine rn_new (ft136 11 rfl) ?_
  refine rn_dup (ft136 12 rfl) rfl ?_
  obtain ⟨p5, q6, h⟩ := ob_some h
  refine rn_callI (as := []) (k0 := (wn w3)) (r := [.ref (wn w3), .ref v0]) (v := none) (w1 := p5) (ft136 13 rfl) (by decide +kernel) rfl (Nat.le_of_ble_eq_true rfl) (Nat.le_of_ble_eq_true rfl) (r69 (wn w3) (newC w3 8 (NF 8)) _ q6) ?_
  obtain ⟨w7, q8, h⟩ := ob_some h
  refine rn_putR (ft136 14 rfl) q8 ?_
  refine rn_aload_n (ft136 15 rfl) rfl ?_
  refine rn_aload_n (ft136 16 rfl) rfl ?_
  obtain ⟨w9, q10, h⟩ := ob_some h
  refine rn_putR (ft136 17 rfl) q10 ?_
  refine rn_aload_n (ft136 18 rfl) rfl ?_
  refine rn_aload_n (ft136 19 rfl) rfl ?_
  obtain ⟨w11, q12, h⟩ := ob_some h
  refine rn_putR (ft136 20 rfl) q12 ?_
  refine rn_aload_n (ft136 21 rfl) rfl ?_
  refine rn_aload_n (ft136 22 rfl) rfl ?_
  obtain ⟨w13, q14, h⟩ := ob_some h
  refine rn_putR (ft136 23 rfl) q14 ?_
  cases h
  exact rn_vret pr136 (ft136 24 rfl)
/-- NineWheel$Journey.<init>(LNineWheel$Sea;LNineWheel$Crew;LNineWheel$Counting;LNineWheel$Held;)V -/
theorem ft137 : ∀ (i : Nat) {q : Nat × XI}, cd137[i]? = some q → fetch 137 q.1 = some q.2 := ft_of (by decide +kernel)
theorem pr137 : pRt 137 = none := rfl
def f137 (v0 : Nat) (v1 : Nat) (v2 : Nat) (v3 : Nat) (v4 : Nat) (w : Wd) : Option Wd :=
  ob (f69 (wn w) (newC w 8 (NF 8))) (fun p1 => ob (putR p1 4 v0 4 (wn w)) (fun w3 => ob (putR (newC w3 20 (Int32.toNatClampNeg (401 : Int32))) 4 v0 5 (wn w3)) (fun w5 => ob (putR (newC w5 20 (Int32.toNatClampNeg (400 : Int32))) 4 v0 6 (wn w5)) (fun w7 => ob (putR w7 4 v0 0 v1) (fun w9 => ob (putR w9 4 v0 1 v2) (fun w11 => ob (putR w11 4 v0 2 v3) (fun w13 => ob (putR w13 4 v0 3 v4) (fun w15 => some w15))))))))
set_option maxRecDepth 10000 in
theorem r137 {S : Sc} (v0 : Nat) (v1 : Nat) (v2 : Nat) (v3 : Nat) (v4 : Nat) (w : Wd) (o : Wd) (h : f137 v0 v1 v2 v3 v4 w = some o) : Rn S 137 0 [some (.ref v0), some (.ref v1), some (.ref v2), some (.ref v3), some (.ref v4)] [] w (none, o) := by
  unfold f137 at h
  refine rn_aload_n (ft137 0 rfl) rfl ?_
  refine rn_objInit (ft137 1 rfl) (Nat.le_of_ble_eq_true rfl) ?_
  refine rn_aload_n (ft137 2 rfl) rfl ?_
  refine rn_new (ft137 3 rfl) ?_
  refine rn_dup (ft137 4 rfl) rfl ?_
  obtain ⟨p1, q2, h⟩ := ob_some h
  refine rn_callI (as := []) (k0 := (wn w)) (r := [.ref (wn w), .ref v0]) (v := none) (w1 := p1) (ft137 5 rfl) (by decide +kernel) rfl (Nat.le_of_ble_eq_true rfl) (Nat.le_of_ble_eq_true rfl) (r69 (wn w) (newC w 8 (NF 8)) _ q2) ?_
  obtain ⟨w3, q4, h⟩ := ob_some h
  refine rn_putR (ft137 6 rfl) q4 ?_
  refine rn_aload_n (ft137 7 rfl) rfl ?_
  refine rn_sipush (v := (401 : Int32)) (ft137 8 rfl) (by decide) ?_
  refine rn_newA (kd := 20) (ft137 9 rfl) rfl (by decide) ?_
  obtain ⟨w5, q6, h⟩ := ob_some h
  refine rn_putR (ft137 10 rfl) q6 ?_
  refine rn_aload_n (ft137 11 rfl) rfl ?_
  refine rn_sipush (v := (400 : Int32)) (ft137 12 rfl) (by decide) ?_
  refine rn_newA (kd := 20) (ft137 13 rfl) rfl (by decide) ?_
  obtain ⟨w7, q8, h⟩ := ob_some h
  refine rn_putR (ft137 14 rfl) q8 ?_
  refine rn_aload_n (ft137 15 rfl) rfl ?_
  refine rn_aload_n (ft137 16 rfl) rfl ?_
  obtain ⟨w9, q10, h⟩ := ob_some h
  refine rn_putR (ft137 17 rfl) q10 ?_
  refine rn_aload_n (ft137 18 rfl) rfl ?_
  refine rn_aload_n (ft137 19 rfl) rfl ?_
  obtain ⟨w11, q12, h⟩ := ob_some h
  refine rn_putR (ft137 20 rfl) q12 ?_
  refine rn_aload_n (ft137 21 rfl) rfl ?_
  refine rn_aload_n (ft137 22 rfl) rfl ?_
  obtain ⟨w13, q14, h⟩ := ob_some h
  refine rn_putR (ft137 23 rfl) q14 ?_
  refine rn_aload_n (ft137 24 rfl) rfl ?_
  refine rn_aload (ft137 25 rfl) rfl ?_
  obtain ⟨w15, q16, h⟩ := ob_some h
  refine rn_putR (ft137 26 rfl) q16 ?_
  cases h
  exact rn_vret pr137 (ft137 27 rfl)
/-- NineWheel$Text.ended()Z -/
theorem ft138 : ∀ (i : Nat) {q : Nat × XI}, cd138[i]? = some q → fetch 138 q.1 = some q.2 := ft_of (by decide +kernel)
theorem pr138 : pRt 138 = some .boolean := rfl
def f138 (n : Nat) (v0 : Nat) (w : Wd) : Option (Int32 × Wd) :=
  (if (wsh w v0).map (fun q => q.1) = some 9 then ob (f72 n v0 w) (fun p1 => ob (getI p1 9 v0 2) (fun x3 => ob (getI p1 9 v0 1) (fun x5 => (if x3 < x5 then some ((0 : Int32), p1)
    else some ((1 : Int32), p1))))) else none)
set_option maxRecDepth 10000 in
theorem r138 {S : Sc} (n : Nat) (v0 : Nat) (w : Wd) (o : (Int32 × Wd)) (h : f138 n v0 w = some o) : Rn S 138 0 [some (.ref v0)] [] w (some (.int o.1), o.2) := by
  unfold f138 at h
  refine rn_aload_n (ft138 0 rfl) rfl ?_
  obtain ⟨g8, h⟩ := ifg h
  obtain ⟨p1, q2, h⟩ := ob_some h
  refine rn_callV (as := []) (k0 := v0) (r := []) (v := none) (w1 := p1) (ft138 1 rfl) (by decide +kernel) rfl (Nat.le_of_ble_eq_true rfl) (Nat.le_of_ble_eq_true rfl) (r72 n v0 w _ q2) (by decide +kernel) g8 ?_
  refine rn_aload_n (ft138 2 rfl) rfl ?_
  obtain ⟨x3, q4, h⟩ := ob_some h
  refine rn_getI (ft138 3 rfl) (by decide) (by decide) q4 ?_
  refine rn_aload_n (ft138 4 rfl) rfl ?_
  obtain ⟨x5, q6, h⟩ := ob_some h
  refine rn_getI (ft138 5 rfl) (by decide) (by decide) q6 ?_
  by_cases c7 : x3 < x5
  · replace h := ifp c7 h
    refine rn_icmp_lt_t (ft138 6 rfl) c7 ?_
    refine rn_iconst (v := (0 : Int32)) (ft138 9 rfl) (by decide) ?_
    cases h
    exact rn_iretZ pr138 (by decide) (ft138 10 rfl)
  · replace h := ifn c7 h
    refine rn_icmp_lt_f (ft138 6 rfl) c7 ?_
    refine rn_iconst (v := (1 : Int32)) (ft138 7 rfl) (by decide) ?_
    refine rn_goto (ft138 8 rfl) ?_
    cases h
    exact rn_iretZ pr138 (by decide) (ft138 10 rfl)
/-- java/lang/StringLatin1.charAt([BI)C -/
theorem ft139 : ∀ (i : Nat) {q : Nat × XI}, cd139[i]? = some q → fetch 139 q.1 = some q.2 := ft_of (by decide +kernel)
theorem pr139 : pRt 139 = some .char := rfl
def f139 (v0 : UInt32) (v1 : Int32) (w : Wd) : Option (Int32 × Wd) :=
  ob (slen v0) (fun x1 => ob (f74 v1 x1 w) (fun p3 => ob (tldB stx v0 v1) (fun x5 => (if ((toC (x5 &&& (255 : Int32)))).toUInt32.toUInt16.toUInt32.toInt32 = (toC (x5 &&& (255 : Int32))) then some ((toC (x5 &&& (255 : Int32))), p3) else none))))
set_option maxRecDepth 10000 in
theorem r139 {S : Sc} (v0 : UInt32) (v1 : Int32) (w : Wd) (o : (Int32 × Wd)) (h : f139 v0 v1 w = some o) : Rn S 139 0 [some (.float v0), some (.int v1)] [] w (some (.int o.1), o.2) := by
  unfold f139 at h
  refine rn_iload_n (ft139 0 rfl) rfl ?_
  refine rn_aload_nS (ft139 1 rfl) rfl ?_
  obtain ⟨x1, q2, h⟩ := ob_some h
  refine rn_alenS (ft139 2 rfl) (slen_ok q2) ?_
  obtain ⟨p3, q4, h⟩ := ob_some h
  refine rn_callS (as := [.int v1, .int x1]) (r := []) (v := none) (w1 := p3) (ft139 3 rfl) (by decide +kernel) rfl (Nat.le_of_ble_eq_true rfl) (Nat.le_of_ble_eq_true rfl) (r74 v1 x1 w _ q4) ?_
  refine rn_aload_nS (ft139 4 rfl) rfl ?_
  refine rn_iload_n (ft139 5 rfl) rfl ?_
  obtain ⟨x5, q6, h⟩ := ob_some h
  refine rn_baloadS (ft139 6 rfl) q6 ?_
  refine rn_sipush (v := (255 : Int32)) (ft139 7 rfl) (by decide) ?_
  refine rn_iand (ft139 8 rfl) ?_
  refine rn_i2c (ft139 9 rfl) ?_
  obtain ⟨g7, h⟩ := ifg h
  cases h
  exact rn_iretC pr139 g7 (ft139 10 rfl)
/-- NineWheel$Text.number(II)I -/
theorem ft140 : ∀ (i : Nat) {q : Nat × XI}, cd140[i]? = some q → fetch 140 q.1 = some q.2 := ft_of (by decide +kernel)
theorem pr140 : pRt 140 = some .int := rfl
def f140_J134 (n : Nat) (rec36 : Nat → Int32 → Int32 → Int32 → Int32 → Int32 → Wd → Option (Int32 × Wd)) (K36 : Nat → Int32 → Int32 → Int32 → Int32 → Int32 → Wd → Option (Int32 × Wd)) (v0 : Nat) (v1 : Int32) (v2 : Int32) (v3 : Int32) (v4 : Int32) (v5 : Int32) (w : Wd) : Option (Int32 × Wd) :=
  ob (getI w 9 v0 2) (fun x25 => ob (putI w 9 v0 2 (x25 + (1 : Int32))) (fun w27 => rec36 v0 v1 v2 v3 v4 v5 w27))
set_option maxRecDepth 10000 in
theorem rf140_J134 {S : Sc} (n : Nat) (rec36 : Nat → Int32 → Int32 → Int32 → Int32 → Int32 → Wd → Option (Int32 × Wd)) (K36 : Nat → Int32 → Int32 → Int32 → Int32 → Int32 → Wd → Option (Int32 × Wd)) (v0 : Nat) (v1 : Int32) (v2 : Int32) (v3 : Int32) (v4 : Int32) (v5 : Int32) (w : Wd) (o : (Int32 × Wd)) (hrec36 : ∀ (y0 : Nat) (y1 : Int32) (y2 : Int32) (y3 : Int32) (y4 : Int32) (y5 : Int32) (w : Wd) (o : (Int32 × Wd)), rec36 y0 y1 y2 y3 y4 y5 w = some o → Rn S 140 67 [some (.ref y0), some (.int y1), some (.int y2), some (.int y3), some (.int y4), some (.int y5)] [] w (some (.int o.1), o.2)) (hK36 : ∀ (y0 : Nat) (y1 : Int32) (y2 : Int32) (y3 : Int32) (y4 : Int32) (y5 : Int32) (w : Wd) (o : (Int32 × Wd)), K36 y0 y1 y2 y3 y4 y5 w = some o → Rn S 140 147 [some (.ref y0), some (.int y1), some (.int y2), some (.int y3), some (.int y4), some (.int y5)] [] w (some (.int o.1), o.2)) (h : f140_J134 n rec36 K36 v0 v1 v2 v3 v4 v5 w = some o) : Rn S 140 134 [some (.ref v0), some (.int v1), some (.int v2), some (.int v3), some (.int v4), some (.int v5)] [] w (some (.int o.1), o.2) := by
  unfold f140_J134 at h
  refine rn_aload_n (ft140 70 rfl) rfl ?_
  refine rn_dup (ft140 71 rfl) rfl ?_
  obtain ⟨x25, q26, h⟩ := ob_some h
  refine rn_getI (ft140 72 rfl) (by decide) (by decide) q26 ?_
  refine rn_iconst (v := (1 : Int32)) (ft140 73 rfl) (by decide) ?_
  refine rn_iadd (ft140 74 rfl) ?_
  obtain ⟨w27, q28, h⟩ := ob_some h
  refine rn_putI (ft140 75 rfl) q28 ?_
  refine rn_goto (ft140 76 rfl) ?_
  exact rn_forget (ls := [some (.ref v0), some (.int v1), some (.int v2), some (.int v3), some (.int v4), some (.int v5)]) (And.intro rfl (And.intro rfl (And.intro rfl (And.intro rfl (And.intro rfl (And.intro rfl trivial)))))) (hrec36 v0 v1 v2 v3 v4 v5 w27 _ h)
def f140_H67 (n : Nat)  (K36 : Nat → Int32 → Int32 → Int32 → Int32 → Int32 → Wd → Option (Int32 × Wd)) : Nat → Nat → Int32 → Int32 → Int32 → Int32 → Int32 → Wd → Option (Int32 × Wd)
  | 0, _, _, _, _, _, _, _ => none
  | k + 1, v0, v1, v2, v3, v4, v5, w =>
    ob (getI w 9 v0 2) (fun x11 => ob (getI w 9 v0 1) (fun x13 => (if x13 ≤ x11 then K36 v0 v1 v2 v3 v4 v5 w
      else ob (getI w 9 v0 2) (fun x15 => (if (wsh w v0).map (fun q => q.1) = some 9 then ob (f4 v0 x15 w) (fun p17 => (if p17.1 < (48 : Int32) then K36 v0 v1 v2 v3 v4 v5 p17.2
        else ob (getI p17.2 9 v0 2) (fun x19 => (if (wsh p17.2 v0).map (fun q => q.1) = some 9 then ob (f4 v0 x19 p17.2) (fun p21 => (if (57 : Int32) < p21.1 then K36 v0 v1 v2 v3 v4 v5 p21.2
          else ob (getI p21.2 9 v0 2) (fun x23 => (if (2 : Int32) ≤ (x23 - v4) then f140_J134 n (fun (v0 : Nat) (v1 : Int32) (v2 : Int32) (v3 : Int32) (v4 : Int32) (v5 : Int32) w => f140_H67 n  K36 k v0 v1 v2 v3 v4 v5 w) K36 v0 v1 v2 v3 v4 v5 p21.2
            else ob (getI p21.2 9 v0 2) (fun x29 => (if (wsh p21.2 v0).map (fun q => q.1) = some 9 then ob (f4 v0 x29 p21.2) (fun p31 => f140_J134 n (fun (v0 : Nat) (v1 : Int32) (v2 : Int32) (v3 : Int32) (v4 : Int32) (v5 : Int32) w => f140_H67 n  K36 k v0 v1 v2 v3 v4 v5 w) K36 v0 v1 v2 v3 v4 ((((10 : Int32) * v5) + p31.1) - (48 : Int32)) p31.2) else none)))))) else none)))) else none)))))
set_option maxRecDepth 10000 in
theorem rf140_H67 {S : Sc} (n : Nat)  (K36 : Nat → Int32 → Int32 → Int32 → Int32 → Int32 → Wd → Option (Int32 × Wd))  (hK36 : ∀ (y0 : Nat) (y1 : Int32) (y2 : Int32) (y3 : Int32) (y4 : Int32) (y5 : Int32) (w : Wd) (o : (Int32 × Wd)), K36 y0 y1 y2 y3 y4 y5 w = some o → Rn S 140 147 [some (.ref y0), some (.int y1), some (.int y2), some (.int y3), some (.int y4), some (.int y5)] [] w (some (.int o.1), o.2)) : ∀ (k : Nat) (v0 : Nat) (v1 : Int32) (v2 : Int32) (v3 : Int32) (v4 : Int32) (v5 : Int32) (w : Wd) (o : (Int32 × Wd)), f140_H67 n  K36 k v0 v1 v2 v3 v4 v5 w = some o → Rn S 140 67 [some (.ref v0), some (.int v1), some (.int v2), some (.int v3), some (.int v4), some (.int v5)] [] w (some (.int o.1), o.2) := by
  intro k
  induction k with
  | zero =>
    intro v0 v1 v2 v3 v4 v5 w o h
    exact nomatch h
  | succ k ih =>
    intro v0 v1 v2 v3 v4 v5 w o h
    have hrec36 : ∀ (y0 : Nat) (y1 : Int32) (y2 : Int32) (y3 : Int32) (y4 : Int32) (y5 : Int32) (w : Wd) (o : (Int32 × Wd)), (fun (v0 : Nat) (v1 : Int32) (v2 : Int32) (v3 : Int32) (v4 : Int32) (v5 : Int32) w => f140_H67 n  K36 k v0 v1 v2 v3 v4 v5 w) y0 y1 y2 y3 y4 y5 w = some o → Rn S 140 67 [some (.ref y0), some (.int y1), some (.int y2), some (.int y3), some (.int y4), some (.int y5)] [] w (some (.int o.1), o.2) := fun y0 y1 y2 y3 y4 y5 w o h => ih y0 y1 y2 y3 y4 y5 w o h
    unfold f140_H67 at h
    refine rn_aload_n (ft140 36 rfl) rfl ?_
    obtain ⟨x11, q12, h⟩ := ob_some h
    refine rn_getI (ft140 37 rfl) (by decide) (by decide) q12 ?_
    refine rn_aload_n (ft140 38 rfl) rfl ?_
    obtain ⟨x13, q14, h⟩ := ob_some h
    refine rn_getI (ft140 39 rfl) (by decide) (by decide) q14 ?_
    by_cases c39 : x13 ≤ x11
    · replace h := ifp c39 h
      refine rn_icmp_ge_t (ft140 40 rfl) c39 ?_
      exact rn_forget (ls := [some (.ref v0), some (.int v1), some (.int v2), some (.int v3), some (.int v4), some (.int v5)]) (And.intro rfl (And.intro rfl (And.intro rfl (And.intro rfl (And.intro rfl (And.intro rfl trivial)))))) (hK36 v0 v1 v2 v3 v4 v5 w _ h)
    · replace h := ifn c39 h
      refine rn_icmp_ge_f (ft140 40 rfl) c39 ?_
      refine rn_aload_n (ft140 41 rfl) rfl ?_
      refine rn_aload_n (ft140 42 rfl) rfl ?_
      obtain ⟨x15, q16, h⟩ := ob_some h
      refine rn_getI (ft140 43 rfl) (by decide) (by decide) q16 ?_
      obtain ⟨g38, h⟩ := ifg h
      obtain ⟨p17, q18, h⟩ := ob_some h
      refine rn_callV (as := [.int x15]) (k0 := v0) (r := []) (v := (some (.int p17.1))) (w1 := p17.2) (ft140 44 rfl) (by decide +kernel) rfl (Nat.le_of_ble_eq_true rfl) (Nat.le_of_ble_eq_true rfl) (r4 v0 x15 w _ q18) (by decide +kernel) g38 ?_
      refine rn_bipush (v := (48 : Int32)) (ft140 45 rfl) (by decide) ?_
      by_cases c37 : p17.1 < (48 : Int32)
      · replace h := ifp c37 h
        refine rn_icmp_lt_t (ft140 46 rfl) c37 ?_
        exact rn_forget (ls := [some (.ref v0), some (.int v1), some (.int v2), some (.int v3), some (.int v4), some (.int v5)]) (And.intro rfl (And.intro rfl (And.intro rfl (And.intro rfl (And.intro rfl (And.intro rfl trivial)))))) (hK36 v0 v1 v2 v3 v4 v5 p17.2 _ h)
      · replace h := ifn c37 h
        refine rn_icmp_lt_f (ft140 46 rfl) c37 ?_
        refine rn_aload_n (ft140 47 rfl) rfl ?_
        refine rn_aload_n (ft140 48 rfl) rfl ?_
        obtain ⟨x19, q20, h⟩ := ob_some h
        refine rn_getI (ft140 49 rfl) (by decide) (by decide) q20 ?_
        obtain ⟨g36, h⟩ := ifg h
        obtain ⟨p21, q22, h⟩ := ob_some h
        refine rn_callV (as := [.int x19]) (k0 := v0) (r := []) (v := (some (.int p21.1))) (w1 := p21.2) (ft140 50 rfl) (by decide +kernel) rfl (Nat.le_of_ble_eq_true rfl) (Nat.le_of_ble_eq_true rfl) (r4 v0 x19 p17.2 _ q22) (by decide +kernel) g36 ?_
        refine rn_bipush (v := (57 : Int32)) (ft140 51 rfl) (by decide) ?_
        by_cases c35 : (57 : Int32) < p21.1
        · replace h := ifp c35 h
          refine rn_icmp_gt_t (ft140 52 rfl) c35 ?_
          exact rn_forget (ls := [some (.ref v0), some (.int v1), some (.int v2), some (.int v3), some (.int v4), some (.int v5)]) (And.intro rfl (And.intro rfl (And.intro rfl (And.intro rfl (And.intro rfl (And.intro rfl trivial)))))) (hK36 v0 v1 v2 v3 v4 v5 p21.2 _ h)
        · replace h := ifn c35 h
          refine rn_icmp_gt_f (ft140 52 rfl) c35 ?_
          refine rn_aload_n (ft140 53 rfl) rfl ?_
          obtain ⟨x23, q24, h⟩ := ob_some h
          refine rn_getI (ft140 54 rfl) (by decide) (by decide) q24 ?_
          refine rn_iload (ft140 55 rfl) rfl ?_
          refine rn_isub (ft140 56 rfl) ?_
          refine rn_iconst (v := (2 : Int32)) (ft140 57 rfl) (by decide) ?_
          by_cases c34 : (2 : Int32) ≤ (x23 - v4)
          · replace h := ifp c34 h
            refine rn_icmp_ge_t (ft140 58 rfl) c34 ?_
            exact rn_forget (ls := [some (.ref v0), some (.int v1), some (.int v2), some (.int v3), some (.int v4), some (.int v5)]) (And.intro rfl (And.intro rfl (And.intro rfl (And.intro rfl (And.intro rfl (And.intro rfl trivial)))))) (rf140_J134 n (fun (v0 : Nat) (v1 : Int32) (v2 : Int32) (v3 : Int32) (v4 : Int32) (v5 : Int32) w => f140_H67 n  K36 k v0 v1 v2 v3 v4 v5 w) K36 v0 v1 v2 v3 v4 v5 p21.2 _ hrec36 hK36 h)
          · replace h := ifn c34 h
            refine rn_icmp_ge_f (ft140 58 rfl) c34 ?_
            refine rn_bipush (v := (10 : Int32)) (ft140 59 rfl) (by decide) ?_
            refine rn_iload (ft140 60 rfl) rfl ?_
            refine rn_imul (ft140 61 rfl) ?_
            refine rn_aload_n (ft140 62 rfl) rfl ?_
            refine rn_aload_n (ft140 63 rfl) rfl ?_
            obtain ⟨x29, q30, h⟩ := ob_some h
            refine rn_getI (ft140 64 rfl) (by decide) (by decide) q30 ?_
            obtain ⟨g33, h⟩ := ifg h
            obtain ⟨p31, q32, h⟩ := ob_some h
            refine rn_callV (as := [.int x29]) (k0 := v0) (r := [.int ((10 : Int32) * v5)]) (v := (some (.int p31.1))) (w1 := p31.2) (ft140 65 rfl) (by decide +kernel) rfl (Nat.le_of_ble_eq_true rfl) (Nat.le_of_ble_eq_true rfl) (r4 v0 x29 p21.2 _ q32) (by decide +kernel) g33 ?_
            refine rn_iadd (ft140 66 rfl) ?_
            refine rn_bipush (v := (48 : Int32)) (ft140 67 rfl) (by decide) ?_
            refine rn_isub (ft140 68 rfl) ?_
            refine rn_istore (ls' := [some (.ref v0), some (.int v1), some (.int v2), some (.int v3), some (.int v4), some (.int ((((10 : Int32) * v5) + p31.1) - (48 : Int32)))]) (ft140 69 rfl) rfl ?_
            exact rn_forget (ls := [some (.ref v0), some (.int v1), some (.int v2), some (.int v3), some (.int v4), some (.int ((((10 : Int32) * v5) + p31.1) - (48 : Int32)))]) (And.intro rfl (And.intro rfl (And.intro rfl (And.intro rfl (And.intro rfl (And.intro rfl trivial)))))) (rf140_J134 n (fun (v0 : Nat) (v1 : Int32) (v2 : Int32) (v3 : Int32) (v4 : Int32) (v5 : Int32) w => f140_H67 n  K36 k v0 v1 v2 v3 v4 v5 w) K36 v0 v1 v2 v3 v4 ((((10 : Int32) * v5) + p31.1) - (48 : Int32)) p31.2 _ hrec36 hK36 h)
def f140_J207 (n : Nat)  (v0 : Nat) (v5 : Int32) (w : Wd) : Option (Int32 × Wd) :=
  ob (getI w 9 v0 4) (fun x49 => (if x49 = 0 then some (v5, w)
    else some ((0 : Int32), w)))
set_option maxRecDepth 10000 in
theorem rf140_J207 {S : Sc} (n : Nat)  (v0 : Nat) (v5 : Int32) (w : Wd) (o : (Int32 × Wd))  (h : f140_J207 n  v0 v5 w = some o) : Rn S 140 207 [some (.ref v0), none, none, none, none, some (.int v5)] [] w (some (.int o.1), o.2) := by
  unfold f140_J207 at h
  refine rn_aload_n (ft140 108 rfl) rfl ?_
  obtain ⟨x49, q50, h⟩ := ob_some h
  refine rn_getI (ft140 109 rfl) (by decide) (by decide) q50 ?_
  by_cases c51 : x49 = 0
  · replace h := ifp c51 h
    refine rn_if_eq_t (ft140 110 rfl) c51 ?_
    refine rn_iload (ft140 113 rfl) rfl ?_
    cases h
    exact rn_iretI pr140 (ft140 114 rfl)
  · replace h := ifn c51 h
    refine rn_if_eq_f (ft140 110 rfl) c51 ?_
    refine rn_iconst (v := (0 : Int32)) (ft140 111 rfl) (by decide) ?_
    refine rn_goto (ft140 112 rfl) ?_
    cases h
    exact rn_iretI pr140 (ft140 114 rfl)
def f140_J198 (n : Nat)  (v0 : Nat) (v5 : Int32) (w : Wd) : Option (Int32 × Wd) :=
  ob (getI w 9 v0 3) (fun x45 => (if (wsh w v0).map (fun q => q.1) = some 9 then ob (f8 v0 (2 : Int32) x45 w) (fun p47 => f140_J207 n  v0 v5 p47) else none))
set_option maxRecDepth 10000 in
theorem rf140_J198 {S : Sc} (n : Nat)  (v0 : Nat) (v5 : Int32) (w : Wd) (o : (Int32 × Wd))  (h : f140_J198 n  v0 v5 w = some o) : Rn S 140 198 [some (.ref v0), none, none, none, none, some (.int v5)] [] w (some (.int o.1), o.2) := by
  unfold f140_J198 at h
  refine rn_aload_n (ft140 103 rfl) rfl ?_
  refine rn_iconst (v := (2 : Int32)) (ft140 104 rfl) (by decide) ?_
  refine rn_aload_n (ft140 105 rfl) rfl ?_
  obtain ⟨x45, q46, h⟩ := ob_some h
  refine rn_getI (ft140 106 rfl) (by decide) (by decide) q46 ?_
  obtain ⟨g52, h⟩ := ifg h
  obtain ⟨p47, q48, h⟩ := ob_some h
  refine rn_callV (as := [.int (2 : Int32), .int x45]) (k0 := v0) (r := []) (v := none) (w1 := p47) (ft140 107 rfl) (by decide +kernel) rfl (Nat.le_of_ble_eq_true rfl) (Nat.le_of_ble_eq_true rfl) (r8 v0 (2 : Int32) x45 w _ q48) (by decide +kernel) g52 ?_
  exact rn_forget (ls := [some (.ref v0), none, none, none, none, some (.int v5)]) (And.intro rfl (And.intro rfl trivial)) (rf140_J207 n  v0 v5 p47 _  h)
def f140_J156 (n : Nat)  (v0 : Nat) (v1 : Int32) (v2 : Int32) (v4 : Int32) (v5 : Int32) (w : Wd) : Option (Int32 × Wd) :=
  ob (getI w 9 v0 2) (fun x41 => (if ¬ x41 = v4 then ob (getI w 9 v0 2) (fun x43 => (if (2 : Int32) < (x43 - v4) then f140_J198 n  v0 v5 w
      else ob (f0 v5 v1 v2 w) (fun p53 => (if p53.1 = 0 then f140_J207 n  v0 v5 p53.2
        else f140_J198 n  v0 v5 p53.2))))
    else ob (getI w 9 v0 2) (fun x57 => (if (wsh w v0).map (fun q => q.1) = some 9 then ob (f8 v0 (1 : Int32) x57 w) (fun p59 => f140_J207 n  v0 v5 p59) else none))))
set_option maxRecDepth 10000 in
theorem rf140_J156 {S : Sc} (n : Nat)  (v0 : Nat) (v1 : Int32) (v2 : Int32) (v4 : Int32) (v5 : Int32) (w : Wd) (o : (Int32 × Wd))  (h : f140_J156 n  v0 v1 v2 v4 v5 w = some o) : Rn S 140 156 [some (.ref v0), some (.int v1), some (.int v2), none, some (.int v4), some (.int v5)] [] w (some (.int o.1), o.2) := by
  unfold f140_J156 at h
  refine rn_aload_n (ft140 82 rfl) rfl ?_
  obtain ⟨x41, q42, h⟩ := ob_some h
  refine rn_getI (ft140 83 rfl) (by decide) (by decide) q42 ?_
  refine rn_iload (ft140 84 rfl) rfl ?_
  by_cases c62 : ¬ x41 = v4
  · replace h := ifp c62 h
    refine rn_icmp_ne_t (ft140 85 rfl) c62 ?_
    refine rn_aload_n (ft140 92 rfl) rfl ?_
    obtain ⟨x43, q44, h⟩ := ob_some h
    refine rn_getI (ft140 93 rfl) (by decide) (by decide) q44 ?_
    refine rn_iload (ft140 94 rfl) rfl ?_
    refine rn_isub (ft140 95 rfl) ?_
    refine rn_iconst (v := (2 : Int32)) (ft140 96 rfl) (by decide) ?_
    by_cases c56 : (2 : Int32) < (x43 - v4)
    · replace h := ifp c56 h
      refine rn_icmp_gt_t (ft140 97 rfl) c56 ?_
      exact rn_forget (ls := [some (.ref v0), none, none, none, none, some (.int v5)]) (And.intro rfl (And.intro rfl trivial)) (rf140_J198 n  v0 v5 w _  h)
    · replace h := ifn c56 h
      refine rn_icmp_gt_f (ft140 97 rfl) c56 ?_
      refine rn_iload (ft140 98 rfl) rfl ?_
      refine rn_iload_n (ft140 99 rfl) rfl ?_
      refine rn_iload_n (ft140 100 rfl) rfl ?_
      obtain ⟨p53, q54, h⟩ := ob_some h
      refine rn_callS (as := [.int v5, .int v1, .int v2]) (r := []) (v := (some (.int p53.1))) (w1 := p53.2) (ft140 101 rfl) (by decide +kernel) rfl (Nat.le_of_ble_eq_true rfl) (Nat.le_of_ble_eq_true rfl) (r0 v5 v1 v2 w _ q54) ?_
      by_cases c55 : p53.1 = 0
      · replace h := ifp c55 h
        refine rn_if_eq_t (ft140 102 rfl) c55 ?_
        exact rn_forget (ls := [some (.ref v0), none, none, none, none, some (.int v5)]) (And.intro rfl (And.intro rfl trivial)) (rf140_J207 n  v0 v5 p53.2 _  h)
      · replace h := ifn c55 h
        refine rn_if_eq_f (ft140 102 rfl) c55 ?_
        exact rn_forget (ls := [some (.ref v0), none, none, none, none, some (.int v5)]) (And.intro rfl (And.intro rfl trivial)) (rf140_J198 n  v0 v5 p53.2 _  h)
  · replace h := ifn c62 h
    refine rn_icmp_ne_f (ft140 85 rfl) c62 ?_
    refine rn_aload_n (ft140 86 rfl) rfl ?_
    refine rn_iconst (v := (1 : Int32)) (ft140 87 rfl) (by decide) ?_
    refine rn_aload_n (ft140 88 rfl) rfl ?_
    obtain ⟨x57, q58, h⟩ := ob_some h
    refine rn_getI (ft140 89 rfl) (by decide) (by decide) q58 ?_
    obtain ⟨g61, h⟩ := ifg h
    obtain ⟨p59, q60, h⟩ := ob_some h
    refine rn_callV (as := [.int (1 : Int32), .int x57]) (k0 := v0) (r := []) (v := none) (w1 := p59) (ft140 90 rfl) (by decide +kernel) rfl (Nat.le_of_ble_eq_true rfl) (Nat.le_of_ble_eq_true rfl) (r8 v0 (1 : Int32) x57 w _ q60) (by decide +kernel) g61 ?_
    refine rn_goto (ft140 91 rfl) ?_
    exact rn_forget (ls := [some (.ref v0), none, none, none, none, some (.int v5)]) (And.intro rfl (And.intro rfl trivial)) (rf140_J207 n  v0 v5 p59 _  h)
def f140_J147 (n : Nat)  (v0 : Nat) (v1 : Int32) (v2 : Int32) (v3 : Int32) (v4 : Int32) (v5 : Int32) (w : Wd) : Option (Int32 × Wd) :=
  (if v3 = 0 then f140_J156 n  v0 v1 v2 v4 v5 w
    else f140_J156 n  v0 v1 v2 v4 (-v5) w)
set_option maxRecDepth 10000 in
theorem rf140_J147 {S : Sc} (n : Nat)  (v0 : Nat) (v1 : Int32) (v2 : Int32) (v3 : Int32) (v4 : Int32) (v5 : Int32) (w : Wd) (o : (Int32 × Wd))  (h : f140_J147 n  v0 v1 v2 v3 v4 v5 w = some o) : Rn S 140 147 [some (.ref v0), some (.int v1), some (.int v2), some (.int v3), some (.int v4), some (.int v5)] [] w (some (.int o.1), o.2) := by
  unfold f140_J147 at h
  refine rn_iload_n (ft140 77 rfl) rfl ?_
  by_cases c63 : v3 = 0
  · replace h := ifp c63 h
    refine rn_if_eq_t (ft140 78 rfl) c63 ?_
    exact rn_forget (ls := [some (.ref v0), some (.int v1), some (.int v2), none, some (.int v4), some (.int v5)]) (And.intro rfl (And.intro rfl (And.intro rfl (And.intro rfl (And.intro rfl trivial))))) (rf140_J156 n  v0 v1 v2 v4 v5 w _  h)
  · replace h := ifn c63 h
    refine rn_if_eq_f (ft140 78 rfl) c63 ?_
    refine rn_iload (ft140 79 rfl) rfl ?_
    refine rn_ineg (ft140 80 rfl) ?_
    refine rn_istore (ls' := [some (.ref v0), some (.int v1), some (.int v2), some (.int v3), some (.int v4), some (.int (-v5))]) (ft140 81 rfl) rfl ?_
    exact rn_forget (ls := [some (.ref v0), some (.int v1), some (.int v2), none, some (.int v4), some (.int (-v5))]) (And.intro rfl (And.intro rfl (And.intro rfl (And.intro rfl (And.intro rfl trivial))))) (rf140_J156 n  v0 v1 v2 v4 (-v5) w _  h)
def f140_J58 (n : Nat)  (v0 : Nat) (v1 : Int32) (v2 : Int32) (v3 : Int32) (w : Wd) : Option (Int32 × Wd) :=
  ob (getI w 9 v0 2) (fun x9 => f140_H67 n  (fun (e0_40 : Nat) (e1_40 : Int32) (e2_40 : Int32) (e3_40 : Int32) (e4_40 : Int32) (e5_40 : Int32) (w40 : Wd) => f140_J147 n  e0_40 e1_40 e2_40 e3_40 e4_40 e5_40 w40) n v0 v1 v2 v3 x9 (0 : Int32) w)
set_option maxRecDepth 10000 in
theorem rf140_J58 {S : Sc} (n : Nat)  (v0 : Nat) (v1 : Int32) (v2 : Int32) (v3 : Int32) (w : Wd) (o : (Int32 × Wd))  (h : f140_J58 n  v0 v1 v2 v3 w = some o) : Rn S 140 58 [some (.ref v0), some (.int v1), some (.int v2), some (.int v3), none, none] [] w (some (.int o.1), o.2) := by
  unfold f140_J58 at h
  refine rn_aload_n (ft140 31 rfl) rfl ?_
  obtain ⟨x9, q10, h⟩ := ob_some h
  refine rn_getI (ft140 32 rfl) (by decide) (by decide) q10 ?_
  refine rn_istore (ls' := [some (.ref v0), some (.int v1), some (.int v2), some (.int v3), some (.int x9), none]) (ft140 33 rfl) rfl ?_
  refine rn_iconst (v := (0 : Int32)) (ft140 34 rfl) (by decide) ?_
  refine rn_istore (ls' := [some (.ref v0), some (.int v1), some (.int v2), some (.int v3), some (.int x9), some (.int (0 : Int32))]) (ft140 35 rfl) rfl ?_
  refine rn_forget (ls := [some (.ref v0), some (.int v1), some (.int v2), some (.int v3), some (.int x9), some (.int (0 : Int32))]) (And.intro rfl (And.intro rfl (And.intro rfl (And.intro rfl (And.intro rfl (And.intro rfl trivial)))))) (rf140_H67 n  _  (fun e0_40 e1_40 e2_40 e3_40 e4_40 e5_40 w40 o h => ?_) n v0 v1 v2 v3 x9 (0 : Int32) w _ h)
  exact rn_forget (ls := [some (.ref e0_40), some (.int e1_40), some (.int e2_40), some (.int e3_40), some (.int e4_40), some (.int e5_40)]) (And.intro rfl (And.intro rfl (And.intro rfl (And.intro rfl (And.intro rfl (And.intro rfl trivial)))))) (rf140_J147 n  e0_40 e1_40 e2_40 e3_40 e4_40 e5_40 w40 _  h)
def f140_J43 (n : Nat)  (v0 : Nat) (v1 : Int32) (v2 : Int32) (s0 : Int32) (w : Wd) : Option (Int32 × Wd) :=
  (if s0 = 0 then f140_J58 n  v0 v1 v2 s0 w
    else ob (getI w 9 v0 2) (fun x64 => ob (putI w 9 v0 2 (x64 + (1 : Int32))) (fun w66 => f140_J58 n  v0 v1 v2 s0 w66)))
set_option maxRecDepth 10000 in
theorem rf140_J43 {S : Sc} (n : Nat)  (v0 : Nat) (v1 : Int32) (v2 : Int32) (s0 : Int32) (w : Wd) (o : (Int32 × Wd))  (h : f140_J43 n  v0 v1 v2 s0 w = some o) : Rn S 140 43 [some (.ref v0), some (.int v1), some (.int v2), none, none, none] [.int s0] w (some (.int o.1), o.2) := by
  unfold f140_J43 at h
  refine rn_istore_n (ls' := [some (.ref v0), some (.int v1), some (.int v2), some (.int s0), none, none]) (ft140 22 rfl) rfl ?_
  refine rn_iload_n (ft140 23 rfl) rfl ?_
  by_cases c68 : s0 = 0
  · replace h := ifp c68 h
    refine rn_if_eq_t (ft140 24 rfl) c68 ?_
    exact rn_forget (ls := [some (.ref v0), some (.int v1), some (.int v2), some (.int s0), none, none]) (And.intro rfl (And.intro rfl (And.intro rfl (And.intro rfl trivial)))) (rf140_J58 n  v0 v1 v2 s0 w _  h)
  · replace h := ifn c68 h
    refine rn_if_eq_f (ft140 24 rfl) c68 ?_
    refine rn_aload_n (ft140 25 rfl) rfl ?_
    refine rn_dup (ft140 26 rfl) rfl ?_
    obtain ⟨x64, q65, h⟩ := ob_some h
    refine rn_getI (ft140 27 rfl) (by decide) (by decide) q65 ?_
    refine rn_iconst (v := (1 : Int32)) (ft140 28 rfl) (by decide) ?_
    refine rn_iadd (ft140 29 rfl) ?_
    obtain ⟨w66, q67, h⟩ := ob_some h
    refine rn_putI (ft140 30 rfl) q67 ?_
    exact rn_forget (ls := [some (.ref v0), some (.int v1), some (.int v2), some (.int s0), none, none]) (And.intro rfl (And.intro rfl (And.intro rfl (And.intro rfl trivial)))) (rf140_J58 n  v0 v1 v2 s0 w66 _  h)
def f140 (n : Nat) (v0 : Nat) (v1 : Int32) (v2 : Int32) (w : Wd) : Option (Int32 × Wd) :=
  (if (wsh w v0).map (fun q => q.1) = some 9 then ob (f72 n v0 w) (fun p1 => ob (getI p1 9 v0 4) (fun x3 => (if x3 = 0 then ob (getI p1 9 v0 2) (fun x5 => ob (putI p1 9 v0 3 x5) (fun w7 => (if 0 ≤ v1 then f140_J43 n  v0 v1 v2 (0 : Int32) w7
      else ob (getI w7 9 v0 2) (fun x69 => (if (wsh w7 v0).map (fun q => q.1) = some 9 then ob (f4 v0 x69 w7) (fun p71 => (if ¬ p71.1 = (45 : Int32) then f140_J43 n  v0 v1 v2 (0 : Int32) p71.2
        else f140_J43 n  v0 v1 v2 (1 : Int32) p71.2)) else none)))))
    else some ((0 : Int32), p1)))) else none)
set_option maxRecDepth 10000 in
theorem r140 {S : Sc} (n : Nat) (v0 : Nat) (v1 : Int32) (v2 : Int32) (w : Wd) (o : (Int32 × Wd)) (h : f140 n v0 v1 v2 w = some o) : Rn S 140 0 [some (.ref v0), some (.int v1), some (.int v2), none, none, none] [] w (some (.int o.1), o.2) := by
  unfold f140 at h
  refine rn_aload_n (ft140 0 rfl) rfl ?_
  obtain ⟨g77, h⟩ := ifg h
  obtain ⟨p1, q2, h⟩ := ob_some h
  refine rn_callV (as := []) (k0 := v0) (r := []) (v := none) (w1 := p1) (ft140 1 rfl) (by decide +kernel) rfl (Nat.le_of_ble_eq_true rfl) (Nat.le_of_ble_eq_true rfl) (r72 n v0 w _ q2) (by decide +kernel) g77 ?_
  refine rn_aload_n (ft140 2 rfl) rfl ?_
  obtain ⟨x3, q4, h⟩ := ob_some h
  refine rn_getI (ft140 3 rfl) (by decide) (by decide) q4 ?_
  by_cases c76 : x3 = 0
  · replace h := ifp c76 h
    refine rn_if_eq_t (ft140 4 rfl) c76 ?_
    refine rn_aload_n (ft140 7 rfl) rfl ?_
    refine rn_aload_n (ft140 8 rfl) rfl ?_
    obtain ⟨x5, q6, h⟩ := ob_some h
    refine rn_getI (ft140 9 rfl) (by decide) (by decide) q6 ?_
    obtain ⟨w7, q8, h⟩ := ob_some h
    refine rn_putI (ft140 10 rfl) q8 ?_
    refine rn_iload_n (ft140 11 rfl) rfl ?_
    by_cases c75 : 0 ≤ v1
    · replace h := ifp c75 h
      refine rn_if_ge_t (ft140 12 rfl) c75 ?_
      refine rn_iconst (v := (0 : Int32)) (ft140 21 rfl) (by decide) ?_
      exact rn_forget (ls := [some (.ref v0), some (.int v1), some (.int v2), none, none, none]) (And.intro rfl (And.intro rfl (And.intro rfl trivial))) (rf140_J43 n  v0 v1 v2 (0 : Int32) w7 _  h)
    · replace h := ifn c75 h
      refine rn_if_ge_f (ft140 12 rfl) c75 ?_
      refine rn_aload_n (ft140 13 rfl) rfl ?_
      refine rn_aload_n (ft140 14 rfl) rfl ?_
      obtain ⟨x69, q70, h⟩ := ob_some h
      refine rn_getI (ft140 15 rfl) (by decide) (by decide) q70 ?_
      obtain ⟨g74, h⟩ := ifg h
      obtain ⟨p71, q72, h⟩ := ob_some h
      refine rn_callV (as := [.int x69]) (k0 := v0) (r := []) (v := (some (.int p71.1))) (w1 := p71.2) (ft140 16 rfl) (by decide +kernel) rfl (Nat.le_of_ble_eq_true rfl) (Nat.le_of_ble_eq_true rfl) (r4 v0 x69 w7 _ q72) (by decide +kernel) g74 ?_
      refine rn_bipush (v := (45 : Int32)) (ft140 17 rfl) (by decide) ?_
      by_cases c73 : ¬ p71.1 = (45 : Int32)
      · replace h := ifp c73 h
        refine rn_icmp_ne_t (ft140 18 rfl) c73 ?_
        refine rn_iconst (v := (0 : Int32)) (ft140 21 rfl) (by decide) ?_
        exact rn_forget (ls := [some (.ref v0), some (.int v1), some (.int v2), none, none, none]) (And.intro rfl (And.intro rfl (And.intro rfl trivial))) (rf140_J43 n  v0 v1 v2 (0 : Int32) p71.2 _  h)
      · replace h := ifn c73 h
        refine rn_icmp_ne_f (ft140 18 rfl) c73 ?_
        refine rn_iconst (v := (1 : Int32)) (ft140 19 rfl) (by decide) ?_
        refine rn_goto (ft140 20 rfl) ?_
        exact rn_forget (ls := [some (.ref v0), some (.int v1), some (.int v2), none, none, none]) (And.intro rfl (And.intro rfl (And.intro rfl trivial))) (rf140_J43 n  v0 v1 v2 (1 : Int32) p71.2 _  h)
  · replace h := ifn c76 h
    refine rn_if_eq_f (ft140 4 rfl) c76 ?_
    refine rn_iconst (v := (0 : Int32)) (ft140 5 rfl) (by decide) ?_
    cases h
    exact rn_iretI pr140 (ft140 6 rfl)
/-- NineWheel$Text.takes(C)Z -/
theorem ft141 : ∀ (i : Nat) {q : Nat × XI}, cd141[i]? = some q → fetch 141 q.1 = some q.2 := ft_of (by decide +kernel)
theorem pr141 : pRt 141 = some .boolean := rfl
def f141 (n : Nat) (v0 : Nat) (v1 : Int32) (w : Wd) : Option (Int32 × Wd) :=
  (if (wsh w v0).map (fun q => q.1) = some 9 then ob (f72 n v0 w) (fun p1 => ob (getI p1 9 v0 4) (fun x3 => (if ¬ x3 = 0 then some ((0 : Int32), p1)
    else ob (getI p1 9 v0 2) (fun x5 => (if (wsh p1 v0).map (fun q => q.1) = some 9 then ob (f4 v0 x5 p1) (fun p7 => (if p7.1 = v1 then ob (getI p7.2 9 v0 2) (fun x9 => ob (putI p7.2 9 v0 2 (x9 + (1 : Int32))) (fun w11 => some ((1 : Int32), w11)))
      else some ((0 : Int32), p7.2))) else none))))) else none)
set_option maxRecDepth 10000 in
theorem r141 {S : Sc} (n : Nat) (v0 : Nat) (v1 : Int32) (w : Wd) (o : (Int32 × Wd)) (h : f141 n v0 v1 w = some o) : Rn S 141 0 [some (.ref v0), some (.int v1)] [] w (some (.int o.1), o.2) := by
  unfold f141 at h
  refine rn_aload_n (ft141 0 rfl) rfl ?_
  obtain ⟨g16, h⟩ := ifg h
  obtain ⟨p1, q2, h⟩ := ob_some h
  refine rn_callV (as := []) (k0 := v0) (r := []) (v := none) (w1 := p1) (ft141 1 rfl) (by decide +kernel) rfl (Nat.le_of_ble_eq_true rfl) (Nat.le_of_ble_eq_true rfl) (r72 n v0 w _ q2) (by decide +kernel) g16 ?_
  refine rn_aload_n (ft141 2 rfl) rfl ?_
  obtain ⟨x3, q4, h⟩ := ob_some h
  refine rn_getI (ft141 3 rfl) (by decide) (by decide) q4 ?_
  by_cases c15 : ¬ x3 = 0
  · replace h := ifp c15 h
    refine rn_if_ne_t (ft141 4 rfl) c15 ?_
    refine rn_iconst (v := (0 : Int32)) (ft141 11 rfl) (by decide) ?_
    cases h
    exact rn_iretZ pr141 (by decide) (ft141 12 rfl)
  · replace h := ifn c15 h
    refine rn_if_ne_f (ft141 4 rfl) c15 ?_
    refine rn_aload_n (ft141 5 rfl) rfl ?_
    refine rn_aload_n (ft141 6 rfl) rfl ?_
    obtain ⟨x5, q6, h⟩ := ob_some h
    refine rn_getI (ft141 7 rfl) (by decide) (by decide) q6 ?_
    obtain ⟨g14, h⟩ := ifg h
    obtain ⟨p7, q8, h⟩ := ob_some h
    refine rn_callV (as := [.int x5]) (k0 := v0) (r := []) (v := (some (.int p7.1))) (w1 := p7.2) (ft141 8 rfl) (by decide +kernel) rfl (Nat.le_of_ble_eq_true rfl) (Nat.le_of_ble_eq_true rfl) (r4 v0 x5 p1 _ q8) (by decide +kernel) g14 ?_
    refine rn_iload_n (ft141 9 rfl) rfl ?_
    by_cases c13 : p7.1 = v1
    · replace h := ifp c13 h
      refine rn_icmp_eq_t (ft141 10 rfl) c13 ?_
      refine rn_aload_n (ft141 13 rfl) rfl ?_
      refine rn_dup (ft141 14 rfl) rfl ?_
      obtain ⟨x9, q10, h⟩ := ob_some h
      refine rn_getI (ft141 15 rfl) (by decide) (by decide) q10 ?_
      refine rn_iconst (v := (1 : Int32)) (ft141 16 rfl) (by decide) ?_
      refine rn_iadd (ft141 17 rfl) ?_
      obtain ⟨w11, q12, h⟩ := ob_some h
      refine rn_putI (ft141 18 rfl) q12 ?_
      refine rn_iconst (v := (1 : Int32)) (ft141 19 rfl) (by decide) ?_
      cases h
      exact rn_iretZ pr141 (by decide) (ft141 20 rfl)
    · replace h := ifn c13 h
      refine rn_icmp_eq_f (ft141 10 rfl) c13 ?_
      refine rn_iconst (v := (0 : Int32)) (ft141 11 rfl) (by decide) ?_
      cases h
      exact rn_iretZ pr141 (by decide) (ft141 12 rfl)
