/-! THE METHODS AS FUNCTIONS, 10 -/
/-- NineWheel$Journey.hoursRound()I -/
theorem ft155 : ∀ (i : Nat) {q : Nat × XI}, cd155[i]? = some q → fetch 155 q.1 = some q.2 := ft_of (by decide +kernel)
theorem pr155 : pRt 155 = some .int := rfl
def f155_H29 (n : Nat)  (K15 : Wd → Option (Int32 × Wd)) : Nat → Nat → Int32 → Int32 → Wd → Option (Int32 × Wd)
  | 0, _, _, _, _ => none
  | k + 1, v0, v1, v2, w =>
    ob (getI w 4 v0 7) (fun x9 => (if x9 < v2 then K15 w
      else ob (getR w 4 v0 5) (fun x11 => ob (getI w 4 v0 7) (fun x13 => ob (aldI w x11 (x13 - v2)) (fun x15 => ob (getR w 4 v0 5) (fun x17 => ob (getI w 4 v0 7) (fun x19 => ob (aldI w x17 x19) (fun x21 => (if ¬ x15 = x21 then (fun (v0 : Nat) (v1 : Int32) (v2 : Int32) w => f155_H29 n  K15 k v0 v1 v2 w) v0 v1 (v2 + v1) w
        else some (v2, w))))))))))
set_option maxRecDepth 10000 in
theorem rf155_H29 {S : Sc} (n : Nat)  (K15 : Wd → Option (Int32 × Wd))  (hK15 : ∀  (w : Wd) (o : (Int32 × Wd)), K15 w = some o → Rn S 155 69 [none, none, none] [] w (some (.int o.1), o.2)) : ∀ (k : Nat) (v0 : Nat) (v1 : Int32) (v2 : Int32) (w : Wd) (o : (Int32 × Wd)), f155_H29 n  K15 k v0 v1 v2 w = some o → Rn S 155 29 [some (.ref v0), some (.int v1), some (.int v2)] [] w (some (.int o.1), o.2) := by
  intro k
  induction k with
  | zero =>
    intro v0 v1 v2 w o h
    exact nomatch h
  | succ k ih =>
    intro v0 v1 v2 w o h
    have hrec15 : ∀ (y0 : Nat) (y1 : Int32) (y2 : Int32) (w : Wd) (o : (Int32 × Wd)), (fun (v0 : Nat) (v1 : Int32) (v2 : Int32) w => f155_H29 n  K15 k v0 v1 v2 w) y0 y1 y2 w = some o → Rn S 155 29 [some (.ref y0), some (.int y1), some (.int y2)] [] w (some (.int o.1), o.2) := fun y0 y1 y2 w o h => ih y0 y1 y2 w o h
    unfold f155_H29 at h
    refine rn_iload_n (ft155 15 rfl) rfl ?_
    refine rn_aload_n (ft155 16 rfl) rfl ?_
    obtain ⟨x9, q10, h⟩ := ob_some h
    refine rn_getI (ft155 17 rfl) (by decide) (by decide) q10 ?_
    by_cases c24 : x9 < v2
    · replace h := ifp c24 h
      refine rn_icmp_gt_t (ft155 18 rfl) c24 ?_
      exact rn_forget (ls := [none, none, none]) trivial (hK15 w _ h)
    · replace h := ifn c24 h
      refine rn_icmp_gt_f (ft155 18 rfl) c24 ?_
      refine rn_aload_n (ft155 19 rfl) rfl ?_
      obtain ⟨x11, q12, h⟩ := ob_some h
      refine rn_getR (ft155 20 rfl) q12 ?_
      refine rn_aload_n (ft155 21 rfl) rfl ?_
      obtain ⟨x13, q14, h⟩ := ob_some h
      refine rn_getI (ft155 22 rfl) (by decide) (by decide) q14 ?_
      refine rn_iload_n (ft155 23 rfl) rfl ?_
      refine rn_isub (ft155 24 rfl) ?_
      obtain ⟨x15, q16, h⟩ := ob_some h
      refine rn_iaload (ft155 25 rfl) q16 ?_
      refine rn_aload_n (ft155 26 rfl) rfl ?_
      obtain ⟨x17, q18, h⟩ := ob_some h
      refine rn_getR (ft155 27 rfl) q18 ?_
      refine rn_aload_n (ft155 28 rfl) rfl ?_
      obtain ⟨x19, q20, h⟩ := ob_some h
      refine rn_getI (ft155 29 rfl) (by decide) (by decide) q20 ?_
      obtain ⟨x21, q22, h⟩ := ob_some h
      refine rn_iaload (ft155 30 rfl) q22 ?_
      by_cases c23 : ¬ x15 = x21
      · replace h := ifp c23 h
        refine rn_icmp_ne_t (ft155 31 rfl) c23 ?_
        refine rn_iload_n (ft155 34 rfl) rfl ?_
        refine rn_iload_n (ft155 35 rfl) rfl ?_
        refine rn_iadd (ft155 36 rfl) ?_
        refine rn_istore_n (ls' := [some (.ref v0), some (.int v1), some (.int (v2 + v1))]) (ft155 37 rfl) rfl ?_
        refine rn_goto (ft155 38 rfl) ?_
        exact rn_forget (ls := [some (.ref v0), some (.int v1), some (.int (v2 + v1))]) (And.intro rfl (And.intro rfl (And.intro rfl trivial))) (hrec15 v0 v1 (v2 + v1) w _ h)
      · replace h := ifn c23 h
        refine rn_icmp_ne_f (ft155 31 rfl) c23 ?_
        refine rn_iload_n (ft155 32 rfl) rfl ?_
        cases h
        exact rn_iretI pr155 (ft155 33 rfl)
def f155 (n : Nat) (v0 : Nat) (w : Wd) : Option (Int32 × Wd) :=
  ob (getI w 4 v0 8) (fun x1 => (if ¬ x1 = 0 then some ((0 : Int32), w)
    else ob (getI w 4 v0 7) (fun x3 => (if x3 ≤ (400 : Int32) then ob (getR w 4 v0 0) (fun x5 => (if (wsh w x5).map (fun q => q.1) = some 6 then ob (f102 x5 w) (fun p7 => f155_H29 n  (fun  (w25 : Wd) => some ((0 : Int32), w25)) n v0 p7.1 p7.1 p7.2) else none))
      else some ((0 : Int32), w)))))
set_option maxRecDepth 10000 in
theorem r155 {S : Sc} (n : Nat) (v0 : Nat) (w : Wd) (o : (Int32 × Wd)) (h : f155 n v0 w = some o) : Rn S 155 0 [some (.ref v0), none, none] [] w (some (.int o.1), o.2) := by
  unfold f155 at h
  refine rn_aload_n (ft155 0 rfl) rfl ?_
  obtain ⟨x1, q2, h⟩ := ob_some h
  refine rn_getI (ft155 1 rfl) (by decide) (by decide) q2 ?_
  by_cases c28 : ¬ x1 = 0
  · replace h := ifp c28 h
    refine rn_if_ne_t (ft155 2 rfl) c28 ?_
    refine rn_iconst (v := (0 : Int32)) (ft155 7 rfl) (by decide) ?_
    cases h
    exact rn_iretI pr155 (ft155 8 rfl)
  · replace h := ifn c28 h
    refine rn_if_ne_f (ft155 2 rfl) c28 ?_
    refine rn_aload_n (ft155 3 rfl) rfl ?_
    obtain ⟨x3, q4, h⟩ := ob_some h
    refine rn_getI (ft155 4 rfl) (by decide) (by decide) q4 ?_
    refine rn_sipush (v := (400 : Int32)) (ft155 5 rfl) (by decide) ?_
    by_cases c27 : x3 ≤ (400 : Int32)
    · replace h := ifp c27 h
      refine rn_icmp_le_t (ft155 6 rfl) c27 ?_
      refine rn_aload_n (ft155 9 rfl) rfl ?_
      obtain ⟨x5, q6, h⟩ := ob_some h
      refine rn_getR (ft155 10 rfl) q6 ?_
      obtain ⟨g26, h⟩ := ifg h
      obtain ⟨p7, q8, h⟩ := ob_some h
      refine rn_callV (as := []) (k0 := x5) (r := []) (v := (some (.int p7.1))) (w1 := p7.2) (ft155 11 rfl) (by decide +kernel) rfl (Nat.le_of_ble_eq_true rfl) (Nat.le_of_ble_eq_true rfl) (r102 x5 w _ q8) (by decide +kernel) g26 ?_
      refine rn_istore_n (ls' := [some (.ref v0), some (.int p7.1), none]) (ft155 12 rfl) rfl ?_
      refine rn_iload_n (ft155 13 rfl) rfl ?_
      refine rn_istore_n (ls' := [some (.ref v0), some (.int p7.1), some (.int p7.1)]) (ft155 14 rfl) rfl ?_
      refine rn_forget (ls := [some (.ref v0), some (.int p7.1), some (.int p7.1)]) (And.intro rfl (And.intro rfl (And.intro rfl trivial))) (rf155_H29 n  _  (fun  w25 o h => ?_) n v0 p7.1 p7.1 p7.2 _ h)
      refine rn_iconst (v := (0 : Int32)) (ft155 39 rfl) (by decide) ?_
      cases h
      exact rn_iretI pr155 (ft155 40 rfl)
    · replace h := ifn c27 h
      refine rn_icmp_le_f (ft155 6 rfl) c27 ?_
      refine rn_iconst (v := (0 : Int32)) (ft155 7 rfl) (by decide) ?_
      cases h
      exact rn_iretI pr155 (ft155 8 rfl)
/-- NineWheel$Journey.firstAt(I)I -/
theorem ft156 : ∀ (i : Nat) {q : Nat × XI}, cd156[i]? = some q → fetch 156 q.1 = some q.2 := ft_of (by decide +kernel)
theorem pr156 : pRt 156 = some .int := rfl
def f156_H2 (n : Nat)  (K2 : Wd → Option (Int32 × Wd)) : Nat → Nat → Int32 → Int32 → Wd → Option (Int32 × Wd)
  | 0, _, _, _, _ => none
  | k + 1, v0, v1, v2, w =>
    ob (getI w 4 v0 7) (fun x1 => (if x1 < v2 then K2 w
      else (if (wsh w v0).map (fun q => q.1) = some 4 then ob (f104 v0 v2 w) (fun p3 => ob (f20 p3.1 p3.2) (fun p5 => (if ¬ p5.1 = v1 then (fun (v0 : Nat) (v1 : Int32) (v2 : Int32) w => f156_H2 n  K2 k v0 v1 v2 w) v0 v1 (v2 + (1 : Int32)) p5.2
        else some (v2, p5.2)))) else none)))
set_option maxRecDepth 10000 in
theorem rf156_H2 {S : Sc} (n : Nat)  (K2 : Wd → Option (Int32 × Wd))  (hK2 : ∀  (w : Wd) (o : (Int32 × Wd)), K2 w = some o → Rn S 156 30 [none, none, none] [] w (some (.int o.1), o.2)) : ∀ (k : Nat) (v0 : Nat) (v1 : Int32) (v2 : Int32) (w : Wd) (o : (Int32 × Wd)), f156_H2 n  K2 k v0 v1 v2 w = some o → Rn S 156 2 [some (.ref v0), some (.int v1), some (.int v2)] [] w (some (.int o.1), o.2) := by
  intro k
  induction k with
  | zero =>
    intro v0 v1 v2 w o h
    exact nomatch h
  | succ k ih =>
    intro v0 v1 v2 w o h
    have hrec2 : ∀ (y0 : Nat) (y1 : Int32) (y2 : Int32) (w : Wd) (o : (Int32 × Wd)), (fun (v0 : Nat) (v1 : Int32) (v2 : Int32) w => f156_H2 n  K2 k v0 v1 v2 w) y0 y1 y2 w = some o → Rn S 156 2 [some (.ref y0), some (.int y1), some (.int y2)] [] w (some (.int o.1), o.2) := fun y0 y1 y2 w o h => ih y0 y1 y2 w o h
    unfold f156_H2 at h
    refine rn_iload_n (ft156 2 rfl) rfl ?_
    refine rn_aload_n (ft156 3 rfl) rfl ?_
    obtain ⟨x1, q2, h⟩ := ob_some h
    refine rn_getI (ft156 4 rfl) (by decide) (by decide) q2 ?_
    by_cases c9 : x1 < v2
    · replace h := ifp c9 h
      refine rn_icmp_gt_t (ft156 5 rfl) c9 ?_
      exact rn_forget (ls := [none, none, none]) trivial (hK2 w _ h)
    · replace h := ifn c9 h
      refine rn_icmp_gt_f (ft156 5 rfl) c9 ?_
      refine rn_aload_n (ft156 6 rfl) rfl ?_
      refine rn_iload_n (ft156 7 rfl) rfl ?_
      obtain ⟨g8, h⟩ := ifg h
      obtain ⟨p3, q4, h⟩ := ob_some h
      refine rn_callV (as := [.int v2]) (k0 := v0) (r := []) (v := (some (.int p3.1))) (w1 := p3.2) (ft156 8 rfl) (by decide +kernel) rfl (Nat.le_of_ble_eq_true rfl) (Nat.le_of_ble_eq_true rfl) (r104 v0 v2 w _ q4) (by decide +kernel) g8 ?_
      obtain ⟨p5, q6, h⟩ := ob_some h
      refine rn_callS (as := [.int p3.1]) (r := []) (v := (some (.int p5.1))) (w1 := p5.2) (ft156 9 rfl) (by decide +kernel) rfl (Nat.le_of_ble_eq_true rfl) (Nat.le_of_ble_eq_true rfl) (r20 p3.1 p3.2 _ q6) ?_
      refine rn_iload_n (ft156 10 rfl) rfl ?_
      by_cases c7 : ¬ p5.1 = v1
      · replace h := ifp c7 h
        refine rn_icmp_ne_t (ft156 11 rfl) c7 ?_
        refine rn_iinc (u := 1) (ls' := [some (.ref v0), some (.int v1), some (.int (v2 + (1 : Int32)))]) (ft156 14 rfl) rfl (by decide) rfl ?_
        refine rn_goto (ft156 15 rfl) ?_
        exact rn_forget (ls := [some (.ref v0), some (.int v1), some (.int (v2 + (1 : Int32)))]) (And.intro rfl (And.intro rfl (And.intro rfl trivial))) (hrec2 v0 v1 (v2 + (1 : Int32)) p5.2 _ h)
      · replace h := ifn c7 h
        refine rn_icmp_ne_f (ft156 11 rfl) c7 ?_
        refine rn_iload_n (ft156 12 rfl) rfl ?_
        cases h
        exact rn_iretI pr156 (ft156 13 rfl)
def f156 (n : Nat) (v0 : Nat) (v1 : Int32) (w : Wd) : Option (Int32 × Wd) :=
  f156_H2 n  (fun  (w10 : Wd) => some ((-1 : Int32), w10)) n v0 v1 (0 : Int32) w
set_option maxRecDepth 10000 in
theorem r156 {S : Sc} (n : Nat) (v0 : Nat) (v1 : Int32) (w : Wd) (o : (Int32 × Wd)) (h : f156 n v0 v1 w = some o) : Rn S 156 0 [some (.ref v0), some (.int v1), none] [] w (some (.int o.1), o.2) := by
  unfold f156 at h
  refine rn_iconst (v := (0 : Int32)) (ft156 0 rfl) (by decide) ?_
  refine rn_istore_n (ls' := [some (.ref v0), some (.int v1), some (.int (0 : Int32))]) (ft156 1 rfl) rfl ?_
  refine rn_forget (ls := [some (.ref v0), some (.int v1), some (.int (0 : Int32))]) (And.intro rfl (And.intro rfl (And.intro rfl trivial))) (rf156_H2 n  _  (fun  w10 o h => ?_) n v0 v1 (0 : Int32) w _ h)
  refine rn_iconst (v := (-1 : Int32)) (ft156 16 rfl) (by decide) ?_
  cases h
  exact rn_iretI pr156 (ft156 17 rfl)
/-- NineWheel.log(I)I -/
theorem ft157 : ∀ (i : Nat) {q : Nat × XI}, cd157[i]? = some q → fetch 157 q.1 = some q.2 := ft_of (by decide +kernel)
theorem pr157 : pRt 157 = some .int := rfl
def f157 (v0 : Nat) (v1 : Int32) (w : Wd) : Option (Int32 × Wd) :=
  ob (f92 v1 w) (fun p1 => (if p1.1 = 0 then ob (getR p1.2 10 v0 7) (fun x3 => ob (getI p1.2 3 x3 3) (fun x5 => (if x5 < (40 : Int32) then ob (getR p1.2 10 v0 7) (fun x7 => (if (wsh p1.2 x7).map (fun q => q.1) = some 3 then ob (f105 x7 v1 p1.2) (fun p9 => ob (getR p9 10 v0 7) (fun x11 => ob (getI p9 3 x11 3) (fun x13 => some (x13, p9)))) else none))
      else some ((-1000004 : Int32), p1.2))))
    else some ((-1000002 : Int32), p1.2)))
set_option maxRecDepth 10000 in
theorem r157 {S : Sc} (v0 : Nat) (v1 : Int32) (w : Wd) (o : (Int32 × Wd)) (h : f157 v0 v1 w = some o) : Rn S 157 0 [some (.ref v0), some (.int v1)] [] w (some (.int o.1), o.2) := by
  unfold f157 at h
  refine rn_iload_n (ft157 0 rfl) rfl ?_
  obtain ⟨p1, q2, h⟩ := ob_some h
  refine rn_callS (as := [.int v1]) (r := []) (v := (some (.int p1.1))) (w1 := p1.2) (ft157 1 rfl) (by decide +kernel) rfl (Nat.le_of_ble_eq_true rfl) (Nat.le_of_ble_eq_true rfl) (r92 v1 w _ q2) ?_
  by_cases c17 : p1.1 = 0
  · replace h := ifp c17 h
    refine rn_if_eq_t (ft157 2 rfl) c17 ?_
    refine rn_aload_n (ft157 5 rfl) rfl ?_
    obtain ⟨x3, q4, h⟩ := ob_some h
    refine rn_getR (ft157 6 rfl) q4 ?_
    obtain ⟨x5, q6, h⟩ := ob_some h
    refine rn_getI (ft157 7 rfl) (by decide) (by decide) q6 ?_
    refine rn_bipush (v := (40 : Int32)) (ft157 8 rfl) (by decide) ?_
    by_cases c16 : x5 < (40 : Int32)
    · replace h := ifp c16 h
      refine rn_icmp_lt_t (ft157 9 rfl) c16 ?_
      refine rn_aload_n (ft157 12 rfl) rfl ?_
      obtain ⟨x7, q8, h⟩ := ob_some h
      refine rn_getR (ft157 13 rfl) q8 ?_
      refine rn_iload_n (ft157 14 rfl) rfl ?_
      obtain ⟨g15, h⟩ := ifg h
      obtain ⟨p9, q10, h⟩ := ob_some h
      refine rn_callV (as := [.int v1]) (k0 := x7) (r := []) (v := none) (w1 := p9) (ft157 15 rfl) (by decide +kernel) rfl (Nat.le_of_ble_eq_true rfl) (Nat.le_of_ble_eq_true rfl) (r105 x7 v1 p1.2 _ q10) (by decide +kernel) g15 ?_
      refine rn_aload_n (ft157 16 rfl) rfl ?_
      obtain ⟨x11, q12, h⟩ := ob_some h
      refine rn_getR (ft157 17 rfl) q12 ?_
      obtain ⟨x13, q14, h⟩ := ob_some h
      refine rn_getI (ft157 18 rfl) (by decide) (by decide) q14 ?_
      cases h
      exact rn_iretI pr157 (ft157 19 rfl)
    · replace h := ifn c16 h
      refine rn_icmp_lt_f (ft157 9 rfl) c16 ?_
      refine rn_ldc (v := (-1000004 : Int32)) (ft157 10 rfl) (by decide) rfl ?_
      cases h
      exact rn_iretI pr157 (ft157 11 rfl)
  · replace h := ifn c17 h
    refine rn_if_eq_f (ft157 2 rfl) c17 ?_
    refine rn_ldc (v := (-1000002 : Int32)) (ft157 3 rfl) (by decide) rfl ?_
    cases h
    exact rn_iretI pr157 (ft157 4 rfl)
/-- NineWheel$Sea.personsIn(I)I -/
theorem ft158 : ∀ (i : Nat) {q : Nat × XI}, cd158[i]? = some q → fetch 158 q.1 = some q.2 := ft_of (by decide +kernel)
theorem pr158 : pRt 158 = some .int := rfl
def f158_H4 (n : Nat)  (K4 : Int32 → Wd → Option (Int32 × Wd)) : Nat → Nat → Int32 → Int32 → Int32 → Wd → Option (Int32 × Wd)
  | 0, _, _, _, _, _ => none
  | k + 1, v0, v1, v2, v3, w =>
    ob (getI w 6 v0 5) (fun x1 => (if x1 ≤ v3 then K4 v2 w
      else ob (f16 v1 v3 w) (fun p3 => (if p3.1 = 0 then (fun (v0 : Nat) (v1 : Int32) (v2 : Int32) (v3 : Int32) w => f158_H4 n  K4 k v0 v1 v2 v3 w) v0 v1 v2 (v3 + (1 : Int32)) p3.2
        else (if (wsh p3.2 v0).map (fun q => q.1) = some 6 then ob (f84 v0 v3 p3.2) (fun p5 => (fun (v0 : Nat) (v1 : Int32) (v2 : Int32) (v3 : Int32) w => f158_H4 n  K4 k v0 v1 v2 v3 w) v0 v1 (v2 + p5.1) (v3 + (1 : Int32)) p5.2) else none)))))
set_option maxRecDepth 10000 in
theorem rf158_H4 {S : Sc} (n : Nat)  (K4 : Int32 → Wd → Option (Int32 × Wd))  (hK4 : ∀ (y2 : Int32) (w : Wd) (o : (Int32 × Wd)), K4 y2 w = some o → Rn S 158 34 [none, none, some (.int y2), none] [] w (some (.int o.1), o.2)) : ∀ (k : Nat) (v0 : Nat) (v1 : Int32) (v2 : Int32) (v3 : Int32) (w : Wd) (o : (Int32 × Wd)), f158_H4 n  K4 k v0 v1 v2 v3 w = some o → Rn S 158 4 [some (.ref v0), some (.int v1), some (.int v2), some (.int v3)] [] w (some (.int o.1), o.2) := by
  intro k
  induction k with
  | zero =>
    intro v0 v1 v2 v3 w o h
    exact nomatch h
  | succ k ih =>
    intro v0 v1 v2 v3 w o h
    have hrec4 : ∀ (y0 : Nat) (y1 : Int32) (y2 : Int32) (y3 : Int32) (w : Wd) (o : (Int32 × Wd)), (fun (v0 : Nat) (v1 : Int32) (v2 : Int32) (v3 : Int32) w => f158_H4 n  K4 k v0 v1 v2 v3 w) y0 y1 y2 y3 w = some o → Rn S 158 4 [some (.ref y0), some (.int y1), some (.int y2), some (.int y3)] [] w (some (.int o.1), o.2) := fun y0 y1 y2 y3 w o h => ih y0 y1 y2 y3 w o h
    unfold f158_H4 at h
    refine rn_iload_n (ft158 4 rfl) rfl ?_
    refine rn_aload_n (ft158 5 rfl) rfl ?_
    obtain ⟨x1, q2, h⟩ := ob_some h
    refine rn_getI (ft158 6 rfl) (by decide) (by decide) q2 ?_
    by_cases c9 : x1 ≤ v3
    · replace h := ifp c9 h
      refine rn_icmp_ge_t (ft158 7 rfl) c9 ?_
      exact rn_forget (ls := [none, none, some (.int v2), none]) (And.intro rfl trivial) (hK4 v2 w _ h)
    · replace h := ifn c9 h
      refine rn_icmp_ge_f (ft158 7 rfl) c9 ?_
      refine rn_iload_n (ft158 8 rfl) rfl ?_
      refine rn_iload_n (ft158 9 rfl) rfl ?_
      obtain ⟨p3, q4, h⟩ := ob_some h
      refine rn_callS (as := [.int v1, .int v3]) (r := []) (v := (some (.int p3.1))) (w1 := p3.2) (ft158 10 rfl) (by decide +kernel) rfl (Nat.le_of_ble_eq_true rfl) (Nat.le_of_ble_eq_true rfl) (r16 v1 v3 w _ q4) ?_
      by_cases c8 : p3.1 = 0
      · replace h := ifp c8 h
        refine rn_if_eq_t (ft158 11 rfl) c8 ?_
        refine rn_iinc (u := 1) (ls' := [some (.ref v0), some (.int v1), some (.int v2), some (.int (v3 + (1 : Int32)))]) (ft158 18 rfl) rfl (by decide) rfl ?_
        refine rn_goto (ft158 19 rfl) ?_
        exact rn_forget (ls := [some (.ref v0), some (.int v1), some (.int v2), some (.int (v3 + (1 : Int32)))]) (And.intro rfl (And.intro rfl (And.intro rfl (And.intro rfl trivial)))) (hrec4 v0 v1 v2 (v3 + (1 : Int32)) p3.2 _ h)
      · replace h := ifn c8 h
        refine rn_if_eq_f (ft158 11 rfl) c8 ?_
        refine rn_iload_n (ft158 12 rfl) rfl ?_
        refine rn_aload_n (ft158 13 rfl) rfl ?_
        refine rn_iload_n (ft158 14 rfl) rfl ?_
        obtain ⟨g7, h⟩ := ifg h
        obtain ⟨p5, q6, h⟩ := ob_some h
        refine rn_callV (as := [.int v3]) (k0 := v0) (r := [.int v2]) (v := (some (.int p5.1))) (w1 := p5.2) (ft158 15 rfl) (by decide +kernel) rfl (Nat.le_of_ble_eq_true rfl) (Nat.le_of_ble_eq_true rfl) (r84 v0 v3 p3.2 _ q6) (by decide +kernel) g7 ?_
        refine rn_iadd (ft158 16 rfl) ?_
        refine rn_istore_n (ls' := [some (.ref v0), some (.int v1), some (.int (v2 + p5.1)), some (.int v3)]) (ft158 17 rfl) rfl ?_
        refine rn_iinc (u := 1) (ls' := [some (.ref v0), some (.int v1), some (.int (v2 + p5.1)), some (.int (v3 + (1 : Int32)))]) (ft158 18 rfl) rfl (by decide) rfl ?_
        refine rn_goto (ft158 19 rfl) ?_
        exact rn_forget (ls := [some (.ref v0), some (.int v1), some (.int (v2 + p5.1)), some (.int (v3 + (1 : Int32)))]) (And.intro rfl (And.intro rfl (And.intro rfl (And.intro rfl trivial)))) (hrec4 v0 v1 (v2 + p5.1) (v3 + (1 : Int32)) p5.2 _ h)
def f158 (n : Nat) (v0 : Nat) (v1 : Int32) (w : Wd) : Option (Int32 × Wd) :=
  f158_H4 n  (fun (e2_10 : Int32) (w10 : Wd) => some (e2_10, w10)) n v0 v1 (0 : Int32) (0 : Int32) w
set_option maxRecDepth 10000 in
theorem r158 {S : Sc} (n : Nat) (v0 : Nat) (v1 : Int32) (w : Wd) (o : (Int32 × Wd)) (h : f158 n v0 v1 w = some o) : Rn S 158 0 [some (.ref v0), some (.int v1), none, none] [] w (some (.int o.1), o.2) := by
  unfold f158 at h
  refine rn_iconst (v := (0 : Int32)) (ft158 0 rfl) (by decide) ?_
  refine rn_istore_n (ls' := [some (.ref v0), some (.int v1), some (.int (0 : Int32)), none]) (ft158 1 rfl) rfl ?_
  refine rn_iconst (v := (0 : Int32)) (ft158 2 rfl) (by decide) ?_
  refine rn_istore_n (ls' := [some (.ref v0), some (.int v1), some (.int (0 : Int32)), some (.int (0 : Int32))]) (ft158 3 rfl) rfl ?_
  refine rn_forget (ls := [some (.ref v0), some (.int v1), some (.int (0 : Int32)), some (.int (0 : Int32))]) (And.intro rfl (And.intro rfl (And.intro rfl (And.intro rfl trivial)))) (rf158_H4 n  _  (fun e2_10 w10 o h => ?_) n v0 v1 (0 : Int32) (0 : Int32) w _ h)
  refine rn_iload_n (ft158 20 rfl) rfl ?_
  cases h
  exact rn_iretI pr158 (ft158 21 rfl)
/-- NineWheel.keep(I)I -/
theorem ft159 : ∀ (i : Nat) {q : Nat × XI}, cd159[i]? = some q → fetch 159 q.1 = some q.2 := ft_of (by decide +kernel)
theorem pr159 : pRt 159 = some .int := rfl
def f159 (n : Nat) (v0 : Nat) (v1 : Int32) (w : Wd) : Option (Int32 × Wd) :=
  (if (wsh w v0).map (fun q => q.1) = some 10 then ob (f108 v0 v1 w) (fun p1 => (if p1.1 = 0 then ob (getR p1.2 10 v0 8) (fun x3 => ob (aldR p1.2 x3 v1) (fun x5 => ob (getR p1.2 10 v0 7) (fun x7 => (if (wsh p1.2 x5).map (fun q => q.1) = some 3 then ob (f39 n x5 x7 p1.2) (fun p9 => ob (getR p9 10 v0 8) (fun x11 => ob (aldR p9 x11 v1) (fun x13 => ob (putZ p9 3 x13 5 (1 : Int32)) (fun w15 => some ((1 : Int32), w15))))) else none))))
    else some ((-1000001 : Int32), p1.2))) else none)
set_option maxRecDepth 10000 in
theorem r159 {S : Sc} (n : Nat) (v0 : Nat) (v1 : Int32) (w : Wd) (o : (Int32 × Wd)) (h : f159 n v0 v1 w = some o) : Rn S 159 0 [some (.ref v0), some (.int v1)] [] w (some (.int o.1), o.2) := by
  unfold f159 at h
  refine rn_aload_n (ft159 0 rfl) rfl ?_
  refine rn_iload_n (ft159 1 rfl) rfl ?_
  obtain ⟨g19, h⟩ := ifg h
  obtain ⟨p1, q2, h⟩ := ob_some h
  refine rn_callV (as := [.int v1]) (k0 := v0) (r := []) (v := (some (.int p1.1))) (w1 := p1.2) (ft159 2 rfl) (by decide +kernel) rfl (Nat.le_of_ble_eq_true rfl) (Nat.le_of_ble_eq_true rfl) (r108 v0 v1 w _ q2) (by decide +kernel) g19 ?_
  by_cases c18 : p1.1 = 0
  · replace h := ifp c18 h
    refine rn_if_eq_t (ft159 3 rfl) c18 ?_
    refine rn_aload_n (ft159 6 rfl) rfl ?_
    obtain ⟨x3, q4, h⟩ := ob_some h
    refine rn_getR (ft159 7 rfl) q4 ?_
    refine rn_iload_n (ft159 8 rfl) rfl ?_
    obtain ⟨x5, q6, h⟩ := ob_some h
    refine rn_aaload (ft159 9 rfl) q6 ?_
    refine rn_aload_n (ft159 10 rfl) rfl ?_
    obtain ⟨x7, q8, h⟩ := ob_some h
    refine rn_getR (ft159 11 rfl) q8 ?_
    obtain ⟨g17, h⟩ := ifg h
    obtain ⟨p9, q10, h⟩ := ob_some h
    refine rn_callV (as := [.ref x7]) (k0 := x5) (r := []) (v := none) (w1 := p9) (ft159 12 rfl) (by decide +kernel) rfl (Nat.le_of_ble_eq_true rfl) (Nat.le_of_ble_eq_true rfl) (r39 n x5 x7 p1.2 _ q10) (by decide +kernel) g17 ?_
    refine rn_aload_n (ft159 13 rfl) rfl ?_
    obtain ⟨x11, q12, h⟩ := ob_some h
    refine rn_getR (ft159 14 rfl) q12 ?_
    refine rn_iload_n (ft159 15 rfl) rfl ?_
    obtain ⟨x13, q14, h⟩ := ob_some h
    refine rn_aaload (ft159 16 rfl) q14 ?_
    refine rn_iconst (v := (1 : Int32)) (ft159 17 rfl) (by decide) ?_
    obtain ⟨w15, q16, h⟩ := ob_some h
    refine rn_putZ (ft159 18 rfl) q16 ?_
    refine rn_iconst (v := (1 : Int32)) (ft159 19 rfl) (by decide) ?_
    cases h
    exact rn_iretI pr159 (ft159 20 rfl)
  · replace h := ifn c18 h
    refine rn_if_eq_f (ft159 3 rfl) c18 ?_
    refine rn_ldc (v := (-1000001 : Int32)) (ft159 4 rfl) (by decide) rfl ?_
    cases h
    exact rn_iretI pr159 (ft159 5 rfl)
/-- NineWheel.goBack(I)I -/
theorem ft160 : ∀ (i : Nat) {q : Nat × XI}, cd160[i]? = some q → fetch 160 q.1 = some q.2 := ft_of (by decide +kernel)
theorem pr160 : pRt 160 = some .int := rfl
def f160 (n : Nat) (v0 : Nat) (v1 : Int32) (w : Wd) : Option (Int32 × Wd) :=
  (if (wsh w v0).map (fun q => q.1) = some 10 then ob (f108 v0 v1 w) (fun p1 => (if p1.1 = 0 then ob (getR p1.2 10 v0 8) (fun x3 => ob (aldR p1.2 x3 v1) (fun x5 => ob (getI p1.2 3 x5 5) (fun x7 => (if ¬ x7 = 0 then ob (getR p1.2 10 v0 7) (fun x9 => ob (getR p1.2 10 v0 8) (fun x11 => ob (aldR p1.2 x11 v1) (fun x13 => (if (wsh p1.2 x9).map (fun q => q.1) = some 3 then ob (f39 n x9 x13 p1.2) (fun p15 => ob (getR p15 10 v0 9) (fun x17 => ob (putZ p15 2 x17 2 (0 : Int32)) (fun w19 => some ((1 : Int32), w19)))) else none))))
      else some ((-1000003 : Int32), p1.2)))))
    else some ((-1000001 : Int32), p1.2))) else none)
set_option maxRecDepth 10000 in
theorem r160 {S : Sc} (n : Nat) (v0 : Nat) (v1 : Int32) (w : Wd) (o : (Int32 × Wd)) (h : f160 n v0 v1 w = some o) : Rn S 160 0 [some (.ref v0), some (.int v1)] [] w (some (.int o.1), o.2) := by
  unfold f160 at h
  refine rn_aload_n (ft160 0 rfl) rfl ?_
  refine rn_iload_n (ft160 1 rfl) rfl ?_
  obtain ⟨g24, h⟩ := ifg h
  obtain ⟨p1, q2, h⟩ := ob_some h
  refine rn_callV (as := [.int v1]) (k0 := v0) (r := []) (v := (some (.int p1.1))) (w1 := p1.2) (ft160 2 rfl) (by decide +kernel) rfl (Nat.le_of_ble_eq_true rfl) (Nat.le_of_ble_eq_true rfl) (r108 v0 v1 w _ q2) (by decide +kernel) g24 ?_
  by_cases c23 : p1.1 = 0
  · replace h := ifp c23 h
    refine rn_if_eq_t (ft160 3 rfl) c23 ?_
    refine rn_aload_n (ft160 6 rfl) rfl ?_
    obtain ⟨x3, q4, h⟩ := ob_some h
    refine rn_getR (ft160 7 rfl) q4 ?_
    refine rn_iload_n (ft160 8 rfl) rfl ?_
    obtain ⟨x5, q6, h⟩ := ob_some h
    refine rn_aaload (ft160 9 rfl) q6 ?_
    obtain ⟨x7, q8, h⟩ := ob_some h
    refine rn_getI (ft160 10 rfl) (by decide) (by decide) q8 ?_
    by_cases c22 : ¬ x7 = 0
    · replace h := ifp c22 h
      refine rn_if_ne_t (ft160 11 rfl) c22 ?_
      refine rn_aload_n (ft160 14 rfl) rfl ?_
      obtain ⟨x9, q10, h⟩ := ob_some h
      refine rn_getR (ft160 15 rfl) q10 ?_
      refine rn_aload_n (ft160 16 rfl) rfl ?_
      obtain ⟨x11, q12, h⟩ := ob_some h
      refine rn_getR (ft160 17 rfl) q12 ?_
      refine rn_iload_n (ft160 18 rfl) rfl ?_
      obtain ⟨x13, q14, h⟩ := ob_some h
      refine rn_aaload (ft160 19 rfl) q14 ?_
      obtain ⟨g21, h⟩ := ifg h
      obtain ⟨p15, q16, h⟩ := ob_some h
      refine rn_callV (as := [.ref x13]) (k0 := x9) (r := []) (v := none) (w1 := p15) (ft160 20 rfl) (by decide +kernel) rfl (Nat.le_of_ble_eq_true rfl) (Nat.le_of_ble_eq_true rfl) (r39 n x9 x13 p1.2 _ q16) (by decide +kernel) g21 ?_
      refine rn_aload_n (ft160 21 rfl) rfl ?_
      obtain ⟨x17, q18, h⟩ := ob_some h
      refine rn_getR (ft160 22 rfl) q18 ?_
      refine rn_iconst (v := (0 : Int32)) (ft160 23 rfl) (by decide) ?_
      obtain ⟨w19, q20, h⟩ := ob_some h
      refine rn_putZ (ft160 24 rfl) q20 ?_
      refine rn_iconst (v := (1 : Int32)) (ft160 25 rfl) (by decide) ?_
      cases h
      exact rn_iretI pr160 (ft160 26 rfl)
    · replace h := ifn c22 h
      refine rn_if_ne_f (ft160 11 rfl) c22 ?_
      refine rn_ldc (v := (-1000003 : Int32)) (ft160 12 rfl) (by decide) rfl ?_
      cases h
      exact rn_iretI pr160 (ft160 13 rfl)
  · replace h := ifn c23 h
    refine rn_if_eq_f (ft160 3 rfl) c23 ?_
    refine rn_ldc (v := (-1000001 : Int32)) (ft160 4 rfl) (by decide) rfl ?_
    cases h
    exact rn_iretI pr160 (ft160 5 rfl)
/-- NineWheelModel.takeNumber(II)I -/
theorem ft161 : ∀ (i : Nat) {q : Nat × XI}, cd161[i]? = some q → fetch 161 q.1 = some q.2 := ft_of (by decide +kernel)
theorem pr161 : pRt 161 = some .int := rfl
def f161 (n : Nat) (v0 : Nat) (v1 : Int32) (v2 : Int32) (w : Wd) : Option (Int32 × Wd) :=
  (if (wsh w v0).map (fun q => q.1) = some 11 then ob (f42 n v0 w) (fun p1 => ob (getI p1.2 11 v0 17) (fun x3 => ob (putI p1.2 11 v0 21 x3) (fun w5 => (if ¬ p1.1 = (45 : Int32) then (if (wsh w5 v0).map (fun q => q.1) = some 11 then ob (f113 n v0 v1 v2 (0 : Int32) w5) (fun p7 => some (p7.1, p7.2)) else none)
    else ob (getI w5 11 v0 17) (fun x10 => (if (wsh w5 v0).map (fun q => q.1) = some 11 then ob (f46 v0 (1 : Int32) x10 w5) (fun p12 => some (p12.1, p12.2)) else none)))))) else none)
set_option maxRecDepth 10000 in
theorem r161 {S : Sc} (n : Nat) (v0 : Nat) (v1 : Int32) (v2 : Int32) (w : Wd) (o : (Int32 × Wd)) (h : f161 n v0 v1 v2 w = some o) : Rn S 161 0 [some (.ref v0), some (.int v1), some (.int v2), none] [] w (some (.int o.1), o.2) := by
  unfold f161 at h
  refine rn_aload_n (ft161 0 rfl) rfl ?_
  obtain ⟨g16, h⟩ := ifg h
  obtain ⟨p1, q2, h⟩ := ob_some h
  refine rn_callV (as := []) (k0 := v0) (r := []) (v := (some (.int p1.1))) (w1 := p1.2) (ft161 1 rfl) (by decide +kernel) rfl (Nat.le_of_ble_eq_true rfl) (Nat.le_of_ble_eq_true rfl) (r42 n v0 w _ q2) (by decide +kernel) g16 ?_
  refine rn_istore_n (ls' := [some (.ref v0), some (.int v1), some (.int v2), some (.int p1.1)]) (ft161 2 rfl) rfl ?_
  refine rn_aload_n (ft161 3 rfl) rfl ?_
  refine rn_aload_n (ft161 4 rfl) rfl ?_
  obtain ⟨x3, q4, h⟩ := ob_some h
  refine rn_getI (ft161 5 rfl) (by decide) (by decide) q4 ?_
  obtain ⟨w5, q6, h⟩ := ob_some h
  refine rn_putI (ft161 6 rfl) q6 ?_
  refine rn_iload_n (ft161 7 rfl) rfl ?_
  refine rn_bipush (v := (45 : Int32)) (ft161 8 rfl) (by decide) ?_
  by_cases c15 : ¬ p1.1 = (45 : Int32)
  · replace h := ifp c15 h
    refine rn_icmp_ne_t (ft161 9 rfl) c15 ?_
    refine rn_aload_n (ft161 16 rfl) rfl ?_
    refine rn_iload_n (ft161 17 rfl) rfl ?_
    refine rn_iload_n (ft161 18 rfl) rfl ?_
    refine rn_iconst (v := (0 : Int32)) (ft161 19 rfl) (by decide) ?_
    obtain ⟨g9, h⟩ := ifg h
    obtain ⟨p7, q8, h⟩ := ob_some h
    refine rn_callV (as := [.int v1, .int v2, .int (0 : Int32)]) (k0 := v0) (r := []) (v := (some (.int p7.1))) (w1 := p7.2) (ft161 20 rfl) (by decide +kernel) rfl (Nat.le_of_ble_eq_true rfl) (Nat.le_of_ble_eq_true rfl) (r113 n v0 v1 v2 (0 : Int32) w5 _ q8) (by decide +kernel) g9 ?_
    cases h
    exact rn_iretI pr161 (ft161 21 rfl)
  · replace h := ifn c15 h
    refine rn_icmp_ne_f (ft161 9 rfl) c15 ?_
    refine rn_aload_n (ft161 10 rfl) rfl ?_
    refine rn_iconst (v := (1 : Int32)) (ft161 11 rfl) (by decide) ?_
    refine rn_aload_n (ft161 12 rfl) rfl ?_
    obtain ⟨x10, q11, h⟩ := ob_some h
    refine rn_getI (ft161 13 rfl) (by decide) (by decide) q11 ?_
    obtain ⟨g14, h⟩ := ifg h
    obtain ⟨p12, q13, h⟩ := ob_some h
    refine rn_callV (as := [.int (1 : Int32), .int x10]) (k0 := v0) (r := []) (v := (some (.int p12.1))) (w1 := p12.2) (ft161 14 rfl) (by decide +kernel) rfl (Nat.le_of_ble_eq_true rfl) (Nat.le_of_ble_eq_true rfl) (r46 v0 (1 : Int32) x10 w5 _ q13) (by decide +kernel) g14 ?_
    refine rn_goto (ft161 15 rfl) ?_
    cases h
    exact rn_iretI pr161 (ft161 21 rfl)
/-- NineWheelModel.takeSigned(I)I -/
theorem ft162 : ∀ (i : Nat) {q : Nat × XI}, cd162[i]? = some q → fetch 162 q.1 = some q.2 := ft_of (by decide +kernel)
theorem pr162 : pRt 162 = some .int := rfl
def f162_J37 (n : Nat)  (v0 : Nat) (v1 : Int32) (v2 : Int32) (s0 : Nat) (s1 : Int32) (s2 : Int32) (w : Wd) : Option (Int32 × Wd) :=
  ob (putI w 11 s0 17 (s1 + s2)) (fun w9 => (if (wsh w9 v0).map (fun q => q.1) = some 11 then ob (f113 n v0 (-v1) v1 v2 w9) (fun p11 => some (p11.1, p11.2)) else none))
set_option maxRecDepth 10000 in
theorem rf162_J37 {S : Sc} (n : Nat)  (v0 : Nat) (v1 : Int32) (v2 : Int32) (s0 : Nat) (s1 : Int32) (s2 : Int32) (w : Wd) (o : (Int32 × Wd))  (h : f162_J37 n  v0 v1 v2 s0 s1 s2 w = some o) : Rn S 162 37 [some (.ref v0), some (.int v1), some (.int v2)] [.int s2, .int s1, .ref s0] w (some (.int o.1), o.2) := by
  unfold f162_J37 at h
  refine rn_iadd (ft162 20 rfl) ?_
  obtain ⟨w9, q10, h⟩ := ob_some h
  refine rn_putI (ft162 21 rfl) q10 ?_
  refine rn_aload_n (ft162 22 rfl) rfl ?_
  refine rn_iload_n (ft162 23 rfl) rfl ?_
  refine rn_ineg (ft162 24 rfl) ?_
  refine rn_iload_n (ft162 25 rfl) rfl ?_
  refine rn_iload_n (ft162 26 rfl) rfl ?_
  obtain ⟨g13, h⟩ := ifg h
  obtain ⟨p11, q12, h⟩ := ob_some h
  refine rn_callV (as := [.int (-v1), .int v1, .int v2]) (k0 := v0) (r := []) (v := (some (.int p11.1))) (w1 := p11.2) (ft162 27 rfl) (by decide +kernel) rfl (Nat.le_of_ble_eq_true rfl) (Nat.le_of_ble_eq_true rfl) (r113 n v0 (-v1) v1 v2 w9 _ q12) (by decide +kernel) g13 ?_
  cases h
  exact rn_iretI pr162 (ft162 28 rfl)
def f162_J14 (n : Nat)  (v0 : Nat) (v1 : Int32) (s0 : Int32) (w : Wd) : Option (Int32 × Wd) :=
  ob (getI w 11 v0 17) (fun x3 => ob (putI w 11 v0 21 x3) (fun w5 => ob (getI w5 11 v0 17) (fun x7 => (if s0 = 0 then f162_J37 n  v0 v1 s0 v0 x7 (0 : Int32) w5
    else f162_J37 n  v0 v1 s0 v0 x7 (1 : Int32) w5))))
set_option maxRecDepth 10000 in
theorem rf162_J14 {S : Sc} (n : Nat)  (v0 : Nat) (v1 : Int32) (s0 : Int32) (w : Wd) (o : (Int32 × Wd))  (h : f162_J14 n  v0 v1 s0 w = some o) : Rn S 162 14 [some (.ref v0), some (.int v1), none] [.int s0] w (some (.int o.1), o.2) := by
  unfold f162_J14 at h
  refine rn_istore_n (ls' := [some (.ref v0), some (.int v1), some (.int s0)]) (ft162 7 rfl) rfl ?_
  refine rn_aload_n (ft162 8 rfl) rfl ?_
  refine rn_aload_n (ft162 9 rfl) rfl ?_
  obtain ⟨x3, q4, h⟩ := ob_some h
  refine rn_getI (ft162 10 rfl) (by decide) (by decide) q4 ?_
  obtain ⟨w5, q6, h⟩ := ob_some h
  refine rn_putI (ft162 11 rfl) q6 ?_
  refine rn_aload_n (ft162 12 rfl) rfl ?_
  refine rn_dup (ft162 13 rfl) rfl ?_
  obtain ⟨x7, q8, h⟩ := ob_some h
  refine rn_getI (ft162 14 rfl) (by decide) (by decide) q8 ?_
  refine rn_iload_n (ft162 15 rfl) rfl ?_
  by_cases c14 : s0 = 0
  · replace h := ifp c14 h
    refine rn_if_eq_t (ft162 16 rfl) c14 ?_
    refine rn_iconst (v := (0 : Int32)) (ft162 19 rfl) (by decide) ?_
    exact rn_forget (ls := [some (.ref v0), some (.int v1), some (.int s0)]) (And.intro rfl (And.intro rfl (And.intro rfl trivial))) (rf162_J37 n  v0 v1 s0 v0 x7 (0 : Int32) w5 _  h)
  · replace h := ifn c14 h
    refine rn_if_eq_f (ft162 16 rfl) c14 ?_
    refine rn_iconst (v := (1 : Int32)) (ft162 17 rfl) (by decide) ?_
    refine rn_goto (ft162 18 rfl) ?_
    exact rn_forget (ls := [some (.ref v0), some (.int v1), some (.int s0)]) (And.intro rfl (And.intro rfl (And.intro rfl trivial))) (rf162_J37 n  v0 v1 s0 v0 x7 (1 : Int32) w5 _  h)
def f162 (n : Nat) (v0 : Nat) (v1 : Int32) (w : Wd) : Option (Int32 × Wd) :=
  (if (wsh w v0).map (fun q => q.1) = some 11 then ob (f42 n v0 w) (fun p1 => (if ¬ p1.1 = (45 : Int32) then f162_J14 n  v0 v1 (0 : Int32) p1.2
    else f162_J14 n  v0 v1 (1 : Int32) p1.2)) else none)
set_option maxRecDepth 10000 in
theorem r162 {S : Sc} (n : Nat) (v0 : Nat) (v1 : Int32) (w : Wd) (o : (Int32 × Wd)) (h : f162 n v0 v1 w = some o) : Rn S 162 0 [some (.ref v0), some (.int v1), none] [] w (some (.int o.1), o.2) := by
  unfold f162 at h
  refine rn_aload_n (ft162 0 rfl) rfl ?_
  obtain ⟨g16, h⟩ := ifg h
  obtain ⟨p1, q2, h⟩ := ob_some h
  refine rn_callV (as := []) (k0 := v0) (r := []) (v := (some (.int p1.1))) (w1 := p1.2) (ft162 1 rfl) (by decide +kernel) rfl (Nat.le_of_ble_eq_true rfl) (Nat.le_of_ble_eq_true rfl) (r42 n v0 w _ q2) (by decide +kernel) g16 ?_
  refine rn_bipush (v := (45 : Int32)) (ft162 2 rfl) (by decide) ?_
  by_cases c15 : ¬ p1.1 = (45 : Int32)
  · replace h := ifp c15 h
    refine rn_icmp_ne_t (ft162 3 rfl) c15 ?_
    refine rn_iconst (v := (0 : Int32)) (ft162 6 rfl) (by decide) ?_
    exact rn_forget (ls := [some (.ref v0), some (.int v1), none]) (And.intro rfl (And.intro rfl trivial)) (rf162_J14 n  v0 v1 (0 : Int32) p1.2 _  h)
  · replace h := ifn c15 h
    refine rn_icmp_ne_f (ft162 3 rfl) c15 ?_
    refine rn_iconst (v := (1 : Int32)) (ft162 4 rfl) (by decide) ?_
    refine rn_goto (ft162 5 rfl) ?_
    exact rn_forget (ls := [some (.ref v0), some (.int v1), none]) (And.intro rfl (And.intro rfl trivial)) (rf162_J14 n  v0 v1 (1 : Int32) p1.2 _  h)
/-- NineWheelModel.keepSea()V -/
theorem ft163 : ∀ (i : Nat) {q : Nat × XI}, cd163[i]? = some q → fetch 163 q.1 = some q.2 := ft_of (by decide +kernel)
theorem pr163 : pRt 163 = none := rfl
def f163_H50 (n : Nat)  (K26 : Nat → Wd → Option Wd) : Nat → Nat → Int32 → Wd → Option Wd
  | 0, _, _, _ => none
  | k + 1, v0, v1, w =>
    (if (64 : Int32) ≤ v1 then K26 v0 w
      else ob (getR w 11 v0 2) (fun x25 => ob (getR w 11 v0 24) (fun x27 => ob (aldB w x27 v1) (fun x29 => ob (astB w x25 v1 x29) (fun w31 => (fun (v0 : Nat) (v1 : Int32) w => f163_H50 n  K26 k v0 v1 w) v0 (v1 + (1 : Int32)) w31)))))
set_option maxRecDepth 10000 in
theorem rf163_H50 {S : Sc} (n : Nat)  (K26 : Nat → Wd → Option Wd)  (hK26 : ∀ (y0 : Nat) (w : Wd) (o : Wd), K26 y0 w = some o → Rn S 163 74 [some (.ref y0), none, none, none] [] w (none, o)) : ∀ (k : Nat) (v0 : Nat) (v1 : Int32) (w : Wd) (o : Wd), f163_H50 n  K26 k v0 v1 w = some o → Rn S 163 50 [some (.ref v0), some (.int v1), none, none] [] w (none, o) := by
  intro k
  induction k with
  | zero =>
    intro v0 v1 w o h
    exact nomatch h
  | succ k ih =>
    intro v0 v1 w o h
    have hrec26 : ∀ (y0 : Nat) (y1 : Int32) (w : Wd) (o : Wd), (fun (v0 : Nat) (v1 : Int32) w => f163_H50 n  K26 k v0 v1 w) y0 y1 w = some o → Rn S 163 50 [some (.ref y0), some (.int y1), none, none] [] w (none, o) := fun y0 y1 w o h => ih y0 y1 w o h
    unfold f163_H50 at h
    refine rn_iload_n (ft163 26 rfl) rfl ?_
    refine rn_bipush (v := (64 : Int32)) (ft163 27 rfl) (by decide) ?_
    by_cases c33 : (64 : Int32) ≤ v1
    · replace h := ifp c33 h
      refine rn_icmp_ge_t (ft163 28 rfl) c33 ?_
      exact rn_forget (ls := [some (.ref v0), none, none, none]) (And.intro rfl trivial) (hK26 v0 w _ h)
    · replace h := ifn c33 h
      refine rn_icmp_ge_f (ft163 28 rfl) c33 ?_
      refine rn_aload_n (ft163 29 rfl) rfl ?_
      obtain ⟨x25, q26, h⟩ := ob_some h
      refine rn_getR (ft163 30 rfl) q26 ?_
      refine rn_iload_n (ft163 31 rfl) rfl ?_
      refine rn_aload_n (ft163 32 rfl) rfl ?_
      obtain ⟨x27, q28, h⟩ := ob_some h
      refine rn_getR (ft163 33 rfl) q28 ?_
      refine rn_iload_n (ft163 34 rfl) rfl ?_
      obtain ⟨x29, q30, h⟩ := ob_some h
      refine rn_baload (ft163 35 rfl) q30 ?_
      obtain ⟨w31, q32, h⟩ := ob_some h
      refine rn_bastore (ft163 36 rfl) q32 ?_
      refine rn_iinc (u := 1) (ls' := [some (.ref v0), some (.int (v1 + (1 : Int32))), none, none]) (ft163 37 rfl) rfl (by decide) rfl ?_
      refine rn_goto (ft163 38 rfl) ?_
      exact rn_forget (ls := [some (.ref v0), some (.int (v1 + (1 : Int32))), none, none]) (And.intro rfl (And.intro rfl trivial)) (hrec26 v0 (v1 + (1 : Int32)) w31 _ h)
def f163_J261 (n : Nat) (rec41 : Nat → Int32 → Wd → Option Wd) (K41 : Nat → Wd → Option Wd) (rec78 : Nat → Int32 → Int32 → Wd → Option Wd) (K78 : Nat → Int32 → Wd → Option Wd) (v0 : Nat) (v1 : Int32) (v2 : Int32) (s0 : Int32) (w : Wd) : Option Wd :=
  ob (getR w 11 v0 13) (fun x95 => (if s0 = 0 then ob (getR w 11 v0 13) (fun x97 => ob (aldI w x97 v1) (fun x99 => ob (astI w x95 v1 x99) (fun w101 => rec78 v0 v1 (v2 + (1 : Int32)) w101)))
    else ob (astI w x95 v1 v2) (fun w103 => rec78 v0 v1 (v2 + (1 : Int32)) w103)))
set_option maxRecDepth 10000 in
theorem rf163_J261 {S : Sc} (n : Nat) (rec41 : Nat → Int32 → Wd → Option Wd) (K41 : Nat → Wd → Option Wd) (rec78 : Nat → Int32 → Int32 → Wd → Option Wd) (K78 : Nat → Int32 → Wd → Option Wd) (v0 : Nat) (v1 : Int32) (v2 : Int32) (s0 : Int32) (w : Wd) (o : Wd) (hrec41 : ∀ (y0 : Nat) (y1 : Int32) (w : Wd) (o : Wd), rec41 y0 y1 w = some o → Rn S 163 76 [some (.ref y0), some (.int y1), none, none] [] w (none, o)) (hK41 : ∀ (y0 : Nat) (w : Wd) (o : Wd), K41 y0 w = some o → Rn S 163 294 [some (.ref y0), none, none, none] [] w (none, o)) (hrec78 : ∀ (y0 : Nat) (y1 : Int32) (y2 : Int32) (w : Wd) (o : Wd), rec78 y0 y1 y2 w = some o → Rn S 163 131 [some (.ref y0), some (.int y1), some (.int y2), none] [] w (none, o)) (hK78 : ∀ (y0 : Nat) (y1 : Int32) (w : Wd) (o : Wd), K78 y0 y1 w = some o → Rn S 163 288 [some (.ref y0), some (.int y1), none, none] [] w (none, o)) (h : f163_J261 n rec41 K41 rec78 K78 v0 v1 v2 s0 w = some o) : Rn S 163 261 [some (.ref v0), some (.int v1), some (.int v2), none] [.int s0] w (none, o) := by
  unfold f163_J261 at h
  refine rn_istore_n (ls' := [some (.ref v0), some (.int v1), some (.int v2), some (.int s0)]) (ft163 162 rfl) rfl ?_
  refine rn_aload_n (ft163 163 rfl) rfl ?_
  obtain ⟨x95, q96, h⟩ := ob_some h
  refine rn_getR (ft163 164 rfl) q96 ?_
  refine rn_iload_n (ft163 165 rfl) rfl ?_
  refine rn_iload_n (ft163 166 rfl) rfl ?_
  by_cases c105 : s0 = 0
  · replace h := ifp c105 h
    refine rn_if_eq_t (ft163 167 rfl) c105 ?_
    refine rn_aload_n (ft163 170 rfl) rfl ?_
    obtain ⟨x97, q98, h⟩ := ob_some h
    refine rn_getR (ft163 171 rfl) q98 ?_
    refine rn_iload_n (ft163 172 rfl) rfl ?_
    obtain ⟨x99, q100, h⟩ := ob_some h
    refine rn_iaload (ft163 173 rfl) q100 ?_
    obtain ⟨w101, q102, h⟩ := ob_some h
    refine rn_iastore (ft163 174 rfl) q102 ?_
    refine rn_iinc (u := 1) (ls' := [some (.ref v0), some (.int v1), some (.int (v2 + (1 : Int32))), some (.int s0)]) (ft163 175 rfl) rfl (by decide) rfl ?_
    refine rn_goto (ft163 176 rfl) ?_
    exact rn_forget (ls := [some (.ref v0), some (.int v1), some (.int (v2 + (1 : Int32))), none]) (And.intro rfl (And.intro rfl (And.intro rfl trivial))) (hrec78 v0 v1 (v2 + (1 : Int32)) w101 _ h)
  · replace h := ifn c105 h
    refine rn_if_eq_f (ft163 167 rfl) c105 ?_
    refine rn_iload_n (ft163 168 rfl) rfl ?_
    refine rn_goto (ft163 169 rfl) ?_
    obtain ⟨w103, q104, h⟩ := ob_some h
    refine rn_iastore (ft163 174 rfl) q104 ?_
    refine rn_iinc (u := 1) (ls' := [some (.ref v0), some (.int v1), some (.int (v2 + (1 : Int32))), some (.int s0)]) (ft163 175 rfl) rfl (by decide) rfl ?_
    refine rn_goto (ft163 176 rfl) ?_
    exact rn_forget (ls := [some (.ref v0), some (.int v1), some (.int (v2 + (1 : Int32))), none]) (And.intro rfl (And.intro rfl (And.intro rfl trivial))) (hrec78 v0 v1 (v2 + (1 : Int32)) w103 _ h)
def f163_J207 (n : Nat) (rec41 : Nat → Int32 → Wd → Option Wd) (K41 : Nat → Wd → Option Wd) (rec78 : Nat → Int32 → Int32 → Wd → Option Wd) (K78 : Nat → Int32 → Wd → Option Wd) (v0 : Nat) (v1 : Int32) (v2 : Int32) (s0 : Nat) (s1 : Int32) (s2 : Int32) (w : Wd) : Option Wd :=
  ob (astI w s0 s1 s2) (fun w89 => ob (getR w89 11 v0 2) (fun x91 => ob (aldB w89 x91 v2) (fun x93 => (if ¬ x93 = 0 then f163_J261 n rec41 K41 rec78 K78 v0 v1 v2 (0 : Int32) w89
    else ob (getR w89 11 v0 13) (fun x106 => ob (aldI w89 x106 v1) (fun x108 => (if x108 < 0 then f163_J261 n rec41 K41 rec78 K78 v0 v1 v2 (1 : Int32) w89
      else ob (getR w89 11 v0 12) (fun x110 => ob (aldI w89 x110 (((64 : Int32) * v1) + v2)) (fun x112 => ob (getR w89 11 v0 12) (fun x114 => ob (getR w89 11 v0 13) (fun x116 => ob (aldI w89 x116 v1) (fun x118 => ob (aldI w89 x114 (((64 : Int32) * v1) + x118)) (fun x120 => (if x112 ≤ x120 then f163_J261 n rec41 K41 rec78 K78 v0 v1 v2 (0 : Int32) w89
        else f163_J261 n rec41 K41 rec78 K78 v0 v1 v2 (1 : Int32) w89))))))))))))))
set_option maxRecDepth 10000 in
theorem rf163_J207 {S : Sc} (n : Nat) (rec41 : Nat → Int32 → Wd → Option Wd) (K41 : Nat → Wd → Option Wd) (rec78 : Nat → Int32 → Int32 → Wd → Option Wd) (K78 : Nat → Int32 → Wd → Option Wd) (v0 : Nat) (v1 : Int32) (v2 : Int32) (s0 : Nat) (s1 : Int32) (s2 : Int32) (w : Wd) (o : Wd) (hrec41 : ∀ (y0 : Nat) (y1 : Int32) (w : Wd) (o : Wd), rec41 y0 y1 w = some o → Rn S 163 76 [some (.ref y0), some (.int y1), none, none] [] w (none, o)) (hK41 : ∀ (y0 : Nat) (w : Wd) (o : Wd), K41 y0 w = some o → Rn S 163 294 [some (.ref y0), none, none, none] [] w (none, o)) (hrec78 : ∀ (y0 : Nat) (y1 : Int32) (y2 : Int32) (w : Wd) (o : Wd), rec78 y0 y1 y2 w = some o → Rn S 163 131 [some (.ref y0), some (.int y1), some (.int y2), none] [] w (none, o)) (hK78 : ∀ (y0 : Nat) (y1 : Int32) (w : Wd) (o : Wd), K78 y0 y1 w = some o → Rn S 163 288 [some (.ref y0), some (.int y1), none, none] [] w (none, o)) (h : f163_J207 n rec41 K41 rec78 K78 v0 v1 v2 s0 s1 s2 w = some o) : Rn S 163 207 [some (.ref v0), some (.int v1), some (.int v2), none] [.int s2, .int s1, .ref s0] w (none, o) := by
  unfold f163_J207 at h
  obtain ⟨w89, q90, h⟩ := ob_some h
  refine rn_iastore (ft163 128 rfl) q90 ?_
  refine rn_aload_n (ft163 129 rfl) rfl ?_
  obtain ⟨x91, q92, h⟩ := ob_some h
  refine rn_getR (ft163 130 rfl) q92 ?_
  refine rn_iload_n (ft163 131 rfl) rfl ?_
  obtain ⟨x93, q94, h⟩ := ob_some h
  refine rn_baload (ft163 132 rfl) q94 ?_
  by_cases c124 : ¬ x93 = 0
  · replace h := ifp c124 h
    refine rn_if_ne_t (ft163 133 rfl) c124 ?_
    refine rn_iconst (v := (0 : Int32)) (ft163 161 rfl) (by decide) ?_
    exact rn_forget (ls := [some (.ref v0), some (.int v1), some (.int v2), none]) (And.intro rfl (And.intro rfl (And.intro rfl trivial))) (rf163_J261 n rec41 K41 rec78 K78 v0 v1 v2 (0 : Int32) w89 _ hrec41 hK41 hrec78 hK78 h)
  · replace h := ifn c124 h
    refine rn_if_ne_f (ft163 133 rfl) c124 ?_
    refine rn_aload_n (ft163 134 rfl) rfl ?_
    obtain ⟨x106, q107, h⟩ := ob_some h
    refine rn_getR (ft163 135 rfl) q107 ?_
    refine rn_iload_n (ft163 136 rfl) rfl ?_
    obtain ⟨x108, q109, h⟩ := ob_some h
    refine rn_iaload (ft163 137 rfl) q109 ?_
    by_cases c123 : x108 < 0
    · replace h := ifp c123 h
      refine rn_if_lt_t (ft163 138 rfl) c123 ?_
      refine rn_iconst (v := (1 : Int32)) (ft163 159 rfl) (by decide) ?_
      refine rn_goto (ft163 160 rfl) ?_
      exact rn_forget (ls := [some (.ref v0), some (.int v1), some (.int v2), none]) (And.intro rfl (And.intro rfl (And.intro rfl trivial))) (rf163_J261 n rec41 K41 rec78 K78 v0 v1 v2 (1 : Int32) w89 _ hrec41 hK41 hrec78 hK78 h)
    · replace h := ifn c123 h
      refine rn_if_lt_f (ft163 138 rfl) c123 ?_
      refine rn_aload_n (ft163 139 rfl) rfl ?_
      obtain ⟨x110, q111, h⟩ := ob_some h
      refine rn_getR (ft163 140 rfl) q111 ?_
      refine rn_bipush (v := (64 : Int32)) (ft163 141 rfl) (by decide) ?_
      refine rn_iload_n (ft163 142 rfl) rfl ?_
      refine rn_imul (ft163 143 rfl) ?_
      refine rn_iload_n (ft163 144 rfl) rfl ?_
      refine rn_iadd (ft163 145 rfl) ?_
      obtain ⟨x112, q113, h⟩ := ob_some h
      refine rn_iaload (ft163 146 rfl) q113 ?_
      refine rn_aload_n (ft163 147 rfl) rfl ?_
      obtain ⟨x114, q115, h⟩ := ob_some h
      refine rn_getR (ft163 148 rfl) q115 ?_
      refine rn_bipush (v := (64 : Int32)) (ft163 149 rfl) (by decide) ?_
      refine rn_iload_n (ft163 150 rfl) rfl ?_
      refine rn_imul (ft163 151 rfl) ?_
      refine rn_aload_n (ft163 152 rfl) rfl ?_
      obtain ⟨x116, q117, h⟩ := ob_some h
      refine rn_getR (ft163 153 rfl) q117 ?_
      refine rn_iload_n (ft163 154 rfl) rfl ?_
      obtain ⟨x118, q119, h⟩ := ob_some h
      refine rn_iaload (ft163 155 rfl) q119 ?_
      refine rn_iadd (ft163 156 rfl) ?_
      obtain ⟨x120, q121, h⟩ := ob_some h
      refine rn_iaload (ft163 157 rfl) q121 ?_
      by_cases c122 : x112 ≤ x120
      · replace h := ifp c122 h
        refine rn_icmp_le_t (ft163 158 rfl) c122 ?_
        refine rn_iconst (v := (0 : Int32)) (ft163 161 rfl) (by decide) ?_
        exact rn_forget (ls := [some (.ref v0), some (.int v1), some (.int v2), none]) (And.intro rfl (And.intro rfl (And.intro rfl trivial))) (rf163_J261 n rec41 K41 rec78 K78 v0 v1 v2 (0 : Int32) w89 _ hrec41 hK41 hrec78 hK78 h)
      · replace h := ifn c122 h
        refine rn_icmp_le_f (ft163 158 rfl) c122 ?_
        refine rn_iconst (v := (1 : Int32)) (ft163 159 rfl) (by decide) ?_
        refine rn_goto (ft163 160 rfl) ?_
        exact rn_forget (ls := [some (.ref v0), some (.int v1), some (.int v2), none]) (And.intro rfl (And.intro rfl (And.intro rfl trivial))) (rf163_J261 n rec41 K41 rec78 K78 v0 v1 v2 (1 : Int32) w89 _ hrec41 hK41 hrec78 hK78 h)
def f163_H131 (n : Nat) (rec41 : Nat → Int32 → Wd → Option Wd) (K41 : Nat → Wd → Option Wd) (K78 : Nat → Int32 → Wd → Option Wd) : Nat → Nat → Int32 → Int32 → Wd → Option Wd
  | 0, _, _, _, _ => none
  | k + 1, v0, v1, v2, w =>
    (if (64 : Int32) ≤ v2 then K78 v0 v1 w
      else ob (getR w 11 v0 9) (fun x65 => ob (getR w 11 v0 31) (fun x67 => ob (aldI w x67 (((64 : Int32) * v1) + v2)) (fun x69 => ob (astI w x65 (((64 : Int32) * v1) + v2) x69) (fun w71 => ob (getR w71 11 v0 12) (fun x73 => ob (getR w71 11 v0 2) (fun x75 => ob (aldB w71 x75 v2) (fun x77 => (if x77 = 0 then ob (getR w71 11 v0 9) (fun x79 => ob (aldI w71 x79 (((64 : Int32) * v1) + v2)) (fun x81 => ob (getR w71 11 v0 8) (fun x83 => ob (aldI w71 x83 v1) (fun x85 => (if (wsh w71 v0).map (fun q => q.1) = some 11 then ob (f116 n v0 v2 w71) (fun p87 => f163_J207 n rec41 K41 (fun (v0 : Nat) (v1 : Int32) (v2 : Int32) w => f163_H131 n rec41 K41 K78 k v0 v1 v2 w) K78 v0 v1 v2 x73 (((64 : Int32) * v1) + v2) (x81 - (x85 * p87.1)) p87.2) else none)))))
        else f163_J207 n rec41 K41 (fun (v0 : Nat) (v1 : Int32) (v2 : Int32) w => f163_H131 n rec41 K41 K78 k v0 v1 v2 w) K78 v0 v1 v2 x73 (((64 : Int32) * v1) + v2) (-99 : Int32) w71)))))))))
set_option maxRecDepth 10000 in
theorem rf163_H131 {S : Sc} (n : Nat) (rec41 : Nat → Int32 → Wd → Option Wd) (K41 : Nat → Wd → Option Wd) (K78 : Nat → Int32 → Wd → Option Wd) (hrec41 : ∀ (y0 : Nat) (y1 : Int32) (w : Wd) (o : Wd), rec41 y0 y1 w = some o → Rn S 163 76 [some (.ref y0), some (.int y1), none, none] [] w (none, o)) (hK41 : ∀ (y0 : Nat) (w : Wd) (o : Wd), K41 y0 w = some o → Rn S 163 294 [some (.ref y0), none, none, none] [] w (none, o)) (hK78 : ∀ (y0 : Nat) (y1 : Int32) (w : Wd) (o : Wd), K78 y0 y1 w = some o → Rn S 163 288 [some (.ref y0), some (.int y1), none, none] [] w (none, o)) : ∀ (k : Nat) (v0 : Nat) (v1 : Int32) (v2 : Int32) (w : Wd) (o : Wd), f163_H131 n rec41 K41 K78 k v0 v1 v2 w = some o → Rn S 163 131 [some (.ref v0), some (.int v1), some (.int v2), none] [] w (none, o) := by
  intro k
  induction k with
  | zero =>
    intro v0 v1 v2 w o h
    exact nomatch h
  | succ k ih =>
    intro v0 v1 v2 w o h
    have hrec78 : ∀ (y0 : Nat) (y1 : Int32) (y2 : Int32) (w : Wd) (o : Wd), (fun (v0 : Nat) (v1 : Int32) (v2 : Int32) w => f163_H131 n rec41 K41 K78 k v0 v1 v2 w) y0 y1 y2 w = some o → Rn S 163 131 [some (.ref y0), some (.int y1), some (.int y2), none] [] w (none, o) := fun y0 y1 y2 w o h => ih y0 y1 y2 w o h
    unfold f163_H131 at h
    refine rn_iload_n (ft163 78 rfl) rfl ?_
    refine rn_bipush (v := (64 : Int32)) (ft163 79 rfl) (by decide) ?_
    by_cases c127 : (64 : Int32) ≤ v2
    · replace h := ifp c127 h
      refine rn_icmp_ge_t (ft163 80 rfl) c127 ?_
      exact rn_forget (ls := [some (.ref v0), some (.int v1), none, none]) (And.intro rfl (And.intro rfl trivial)) (hK78 v0 v1 w _ h)
    · replace h := ifn c127 h
      refine rn_icmp_ge_f (ft163 80 rfl) c127 ?_
      refine rn_aload_n (ft163 81 rfl) rfl ?_
      obtain ⟨x65, q66, h⟩ := ob_some h
      refine rn_getR (ft163 82 rfl) q66 ?_
      refine rn_bipush (v := (64 : Int32)) (ft163 83 rfl) (by decide) ?_
      refine rn_iload_n (ft163 84 rfl) rfl ?_
      refine rn_imul (ft163 85 rfl) ?_
      refine rn_iload_n (ft163 86 rfl) rfl ?_
      refine rn_iadd (ft163 87 rfl) ?_
      refine rn_aload_n (ft163 88 rfl) rfl ?_
      obtain ⟨x67, q68, h⟩ := ob_some h
      refine rn_getR (ft163 89 rfl) q68 ?_
      refine rn_bipush (v := (64 : Int32)) (ft163 90 rfl) (by decide) ?_
      refine rn_iload_n (ft163 91 rfl) rfl ?_
      refine rn_imul (ft163 92 rfl) ?_
      refine rn_iload_n (ft163 93 rfl) rfl ?_
      refine rn_iadd (ft163 94 rfl) ?_
      obtain ⟨x69, q70, h⟩ := ob_some h
      refine rn_iaload (ft163 95 rfl) q70 ?_
      obtain ⟨w71, q72, h⟩ := ob_some h
      refine rn_iastore (ft163 96 rfl) q72 ?_
      refine rn_aload_n (ft163 97 rfl) rfl ?_
      obtain ⟨x73, q74, h⟩ := ob_some h
      refine rn_getR (ft163 98 rfl) q74 ?_
      refine rn_bipush (v := (64 : Int32)) (ft163 99 rfl) (by decide) ?_
      refine rn_iload_n (ft163 100 rfl) rfl ?_
      refine rn_imul (ft163 101 rfl) ?_
      refine rn_iload_n (ft163 102 rfl) rfl ?_
      refine rn_iadd (ft163 103 rfl) ?_
      refine rn_aload_n (ft163 104 rfl) rfl ?_
      obtain ⟨x75, q76, h⟩ := ob_some h
      refine rn_getR (ft163 105 rfl) q76 ?_
      refine rn_iload_n (ft163 106 rfl) rfl ?_
      obtain ⟨x77, q78, h⟩ := ob_some h
      refine rn_baload (ft163 107 rfl) q78 ?_
      by_cases c126 : x77 = 0
      · replace h := ifp c126 h
        refine rn_if_eq_t (ft163 108 rfl) c126 ?_
        refine rn_aload_n (ft163 111 rfl) rfl ?_
        obtain ⟨x79, q80, h⟩ := ob_some h
        refine rn_getR (ft163 112 rfl) q80 ?_
        refine rn_bipush (v := (64 : Int32)) (ft163 113 rfl) (by decide) ?_
        refine rn_iload_n (ft163 114 rfl) rfl ?_
        refine rn_imul (ft163 115 rfl) ?_
        refine rn_iload_n (ft163 116 rfl) rfl ?_
        refine rn_iadd (ft163 117 rfl) ?_
        obtain ⟨x81, q82, h⟩ := ob_some h
        refine rn_iaload (ft163 118 rfl) q82 ?_
        refine rn_aload_n (ft163 119 rfl) rfl ?_
        obtain ⟨x83, q84, h⟩ := ob_some h
        refine rn_getR (ft163 120 rfl) q84 ?_
        refine rn_iload_n (ft163 121 rfl) rfl ?_
        obtain ⟨x85, q86, h⟩ := ob_some h
        refine rn_iaload (ft163 122 rfl) q86 ?_
        refine rn_aload_n (ft163 123 rfl) rfl ?_
        refine rn_iload_n (ft163 124 rfl) rfl ?_
        obtain ⟨g125, h⟩ := ifg h
        obtain ⟨p87, q88, h⟩ := ob_some h
        refine rn_callV (as := [.int v2]) (k0 := v0) (r := [.int x85, .int x81, .int (((64 : Int32) * v1) + v2), .ref x73]) (v := (some (.int p87.1))) (w1 := p87.2) (ft163 125 rfl) (by decide +kernel) rfl (Nat.le_of_ble_eq_true rfl) (Nat.le_of_ble_eq_true rfl) (r116 n v0 v2 w71 _ q88) (by decide +kernel) g125 ?_
        refine rn_imul (ft163 126 rfl) ?_
        refine rn_isub (ft163 127 rfl) ?_
        exact rn_forget (ls := [some (.ref v0), some (.int v1), some (.int v2), none]) (And.intro rfl (And.intro rfl (And.intro rfl trivial))) (rf163_J207 n rec41 K41 (fun (v0 : Nat) (v1 : Int32) (v2 : Int32) w => f163_H131 n rec41 K41 K78 k v0 v1 v2 w) K78 v0 v1 v2 x73 (((64 : Int32) * v1) + v2) (x81 - (x85 * p87.1)) p87.2 _ hrec41 hK41 hrec78 hK78 h)
      · replace h := ifn c126 h
        refine rn_if_eq_f (ft163 108 rfl) c126 ?_
        refine rn_bipush (v := (-99 : Int32)) (ft163 109 rfl) (by decide) ?_
        refine rn_goto (ft163 110 rfl) ?_
        exact rn_forget (ls := [some (.ref v0), some (.int v1), some (.int v2), none]) (And.intro rfl (And.intro rfl (And.intro rfl trivial))) (rf163_J207 n rec41 K41 (fun (v0 : Nat) (v1 : Int32) (v2 : Int32) w => f163_H131 n rec41 K41 K78 k v0 v1 v2 w) K78 v0 v1 v2 x73 (((64 : Int32) * v1) + v2) (-99 : Int32) w71 _ hrec41 hK41 hrec78 hK78 h)
def f163_H76 (n : Nat)  (K41 : Nat → Wd → Option Wd) : Nat → Nat → Int32 → Wd → Option Wd
  | 0, _, _, _ => none
  | k + 1, v0, v1, w =>
    ob (getI w 11 v0 6) (fun x35 => (if x35 ≤ v1 then K41 v0 w
      else ob (getR w 11 v0 7) (fun x37 => ob (getR w 11 v0 29) (fun x39 => ob (aldI w x39 v1) (fun x41 => ob (astI w x37 v1 x41) (fun w43 => ob (getR w43 11 v0 8) (fun x45 => ob (getR w43 11 v0 30) (fun x47 => ob (aldI w43 x47 v1) (fun x49 => ob (astI w43 x45 v1 x49) (fun w51 => ob (getR w51 11 v0 10) (fun x53 => ob (astI w51 x53 v1 (0 : Int32)) (fun w55 => ob (getR w55 11 v0 11) (fun x57 => ob (astI w55 x57 v1 (0 : Int32)) (fun w59 => ob (getR w59 11 v0 13) (fun x61 => ob (astI w59 x61 v1 (-1 : Int32)) (fun w63 => f163_H131 n (fun (v0 : Nat) (v1 : Int32) w => f163_H76 n  K41 k v0 v1 w) K41 (fun (e0_128 : Nat) (e1_128 : Int32) (w128 : Wd) => (fun (v0 : Nat) (v1 : Int32) w => f163_H76 n  K41 k v0 v1 w) e0_128 (e1_128 + (1 : Int32)) w128) n v0 v1 (0 : Int32) w63))))))))))))))))
set_option maxRecDepth 10000 in
theorem rf163_H76 {S : Sc} (n : Nat)  (K41 : Nat → Wd → Option Wd)  (hK41 : ∀ (y0 : Nat) (w : Wd) (o : Wd), K41 y0 w = some o → Rn S 163 294 [some (.ref y0), none, none, none] [] w (none, o)) : ∀ (k : Nat) (v0 : Nat) (v1 : Int32) (w : Wd) (o : Wd), f163_H76 n  K41 k v0 v1 w = some o → Rn S 163 76 [some (.ref v0), some (.int v1), none, none] [] w (none, o) := by
  intro k
  induction k with
  | zero =>
    intro v0 v1 w o h
    exact nomatch h
  | succ k ih =>
    intro v0 v1 w o h
    have hrec41 : ∀ (y0 : Nat) (y1 : Int32) (w : Wd) (o : Wd), (fun (v0 : Nat) (v1 : Int32) w => f163_H76 n  K41 k v0 v1 w) y0 y1 w = some o → Rn S 163 76 [some (.ref y0), some (.int y1), none, none] [] w (none, o) := fun y0 y1 w o h => ih y0 y1 w o h
    unfold f163_H76 at h
    refine rn_iload_n (ft163 41 rfl) rfl ?_
    refine rn_aload_n (ft163 42 rfl) rfl ?_
    obtain ⟨x35, q36, h⟩ := ob_some h
    refine rn_getI (ft163 43 rfl) (by decide) (by decide) q36 ?_
    by_cases c129 : x35 ≤ v1
    · replace h := ifp c129 h
      refine rn_icmp_ge_t (ft163 44 rfl) c129 ?_
      exact rn_forget (ls := [some (.ref v0), none, none, none]) (And.intro rfl trivial) (hK41 v0 w _ h)
    · replace h := ifn c129 h
      refine rn_icmp_ge_f (ft163 44 rfl) c129 ?_
      refine rn_aload_n (ft163 45 rfl) rfl ?_
      obtain ⟨x37, q38, h⟩ := ob_some h
      refine rn_getR (ft163 46 rfl) q38 ?_
      refine rn_iload_n (ft163 47 rfl) rfl ?_
      refine rn_aload_n (ft163 48 rfl) rfl ?_
      obtain ⟨x39, q40, h⟩ := ob_some h
      refine rn_getR (ft163 49 rfl) q40 ?_
      refine rn_iload_n (ft163 50 rfl) rfl ?_
      obtain ⟨x41, q42, h⟩ := ob_some h
      refine rn_iaload (ft163 51 rfl) q42 ?_
      obtain ⟨w43, q44, h⟩ := ob_some h
      refine rn_iastore (ft163 52 rfl) q44 ?_
      refine rn_aload_n (ft163 53 rfl) rfl ?_
      obtain ⟨x45, q46, h⟩ := ob_some h
      refine rn_getR (ft163 54 rfl) q46 ?_
      refine rn_iload_n (ft163 55 rfl) rfl ?_
      refine rn_aload_n (ft163 56 rfl) rfl ?_
      obtain ⟨x47, q48, h⟩ := ob_some h
      refine rn_getR (ft163 57 rfl) q48 ?_
      refine rn_iload_n (ft163 58 rfl) rfl ?_
      obtain ⟨x49, q50, h⟩ := ob_some h
      refine rn_iaload (ft163 59 rfl) q50 ?_
      obtain ⟨w51, q52, h⟩ := ob_some h
      refine rn_iastore (ft163 60 rfl) q52 ?_
      refine rn_aload_n (ft163 61 rfl) rfl ?_
      obtain ⟨x53, q54, h⟩ := ob_some h
      refine rn_getR (ft163 62 rfl) q54 ?_
      refine rn_iload_n (ft163 63 rfl) rfl ?_
      refine rn_iconst (v := (0 : Int32)) (ft163 64 rfl) (by decide) ?_
      obtain ⟨w55, q56, h⟩ := ob_some h
      refine rn_iastore (ft163 65 rfl) q56 ?_
      refine rn_aload_n (ft163 66 rfl) rfl ?_
      obtain ⟨x57, q58, h⟩ := ob_some h
      refine rn_getR (ft163 67 rfl) q58 ?_
      refine rn_iload_n (ft163 68 rfl) rfl ?_
      refine rn_iconst (v := (0 : Int32)) (ft163 69 rfl) (by decide) ?_
      obtain ⟨w59, q60, h⟩ := ob_some h
      refine rn_iastore (ft163 70 rfl) q60 ?_
      refine rn_aload_n (ft163 71 rfl) rfl ?_
      obtain ⟨x61, q62, h⟩ := ob_some h
      refine rn_getR (ft163 72 rfl) q62 ?_
      refine rn_iload_n (ft163 73 rfl) rfl ?_
      refine rn_iconst (v := (-1 : Int32)) (ft163 74 rfl) (by decide) ?_
      obtain ⟨w63, q64, h⟩ := ob_some h
      refine rn_iastore (ft163 75 rfl) q64 ?_
      refine rn_iconst (v := (0 : Int32)) (ft163 76 rfl) (by decide) ?_
      refine rn_istore_n (ls' := [some (.ref v0), some (.int v1), some (.int (0 : Int32)), none]) (ft163 77 rfl) rfl ?_
      refine rn_forget (ls := [some (.ref v0), some (.int v1), some (.int (0 : Int32)), none]) (And.intro rfl (And.intro rfl (And.intro rfl trivial))) (rf163_H131 n (fun (v0 : Nat) (v1 : Int32) w => f163_H76 n  K41 k v0 v1 w) K41 _ hrec41 hK41 (fun e0_128 e1_128 w128 o h => ?_) n v0 v1 (0 : Int32) w63 _ h)
      refine rn_iinc (u := 1) (ls' := [some (.ref e0_128), some (.int (e1_128 + (1 : Int32))), none, none]) (ft163 177 rfl) rfl (by decide) rfl ?_
      refine rn_goto (ft163 178 rfl) ?_
      exact rn_forget (ls := [some (.ref e0_128), some (.int (e1_128 + (1 : Int32))), none, none]) (And.intro rfl (And.intro rfl trivial)) (hrec41 e0_128 (e1_128 + (1 : Int32)) w128 _ h)
def f163 (n : Nat) (v0 : Nat) (w : Wd) : Option Wd :=
  ob (getI w 11 v0 22) (fun x1 => ob (putI w 11 v0 0 x1) (fun w3 => ob (getI w3 11 v0 23) (fun x5 => ob (putI w3 11 v0 1 x5) (fun w7 => ob (getI w7 11 v0 25) (fun x9 => ob (putI w7 11 v0 3 x9) (fun w11 => ob (getI w11 11 v0 26) (fun x13 => ob (putI w11 11 v0 4 x13) (fun w15 => ob (getI w15 11 v0 27) (fun x17 => ob (putI w15 11 v0 5 x17) (fun w19 => ob (getI w19 11 v0 28) (fun x21 => ob (putI w19 11 v0 6 x21) (fun w23 => f163_H50 n  (fun (e0_34 : Nat) (w34 : Wd) => f163_H76 n  (fun (e0_130 : Nat) (w130 : Wd) => ob (getR w130 11 e0_130 62) (fun x131 => ob (astB w130 x131 (0 : Int32) (0 : Int32)) (fun w133 => ob (getR w133 11 e0_130 62) (fun x135 => ob (astB w133 x135 (1 : Int32) (0 : Int32)) (fun w137 => ob (putZ w137 11 e0_130 34 (0 : Int32)) (fun w139 => some w139)))))) n e0_34 (0 : Int32) w34) n v0 (0 : Int32) w23))))))))))))
set_option maxRecDepth 10000 in
theorem r163 {S : Sc} (n : Nat) (v0 : Nat) (w : Wd) (o : Wd) (h : f163 n v0 w = some o) : Rn S 163 0 [some (.ref v0), none, none, none] [] w (none, o) := by
  unfold f163 at h
  refine rn_aload_n (ft163 0 rfl) rfl ?_
  refine rn_aload_n (ft163 1 rfl) rfl ?_
  obtain ⟨x1, q2, h⟩ := ob_some h
  refine rn_getI (ft163 2 rfl) (by decide) (by decide) q2 ?_
  obtain ⟨w3, q4, h⟩ := ob_some h
  refine rn_putI (ft163 3 rfl) q4 ?_
  refine rn_aload_n (ft163 4 rfl) rfl ?_
  refine rn_aload_n (ft163 5 rfl) rfl ?_
  obtain ⟨x5, q6, h⟩ := ob_some h
  refine rn_getI (ft163 6 rfl) (by decide) (by decide) q6 ?_
  obtain ⟨w7, q8, h⟩ := ob_some h
  refine rn_putI (ft163 7 rfl) q8 ?_
  refine rn_aload_n (ft163 8 rfl) rfl ?_
  refine rn_aload_n (ft163 9 rfl) rfl ?_
  obtain ⟨x9, q10, h⟩ := ob_some h
  refine rn_getI (ft163 10 rfl) (by decide) (by decide) q10 ?_
  obtain ⟨w11, q12, h⟩ := ob_some h
  refine rn_putI (ft163 11 rfl) q12 ?_
  refine rn_aload_n (ft163 12 rfl) rfl ?_
  refine rn_aload_n (ft163 13 rfl) rfl ?_
  obtain ⟨x13, q14, h⟩ := ob_some h
  refine rn_getI (ft163 14 rfl) (by decide) (by decide) q14 ?_
  obtain ⟨w15, q16, h⟩ := ob_some h
  refine rn_putI (ft163 15 rfl) q16 ?_
  refine rn_aload_n (ft163 16 rfl) rfl ?_
  refine rn_aload_n (ft163 17 rfl) rfl ?_
  obtain ⟨x17, q18, h⟩ := ob_some h
  refine rn_getI (ft163 18 rfl) (by decide) (by decide) q18 ?_
  obtain ⟨w19, q20, h⟩ := ob_some h
  refine rn_putI (ft163 19 rfl) q20 ?_
  refine rn_aload_n (ft163 20 rfl) rfl ?_
  refine rn_aload_n (ft163 21 rfl) rfl ?_
  obtain ⟨x21, q22, h⟩ := ob_some h
  refine rn_getI (ft163 22 rfl) (by decide) (by decide) q22 ?_
  obtain ⟨w23, q24, h⟩ := ob_some h
  refine rn_putI (ft163 23 rfl) q24 ?_
  refine rn_iconst (v := (0 : Int32)) (ft163 24 rfl) (by decide) ?_
  refine rn_istore_n (ls' := [some (.ref v0), some (.int (0 : Int32)), none, none]) (ft163 25 rfl) rfl ?_
  refine rn_forget (ls := [some (.ref v0), some (.int (0 : Int32)), none, none]) (And.intro rfl (And.intro rfl trivial)) (rf163_H50 n  _  (fun e0_34 w34 o h => ?_) n v0 (0 : Int32) w23 _ h)
  refine rn_iconst (v := (0 : Int32)) (ft163 39 rfl) (by decide) ?_
  refine rn_istore_n (ls' := [some (.ref e0_34), some (.int (0 : Int32)), none, none]) (ft163 40 rfl) rfl ?_
  refine rn_forget (ls := [some (.ref e0_34), some (.int (0 : Int32)), none, none]) (And.intro rfl (And.intro rfl trivial)) (rf163_H76 n  _  (fun e0_130 w130 o h => ?_) n e0_34 (0 : Int32) w34 _ h)
  refine rn_aload_n (ft163 179 rfl) rfl ?_
  obtain ⟨x131, q132, h⟩ := ob_some h
  refine rn_getR (ft163 180 rfl) q132 ?_
  refine rn_iconst (v := (0 : Int32)) (ft163 181 rfl) (by decide) ?_
  refine rn_iconst (v := (0 : Int32)) (ft163 182 rfl) (by decide) ?_
  obtain ⟨w133, q134, h⟩ := ob_some h
  refine rn_bastore (ft163 183 rfl) q134 ?_
  refine rn_aload_n (ft163 184 rfl) rfl ?_
  obtain ⟨x135, q136, h⟩ := ob_some h
  refine rn_getR (ft163 185 rfl) q136 ?_
  refine rn_iconst (v := (1 : Int32)) (ft163 186 rfl) (by decide) ?_
  refine rn_iconst (v := (0 : Int32)) (ft163 187 rfl) (by decide) ?_
  obtain ⟨w137, q138, h⟩ := ob_some h
  refine rn_bastore (ft163 188 rfl) q138 ?_
  refine rn_aload_n (ft163 189 rfl) rfl ?_
  refine rn_iconst (v := (0 : Int32)) (ft163 190 rfl) (by decide) ?_
  obtain ⟨w139, q140, h⟩ := ob_some h
  refine rn_putZ (ft163 191 rfl) q140 ?_
  cases h
  exact rn_vret pr163 (ft163 192 rfl)
/-- NineWheelModel.worth(II)I -/
theorem ft164 : ∀ (i : Nat) {q : Nat × XI}, cd164[i]? = some q → fetch 164 q.1 = some q.2 := ft_of (by decide +kernel)
theorem pr164 : pRt 164 = some .int := rfl
def f164 (n : Nat) (v0 : Nat) (v1 : Int32) (v2 : Int32) (w : Wd) : Option (Int32 × Wd) :=
  ob (f118 v1 w) (fun p1 => (if p1.1 = 0 then some ((-1000001 : Int32), p1.2)
    else (if (wsh p1.2 v0).map (fun q => q.1) = some 11 then ob (f119 v0 v2 p1.2) (fun p3 => (if p3.1 = 0 then some ((-1000001 : Int32), p3.2)
      else (if (wsh p3.2 v0).map (fun q => q.1) = some 11 then ob (f120 n v0 v1 v2 p3.2) (fun p5 => some (p5.1, p5.2)) else none))) else none)))
set_option maxRecDepth 10000 in
theorem r164 {S : Sc} (n : Nat) (v0 : Nat) (v1 : Int32) (v2 : Int32) (w : Wd) (o : (Int32 × Wd)) (h : f164 n v0 v1 v2 w = some o) : Rn S 164 0 [some (.ref v0), some (.int v1), some (.int v2)] [] w (some (.int o.1), o.2) := by
  unfold f164 at h
  refine rn_iload_n (ft164 0 rfl) rfl ?_
  obtain ⟨p1, q2, h⟩ := ob_some h
  refine rn_callS (as := [.int v1]) (r := []) (v := (some (.int p1.1))) (w1 := p1.2) (ft164 1 rfl) (by decide +kernel) rfl (Nat.le_of_ble_eq_true rfl) (Nat.le_of_ble_eq_true rfl) (r118 v1 w _ q2) ?_
  by_cases c10 : p1.1 = 0
  · replace h := ifp c10 h
    refine rn_if_eq_t (ft164 2 rfl) c10 ?_
    refine rn_ldcw (v := (-1000001 : Int32)) (ft164 12 rfl) (by decide) ?_
    cases h
    exact rn_iretI pr164 (ft164 13 rfl)
  · replace h := ifn c10 h
    refine rn_if_eq_f (ft164 2 rfl) c10 ?_
    refine rn_aload_n (ft164 3 rfl) rfl ?_
    refine rn_iload_n (ft164 4 rfl) rfl ?_
    obtain ⟨g9, h⟩ := ifg h
    obtain ⟨p3, q4, h⟩ := ob_some h
    refine rn_callV (as := [.int v2]) (k0 := v0) (r := []) (v := (some (.int p3.1))) (w1 := p3.2) (ft164 5 rfl) (by decide +kernel) rfl (Nat.le_of_ble_eq_true rfl) (Nat.le_of_ble_eq_true rfl) (r119 v0 v2 p1.2 _ q4) (by decide +kernel) g9 ?_
    by_cases c8 : p3.1 = 0
    · replace h := ifp c8 h
      refine rn_if_eq_t (ft164 6 rfl) c8 ?_
      refine rn_ldcw (v := (-1000001 : Int32)) (ft164 12 rfl) (by decide) ?_
      cases h
      exact rn_iretI pr164 (ft164 13 rfl)
    · replace h := ifn c8 h
      refine rn_if_eq_f (ft164 6 rfl) c8 ?_
      refine rn_aload_n (ft164 7 rfl) rfl ?_
      refine rn_iload_n (ft164 8 rfl) rfl ?_
      refine rn_iload_n (ft164 9 rfl) rfl ?_
      obtain ⟨g7, h⟩ := ifg h
      obtain ⟨p5, q6, h⟩ := ob_some h
      refine rn_callV (as := [.int v1, .int v2]) (k0 := v0) (r := []) (v := (some (.int p5.1))) (w1 := p5.2) (ft164 10 rfl) (by decide +kernel) rfl (Nat.le_of_ble_eq_true rfl) (Nat.le_of_ble_eq_true rfl) (r120 n v0 v1 v2 p3.2 _ q6) (by decide +kernel) g7 ?_
      refine rn_goto (ft164 11 rfl) ?_
      cases h
      exact rn_iretI pr164 (ft164 13 rfl)
