/-! THE METHODS AS FUNCTIONS, 9 -/
/-- NineWheel$Crew.foreseen(IIII)I -/
theorem ft147 : ∀ (i : Nat) {q : Nat × XI}, cd147[i]? = some q → fetch 147 q.1 = some q.2 := ft_of (by decide +kernel)
theorem pr147 : pRt 147 = some .int := rfl
def f147_J35  (v4 : Int32) (w : Wd) : Option (Int32 × Wd) :=
  some (((-99 : Int32) * v4), w)
set_option maxRecDepth 10000 in
theorem rf147_J35 {S : Sc}  (v4 : Int32) (w : Wd) (o : (Int32 × Wd))  (h : f147_J35  v4 w = some o) : Rn S 147 35 [none, none, none, none, some (.int v4), none] [] w (some (.int o.1), o.2) := by
  unfold f147_J35 at h
  refine rn_bipush (v := (-99 : Int32)) (ft147 15 rfl) (by decide) ?_
  refine rn_iload (ft147 16 rfl) rfl ?_
  refine rn_imul (ft147 17 rfl) ?_
  obtain rfl := Option.some.inj h
  exact rn_iretI pr147 (ft147 18 rfl)
def f147 (v0 : Nat) (v1 : Int32) (v2 : Int32) (v3 : Int32) (v4 : Int32) (w : Wd) : Option (Int32 × Wd) :=
  ob (f93 v2 v3 w) (fun p1 => ob (getR p1.2 2 v0 0) (fun x3 => ob (f20 p1.1 p1.2) (fun p5 => (if (wsh p5.2 x3).map (fun q => q.1) = some 6 then ob (f9 x3 p5.1 p5.2) (fun p7 => (if ¬ p7.1 = 0 then f147_J35  v4 p7.2
    else (if p1.1 < 0 then f147_J35  v4 p7.2
      else (if p1.1 < (512 : Int32) then ob (getR p7.2 2 v0 0) (fun x9 => ob (f20 p1.1 p7.2) (fun p11 => (if (wsh p11.2 x9).map (fun q => q.1) = some 6 then ob (f81 x9 v1 p11.1 p11.2) (fun p13 => ob (getR p13.2 2 v0 5) (fun x15 => ob (aldI p13.2 x15 p1.1) (fun x17 => some ((p13.1 + x17), p13.2)))) else none)))
        else f147_J35  v4 p7.2)))) else none))))
set_option maxRecDepth 10000 in
theorem r147 {S : Sc} (v0 : Nat) (v1 : Int32) (v2 : Int32) (v3 : Int32) (v4 : Int32) (w : Wd) (o : (Int32 × Wd)) (h : f147 v0 v1 v2 v3 v4 w = some o) : Rn S 147 0 [some (.ref v0), some (.int v1), some (.int v2), some (.int v3), some (.int v4), none] [] w (some (.int o.1), o.2) := by
  unfold f147 at h
  refine rn_iload_n (ft147 0 rfl) rfl ?_
  refine rn_iload_n (ft147 1 rfl) rfl ?_
  obtain ⟨p1, q2, h⟩ := ob_some h
  refine rn_callS (as := [.int v2, .int v3]) (r := []) (v := (some (.int p1.1))) (w1 := p1.2) (ft147 2 rfl) (by decide +kernel) rfl (Nat.le_of_ble_eq_true rfl) (Nat.le_of_ble_eq_true rfl) (r93 v2 v3 w _ q2) ?_
  refine rn_istore (ls' := [some (.ref v0), some (.int v1), some (.int v2), some (.int v3), some (.int v4), some (.int p1.1)]) (ft147 3 rfl) rfl ?_
  refine rn_aload_n (ft147 4 rfl) rfl ?_
  obtain ⟨x3, q4, h⟩ := ob_some h
  refine rn_getR (ft147 5 rfl) q4 ?_
  refine rn_iload (ft147 6 rfl) rfl ?_
  obtain ⟨p5, q6, h⟩ := ob_some h
  refine rn_callS (as := [.int p1.1]) (r := [.ref x3]) (v := (some (.int p5.1))) (w1 := p5.2) (ft147 7 rfl) (by decide +kernel) rfl (Nat.le_of_ble_eq_true rfl) (Nat.le_of_ble_eq_true rfl) (r20 p1.1 p1.2 _ q6) ?_
  obtain ⟨g23, h⟩ := ifg h
  obtain ⟨p7, q8, h⟩ := ob_some h
  refine rn_callV (as := [.int p5.1]) (k0 := x3) (r := []) (v := (some (.int p7.1))) (w1 := p7.2) (ft147 8 rfl) (by decide +kernel) rfl (Nat.le_of_ble_eq_true rfl) (Nat.le_of_ble_eq_true rfl) (r9 x3 p5.1 p5.2 _ q8) (by decide +kernel) g23 ?_
  by_cases c22 : ¬ p7.1 = 0
  · replace h := ifp c22 h
    refine rn_if_ne_t (ft147 9 rfl) c22 ?_
    exact rn_forget (ls := [none, none, none, none, some (.int v4), none]) (And.intro rfl trivial) (rf147_J35  v4 p7.2 _  h)
  · replace h := ifn c22 h
    refine rn_if_ne_f (ft147 9 rfl) c22 ?_
    refine rn_iload (ft147 10 rfl) rfl ?_
    by_cases c21 : p1.1 < 0
    · replace h := ifp c21 h
      refine rn_if_lt_t (ft147 11 rfl) c21 ?_
      exact rn_forget (ls := [none, none, none, none, some (.int v4), none]) (And.intro rfl trivial) (rf147_J35  v4 p7.2 _  h)
    · replace h := ifn c21 h
      refine rn_if_lt_f (ft147 11 rfl) c21 ?_
      refine rn_iload (ft147 12 rfl) rfl ?_
      refine rn_sipush (v := (512 : Int32)) (ft147 13 rfl) (by decide) ?_
      by_cases c20 : p1.1 < (512 : Int32)
      · replace h := ifp c20 h
        refine rn_icmp_lt_t (ft147 14 rfl) c20 ?_
        refine rn_aload_n (ft147 19 rfl) rfl ?_
        obtain ⟨x9, q10, h⟩ := ob_some h
        refine rn_getR (ft147 20 rfl) q10 ?_
        refine rn_iload_n (ft147 21 rfl) rfl ?_
        refine rn_iload (ft147 22 rfl) rfl ?_
        obtain ⟨p11, q12, h⟩ := ob_some h
        refine rn_callS (as := [.int p1.1]) (r := [.int v1, .ref x9]) (v := (some (.int p11.1))) (w1 := p11.2) (ft147 23 rfl) (by decide +kernel) rfl (Nat.le_of_ble_eq_true rfl) (Nat.le_of_ble_eq_true rfl) (r20 p1.1 p7.2 _ q12) ?_
        obtain ⟨g19, h⟩ := ifg h
        obtain ⟨p13, q14, h⟩ := ob_some h
        refine rn_callV (as := [.int v1, .int p11.1]) (k0 := x9) (r := []) (v := (some (.int p13.1))) (w1 := p13.2) (ft147 24 rfl) (by decide +kernel) rfl (Nat.le_of_ble_eq_true rfl) (Nat.le_of_ble_eq_true rfl) (r81 x9 v1 p11.1 p11.2 _ q14) (by decide +kernel) g19 ?_
        refine rn_aload_n (ft147 25 rfl) rfl ?_
        obtain ⟨x15, q16, h⟩ := ob_some h
        refine rn_getR (ft147 26 rfl) q16 ?_
        refine rn_iload (ft147 27 rfl) rfl ?_
        obtain ⟨x17, q18, h⟩ := ob_some h
        refine rn_iaload (ft147 28 rfl) q18 ?_
        refine rn_iadd (ft147 29 rfl) ?_
        cases h
        exact rn_iretI pr147 (ft147 30 rfl)
      · replace h := ifn c20 h
        refine rn_icmp_lt_f (ft147 14 rfl) c20 ?_
        exact rn_forget (ls := [none, none, none, none, some (.int v4), none]) (And.intro rfl trivial) (rf147_J35  v4 p7.2 _  h)
/-- NineWheel$Crew.nearest(II)I -/
theorem ft148 : ∀ (i : Nat) {q : Nat × XI}, cd148[i]? = some q → fetch 148 q.1 = some q.2 := ft_of (by decide +kernel)
theorem pr148 : pRt 148 = some .int := rfl
def f148_J84 (n : Nat) (rec21 : Nat → Int32 → Int32 → Int32 → Int32 → Int32 → Int32 → Wd → Option (Int32 × Wd)) (K21 : Int32 → Wd → Option (Int32 × Wd)) (v0 : Nat) (v2 : Int32) (v3 : Int32) (v4 : Int32) (v5 : Int32) (v7 : Int32) (v8 : Int32) (v9 : Int32) (s0 : Int32) (w : Wd) : Option (Int32 × Wd) :=
  (if v5 ≤ s0 then rec21 v0 v2 v3 v4 v5 v7 (v8 + (1 : Int32)) w
    else rec21 v0 v2 v3 v9 s0 v7 (v8 + (1 : Int32)) w)
set_option maxRecDepth 10000 in
theorem rf148_J84 {S : Sc} (n : Nat) (rec21 : Nat → Int32 → Int32 → Int32 → Int32 → Int32 → Int32 → Wd → Option (Int32 × Wd)) (K21 : Int32 → Wd → Option (Int32 × Wd)) (v0 : Nat) (v2 : Int32) (v3 : Int32) (v4 : Int32) (v5 : Int32) (v7 : Int32) (v8 : Int32) (v9 : Int32) (s0 : Int32) (w : Wd) (o : (Int32 × Wd)) (hrec21 : ∀ (y0 : Nat) (y2 : Int32) (y3 : Int32) (y4 : Int32) (y5 : Int32) (y7 : Int32) (y8 : Int32) (w : Wd) (o : (Int32 × Wd)), rec21 y0 y2 y3 y4 y5 y7 y8 w = some o → Rn S 148 36 [some (.ref y0), none, some (.int y2), some (.int y3), some (.int y4), some (.int y5), some (.float 0), some (.int y7), some (.int y8), none, none, none] [] w (some (.int o.1), o.2)) (hK21 : ∀ (y4 : Int32) (w : Wd) (o : (Int32 × Wd)), K21 y4 w = some o → Rn S 148 107 [none, none, none, none, some (.int y4), none, none, none, none, none, none, none] [] w (some (.int o.1), o.2)) (h : f148_J84 n rec21 K21 v0 v2 v3 v4 v5 v7 v8 v9 s0 w = some o) : Rn S 148 84 [some (.ref v0), none, some (.int v2), some (.int v3), some (.int v4), some (.int v5), some (.float 0), some (.int v7), some (.int v8), some (.int v9), none, none] [.int s0] w (some (.int o.1), o.2) := by
  unfold f148_J84 at h
  refine rn_istore (ls' := [some (.ref v0), none, some (.int v2), some (.int v3), some (.int v4), some (.int v5), some (.float 0), some (.int v7), some (.int v8), some (.int v9), none, some (.int s0)]) (ft148 43 rfl) rfl ?_
  refine rn_iload (ft148 44 rfl) rfl ?_
  refine rn_iload (ft148 45 rfl) rfl ?_
  by_cases c17 : v5 ≤ s0
  · replace h := ifp c17 h
    refine rn_icmp_ge_t (ft148 46 rfl) c17 ?_
    refine rn_iinc (u := 1) (ls' := [some (.ref v0), none, some (.int v2), some (.int v3), some (.int v4), some (.int v5), some (.float 0), some (.int v7), some (.int (v8 + (1 : Int32))), some (.int v9), none, some (.int s0)]) (ft148 51 rfl) rfl (by decide) rfl ?_
    refine rn_goto (ft148 52 rfl) ?_
    exact rn_forget (ls := [some (.ref v0), none, some (.int v2), some (.int v3), some (.int v4), some (.int v5), some (.float 0), some (.int v7), some (.int (v8 + (1 : Int32))), none, none, none]) (And.intro rfl (And.intro rfl (And.intro rfl (And.intro rfl (And.intro rfl (And.intro rfl (And.intro rfl (And.intro rfl trivial)))))))) (hrec21 v0 v2 v3 v4 v5 v7 (v8 + (1 : Int32)) w _ h)
  · replace h := ifn c17 h
    refine rn_icmp_ge_f (ft148 46 rfl) c17 ?_
    refine rn_iload (ft148 47 rfl) rfl ?_
    refine rn_istore (ls' := [some (.ref v0), none, some (.int v2), some (.int v3), some (.int v4), some (.int s0), some (.float 0), some (.int v7), some (.int v8), some (.int v9), none, some (.int s0)]) (ft148 48 rfl) rfl ?_
    refine rn_iload (ft148 49 rfl) rfl ?_
    refine rn_istore (ls' := [some (.ref v0), none, some (.int v2), some (.int v3), some (.int v9), some (.int s0), some (.float 0), some (.int v7), some (.int v8), some (.int v9), none, some (.int s0)]) (ft148 50 rfl) rfl ?_
    refine rn_iinc (u := 1) (ls' := [some (.ref v0), none, some (.int v2), some (.int v3), some (.int v9), some (.int s0), some (.float 0), some (.int v7), some (.int (v8 + (1 : Int32))), some (.int v9), none, some (.int s0)]) (ft148 51 rfl) rfl (by decide) rfl ?_
    refine rn_goto (ft148 52 rfl) ?_
    exact rn_forget (ls := [some (.ref v0), none, some (.int v2), some (.int v3), some (.int v9), some (.int s0), some (.float 0), some (.int v7), some (.int (v8 + (1 : Int32))), none, none, none]) (And.intro rfl (And.intro rfl (And.intro rfl (And.intro rfl (And.intro rfl (And.intro rfl (And.intro rfl (And.intro rfl trivial)))))))) (hrec21 v0 v2 v3 v9 s0 v7 (v8 + (1 : Int32)) w _ h)
def f148_H36 (n : Nat)  (K21 : Int32 → Wd → Option (Int32 × Wd)) : Nat → Nat → Int32 → Int32 → Int32 → Int32 → Int32 → Int32 → Wd → Option (Int32 × Wd)
  | 0, _, _, _, _, _, _, _, _ => none
  | k + 1, v0, v2, v3, v4, v5, v7, v8, w =>
    (if v7 ≤ v8 then K21 v4 w
      else ob (tldI S0 0 v8) (fun x5 => ob (f93 v2 x5 w) (fun p7 => ob (f20 p7.1 p7.2) (fun p9 => ob (getR p9.2 2 v0 0) (fun x11 => (if (wsh p9.2 x11).map (fun q => q.1) = some 6 then ob (f9 x11 p9.1 p9.2) (fun p13 => (if p13.1 = 0 then ob (f80 p9.1 v3 p13.2) (fun p15 => f148_J84 n (fun (v0 : Nat) (v2 : Int32) (v3 : Int32) (v4 : Int32) (v5 : Int32) (v7 : Int32) (v8 : Int32) w => f148_H36 n  K21 k v0 v2 v3 v4 v5 v7 v8 w) K21 v0 v2 v3 v4 v5 v7 v8 x5 p15.1 p15.2)
        else f148_J84 n (fun (v0 : Nat) (v2 : Int32) (v3 : Int32) (v4 : Int32) (v5 : Int32) (v7 : Int32) (v8 : Int32) w => f148_H36 n  K21 k v0 v2 v3 v4 v5 v7 v8 w) K21 v0 v2 v3 v4 v5 v7 v8 x5 (99 : Int32) p13.2)) else none))))))
set_option maxRecDepth 10000 in
theorem rf148_H36 {S : Sc} (n : Nat)  (K21 : Int32 → Wd → Option (Int32 × Wd))  (hK21 : ∀ (y4 : Int32) (w : Wd) (o : (Int32 × Wd)), K21 y4 w = some o → Rn S 148 107 [none, none, none, none, some (.int y4), none, none, none, none, none, none, none] [] w (some (.int o.1), o.2)) : ∀ (k : Nat) (v0 : Nat) (v2 : Int32) (v3 : Int32) (v4 : Int32) (v5 : Int32) (v7 : Int32) (v8 : Int32) (w : Wd) (o : (Int32 × Wd)), f148_H36 n  K21 k v0 v2 v3 v4 v5 v7 v8 w = some o → Rn S 148 36 [some (.ref v0), none, some (.int v2), some (.int v3), some (.int v4), some (.int v5), some (.float 0), some (.int v7), some (.int v8), none, none, none] [] w (some (.int o.1), o.2) := by
  intro k
  induction k with
  | zero =>
    intro v0 v2 v3 v4 v5 v7 v8 w o h
    exact nomatch h
  | succ k ih =>
    intro v0 v2 v3 v4 v5 v7 v8 w o h
    have hrec21 : ∀ (y0 : Nat) (y2 : Int32) (y3 : Int32) (y4 : Int32) (y5 : Int32) (y7 : Int32) (y8 : Int32) (w : Wd) (o : (Int32 × Wd)), (fun (v0 : Nat) (v2 : Int32) (v3 : Int32) (v4 : Int32) (v5 : Int32) (v7 : Int32) (v8 : Int32) w => f148_H36 n  K21 k v0 v2 v3 v4 v5 v7 v8 w) y0 y2 y3 y4 y5 y7 y8 w = some o → Rn S 148 36 [some (.ref y0), none, some (.int y2), some (.int y3), some (.int y4), some (.int y5), some (.float 0), some (.int y7), some (.int y8), none, none, none] [] w (some (.int o.1), o.2) := fun y0 y2 y3 y4 y5 y7 y8 w o h => ih y0 y2 y3 y4 y5 y7 y8 w o h
    unfold f148_H36 at h
    refine rn_iload (ft148 21 rfl) rfl ?_
    refine rn_iload (ft148 22 rfl) rfl ?_
    by_cases c20 : v7 ≤ v8
    · replace h := ifp c20 h
      refine rn_icmp_ge_t (ft148 23 rfl) c20 ?_
      exact rn_forget (ls := [none, none, none, none, some (.int v4), none, none, none, none, none, none, none]) (And.intro rfl trivial) (hK21 v4 w _ h)
    · replace h := ifn c20 h
      refine rn_icmp_ge_f (ft148 23 rfl) c20 ?_
      refine rn_aloadS (ft148 24 rfl) rfl ?_
      refine rn_iload (ft148 25 rfl) rfl ?_
      obtain ⟨x5, q6, h⟩ := ob_some h
      refine rn_ialoadS (ft148 26 rfl) q6 ?_
      refine rn_istore (ls' := [some (.ref v0), none, some (.int v2), some (.int v3), some (.int v4), some (.int v5), some (.float 0), some (.int v7), some (.int v8), some (.int x5), none, none]) (ft148 27 rfl) rfl ?_
      refine rn_iload_n (ft148 28 rfl) rfl ?_
      refine rn_iload (ft148 29 rfl) rfl ?_
      obtain ⟨p7, q8, h⟩ := ob_some h
      refine rn_callS (as := [.int v2, .int x5]) (r := []) (v := (some (.int p7.1))) (w1 := p7.2) (ft148 30 rfl) (by decide +kernel) rfl (Nat.le_of_ble_eq_true rfl) (Nat.le_of_ble_eq_true rfl) (r93 v2 x5 w _ q8) ?_
      obtain ⟨p9, q10, h⟩ := ob_some h
      refine rn_callS (as := [.int p7.1]) (r := []) (v := (some (.int p9.1))) (w1 := p9.2) (ft148 31 rfl) (by decide +kernel) rfl (Nat.le_of_ble_eq_true rfl) (Nat.le_of_ble_eq_true rfl) (r20 p7.1 p7.2 _ q10) ?_
      refine rn_istore (ls' := [some (.ref v0), none, some (.int v2), some (.int v3), some (.int v4), some (.int v5), some (.float 0), some (.int v7), some (.int v8), some (.int x5), some (.int p9.1), none]) (ft148 32 rfl) rfl ?_
      refine rn_aload_n (ft148 33 rfl) rfl ?_
      obtain ⟨x11, q12, h⟩ := ob_some h
      refine rn_getR (ft148 34 rfl) q12 ?_
      refine rn_iload (ft148 35 rfl) rfl ?_
      obtain ⟨g19, h⟩ := ifg h
      obtain ⟨p13, q14, h⟩ := ob_some h
      refine rn_callV (as := [.int p9.1]) (k0 := x11) (r := []) (v := (some (.int p13.1))) (w1 := p13.2) (ft148 36 rfl) (by decide +kernel) rfl (Nat.le_of_ble_eq_true rfl) (Nat.le_of_ble_eq_true rfl) (r9 x11 p9.1 p9.2 _ q14) (by decide +kernel) g19 ?_
      by_cases c18 : p13.1 = 0
      · replace h := ifp c18 h
        refine rn_if_eq_t (ft148 37 rfl) c18 ?_
        refine rn_iload (ft148 40 rfl) rfl ?_
        refine rn_iload_n (ft148 41 rfl) rfl ?_
        obtain ⟨p15, q16, h⟩ := ob_some h
        refine rn_callS (as := [.int p9.1, .int v3]) (r := []) (v := (some (.int p15.1))) (w1 := p15.2) (ft148 42 rfl) (by decide +kernel) rfl (Nat.le_of_ble_eq_true rfl) (Nat.le_of_ble_eq_true rfl) (r80 p9.1 v3 p13.2 _ q16) ?_
        exact rn_forget (ls := [some (.ref v0), none, some (.int v2), some (.int v3), some (.int v4), some (.int v5), some (.float 0), some (.int v7), some (.int v8), some (.int x5), none, none]) (And.intro rfl (And.intro rfl (And.intro rfl (And.intro rfl (And.intro rfl (And.intro rfl (And.intro rfl (And.intro rfl (And.intro rfl trivial))))))))) (rf148_J84 n (fun (v0 : Nat) (v2 : Int32) (v3 : Int32) (v4 : Int32) (v5 : Int32) (v7 : Int32) (v8 : Int32) w => f148_H36 n  K21 k v0 v2 v3 v4 v5 v7 v8 w) K21 v0 v2 v3 v4 v5 v7 v8 x5 p15.1 p15.2 _ hrec21 hK21 h)
      · replace h := ifn c18 h
        refine rn_if_eq_f (ft148 37 rfl) c18 ?_
        refine rn_bipush (v := (99 : Int32)) (ft148 38 rfl) (by decide) ?_
        refine rn_goto (ft148 39 rfl) ?_
        exact rn_forget (ls := [some (.ref v0), none, some (.int v2), some (.int v3), some (.int v4), some (.int v5), some (.float 0), some (.int v7), some (.int v8), some (.int x5), none, none]) (And.intro rfl (And.intro rfl (And.intro rfl (And.intro rfl (And.intro rfl (And.intro rfl (And.intro rfl (And.intro rfl (And.intro rfl trivial))))))))) (rf148_J84 n (fun (v0 : Nat) (v2 : Int32) (v3 : Int32) (v4 : Int32) (v5 : Int32) (v7 : Int32) (v8 : Int32) w => f148_H36 n  K21 k v0 v2 v3 v4 v5 v7 v8 w) K21 v0 v2 v3 v4 v5 v7 v8 x5 (99 : Int32) p13.2 _ hrec21 hK21 h)
def f148 (n : Nat) (v0 : Nat) (v1 : Int32) (v2 : Int32) (w : Wd) : Option (Int32 × Wd) :=
  ob (getR w 2 v0 0) (fun x1 => (if (wsh w x1).map (fun q => q.1) = some 6 then ob (f87 x1 v1 w) (fun p3 => (if ¬ p3.1 = (-1 : Int32) then f148_H36 n  (fun (e4_21 : Int32) (w21 : Wd) => some (e4_21, w21)) n v0 v2 p3.1 (0 : Int32) (100 : Int32) 3 (0 : Int32) p3.2
    else some ((0 : Int32), p3.2))) else none))
set_option maxRecDepth 10000 in
theorem r148 {S : Sc} (n : Nat) (v0 : Nat) (v1 : Int32) (v2 : Int32) (w : Wd) (o : (Int32 × Wd)) (h : f148 n v0 v1 v2 w = some o) : Rn S 148 0 [some (.ref v0), some (.int v1), some (.int v2), none, none, none, none, none, none, none, none, none] [] w (some (.int o.1), o.2) := by
  unfold f148 at h
  refine rn_aload_n (ft148 0 rfl) rfl ?_
  obtain ⟨x1, q2, h⟩ := ob_some h
  refine rn_getR (ft148 1 rfl) q2 ?_
  refine rn_iload_n (ft148 2 rfl) rfl ?_
  obtain ⟨g23, h⟩ := ifg h
  obtain ⟨p3, q4, h⟩ := ob_some h
  refine rn_callV (as := [.int v1]) (k0 := x1) (r := []) (v := (some (.int p3.1))) (w1 := p3.2) (ft148 3 rfl) (by decide +kernel) rfl (Nat.le_of_ble_eq_true rfl) (Nat.le_of_ble_eq_true rfl) (r87 x1 v1 w _ q4) (by decide +kernel) g23 ?_
  refine rn_istore_n (ls' := [some (.ref v0), some (.int v1), some (.int v2), some (.int p3.1), none, none, none, none, none, none, none, none]) (ft148 4 rfl) rfl ?_
  refine rn_iconst (v := (0 : Int32)) (ft148 5 rfl) (by decide) ?_
  refine rn_istore (ls' := [some (.ref v0), some (.int v1), some (.int v2), some (.int p3.1), some (.int (0 : Int32)), none, none, none, none, none, none, none]) (ft148 6 rfl) rfl ?_
  refine rn_bipush (v := (100 : Int32)) (ft148 7 rfl) (by decide) ?_
  refine rn_istore (ls' := [some (.ref v0), some (.int v1), some (.int v2), some (.int p3.1), some (.int (0 : Int32)), some (.int (100 : Int32)), none, none, none, none, none, none]) (ft148 8 rfl) rfl ?_
  refine rn_iload_n (ft148 9 rfl) rfl ?_
  refine rn_iconst (v := (-1 : Int32)) (ft148 10 rfl) (by decide) ?_
  by_cases c22 : ¬ p3.1 = (-1 : Int32)
  · replace h := ifp c22 h
    refine rn_icmp_ne_t (ft148 11 rfl) c22 ?_
    refine rn_gets (v := .float 0) (ft148 14 rfl) rfl ?_
    refine rn_astoreS (ls' := [some (.ref v0), some (.int v1), some (.int v2), some (.int p3.1), some (.int (0 : Int32)), some (.int (100 : Int32)), some (.float 0), none, none, none, none, none]) (ft148 15 rfl) rfl ?_
    refine rn_aloadS (ft148 16 rfl) rfl ?_
    refine rn_alenS (v := 3) (ft148 17 rfl) rfl ?_
    refine rn_istore (ls' := [some (.ref v0), some (.int v1), some (.int v2), some (.int p3.1), some (.int (0 : Int32)), some (.int (100 : Int32)), some (.float 0), some (.int 3), none, none, none, none]) (ft148 18 rfl) rfl ?_
    refine rn_iconst (v := (0 : Int32)) (ft148 19 rfl) (by decide) ?_
    refine rn_istore (ls' := [some (.ref v0), some (.int v1), some (.int v2), some (.int p3.1), some (.int (0 : Int32)), some (.int (100 : Int32)), some (.float 0), some (.int 3), some (.int (0 : Int32)), none, none, none]) (ft148 20 rfl) rfl ?_
    refine rn_forget (ls := [some (.ref v0), none, some (.int v2), some (.int p3.1), some (.int (0 : Int32)), some (.int (100 : Int32)), some (.float 0), some (.int 3), some (.int (0 : Int32)), none, none, none]) (And.intro rfl (And.intro rfl (And.intro rfl (And.intro rfl (And.intro rfl (And.intro rfl (And.intro rfl (And.intro rfl trivial)))))))) (rf148_H36 n  _  (fun e4_21 w21 o h => ?_) n v0 v2 p3.1 (0 : Int32) (100 : Int32) 3 (0 : Int32) p3.2 _ h)
    refine rn_iload (ft148 53 rfl) rfl ?_
    cases h
    exact rn_iretI pr148 (ft148 54 rfl)
  · replace h := ifn c22 h
    refine rn_icmp_ne_f (ft148 11 rfl) c22 ?_
    refine rn_iconst (v := (0 : Int32)) (ft148 12 rfl) (by decide) ?_
    cases h
    exact rn_iretI pr148 (ft148 13 rfl)
/-- NineWheel$Crew.mostSeeing(II)I -/
theorem ft149 : ∀ (i : Nat) {q : Nat × XI}, cd149[i]? = some q → fetch 149 q.1 = some q.2 := ft_of (by decide +kernel)
theorem pr149 : pRt 149 = some .int := rfl
def f149_H9 (n : Nat)  (K5 : Nat → Wd → Option (Int32 × Wd)) : Nat → Nat → Int32 → Int32 → Int32 → Wd → Option (Int32 × Wd)
  | 0, _, _, _, _, _ => none
  | k + 1, v0, v1, v2, v3, w =>
    ob (getR w 2 v0 0) (fun x5 => ob (getI w 6 x5 5) (fun x7 => (if x7 ≤ v3 then K5 v0 w
      else ob (f16 v2 v3 w) (fun p9 => (if ¬ p9.1 = 0 then (fun (v0 : Nat) (v1 : Int32) (v2 : Int32) (v3 : Int32) w => f149_H9 n  K5 k v0 v1 v2 v3 w) v0 v1 v2 (v3 + (1 : Int32)) p9.2
        else ob (getR p9.2 2 v0 6) (fun x11 => (if (wsh p9.2 v0).map (fun q => q.1) = some 2 then ob (f97 v0 v3 v1 p9.2) (fun p13 => ob (getR p13.2 2 v0 0) (fun x15 => (if (wsh p13.2 x15).map (fun q => q.1) = some 6 then ob (f84 x15 v3 p13.2) (fun p17 => (if (wsh p17.2 x11).map (fun q => q.1) = some 8 then ob (f24 x11 v3 p13.1 p17.1 p17.2) (fun p19 => (fun (v0 : Nat) (v1 : Int32) (v2 : Int32) (v3 : Int32) w => f149_H9 n  K5 k v0 v1 v2 v3 w) v0 v1 v2 (v3 + (1 : Int32)) p19) else none)) else none))) else none)))))))
set_option maxRecDepth 10000 in
theorem rf149_H9 {S : Sc} (n : Nat)  (K5 : Nat → Wd → Option (Int32 × Wd))  (hK5 : ∀ (y0 : Nat) (w : Wd) (o : (Int32 × Wd)), K5 y0 w = some o → Rn S 149 56 [some (.ref y0), none, none, none] [] w (some (.int o.1), o.2)) : ∀ (k : Nat) (v0 : Nat) (v1 : Int32) (v2 : Int32) (v3 : Int32) (w : Wd) (o : (Int32 × Wd)), f149_H9 n  K5 k v0 v1 v2 v3 w = some o → Rn S 149 9 [some (.ref v0), some (.int v1), some (.int v2), some (.int v3)] [] w (some (.int o.1), o.2) := by
  intro k
  induction k with
  | zero =>
    intro v0 v1 v2 v3 w o h
    exact nomatch h
  | succ k ih =>
    intro v0 v1 v2 v3 w o h
    have hrec5 : ∀ (y0 : Nat) (y1 : Int32) (y2 : Int32) (y3 : Int32) (w : Wd) (o : (Int32 × Wd)), (fun (v0 : Nat) (v1 : Int32) (v2 : Int32) (v3 : Int32) w => f149_H9 n  K5 k v0 v1 v2 v3 w) y0 y1 y2 y3 w = some o → Rn S 149 9 [some (.ref y0), some (.int y1), some (.int y2), some (.int y3)] [] w (some (.int o.1), o.2) := fun y0 y1 y2 y3 w o h => ih y0 y1 y2 y3 w o h
    unfold f149_H9 at h
    refine rn_iload_n (ft149 5 rfl) rfl ?_
    refine rn_aload_n (ft149 6 rfl) rfl ?_
    obtain ⟨x5, q6, h⟩ := ob_some h
    refine rn_getR (ft149 7 rfl) q6 ?_
    obtain ⟨x7, q8, h⟩ := ob_some h
    refine rn_getI (ft149 8 rfl) (by decide) (by decide) q8 ?_
    by_cases c25 : x7 ≤ v3
    · replace h := ifp c25 h
      refine rn_icmp_ge_t (ft149 9 rfl) c25 ?_
      exact rn_forget (ls := [some (.ref v0), none, none, none]) (And.intro rfl trivial) (hK5 v0 w _ h)
    · replace h := ifn c25 h
      refine rn_icmp_ge_f (ft149 9 rfl) c25 ?_
      refine rn_iload_n (ft149 10 rfl) rfl ?_
      refine rn_iload_n (ft149 11 rfl) rfl ?_
      obtain ⟨p9, q10, h⟩ := ob_some h
      refine rn_callS (as := [.int v2, .int v3]) (r := []) (v := (some (.int p9.1))) (w1 := p9.2) (ft149 12 rfl) (by decide +kernel) rfl (Nat.le_of_ble_eq_true rfl) (Nat.le_of_ble_eq_true rfl) (r16 v2 v3 w _ q10) ?_
      by_cases c24 : ¬ p9.1 = 0
      · replace h := ifp c24 h
        refine rn_if_ne_t (ft149 13 rfl) c24 ?_
        refine rn_iinc (u := 1) (ls' := [some (.ref v0), some (.int v1), some (.int v2), some (.int (v3 + (1 : Int32)))]) (ft149 26 rfl) rfl (by decide) rfl ?_
        refine rn_goto (ft149 27 rfl) ?_
        exact rn_forget (ls := [some (.ref v0), some (.int v1), some (.int v2), some (.int (v3 + (1 : Int32)))]) (And.intro rfl (And.intro rfl (And.intro rfl (And.intro rfl trivial)))) (hrec5 v0 v1 v2 (v3 + (1 : Int32)) p9.2 _ h)
      · replace h := ifn c24 h
        refine rn_if_ne_f (ft149 13 rfl) c24 ?_
        refine rn_aload_n (ft149 14 rfl) rfl ?_
        obtain ⟨x11, q12, h⟩ := ob_some h
        refine rn_getR (ft149 15 rfl) q12 ?_
        refine rn_iload_n (ft149 16 rfl) rfl ?_
        refine rn_aload_n (ft149 17 rfl) rfl ?_
        refine rn_iload_n (ft149 18 rfl) rfl ?_
        refine rn_iload_n (ft149 19 rfl) rfl ?_
        obtain ⟨g23, h⟩ := ifg h
        obtain ⟨p13, q14, h⟩ := ob_some h
        refine rn_callV (as := [.int v3, .int v1]) (k0 := v0) (r := [.int v3, .ref x11]) (v := (some (.int p13.1))) (w1 := p13.2) (ft149 20 rfl) (by decide +kernel) rfl (Nat.le_of_ble_eq_true rfl) (Nat.le_of_ble_eq_true rfl) (r97 v0 v3 v1 p9.2 _ q14) (by decide +kernel) g23 ?_
        refine rn_aload_n (ft149 21 rfl) rfl ?_
        obtain ⟨x15, q16, h⟩ := ob_some h
        refine rn_getR (ft149 22 rfl) q16 ?_
        refine rn_iload_n (ft149 23 rfl) rfl ?_
        obtain ⟨g22, h⟩ := ifg h
        obtain ⟨p17, q18, h⟩ := ob_some h
        refine rn_callV (as := [.int v3]) (k0 := x15) (r := [.int p13.1, .int v3, .ref x11]) (v := (some (.int p17.1))) (w1 := p17.2) (ft149 24 rfl) (by decide +kernel) rfl (Nat.le_of_ble_eq_true rfl) (Nat.le_of_ble_eq_true rfl) (r84 x15 v3 p13.2 _ q18) (by decide +kernel) g22 ?_
        obtain ⟨g21, h⟩ := ifg h
        obtain ⟨p19, q20, h⟩ := ob_some h
        refine rn_callV (as := [.int v3, .int p13.1, .int p17.1]) (k0 := x11) (r := []) (v := none) (w1 := p19) (ft149 25 rfl) (by decide +kernel) rfl (Nat.le_of_ble_eq_true rfl) (Nat.le_of_ble_eq_true rfl) (r24 x11 v3 p13.1 p17.1 p17.2 _ q20) (by decide +kernel) g21 ?_
        refine rn_iinc (u := 1) (ls' := [some (.ref v0), some (.int v1), some (.int v2), some (.int (v3 + (1 : Int32)))]) (ft149 26 rfl) rfl (by decide) rfl ?_
        refine rn_goto (ft149 27 rfl) ?_
        exact rn_forget (ls := [some (.ref v0), some (.int v1), some (.int v2), some (.int (v3 + (1 : Int32)))]) (And.intro rfl (And.intro rfl (And.intro rfl (And.intro rfl trivial)))) (hrec5 v0 v1 v2 (v3 + (1 : Int32)) p19 _ h)
def f149 (n : Nat) (v0 : Nat) (v1 : Int32) (v2 : Int32) (w : Wd) : Option (Int32 × Wd) :=
  ob (getR w 2 v0 6) (fun x1 => (if (wsh w x1).map (fun q => q.1) = some 8 then ob (f23 x1 w) (fun p3 => f149_H9 n  (fun (e0_26 : Nat) (w26 : Wd) => ob (getR w26 2 e0_26 6) (fun x27 => (if (wsh w26 x27).map (fun q => q.1) = some 8 then ob (f25 x27 w26) (fun p29 => some (p29.1, p29.2)) else none))) n v0 v1 v2 (0 : Int32) p3) else none))
set_option maxRecDepth 10000 in
theorem r149 {S : Sc} (n : Nat) (v0 : Nat) (v1 : Int32) (v2 : Int32) (w : Wd) (o : (Int32 × Wd)) (h : f149 n v0 v1 v2 w = some o) : Rn S 149 0 [some (.ref v0), some (.int v1), some (.int v2), none] [] w (some (.int o.1), o.2) := by
  unfold f149 at h
  refine rn_aload_n (ft149 0 rfl) rfl ?_
  obtain ⟨x1, q2, h⟩ := ob_some h
  refine rn_getR (ft149 1 rfl) q2 ?_
  obtain ⟨g32, h⟩ := ifg h
  obtain ⟨p3, q4, h⟩ := ob_some h
  refine rn_callV (as := []) (k0 := x1) (r := []) (v := none) (w1 := p3) (ft149 2 rfl) (by decide +kernel) rfl (Nat.le_of_ble_eq_true rfl) (Nat.le_of_ble_eq_true rfl) (r23 x1 w _ q4) (by decide +kernel) g32 ?_
  refine rn_iconst (v := (0 : Int32)) (ft149 3 rfl) (by decide) ?_
  refine rn_istore_n (ls' := [some (.ref v0), some (.int v1), some (.int v2), some (.int (0 : Int32))]) (ft149 4 rfl) rfl ?_
  refine rn_forget (ls := [some (.ref v0), some (.int v1), some (.int v2), some (.int (0 : Int32))]) (And.intro rfl (And.intro rfl (And.intro rfl (And.intro rfl trivial)))) (rf149_H9 n  _  (fun e0_26 w26 o h => ?_) n v0 v1 v2 (0 : Int32) p3 _ h)
  refine rn_aload_n (ft149 28 rfl) rfl ?_
  obtain ⟨x27, q28, h⟩ := ob_some h
  refine rn_getR (ft149 29 rfl) q28 ?_
  obtain ⟨g31, h⟩ := ifg h
  obtain ⟨p29, q30, h⟩ := ob_some h
  refine rn_callV (as := []) (k0 := x27) (r := []) (v := (some (.int p29.1))) (w1 := p29.2) (ft149 30 rfl) (by decide +kernel) rfl (Nat.le_of_ble_eq_true rfl) (Nat.le_of_ble_eq_true rfl) (r25 x27 w26 _ q30) (by decide +kernel) g31 ?_
  cases h
  exact rn_iretI pr149 (ft149 31 rfl)
/-- NineWheel$Sea.sortInTurn(I)I -/
theorem ft150 : ∀ (i : Nat) {q : Nat × XI}, cd150[i]? = some q → fetch 150 q.1 = some q.2 := ft_of (by decide +kernel)
theorem pr150 : pRt 150 = some .int := rfl
def f150_H18 (n : Nat)  (K12 : Wd → Option (Int32 × Wd)) : Nat → Nat → Int32 → Int32 → Wd → Option (Int32 × Wd)
  | 0, _, _, _, _ => none
  | k + 1, v0, v2, v3, w =>
    ob (getI w 6 v0 5) (fun x5 => (if x5 ≤ v3 then K12 w
      else (if (wsh w v0).map (fun q => q.1) = some 6 then ob (f84 v0 v3 w) (fun p7 => (if 0 ≤ (v2 - p7.1) then (fun (v0 : Nat) (v2 : Int32) (v3 : Int32) w => f150_H18 n  K12 k v0 v2 v3 w) v0 (v2 - p7.1) (v3 + (1 : Int32)) p7.2
        else some (v3, p7.2))) else none)))
set_option maxRecDepth 10000 in
theorem rf150_H18 {S : Sc} (n : Nat)  (K12 : Wd → Option (Int32 × Wd))  (hK12 : ∀  (w : Wd) (o : (Int32 × Wd)), K12 w = some o → Rn S 150 46 [none, none, none, none] [] w (some (.int o.1), o.2)) : ∀ (k : Nat) (v0 : Nat) (v2 : Int32) (v3 : Int32) (w : Wd) (o : (Int32 × Wd)), f150_H18 n  K12 k v0 v2 v3 w = some o → Rn S 150 18 [some (.ref v0), none, some (.int v2), some (.int v3)] [] w (some (.int o.1), o.2) := by
  intro k
  induction k with
  | zero =>
    intro v0 v2 v3 w o h
    exact nomatch h
  | succ k ih =>
    intro v0 v2 v3 w o h
    have hrec12 : ∀ (y0 : Nat) (y2 : Int32) (y3 : Int32) (w : Wd) (o : (Int32 × Wd)), (fun (v0 : Nat) (v2 : Int32) (v3 : Int32) w => f150_H18 n  K12 k v0 v2 v3 w) y0 y2 y3 w = some o → Rn S 150 18 [some (.ref y0), none, some (.int y2), some (.int y3)] [] w (some (.int o.1), o.2) := fun y0 y2 y3 w o h => ih y0 y2 y3 w o h
    unfold f150_H18 at h
    refine rn_iload_n (ft150 12 rfl) rfl ?_
    refine rn_aload_n (ft150 13 rfl) rfl ?_
    obtain ⟨x5, q6, h⟩ := ob_some h
    refine rn_getI (ft150 14 rfl) (by decide) (by decide) q6 ?_
    by_cases c11 : x5 ≤ v3
    · replace h := ifp c11 h
      refine rn_icmp_ge_t (ft150 15 rfl) c11 ?_
      exact rn_forget (ls := [none, none, none, none]) trivial (hK12 w _ h)
    · replace h := ifn c11 h
      refine rn_icmp_ge_f (ft150 15 rfl) c11 ?_
      refine rn_iload_n (ft150 16 rfl) rfl ?_
      refine rn_aload_n (ft150 17 rfl) rfl ?_
      refine rn_iload_n (ft150 18 rfl) rfl ?_
      obtain ⟨g10, h⟩ := ifg h
      obtain ⟨p7, q8, h⟩ := ob_some h
      refine rn_callV (as := [.int v3]) (k0 := v0) (r := [.int v2]) (v := (some (.int p7.1))) (w1 := p7.2) (ft150 19 rfl) (by decide +kernel) rfl (Nat.le_of_ble_eq_true rfl) (Nat.le_of_ble_eq_true rfl) (r84 v0 v3 w _ q8) (by decide +kernel) g10 ?_
      refine rn_isub (ft150 20 rfl) ?_
      refine rn_istore_n (ls' := [some (.ref v0), none, some (.int (v2 - p7.1)), some (.int v3)]) (ft150 21 rfl) rfl ?_
      refine rn_iload_n (ft150 22 rfl) rfl ?_
      by_cases c9 : 0 ≤ (v2 - p7.1)
      · replace h := ifp c9 h
        refine rn_if_ge_t (ft150 23 rfl) c9 ?_
        refine rn_iinc (u := 1) (ls' := [some (.ref v0), none, some (.int (v2 - p7.1)), some (.int (v3 + (1 : Int32)))]) (ft150 26 rfl) rfl (by decide) rfl ?_
        refine rn_goto (ft150 27 rfl) ?_
        exact rn_forget (ls := [some (.ref v0), none, some (.int (v2 - p7.1)), some (.int (v3 + (1 : Int32)))]) (And.intro rfl (And.intro rfl (And.intro rfl trivial))) (hrec12 v0 (v2 - p7.1) (v3 + (1 : Int32)) p7.2 _ h)
      · replace h := ifn c9 h
        refine rn_if_ge_f (ft150 23 rfl) c9 ?_
        refine rn_iload_n (ft150 24 rfl) rfl ?_
        cases h
        exact rn_iretI pr150 (ft150 25 rfl)
def f150 (n : Nat) (v0 : Nat) (v1 : Int32) (w : Wd) : Option (Int32 × Wd) :=
  ob (getI w 6 v0 6) (fun x1 => (if 0 < x1 then ob (getI w 6 v0 6) (fun x3 => (if ¬ x3 = 0 then f150_H18 n  (fun  (w12 : Wd) => some ((0 : Int32), w12)) n v0 (irm v1 x3) (0 : Int32) w else none))
    else some ((0 : Int32), w)))
set_option maxRecDepth 10000 in
theorem r150 {S : Sc} (n : Nat) (v0 : Nat) (v1 : Int32) (w : Wd) (o : (Int32 × Wd)) (h : f150 n v0 v1 w = some o) : Rn S 150 0 [some (.ref v0), some (.int v1), none, none] [] w (some (.int o.1), o.2) := by
  unfold f150 at h
  refine rn_aload_n (ft150 0 rfl) rfl ?_
  obtain ⟨x1, q2, h⟩ := ob_some h
  refine rn_getI (ft150 1 rfl) (by decide) (by decide) q2 ?_
  by_cases c14 : 0 < x1
  · replace h := ifp c14 h
    refine rn_if_gt_t (ft150 2 rfl) c14 ?_
    refine rn_iload_n (ft150 5 rfl) rfl ?_
    refine rn_aload_n (ft150 6 rfl) rfl ?_
    obtain ⟨x3, q4, h⟩ := ob_some h
    refine rn_getI (ft150 7 rfl) (by decide) (by decide) q4 ?_
    obtain ⟨g13, h⟩ := ifg h
    refine rn_irem (ft150 8 rfl) g13 ?_
    refine rn_istore_n (ls' := [some (.ref v0), some (.int v1), some (.int (irm v1 x3)), none]) (ft150 9 rfl) rfl ?_
    refine rn_iconst (v := (0 : Int32)) (ft150 10 rfl) (by decide) ?_
    refine rn_istore_n (ls' := [some (.ref v0), some (.int v1), some (.int (irm v1 x3)), some (.int (0 : Int32))]) (ft150 11 rfl) rfl ?_
    refine rn_forget (ls := [some (.ref v0), none, some (.int (irm v1 x3)), some (.int (0 : Int32))]) (And.intro rfl (And.intro rfl (And.intro rfl trivial))) (rf150_H18 n  _  (fun  w12 o h => ?_) n v0 (irm v1 x3) (0 : Int32) w _ h)
    refine rn_iconst (v := (0 : Int32)) (ft150 28 rfl) (by decide) ?_
    cases h
    exact rn_iretI pr150 (ft150 29 rfl)
  · replace h := ifn c14 h
    refine rn_if_gt_f (ft150 2 rfl) c14 ?_
    refine rn_iconst (v := (0 : Int32)) (ft150 3 rfl) (by decide) ?_
    cases h
    exact rn_iretI pr150 (ft150 4 rfl)
/-- NineWheel$Rule.dodge(LNineWheel$Sea;I)I -/
theorem ft151 : ∀ (i : Nat) {q : Nat × XI}, cd151[i]? = some q → fetch 151 q.1 = some q.2 := ft_of (by decide +kernel)
theorem pr151 : pRt 151 = some .int := rfl
def f151_H5 (n : Nat)  (K4 : Wd → Option (Int32 × Wd)) : Nat → Nat → Nat → Int32 → Int32 → Wd → Option (Int32 × Wd)
  | 0, _, _, _, _, _ => none
  | k + 1, v0, v1, v3, v4, w =>
    ob (getI w 5 v0 4) (fun x1 => (if x1 ≤ v4 then K4 w
      else ob (f93 v3 (0 : Int32) w) (fun p3 => ob (f20 p3.1 p3.2) (fun p5 => (if (wsh p5.2 v1).map (fun q => q.1) = some 6 then ob (f9 v1 p5.1 p5.2) (fun p7 => (if p7.1 = 0 then (fun (v0 : Nat) (v1 : Nat) (v3 : Int32) (v4 : Int32) w => f151_H5 n  K4 k v0 v1 v3 v4 w) v0 v1 p3.1 (v4 + (1 : Int32)) p7.2
        else ob (getI p7.2 5 v0 3) (fun x9 => some (x9, p7.2)))) else none)))))
set_option maxRecDepth 10000 in
theorem rf151_H5 {S : Sc} (n : Nat)  (K4 : Wd → Option (Int32 × Wd))  (hK4 : ∀  (w : Wd) (o : (Int32 × Wd)), K4 w = some o → Rn S 151 42 [none, none, none, none, none] [] w (some (.int o.1), o.2)) : ∀ (k : Nat) (v0 : Nat) (v1 : Nat) (v3 : Int32) (v4 : Int32) (w : Wd) (o : (Int32 × Wd)), f151_H5 n  K4 k v0 v1 v3 v4 w = some o → Rn S 151 5 [some (.ref v0), some (.ref v1), none, some (.int v3), some (.int v4)] [] w (some (.int o.1), o.2) := by
  intro k
  induction k with
  | zero =>
    intro v0 v1 v3 v4 w o h
    exact nomatch h
  | succ k ih =>
    intro v0 v1 v3 v4 w o h
    have hrec4 : ∀ (y0 : Nat) (y1 : Nat) (y3 : Int32) (y4 : Int32) (w : Wd) (o : (Int32 × Wd)), (fun (v0 : Nat) (v1 : Nat) (v3 : Int32) (v4 : Int32) w => f151_H5 n  K4 k v0 v1 v3 v4 w) y0 y1 y3 y4 w = some o → Rn S 151 5 [some (.ref y0), some (.ref y1), none, some (.int y3), some (.int y4)] [] w (some (.int o.1), o.2) := fun y0 y1 y3 y4 w o h => ih y0 y1 y3 y4 w o h
    unfold f151_H5 at h
    refine rn_iload (ft151 4 rfl) rfl ?_
    refine rn_aload_n (ft151 5 rfl) rfl ?_
    obtain ⟨x1, q2, h⟩ := ob_some h
    refine rn_getI (ft151 6 rfl) (by decide) (by decide) q2 ?_
    by_cases c13 : x1 ≤ v4
    · replace h := ifp c13 h
      refine rn_icmp_ge_t (ft151 7 rfl) c13 ?_
      exact rn_forget (ls := [none, none, none, none, none]) trivial (hK4 w _ h)
    · replace h := ifn c13 h
      refine rn_icmp_ge_f (ft151 7 rfl) c13 ?_
      refine rn_iload_n (ft151 8 rfl) rfl ?_
      refine rn_iconst (v := (0 : Int32)) (ft151 9 rfl) (by decide) ?_
      obtain ⟨p3, q4, h⟩ := ob_some h
      refine rn_callS (as := [.int v3, .int (0 : Int32)]) (r := []) (v := (some (.int p3.1))) (w1 := p3.2) (ft151 10 rfl) (by decide +kernel) rfl (Nat.le_of_ble_eq_true rfl) (Nat.le_of_ble_eq_true rfl) (r93 v3 (0 : Int32) w _ q4) ?_
      refine rn_istore_n (ls' := [some (.ref v0), some (.ref v1), none, some (.int p3.1), some (.int v4)]) (ft151 11 rfl) rfl ?_
      refine rn_aload_n (ft151 12 rfl) rfl ?_
      refine rn_iload_n (ft151 13 rfl) rfl ?_
      obtain ⟨p5, q6, h⟩ := ob_some h
      refine rn_callS (as := [.int p3.1]) (r := [.ref v1]) (v := (some (.int p5.1))) (w1 := p5.2) (ft151 14 rfl) (by decide +kernel) rfl (Nat.le_of_ble_eq_true rfl) (Nat.le_of_ble_eq_true rfl) (r20 p3.1 p3.2 _ q6) ?_
      obtain ⟨g12, h⟩ := ifg h
      obtain ⟨p7, q8, h⟩ := ob_some h
      refine rn_callV (as := [.int p5.1]) (k0 := v1) (r := []) (v := (some (.int p7.1))) (w1 := p7.2) (ft151 15 rfl) (by decide +kernel) rfl (Nat.le_of_ble_eq_true rfl) (Nat.le_of_ble_eq_true rfl) (r9 v1 p5.1 p5.2 _ q8) (by decide +kernel) g12 ?_
      by_cases c11 : p7.1 = 0
      · replace h := ifp c11 h
        refine rn_if_eq_t (ft151 16 rfl) c11 ?_
        refine rn_iinc (u := 1) (ls' := [some (.ref v0), some (.ref v1), none, some (.int p3.1), some (.int (v4 + (1 : Int32)))]) (ft151 20 rfl) rfl (by decide) rfl ?_
        refine rn_goto (ft151 21 rfl) ?_
        exact rn_forget (ls := [some (.ref v0), some (.ref v1), none, some (.int p3.1), some (.int (v4 + (1 : Int32)))]) (And.intro rfl (And.intro rfl (And.intro rfl (And.intro rfl trivial)))) (hrec4 v0 v1 p3.1 (v4 + (1 : Int32)) p7.2 _ h)
      · replace h := ifn c11 h
        refine rn_if_eq_f (ft151 16 rfl) c11 ?_
        refine rn_aload_n (ft151 17 rfl) rfl ?_
        obtain ⟨x9, q10, h⟩ := ob_some h
        refine rn_getI (ft151 18 rfl) (by decide) (by decide) q10 ?_
        cases h
        exact rn_iretI pr151 (ft151 19 rfl)
def f151 (n : Nat) (v0 : Nat) (v1 : Nat) (v2 : Int32) (w : Wd) : Option (Int32 × Wd) :=
  f151_H5 n  (fun  (w14 : Wd) => some ((0 : Int32), w14)) n v0 v1 v2 (0 : Int32) w
set_option maxRecDepth 10000 in
theorem r151 {S : Sc} (n : Nat) (v0 : Nat) (v1 : Nat) (v2 : Int32) (w : Wd) (o : (Int32 × Wd)) (h : f151 n v0 v1 v2 w = some o) : Rn S 151 0 [some (.ref v0), some (.ref v1), some (.int v2), none, none] [] w (some (.int o.1), o.2) := by
  unfold f151 at h
  refine rn_iload_n (ft151 0 rfl) rfl ?_
  refine rn_istore_n (ls' := [some (.ref v0), some (.ref v1), some (.int v2), some (.int v2), none]) (ft151 1 rfl) rfl ?_
  refine rn_iconst (v := (0 : Int32)) (ft151 2 rfl) (by decide) ?_
  refine rn_istore (ls' := [some (.ref v0), some (.ref v1), some (.int v2), some (.int v2), some (.int (0 : Int32))]) (ft151 3 rfl) rfl ?_
  refine rn_forget (ls := [some (.ref v0), some (.ref v1), none, some (.int v2), some (.int (0 : Int32))]) (And.intro rfl (And.intro rfl (And.intro rfl (And.intro rfl trivial)))) (rf151_H5 n  _  (fun  w14 o h => ?_) n v0 v1 v2 (0 : Int32) w _ h)
  refine rn_iconst (v := (0 : Int32)) (ft151 22 rfl) (by decide) ?_
  cases h
  exact rn_iretI pr151 (ft151 23 rfl)
/-- NineWheel$Counting.follow(I)V -/
theorem ft152 : ∀ (i : Nat) {q : Nat × XI}, cd152[i]? = some q → fetch 152 q.1 = some q.2 := ft_of (by decide +kernel)
theorem pr152 : pRt 152 = none := rfl
def f152_H9 (n : Nat)  (K5 : Nat → Int32 → Wd → Option Wd) : Nat → Nat → Int32 → Int32 → Wd → Option Wd
  | 0, _, _, _, _ => none
  | k + 1, v0, v1, v2, w =>
    (if (6 : Int32) ≤ v2 then K5 v0 v1 w
      else ob (f16 v1 v2 w) (fun p5 => (if ¬ p5.1 = 0 then (fun (v0 : Nat) (v1 : Int32) (v2 : Int32) w => f152_H9 n  K5 k v0 v1 v2 w) v0 v1 (v2 + (1 : Int32)) p5.2
        else ob (getR p5.2 0 v0 7) (fun x7 => ob (getR p5.2 0 v0 6) (fun x9 => ob (aldI p5.2 x9 v2) (fun x11 => ob (getR p5.2 0 v0 0) (fun x13 => (if (wsh p5.2 x13).map (fun q => q.1) = some 6 then ob (f84 x13 v2 p5.2) (fun p15 => (if (wsh p15.2 x7).map (fun q => q.1) = some 8 then ob (f24 x7 v2 x11 p15.1 p15.2) (fun p17 => (fun (v0 : Nat) (v1 : Int32) (v2 : Int32) w => f152_H9 n  K5 k v0 v1 v2 w) v0 v1 (v2 + (1 : Int32)) p17) else none)) else none))))))))
set_option maxRecDepth 10000 in
theorem rf152_H9 {S : Sc} (n : Nat)  (K5 : Nat → Int32 → Wd → Option Wd)  (hK5 : ∀ (y0 : Nat) (y1 : Int32) (w : Wd) (o : Wd), K5 y0 y1 w = some o → Rn S 152 51 [some (.ref y0), some (.int y1), none, none] [] w (none, o)) : ∀ (k : Nat) (v0 : Nat) (v1 : Int32) (v2 : Int32) (w : Wd) (o : Wd), f152_H9 n  K5 k v0 v1 v2 w = some o → Rn S 152 9 [some (.ref v0), some (.int v1), some (.int v2), none] [] w (none, o) := by
  intro k
  induction k with
  | zero =>
    intro v0 v1 v2 w o h
    exact nomatch h
  | succ k ih =>
    intro v0 v1 v2 w o h
    have hrec5 : ∀ (y0 : Nat) (y1 : Int32) (y2 : Int32) (w : Wd) (o : Wd), (fun (v0 : Nat) (v1 : Int32) (v2 : Int32) w => f152_H9 n  K5 k v0 v1 v2 w) y0 y1 y2 w = some o → Rn S 152 9 [some (.ref y0), some (.int y1), some (.int y2), none] [] w (none, o) := fun y0 y1 y2 w o h => ih y0 y1 y2 w o h
    unfold f152_H9 at h
    refine rn_iload_n (ft152 5 rfl) rfl ?_
    refine rn_bipush (v := (6 : Int32)) (ft152 6 rfl) (by decide) ?_
    by_cases c22 : (6 : Int32) ≤ v2
    · replace h := ifp c22 h
      refine rn_icmp_ge_t (ft152 7 rfl) c22 ?_
      exact rn_forget (ls := [some (.ref v0), some (.int v1), none, none]) (And.intro rfl (And.intro rfl trivial)) (hK5 v0 v1 w _ h)
    · replace h := ifn c22 h
      refine rn_icmp_ge_f (ft152 7 rfl) c22 ?_
      refine rn_iload_n (ft152 8 rfl) rfl ?_
      refine rn_iload_n (ft152 9 rfl) rfl ?_
      obtain ⟨p5, q6, h⟩ := ob_some h
      refine rn_callS (as := [.int v1, .int v2]) (r := []) (v := (some (.int p5.1))) (w1 := p5.2) (ft152 10 rfl) (by decide +kernel) rfl (Nat.le_of_ble_eq_true rfl) (Nat.le_of_ble_eq_true rfl) (r16 v1 v2 w _ q6) ?_
      by_cases c21 : ¬ p5.1 = 0
      · replace h := ifp c21 h
        refine rn_if_ne_t (ft152 11 rfl) c21 ?_
        refine rn_iinc (u := 1) (ls' := [some (.ref v0), some (.int v1), some (.int (v2 + (1 : Int32))), none]) (ft152 24 rfl) rfl (by decide) rfl ?_
        refine rn_goto (ft152 25 rfl) ?_
        exact rn_forget (ls := [some (.ref v0), some (.int v1), some (.int (v2 + (1 : Int32))), none]) (And.intro rfl (And.intro rfl (And.intro rfl trivial))) (hrec5 v0 v1 (v2 + (1 : Int32)) p5.2 _ h)
      · replace h := ifn c21 h
        refine rn_if_ne_f (ft152 11 rfl) c21 ?_
        refine rn_aload_n (ft152 12 rfl) rfl ?_
        obtain ⟨x7, q8, h⟩ := ob_some h
        refine rn_getR (ft152 13 rfl) q8 ?_
        refine rn_iload_n (ft152 14 rfl) rfl ?_
        refine rn_aload_n (ft152 15 rfl) rfl ?_
        obtain ⟨x9, q10, h⟩ := ob_some h
        refine rn_getR (ft152 16 rfl) q10 ?_
        refine rn_iload_n (ft152 17 rfl) rfl ?_
        obtain ⟨x11, q12, h⟩ := ob_some h
        refine rn_iaload (ft152 18 rfl) q12 ?_
        refine rn_aload_n (ft152 19 rfl) rfl ?_
        obtain ⟨x13, q14, h⟩ := ob_some h
        refine rn_getR (ft152 20 rfl) q14 ?_
        refine rn_iload_n (ft152 21 rfl) rfl ?_
        obtain ⟨g20, h⟩ := ifg h
        obtain ⟨p15, q16, h⟩ := ob_some h
        refine rn_callV (as := [.int v2]) (k0 := x13) (r := [.int x11, .int v2, .ref x7]) (v := (some (.int p15.1))) (w1 := p15.2) (ft152 22 rfl) (by decide +kernel) rfl (Nat.le_of_ble_eq_true rfl) (Nat.le_of_ble_eq_true rfl) (r84 x13 v2 p5.2 _ q16) (by decide +kernel) g20 ?_
        obtain ⟨g19, h⟩ := ifg h
        obtain ⟨p17, q18, h⟩ := ob_some h
        refine rn_callV (as := [.int v2, .int x11, .int p15.1]) (k0 := x7) (r := []) (v := none) (w1 := p17) (ft152 23 rfl) (by decide +kernel) rfl (Nat.le_of_ble_eq_true rfl) (Nat.le_of_ble_eq_true rfl) (r24 x7 v2 x11 p15.1 p15.2 _ q18) (by decide +kernel) g19 ?_
        refine rn_iinc (u := 1) (ls' := [some (.ref v0), some (.int v1), some (.int (v2 + (1 : Int32))), none]) (ft152 24 rfl) rfl (by decide) rfl ?_
        refine rn_goto (ft152 25 rfl) ?_
        exact rn_forget (ls := [some (.ref v0), some (.int v1), some (.int (v2 + (1 : Int32))), none]) (And.intro rfl (And.intro rfl (And.intro rfl trivial))) (hrec5 v0 v1 (v2 + (1 : Int32)) p17 _ h)
def f152_H61 (n : Nat)  (K32 : Wd → Option Wd) : Nat → Nat → Int32 → Int32 → Int32 → Wd → Option Wd
  | 0, _, _, _, _, _ => none
  | k + 1, v0, v1, v2, v3, w =>
    (if (6 : Int32) ≤ v3 then K32 w
      else ob (f16 v1 v3 w) (fun p28 => (if p28.1 = 0 then (fun (v0 : Nat) (v1 : Int32) (v2 : Int32) (v3 : Int32) w => f152_H61 n  K32 k v0 v1 v2 v3 w) v0 v1 v2 (v3 + (1 : Int32)) p28.2
        else ob (getR p28.2 0 v0 6) (fun x30 => ob (astI p28.2 x30 v3 v2) (fun w32 => (fun (v0 : Nat) (v1 : Int32) (v2 : Int32) (v3 : Int32) w => f152_H61 n  K32 k v0 v1 v2 v3 w) v0 v1 v2 (v3 + (1 : Int32)) w32)))))
set_option maxRecDepth 10000 in
theorem rf152_H61 {S : Sc} (n : Nat)  (K32 : Wd → Option Wd)  (hK32 : ∀  (w : Wd) (o : Wd), K32 w = some o → Rn S 152 88 [none, none, none, none] [] w (none, o)) : ∀ (k : Nat) (v0 : Nat) (v1 : Int32) (v2 : Int32) (v3 : Int32) (w : Wd) (o : Wd), f152_H61 n  K32 k v0 v1 v2 v3 w = some o → Rn S 152 61 [some (.ref v0), some (.int v1), some (.int v2), some (.int v3)] [] w (none, o) := by
  intro k
  induction k with
  | zero =>
    intro v0 v1 v2 v3 w o h
    exact nomatch h
  | succ k ih =>
    intro v0 v1 v2 v3 w o h
    have hrec32 : ∀ (y0 : Nat) (y1 : Int32) (y2 : Int32) (y3 : Int32) (w : Wd) (o : Wd), (fun (v0 : Nat) (v1 : Int32) (v2 : Int32) (v3 : Int32) w => f152_H61 n  K32 k v0 v1 v2 v3 w) y0 y1 y2 y3 w = some o → Rn S 152 61 [some (.ref y0), some (.int y1), some (.int y2), some (.int y3)] [] w (none, o) := fun y0 y1 y2 y3 w o h => ih y0 y1 y2 y3 w o h
    unfold f152_H61 at h
    refine rn_iload_n (ft152 32 rfl) rfl ?_
    refine rn_bipush (v := (6 : Int32)) (ft152 33 rfl) (by decide) ?_
    by_cases c35 : (6 : Int32) ≤ v3
    · replace h := ifp c35 h
      refine rn_icmp_ge_t (ft152 34 rfl) c35 ?_
      exact rn_forget (ls := [none, none, none, none]) trivial (hK32 w _ h)
    · replace h := ifn c35 h
      refine rn_icmp_ge_f (ft152 34 rfl) c35 ?_
      refine rn_iload_n (ft152 35 rfl) rfl ?_
      refine rn_iload_n (ft152 36 rfl) rfl ?_
      obtain ⟨p28, q29, h⟩ := ob_some h
      refine rn_callS (as := [.int v1, .int v3]) (r := []) (v := (some (.int p28.1))) (w1 := p28.2) (ft152 37 rfl) (by decide +kernel) rfl (Nat.le_of_ble_eq_true rfl) (Nat.le_of_ble_eq_true rfl) (r16 v1 v3 w _ q29) ?_
      by_cases c34 : p28.1 = 0
      · replace h := ifp c34 h
        refine rn_if_eq_t (ft152 38 rfl) c34 ?_
        refine rn_iinc (u := 1) (ls' := [some (.ref v0), some (.int v1), some (.int v2), some (.int (v3 + (1 : Int32)))]) (ft152 44 rfl) rfl (by decide) rfl ?_
        refine rn_goto (ft152 45 rfl) ?_
        exact rn_forget (ls := [some (.ref v0), some (.int v1), some (.int v2), some (.int (v3 + (1 : Int32)))]) (And.intro rfl (And.intro rfl (And.intro rfl (And.intro rfl trivial)))) (hrec32 v0 v1 v2 (v3 + (1 : Int32)) p28.2 _ h)
      · replace h := ifn c34 h
        refine rn_if_eq_f (ft152 38 rfl) c34 ?_
        refine rn_aload_n (ft152 39 rfl) rfl ?_
        obtain ⟨x30, q31, h⟩ := ob_some h
        refine rn_getR (ft152 40 rfl) q31 ?_
        refine rn_iload_n (ft152 41 rfl) rfl ?_
        refine rn_iload_n (ft152 42 rfl) rfl ?_
        obtain ⟨w32, q33, h⟩ := ob_some h
        refine rn_iastore (ft152 43 rfl) q33 ?_
        refine rn_iinc (u := 1) (ls' := [some (.ref v0), some (.int v1), some (.int v2), some (.int (v3 + (1 : Int32)))]) (ft152 44 rfl) rfl (by decide) rfl ?_
        refine rn_goto (ft152 45 rfl) ?_
        exact rn_forget (ls := [some (.ref v0), some (.int v1), some (.int v2), some (.int (v3 + (1 : Int32)))]) (And.intro rfl (And.intro rfl (And.intro rfl (And.intro rfl trivial)))) (hrec32 v0 v1 v2 (v3 + (1 : Int32)) w32 _ h)
def f152 (n : Nat) (v0 : Nat) (v1 : Int32) (w : Wd) : Option Wd :=
  ob (getR w 0 v0 7) (fun x1 => (if (wsh w x1).map (fun q => q.1) = some 8 then ob (f23 x1 w) (fun p3 => f152_H9 n  (fun (e0_23 : Nat) (e1_23 : Int32) (w23 : Wd) => ob (getR w23 0 e0_23 7) (fun x24 => (if (wsh w23 x24).map (fun q => q.1) = some 8 then ob (f25 x24 w23) (fun p26 => f152_H61 n  (fun  (w36 : Wd) => some w36) n e0_23 e1_23 p26.1 (0 : Int32) p26.2) else none))) n v0 v1 (0 : Int32) p3) else none))
set_option maxRecDepth 10000 in
theorem r152 {S : Sc} (n : Nat) (v0 : Nat) (v1 : Int32) (w : Wd) (o : Wd) (h : f152 n v0 v1 w = some o) : Rn S 152 0 [some (.ref v0), some (.int v1), none, none] [] w (none, o) := by
  unfold f152 at h
  refine rn_aload_n (ft152 0 rfl) rfl ?_
  obtain ⟨x1, q2, h⟩ := ob_some h
  refine rn_getR (ft152 1 rfl) q2 ?_
  obtain ⟨g38, h⟩ := ifg h
  obtain ⟨p3, q4, h⟩ := ob_some h
  refine rn_callV (as := []) (k0 := x1) (r := []) (v := none) (w1 := p3) (ft152 2 rfl) (by decide +kernel) rfl (Nat.le_of_ble_eq_true rfl) (Nat.le_of_ble_eq_true rfl) (r23 x1 w _ q4) (by decide +kernel) g38 ?_
  refine rn_iconst (v := (0 : Int32)) (ft152 3 rfl) (by decide) ?_
  refine rn_istore_n (ls' := [some (.ref v0), some (.int v1), some (.int (0 : Int32)), none]) (ft152 4 rfl) rfl ?_
  refine rn_forget (ls := [some (.ref v0), some (.int v1), some (.int (0 : Int32)), none]) (And.intro rfl (And.intro rfl (And.intro rfl trivial))) (rf152_H9 n  _  (fun e0_23 e1_23 w23 o h => ?_) n v0 v1 (0 : Int32) p3 _ h)
  refine rn_aload_n (ft152 26 rfl) rfl ?_
  obtain ⟨x24, q25, h⟩ := ob_some h
  refine rn_getR (ft152 27 rfl) q25 ?_
  obtain ⟨g37, h⟩ := ifg h
  obtain ⟨p26, q27, h⟩ := ob_some h
  refine rn_callV (as := []) (k0 := x24) (r := []) (v := (some (.int p26.1))) (w1 := p26.2) (ft152 28 rfl) (by decide +kernel) rfl (Nat.le_of_ble_eq_true rfl) (Nat.le_of_ble_eq_true rfl) (r25 x24 w23 _ q27) (by decide +kernel) g37 ?_
  refine rn_istore_n (ls' := [some (.ref e0_23), some (.int e1_23), some (.int p26.1), none]) (ft152 29 rfl) rfl ?_
  refine rn_iconst (v := (0 : Int32)) (ft152 30 rfl) (by decide) ?_
  refine rn_istore_n (ls' := [some (.ref e0_23), some (.int e1_23), some (.int p26.1), some (.int (0 : Int32))]) (ft152 31 rfl) rfl ?_
  refine rn_forget (ls := [some (.ref e0_23), some (.int e1_23), some (.int p26.1), some (.int (0 : Int32))]) (And.intro rfl (And.intro rfl (And.intro rfl (And.intro rfl trivial)))) (rf152_H61 n  _  (fun  w36 o h => ?_) n e0_23 e1_23 p26.1 (0 : Int32) p26.2 _ h)
  cases h
  exact rn_vret pr152 (ft152 46 rfl)
/-- NineWheel$Counting.addUp(I)V -/
theorem ft153 : ∀ (i : Nat) {q : Nat × XI}, cd153[i]? = some q → fetch 153 q.1 = some q.2 := ft_of (by decide +kernel)
theorem pr153 : pRt 153 = none := rfl
def f153_J48 (n : Nat) (rec5 : Nat → Int32 → Int32 → Wd → Option Wd) (K5 : Wd → Option Wd) (v0 : Nat) (v1 : Int32) (v2 : Int32) (w : Wd) : Option Wd :=
  (if ¬ v2 = v1 then rec5 v0 v1 (v2 + (1 : Int32)) w
    else ob (getR w 0 v0 7) (fun x9 => ob (getR w 0 v0 6) (fun x11 => ob (aldI w x11 v2) (fun x13 => ob (putI w 8 x9 6 x13) (fun w15 => rec5 v0 v1 (v2 + (1 : Int32)) w15)))))
set_option maxRecDepth 10000 in
theorem rf153_J48 {S : Sc} (n : Nat) (rec5 : Nat → Int32 → Int32 → Wd → Option Wd) (K5 : Wd → Option Wd) (v0 : Nat) (v1 : Int32) (v2 : Int32) (w : Wd) (o : Wd) (hrec5 : ∀ (y0 : Nat) (y1 : Int32) (y2 : Int32) (w : Wd) (o : Wd), rec5 y0 y1 y2 w = some o → Rn S 153 9 [some (.ref y0), some (.int y1), some (.int y2)] [] w (none, o)) (hK5 : ∀  (w : Wd) (o : Wd), K5 w = some o → Rn S 153 72 [none, none, none] [] w (none, o)) (h : f153_J48 n rec5 K5 v0 v1 v2 w = some o) : Rn S 153 48 [some (.ref v0), some (.int v1), some (.int v2)] [] w (none, o) := by
  unfold f153_J48 at h
  refine rn_iload_n (ft153 25 rfl) rfl ?_
  refine rn_iload_n (ft153 26 rfl) rfl ?_
  by_cases c17 : ¬ v2 = v1
  · replace h := ifp c17 h
    refine rn_icmp_ne_t (ft153 27 rfl) c17 ?_
    refine rn_iinc (u := 1) (ls' := [some (.ref v0), some (.int v1), some (.int (v2 + (1 : Int32)))]) (ft153 35 rfl) rfl (by decide) rfl ?_
    refine rn_goto (ft153 36 rfl) ?_
    exact rn_forget (ls := [some (.ref v0), some (.int v1), some (.int (v2 + (1 : Int32)))]) (And.intro rfl (And.intro rfl (And.intro rfl trivial))) (hrec5 v0 v1 (v2 + (1 : Int32)) w _ h)
  · replace h := ifn c17 h
    refine rn_icmp_ne_f (ft153 27 rfl) c17 ?_
    refine rn_aload_n (ft153 28 rfl) rfl ?_
    obtain ⟨x9, q10, h⟩ := ob_some h
    refine rn_getR (ft153 29 rfl) q10 ?_
    refine rn_aload_n (ft153 30 rfl) rfl ?_
    obtain ⟨x11, q12, h⟩ := ob_some h
    refine rn_getR (ft153 31 rfl) q12 ?_
    refine rn_iload_n (ft153 32 rfl) rfl ?_
    obtain ⟨x13, q14, h⟩ := ob_some h
    refine rn_iaload (ft153 33 rfl) q14 ?_
    obtain ⟨w15, q16, h⟩ := ob_some h
    refine rn_putI (ft153 34 rfl) q16 ?_
    refine rn_iinc (u := 1) (ls' := [some (.ref v0), some (.int v1), some (.int (v2 + (1 : Int32)))]) (ft153 35 rfl) rfl (by decide) rfl ?_
    refine rn_goto (ft153 36 rfl) ?_
    exact rn_forget (ls := [some (.ref v0), some (.int v1), some (.int (v2 + (1 : Int32)))]) (And.intro rfl (And.intro rfl (And.intro rfl trivial))) (hrec5 v0 v1 (v2 + (1 : Int32)) w15 _ h)
def f153_H9 (n : Nat)  (K5 : Wd → Option Wd) : Nat → Nat → Int32 → Int32 → Wd → Option Wd
  | 0, _, _, _, _ => none
  | k + 1, v0, v1, v2, w =>
    (if (6 : Int32) ≤ v2 then K5 w
      else ob (getR w 0 v0 0) (fun x5 => (if (wsh w x5).map (fun q => q.1) = some 6 then ob (f12 x5 v2 w) (fun p7 => (if p7.1 = 0 then f153_J48 n (fun (v0 : Nat) (v1 : Int32) (v2 : Int32) w => f153_H9 n  K5 k v0 v1 v2 w) K5 v0 v1 v2 p7.2
        else ob (getR p7.2 0 v0 7) (fun x18 => ob (getR p7.2 0 v0 6) (fun x20 => ob (aldI p7.2 x20 v2) (fun x22 => ob (getR p7.2 0 v0 0) (fun x24 => (if (wsh p7.2 x24).map (fun q => q.1) = some 6 then ob (f84 x24 v2 p7.2) (fun p26 => (if (wsh p26.2 x18).map (fun q => q.1) = some 8 then ob (f24 x18 v2 x22 p26.1 p26.2) (fun p28 => f153_J48 n (fun (v0 : Nat) (v1 : Int32) (v2 : Int32) w => f153_H9 n  K5 k v0 v1 v2 w) K5 v0 v1 v2 p28) else none)) else none))))))) else none)))
set_option maxRecDepth 10000 in
theorem rf153_H9 {S : Sc} (n : Nat)  (K5 : Wd → Option Wd)  (hK5 : ∀  (w : Wd) (o : Wd), K5 w = some o → Rn S 153 72 [none, none, none] [] w (none, o)) : ∀ (k : Nat) (v0 : Nat) (v1 : Int32) (v2 : Int32) (w : Wd) (o : Wd), f153_H9 n  K5 k v0 v1 v2 w = some o → Rn S 153 9 [some (.ref v0), some (.int v1), some (.int v2)] [] w (none, o) := by
  intro k
  induction k with
  | zero =>
    intro v0 v1 v2 w o h
    exact nomatch h
  | succ k ih =>
    intro v0 v1 v2 w o h
    have hrec5 : ∀ (y0 : Nat) (y1 : Int32) (y2 : Int32) (w : Wd) (o : Wd), (fun (v0 : Nat) (v1 : Int32) (v2 : Int32) w => f153_H9 n  K5 k v0 v1 v2 w) y0 y1 y2 w = some o → Rn S 153 9 [some (.ref y0), some (.int y1), some (.int y2)] [] w (none, o) := fun y0 y1 y2 w o h => ih y0 y1 y2 w o h
    unfold f153_H9 at h
    refine rn_iload_n (ft153 5 rfl) rfl ?_
    refine rn_bipush (v := (6 : Int32)) (ft153 6 rfl) (by decide) ?_
    by_cases c34 : (6 : Int32) ≤ v2
    · replace h := ifp c34 h
      refine rn_icmp_ge_t (ft153 7 rfl) c34 ?_
      exact rn_forget (ls := [none, none, none]) trivial (hK5 w _ h)
    · replace h := ifn c34 h
      refine rn_icmp_ge_f (ft153 7 rfl) c34 ?_
      refine rn_aload_n (ft153 8 rfl) rfl ?_
      obtain ⟨x5, q6, h⟩ := ob_some h
      refine rn_getR (ft153 9 rfl) q6 ?_
      refine rn_iload_n (ft153 10 rfl) rfl ?_
      obtain ⟨g33, h⟩ := ifg h
      obtain ⟨p7, q8, h⟩ := ob_some h
      refine rn_callV (as := [.int v2]) (k0 := x5) (r := []) (v := (some (.int p7.1))) (w1 := p7.2) (ft153 11 rfl) (by decide +kernel) rfl (Nat.le_of_ble_eq_true rfl) (Nat.le_of_ble_eq_true rfl) (r12 x5 v2 w _ q8) (by decide +kernel) g33 ?_
      by_cases c32 : p7.1 = 0
      · replace h := ifp c32 h
        refine rn_if_eq_t (ft153 12 rfl) c32 ?_
        exact rn_forget (ls := [some (.ref v0), some (.int v1), some (.int v2)]) (And.intro rfl (And.intro rfl (And.intro rfl trivial))) (rf153_J48 n (fun (v0 : Nat) (v1 : Int32) (v2 : Int32) w => f153_H9 n  K5 k v0 v1 v2 w) K5 v0 v1 v2 p7.2 _ hrec5 hK5 h)
      · replace h := ifn c32 h
        refine rn_if_eq_f (ft153 12 rfl) c32 ?_
        refine rn_aload_n (ft153 13 rfl) rfl ?_
        obtain ⟨x18, q19, h⟩ := ob_some h
        refine rn_getR (ft153 14 rfl) q19 ?_
        refine rn_iload_n (ft153 15 rfl) rfl ?_
        refine rn_aload_n (ft153 16 rfl) rfl ?_
        obtain ⟨x20, q21, h⟩ := ob_some h
        refine rn_getR (ft153 17 rfl) q21 ?_
        refine rn_iload_n (ft153 18 rfl) rfl ?_
        obtain ⟨x22, q23, h⟩ := ob_some h
        refine rn_iaload (ft153 19 rfl) q23 ?_
        refine rn_aload_n (ft153 20 rfl) rfl ?_
        obtain ⟨x24, q25, h⟩ := ob_some h
        refine rn_getR (ft153 21 rfl) q25 ?_
        refine rn_iload_n (ft153 22 rfl) rfl ?_
        obtain ⟨g31, h⟩ := ifg h
        obtain ⟨p26, q27, h⟩ := ob_some h
        refine rn_callV (as := [.int v2]) (k0 := x24) (r := [.int x22, .int v2, .ref x18]) (v := (some (.int p26.1))) (w1 := p26.2) (ft153 23 rfl) (by decide +kernel) rfl (Nat.le_of_ble_eq_true rfl) (Nat.le_of_ble_eq_true rfl) (r84 x24 v2 p7.2 _ q27) (by decide +kernel) g31 ?_
        obtain ⟨g30, h⟩ := ifg h
        obtain ⟨p28, q29, h⟩ := ob_some h
        refine rn_callV (as := [.int v2, .int x22, .int p26.1]) (k0 := x18) (r := []) (v := none) (w1 := p28) (ft153 24 rfl) (by decide +kernel) rfl (Nat.le_of_ble_eq_true rfl) (Nat.le_of_ble_eq_true rfl) (r24 x18 v2 x22 p26.1 p26.2 _ q29) (by decide +kernel) g30 ?_
        exact rn_forget (ls := [some (.ref v0), some (.int v1), some (.int v2)]) (And.intro rfl (And.intro rfl (And.intro rfl trivial))) (rf153_J48 n (fun (v0 : Nat) (v1 : Int32) (v2 : Int32) w => f153_H9 n  K5 k v0 v1 v2 w) K5 v0 v1 v2 p28 _ hrec5 hK5 h)
def f153 (n : Nat) (v0 : Nat) (v1 : Int32) (w : Wd) : Option Wd :=
  ob (getR w 0 v0 7) (fun x1 => (if (wsh w x1).map (fun q => q.1) = some 8 then ob (f23 x1 w) (fun p3 => f153_H9 n  (fun  (w35 : Wd) => some w35) n v0 v1 (0 : Int32) p3) else none))
set_option maxRecDepth 10000 in
theorem r153 {S : Sc} (n : Nat) (v0 : Nat) (v1 : Int32) (w : Wd) (o : Wd) (h : f153 n v0 v1 w = some o) : Rn S 153 0 [some (.ref v0), some (.int v1), none] [] w (none, o) := by
  unfold f153 at h
  refine rn_aload_n (ft153 0 rfl) rfl ?_
  obtain ⟨x1, q2, h⟩ := ob_some h
  refine rn_getR (ft153 1 rfl) q2 ?_
  obtain ⟨g36, h⟩ := ifg h
  obtain ⟨p3, q4, h⟩ := ob_some h
  refine rn_callV (as := []) (k0 := x1) (r := []) (v := none) (w1 := p3) (ft153 2 rfl) (by decide +kernel) rfl (Nat.le_of_ble_eq_true rfl) (Nat.le_of_ble_eq_true rfl) (r23 x1 w _ q4) (by decide +kernel) g36 ?_
  refine rn_iconst (v := (0 : Int32)) (ft153 3 rfl) (by decide) ?_
  refine rn_istore_n (ls' := [some (.ref v0), some (.int v1), some (.int (0 : Int32))]) (ft153 4 rfl) rfl ?_
  refine rn_forget (ls := [some (.ref v0), some (.int v1), some (.int (0 : Int32))]) (And.intro rfl (And.intro rfl (And.intro rfl trivial))) (rf153_H9 n  _  (fun  w35 o h => ?_) n v0 v1 (0 : Int32) p3 _ h)
  cases h
  exact rn_vret pr153 (ft153 37 rfl)
/-- NineWheel$Rule.decided(LNineWheel$Tally;)I -/
theorem ft154 : ∀ (i : Nat) {q : Nat × XI}, cd154[i]? = some q → fetch 154 q.1 = some q.2 := ft_of (by decide +kernel)
theorem pr154 : pRt 154 = some .int := rfl
def f154_J101  (v0 : Nat) (v2 : Int32) (v3 : Int32) (s0 : Int32) (w : Wd) : Option (Int32 × Wd) :=
  ob (getI w 5 v0 1) (fun x11 => (if v3 < x11 then some ((0 : Int32), w)
    else ob (getI w 5 v0 2) (fun x13 => (if (s0 &&& x13) = 0 then some (v2, w)
      else some ((0 : Int32), w)))))
set_option maxRecDepth 10000 in
theorem rf154_J101 {S : Sc}  (v0 : Nat) (v2 : Int32) (v3 : Int32) (s0 : Int32) (w : Wd) (o : (Int32 × Wd))  (h : f154_J101  v0 v2 v3 s0 w = some o) : Rn S 154 101 [some (.ref v0), none, some (.int v2), some (.int v3), none] [.int s0] w (some (.int o.1), o.2) := by
  unfold f154_J101 at h
  refine rn_istore (ls' := [some (.ref v0), none, some (.int v2), some (.int v3), some (.int s0)]) (ft154 38 rfl) rfl ?_
  refine rn_iload_n (ft154 39 rfl) rfl ?_
  refine rn_aload_n (ft154 40 rfl) rfl ?_
  obtain ⟨x11, q12, h⟩ := ob_some h
  refine rn_getI (ft154 41 rfl) (by decide) (by decide) q12 ?_
  by_cases c16 : v3 < x11
  · replace h := ifp c16 h
    refine rn_icmp_lt_t (ft154 42 rfl) c16 ?_
    refine rn_iconst (v := (0 : Int32)) (ft154 48 rfl) (by decide) ?_
    refine rn_goto (ft154 49 rfl) ?_
    cases h
    exact rn_iretI pr154 (ft154 51 rfl)
  · replace h := ifn c16 h
    refine rn_icmp_lt_f (ft154 42 rfl) c16 ?_
    refine rn_iload (ft154 43 rfl) rfl ?_
    refine rn_aload_n (ft154 44 rfl) rfl ?_
    obtain ⟨x13, q14, h⟩ := ob_some h
    refine rn_getI (ft154 45 rfl) (by decide) (by decide) q14 ?_
    refine rn_iand (ft154 46 rfl) ?_
    by_cases c15 : (s0 &&& x13) = 0
    · replace h := ifp c15 h
      refine rn_if_eq_t (ft154 47 rfl) c15 ?_
      refine rn_iload_n (ft154 50 rfl) rfl ?_
      cases h
      exact rn_iretI pr154 (ft154 51 rfl)
    · replace h := ifn c15 h
      refine rn_if_eq_f (ft154 47 rfl) c15 ?_
      refine rn_iconst (v := (0 : Int32)) (ft154 48 rfl) (by decide) ?_
      refine rn_goto (ft154 49 rfl) ?_
      cases h
      exact rn_iretI pr154 (ft154 51 rfl)
def f154_J85  (v0 : Nat) (v1 : Nat) (v2 : Int32) (s0 : Int32) (w : Wd) : Option (Int32 × Wd) :=
  (if 0 ≤ v2 then ob (getI w 8 v1 4) (fun x9 => f154_J101  v0 v2 s0 x9 w)
    else ob (getI w 8 v1 5) (fun x17 => f154_J101  v0 v2 s0 x17 w))
set_option maxRecDepth 10000 in
theorem rf154_J85 {S : Sc}  (v0 : Nat) (v1 : Nat) (v2 : Int32) (s0 : Int32) (w : Wd) (o : (Int32 × Wd))  (h : f154_J85  v0 v1 v2 s0 w = some o) : Rn S 154 85 [some (.ref v0), some (.ref v1), some (.int v2), none, none] [.int s0] w (some (.int o.1), o.2) := by
  unfold f154_J85 at h
  refine rn_istore_n (ls' := [some (.ref v0), some (.ref v1), some (.int v2), some (.int s0), none]) (ft154 30 rfl) rfl ?_
  refine rn_iload_n (ft154 31 rfl) rfl ?_
  by_cases c19 : 0 ≤ v2
  · replace h := ifp c19 h
    refine rn_if_ge_t (ft154 32 rfl) c19 ?_
    refine rn_aload_n (ft154 36 rfl) rfl ?_
    obtain ⟨x9, q10, h⟩ := ob_some h
    refine rn_getI (ft154 37 rfl) (by decide) (by decide) q10 ?_
    exact rn_forget (ls := [some (.ref v0), none, some (.int v2), some (.int s0), none]) (And.intro rfl (And.intro rfl (And.intro rfl trivial))) (rf154_J101  v0 v2 s0 x9 w _  h)
  · replace h := ifn c19 h
    refine rn_if_ge_f (ft154 32 rfl) c19 ?_
    refine rn_aload_n (ft154 33 rfl) rfl ?_
    obtain ⟨x17, q18, h⟩ := ob_some h
    refine rn_getI (ft154 34 rfl) (by decide) (by decide) q18 ?_
    refine rn_goto (ft154 35 rfl) ?_
    exact rn_forget (ls := [some (.ref v0), none, some (.int v2), some (.int s0), none]) (And.intro rfl (And.intro rfl (And.intro rfl trivial))) (rf154_J101  v0 v2 s0 x17 w _  h)
def f154_J64  (v0 : Nat) (v1 : Nat) (v2 : Int32) (w : Wd) : Option (Int32 × Wd) :=
  (if ¬ v2 = 0 then (if 0 ≤ v2 then ob (getI w 8 v1 2) (fun x7 => f154_J85  v0 v1 v2 x7 w)
      else ob (getI w 8 v1 1) (fun x20 => f154_J85  v0 v1 v2 x20 w))
    else some ((0 : Int32), w))
set_option maxRecDepth 10000 in
theorem rf154_J64 {S : Sc}  (v0 : Nat) (v1 : Nat) (v2 : Int32) (w : Wd) (o : (Int32 × Wd))  (h : f154_J64  v0 v1 v2 w = some o) : Rn S 154 64 [some (.ref v0), some (.ref v1), some (.int v2), none, none] [] w (some (.int o.1), o.2) := by
  unfold f154_J64 at h
  refine rn_iload_n (ft154 19 rfl) rfl ?_
  by_cases c23 : ¬ v2 = 0
  · replace h := ifp c23 h
    refine rn_if_ne_t (ft154 20 rfl) c23 ?_
    refine rn_iload_n (ft154 23 rfl) rfl ?_
    by_cases c22 : 0 ≤ v2
    · replace h := ifp c22 h
      refine rn_if_ge_t (ft154 24 rfl) c22 ?_
      refine rn_aload_n (ft154 28 rfl) rfl ?_
      obtain ⟨x7, q8, h⟩ := ob_some h
      refine rn_getI (ft154 29 rfl) (by decide) (by decide) q8 ?_
      exact rn_forget (ls := [some (.ref v0), some (.ref v1), some (.int v2), none, none]) (And.intro rfl (And.intro rfl (And.intro rfl trivial))) (rf154_J85  v0 v1 v2 x7 w _  h)
    · replace h := ifn c22 h
      refine rn_if_ge_f (ft154 24 rfl) c22 ?_
      refine rn_aload_n (ft154 25 rfl) rfl ?_
      obtain ⟨x20, q21, h⟩ := ob_some h
      refine rn_getI (ft154 26 rfl) (by decide) (by decide) q21 ?_
      refine rn_goto (ft154 27 rfl) ?_
      exact rn_forget (ls := [some (.ref v0), some (.ref v1), some (.int v2), none, none]) (And.intro rfl (And.intro rfl (And.intro rfl trivial))) (rf154_J85  v0 v1 v2 x20 w _  h)
  · replace h := ifn c23 h
    refine rn_if_ne_f (ft154 20 rfl) c23 ?_
    refine rn_iconst (v := (0 : Int32)) (ft154 21 rfl) (by decide) ?_
    cases h
    exact rn_iretI pr154 (ft154 22 rfl)
def f154 (v0 : Nat) (v1 : Nat) (w : Wd) : Option (Int32 × Wd) :=
  ob (getI w 5 v0 0) (fun x1 => (if x1 = 0 then (if (wsh w v1).map (fun q => q.1) = some 8 then ob (f25 v1 w) (fun p30 => f154_J64  v0 v1 p30.1 p30.2) else none)
    else (if x1 = 1 then (if (wsh w v1).map (fun q => q.1) = some 8 then ob (f27 v1 w) (fun p27 => f154_J64  v0 v1 p27.1 p27.2) else none)
      else (if x1 = 2 then (if (wsh w v1).map (fun q => q.1) = some 8 then ob (f101 v1 w) (fun p24 => f154_J64  v0 v1 p24.1 p24.2) else none)
        else ob (getI w 8 v1 6) (fun x3 => ob (f28 x3 w) (fun p5 => f154_J64  v0 v1 p5.1 p5.2))))))
set_option maxRecDepth 10000 in
theorem r154 {S : Sc} (v0 : Nat) (v1 : Nat) (w : Wd) (o : (Int32 × Wd)) (h : f154 v0 v1 w = some o) : Rn S 154 0 [some (.ref v0), some (.ref v1), none, none, none] [] w (some (.int o.1), o.2) := by
  unfold f154 at h
  refine rn_aload_n (ft154 0 rfl) rfl ?_
  obtain ⟨x1, q2, h⟩ := ob_some h
  refine rn_getI (ft154 1 rfl) (by decide) (by decide) q2 ?_
  by_cases c33 : x1 = 0
  · replace h := ifp c33 h
    refine rn_sw_i (e := 28) (pc' := 32) (ft154 2 rfl) (by rw [c33]; decide) (by rw [c33]; rfl) (by decide) ?_
    refine rn_aload_n (ft154 3 rfl) rfl ?_
    obtain ⟨g32, h⟩ := ifg h
    obtain ⟨p30, q31, h⟩ := ob_some h
    refine rn_callV (as := []) (k0 := v1) (r := []) (v := (some (.int p30.1))) (w1 := p30.2) (ft154 4 rfl) (by decide +kernel) rfl (Nat.le_of_ble_eq_true rfl) (Nat.le_of_ble_eq_true rfl) (r25 v1 w _ q31) (by decide +kernel) g32 ?_
    refine rn_istore_n (ls' := [some (.ref v0), some (.ref v1), some (.int p30.1), none, none]) (ft154 5 rfl) rfl ?_
    refine rn_goto (ft154 6 rfl) ?_
    exact rn_forget (ls := [some (.ref v0), some (.ref v1), some (.int p30.1), none, none]) (And.intro rfl (And.intro rfl (And.intro rfl trivial))) (rf154_J64  v0 v1 p30.1 p30.2 _  h)
  · replace h := ifn c33 h
    by_cases c34 : x1 = 1
    · replace h := ifp c34 h
      refine rn_sw_i (e := 36) (pc' := 40) (ft154 2 rfl) (by rw [c34]; decide) (by rw [c34]; rfl) (by decide) ?_
      refine rn_aload_n (ft154 7 rfl) rfl ?_
      obtain ⟨g29, h⟩ := ifg h
      obtain ⟨p27, q28, h⟩ := ob_some h
      refine rn_callV (as := []) (k0 := v1) (r := []) (v := (some (.int p27.1))) (w1 := p27.2) (ft154 8 rfl) (by decide +kernel) rfl (Nat.le_of_ble_eq_true rfl) (Nat.le_of_ble_eq_true rfl) (r27 v1 w _ q28) (by decide +kernel) g29 ?_
      refine rn_istore_n (ls' := [some (.ref v0), some (.ref v1), some (.int p27.1), none, none]) (ft154 9 rfl) rfl ?_
      refine rn_goto (ft154 10 rfl) ?_
      exact rn_forget (ls := [some (.ref v0), some (.ref v1), some (.int p27.1), none, none]) (And.intro rfl (And.intro rfl (And.intro rfl trivial))) (rf154_J64  v0 v1 p27.1 p27.2 _  h)
    · replace h := ifn c34 h
      by_cases c35 : x1 = 2
      · replace h := ifp c35 h
        refine rn_sw_i (e := 44) (pc' := 48) (ft154 2 rfl) (by rw [c35]; decide) (by rw [c35]; rfl) (by decide) ?_
        refine rn_aload_n (ft154 11 rfl) rfl ?_
        obtain ⟨g26, h⟩ := ifg h
        obtain ⟨p24, q25, h⟩ := ob_some h
        refine rn_callV (as := []) (k0 := v1) (r := []) (v := (some (.int p24.1))) (w1 := p24.2) (ft154 12 rfl) (by decide +kernel) rfl (Nat.le_of_ble_eq_true rfl) (Nat.le_of_ble_eq_true rfl) (r101 v1 w _ q25) (by decide +kernel) g26 ?_
        refine rn_istore_n (ls' := [some (.ref v0), some (.ref v1), some (.int p24.1), none, none]) (ft154 13 rfl) rfl ?_
        refine rn_goto (ft154 14 rfl) ?_
        exact rn_forget (ls := [some (.ref v0), some (.ref v1), some (.int p24.1), none, none]) (And.intro rfl (And.intro rfl (And.intro rfl trivial))) (rf154_J64  v0 v1 p24.1 p24.2 _  h)
      · replace h := ifn c35 h
        have hsw := sw_out (v := x1) (N := 2) (by omega) (fun j hj => by
          have hj2 : j = 0 ∨ j = 1 ∨ j = 2 := by omega
          rcases hj2 with rfl | rfl | rfl
          · exact c33
          · exact c34
          · exact c35)
        refine rn_sw_d (ft154 2 rfl) hsw (by decide) ?_
        refine rn_aload_n (ft154 15 rfl) rfl ?_
        obtain ⟨x3, q4, h⟩ := ob_some h
        refine rn_getI (ft154 16 rfl) (by decide) (by decide) q4 ?_
        obtain ⟨p5, q6, h⟩ := ob_some h
        refine rn_callS (as := [.int x3]) (r := []) (v := (some (.int p5.1))) (w1 := p5.2) (ft154 17 rfl) (by decide +kernel) rfl (Nat.le_of_ble_eq_true rfl) (Nat.le_of_ble_eq_true rfl) (r28 x3 w _ q6) ?_
        refine rn_istore_n (ls' := [some (.ref v0), some (.ref v1), some (.int p5.1), none, none]) (ft154 18 rfl) rfl ?_
        exact rn_forget (ls := [some (.ref v0), some (.ref v1), some (.int p5.1), none, none]) (And.intro rfl (And.intro rfl (And.intro rfl trivial))) (rf154_J64  v0 v1 p5.1 p5.2 _  h)
