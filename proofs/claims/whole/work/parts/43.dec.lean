/-! THE METHODS AS FUNCTIONS, 26 -/
/-- NineWheel.at(III)I -/
theorem ft235 : ∀ (i : Nat) {q : Nat × XI}, cd235[i]? = some q → fetch 235 q.1 = some q.2 := ft_of (by decide +kernel)
theorem pr235 : pRt 235 = some .int := rfl
def f235 (n : Nat) (v0 : Nat) (v1 : Int32) (v2 : Int32) (v3 : Int32) (w : Wd) : Option (Int32 × Wd) :=
  (if (wsh w v0).map (fun q => q.1) = some 10 then ob (f98 v0 v1 w) (fun p1 => (if p1.1 = 0 then ob (f0 v2 (0 : Int32) (400 : Int32) p1.2) (fun p3 => (if ¬ p3.1 = 0 then some ((-1000002 : Int32), p3.2)
      else ob (f0 v3 (0 : Int32) (1 : Int32) p3.2) (fun p5 => (if p5.1 = 0 then ob (getR p5.2 10 v0 4) (fun x7 => ob (aldR p5.2 x7 v1) (fun x9 => (if (wsh p5.2 v0).map (fun q => q.1) = some 10 then ob (f221 n v0 x9 v2 (-1 : Int32) p5.2) (fun p11 => ob (getR p11 10 v0 11) (fun x13 => ob (getI p11 4 x13 7) (fun x15 => (if v2 ≤ x15 then ob (getR p11 10 v0 11) (fun x17 => (if (wsh p11 x17).map (fun q => q.1) = some 4 then ob (f104 x17 v2 p11) (fun p19 => (if ¬ v3 = 0 then ob (f21 p19.1 p19.2) (fun p21 => some (p21.1, p21.2))
            else ob (f20 p19.1 p19.2) (fun p23 => some (p23.1, p23.2)))) else none))
          else some ((-1 : Int32), p11))))) else none)))
        else some ((-1000002 : Int32), p5.2)))))
    else some ((-1000001 : Int32), p1.2))) else none)
set_option maxRecDepth 10000 in
theorem r235 {S : Sc} (n : Nat) (v0 : Nat) (v1 : Int32) (v2 : Int32) (v3 : Int32) (w : Wd) (o : (Int32 × Wd)) (h : f235 n v0 v1 v2 v3 w = some o) : Rn S 235 0 [some (.ref v0), some (.int v1), some (.int v2), some (.int v3), none] [] w (some (.int o.1), o.2) := by
  unfold f235 at h
  refine rn_aload_n (ft235 0 rfl) rfl ?_
  refine rn_iload_n (ft235 1 rfl) rfl ?_
  obtain ⟨g32, h⟩ := ifg h
  obtain ⟨p1, q2, h⟩ := ob_some h
  refine rn_callV (as := [.int v1]) (k0 := v0) (r := []) (v := (some (.int p1.1))) (w1 := p1.2) (ft235 2 rfl) (by decide +kernel) rfl (Nat.le_of_ble_eq_true rfl) (Nat.le_of_ble_eq_true rfl) (r98 v0 v1 w _ q2) (by decide +kernel) g32 ?_
  by_cases c31 : p1.1 = 0
  · replace h := ifp c31 h
    refine rn_if_eq_t (ft235 3 rfl) c31 ?_
    refine rn_iload_n (ft235 6 rfl) rfl ?_
    refine rn_iconst (v := (0 : Int32)) (ft235 7 rfl) (by decide) ?_
    refine rn_sipush (v := (400 : Int32)) (ft235 8 rfl) (by decide) ?_
    obtain ⟨p3, q4, h⟩ := ob_some h
    refine rn_callS (as := [.int v2, .int (0 : Int32), .int (400 : Int32)]) (r := []) (v := (some (.int p3.1))) (w1 := p3.2) (ft235 9 rfl) (by decide +kernel) rfl (Nat.le_of_ble_eq_true rfl) (Nat.le_of_ble_eq_true rfl) (r0 v2 (0 : Int32) (400 : Int32) p1.2 _ q4) ?_
    by_cases c30 : ¬ p3.1 = 0
    · replace h := ifp c30 h
      refine rn_if_ne_t (ft235 10 rfl) c30 ?_
      refine rn_ldc (v := (-1000002 : Int32)) (ft235 16 rfl) (by decide) rfl ?_
      cases h
      exact rn_iretI pr235 (ft235 17 rfl)
    · replace h := ifn c30 h
      refine rn_if_ne_f (ft235 10 rfl) c30 ?_
      refine rn_iload_n (ft235 11 rfl) rfl ?_
      refine rn_iconst (v := (0 : Int32)) (ft235 12 rfl) (by decide) ?_
      refine rn_iconst (v := (1 : Int32)) (ft235 13 rfl) (by decide) ?_
      obtain ⟨p5, q6, h⟩ := ob_some h
      refine rn_callS (as := [.int v3, .int (0 : Int32), .int (1 : Int32)]) (r := []) (v := (some (.int p5.1))) (w1 := p5.2) (ft235 14 rfl) (by decide +kernel) rfl (Nat.le_of_ble_eq_true rfl) (Nat.le_of_ble_eq_true rfl) (r0 v3 (0 : Int32) (1 : Int32) p3.2 _ q6) ?_
      by_cases c29 : p5.1 = 0
      · replace h := ifp c29 h
        refine rn_if_eq_t (ft235 15 rfl) c29 ?_
        refine rn_aload_n (ft235 18 rfl) rfl ?_
        refine rn_aload_n (ft235 19 rfl) rfl ?_
        obtain ⟨x7, q8, h⟩ := ob_some h
        refine rn_getR (ft235 20 rfl) q8 ?_
        refine rn_iload_n (ft235 21 rfl) rfl ?_
        obtain ⟨x9, q10, h⟩ := ob_some h
        refine rn_aaload (ft235 22 rfl) q10 ?_
        refine rn_iload_n (ft235 23 rfl) rfl ?_
        refine rn_iconst (v := (-1 : Int32)) (ft235 24 rfl) (by decide) ?_
        obtain ⟨g28, h⟩ := ifg h
        obtain ⟨p11, q12, h⟩ := ob_some h
        refine rn_callV (as := [.ref x9, .int v2, .int (-1 : Int32)]) (k0 := v0) (r := []) (v := none) (w1 := p11) (ft235 25 rfl) (by decide +kernel) rfl (Nat.le_of_ble_eq_true rfl) (Nat.le_of_ble_eq_true rfl) (r221 n v0 x9 v2 (-1 : Int32) p5.2 _ q12) (by decide +kernel) g28 ?_
        refine rn_aload_n (ft235 26 rfl) rfl ?_
        obtain ⟨x13, q14, h⟩ := ob_some h
        refine rn_getR (ft235 27 rfl) q14 ?_
        obtain ⟨x15, q16, h⟩ := ob_some h
        refine rn_getI (ft235 28 rfl) (by decide) (by decide) q16 ?_
        refine rn_iload_n (ft235 29 rfl) rfl ?_
        by_cases c27 : v2 ≤ x15
        · replace h := ifp c27 h
          refine rn_icmp_ge_t (ft235 30 rfl) c27 ?_
          refine rn_aload_n (ft235 33 rfl) rfl ?_
          obtain ⟨x17, q18, h⟩ := ob_some h
          refine rn_getR (ft235 34 rfl) q18 ?_
          refine rn_iload_n (ft235 35 rfl) rfl ?_
          obtain ⟨g26, h⟩ := ifg h
          obtain ⟨p19, q20, h⟩ := ob_some h
          refine rn_callV (as := [.int v2]) (k0 := x17) (r := []) (v := (some (.int p19.1))) (w1 := p19.2) (ft235 36 rfl) (by decide +kernel) rfl (Nat.le_of_ble_eq_true rfl) (Nat.le_of_ble_eq_true rfl) (r104 x17 v2 p11 _ q20) (by decide +kernel) g26 ?_
          refine rn_istore (ls' := [some (.ref v0), some (.int v1), some (.int v2), some (.int v3), some (.int p19.1)]) (ft235 37 rfl) rfl ?_
          refine rn_iload_n (ft235 38 rfl) rfl ?_
          by_cases c25 : ¬ v3 = 0
          · replace h := ifp c25 h
            refine rn_if_ne_t (ft235 39 rfl) c25 ?_
            refine rn_iload (ft235 43 rfl) rfl ?_
            obtain ⟨p21, q22, h⟩ := ob_some h
            refine rn_callS (as := [.int p19.1]) (r := []) (v := (some (.int p21.1))) (w1 := p21.2) (ft235 44 rfl) (by decide +kernel) rfl (Nat.le_of_ble_eq_true rfl) (Nat.le_of_ble_eq_true rfl) (r21 p19.1 p19.2 _ q22) ?_
            cases h
            exact rn_iretI pr235 (ft235 45 rfl)
          · replace h := ifn c25 h
            refine rn_if_ne_f (ft235 39 rfl) c25 ?_
            refine rn_iload (ft235 40 rfl) rfl ?_
            obtain ⟨p23, q24, h⟩ := ob_some h
            refine rn_callS (as := [.int p19.1]) (r := []) (v := (some (.int p23.1))) (w1 := p23.2) (ft235 41 rfl) (by decide +kernel) rfl (Nat.le_of_ble_eq_true rfl) (Nat.le_of_ble_eq_true rfl) (r20 p19.1 p19.2 _ q24) ?_
            refine rn_goto (ft235 42 rfl) ?_
            cases h
            exact rn_iretI pr235 (ft235 45 rfl)
        · replace h := ifn c27 h
          refine rn_icmp_ge_f (ft235 30 rfl) c27 ?_
          refine rn_iconst (v := (-1 : Int32)) (ft235 31 rfl) (by decide) ?_
          cases h
          exact rn_iretI pr235 (ft235 32 rfl)
      · replace h := ifn c29 h
        refine rn_if_eq_f (ft235 15 rfl) c29 ?_
        refine rn_ldc (v := (-1000002 : Int32)) (ft235 16 rfl) (by decide) rfl ?_
        cases h
        exact rn_iretI pr235 (ft235 17 rfl)
  · replace h := ifn c31 h
    refine rn_if_eq_f (ft235 3 rfl) c31 ?_
    refine rn_ldc (v := (-1000001 : Int32)) (ft235 4 rfl) (by decide) rfl ?_
    cases h
    exact rn_iretI pr235 (ft235 5 rfl)
/-- NineWheel.comes(II)I -/
theorem ft236 : ∀ (i : Nat) {q : Nat × XI}, cd236[i]? = some q → fetch 236 q.1 = some q.2 := ft_of (by decide +kernel)
theorem pr236 : pRt 236 = some .int := rfl
def f236 (n : Nat) (v0 : Nat) (v1 : Int32) (v2 : Int32) (w : Wd) : Option (Int32 × Wd) :=
  (if (wsh w v0).map (fun q => q.1) = some 10 then ob (f98 v0 v1 w) (fun p1 => (if ¬ p1.1 = 0 then some ((-1000001 : Int32), p1.2)
    else ob (f10 v2 p1.2) (fun p3 => (if p3.1 = 0 then ob (getR p3.2 10 v0 4) (fun x5 => ob (aldR p3.2 x5 v1) (fun x7 => (if (wsh p3.2 v0).map (fun q => q.1) = some 10 then ob (f221 n v0 x7 (400 : Int32) (-1 : Int32) p3.2) (fun p9 => ob (getR p9 10 v0 11) (fun x11 => (if (wsh p9 x11).map (fun q => q.1) = some 4 then ob (f156 n x11 v2 p9) (fun p13 => some (p13.1, p13.2)) else none))) else none)))
      else some ((-1000001 : Int32), p3.2))))) else none)
set_option maxRecDepth 10000 in
theorem r236 {S : Sc} (n : Nat) (v0 : Nat) (v1 : Int32) (v2 : Int32) (w : Wd) (o : (Int32 × Wd)) (h : f236 n v0 v1 v2 w = some o) : Rn S 236 0 [some (.ref v0), some (.int v1), some (.int v2)] [] w (some (.int o.1), o.2) := by
  unfold f236 at h
  refine rn_aload_n (ft236 0 rfl) rfl ?_
  refine rn_iload_n (ft236 1 rfl) rfl ?_
  obtain ⟨g19, h⟩ := ifg h
  obtain ⟨p1, q2, h⟩ := ob_some h
  refine rn_callV (as := [.int v1]) (k0 := v0) (r := []) (v := (some (.int p1.1))) (w1 := p1.2) (ft236 2 rfl) (by decide +kernel) rfl (Nat.le_of_ble_eq_true rfl) (Nat.le_of_ble_eq_true rfl) (r98 v0 v1 w _ q2) (by decide +kernel) g19 ?_
  by_cases c18 : ¬ p1.1 = 0
  · replace h := ifp c18 h
    refine rn_if_ne_t (ft236 3 rfl) c18 ?_
    refine rn_ldc (v := (-1000001 : Int32)) (ft236 7 rfl) (by decide) rfl ?_
    cases h
    exact rn_iretI pr236 (ft236 8 rfl)
  · replace h := ifn c18 h
    refine rn_if_ne_f (ft236 3 rfl) c18 ?_
    refine rn_iload_n (ft236 4 rfl) rfl ?_
    obtain ⟨p3, q4, h⟩ := ob_some h
    refine rn_callS (as := [.int v2]) (r := []) (v := (some (.int p3.1))) (w1 := p3.2) (ft236 5 rfl) (by decide +kernel) rfl (Nat.le_of_ble_eq_true rfl) (Nat.le_of_ble_eq_true rfl) (r10 v2 p1.2 _ q4) ?_
    by_cases c17 : p3.1 = 0
    · replace h := ifp c17 h
      refine rn_if_eq_t (ft236 6 rfl) c17 ?_
      refine rn_aload_n (ft236 9 rfl) rfl ?_
      refine rn_aload_n (ft236 10 rfl) rfl ?_
      obtain ⟨x5, q6, h⟩ := ob_some h
      refine rn_getR (ft236 11 rfl) q6 ?_
      refine rn_iload_n (ft236 12 rfl) rfl ?_
      obtain ⟨x7, q8, h⟩ := ob_some h
      refine rn_aaload (ft236 13 rfl) q8 ?_
      refine rn_sipush (v := (400 : Int32)) (ft236 14 rfl) (by decide) ?_
      refine rn_iconst (v := (-1 : Int32)) (ft236 15 rfl) (by decide) ?_
      obtain ⟨g16, h⟩ := ifg h
      obtain ⟨p9, q10, h⟩ := ob_some h
      refine rn_callV (as := [.ref x7, .int (400 : Int32), .int (-1 : Int32)]) (k0 := v0) (r := []) (v := none) (w1 := p9) (ft236 16 rfl) (by decide +kernel) rfl (Nat.le_of_ble_eq_true rfl) (Nat.le_of_ble_eq_true rfl) (r221 n v0 x7 (400 : Int32) (-1 : Int32) p3.2 _ q10) (by decide +kernel) g16 ?_
      refine rn_aload_n (ft236 17 rfl) rfl ?_
      obtain ⟨x11, q12, h⟩ := ob_some h
      refine rn_getR (ft236 18 rfl) q12 ?_
      refine rn_iload_n (ft236 19 rfl) rfl ?_
      obtain ⟨g15, h⟩ := ifg h
      obtain ⟨p13, q14, h⟩ := ob_some h
      refine rn_callV (as := [.int v2]) (k0 := x11) (r := []) (v := (some (.int p13.1))) (w1 := p13.2) (ft236 20 rfl) (by decide +kernel) rfl (Nat.le_of_ble_eq_true rfl) (Nat.le_of_ble_eq_true rfl) (r156 n x11 v2 p9 _ q14) (by decide +kernel) g15 ?_
      cases h
      exact rn_iretI pr236 (ft236 21 rfl)
    · replace h := ifn c17 h
      refine rn_if_eq_f (ft236 6 rfl) c17 ?_
      refine rn_ldc (v := (-1000001 : Int32)) (ft236 7 rfl) (by decide) rfl ?_
      cases h
      exact rn_iretI pr236 (ft236 8 rfl)
/-- NineWheel.judge(I)I -/
theorem ft237 : ∀ (i : Nat) {q : Nat × XI}, cd237[i]? = some q → fetch 237 q.1 = some q.2 := ft_of (by decide +kernel)
theorem pr237 : pRt 237 = some .int := rfl
def f237_H31 (n : Nat)  (K18 : Wd → Option (Int32 × Wd)) : Nat → Nat → Int32 → Wd → Option (Int32 × Wd)
  | 0, _, _, _ => none
  | k + 1, v0, v2, w =>
    ob (getR w 10 v0 7) (fun x13 => ob (getI w 3 x13 3) (fun x15 => (if x15 ≤ v2 then K18 w
      else ob (getR w 10 v0 11) (fun x17 => ob (getI w 4 x17 7) (fun x19 => (if x19 ≤ v2 then some (v2, w)
        else ob (getR w 10 v0 11) (fun x21 => (if (wsh w x21).map (fun q => q.1) = some 4 then ob (f106 x21 v2 w) (fun p23 => ob (getR p23.2 10 v0 7) (fun x25 => (if (wsh p23.2 x25).map (fun q => q.1) = some 3 then ob (f107 x25 v2 p23.2) (fun p27 => (if p23.1 = p27.1 then (fun (v0 : Nat) (v2 : Int32) w => f237_H31 n  K18 k v0 v2 w) v0 (v2 + (1 : Int32)) p27.2
          else some (v2, p27.2))) else none))) else none))))))))
set_option maxRecDepth 10000 in
theorem rf237_H31 {S : Sc} (n : Nat)  (K18 : Wd → Option (Int32 × Wd))  (hK18 : ∀  (w : Wd) (o : (Int32 × Wd)), K18 w = some o → Rn S 237 80 [none, none, none] [] w (some (.int o.1), o.2)) : ∀ (k : Nat) (v0 : Nat) (v2 : Int32) (w : Wd) (o : (Int32 × Wd)), f237_H31 n  K18 k v0 v2 w = some o → Rn S 237 31 [some (.ref v0), none, some (.int v2)] [] w (some (.int o.1), o.2) := by
  intro k
  induction k with
  | zero =>
    intro v0 v2 w o h
    exact nomatch h
  | succ k ih =>
    intro v0 v2 w o h
    have hrec18 : ∀ (y0 : Nat) (y2 : Int32) (w : Wd) (o : (Int32 × Wd)), (fun (v0 : Nat) (v2 : Int32) w => f237_H31 n  K18 k v0 v2 w) y0 y2 w = some o → Rn S 237 31 [some (.ref y0), none, some (.int y2)] [] w (some (.int o.1), o.2) := fun y0 y2 w o h => ih y0 y2 w o h
    unfold f237_H31 at h
    refine rn_iload_n (ft237 18 rfl) rfl ?_
    refine rn_aload_n (ft237 19 rfl) rfl ?_
    obtain ⟨x13, q14, h⟩ := ob_some h
    refine rn_getR (ft237 20 rfl) q14 ?_
    obtain ⟨x15, q16, h⟩ := ob_some h
    refine rn_getI (ft237 21 rfl) (by decide) (by decide) q16 ?_
    by_cases c33 : x15 ≤ v2
    · replace h := ifp c33 h
      refine rn_icmp_ge_t (ft237 22 rfl) c33 ?_
      exact rn_forget (ls := [none, none, none]) trivial (hK18 w _ h)
    · replace h := ifn c33 h
      refine rn_icmp_ge_f (ft237 22 rfl) c33 ?_
      refine rn_iload_n (ft237 23 rfl) rfl ?_
      refine rn_aload_n (ft237 24 rfl) rfl ?_
      obtain ⟨x17, q18, h⟩ := ob_some h
      refine rn_getR (ft237 25 rfl) q18 ?_
      obtain ⟨x19, q20, h⟩ := ob_some h
      refine rn_getI (ft237 26 rfl) (by decide) (by decide) q20 ?_
      by_cases c32 : x19 ≤ v2
      · replace h := ifp c32 h
        refine rn_icmp_ge_t (ft237 27 rfl) c32 ?_
        refine rn_iload_n (ft237 37 rfl) rfl ?_
        cases h
        exact rn_iretI pr237 (ft237 38 rfl)
      · replace h := ifn c32 h
        refine rn_icmp_ge_f (ft237 27 rfl) c32 ?_
        refine rn_aload_n (ft237 28 rfl) rfl ?_
        obtain ⟨x21, q22, h⟩ := ob_some h
        refine rn_getR (ft237 29 rfl) q22 ?_
        refine rn_iload_n (ft237 30 rfl) rfl ?_
        obtain ⟨g31, h⟩ := ifg h
        obtain ⟨p23, q24, h⟩ := ob_some h
        refine rn_callV (as := [.int v2]) (k0 := x21) (r := []) (v := (some (.int p23.1))) (w1 := p23.2) (ft237 31 rfl) (by decide +kernel) rfl (Nat.le_of_ble_eq_true rfl) (Nat.le_of_ble_eq_true rfl) (r106 x21 v2 w _ q24) (by decide +kernel) g31 ?_
        refine rn_aload_n (ft237 32 rfl) rfl ?_
        obtain ⟨x25, q26, h⟩ := ob_some h
        refine rn_getR (ft237 33 rfl) q26 ?_
        refine rn_iload_n (ft237 34 rfl) rfl ?_
        obtain ⟨g30, h⟩ := ifg h
        obtain ⟨p27, q28, h⟩ := ob_some h
        refine rn_callV (as := [.int v2]) (k0 := x25) (r := [.int p23.1]) (v := (some (.int p27.1))) (w1 := p27.2) (ft237 35 rfl) (by decide +kernel) rfl (Nat.le_of_ble_eq_true rfl) (Nat.le_of_ble_eq_true rfl) (r107 x25 v2 p23.2 _ q28) (by decide +kernel) g30 ?_
        by_cases c29 : p23.1 = p27.1
        · replace h := ifp c29 h
          refine rn_icmp_eq_t (ft237 36 rfl) c29 ?_
          refine rn_iinc (u := 1) (ls' := [some (.ref v0), none, some (.int (v2 + (1 : Int32)))]) (ft237 39 rfl) rfl (by decide) rfl ?_
          refine rn_goto (ft237 40 rfl) ?_
          exact rn_forget (ls := [some (.ref v0), none, some (.int (v2 + (1 : Int32)))]) (And.intro rfl (And.intro rfl trivial)) (hrec18 v0 (v2 + (1 : Int32)) p27.2 _ h)
        · replace h := ifn c29 h
          refine rn_icmp_eq_f (ft237 36 rfl) c29 ?_
          refine rn_iload_n (ft237 37 rfl) rfl ?_
          cases h
          exact rn_iretI pr237 (ft237 38 rfl)
def f237 (n : Nat) (v0 : Nat) (v1 : Int32) (w : Wd) : Option (Int32 × Wd) :=
  (if (wsh w v0).map (fun q => q.1) = some 10 then ob (f98 v0 v1 w) (fun p1 => (if p1.1 = 0 then ob (getR p1.2 10 v0 4) (fun x3 => ob (aldR p1.2 x3 v1) (fun x5 => ob (getR p1.2 10 v0 7) (fun x7 => ob (getI p1.2 3 x7 3) (fun x9 => (if (wsh p1.2 v0).map (fun q => q.1) = some 10 then ob (f221 n v0 x5 x9 (-1 : Int32) p1.2) (fun p11 => f237_H31 n  (fun  (w34 : Wd) => some ((-1 : Int32), w34)) n v0 (0 : Int32) p11) else none)))))
    else some ((-1000001 : Int32), p1.2))) else none)
set_option maxRecDepth 10000 in
theorem r237 {S : Sc} (n : Nat) (v0 : Nat) (v1 : Int32) (w : Wd) (o : (Int32 × Wd)) (h : f237 n v0 v1 w = some o) : Rn S 237 0 [some (.ref v0), some (.int v1), none] [] w (some (.int o.1), o.2) := by
  unfold f237 at h
  refine rn_aload_n (ft237 0 rfl) rfl ?_
  refine rn_iload_n (ft237 1 rfl) rfl ?_
  obtain ⟨g37, h⟩ := ifg h
  obtain ⟨p1, q2, h⟩ := ob_some h
  refine rn_callV (as := [.int v1]) (k0 := v0) (r := []) (v := (some (.int p1.1))) (w1 := p1.2) (ft237 2 rfl) (by decide +kernel) rfl (Nat.le_of_ble_eq_true rfl) (Nat.le_of_ble_eq_true rfl) (r98 v0 v1 w _ q2) (by decide +kernel) g37 ?_
  by_cases c36 : p1.1 = 0
  · replace h := ifp c36 h
    refine rn_if_eq_t (ft237 3 rfl) c36 ?_
    refine rn_aload_n (ft237 6 rfl) rfl ?_
    refine rn_aload_n (ft237 7 rfl) rfl ?_
    obtain ⟨x3, q4, h⟩ := ob_some h
    refine rn_getR (ft237 8 rfl) q4 ?_
    refine rn_iload_n (ft237 9 rfl) rfl ?_
    obtain ⟨x5, q6, h⟩ := ob_some h
    refine rn_aaload (ft237 10 rfl) q6 ?_
    refine rn_aload_n (ft237 11 rfl) rfl ?_
    obtain ⟨x7, q8, h⟩ := ob_some h
    refine rn_getR (ft237 12 rfl) q8 ?_
    obtain ⟨x9, q10, h⟩ := ob_some h
    refine rn_getI (ft237 13 rfl) (by decide) (by decide) q10 ?_
    refine rn_iconst (v := (-1 : Int32)) (ft237 14 rfl) (by decide) ?_
    obtain ⟨g35, h⟩ := ifg h
    obtain ⟨p11, q12, h⟩ := ob_some h
    refine rn_callV (as := [.ref x5, .int x9, .int (-1 : Int32)]) (k0 := v0) (r := []) (v := none) (w1 := p11) (ft237 15 rfl) (by decide +kernel) rfl (Nat.le_of_ble_eq_true rfl) (Nat.le_of_ble_eq_true rfl) (r221 n v0 x5 x9 (-1 : Int32) p1.2 _ q12) (by decide +kernel) g35 ?_
    refine rn_iconst (v := (0 : Int32)) (ft237 16 rfl) (by decide) ?_
    refine rn_istore_n (ls' := [some (.ref v0), some (.int v1), some (.int (0 : Int32))]) (ft237 17 rfl) rfl ?_
    refine rn_forget (ls := [some (.ref v0), none, some (.int (0 : Int32))]) (And.intro rfl (And.intro rfl trivial)) (rf237_H31 n  _  (fun  w34 o h => ?_) n v0 (0 : Int32) p11 _ h)
    refine rn_iconst (v := (-1 : Int32)) (ft237 41 rfl) (by decide) ?_
    cases h
    exact rn_iretI pr237 (ft237 42 rfl)
  · replace h := ifn c36 h
    refine rn_if_eq_f (ft237 3 rfl) c36 ?_
    refine rn_ldc (v := (-1000001 : Int32)) (ft237 4 rfl) (by decide) rfl ?_
    cases h
    exact rn_iretI pr237 (ft237 5 rfl)
/-- NineWheel.value(III)I -/
theorem ft238 : ∀ (i : Nat) {q : Nat × XI}, cd238[i]? = some q → fetch 238 q.1 = some q.2 := ft_of (by decide +kernel)
theorem pr238 : pRt 238 = some .int := rfl
def f238 (n : Nat) (v0 : Nat) (v1 : Int32) (v2 : Int32) (v3 : Int32) (w : Wd) : Option (Int32 × Wd) :=
  (if (wsh w v0).map (fun q => q.1) = some 10 then ob (f98 v0 v1 w) (fun p1 => (if ¬ p1.1 = 0 then some ((-1000001 : Int32), p1.2)
    else (if (wsh p1.2 v0).map (fun q => q.1) = some 10 then ob (f83 v0 v2 p1.2) (fun p3 => (if p3.1 = 0 then ob (f0 v3 (1 : Int32) (24 : Int32) p3.2) (fun p5 => (if p5.1 = 0 then ob (getR p5.2 10 v0 4) (fun x7 => ob (aldR p5.2 x7 v1) (fun x9 => (if (wsh p5.2 v0).map (fun q => q.1) = some 10 then ob (f221 n v0 x9 v3 (-1 : Int32) p5.2) (fun p11 => ob (getR p11 10 v0 11) (fun x13 => (if (wsh p11 x13).map (fun q => q.1) = some 4 then ob (f188 n x13 v2 v3 p11) (fun p15 => some (p15.1, p15.2)) else none))) else none)))
        else some ((-1000002 : Int32), p5.2)))
      else some ((-1000001 : Int32), p3.2))) else none))) else none)
set_option maxRecDepth 10000 in
theorem r238 {S : Sc} (n : Nat) (v0 : Nat) (v1 : Int32) (v2 : Int32) (v3 : Int32) (w : Wd) (o : (Int32 × Wd)) (h : f238 n v0 v1 v2 v3 w = some o) : Rn S 238 0 [some (.ref v0), some (.int v1), some (.int v2), some (.int v3)] [] w (some (.int o.1), o.2) := by
  unfold f238 at h
  refine rn_aload_n (ft238 0 rfl) rfl ?_
  refine rn_iload_n (ft238 1 rfl) rfl ?_
  obtain ⟨g23, h⟩ := ifg h
  obtain ⟨p1, q2, h⟩ := ob_some h
  refine rn_callV (as := [.int v1]) (k0 := v0) (r := []) (v := (some (.int p1.1))) (w1 := p1.2) (ft238 2 rfl) (by decide +kernel) rfl (Nat.le_of_ble_eq_true rfl) (Nat.le_of_ble_eq_true rfl) (r98 v0 v1 w _ q2) (by decide +kernel) g23 ?_
  by_cases c22 : ¬ p1.1 = 0
  · replace h := ifp c22 h
    refine rn_if_ne_t (ft238 3 rfl) c22 ?_
    refine rn_ldc (v := (-1000001 : Int32)) (ft238 8 rfl) (by decide) rfl ?_
    cases h
    exact rn_iretI pr238 (ft238 9 rfl)
  · replace h := ifn c22 h
    refine rn_if_ne_f (ft238 3 rfl) c22 ?_
    refine rn_aload_n (ft238 4 rfl) rfl ?_
    refine rn_iload_n (ft238 5 rfl) rfl ?_
    obtain ⟨g21, h⟩ := ifg h
    obtain ⟨p3, q4, h⟩ := ob_some h
    refine rn_callV (as := [.int v2]) (k0 := v0) (r := []) (v := (some (.int p3.1))) (w1 := p3.2) (ft238 6 rfl) (by decide +kernel) rfl (Nat.le_of_ble_eq_true rfl) (Nat.le_of_ble_eq_true rfl) (r83 v0 v2 p1.2 _ q4) (by decide +kernel) g21 ?_
    by_cases c20 : p3.1 = 0
    · replace h := ifp c20 h
      refine rn_if_eq_t (ft238 7 rfl) c20 ?_
      refine rn_iload_n (ft238 10 rfl) rfl ?_
      refine rn_iconst (v := (1 : Int32)) (ft238 11 rfl) (by decide) ?_
      refine rn_bipush (v := (24 : Int32)) (ft238 12 rfl) (by decide) ?_
      obtain ⟨p5, q6, h⟩ := ob_some h
      refine rn_callS (as := [.int v3, .int (1 : Int32), .int (24 : Int32)]) (r := []) (v := (some (.int p5.1))) (w1 := p5.2) (ft238 13 rfl) (by decide +kernel) rfl (Nat.le_of_ble_eq_true rfl) (Nat.le_of_ble_eq_true rfl) (r0 v3 (1 : Int32) (24 : Int32) p3.2 _ q6) ?_
      by_cases c19 : p5.1 = 0
      · replace h := ifp c19 h
        refine rn_if_eq_t (ft238 14 rfl) c19 ?_
        refine rn_aload_n (ft238 17 rfl) rfl ?_
        refine rn_aload_n (ft238 18 rfl) rfl ?_
        obtain ⟨x7, q8, h⟩ := ob_some h
        refine rn_getR (ft238 19 rfl) q8 ?_
        refine rn_iload_n (ft238 20 rfl) rfl ?_
        obtain ⟨x9, q10, h⟩ := ob_some h
        refine rn_aaload (ft238 21 rfl) q10 ?_
        refine rn_iload_n (ft238 22 rfl) rfl ?_
        refine rn_iconst (v := (-1 : Int32)) (ft238 23 rfl) (by decide) ?_
        obtain ⟨g18, h⟩ := ifg h
        obtain ⟨p11, q12, h⟩ := ob_some h
        refine rn_callV (as := [.ref x9, .int v3, .int (-1 : Int32)]) (k0 := v0) (r := []) (v := none) (w1 := p11) (ft238 24 rfl) (by decide +kernel) rfl (Nat.le_of_ble_eq_true rfl) (Nat.le_of_ble_eq_true rfl) (r221 n v0 x9 v3 (-1 : Int32) p5.2 _ q12) (by decide +kernel) g18 ?_
        refine rn_aload_n (ft238 25 rfl) rfl ?_
        obtain ⟨x13, q14, h⟩ := ob_some h
        refine rn_getR (ft238 26 rfl) q14 ?_
        refine rn_iload_n (ft238 27 rfl) rfl ?_
        refine rn_iload_n (ft238 28 rfl) rfl ?_
        obtain ⟨g17, h⟩ := ifg h
        obtain ⟨p15, q16, h⟩ := ob_some h
        refine rn_callV (as := [.int v2, .int v3]) (k0 := x13) (r := []) (v := (some (.int p15.1))) (w1 := p15.2) (ft238 29 rfl) (by decide +kernel) rfl (Nat.le_of_ble_eq_true rfl) (Nat.le_of_ble_eq_true rfl) (r188 n x13 v2 v3 p11 _ q16) (by decide +kernel) g17 ?_
        cases h
        exact rn_iretI pr238 (ft238 30 rfl)
      · replace h := ifn c19 h
        refine rn_if_eq_f (ft238 14 rfl) c19 ?_
        refine rn_ldc (v := (-1000002 : Int32)) (ft238 15 rfl) (by decide) rfl ?_
        cases h
        exact rn_iretI pr238 (ft238 16 rfl)
    · replace h := ifn c20 h
      refine rn_if_eq_f (ft238 7 rfl) c20 ?_
      refine rn_ldc (v := (-1000001 : Int32)) (ft238 8 rfl) (by decide) rfl ?_
      cases h
      exact rn_iretI pr238 (ft238 9 rfl)
/-- NineWheel.gain(III)I -/
theorem ft239 : ∀ (i : Nat) {q : Nat × XI}, cd239[i]? = some q → fetch 239 q.1 = some q.2 := ft_of (by decide +kernel)
theorem pr239 : pRt 239 = some .int := rfl
def f239 (n : Nat) (v0 : Nat) (v1 : Int32) (v2 : Int32) (v3 : Int32) (w : Wd) : Option (Int32 × Wd) :=
  (if (wsh w v0).map (fun q => q.1) = some 10 then ob (f98 v0 v1 w) (fun p1 => (if ¬ p1.1 = 0 then some ((-1000001 : Int32), p1.2)
    else (if (wsh p1.2 v0).map (fun q => q.1) = some 10 then ob (f83 v0 v2 p1.2) (fun p3 => (if p3.1 = 0 then ob (f0 v3 (1 : Int32) (24 : Int32) p3.2) (fun p5 => (if p5.1 = 0 then ob (getR p5.2 10 v0 4) (fun x7 => ob (aldR p5.2 x7 v1) (fun x9 => (if (wsh p5.2 v0).map (fun q => q.1) = some 10 then ob (f224 n v0 x9 v2 v3 p5.2) (fun p11 => some (p11.1, p11.2)) else none)))
        else some ((-1000002 : Int32), p5.2)))
      else some ((-1000001 : Int32), p3.2))) else none))) else none)
set_option maxRecDepth 10000 in
theorem r239 {S : Sc} (n : Nat) (v0 : Nat) (v1 : Int32) (v2 : Int32) (v3 : Int32) (w : Wd) (o : (Int32 × Wd)) (h : f239 n v0 v1 v2 v3 w = some o) : Rn S 239 0 [some (.ref v0), some (.int v1), some (.int v2), some (.int v3)] [] w (some (.int o.1), o.2) := by
  unfold f239 at h
  refine rn_aload_n (ft239 0 rfl) rfl ?_
  refine rn_iload_n (ft239 1 rfl) rfl ?_
  obtain ⟨g18, h⟩ := ifg h
  obtain ⟨p1, q2, h⟩ := ob_some h
  refine rn_callV (as := [.int v1]) (k0 := v0) (r := []) (v := (some (.int p1.1))) (w1 := p1.2) (ft239 2 rfl) (by decide +kernel) rfl (Nat.le_of_ble_eq_true rfl) (Nat.le_of_ble_eq_true rfl) (r98 v0 v1 w _ q2) (by decide +kernel) g18 ?_
  by_cases c17 : ¬ p1.1 = 0
  · replace h := ifp c17 h
    refine rn_if_ne_t (ft239 3 rfl) c17 ?_
    refine rn_ldc (v := (-1000001 : Int32)) (ft239 8 rfl) (by decide) rfl ?_
    cases h
    exact rn_iretI pr239 (ft239 9 rfl)
  · replace h := ifn c17 h
    refine rn_if_ne_f (ft239 3 rfl) c17 ?_
    refine rn_aload_n (ft239 4 rfl) rfl ?_
    refine rn_iload_n (ft239 5 rfl) rfl ?_
    obtain ⟨g16, h⟩ := ifg h
    obtain ⟨p3, q4, h⟩ := ob_some h
    refine rn_callV (as := [.int v2]) (k0 := v0) (r := []) (v := (some (.int p3.1))) (w1 := p3.2) (ft239 6 rfl) (by decide +kernel) rfl (Nat.le_of_ble_eq_true rfl) (Nat.le_of_ble_eq_true rfl) (r83 v0 v2 p1.2 _ q4) (by decide +kernel) g16 ?_
    by_cases c15 : p3.1 = 0
    · replace h := ifp c15 h
      refine rn_if_eq_t (ft239 7 rfl) c15 ?_
      refine rn_iload_n (ft239 10 rfl) rfl ?_
      refine rn_iconst (v := (1 : Int32)) (ft239 11 rfl) (by decide) ?_
      refine rn_bipush (v := (24 : Int32)) (ft239 12 rfl) (by decide) ?_
      obtain ⟨p5, q6, h⟩ := ob_some h
      refine rn_callS (as := [.int v3, .int (1 : Int32), .int (24 : Int32)]) (r := []) (v := (some (.int p5.1))) (w1 := p5.2) (ft239 13 rfl) (by decide +kernel) rfl (Nat.le_of_ble_eq_true rfl) (Nat.le_of_ble_eq_true rfl) (r0 v3 (1 : Int32) (24 : Int32) p3.2 _ q6) ?_
      by_cases c14 : p5.1 = 0
      · replace h := ifp c14 h
        refine rn_if_eq_t (ft239 14 rfl) c14 ?_
        refine rn_aload_n (ft239 17 rfl) rfl ?_
        refine rn_aload_n (ft239 18 rfl) rfl ?_
        obtain ⟨x7, q8, h⟩ := ob_some h
        refine rn_getR (ft239 19 rfl) q8 ?_
        refine rn_iload_n (ft239 20 rfl) rfl ?_
        obtain ⟨x9, q10, h⟩ := ob_some h
        refine rn_aaload (ft239 21 rfl) q10 ?_
        refine rn_iload_n (ft239 22 rfl) rfl ?_
        refine rn_iload_n (ft239 23 rfl) rfl ?_
        obtain ⟨g13, h⟩ := ifg h
        obtain ⟨p11, q12, h⟩ := ob_some h
        refine rn_callV (as := [.ref x9, .int v2, .int v3]) (k0 := v0) (r := []) (v := (some (.int p11.1))) (w1 := p11.2) (ft239 24 rfl) (by decide +kernel) rfl (Nat.le_of_ble_eq_true rfl) (Nat.le_of_ble_eq_true rfl) (r224 n v0 x9 v2 v3 p5.2 _ q12) (by decide +kernel) g13 ?_
        cases h
        exact rn_iretI pr239 (ft239 25 rfl)
      · replace h := ifn c14 h
        refine rn_if_eq_f (ft239 14 rfl) c14 ?_
        refine rn_ldc (v := (-1000002 : Int32)) (ft239 15 rfl) (by decide) rfl ?_
        cases h
        exact rn_iretI pr239 (ft239 16 rfl)
    · replace h := ifn c15 h
      refine rn_if_eq_f (ft239 7 rfl) c15 ?_
      refine rn_ldc (v := (-1000001 : Int32)) (ft239 8 rfl) (by decide) rfl ?_
      cases h
      exact rn_iretI pr239 (ft239 9 rfl)
/-- NineWheel.pact(II)I -/
theorem ft240 : ∀ (i : Nat) {q : Nat × XI}, cd240[i]? = some q → fetch 240 q.1 = some q.2 := ft_of (by decide +kernel)
theorem pr240 : pRt 240 = some .int := rfl
def f240_H26 (n : Nat)  (K15 : Nat → Int32 → Int32 → Wd → Option (Int32 × Wd)) : Nat → Nat → Int32 → Int32 → Int32 → Wd → Option (Int32 × Wd)
  | 0, _, _, _, _, _ => none
  | k + 1, v0, v1, v2, v3, w =>
    ob (getR w 10 v0 1) (fun x5 => ob (getI w 6 x5 5) (fun x7 => (if x7 ≤ v3 then K15 v0 v1 v2 w
      else ob (getR w 10 v0 13) (fun x9 => ob (alen w x9) (fun x11 => (if x11 ≤ v3 then K15 v0 v1 v2 w
        else ob (getR w 10 v0 13) (fun x13 => ob (getR w 10 v0 4) (fun x15 => ob (aldR w x15 v1) (fun x17 => (if (wsh w v0).map (fun q => q.1) = some 10 then ob (f224 n v0 x17 ((1 : Int32) <<< (v3 &&& 31)) v2 w) (fun p19 => ob (astI p19.2 x13 v3 p19.1) (fun w21 => (fun (v0 : Nat) (v1 : Int32) (v2 : Int32) (v3 : Int32) w => f240_H26 n  K15 k v0 v1 v2 v3 w) v0 v1 v2 (v3 + (1 : Int32)) w21)) else none))))))))))
set_option maxRecDepth 10000 in
theorem rf240_H26 {S : Sc} (n : Nat)  (K15 : Nat → Int32 → Int32 → Wd → Option (Int32 × Wd))  (hK15 : ∀ (y0 : Nat) (y1 : Int32) (y2 : Int32) (w : Wd) (o : (Int32 × Wd)), K15 y0 y1 y2 w = some o → Rn S 240 72 [some (.ref y0), some (.int y1), some (.int y2), none, none, none] [] w (some (.int o.1), o.2)) : ∀ (k : Nat) (v0 : Nat) (v1 : Int32) (v2 : Int32) (v3 : Int32) (w : Wd) (o : (Int32 × Wd)), f240_H26 n  K15 k v0 v1 v2 v3 w = some o → Rn S 240 26 [some (.ref v0), some (.int v1), some (.int v2), some (.int v3), none, none] [] w (some (.int o.1), o.2) := by
  intro k
  induction k with
  | zero =>
    intro v0 v1 v2 v3 w o h
    exact nomatch h
  | succ k ih =>
    intro v0 v1 v2 v3 w o h
    have hrec15 : ∀ (y0 : Nat) (y1 : Int32) (y2 : Int32) (y3 : Int32) (w : Wd) (o : (Int32 × Wd)), (fun (v0 : Nat) (v1 : Int32) (v2 : Int32) (v3 : Int32) w => f240_H26 n  K15 k v0 v1 v2 v3 w) y0 y1 y2 y3 w = some o → Rn S 240 26 [some (.ref y0), some (.int y1), some (.int y2), some (.int y3), none, none] [] w (some (.int o.1), o.2) := fun y0 y1 y2 y3 w o h => ih y0 y1 y2 y3 w o h
    unfold f240_H26 at h
    refine rn_iload_n (ft240 15 rfl) rfl ?_
    refine rn_aload_n (ft240 16 rfl) rfl ?_
    obtain ⟨x5, q6, h⟩ := ob_some h
    refine rn_getR (ft240 17 rfl) q6 ?_
    obtain ⟨x7, q8, h⟩ := ob_some h
    refine rn_getI (ft240 18 rfl) (by decide) (by decide) q8 ?_
    by_cases c25 : x7 ≤ v3
    · replace h := ifp c25 h
      refine rn_icmp_ge_t (ft240 19 rfl) c25 ?_
      exact rn_forget (ls := [some (.ref v0), some (.int v1), some (.int v2), none, none, none]) (And.intro rfl (And.intro rfl (And.intro rfl trivial))) (hK15 v0 v1 v2 w _ h)
    · replace h := ifn c25 h
      refine rn_icmp_ge_f (ft240 19 rfl) c25 ?_
      refine rn_iload_n (ft240 20 rfl) rfl ?_
      refine rn_aload_n (ft240 21 rfl) rfl ?_
      obtain ⟨x9, q10, h⟩ := ob_some h
      refine rn_getR (ft240 22 rfl) q10 ?_
      obtain ⟨x11, q12, h⟩ := ob_some h
      refine rn_alen (ft240 23 rfl) q12 ?_
      by_cases c24 : x11 ≤ v3
      · replace h := ifp c24 h
        refine rn_icmp_ge_t (ft240 24 rfl) c24 ?_
        exact rn_forget (ls := [some (.ref v0), some (.int v1), some (.int v2), none, none, none]) (And.intro rfl (And.intro rfl (And.intro rfl trivial))) (hK15 v0 v1 v2 w _ h)
      · replace h := ifn c24 h
        refine rn_icmp_ge_f (ft240 24 rfl) c24 ?_
        refine rn_aload_n (ft240 25 rfl) rfl ?_
        obtain ⟨x13, q14, h⟩ := ob_some h
        refine rn_getR (ft240 26 rfl) q14 ?_
        refine rn_iload_n (ft240 27 rfl) rfl ?_
        refine rn_aload_n (ft240 28 rfl) rfl ?_
        refine rn_aload_n (ft240 29 rfl) rfl ?_
        obtain ⟨x15, q16, h⟩ := ob_some h
        refine rn_getR (ft240 30 rfl) q16 ?_
        refine rn_iload_n (ft240 31 rfl) rfl ?_
        obtain ⟨x17, q18, h⟩ := ob_some h
        refine rn_aaload (ft240 32 rfl) q18 ?_
        refine rn_iconst (v := (1 : Int32)) (ft240 33 rfl) (by decide) ?_
        refine rn_iload_n (ft240 34 rfl) rfl ?_
        refine rn_ishl (ft240 35 rfl) ?_
        refine rn_iload_n (ft240 36 rfl) rfl ?_
        obtain ⟨g23, h⟩ := ifg h
        obtain ⟨p19, q20, h⟩ := ob_some h
        refine rn_callV (as := [.ref x17, .int ((1 : Int32) <<< (v3 &&& 31)), .int v2]) (k0 := v0) (r := [.int v3, .ref x13]) (v := (some (.int p19.1))) (w1 := p19.2) (ft240 37 rfl) (by decide +kernel) rfl (Nat.le_of_ble_eq_true rfl) (Nat.le_of_ble_eq_true rfl) (r224 n v0 x17 ((1 : Int32) <<< (v3 &&& 31)) v2 w _ q20) (by decide +kernel) g23 ?_
        obtain ⟨w21, q22, h⟩ := ob_some h
        refine rn_iastore (ft240 38 rfl) q22 ?_
        refine rn_iinc (u := 1) (ls' := [some (.ref v0), some (.int v1), some (.int v2), some (.int (v3 + (1 : Int32))), none, none]) (ft240 39 rfl) rfl (by decide) rfl ?_
        refine rn_goto (ft240 40 rfl) ?_
        exact rn_forget (ls := [some (.ref v0), some (.int v1), some (.int v2), some (.int (v3 + (1 : Int32))), none, none]) (And.intro rfl (And.intro rfl (And.intro rfl (And.intro rfl trivial)))) (hrec15 v0 v1 v2 (v3 + (1 : Int32)) w21 _ h)
def f240_H104 (n : Nat) (rec43 : Nat → Int32 → Int32 → Int32 → Wd → Option (Int32 × Wd)) (K43 : Wd → Option (Int32 × Wd)) (K59 : Nat → Int32 → Int32 → Int32 → Int32 → Wd → Option (Int32 × Wd)) : Nat → Nat → Int32 → Int32 → Int32 → Int32 → Int32 → Wd → Option (Int32 × Wd)
  | 0, _, _, _, _, _, _, _ => none
  | k + 1, v0, v1, v2, v3, v4, v5, w =>
    ob (getR w 10 v0 13) (fun x33 => ob (alen w x33) (fun x35 => (if x35 ≤ v5 then K59 v0 v1 v2 v3 v4 w
      else ob (f16 v3 v5 w) (fun p37 => (if p37.1 = 0 then (fun (v0 : Nat) (v1 : Int32) (v2 : Int32) (v3 : Int32) (v4 : Int32) (v5 : Int32) w => f240_H104 n rec43 K43 K59 k v0 v1 v2 v3 v4 v5 w) v0 v1 v2 v3 v4 (v5 + (1 : Int32)) p37.2
        else ob (getR p37.2 10 v0 13) (fun x39 => ob (aldI p37.2 x39 v5) (fun x41 => (fun (v0 : Nat) (v1 : Int32) (v2 : Int32) (v3 : Int32) (v4 : Int32) (v5 : Int32) w => f240_H104 n rec43 K43 K59 k v0 v1 v2 v3 v4 v5 w) v0 v1 v2 v3 (v4 + x41) (v5 + (1 : Int32)) p37.2)))))))
set_option maxRecDepth 10000 in
theorem rf240_H104 {S : Sc} (n : Nat) (rec43 : Nat → Int32 → Int32 → Int32 → Wd → Option (Int32 × Wd)) (K43 : Wd → Option (Int32 × Wd)) (K59 : Nat → Int32 → Int32 → Int32 → Int32 → Wd → Option (Int32 × Wd)) (hrec43 : ∀ (y0 : Nat) (y1 : Int32) (y2 : Int32) (y3 : Int32) (w : Wd) (o : (Int32 × Wd)), rec43 y0 y1 y2 y3 w = some o → Rn S 240 74 [some (.ref y0), some (.int y1), some (.int y2), some (.int y3), none, none] [] w (some (.int o.1), o.2)) (hK43 : ∀  (w : Wd) (o : (Int32 × Wd)), K43 w = some o → Rn S 240 166 [none, none, none, none, none, none] [] w (some (.int o.1), o.2)) (hK59 : ∀ (y0 : Nat) (y1 : Int32) (y2 : Int32) (y3 : Int32) (y4 : Int32) (w : Wd) (o : (Int32 × Wd)), K59 y0 y1 y2 y3 y4 w = some o → Rn S 240 141 [some (.ref y0), some (.int y1), some (.int y2), some (.int y3), some (.int y4), none] [] w (some (.int o.1), o.2)) : ∀ (k : Nat) (v0 : Nat) (v1 : Int32) (v2 : Int32) (v3 : Int32) (v4 : Int32) (v5 : Int32) (w : Wd) (o : (Int32 × Wd)), f240_H104 n rec43 K43 K59 k v0 v1 v2 v3 v4 v5 w = some o → Rn S 240 104 [some (.ref v0), some (.int v1), some (.int v2), some (.int v3), some (.int v4), some (.int v5)] [] w (some (.int o.1), o.2) := by
  intro k
  induction k with
  | zero =>
    intro v0 v1 v2 v3 v4 v5 w o h
    exact nomatch h
  | succ k ih =>
    intro v0 v1 v2 v3 v4 v5 w o h
    have hrec59 : ∀ (y0 : Nat) (y1 : Int32) (y2 : Int32) (y3 : Int32) (y4 : Int32) (y5 : Int32) (w : Wd) (o : (Int32 × Wd)), (fun (v0 : Nat) (v1 : Int32) (v2 : Int32) (v3 : Int32) (v4 : Int32) (v5 : Int32) w => f240_H104 n rec43 K43 K59 k v0 v1 v2 v3 v4 v5 w) y0 y1 y2 y3 y4 y5 w = some o → Rn S 240 104 [some (.ref y0), some (.int y1), some (.int y2), some (.int y3), some (.int y4), some (.int y5)] [] w (some (.int o.1), o.2) := fun y0 y1 y2 y3 y4 y5 w o h => ih y0 y1 y2 y3 y4 y5 w o h
    unfold f240_H104 at h
    refine rn_iload (ft240 59 rfl) rfl ?_
    refine rn_aload_n (ft240 60 rfl) rfl ?_
    obtain ⟨x33, q34, h⟩ := ob_some h
    refine rn_getR (ft240 61 rfl) q34 ?_
    obtain ⟨x35, q36, h⟩ := ob_some h
    refine rn_alen (ft240 62 rfl) q36 ?_
    by_cases c44 : x35 ≤ v5
    · replace h := ifp c44 h
      refine rn_icmp_ge_t (ft240 63 rfl) c44 ?_
      exact rn_forget (ls := [some (.ref v0), some (.int v1), some (.int v2), some (.int v3), some (.int v4), none]) (And.intro rfl (And.intro rfl (And.intro rfl (And.intro rfl (And.intro rfl trivial))))) (hK59 v0 v1 v2 v3 v4 w _ h)
    · replace h := ifn c44 h
      refine rn_icmp_ge_f (ft240 63 rfl) c44 ?_
      refine rn_iload_n (ft240 64 rfl) rfl ?_
      refine rn_iload (ft240 65 rfl) rfl ?_
      obtain ⟨p37, q38, h⟩ := ob_some h
      refine rn_callS (as := [.int v3, .int v5]) (r := []) (v := (some (.int p37.1))) (w1 := p37.2) (ft240 66 rfl) (by decide +kernel) rfl (Nat.le_of_ble_eq_true rfl) (Nat.le_of_ble_eq_true rfl) (r16 v3 v5 w _ q38) ?_
      by_cases c43 : p37.1 = 0
      · replace h := ifp c43 h
        refine rn_if_eq_t (ft240 67 rfl) c43 ?_
        refine rn_iinc (u := 1) (ls' := [some (.ref v0), some (.int v1), some (.int v2), some (.int v3), some (.int v4), some (.int (v5 + (1 : Int32)))]) (ft240 75 rfl) rfl (by decide) rfl ?_
        refine rn_goto (ft240 76 rfl) ?_
        exact rn_forget (ls := [some (.ref v0), some (.int v1), some (.int v2), some (.int v3), some (.int v4), some (.int (v5 + (1 : Int32)))]) (And.intro rfl (And.intro rfl (And.intro rfl (And.intro rfl (And.intro rfl (And.intro rfl trivial)))))) (hrec59 v0 v1 v2 v3 v4 (v5 + (1 : Int32)) p37.2 _ h)
      · replace h := ifn c43 h
        refine rn_if_eq_f (ft240 67 rfl) c43 ?_
        refine rn_iload (ft240 68 rfl) rfl ?_
        refine rn_aload_n (ft240 69 rfl) rfl ?_
        obtain ⟨x39, q40, h⟩ := ob_some h
        refine rn_getR (ft240 70 rfl) q40 ?_
        refine rn_iload (ft240 71 rfl) rfl ?_
        obtain ⟨x41, q42, h⟩ := ob_some h
        refine rn_iaload (ft240 72 rfl) q42 ?_
        refine rn_iadd (ft240 73 rfl) ?_
        refine rn_istore (ls' := [some (.ref v0), some (.int v1), some (.int v2), some (.int v3), some (.int (v4 + x41)), some (.int v5)]) (ft240 74 rfl) rfl ?_
        refine rn_iinc (u := 1) (ls' := [some (.ref v0), some (.int v1), some (.int v2), some (.int v3), some (.int (v4 + x41)), some (.int (v5 + (1 : Int32)))]) (ft240 75 rfl) rfl (by decide) rfl ?_
        refine rn_goto (ft240 76 rfl) ?_
        exact rn_forget (ls := [some (.ref v0), some (.int v1), some (.int v2), some (.int v3), some (.int (v4 + x41)), some (.int (v5 + (1 : Int32)))]) (And.intro rfl (And.intro rfl (And.intro rfl (And.intro rfl (And.intro rfl (And.intro rfl trivial)))))) (hrec59 v0 v1 v2 v3 (v4 + x41) (v5 + (1 : Int32)) p37.2 _ h)
def f240_H74 (n : Nat)  (K43 : Wd → Option (Int32 × Wd)) : Nat → Nat → Int32 → Int32 → Int32 → Wd → Option (Int32 × Wd)
  | 0, _, _, _, _, _ => none
  | k + 1, v0, v1, v2, v3, w =>
    ob (getR w 10 v0 1) (fun x27 => ob (getI w 6 x27 5) (fun x29 => (if ((1 : Int32) <<< (x29 &&& 31)) ≤ v3 then K43 w
      else ob (f36 v3 w) (fun p31 => (if (2 : Int32) ≤ p31.1 then f240_H104 n (fun (v0 : Nat) (v1 : Int32) (v2 : Int32) (v3 : Int32) w => f240_H74 n  K43 k v0 v1 v2 v3 w) K43 (fun (e0_45 : Nat) (e1_45 : Int32) (e2_45 : Int32) (e3_45 : Int32) (e4_45 : Int32) (w45 : Wd) => ob (getR w45 10 e0_45 4) (fun x46 => ob (aldR w45 x46 e1_45) (fun x48 => (if (wsh w45 e0_45).map (fun q => q.1) = some 10 then ob (f224 n e0_45 x48 e3_45 e2_45 w45) (fun p50 => (if p50.1 ≤ e4_45 then (fun (v0 : Nat) (v1 : Int32) (v2 : Int32) (v3 : Int32) w => f240_H74 n  K43 k v0 v1 v2 v3 w) e0_45 e1_45 e2_45 (e3_45 + (1 : Int32)) p50.2
            else some (e3_45, p50.2))) else none)))) n v0 v1 v2 v3 (0 : Int32) (0 : Int32) p31.2
        else (fun (v0 : Nat) (v1 : Int32) (v2 : Int32) (v3 : Int32) w => f240_H74 n  K43 k v0 v1 v2 v3 w) v0 v1 v2 (v3 + (1 : Int32)) p31.2)))))
set_option maxRecDepth 10000 in
theorem rf240_H74 {S : Sc} (n : Nat)  (K43 : Wd → Option (Int32 × Wd))  (hK43 : ∀  (w : Wd) (o : (Int32 × Wd)), K43 w = some o → Rn S 240 166 [none, none, none, none, none, none] [] w (some (.int o.1), o.2)) : ∀ (k : Nat) (v0 : Nat) (v1 : Int32) (v2 : Int32) (v3 : Int32) (w : Wd) (o : (Int32 × Wd)), f240_H74 n  K43 k v0 v1 v2 v3 w = some o → Rn S 240 74 [some (.ref v0), some (.int v1), some (.int v2), some (.int v3), none, none] [] w (some (.int o.1), o.2) := by
  intro k
  induction k with
  | zero =>
    intro v0 v1 v2 v3 w o h
    exact nomatch h
  | succ k ih =>
    intro v0 v1 v2 v3 w o h
    have hrec43 : ∀ (y0 : Nat) (y1 : Int32) (y2 : Int32) (y3 : Int32) (w : Wd) (o : (Int32 × Wd)), (fun (v0 : Nat) (v1 : Int32) (v2 : Int32) (v3 : Int32) w => f240_H74 n  K43 k v0 v1 v2 v3 w) y0 y1 y2 y3 w = some o → Rn S 240 74 [some (.ref y0), some (.int y1), some (.int y2), some (.int y3), none, none] [] w (some (.int o.1), o.2) := fun y0 y1 y2 y3 w o h => ih y0 y1 y2 y3 w o h
    unfold f240_H74 at h
    refine rn_iload_n (ft240 43 rfl) rfl ?_
    refine rn_iconst (v := (1 : Int32)) (ft240 44 rfl) (by decide) ?_
    refine rn_aload_n (ft240 45 rfl) rfl ?_
    obtain ⟨x27, q28, h⟩ := ob_some h
    refine rn_getR (ft240 46 rfl) q28 ?_
    obtain ⟨x29, q30, h⟩ := ob_some h
    refine rn_getI (ft240 47 rfl) (by decide) (by decide) q30 ?_
    refine rn_ishl (ft240 48 rfl) ?_
    by_cases c55 : ((1 : Int32) <<< (x29 &&& 31)) ≤ v3
    · replace h := ifp c55 h
      refine rn_icmp_ge_t (ft240 49 rfl) c55 ?_
      exact rn_forget (ls := [none, none, none, none, none, none]) trivial (hK43 w _ h)
    · replace h := ifn c55 h
      refine rn_icmp_ge_f (ft240 49 rfl) c55 ?_
      refine rn_iload_n (ft240 50 rfl) rfl ?_
      obtain ⟨p31, q32, h⟩ := ob_some h
      refine rn_callS (as := [.int v3]) (r := []) (v := (some (.int p31.1))) (w1 := p31.2) (ft240 51 rfl) (by decide +kernel) rfl (Nat.le_of_ble_eq_true rfl) (Nat.le_of_ble_eq_true rfl) (r36 v3 w _ q32) ?_
      refine rn_iconst (v := (2 : Int32)) (ft240 52 rfl) (by decide) ?_
      by_cases c54 : (2 : Int32) ≤ p31.1
      · replace h := ifp c54 h
        refine rn_icmp_ge_t (ft240 53 rfl) c54 ?_
        refine rn_iconst (v := (0 : Int32)) (ft240 55 rfl) (by decide) ?_
        refine rn_istore (ls' := [some (.ref v0), some (.int v1), some (.int v2), some (.int v3), some (.int (0 : Int32)), none]) (ft240 56 rfl) rfl ?_
        refine rn_iconst (v := (0 : Int32)) (ft240 57 rfl) (by decide) ?_
        refine rn_istore (ls' := [some (.ref v0), some (.int v1), some (.int v2), some (.int v3), some (.int (0 : Int32)), some (.int (0 : Int32))]) (ft240 58 rfl) rfl ?_
        refine rn_forget (ls := [some (.ref v0), some (.int v1), some (.int v2), some (.int v3), some (.int (0 : Int32)), some (.int (0 : Int32))]) (And.intro rfl (And.intro rfl (And.intro rfl (And.intro rfl (And.intro rfl (And.intro rfl trivial)))))) (rf240_H104 n (fun (v0 : Nat) (v1 : Int32) (v2 : Int32) (v3 : Int32) w => f240_H74 n  K43 k v0 v1 v2 v3 w) K43 _ hrec43 hK43 (fun e0_45 e1_45 e2_45 e3_45 e4_45 w45 o h => ?_) n v0 v1 v2 v3 (0 : Int32) (0 : Int32) p31.2 _ h)
        refine rn_aload_n (ft240 77 rfl) rfl ?_
        refine rn_aload_n (ft240 78 rfl) rfl ?_
        obtain ⟨x46, q47, h⟩ := ob_some h
        refine rn_getR (ft240 79 rfl) q47 ?_
        refine rn_iload_n (ft240 80 rfl) rfl ?_
        obtain ⟨x48, q49, h⟩ := ob_some h
        refine rn_aaload (ft240 81 rfl) q49 ?_
        refine rn_iload_n (ft240 82 rfl) rfl ?_
        refine rn_iload_n (ft240 83 rfl) rfl ?_
        obtain ⟨g53, h⟩ := ifg h
        obtain ⟨p50, q51, h⟩ := ob_some h
        refine rn_callV (as := [.ref x48, .int e3_45, .int e2_45]) (k0 := e0_45) (r := []) (v := (some (.int p50.1))) (w1 := p50.2) (ft240 84 rfl) (by decide +kernel) rfl (Nat.le_of_ble_eq_true rfl) (Nat.le_of_ble_eq_true rfl) (r224 n e0_45 x48 e3_45 e2_45 w45 _ q51) (by decide +kernel) g53 ?_
        refine rn_iload (ft240 85 rfl) rfl ?_
        by_cases c52 : p50.1 ≤ e4_45
        · replace h := ifp c52 h
          refine rn_icmp_le_t (ft240 86 rfl) c52 ?_
          refine rn_iinc (u := 1) (ls' := [some (.ref e0_45), some (.int e1_45), some (.int e2_45), some (.int (e3_45 + (1 : Int32))), some (.int e4_45), none]) (ft240 89 rfl) rfl (by decide) rfl ?_
          refine rn_goto (ft240 90 rfl) ?_
          exact rn_forget (ls := [some (.ref e0_45), some (.int e1_45), some (.int e2_45), some (.int (e3_45 + (1 : Int32))), none, none]) (And.intro rfl (And.intro rfl (And.intro rfl (And.intro rfl trivial)))) (hrec43 e0_45 e1_45 e2_45 (e3_45 + (1 : Int32)) p50.2 _ h)
        · replace h := ifn c52 h
          refine rn_icmp_le_f (ft240 86 rfl) c52 ?_
          refine rn_iload_n (ft240 87 rfl) rfl ?_
          cases h
          exact rn_iretI pr240 (ft240 88 rfl)
      · replace h := ifn c54 h
        refine rn_icmp_ge_f (ft240 53 rfl) c54 ?_
        refine rn_goto (ft240 54 rfl) ?_
        refine rn_iinc (u := 1) (ls' := [some (.ref v0), some (.int v1), some (.int v2), some (.int (v3 + (1 : Int32))), none, none]) (ft240 89 rfl) rfl (by decide) rfl ?_
        refine rn_goto (ft240 90 rfl) ?_
        exact rn_forget (ls := [some (.ref v0), some (.int v1), some (.int v2), some (.int (v3 + (1 : Int32))), none, none]) (And.intro rfl (And.intro rfl (And.intro rfl (And.intro rfl trivial)))) (hrec43 v0 v1 v2 (v3 + (1 : Int32)) p31.2 _ h)
def f240_J72 (n : Nat)  (v0 : Nat) (v1 : Int32) (v2 : Int32) (w : Wd) : Option (Int32 × Wd) :=
  f240_H74 n  (fun  (w56 : Wd) => some ((-1 : Int32), w56)) n v0 v1 v2 (1 : Int32) w
set_option maxRecDepth 10000 in
theorem rf240_J72 {S : Sc} (n : Nat)  (v0 : Nat) (v1 : Int32) (v2 : Int32) (w : Wd) (o : (Int32 × Wd))  (h : f240_J72 n  v0 v1 v2 w = some o) : Rn S 240 72 [some (.ref v0), some (.int v1), some (.int v2), none, none, none] [] w (some (.int o.1), o.2) := by
  unfold f240_J72 at h
  refine rn_iconst (v := (1 : Int32)) (ft240 41 rfl) (by decide) ?_
  refine rn_istore_n (ls' := [some (.ref v0), some (.int v1), some (.int v2), some (.int (1 : Int32)), none, none]) (ft240 42 rfl) rfl ?_
  refine rn_forget (ls := [some (.ref v0), some (.int v1), some (.int v2), some (.int (1 : Int32)), none, none]) (And.intro rfl (And.intro rfl (And.intro rfl (And.intro rfl trivial)))) (rf240_H74 n  _  (fun  w56 o h => ?_) n v0 v1 v2 (1 : Int32) w _ h)
  refine rn_iconst (v := (-1 : Int32)) (ft240 91 rfl) (by decide) ?_
  cases h
  exact rn_iretI pr240 (ft240 92 rfl)
def f240 (n : Nat) (v0 : Nat) (v1 : Int32) (v2 : Int32) (w : Wd) : Option (Int32 × Wd) :=
  (if (wsh w v0).map (fun q => q.1) = some 10 then ob (f98 v0 v1 w) (fun p1 => (if p1.1 = 0 then ob (f0 v2 (1 : Int32) (12 : Int32) p1.2) (fun p3 => (if p3.1 = 0 then f240_H26 n  (fun (e0_26 : Nat) (e1_26 : Int32) (e2_26 : Int32) (w26 : Wd) => f240_J72 n  e0_26 e1_26 e2_26 w26) n v0 v1 v2 (0 : Int32) p3.2
      else some ((-1000002 : Int32), p3.2)))
    else some ((-1000001 : Int32), p1.2))) else none)
set_option maxRecDepth 10000 in
theorem r240 {S : Sc} (n : Nat) (v0 : Nat) (v1 : Int32) (v2 : Int32) (w : Wd) (o : (Int32 × Wd)) (h : f240 n v0 v1 v2 w = some o) : Rn S 240 0 [some (.ref v0), some (.int v1), some (.int v2), none, none, none] [] w (some (.int o.1), o.2) := by
  unfold f240 at h
  refine rn_aload_n (ft240 0 rfl) rfl ?_
  refine rn_iload_n (ft240 1 rfl) rfl ?_
  obtain ⟨g59, h⟩ := ifg h
  obtain ⟨p1, q2, h⟩ := ob_some h
  refine rn_callV (as := [.int v1]) (k0 := v0) (r := []) (v := (some (.int p1.1))) (w1 := p1.2) (ft240 2 rfl) (by decide +kernel) rfl (Nat.le_of_ble_eq_true rfl) (Nat.le_of_ble_eq_true rfl) (r98 v0 v1 w _ q2) (by decide +kernel) g59 ?_
  by_cases c58 : p1.1 = 0
  · replace h := ifp c58 h
    refine rn_if_eq_t (ft240 3 rfl) c58 ?_
    refine rn_iload_n (ft240 6 rfl) rfl ?_
    refine rn_iconst (v := (1 : Int32)) (ft240 7 rfl) (by decide) ?_
    refine rn_bipush (v := (12 : Int32)) (ft240 8 rfl) (by decide) ?_
    obtain ⟨p3, q4, h⟩ := ob_some h
    refine rn_callS (as := [.int v2, .int (1 : Int32), .int (12 : Int32)]) (r := []) (v := (some (.int p3.1))) (w1 := p3.2) (ft240 9 rfl) (by decide +kernel) rfl (Nat.le_of_ble_eq_true rfl) (Nat.le_of_ble_eq_true rfl) (r0 v2 (1 : Int32) (12 : Int32) p1.2 _ q4) ?_
    by_cases c57 : p3.1 = 0
    · replace h := ifp c57 h
      refine rn_if_eq_t (ft240 10 rfl) c57 ?_
      refine rn_iconst (v := (0 : Int32)) (ft240 13 rfl) (by decide) ?_
      refine rn_istore_n (ls' := [some (.ref v0), some (.int v1), some (.int v2), some (.int (0 : Int32)), none, none]) (ft240 14 rfl) rfl ?_
      refine rn_forget (ls := [some (.ref v0), some (.int v1), some (.int v2), some (.int (0 : Int32)), none, none]) (And.intro rfl (And.intro rfl (And.intro rfl (And.intro rfl trivial)))) (rf240_H26 n  _  (fun e0_26 e1_26 e2_26 w26 o h => ?_) n v0 v1 v2 (0 : Int32) p3.2 _ h)
      exact rn_forget (ls := [some (.ref e0_26), some (.int e1_26), some (.int e2_26), none, none, none]) (And.intro rfl (And.intro rfl (And.intro rfl trivial))) (rf240_J72 n  e0_26 e1_26 e2_26 w26 _  h)
    · replace h := ifn c57 h
      refine rn_if_eq_f (ft240 10 rfl) c57 ?_
      refine rn_ldc (v := (-1000002 : Int32)) (ft240 11 rfl) (by decide) rfl ?_
      cases h
      exact rn_iretI pr240 (ft240 12 rfl)
  · replace h := ifn c58 h
    refine rn_if_eq_f (ft240 3 rfl) c58 ?_
    refine rn_ldc (v := (-1000001 : Int32)) (ft240 4 rfl) (by decide) rfl ?_
    cases h
    exact rn_iretI pr240 (ft240 5 rfl)
/-- NineWheel.bestRule(III)I -/
theorem ft241 : ∀ (i : Nat) {q : Nat × XI}, cd241[i]? = some q → fetch 241 q.1 = some q.2 := ft_of (by decide +kernel)
theorem pr241 : pRt 241 = some .int := rfl
def f241_H44 (n : Nat)  (K24 : Int32 → Int32 → Int32 → Wd → Option (Int32 × Wd)) : Nat → Nat → Int32 → Int32 → Int32 → Int32 → Int32 → Int32 → Wd → Option (Int32 × Wd)
  | 0, _, _, _, _, _, _, _, _ => none
  | k + 1, v0, v1, v2, v3, v4, v5, v6, w =>
    (if (200 : Int32) ≤ v6 then K24 v3 v4 v5 w
      else ob (getR w 10 v0 5) (fun x7 => (if (wsh w x7).map (fun q => q.1) = some 5 then ob (f15 x7 (v6 / (50 : Int32)) (irm (v6 / (5 : Int32)) (10 : Int32)) (irm v6 (5 : Int32)) w) (fun p9 => ob (getR p9 10 v0 5) (fun x11 => (if (wsh p9 v0).map (fun q => q.1) = some 10 then ob (f221 n v0 x11 v2 (-1 : Int32) p9) (fun p13 => ob (getR p13 10 v0 11) (fun x15 => (if (wsh p13 x15).map (fun q => q.1) = some 4 then ob (f188 n x15 v1 v2 p13) (fun p17 => (if p17.1 ≤ v4 then (fun (v0 : Nat) (v1 : Int32) (v2 : Int32) (v3 : Int32) (v4 : Int32) (v5 : Int32) (v6 : Int32) w => f241_H44 n  K24 k v0 v1 v2 v3 v4 v5 v6 w) v0 v1 v2 v3 v4 v5 (v6 + (1 : Int32)) p17.2
        else (fun (v0 : Nat) (v1 : Int32) (v2 : Int32) (v3 : Int32) (v4 : Int32) (v5 : Int32) (v6 : Int32) w => f241_H44 n  K24 k v0 v1 v2 v3 v4 v5 v6 w) v0 v1 v2 v3 p17.1 v6 (v6 + (1 : Int32)) p17.2)) else none))) else none))) else none)))
set_option maxRecDepth 10000 in
theorem rf241_H44 {S : Sc} (n : Nat)  (K24 : Int32 → Int32 → Int32 → Wd → Option (Int32 × Wd))  (hK24 : ∀ (y3 : Int32) (y4 : Int32) (y5 : Int32) (w : Wd) (o : (Int32 × Wd)), K24 y3 y4 y5 w = some o → Rn S 241 117 [none, none, none, some (.int y3), some (.int y4), some (.int y5), none, none] [] w (some (.int o.1), o.2)) : ∀ (k : Nat) (v0 : Nat) (v1 : Int32) (v2 : Int32) (v3 : Int32) (v4 : Int32) (v5 : Int32) (v6 : Int32) (w : Wd) (o : (Int32 × Wd)), f241_H44 n  K24 k v0 v1 v2 v3 v4 v5 v6 w = some o → Rn S 241 44 [some (.ref v0), some (.int v1), some (.int v2), some (.int v3), some (.int v4), some (.int v5), some (.int v6), none] [] w (some (.int o.1), o.2) := by
  intro k
  induction k with
  | zero =>
    intro v0 v1 v2 v3 v4 v5 v6 w o h
    exact nomatch h
  | succ k ih =>
    intro v0 v1 v2 v3 v4 v5 v6 w o h
    have hrec24 : ∀ (y0 : Nat) (y1 : Int32) (y2 : Int32) (y3 : Int32) (y4 : Int32) (y5 : Int32) (y6 : Int32) (w : Wd) (o : (Int32 × Wd)), (fun (v0 : Nat) (v1 : Int32) (v2 : Int32) (v3 : Int32) (v4 : Int32) (v5 : Int32) (v6 : Int32) w => f241_H44 n  K24 k v0 v1 v2 v3 v4 v5 v6 w) y0 y1 y2 y3 y4 y5 y6 w = some o → Rn S 241 44 [some (.ref y0), some (.int y1), some (.int y2), some (.int y3), some (.int y4), some (.int y5), some (.int y6), none] [] w (some (.int o.1), o.2) := fun y0 y1 y2 y3 y4 y5 y6 w o h => ih y0 y1 y2 y3 y4 y5 y6 w o h
    unfold f241_H44 at h
    refine rn_iload (ft241 24 rfl) rfl ?_
    refine rn_sipush (v := (200 : Int32)) (ft241 25 rfl) (by decide) ?_
    by_cases c23 : (200 : Int32) ≤ v6
    · replace h := ifp c23 h
      refine rn_icmp_ge_t (ft241 26 rfl) c23 ?_
      exact rn_forget (ls := [none, none, none, some (.int v3), some (.int v4), some (.int v5), none, none]) (And.intro rfl (And.intro rfl (And.intro rfl trivial))) (hK24 v3 v4 v5 w _ h)
    · replace h := ifn c23 h
      refine rn_icmp_ge_f (ft241 26 rfl) c23 ?_
      refine rn_aload_n (ft241 27 rfl) rfl ?_
      obtain ⟨x7, q8, h⟩ := ob_some h
      refine rn_getR (ft241 28 rfl) q8 ?_
      refine rn_iload (ft241 29 rfl) rfl ?_
      refine rn_bipush (v := (50 : Int32)) (ft241 30 rfl) (by decide) ?_
      refine rn_idiv (ft241 31 rfl) (by decide) ?_
      refine rn_iload (ft241 32 rfl) rfl ?_
      refine rn_iconst (v := (5 : Int32)) (ft241 33 rfl) (by decide) ?_
      refine rn_idiv (ft241 34 rfl) (by decide) ?_
      refine rn_bipush (v := (10 : Int32)) (ft241 35 rfl) (by decide) ?_
      refine rn_irem (ft241 36 rfl) (by decide) ?_
      refine rn_iload (ft241 37 rfl) rfl ?_
      refine rn_iconst (v := (5 : Int32)) (ft241 38 rfl) (by decide) ?_
      refine rn_irem (ft241 39 rfl) (by decide) ?_
      obtain ⟨g22, h⟩ := ifg h
      obtain ⟨p9, q10, h⟩ := ob_some h
      refine rn_callV (as := [.int (v6 / (50 : Int32)), .int (irm (v6 / (5 : Int32)) (10 : Int32)), .int (irm v6 (5 : Int32))]) (k0 := x7) (r := []) (v := none) (w1 := p9) (ft241 40 rfl) (by decide +kernel) rfl (Nat.le_of_ble_eq_true rfl) (Nat.le_of_ble_eq_true rfl) (r15 x7 (v6 / (50 : Int32)) (irm (v6 / (5 : Int32)) (10 : Int32)) (irm v6 (5 : Int32)) w _ q10) (by decide +kernel) g22 ?_
      refine rn_aload_n (ft241 41 rfl) rfl ?_
      refine rn_aload_n (ft241 42 rfl) rfl ?_
      obtain ⟨x11, q12, h⟩ := ob_some h
      refine rn_getR (ft241 43 rfl) q12 ?_
      refine rn_iload_n (ft241 44 rfl) rfl ?_
      refine rn_iconst (v := (-1 : Int32)) (ft241 45 rfl) (by decide) ?_
      obtain ⟨g21, h⟩ := ifg h
      obtain ⟨p13, q14, h⟩ := ob_some h
      refine rn_callV (as := [.ref x11, .int v2, .int (-1 : Int32)]) (k0 := v0) (r := []) (v := none) (w1 := p13) (ft241 46 rfl) (by decide +kernel) rfl (Nat.le_of_ble_eq_true rfl) (Nat.le_of_ble_eq_true rfl) (r221 n v0 x11 v2 (-1 : Int32) p9 _ q14) (by decide +kernel) g21 ?_
      refine rn_aload_n (ft241 47 rfl) rfl ?_
      obtain ⟨x15, q16, h⟩ := ob_some h
      refine rn_getR (ft241 48 rfl) q16 ?_
      refine rn_iload_n (ft241 49 rfl) rfl ?_
      refine rn_iload_n (ft241 50 rfl) rfl ?_
      obtain ⟨g20, h⟩ := ifg h
      obtain ⟨p17, q18, h⟩ := ob_some h
      refine rn_callV (as := [.int v1, .int v2]) (k0 := x15) (r := []) (v := (some (.int p17.1))) (w1 := p17.2) (ft241 51 rfl) (by decide +kernel) rfl (Nat.le_of_ble_eq_true rfl) (Nat.le_of_ble_eq_true rfl) (r188 n x15 v1 v2 p13 _ q18) (by decide +kernel) g20 ?_
      refine rn_istore (ls' := [some (.ref v0), some (.int v1), some (.int v2), some (.int v3), some (.int v4), some (.int v5), some (.int v6), some (.int p17.1)]) (ft241 52 rfl) rfl ?_
      refine rn_iload (ft241 53 rfl) rfl ?_
      refine rn_iload (ft241 54 rfl) rfl ?_
      by_cases c19 : p17.1 ≤ v4
      · replace h := ifp c19 h
        refine rn_icmp_le_t (ft241 55 rfl) c19 ?_
        refine rn_iinc (u := 1) (ls' := [some (.ref v0), some (.int v1), some (.int v2), some (.int v3), some (.int v4), some (.int v5), some (.int (v6 + (1 : Int32))), some (.int p17.1)]) (ft241 60 rfl) rfl (by decide) rfl ?_
        refine rn_goto (ft241 61 rfl) ?_
        exact rn_forget (ls := [some (.ref v0), some (.int v1), some (.int v2), some (.int v3), some (.int v4), some (.int v5), some (.int (v6 + (1 : Int32))), none]) (And.intro rfl (And.intro rfl (And.intro rfl (And.intro rfl (And.intro rfl (And.intro rfl (And.intro rfl trivial))))))) (hrec24 v0 v1 v2 v3 v4 v5 (v6 + (1 : Int32)) p17.2 _ h)
      · replace h := ifn c19 h
        refine rn_icmp_le_f (ft241 55 rfl) c19 ?_
        refine rn_iload (ft241 56 rfl) rfl ?_
        refine rn_istore (ls' := [some (.ref v0), some (.int v1), some (.int v2), some (.int v3), some (.int p17.1), some (.int v5), some (.int v6), some (.int p17.1)]) (ft241 57 rfl) rfl ?_
        refine rn_iload (ft241 58 rfl) rfl ?_
        refine rn_istore (ls' := [some (.ref v0), some (.int v1), some (.int v2), some (.int v3), some (.int p17.1), some (.int v6), some (.int v6), some (.int p17.1)]) (ft241 59 rfl) rfl ?_
        refine rn_iinc (u := 1) (ls' := [some (.ref v0), some (.int v1), some (.int v2), some (.int v3), some (.int p17.1), some (.int v6), some (.int (v6 + (1 : Int32))), some (.int p17.1)]) (ft241 60 rfl) rfl (by decide) rfl ?_
        refine rn_goto (ft241 61 rfl) ?_
        exact rn_forget (ls := [some (.ref v0), some (.int v1), some (.int v2), some (.int v3), some (.int p17.1), some (.int v6), some (.int (v6 + (1 : Int32))), none]) (And.intro rfl (And.intro rfl (And.intro rfl (And.intro rfl (And.intro rfl (And.intro rfl (And.intro rfl trivial))))))) (hrec24 v0 v1 v2 v3 p17.1 v6 (v6 + (1 : Int32)) p17.2 _ h)
def f241 (n : Nat) (v0 : Nat) (v1 : Int32) (v2 : Int32) (v3 : Int32) (w : Wd) : Option (Int32 × Wd) :=
  (if (wsh w v0).map (fun q => q.1) = some 10 then ob (f83 v0 v1 w) (fun p1 => (if p1.1 = 0 then ob (f0 v2 (1 : Int32) (24 : Int32) p1.2) (fun p3 => (if ¬ p3.1 = 0 then some ((-1000002 : Int32), p3.2)
      else ob (f0 v3 (0 : Int32) (1 : Int32) p3.2) (fun p5 => (if p5.1 = 0 then f241_H44 n  (fun (e3_24 : Int32) (e4_24 : Int32) (e5_24 : Int32) (w24 : Wd) => (if ¬ e3_24 = 0 then some (e4_24, w24)
            else some (e5_24, w24))) n v0 v1 v2 v3 (-1000000000 : Int32) (0 : Int32) (0 : Int32) p5.2
        else some ((-1000002 : Int32), p5.2)))))
    else some ((-1000001 : Int32), p1.2))) else none)
set_option maxRecDepth 10000 in
theorem r241 {S : Sc} (n : Nat) (v0 : Nat) (v1 : Int32) (v2 : Int32) (v3 : Int32) (w : Wd) (o : (Int32 × Wd)) (h : f241 n v0 v1 v2 v3 w = some o) : Rn S 241 0 [some (.ref v0), some (.int v1), some (.int v2), some (.int v3), none, none, none, none] [] w (some (.int o.1), o.2) := by
  unfold f241 at h
  refine rn_aload_n (ft241 0 rfl) rfl ?_
  refine rn_iload_n (ft241 1 rfl) rfl ?_
  obtain ⟨g29, h⟩ := ifg h
  obtain ⟨p1, q2, h⟩ := ob_some h
  refine rn_callV (as := [.int v1]) (k0 := v0) (r := []) (v := (some (.int p1.1))) (w1 := p1.2) (ft241 2 rfl) (by decide +kernel) rfl (Nat.le_of_ble_eq_true rfl) (Nat.le_of_ble_eq_true rfl) (r83 v0 v1 w _ q2) (by decide +kernel) g29 ?_
  by_cases c28 : p1.1 = 0
  · replace h := ifp c28 h
    refine rn_if_eq_t (ft241 3 rfl) c28 ?_
    refine rn_iload_n (ft241 6 rfl) rfl ?_
    refine rn_iconst (v := (1 : Int32)) (ft241 7 rfl) (by decide) ?_
    refine rn_bipush (v := (24 : Int32)) (ft241 8 rfl) (by decide) ?_
    obtain ⟨p3, q4, h⟩ := ob_some h
    refine rn_callS (as := [.int v2, .int (1 : Int32), .int (24 : Int32)]) (r := []) (v := (some (.int p3.1))) (w1 := p3.2) (ft241 9 rfl) (by decide +kernel) rfl (Nat.le_of_ble_eq_true rfl) (Nat.le_of_ble_eq_true rfl) (r0 v2 (1 : Int32) (24 : Int32) p1.2 _ q4) ?_
    by_cases c27 : ¬ p3.1 = 0
    · replace h := ifp c27 h
      refine rn_if_ne_t (ft241 10 rfl) c27 ?_
      refine rn_ldc (v := (-1000002 : Int32)) (ft241 16 rfl) (by decide) rfl ?_
      cases h
      exact rn_iretI pr241 (ft241 17 rfl)
    · replace h := ifn c27 h
      refine rn_if_ne_f (ft241 10 rfl) c27 ?_
      refine rn_iload_n (ft241 11 rfl) rfl ?_
      refine rn_iconst (v := (0 : Int32)) (ft241 12 rfl) (by decide) ?_
      refine rn_iconst (v := (1 : Int32)) (ft241 13 rfl) (by decide) ?_
      obtain ⟨p5, q6, h⟩ := ob_some h
      refine rn_callS (as := [.int v3, .int (0 : Int32), .int (1 : Int32)]) (r := []) (v := (some (.int p5.1))) (w1 := p5.2) (ft241 14 rfl) (by decide +kernel) rfl (Nat.le_of_ble_eq_true rfl) (Nat.le_of_ble_eq_true rfl) (r0 v3 (0 : Int32) (1 : Int32) p3.2 _ q6) ?_
      by_cases c26 : p5.1 = 0
      · replace h := ifp c26 h
        refine rn_if_eq_t (ft241 15 rfl) c26 ?_
        refine rn_ldcw (v := (-1000000000 : Int32)) (ft241 18 rfl) (by decide) ?_
        refine rn_istore (ls' := [some (.ref v0), some (.int v1), some (.int v2), some (.int v3), some (.int (-1000000000 : Int32)), none, none, none]) (ft241 19 rfl) rfl ?_
        refine rn_iconst (v := (0 : Int32)) (ft241 20 rfl) (by decide) ?_
        refine rn_istore (ls' := [some (.ref v0), some (.int v1), some (.int v2), some (.int v3), some (.int (-1000000000 : Int32)), some (.int (0 : Int32)), none, none]) (ft241 21 rfl) rfl ?_
        refine rn_iconst (v := (0 : Int32)) (ft241 22 rfl) (by decide) ?_
        refine rn_istore (ls' := [some (.ref v0), some (.int v1), some (.int v2), some (.int v3), some (.int (-1000000000 : Int32)), some (.int (0 : Int32)), some (.int (0 : Int32)), none]) (ft241 23 rfl) rfl ?_
        refine rn_forget (ls := [some (.ref v0), some (.int v1), some (.int v2), some (.int v3), some (.int (-1000000000 : Int32)), some (.int (0 : Int32)), some (.int (0 : Int32)), none]) (And.intro rfl (And.intro rfl (And.intro rfl (And.intro rfl (And.intro rfl (And.intro rfl (And.intro rfl trivial))))))) (rf241_H44 n  _  (fun e3_24 e4_24 e5_24 w24 o h => ?_) n v0 v1 v2 v3 (-1000000000 : Int32) (0 : Int32) (0 : Int32) p5.2 _ h)
        refine rn_iload_n (ft241 62 rfl) rfl ?_
        by_cases c25 : ¬ e3_24 = 0
        · replace h := ifp c25 h
          refine rn_if_ne_t (ft241 63 rfl) c25 ?_
          refine rn_iload (ft241 66 rfl) rfl ?_
          cases h
          exact rn_iretI pr241 (ft241 67 rfl)
        · replace h := ifn c25 h
          refine rn_if_ne_f (ft241 63 rfl) c25 ?_
          refine rn_iload (ft241 64 rfl) rfl ?_
          refine rn_goto (ft241 65 rfl) ?_
          cases h
          exact rn_iretI pr241 (ft241 67 rfl)
      · replace h := ifn c26 h
        refine rn_if_eq_f (ft241 15 rfl) c26 ?_
        refine rn_ldc (v := (-1000002 : Int32)) (ft241 16 rfl) (by decide) rfl ?_
        cases h
        exact rn_iretI pr241 (ft241 17 rfl)
  · replace h := ifn c28 h
    refine rn_if_eq_f (ft241 3 rfl) c28 ?_
    refine rn_ldc (v := (-1000001 : Int32)) (ft241 4 rfl) (by decide) rfl ?_
    cases h
    exact rn_iretI pr241 (ft241 5 rfl)
/-- NineWheel.voyage(III)I -/
theorem ft242 : ∀ (i : Nat) {q : Nat × XI}, cd242[i]? = some q → fetch 242 q.1 = some q.2 := ft_of (by decide +kernel)
theorem pr242 : pRt 242 = some .int := rfl
def f242 (n : Nat) (v0 : Nat) (v1 : Int32) (v2 : Int32) (v3 : Int32) (w : Wd) : Option (Int32 × Wd) :=
  (if (wsh w v0).map (fun q => q.1) = some 10 then ob (f98 v0 v1 w) (fun p1 => (if p1.1 = 0 then ob (f0 v2 (0 : Int32) (100 : Int32) p1.2) (fun p3 => (if ¬ p3.1 = 0 then some ((-1000002 : Int32), p3.2)
      else ob (f0 v3 (1 : Int32) (99 : Int32) p3.2) (fun p5 => (if p5.1 = 0 then ob (getR p5.2 10 v0 4) (fun x7 => ob (aldR p5.2 x7 v1) (fun x9 => (if (wsh p5.2 v0).map (fun q => q.1) = some 10 then ob (f221 n v0 x9 v3 v2 p5.2) (fun p11 => ob (getR p11 10 v0 11) (fun x13 => ob (getR p11 10 v0 11) (fun x15 => ob (getI p11 4 x15 7) (fun x17 => (if (wsh p11 x13).map (fun q => q.1) = some 4 then ob (f104 x13 x17 p11) (fun p19 => ob (f20 p19.1 p19.2) (fun p21 => some (p21.1, p21.2))) else none))))) else none)))
        else some ((-1000002 : Int32), p5.2)))))
    else some ((-1000001 : Int32), p1.2))) else none)
set_option maxRecDepth 10000 in
theorem r242 {S : Sc} (n : Nat) (v0 : Nat) (v1 : Int32) (v2 : Int32) (v3 : Int32) (w : Wd) (o : (Int32 × Wd)) (h : f242 n v0 v1 v2 v3 w = some o) : Rn S 242 0 [some (.ref v0), some (.int v1), some (.int v2), some (.int v3)] [] w (some (.int o.1), o.2) := by
  unfold f242 at h
  refine rn_aload_n (ft242 0 rfl) rfl ?_
  refine rn_iload_n (ft242 1 rfl) rfl ?_
  obtain ⟨g28, h⟩ := ifg h
  obtain ⟨p1, q2, h⟩ := ob_some h
  refine rn_callV (as := [.int v1]) (k0 := v0) (r := []) (v := (some (.int p1.1))) (w1 := p1.2) (ft242 2 rfl) (by decide +kernel) rfl (Nat.le_of_ble_eq_true rfl) (Nat.le_of_ble_eq_true rfl) (r98 v0 v1 w _ q2) (by decide +kernel) g28 ?_
  by_cases c27 : p1.1 = 0
  · replace h := ifp c27 h
    refine rn_if_eq_t (ft242 3 rfl) c27 ?_
    refine rn_iload_n (ft242 6 rfl) rfl ?_
    refine rn_iconst (v := (0 : Int32)) (ft242 7 rfl) (by decide) ?_
    refine rn_bipush (v := (100 : Int32)) (ft242 8 rfl) (by decide) ?_
    obtain ⟨p3, q4, h⟩ := ob_some h
    refine rn_callS (as := [.int v2, .int (0 : Int32), .int (100 : Int32)]) (r := []) (v := (some (.int p3.1))) (w1 := p3.2) (ft242 9 rfl) (by decide +kernel) rfl (Nat.le_of_ble_eq_true rfl) (Nat.le_of_ble_eq_true rfl) (r0 v2 (0 : Int32) (100 : Int32) p1.2 _ q4) ?_
    by_cases c26 : ¬ p3.1 = 0
    · replace h := ifp c26 h
      refine rn_if_ne_t (ft242 10 rfl) c26 ?_
      refine rn_ldc (v := (-1000002 : Int32)) (ft242 16 rfl) (by decide) rfl ?_
      cases h
      exact rn_iretI pr242 (ft242 17 rfl)
    · replace h := ifn c26 h
      refine rn_if_ne_f (ft242 10 rfl) c26 ?_
      refine rn_iload_n (ft242 11 rfl) rfl ?_
      refine rn_iconst (v := (1 : Int32)) (ft242 12 rfl) (by decide) ?_
      refine rn_bipush (v := (99 : Int32)) (ft242 13 rfl) (by decide) ?_
      obtain ⟨p5, q6, h⟩ := ob_some h
      refine rn_callS (as := [.int v3, .int (1 : Int32), .int (99 : Int32)]) (r := []) (v := (some (.int p5.1))) (w1 := p5.2) (ft242 14 rfl) (by decide +kernel) rfl (Nat.le_of_ble_eq_true rfl) (Nat.le_of_ble_eq_true rfl) (r0 v3 (1 : Int32) (99 : Int32) p3.2 _ q6) ?_
      by_cases c25 : p5.1 = 0
      · replace h := ifp c25 h
        refine rn_if_eq_t (ft242 15 rfl) c25 ?_
        refine rn_aload_n (ft242 18 rfl) rfl ?_
        refine rn_aload_n (ft242 19 rfl) rfl ?_
        obtain ⟨x7, q8, h⟩ := ob_some h
        refine rn_getR (ft242 20 rfl) q8 ?_
        refine rn_iload_n (ft242 21 rfl) rfl ?_
        obtain ⟨x9, q10, h⟩ := ob_some h
        refine rn_aaload (ft242 22 rfl) q10 ?_
        refine rn_iload_n (ft242 23 rfl) rfl ?_
        refine rn_iload_n (ft242 24 rfl) rfl ?_
        obtain ⟨g24, h⟩ := ifg h
        obtain ⟨p11, q12, h⟩ := ob_some h
        refine rn_callV (as := [.ref x9, .int v3, .int v2]) (k0 := v0) (r := []) (v := none) (w1 := p11) (ft242 25 rfl) (by decide +kernel) rfl (Nat.le_of_ble_eq_true rfl) (Nat.le_of_ble_eq_true rfl) (r221 n v0 x9 v3 v2 p5.2 _ q12) (by decide +kernel) g24 ?_
        refine rn_aload_n (ft242 26 rfl) rfl ?_
        obtain ⟨x13, q14, h⟩ := ob_some h
        refine rn_getR (ft242 27 rfl) q14 ?_
        refine rn_aload_n (ft242 28 rfl) rfl ?_
        obtain ⟨x15, q16, h⟩ := ob_some h
        refine rn_getR (ft242 29 rfl) q16 ?_
        obtain ⟨x17, q18, h⟩ := ob_some h
        refine rn_getI (ft242 30 rfl) (by decide) (by decide) q18 ?_
        obtain ⟨g23, h⟩ := ifg h
        obtain ⟨p19, q20, h⟩ := ob_some h
        refine rn_callV (as := [.int x17]) (k0 := x13) (r := []) (v := (some (.int p19.1))) (w1 := p19.2) (ft242 31 rfl) (by decide +kernel) rfl (Nat.le_of_ble_eq_true rfl) (Nat.le_of_ble_eq_true rfl) (r104 x13 x17 p11 _ q20) (by decide +kernel) g23 ?_
        obtain ⟨p21, q22, h⟩ := ob_some h
        refine rn_callS (as := [.int p19.1]) (r := []) (v := (some (.int p21.1))) (w1 := p21.2) (ft242 32 rfl) (by decide +kernel) rfl (Nat.le_of_ble_eq_true rfl) (Nat.le_of_ble_eq_true rfl) (r20 p19.1 p19.2 _ q22) ?_
        cases h
        exact rn_iretI pr242 (ft242 33 rfl)
      · replace h := ifn c25 h
        refine rn_if_eq_f (ft242 15 rfl) c25 ?_
        refine rn_ldc (v := (-1000002 : Int32)) (ft242 16 rfl) (by decide) rfl ?_
        cases h
        exact rn_iretI pr242 (ft242 17 rfl)
  · replace h := ifn c27 h
    refine rn_if_eq_f (ft242 3 rfl) c27 ?_
    refine rn_ldc (v := (-1000001 : Int32)) (ft242 4 rfl) (by decide) rfl ?_
    cases h
    exact rn_iretI pr242 (ft242 5 rfl)
