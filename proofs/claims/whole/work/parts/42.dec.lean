/-! THE METHODS AS FUNCTIONS, 25 -/
/-- NineWheelModel.best(IIII)I -/
theorem ft229 : ∀ (i : Nat) {q : Nat × XI}, cd229[i]? = some q → fetch 229 q.1 = some q.2 := ft_of (by decide +kernel)
theorem pr229 : pRt 229 = some .int := rfl
def f229 (n : Nat) (v0 : Nat) (v1 : Int32) (v2 : Int32) (v3 : Int32) (v4 : Int32) (w : Wd) : Option (Int32 × Wd) :=
  (if (wsh w v0).map (fun q => q.1) = some 11 then ob (f119 v0 v1 w) (fun p1 => (if p1.1 = 0 then some ((-1000001 : Int32), p1.2)
    else ob (f118 v2 p1.2) (fun p3 => (if ¬ p3.1 = 0 then ob (f122 v3 p3.2) (fun p5 => (if p5.1 = 0 then some ((-1000002 : Int32), p5.2)
        else ob (f131 v4 p5.2) (fun p7 => (if ¬ p7.1 = 0 then ob (getR p7.2 11 v0 2) (fun x9 => ob (aldB p7.2 x9 v2) (fun x11 => (if x11 = 0 then (if (wsh p7.2 v0).map (fun q => q.1) = some 11 then ob (f215 n v0 v1 v4 (1 : Int32) p7.2) (fun p13 => ob (getR p13 11 v0 58) (fun x15 => ob (aldI p13 x15 (((8 : Int32) * v2) + v3)) (fun x17 => some (x17, p13)))) else none)
            else some ((-1000003 : Int32), p7.2))))
          else some ((-1000002 : Int32), p7.2)))))
      else some ((-1000001 : Int32), p3.2))))) else none)
set_option maxRecDepth 10000 in
theorem r229 {S : Sc} (n : Nat) (v0 : Nat) (v1 : Int32) (v2 : Int32) (v3 : Int32) (v4 : Int32) (w : Wd) (o : (Int32 × Wd)) (h : f229 n v0 v1 v2 v3 v4 w = some o) : Rn S 229 0 [some (.ref v0), some (.int v1), some (.int v2), some (.int v3), some (.int v4)] [] w (some (.int o.1), o.2) := by
  unfold f229 at h
  refine rn_aload_n (ft229 0 rfl) rfl ?_
  refine rn_iload_n (ft229 1 rfl) rfl ?_
  obtain ⟨g25, h⟩ := ifg h
  obtain ⟨p1, q2, h⟩ := ob_some h
  refine rn_callV (as := [.int v1]) (k0 := v0) (r := []) (v := (some (.int p1.1))) (w1 := p1.2) (ft229 2 rfl) (by decide +kernel) rfl (Nat.le_of_ble_eq_true rfl) (Nat.le_of_ble_eq_true rfl) (r119 v0 v1 w _ q2) (by decide +kernel) g25 ?_
  by_cases c24 : p1.1 = 0
  · replace h := ifp c24 h
    refine rn_if_eq_t (ft229 3 rfl) c24 ?_
    refine rn_ldcw (v := (-1000001 : Int32)) (ft229 7 rfl) (by decide) ?_
    cases h
    exact rn_iretI pr229 (ft229 8 rfl)
  · replace h := ifn c24 h
    refine rn_if_eq_f (ft229 3 rfl) c24 ?_
    refine rn_iload_n (ft229 4 rfl) rfl ?_
    obtain ⟨p3, q4, h⟩ := ob_some h
    refine rn_callS (as := [.int v2]) (r := []) (v := (some (.int p3.1))) (w1 := p3.2) (ft229 5 rfl) (by decide +kernel) rfl (Nat.le_of_ble_eq_true rfl) (Nat.le_of_ble_eq_true rfl) (r118 v2 p1.2 _ q4) ?_
    by_cases c23 : ¬ p3.1 = 0
    · replace h := ifp c23 h
      refine rn_if_ne_t (ft229 6 rfl) c23 ?_
      refine rn_iload_n (ft229 9 rfl) rfl ?_
      obtain ⟨p5, q6, h⟩ := ob_some h
      refine rn_callS (as := [.int v3]) (r := []) (v := (some (.int p5.1))) (w1 := p5.2) (ft229 10 rfl) (by decide +kernel) rfl (Nat.le_of_ble_eq_true rfl) (Nat.le_of_ble_eq_true rfl) (r122 v3 p3.2 _ q6) ?_
      by_cases c22 : p5.1 = 0
      · replace h := ifp c22 h
        refine rn_if_eq_t (ft229 11 rfl) c22 ?_
        refine rn_ldc (v := (-1000002 : Int32)) (ft229 15 rfl) (by decide) rfl ?_
        cases h
        exact rn_iretI pr229 (ft229 16 rfl)
      · replace h := ifn c22 h
        refine rn_if_eq_f (ft229 11 rfl) c22 ?_
        refine rn_iload (ft229 12 rfl) rfl ?_
        obtain ⟨p7, q8, h⟩ := ob_some h
        refine rn_callS (as := [.int v4]) (r := []) (v := (some (.int p7.1))) (w1 := p7.2) (ft229 13 rfl) (by decide +kernel) rfl (Nat.le_of_ble_eq_true rfl) (Nat.le_of_ble_eq_true rfl) (r131 v4 p5.2 _ q8) ?_
        by_cases c21 : ¬ p7.1 = 0
        · replace h := ifp c21 h
          refine rn_if_ne_t (ft229 14 rfl) c21 ?_
          refine rn_aload_n (ft229 17 rfl) rfl ?_
          obtain ⟨x9, q10, h⟩ := ob_some h
          refine rn_getR (ft229 18 rfl) q10 ?_
          refine rn_iload_n (ft229 19 rfl) rfl ?_
          obtain ⟨x11, q12, h⟩ := ob_some h
          refine rn_baload (ft229 20 rfl) q12 ?_
          by_cases c20 : x11 = 0
          · replace h := ifp c20 h
            refine rn_if_eq_t (ft229 21 rfl) c20 ?_
            refine rn_aload_n (ft229 24 rfl) rfl ?_
            refine rn_iload_n (ft229 25 rfl) rfl ?_
            refine rn_iload (ft229 26 rfl) rfl ?_
            refine rn_iconst (v := (1 : Int32)) (ft229 27 rfl) (by decide) ?_
            obtain ⟨g19, h⟩ := ifg h
            obtain ⟨p13, q14, h⟩ := ob_some h
            refine rn_callV (as := [.int v1, .int v4, .int (1 : Int32)]) (k0 := v0) (r := []) (v := none) (w1 := p13) (ft229 28 rfl) (by decide +kernel) rfl (Nat.le_of_ble_eq_true rfl) (Nat.le_of_ble_eq_true rfl) (r215 n v0 v1 v4 (1 : Int32) p7.2 _ q14) (by decide +kernel) g19 ?_
            refine rn_aload_n (ft229 29 rfl) rfl ?_
            obtain ⟨x15, q16, h⟩ := ob_some h
            refine rn_getR (ft229 30 rfl) q16 ?_
            refine rn_bipush (v := (8 : Int32)) (ft229 31 rfl) (by decide) ?_
            refine rn_iload_n (ft229 32 rfl) rfl ?_
            refine rn_imul (ft229 33 rfl) ?_
            refine rn_iload_n (ft229 34 rfl) rfl ?_
            refine rn_iadd (ft229 35 rfl) ?_
            obtain ⟨x17, q18, h⟩ := ob_some h
            refine rn_iaload (ft229 36 rfl) q18 ?_
            cases h
            exact rn_iretI pr229 (ft229 37 rfl)
          · replace h := ifn c20 h
            refine rn_if_eq_f (ft229 21 rfl) c20 ?_
            refine rn_ldcw (v := (-1000003 : Int32)) (ft229 22 rfl) (by decide) ?_
            cases h
            exact rn_iretI pr229 (ft229 23 rfl)
        · replace h := ifn c21 h
          refine rn_if_ne_f (ft229 14 rfl) c21 ?_
          refine rn_ldc (v := (-1000002 : Int32)) (ft229 15 rfl) (by decide) rfl ?_
          cases h
          exact rn_iretI pr229 (ft229 16 rfl)
    · replace h := ifn c23 h
      refine rn_if_ne_f (ft229 6 rfl) c23 ?_
      refine rn_ldcw (v := (-1000001 : Int32)) (ft229 7 rfl) (by decide) ?_
      cases h
      exact rn_iretI pr229 (ft229 8 rfl)
/-- NineWheelModel.course(III)I -/
theorem ft230 : ∀ (i : Nat) {q : Nat × XI}, cd230[i]? = some q → fetch 230 q.1 = some q.2 := ft_of (by decide +kernel)
theorem pr230 : pRt 230 = some .int := rfl
def f230_H69 (n : Nat) (rec24 : Nat → Int32 → Int32 → Int32 → Int32 → Int32 → Int32 → Wd → Option (Int32 × Wd)) (K24 : Wd → Option (Int32 × Wd)) (K38 : Nat → Int32 → Int32 → Int32 → Int32 → Int32 → Int32 → Int32 → Wd → Option (Int32 × Wd)) : Nat → Nat → Int32 → Int32 → Int32 → Int32 → Int32 → Int32 → Int32 → Int32 → Int32 → Wd → Option (Int32 × Wd)
  | 0, _, _, _, _, _, _, _, _, _, _, _ => none
  | k + 1, v0, v1, v2, v3, v4, v5, v6, v7, v8, v9, w =>
    (if (3 : Int32) ≤ v9 then K38 v0 v1 v2 v3 v4 v5 v6 v7 w
      else (if ¬ v8 = 0 then K38 v0 v1 v2 v3 v4 v5 v6 v7 w
        else ob (f52 v9 w) (fun p15 => (if (wsh p15.2 v0).map (fun q => q.1) = some 11 then ob (f196 n v0 v1 v4 v5 v6 v2 p15.1 p15.2) (fun p17 => ob (getR p17.2 11 v0 58) (fun x19 => ob (aldI p17.2 x19 ((((512 : Int32) * v6) + ((8 : Int32) * v4)) + v5)) (fun x21 => (if ¬ p17.1 = x21 then (fun (v0 : Nat) (v1 : Int32) (v2 : Int32) (v3 : Int32) (v4 : Int32) (v5 : Int32) (v6 : Int32) (v7 : Int32) (v8 : Int32) (v9 : Int32) w => f230_H69 n rec24 K24 K38 k v0 v1 v2 v3 v4 v5 v6 v7 v8 v9 w) v0 v1 v2 v3 v4 v5 v6 p15.1 (0 : Int32) (v9 + (1 : Int32)) p17.2
          else (fun (v0 : Nat) (v1 : Int32) (v2 : Int32) (v3 : Int32) (v4 : Int32) (v5 : Int32) (v6 : Int32) (v7 : Int32) (v8 : Int32) (v9 : Int32) w => f230_H69 n rec24 K24 K38 k v0 v1 v2 v3 v4 v5 v6 v7 v8 v9 w) v0 v1 v2 v3 v4 v5 v6 p15.1 (1 : Int32) (v9 + (1 : Int32)) p17.2)))) else none))))
set_option maxRecDepth 10000 in
theorem rf230_H69 {S : Sc} (n : Nat) (rec24 : Nat → Int32 → Int32 → Int32 → Int32 → Int32 → Int32 → Wd → Option (Int32 × Wd)) (K24 : Wd → Option (Int32 × Wd)) (K38 : Nat → Int32 → Int32 → Int32 → Int32 → Int32 → Int32 → Int32 → Wd → Option (Int32 × Wd)) (hrec24 : ∀ (y0 : Nat) (y1 : Int32) (y2 : Int32) (y3 : Int32) (y4 : Int32) (y5 : Int32) (y6 : Int32) (w : Wd) (o : (Int32 × Wd)), rec24 y0 y1 y2 y3 y4 y5 y6 w = some o → Rn S 230 44 [some (.ref y0), some (.int y1), some (.int y2), some (.int y3), some (.int y4), some (.int y5), some (.int y6), none, none, none] [] w (some (.int o.1), o.2)) (hK24 : ∀  (w : Wd) (o : (Int32 × Wd)), K24 w = some o → Rn S 230 175 [none, none, none, none, none, none, none, none, none, none] [] w (some (.int o.1), o.2)) (hK38 : ∀ (y0 : Nat) (y1 : Int32) (y2 : Int32) (y3 : Int32) (y4 : Int32) (y5 : Int32) (y6 : Int32) (y7 : Int32) (w : Wd) (o : (Int32 × Wd)), K38 y0 y1 y2 y3 y4 y5 y6 y7 w = some o → Rn S 230 137 [some (.ref y0), some (.int y1), some (.int y2), some (.int y3), some (.int y4), some (.int y5), some (.int y6), some (.int y7), none, none] [] w (some (.int o.1), o.2)) : ∀ (k : Nat) (v0 : Nat) (v1 : Int32) (v2 : Int32) (v3 : Int32) (v4 : Int32) (v5 : Int32) (v6 : Int32) (v7 : Int32) (v8 : Int32) (v9 : Int32) (w : Wd) (o : (Int32 × Wd)), f230_H69 n rec24 K24 K38 k v0 v1 v2 v3 v4 v5 v6 v7 v8 v9 w = some o → Rn S 230 69 [some (.ref v0), some (.int v1), some (.int v2), some (.int v3), some (.int v4), some (.int v5), some (.int v6), some (.int v7), some (.int v8), some (.int v9)] [] w (some (.int o.1), o.2) := by
  intro k
  induction k with
  | zero =>
    intro v0 v1 v2 v3 v4 v5 v6 v7 v8 v9 w o h
    exact nomatch h
  | succ k ih =>
    intro v0 v1 v2 v3 v4 v5 v6 v7 v8 v9 w o h
    have hrec38 : ∀ (y0 : Nat) (y1 : Int32) (y2 : Int32) (y3 : Int32) (y4 : Int32) (y5 : Int32) (y6 : Int32) (y7 : Int32) (y8 : Int32) (y9 : Int32) (w : Wd) (o : (Int32 × Wd)), (fun (v0 : Nat) (v1 : Int32) (v2 : Int32) (v3 : Int32) (v4 : Int32) (v5 : Int32) (v6 : Int32) (v7 : Int32) (v8 : Int32) (v9 : Int32) w => f230_H69 n rec24 K24 K38 k v0 v1 v2 v3 v4 v5 v6 v7 v8 v9 w) y0 y1 y2 y3 y4 y5 y6 y7 y8 y9 w = some o → Rn S 230 69 [some (.ref y0), some (.int y1), some (.int y2), some (.int y3), some (.int y4), some (.int y5), some (.int y6), some (.int y7), some (.int y8), some (.int y9)] [] w (some (.int o.1), o.2) := fun y0 y1 y2 y3 y4 y5 y6 y7 y8 y9 w o h => ih y0 y1 y2 y3 y4 y5 y6 y7 y8 y9 w o h
    unfold f230_H69 at h
    refine rn_iload (ft230 38 rfl) rfl ?_
    refine rn_iconst (v := (3 : Int32)) (ft230 39 rfl) (by decide) ?_
    by_cases c26 : (3 : Int32) ≤ v9
    · replace h := ifp c26 h
      refine rn_icmp_ge_t (ft230 40 rfl) c26 ?_
      exact rn_forget (ls := [some (.ref v0), some (.int v1), some (.int v2), some (.int v3), some (.int v4), some (.int v5), some (.int v6), some (.int v7), none, none]) (And.intro rfl (And.intro rfl (And.intro rfl (And.intro rfl (And.intro rfl (And.intro rfl (And.intro rfl (And.intro rfl trivial)))))))) (hK38 v0 v1 v2 v3 v4 v5 v6 v7 w _ h)
    · replace h := ifn c26 h
      refine rn_icmp_ge_f (ft230 40 rfl) c26 ?_
      refine rn_iload (ft230 41 rfl) rfl ?_
      by_cases c25 : ¬ v8 = 0
      · replace h := ifp c25 h
        refine rn_if_ne_t (ft230 42 rfl) c25 ?_
        exact rn_forget (ls := [some (.ref v0), some (.int v1), some (.int v2), some (.int v3), some (.int v4), some (.int v5), some (.int v6), some (.int v7), none, none]) (And.intro rfl (And.intro rfl (And.intro rfl (And.intro rfl (And.intro rfl (And.intro rfl (And.intro rfl (And.intro rfl trivial)))))))) (hK38 v0 v1 v2 v3 v4 v5 v6 v7 w _ h)
      · replace h := ifn c25 h
        refine rn_if_ne_f (ft230 42 rfl) c25 ?_
        refine rn_iload (ft230 43 rfl) rfl ?_
        obtain ⟨p15, q16, h⟩ := ob_some h
        refine rn_callS (as := [.int v9]) (r := []) (v := (some (.int p15.1))) (w1 := p15.2) (ft230 44 rfl) (by decide +kernel) rfl (Nat.le_of_ble_eq_true rfl) (Nat.le_of_ble_eq_true rfl) (r52 v9 w _ q16) ?_
        refine rn_istore (ls' := [some (.ref v0), some (.int v1), some (.int v2), some (.int v3), some (.int v4), some (.int v5), some (.int v6), some (.int p15.1), some (.int v8), some (.int v9)]) (ft230 45 rfl) rfl ?_
        refine rn_aload_n (ft230 46 rfl) rfl ?_
        refine rn_iload_n (ft230 47 rfl) rfl ?_
        refine rn_iload (ft230 48 rfl) rfl ?_
        refine rn_iload (ft230 49 rfl) rfl ?_
        refine rn_iload (ft230 50 rfl) rfl ?_
        refine rn_iload_n (ft230 51 rfl) rfl ?_
        refine rn_iload (ft230 52 rfl) rfl ?_
        obtain ⟨g24, h⟩ := ifg h
        obtain ⟨p17, q18, h⟩ := ob_some h
        refine rn_callV (as := [.int v1, .int v4, .int v5, .int v6, .int v2, .int p15.1]) (k0 := v0) (r := []) (v := (some (.int p17.1))) (w1 := p17.2) (ft230 53 rfl) (by decide +kernel) rfl (Nat.le_of_ble_eq_true rfl) (Nat.le_of_ble_eq_true rfl) (r196 n v0 v1 v4 v5 v6 v2 p15.1 p15.2 _ q18) (by decide +kernel) g24 ?_
        refine rn_aload_n (ft230 54 rfl) rfl ?_
        obtain ⟨x19, q20, h⟩ := ob_some h
        refine rn_getR (ft230 55 rfl) q20 ?_
        refine rn_sipush (v := (512 : Int32)) (ft230 56 rfl) (by decide) ?_
        refine rn_iload (ft230 57 rfl) rfl ?_
        refine rn_imul (ft230 58 rfl) ?_
        refine rn_bipush (v := (8 : Int32)) (ft230 59 rfl) (by decide) ?_
        refine rn_iload (ft230 60 rfl) rfl ?_
        refine rn_imul (ft230 61 rfl) ?_
        refine rn_iadd (ft230 62 rfl) ?_
        refine rn_iload (ft230 63 rfl) rfl ?_
        refine rn_iadd (ft230 64 rfl) ?_
        obtain ⟨x21, q22, h⟩ := ob_some h
        refine rn_iaload (ft230 65 rfl) q22 ?_
        by_cases c23 : ¬ p17.1 = x21
        · replace h := ifp c23 h
          refine rn_icmp_ne_t (ft230 66 rfl) c23 ?_
          refine rn_iconst (v := (0 : Int32)) (ft230 69 rfl) (by decide) ?_
          refine rn_istore (ls' := [some (.ref v0), some (.int v1), some (.int v2), some (.int v3), some (.int v4), some (.int v5), some (.int v6), some (.int p15.1), some (.int (0 : Int32)), some (.int v9)]) (ft230 70 rfl) rfl ?_
          refine rn_iinc (u := 1) (ls' := [some (.ref v0), some (.int v1), some (.int v2), some (.int v3), some (.int v4), some (.int v5), some (.int v6), some (.int p15.1), some (.int (0 : Int32)), some (.int (v9 + (1 : Int32)))]) (ft230 71 rfl) rfl (by decide) rfl ?_
          refine rn_goto (ft230 72 rfl) ?_
          exact rn_forget (ls := [some (.ref v0), some (.int v1), some (.int v2), some (.int v3), some (.int v4), some (.int v5), some (.int v6), some (.int p15.1), some (.int (0 : Int32)), some (.int (v9 + (1 : Int32)))]) (And.intro rfl (And.intro rfl (And.intro rfl (And.intro rfl (And.intro rfl (And.intro rfl (And.intro rfl (And.intro rfl (And.intro rfl (And.intro rfl trivial)))))))))) (hrec38 v0 v1 v2 v3 v4 v5 v6 p15.1 (0 : Int32) (v9 + (1 : Int32)) p17.2 _ h)
        · replace h := ifn c23 h
          refine rn_icmp_ne_f (ft230 66 rfl) c23 ?_
          refine rn_iconst (v := (1 : Int32)) (ft230 67 rfl) (by decide) ?_
          refine rn_goto (ft230 68 rfl) ?_
          refine rn_istore (ls' := [some (.ref v0), some (.int v1), some (.int v2), some (.int v3), some (.int v4), some (.int v5), some (.int v6), some (.int p15.1), some (.int (1 : Int32)), some (.int v9)]) (ft230 70 rfl) rfl ?_
          refine rn_iinc (u := 1) (ls' := [some (.ref v0), some (.int v1), some (.int v2), some (.int v3), some (.int v4), some (.int v5), some (.int v6), some (.int p15.1), some (.int (1 : Int32)), some (.int (v9 + (1 : Int32)))]) (ft230 71 rfl) rfl (by decide) rfl ?_
          refine rn_goto (ft230 72 rfl) ?_
          exact rn_forget (ls := [some (.ref v0), some (.int v1), some (.int v2), some (.int v3), some (.int v4), some (.int v5), some (.int v6), some (.int p15.1), some (.int (1 : Int32)), some (.int (v9 + (1 : Int32)))]) (And.intro rfl (And.intro rfl (And.intro rfl (And.intro rfl (And.intro rfl (And.intro rfl (And.intro rfl (And.intro rfl (And.intro rfl (And.intro rfl trivial)))))))))) (hrec38 v0 v1 v2 v3 v4 v5 v6 p15.1 (1 : Int32) (v9 + (1 : Int32)) p17.2 _ h)
def f230_J137 (n : Nat) (rec24 : Nat → Int32 → Int32 → Int32 → Int32 → Int32 → Int32 → Wd → Option (Int32 × Wd)) (K24 : Wd → Option (Int32 × Wd)) (v0 : Nat) (v1 : Int32) (v2 : Int32) (v3 : Int32) (v4 : Int32) (v5 : Int32) (v6 : Int32) (v7 : Int32) (w : Wd) : Option (Int32 × Wd) :=
  (if ¬ v6 = v3 then (if (wsh w v0).map (fun q => q.1) = some 11 then ob (f166 v0 v4 v5 v6 v7 w) (fun p28 => ob (f51 v5 v7 p28.2) (fun p30 => rec24 v0 v1 v2 v3 p28.1 p30.1 (v6 + (1 : Int32)) p30.2)) else none)
    else some (v7, w))
set_option maxRecDepth 10000 in
theorem rf230_J137 {S : Sc} (n : Nat) (rec24 : Nat → Int32 → Int32 → Int32 → Int32 → Int32 → Int32 → Wd → Option (Int32 × Wd)) (K24 : Wd → Option (Int32 × Wd)) (v0 : Nat) (v1 : Int32) (v2 : Int32) (v3 : Int32) (v4 : Int32) (v5 : Int32) (v6 : Int32) (v7 : Int32) (w : Wd) (o : (Int32 × Wd)) (hrec24 : ∀ (y0 : Nat) (y1 : Int32) (y2 : Int32) (y3 : Int32) (y4 : Int32) (y5 : Int32) (y6 : Int32) (w : Wd) (o : (Int32 × Wd)), rec24 y0 y1 y2 y3 y4 y5 y6 w = some o → Rn S 230 44 [some (.ref y0), some (.int y1), some (.int y2), some (.int y3), some (.int y4), some (.int y5), some (.int y6), none, none, none] [] w (some (.int o.1), o.2)) (hK24 : ∀  (w : Wd) (o : (Int32 × Wd)), K24 w = some o → Rn S 230 175 [none, none, none, none, none, none, none, none, none, none] [] w (some (.int o.1), o.2)) (h : f230_J137 n rec24 K24 v0 v1 v2 v3 v4 v5 v6 v7 w = some o) : Rn S 230 137 [some (.ref v0), some (.int v1), some (.int v2), some (.int v3), some (.int v4), some (.int v5), some (.int v6), some (.int v7), none, none] [] w (some (.int o.1), o.2) := by
  unfold f230_J137 at h
  refine rn_iload (ft230 73 rfl) rfl ?_
  refine rn_iload_n (ft230 74 rfl) rfl ?_
  by_cases c33 : ¬ v6 = v3
  · replace h := ifp c33 h
    refine rn_icmp_ne_t (ft230 75 rfl) c33 ?_
    refine rn_aload_n (ft230 78 rfl) rfl ?_
    refine rn_iload (ft230 79 rfl) rfl ?_
    refine rn_iload (ft230 80 rfl) rfl ?_
    refine rn_iload (ft230 81 rfl) rfl ?_
    refine rn_iload (ft230 82 rfl) rfl ?_
    obtain ⟨g32, h⟩ := ifg h
    obtain ⟨p28, q29, h⟩ := ob_some h
    refine rn_callV (as := [.int v4, .int v5, .int v6, .int v7]) (k0 := v0) (r := []) (v := (some (.int p28.1))) (w1 := p28.2) (ft230 83 rfl) (by decide +kernel) rfl (Nat.le_of_ble_eq_true rfl) (Nat.le_of_ble_eq_true rfl) (r166 v0 v4 v5 v6 v7 w _ q29) (by decide +kernel) g32 ?_
    refine rn_istore (ls' := [some (.ref v0), some (.int v1), some (.int v2), some (.int v3), some (.int p28.1), some (.int v5), some (.int v6), some (.int v7), none, none]) (ft230 84 rfl) rfl ?_
    refine rn_iload (ft230 85 rfl) rfl ?_
    refine rn_iload (ft230 86 rfl) rfl ?_
    obtain ⟨p30, q31, h⟩ := ob_some h
    refine rn_callS (as := [.int v5, .int v7]) (r := []) (v := (some (.int p30.1))) (w1 := p30.2) (ft230 87 rfl) (by decide +kernel) rfl (Nat.le_of_ble_eq_true rfl) (Nat.le_of_ble_eq_true rfl) (r51 v5 v7 p28.2 _ q31) ?_
    refine rn_istore (ls' := [some (.ref v0), some (.int v1), some (.int v2), some (.int v3), some (.int p28.1), some (.int p30.1), some (.int v6), some (.int v7), none, none]) (ft230 88 rfl) rfl ?_
    refine rn_iinc (u := 1) (ls' := [some (.ref v0), some (.int v1), some (.int v2), some (.int v3), some (.int p28.1), some (.int p30.1), some (.int (v6 + (1 : Int32))), some (.int v7), none, none]) (ft230 89 rfl) rfl (by decide) rfl ?_
    refine rn_goto (ft230 90 rfl) ?_
    exact rn_forget (ls := [some (.ref v0), some (.int v1), some (.int v2), some (.int v3), some (.int p28.1), some (.int p30.1), some (.int (v6 + (1 : Int32))), none, none, none]) (And.intro rfl (And.intro rfl (And.intro rfl (And.intro rfl (And.intro rfl (And.intro rfl (And.intro rfl trivial))))))) (hrec24 v0 v1 v2 v3 p28.1 p30.1 (v6 + (1 : Int32)) p30.2 _ h)
  · replace h := ifn c33 h
    refine rn_icmp_ne_f (ft230 75 rfl) c33 ?_
    refine rn_iload (ft230 76 rfl) rfl ?_
    cases h
    exact rn_iretI pr230 (ft230 77 rfl)
def f230_H44 (n : Nat)  (K24 : Wd → Option (Int32 × Wd)) : Nat → Nat → Int32 → Int32 → Int32 → Int32 → Int32 → Int32 → Wd → Option (Int32 × Wd)
  | 0, _, _, _, _, _, _, _, _ => none
  | k + 1, v0, v1, v2, v3, v4, v5, v6, w =>
    (if v2 ≤ v6 then K24 w
      else ob (getR w 11 v0 2) (fun x11 => ob (aldB w x11 v4) (fun x13 => (if ¬ x13 = 0 then K24 w
        else f230_H69 n (fun (v0 : Nat) (v1 : Int32) (v2 : Int32) (v3 : Int32) (v4 : Int32) (v5 : Int32) (v6 : Int32) w => f230_H44 n  K24 k v0 v1 v2 v3 v4 v5 v6 w) K24 (fun (e0_27 : Nat) (e1_27 : Int32) (e2_27 : Int32) (e3_27 : Int32) (e4_27 : Int32) (e5_27 : Int32) (e6_27 : Int32) (e7_27 : Int32) (w27 : Wd) => f230_J137 n (fun (v0 : Nat) (v1 : Int32) (v2 : Int32) (v3 : Int32) (v4 : Int32) (v5 : Int32) (v6 : Int32) w => f230_H44 n  K24 k v0 v1 v2 v3 v4 v5 v6 w) K24 e0_27 e1_27 e2_27 e3_27 e4_27 e5_27 e6_27 e7_27 w27) n v0 v1 v2 v3 v4 v5 v6 (0 : Int32) (0 : Int32) (0 : Int32) w))))
set_option maxRecDepth 10000 in
theorem rf230_H44 {S : Sc} (n : Nat)  (K24 : Wd → Option (Int32 × Wd))  (hK24 : ∀  (w : Wd) (o : (Int32 × Wd)), K24 w = some o → Rn S 230 175 [none, none, none, none, none, none, none, none, none, none] [] w (some (.int o.1), o.2)) : ∀ (k : Nat) (v0 : Nat) (v1 : Int32) (v2 : Int32) (v3 : Int32) (v4 : Int32) (v5 : Int32) (v6 : Int32) (w : Wd) (o : (Int32 × Wd)), f230_H44 n  K24 k v0 v1 v2 v3 v4 v5 v6 w = some o → Rn S 230 44 [some (.ref v0), some (.int v1), some (.int v2), some (.int v3), some (.int v4), some (.int v5), some (.int v6), none, none, none] [] w (some (.int o.1), o.2) := by
  intro k
  induction k with
  | zero =>
    intro v0 v1 v2 v3 v4 v5 v6 w o h
    exact nomatch h
  | succ k ih =>
    intro v0 v1 v2 v3 v4 v5 v6 w o h
    have hrec24 : ∀ (y0 : Nat) (y1 : Int32) (y2 : Int32) (y3 : Int32) (y4 : Int32) (y5 : Int32) (y6 : Int32) (w : Wd) (o : (Int32 × Wd)), (fun (v0 : Nat) (v1 : Int32) (v2 : Int32) (v3 : Int32) (v4 : Int32) (v5 : Int32) (v6 : Int32) w => f230_H44 n  K24 k v0 v1 v2 v3 v4 v5 v6 w) y0 y1 y2 y3 y4 y5 y6 w = some o → Rn S 230 44 [some (.ref y0), some (.int y1), some (.int y2), some (.int y3), some (.int y4), some (.int y5), some (.int y6), none, none, none] [] w (some (.int o.1), o.2) := fun y0 y1 y2 y3 y4 y5 y6 w o h => ih y0 y1 y2 y3 y4 y5 y6 w o h
    unfold f230_H44 at h
    refine rn_iload (ft230 24 rfl) rfl ?_
    refine rn_iload_n (ft230 25 rfl) rfl ?_
    by_cases c35 : v2 ≤ v6
    · replace h := ifp c35 h
      refine rn_icmp_ge_t (ft230 26 rfl) c35 ?_
      exact rn_forget (ls := [none, none, none, none, none, none, none, none, none, none]) trivial (hK24 w _ h)
    · replace h := ifn c35 h
      refine rn_icmp_ge_f (ft230 26 rfl) c35 ?_
      refine rn_aload_n (ft230 27 rfl) rfl ?_
      obtain ⟨x11, q12, h⟩ := ob_some h
      refine rn_getR (ft230 28 rfl) q12 ?_
      refine rn_iload (ft230 29 rfl) rfl ?_
      obtain ⟨x13, q14, h⟩ := ob_some h
      refine rn_baload (ft230 30 rfl) q14 ?_
      by_cases c34 : ¬ x13 = 0
      · replace h := ifp c34 h
        refine rn_if_ne_t (ft230 31 rfl) c34 ?_
        exact rn_forget (ls := [none, none, none, none, none, none, none, none, none, none]) trivial (hK24 w _ h)
      · replace h := ifn c34 h
        refine rn_if_ne_f (ft230 31 rfl) c34 ?_
        refine rn_iconst (v := (0 : Int32)) (ft230 32 rfl) (by decide) ?_
        refine rn_istore (ls' := [some (.ref v0), some (.int v1), some (.int v2), some (.int v3), some (.int v4), some (.int v5), some (.int v6), some (.int (0 : Int32)), none, none]) (ft230 33 rfl) rfl ?_
        refine rn_iconst (v := (0 : Int32)) (ft230 34 rfl) (by decide) ?_
        refine rn_istore (ls' := [some (.ref v0), some (.int v1), some (.int v2), some (.int v3), some (.int v4), some (.int v5), some (.int v6), some (.int (0 : Int32)), some (.int (0 : Int32)), none]) (ft230 35 rfl) rfl ?_
        refine rn_iconst (v := (0 : Int32)) (ft230 36 rfl) (by decide) ?_
        refine rn_istore (ls' := [some (.ref v0), some (.int v1), some (.int v2), some (.int v3), some (.int v4), some (.int v5), some (.int v6), some (.int (0 : Int32)), some (.int (0 : Int32)), some (.int (0 : Int32))]) (ft230 37 rfl) rfl ?_
        refine rn_forget (ls := [some (.ref v0), some (.int v1), some (.int v2), some (.int v3), some (.int v4), some (.int v5), some (.int v6), some (.int (0 : Int32)), some (.int (0 : Int32)), some (.int (0 : Int32))]) (And.intro rfl (And.intro rfl (And.intro rfl (And.intro rfl (And.intro rfl (And.intro rfl (And.intro rfl (And.intro rfl (And.intro rfl (And.intro rfl trivial)))))))))) (rf230_H69 n (fun (v0 : Nat) (v1 : Int32) (v2 : Int32) (v3 : Int32) (v4 : Int32) (v5 : Int32) (v6 : Int32) w => f230_H44 n  K24 k v0 v1 v2 v3 v4 v5 v6 w) K24 _ hrec24 hK24 (fun e0_27 e1_27 e2_27 e3_27 e4_27 e5_27 e6_27 e7_27 w27 o h => ?_) n v0 v1 v2 v3 v4 v5 v6 (0 : Int32) (0 : Int32) (0 : Int32) w _ h)
        exact rn_forget (ls := [some (.ref e0_27), some (.int e1_27), some (.int e2_27), some (.int e3_27), some (.int e4_27), some (.int e5_27), some (.int e6_27), some (.int e7_27), none, none]) (And.intro rfl (And.intro rfl (And.intro rfl (And.intro rfl (And.intro rfl (And.intro rfl (And.intro rfl (And.intro rfl trivial)))))))) (rf230_J137 n (fun (v0 : Nat) (v1 : Int32) (v2 : Int32) (v3 : Int32) (v4 : Int32) (v5 : Int32) (v6 : Int32) w => f230_H44 n  K24 k v0 v1 v2 v3 v4 v5 v6 w) K24 e0_27 e1_27 e2_27 e3_27 e4_27 e5_27 e6_27 e7_27 w27 _ hrec24 hK24 h)
def f230 (n : Nat) (v0 : Nat) (v1 : Int32) (v2 : Int32) (v3 : Int32) (w : Wd) : Option (Int32 × Wd) :=
  (if (wsh w v0).map (fun q => q.1) = some 11 then ob (f119 v0 v1 w) (fun p1 => (if ¬ p1.1 = 0 then ob (f131 v2 p1.2) (fun p3 => (if ¬ p3.1 = 0 then (if (wsh p3.2 v0).map (fun q => q.1) = some 11 then ob (f215 n v0 v1 v2 (1 : Int32) p3.2) (fun p5 => ob (getI p5 11 v0 0) (fun x7 => ob (getI p5 11 v0 1) (fun x9 => f230_H44 n  (fun  (w36 : Wd) => some ((9 : Int32), w36)) n v0 v1 v2 v3 x7 x9 (0 : Int32) p5))) else none)
      else some ((-1000002 : Int32), p3.2)))
    else some ((-1000001 : Int32), p1.2))) else none)
set_option maxRecDepth 10000 in
theorem r230 {S : Sc} (n : Nat) (v0 : Nat) (v1 : Int32) (v2 : Int32) (v3 : Int32) (w : Wd) (o : (Int32 × Wd)) (h : f230 n v0 v1 v2 v3 w = some o) : Rn S 230 0 [some (.ref v0), some (.int v1), some (.int v2), some (.int v3), none, none, none, none, none, none] [] w (some (.int o.1), o.2) := by
  unfold f230 at h
  refine rn_aload_n (ft230 0 rfl) rfl ?_
  refine rn_iload_n (ft230 1 rfl) rfl ?_
  obtain ⟨g40, h⟩ := ifg h
  obtain ⟨p1, q2, h⟩ := ob_some h
  refine rn_callV (as := [.int v1]) (k0 := v0) (r := []) (v := (some (.int p1.1))) (w1 := p1.2) (ft230 2 rfl) (by decide +kernel) rfl (Nat.le_of_ble_eq_true rfl) (Nat.le_of_ble_eq_true rfl) (r119 v0 v1 w _ q2) (by decide +kernel) g40 ?_
  by_cases c39 : ¬ p1.1 = 0
  · replace h := ifp c39 h
    refine rn_if_ne_t (ft230 3 rfl) c39 ?_
    refine rn_iload_n (ft230 6 rfl) rfl ?_
    obtain ⟨p3, q4, h⟩ := ob_some h
    refine rn_callS (as := [.int v2]) (r := []) (v := (some (.int p3.1))) (w1 := p3.2) (ft230 7 rfl) (by decide +kernel) rfl (Nat.le_of_ble_eq_true rfl) (Nat.le_of_ble_eq_true rfl) (r131 v2 p1.2 _ q4) ?_
    by_cases c38 : ¬ p3.1 = 0
    · replace h := ifp c38 h
      refine rn_if_ne_t (ft230 8 rfl) c38 ?_
      refine rn_aload_n (ft230 11 rfl) rfl ?_
      refine rn_iload_n (ft230 12 rfl) rfl ?_
      refine rn_iload_n (ft230 13 rfl) rfl ?_
      refine rn_iconst (v := (1 : Int32)) (ft230 14 rfl) (by decide) ?_
      obtain ⟨g37, h⟩ := ifg h
      obtain ⟨p5, q6, h⟩ := ob_some h
      refine rn_callV (as := [.int v1, .int v2, .int (1 : Int32)]) (k0 := v0) (r := []) (v := none) (w1 := p5) (ft230 15 rfl) (by decide +kernel) rfl (Nat.le_of_ble_eq_true rfl) (Nat.le_of_ble_eq_true rfl) (r215 n v0 v1 v2 (1 : Int32) p3.2 _ q6) (by decide +kernel) g37 ?_
      refine rn_aload_n (ft230 16 rfl) rfl ?_
      obtain ⟨x7, q8, h⟩ := ob_some h
      refine rn_getI (ft230 17 rfl) (by decide) (by decide) q8 ?_
      refine rn_istore (ls' := [some (.ref v0), some (.int v1), some (.int v2), some (.int v3), some (.int x7), none, none, none, none, none]) (ft230 18 rfl) rfl ?_
      refine rn_aload_n (ft230 19 rfl) rfl ?_
      obtain ⟨x9, q10, h⟩ := ob_some h
      refine rn_getI (ft230 20 rfl) (by decide) (by decide) q10 ?_
      refine rn_istore (ls' := [some (.ref v0), some (.int v1), some (.int v2), some (.int v3), some (.int x7), some (.int x9), none, none, none, none]) (ft230 21 rfl) rfl ?_
      refine rn_iconst (v := (0 : Int32)) (ft230 22 rfl) (by decide) ?_
      refine rn_istore (ls' := [some (.ref v0), some (.int v1), some (.int v2), some (.int v3), some (.int x7), some (.int x9), some (.int (0 : Int32)), none, none, none]) (ft230 23 rfl) rfl ?_
      refine rn_forget (ls := [some (.ref v0), some (.int v1), some (.int v2), some (.int v3), some (.int x7), some (.int x9), some (.int (0 : Int32)), none, none, none]) (And.intro rfl (And.intro rfl (And.intro rfl (And.intro rfl (And.intro rfl (And.intro rfl (And.intro rfl trivial))))))) (rf230_H44 n  _  (fun  w36 o h => ?_) n v0 v1 v2 v3 x7 x9 (0 : Int32) p5 _ h)
      refine rn_bipush (v := (9 : Int32)) (ft230 91 rfl) (by decide) ?_
      cases h
      exact rn_iretI pr230 (ft230 92 rfl)
    · replace h := ifn c38 h
      refine rn_if_ne_f (ft230 8 rfl) c38 ?_
      refine rn_ldc (v := (-1000002 : Int32)) (ft230 9 rfl) (by decide) rfl ?_
      cases h
      exact rn_iretI pr230 (ft230 10 rfl)
  · replace h := ifn c39 h
    refine rn_if_ne_f (ft230 3 rfl) c39 ?_
    refine rn_ldcw (v := (-1000001 : Int32)) (ft230 4 rfl) (by decide) ?_
    cases h
    exact rn_iretI pr230 (ft230 5 rfl)
/-- NineWheelModel.voyage(III)I -/
theorem ft231 : ∀ (i : Nat) {q : Nat × XI}, cd231[i]? = some q → fetch 231 q.1 = some q.2 := ft_of (by decide +kernel)
theorem pr231 : pRt 231 = some .int := rfl
def f231_H60 (n : Nat)  (K31 : Nat → Wd → Option (Int32 × Wd)) : Nat → Nat → Int32 → Int32 → Wd → Option (Int32 × Wd)
  | 0, _, _, _, _ => none
  | k + 1, v0, v2, v3, w =>
    ob (getI w 11 v0 53) (fun x17 => (if v3 ≤ x17 then K31 v0 w
      else ob (getI w 11 v0 52) (fun x19 => (if 0 ≤ x19 then K31 v0 w
        else ob (getR w 11 v0 48) (fun x21 => ob (getI w 11 v0 53) (fun x23 => ob (aldI w x21 x23) (fun x25 => ob (getR w 11 v0 49) (fun x27 => ob (getI w 11 v0 53) (fun x29 => ob (aldI w x27 x29) (fun x31 => ob (getI w 11 v0 53) (fun x33 => (if (wsh w v0).map (fun q => q.1) = some 11 then ob (f216 n v0 x25 x31 x33 v2 w) (fun p35 => ob (getR p35.2 11 v0 48) (fun x37 => ob (getI p35.2 11 v0 53) (fun x39 => ob (aldI p35.2 x37 x39) (fun x41 => ob (getR p35.2 11 v0 49) (fun x43 => ob (getI p35.2 11 v0 53) (fun x45 => ob (aldI p35.2 x43 x45) (fun x47 => (if (wsh p35.2 v0).map (fun q => q.1) = some 11 then ob (f170 n v0 x41 x47 p35.2) (fun p49 => ob (getI p49.2 11 v0 5) (fun x51 => (if (wsh p49.2 v0).map (fun q => q.1) = some 11 then ob (f194 v0 p35.1 p49.1 x51 p49.2) (fun p53 => (fun (v0 : Nat) (v2 : Int32) (v3 : Int32) w => f231_H60 n  K31 k v0 v2 v3 w) v0 v2 v3 p53) else none))) else none)))))))) else none))))))))))))
set_option maxRecDepth 10000 in
theorem rf231_H60 {S : Sc} (n : Nat)  (K31 : Nat → Wd → Option (Int32 × Wd))  (hK31 : ∀ (y0 : Nat) (w : Wd) (o : (Int32 × Wd)), K31 y0 w = some o → Rn S 231 139 [some (.ref y0), none, none, none, none] [] w (some (.int o.1), o.2)) : ∀ (k : Nat) (v0 : Nat) (v2 : Int32) (v3 : Int32) (w : Wd) (o : (Int32 × Wd)), f231_H60 n  K31 k v0 v2 v3 w = some o → Rn S 231 60 [some (.ref v0), none, some (.int v2), some (.int v3), none] [] w (some (.int o.1), o.2) := by
  intro k
  induction k with
  | zero =>
    intro v0 v2 v3 w o h
    exact nomatch h
  | succ k ih =>
    intro v0 v2 v3 w o h
    have hrec31 : ∀ (y0 : Nat) (y2 : Int32) (y3 : Int32) (w : Wd) (o : (Int32 × Wd)), (fun (v0 : Nat) (v2 : Int32) (v3 : Int32) w => f231_H60 n  K31 k v0 v2 v3 w) y0 y2 y3 w = some o → Rn S 231 60 [some (.ref y0), none, some (.int y2), some (.int y3), none] [] w (some (.int o.1), o.2) := fun y0 y2 y3 w o h => ih y0 y2 y3 w o h
    unfold f231_H60 at h
    refine rn_aload_n (ft231 31 rfl) rfl ?_
    obtain ⟨x17, q18, h⟩ := ob_some h
    refine rn_getI (ft231 32 rfl) (by decide) (by decide) q18 ?_
    refine rn_iload_n (ft231 33 rfl) rfl ?_
    by_cases c59 : v3 ≤ x17
    · replace h := ifp c59 h
      refine rn_icmp_ge_t (ft231 34 rfl) c59 ?_
      exact rn_forget (ls := [some (.ref v0), none, none, none, none]) (And.intro rfl trivial) (hK31 v0 w _ h)
    · replace h := ifn c59 h
      refine rn_icmp_ge_f (ft231 34 rfl) c59 ?_
      refine rn_aload_n (ft231 35 rfl) rfl ?_
      obtain ⟨x19, q20, h⟩ := ob_some h
      refine rn_getI (ft231 36 rfl) (by decide) (by decide) q20 ?_
      by_cases c58 : 0 ≤ x19
      · replace h := ifp c58 h
        refine rn_if_ge_t (ft231 37 rfl) c58 ?_
        exact rn_forget (ls := [some (.ref v0), none, none, none, none]) (And.intro rfl trivial) (hK31 v0 w _ h)
      · replace h := ifn c58 h
        refine rn_if_ge_f (ft231 37 rfl) c58 ?_
        refine rn_aload_n (ft231 38 rfl) rfl ?_
        refine rn_aload_n (ft231 39 rfl) rfl ?_
        obtain ⟨x21, q22, h⟩ := ob_some h
        refine rn_getR (ft231 40 rfl) q22 ?_
        refine rn_aload_n (ft231 41 rfl) rfl ?_
        obtain ⟨x23, q24, h⟩ := ob_some h
        refine rn_getI (ft231 42 rfl) (by decide) (by decide) q24 ?_
        obtain ⟨x25, q26, h⟩ := ob_some h
        refine rn_iaload (ft231 43 rfl) q26 ?_
        refine rn_aload_n (ft231 44 rfl) rfl ?_
        obtain ⟨x27, q28, h⟩ := ob_some h
        refine rn_getR (ft231 45 rfl) q28 ?_
        refine rn_aload_n (ft231 46 rfl) rfl ?_
        obtain ⟨x29, q30, h⟩ := ob_some h
        refine rn_getI (ft231 47 rfl) (by decide) (by decide) q30 ?_
        obtain ⟨x31, q32, h⟩ := ob_some h
        refine rn_iaload (ft231 48 rfl) q32 ?_
        refine rn_aload_n (ft231 49 rfl) rfl ?_
        obtain ⟨x33, q34, h⟩ := ob_some h
        refine rn_getI (ft231 50 rfl) (by decide) (by decide) q34 ?_
        refine rn_iload_n (ft231 51 rfl) rfl ?_
        obtain ⟨g57, h⟩ := ifg h
        obtain ⟨p35, q36, h⟩ := ob_some h
        refine rn_callV (as := [.int x25, .int x31, .int x33, .int v2]) (k0 := v0) (r := []) (v := (some (.int p35.1))) (w1 := p35.2) (ft231 52 rfl) (by decide +kernel) rfl (Nat.le_of_ble_eq_true rfl) (Nat.le_of_ble_eq_true rfl) (r216 n v0 x25 x31 x33 v2 w _ q36) (by decide +kernel) g57 ?_
        refine rn_istore (ls' := [some (.ref v0), none, some (.int v2), some (.int v3), some (.int p35.1)]) (ft231 53 rfl) rfl ?_
        refine rn_aload_n (ft231 54 rfl) rfl ?_
        refine rn_iload (ft231 55 rfl) rfl ?_
        refine rn_aload_n (ft231 56 rfl) rfl ?_
        refine rn_aload_n (ft231 57 rfl) rfl ?_
        obtain ⟨x37, q38, h⟩ := ob_some h
        refine rn_getR (ft231 58 rfl) q38 ?_
        refine rn_aload_n (ft231 59 rfl) rfl ?_
        obtain ⟨x39, q40, h⟩ := ob_some h
        refine rn_getI (ft231 60 rfl) (by decide) (by decide) q40 ?_
        obtain ⟨x41, q42, h⟩ := ob_some h
        refine rn_iaload (ft231 61 rfl) q42 ?_
        refine rn_aload_n (ft231 62 rfl) rfl ?_
        obtain ⟨x43, q44, h⟩ := ob_some h
        refine rn_getR (ft231 63 rfl) q44 ?_
        refine rn_aload_n (ft231 64 rfl) rfl ?_
        obtain ⟨x45, q46, h⟩ := ob_some h
        refine rn_getI (ft231 65 rfl) (by decide) (by decide) q46 ?_
        obtain ⟨x47, q48, h⟩ := ob_some h
        refine rn_iaload (ft231 66 rfl) q48 ?_
        obtain ⟨g56, h⟩ := ifg h
        obtain ⟨p49, q50, h⟩ := ob_some h
        refine rn_callV (as := [.int x41, .int x47]) (k0 := v0) (r := [.int p35.1, .ref v0]) (v := (some (.int p49.1))) (w1 := p49.2) (ft231 67 rfl) (by decide +kernel) rfl (Nat.le_of_ble_eq_true rfl) (Nat.le_of_ble_eq_true rfl) (r170 n v0 x41 x47 p35.2 _ q50) (by decide +kernel) g56 ?_
        refine rn_aload_n (ft231 68 rfl) rfl ?_
        obtain ⟨x51, q52, h⟩ := ob_some h
        refine rn_getI (ft231 69 rfl) (by decide) (by decide) q52 ?_
        obtain ⟨g55, h⟩ := ifg h
        obtain ⟨p53, q54, h⟩ := ob_some h
        refine rn_callV (as := [.int p35.1, .int p49.1, .int x51]) (k0 := v0) (r := []) (v := none) (w1 := p53) (ft231 70 rfl) (by decide +kernel) rfl (Nat.le_of_ble_eq_true rfl) (Nat.le_of_ble_eq_true rfl) (r194 v0 p35.1 p49.1 x51 p49.2 _ q54) (by decide +kernel) g55 ?_
        refine rn_goto (ft231 71 rfl) ?_
        exact rn_forget (ls := [some (.ref v0), none, some (.int v2), some (.int v3), none]) (And.intro rfl (And.intro rfl (And.intro rfl trivial))) (hrec31 v0 v2 v3 p53 _ h)
def f231_J139 (n : Nat)  (v0 : Nat) (w : Wd) : Option (Int32 × Wd) :=
  ob (getR w 11 v0 48) (fun x61 => ob (getI w 11 v0 53) (fun x63 => ob (aldI w x61 x63) (fun x65 => some (x65, w))))
set_option maxRecDepth 10000 in
theorem rf231_J139 {S : Sc} (n : Nat)  (v0 : Nat) (w : Wd) (o : (Int32 × Wd))  (h : f231_J139 n  v0 w = some o) : Rn S 231 139 [some (.ref v0), none, none, none, none] [] w (some (.int o.1), o.2) := by
  unfold f231_J139 at h
  refine rn_aload_n (ft231 72 rfl) rfl ?_
  obtain ⟨x61, q62, h⟩ := ob_some h
  refine rn_getR (ft231 73 rfl) q62 ?_
  refine rn_aload_n (ft231 74 rfl) rfl ?_
  obtain ⟨x63, q64, h⟩ := ob_some h
  refine rn_getI (ft231 75 rfl) (by decide) (by decide) q64 ?_
  obtain ⟨x65, q66, h⟩ := ob_some h
  refine rn_iaload (ft231 76 rfl) q66 ?_
  cases h
  exact rn_iretI pr231 (ft231 77 rfl)
def f231 (n : Nat) (v0 : Nat) (v1 : Int32) (v2 : Int32) (v3 : Int32) (w : Wd) : Option (Int32 × Wd) :=
  (if (wsh w v0).map (fun q => q.1) = some 11 then ob (f126 v0 v1 w) (fun p1 => (if ¬ p1.1 = 0 then ob (f40 (Int32.toInt64 v2) (0 : Int64) (100 : Int64) p1.2) (fun p3 => (if p3.1 = 0 then some ((-1000002 : Int32), p3.2)
      else ob (f40 (Int32.toInt64 v3) (1 : Int64) (99 : Int64) p3.2) (fun p5 => (if ¬ p5.1 = 0 then (if (wsh p5.2 v0).map (fun q => q.1) = some 11 then ob (f54 v0 v1 p5.2) (fun p7 => ob (getI p7 11 v0 0) (fun x9 => ob (getI p7 11 v0 1) (fun x11 => ob (getI p7 11 v0 5) (fun x13 => (if (wsh p7 v0).map (fun q => q.1) = some 11 then ob (f57 v0 x9 x11 x13 p7) (fun p15 => f231_H60 n  (fun (e0_60 : Nat) (w60 : Wd) => f231_J139 n  e0_60 w60) n v0 v2 v3 p15) else none))))) else none)
        else some ((-1000002 : Int32), p5.2)))))
    else some ((-1000001 : Int32), p1.2))) else none)
set_option maxRecDepth 10000 in
theorem r231 {S : Sc} (n : Nat) (v0 : Nat) (v1 : Int32) (v2 : Int32) (v3 : Int32) (w : Wd) (o : (Int32 × Wd)) (h : f231 n v0 v1 v2 v3 w = some o) : Rn S 231 0 [some (.ref v0), some (.int v1), some (.int v2), some (.int v3), none] [] w (some (.int o.1), o.2) := by
  unfold f231 at h
  refine rn_aload_n (ft231 0 rfl) rfl ?_
  refine rn_iload_n (ft231 1 rfl) rfl ?_
  obtain ⟨g72, h⟩ := ifg h
  obtain ⟨p1, q2, h⟩ := ob_some h
  refine rn_callV (as := [.int v1]) (k0 := v0) (r := []) (v := (some (.int p1.1))) (w1 := p1.2) (ft231 2 rfl) (by decide +kernel) rfl (Nat.le_of_ble_eq_true rfl) (Nat.le_of_ble_eq_true rfl) (r126 v0 v1 w _ q2) (by decide +kernel) g72 ?_
  by_cases c71 : ¬ p1.1 = 0
  · replace h := ifp c71 h
    refine rn_if_ne_t (ft231 3 rfl) c71 ?_
    refine rn_iload_n (ft231 6 rfl) rfl ?_
    refine rn_i2l (ft231 7 rfl) ?_
    refine rn_lconst (v := (0 : Int64)) (ft231 8 rfl) (by decide) ?_
    refine rn_ldc2 (v := (100 : Int64)) (ft231 9 rfl) (by decide) ?_
    obtain ⟨p3, q4, h⟩ := ob_some h
    refine rn_callS (as := [.long (Int32.toInt64 v2), .long (0 : Int64), .long (100 : Int64)]) (r := []) (v := (some (.int p3.1))) (w1 := p3.2) (ft231 10 rfl) (by decide +kernel) rfl (Nat.le_of_ble_eq_true rfl) (Nat.le_of_ble_eq_true rfl) (r40 (Int32.toInt64 v2) (0 : Int64) (100 : Int64) p1.2 _ q4) ?_
    by_cases c70 : p3.1 = 0
    · replace h := ifp c70 h
      refine rn_if_eq_t (ft231 11 rfl) c70 ?_
      refine rn_ldc (v := (-1000002 : Int32)) (ft231 18 rfl) (by decide) rfl ?_
      cases h
      exact rn_iretI pr231 (ft231 19 rfl)
    · replace h := ifn c70 h
      refine rn_if_eq_f (ft231 11 rfl) c70 ?_
      refine rn_iload_n (ft231 12 rfl) rfl ?_
      refine rn_i2l (ft231 13 rfl) ?_
      refine rn_lconst (v := (1 : Int64)) (ft231 14 rfl) (by decide) ?_
      refine rn_ldc2 (v := (99 : Int64)) (ft231 15 rfl) (by decide) ?_
      obtain ⟨p5, q6, h⟩ := ob_some h
      refine rn_callS (as := [.long (Int32.toInt64 v3), .long (1 : Int64), .long (99 : Int64)]) (r := []) (v := (some (.int p5.1))) (w1 := p5.2) (ft231 16 rfl) (by decide +kernel) rfl (Nat.le_of_ble_eq_true rfl) (Nat.le_of_ble_eq_true rfl) (r40 (Int32.toInt64 v3) (1 : Int64) (99 : Int64) p3.2 _ q6) ?_
      by_cases c69 : ¬ p5.1 = 0
      · replace h := ifp c69 h
        refine rn_if_ne_t (ft231 17 rfl) c69 ?_
        refine rn_aload_n (ft231 20 rfl) rfl ?_
        refine rn_iload_n (ft231 21 rfl) rfl ?_
        obtain ⟨g68, h⟩ := ifg h
        obtain ⟨p7, q8, h⟩ := ob_some h
        refine rn_callV (as := [.int v1]) (k0 := v0) (r := []) (v := none) (w1 := p7) (ft231 22 rfl) (by decide +kernel) rfl (Nat.le_of_ble_eq_true rfl) (Nat.le_of_ble_eq_true rfl) (r54 v0 v1 p5.2 _ q8) (by decide +kernel) g68 ?_
        refine rn_aload_n (ft231 23 rfl) rfl ?_
        refine rn_aload_n (ft231 24 rfl) rfl ?_
        obtain ⟨x9, q10, h⟩ := ob_some h
        refine rn_getI (ft231 25 rfl) (by decide) (by decide) q10 ?_
        refine rn_aload_n (ft231 26 rfl) rfl ?_
        obtain ⟨x11, q12, h⟩ := ob_some h
        refine rn_getI (ft231 27 rfl) (by decide) (by decide) q12 ?_
        refine rn_aload_n (ft231 28 rfl) rfl ?_
        obtain ⟨x13, q14, h⟩ := ob_some h
        refine rn_getI (ft231 29 rfl) (by decide) (by decide) q14 ?_
        obtain ⟨g67, h⟩ := ifg h
        obtain ⟨p15, q16, h⟩ := ob_some h
        refine rn_callV (as := [.int x9, .int x11, .int x13]) (k0 := v0) (r := []) (v := none) (w1 := p15) (ft231 30 rfl) (by decide +kernel) rfl (Nat.le_of_ble_eq_true rfl) (Nat.le_of_ble_eq_true rfl) (r57 v0 x9 x11 x13 p7 _ q16) (by decide +kernel) g67 ?_
        refine rn_forget (ls := [some (.ref v0), none, some (.int v2), some (.int v3), none]) (And.intro rfl (And.intro rfl (And.intro rfl trivial))) (rf231_H60 n  _  (fun e0_60 w60 o h => ?_) n v0 v2 v3 p15 _ h)
        exact rn_forget (ls := [some (.ref e0_60), none, none, none, none]) (And.intro rfl trivial) (rf231_J139 n  e0_60 w60 _  h)
      · replace h := ifn c69 h
        refine rn_if_ne_f (ft231 17 rfl) c69 ?_
        refine rn_ldc (v := (-1000002 : Int32)) (ft231 18 rfl) (by decide) rfl ?_
        cases h
        exact rn_iretI pr231 (ft231 19 rfl)
  · replace h := ifn c71 h
    refine rn_if_ne_f (ft231 3 rfl) c71 ?_
    refine rn_ldcw (v := (-1000001 : Int32)) (ft231 4 rfl) (by decide) ?_
    cases h
    exact rn_iretI pr231 (ft231 5 rfl)
/-- NineWheel$SeaReader.read()V -/
theorem ft232 : ∀ (i : Nat) {q : Nat × XI}, cd232[i]? = some q → fetch 232 q.1 = some q.2 := ft_of (by decide +kernel)
theorem pr232 : pRt 232 = none := rfl
def f232_H14 (n : Nat)  (K8 : Nat → Wd → Option Wd) : Nat → Nat → Int32 → Wd → Option Wd
  | 0, _, _, _ => none
  | k + 1, v0, v1, w =>
    (if (300 : Int32) ≤ v1 then K8 v0 w
      else ob (getR w 7 v0 0) (fun x7 => ob (getI w 9 x7 4) (fun x9 => (if ¬ x9 = 0 then K8 v0 w
        else ob (getR w 7 v0 0) (fun x11 => (if (wsh w x11).map (fun q => q.1) = some 9 then ob (f138 n x11 w) (fun p13 => (if ¬ p13.1 = 0 then K8 v0 p13.2
          else ob (getR p13.2 7 v0 0) (fun x15 => ob (getI p13.2 9 x15 2) (fun x17 => (if (wsh p13.2 v0).map (fun q => q.1) = some 7 then ob (f217 n v0 x17 p13.2) (fun p19 => ob (getR p19 7 v0 0) (fun x21 => (if (wsh p19 x21).map (fun q => q.1) = some 9 then ob (f141 n x21 (59 : Int32) p19) (fun p23 => (if ¬ p23.1 = 0 then (fun (v0 : Nat) (v1 : Int32) w => f232_H14 n  K8 k v0 v1 w) v0 (v1 + (1 : Int32)) p23.2
            else ob (getR p23.2 7 v0 0) (fun x25 => ob (getR p23.2 7 v0 0) (fun x27 => ob (getI p23.2 9 x27 2) (fun x29 => (if (wsh p23.2 x25).map (fun q => q.1) = some 9 then ob (f8 x25 (1 : Int32) x29 p23.2) (fun p31 => (fun (v0 : Nat) (v1 : Int32) w => f232_H14 n  K8 k v0 v1 w) v0 (v1 + (1 : Int32)) p31) else none)))))) else none))) else none))))) else none))))))
set_option maxRecDepth 10000 in
theorem rf232_H14 {S : Sc} (n : Nat)  (K8 : Nat → Wd → Option Wd)  (hK8 : ∀ (y0 : Nat) (w : Wd) (o : Wd), K8 y0 w = some o → Rn S 232 85 [some (.ref y0), none] [] w (none, o)) : ∀ (k : Nat) (v0 : Nat) (v1 : Int32) (w : Wd) (o : Wd), f232_H14 n  K8 k v0 v1 w = some o → Rn S 232 14 [some (.ref v0), some (.int v1)] [] w (none, o) := by
  intro k
  induction k with
  | zero =>
    intro v0 v1 w o h
    exact nomatch h
  | succ k ih =>
    intro v0 v1 w o h
    have hrec8 : ∀ (y0 : Nat) (y1 : Int32) (w : Wd) (o : Wd), (fun (v0 : Nat) (v1 : Int32) w => f232_H14 n  K8 k v0 v1 w) y0 y1 w = some o → Rn S 232 14 [some (.ref y0), some (.int y1)] [] w (none, o) := fun y0 y1 w o h => ih y0 y1 w o h
    unfold f232_H14 at h
    refine rn_iload_n (ft232 8 rfl) rfl ?_
    refine rn_sipush (v := (300 : Int32)) (ft232 9 rfl) (by decide) ?_
    by_cases c40 : (300 : Int32) ≤ v1
    · replace h := ifp c40 h
      refine rn_icmp_ge_t (ft232 10 rfl) c40 ?_
      exact rn_forget (ls := [some (.ref v0), none]) (And.intro rfl trivial) (hK8 v0 w _ h)
    · replace h := ifn c40 h
      refine rn_icmp_ge_f (ft232 10 rfl) c40 ?_
      refine rn_aload_n (ft232 11 rfl) rfl ?_
      obtain ⟨x7, q8, h⟩ := ob_some h
      refine rn_getR (ft232 12 rfl) q8 ?_
      obtain ⟨x9, q10, h⟩ := ob_some h
      refine rn_getI (ft232 13 rfl) (by decide) (by decide) q10 ?_
      by_cases c39 : ¬ x9 = 0
      · replace h := ifp c39 h
        refine rn_if_ne_t (ft232 14 rfl) c39 ?_
        exact rn_forget (ls := [some (.ref v0), none]) (And.intro rfl trivial) (hK8 v0 w _ h)
      · replace h := ifn c39 h
        refine rn_if_ne_f (ft232 14 rfl) c39 ?_
        refine rn_aload_n (ft232 15 rfl) rfl ?_
        obtain ⟨x11, q12, h⟩ := ob_some h
        refine rn_getR (ft232 16 rfl) q12 ?_
        obtain ⟨g38, h⟩ := ifg h
        obtain ⟨p13, q14, h⟩ := ob_some h
        refine rn_callV (as := []) (k0 := x11) (r := []) (v := (some (.int p13.1))) (w1 := p13.2) (ft232 17 rfl) (by decide +kernel) rfl (Nat.le_of_ble_eq_true rfl) (Nat.le_of_ble_eq_true rfl) (r138 n x11 w _ q14) (by decide +kernel) g38 ?_
        by_cases c37 : ¬ p13.1 = 0
        · replace h := ifp c37 h
          refine rn_if_ne_t (ft232 18 rfl) c37 ?_
          exact rn_forget (ls := [some (.ref v0), none]) (And.intro rfl trivial) (hK8 v0 p13.2 _ h)
        · replace h := ifn c37 h
          refine rn_if_ne_f (ft232 18 rfl) c37 ?_
          refine rn_aload_n (ft232 19 rfl) rfl ?_
          refine rn_aload_n (ft232 20 rfl) rfl ?_
          obtain ⟨x15, q16, h⟩ := ob_some h
          refine rn_getR (ft232 21 rfl) q16 ?_
          obtain ⟨x17, q18, h⟩ := ob_some h
          refine rn_getI (ft232 22 rfl) (by decide) (by decide) q18 ?_
          obtain ⟨g36, h⟩ := ifg h
          obtain ⟨p19, q20, h⟩ := ob_some h
          refine rn_callV (as := [.int x17]) (k0 := v0) (r := []) (v := none) (w1 := p19) (ft232 23 rfl) (by decide +kernel) rfl (Nat.le_of_ble_eq_true rfl) (Nat.le_of_ble_eq_true rfl) (r217 n v0 x17 p13.2 _ q20) (by decide +kernel) g36 ?_
          refine rn_aload_n (ft232 24 rfl) rfl ?_
          obtain ⟨x21, q22, h⟩ := ob_some h
          refine rn_getR (ft232 25 rfl) q22 ?_
          refine rn_bipush (v := (59 : Int32)) (ft232 26 rfl) (by decide) ?_
          obtain ⟨g35, h⟩ := ifg h
          obtain ⟨p23, q24, h⟩ := ob_some h
          refine rn_callV (as := [.int (59 : Int32)]) (k0 := x21) (r := []) (v := (some (.int p23.1))) (w1 := p23.2) (ft232 27 rfl) (by decide +kernel) rfl (Nat.le_of_ble_eq_true rfl) (Nat.le_of_ble_eq_true rfl) (r141 n x21 (59 : Int32) p19 _ q24) (by decide +kernel) g35 ?_
          by_cases c34 : ¬ p23.1 = 0
          · replace h := ifp c34 h
            refine rn_if_ne_t (ft232 28 rfl) c34 ?_
            refine rn_iinc (u := 1) (ls' := [some (.ref v0), some (.int (v1 + (1 : Int32)))]) (ft232 36 rfl) rfl (by decide) rfl ?_
            refine rn_goto (ft232 37 rfl) ?_
            exact rn_forget (ls := [some (.ref v0), some (.int (v1 + (1 : Int32)))]) (And.intro rfl (And.intro rfl trivial)) (hrec8 v0 (v1 + (1 : Int32)) p23.2 _ h)
          · replace h := ifn c34 h
            refine rn_if_ne_f (ft232 28 rfl) c34 ?_
            refine rn_aload_n (ft232 29 rfl) rfl ?_
            obtain ⟨x25, q26, h⟩ := ob_some h
            refine rn_getR (ft232 30 rfl) q26 ?_
            refine rn_iconst (v := (1 : Int32)) (ft232 31 rfl) (by decide) ?_
            refine rn_aload_n (ft232 32 rfl) rfl ?_
            obtain ⟨x27, q28, h⟩ := ob_some h
            refine rn_getR (ft232 33 rfl) q28 ?_
            obtain ⟨x29, q30, h⟩ := ob_some h
            refine rn_getI (ft232 34 rfl) (by decide) (by decide) q30 ?_
            obtain ⟨g33, h⟩ := ifg h
            obtain ⟨p31, q32, h⟩ := ob_some h
            refine rn_callV (as := [.int (1 : Int32), .int x29]) (k0 := x25) (r := []) (v := none) (w1 := p31) (ft232 35 rfl) (by decide +kernel) rfl (Nat.le_of_ble_eq_true rfl) (Nat.le_of_ble_eq_true rfl) (r8 x25 (1 : Int32) x29 p23.2 _ q32) (by decide +kernel) g33 ?_
            refine rn_iinc (u := 1) (ls' := [some (.ref v0), some (.int (v1 + (1 : Int32)))]) (ft232 36 rfl) rfl (by decide) rfl ?_
            refine rn_goto (ft232 37 rfl) ?_
            exact rn_forget (ls := [some (.ref v0), some (.int (v1 + (1 : Int32)))]) (And.intro rfl (And.intro rfl trivial)) (hrec8 v0 (v1 + (1 : Int32)) p31 _ h)
def f232_J85 (n : Nat)  (v0 : Nat) (w : Wd) : Option Wd :=
  ob (getR w 7 v0 0) (fun x42 => ob (getI w 9 x42 4) (fun x44 => (if ¬ x44 = 0 then some w
    else ob (getR w 7 v0 1) (fun x46 => ob (getR w 7 v0 1) (fun x48 => ob (getI w 6 x48 0) (fun x50 => (if (wsh w x46).map (fun q => q.1) = some 6 then ob (f9 x46 x50 w) (fun p52 => (if p52.1 = 0 then some p52.2
      else ob (getR p52.2 7 v0 0) (fun x54 => ob (getR p52.2 7 v0 0) (fun x56 => ob (getI p52.2 9 x56 1) (fun x58 => (if (wsh p52.2 x54).map (fun q => q.1) = some 9 then ob (f8 x54 (5 : Int32) x58 p52.2) (fun p60 => some p60) else none)))))) else none)))))))
set_option maxRecDepth 10000 in
theorem rf232_J85 {S : Sc} (n : Nat)  (v0 : Nat) (w : Wd) (o : Wd)  (h : f232_J85 n  v0 w = some o) : Rn S 232 85 [some (.ref v0), none] [] w (none, o) := by
  unfold f232_J85 at h
  refine rn_aload_n (ft232 38 rfl) rfl ?_
  obtain ⟨x42, q43, h⟩ := ob_some h
  refine rn_getR (ft232 39 rfl) q43 ?_
  obtain ⟨x44, q45, h⟩ := ob_some h
  refine rn_getI (ft232 40 rfl) (by decide) (by decide) q45 ?_
  by_cases c65 : ¬ x44 = 0
  · replace h := ifp c65 h
    refine rn_if_ne_t (ft232 41 rfl) c65 ?_
    cases h
    exact rn_vret pr232 (ft232 56 rfl)
  · replace h := ifn c65 h
    refine rn_if_ne_f (ft232 41 rfl) c65 ?_
    refine rn_aload_n (ft232 42 rfl) rfl ?_
    obtain ⟨x46, q47, h⟩ := ob_some h
    refine rn_getR (ft232 43 rfl) q47 ?_
    refine rn_aload_n (ft232 44 rfl) rfl ?_
    obtain ⟨x48, q49, h⟩ := ob_some h
    refine rn_getR (ft232 45 rfl) q49 ?_
    obtain ⟨x50, q51, h⟩ := ob_some h
    refine rn_getI (ft232 46 rfl) (by decide) (by decide) q51 ?_
    obtain ⟨g64, h⟩ := ifg h
    obtain ⟨p52, q53, h⟩ := ob_some h
    refine rn_callV (as := [.int x50]) (k0 := x46) (r := []) (v := (some (.int p52.1))) (w1 := p52.2) (ft232 47 rfl) (by decide +kernel) rfl (Nat.le_of_ble_eq_true rfl) (Nat.le_of_ble_eq_true rfl) (r9 x46 x50 w _ q53) (by decide +kernel) g64 ?_
    by_cases c63 : p52.1 = 0
    · replace h := ifp c63 h
      refine rn_if_eq_t (ft232 48 rfl) c63 ?_
      cases h
      exact rn_vret pr232 (ft232 56 rfl)
    · replace h := ifn c63 h
      refine rn_if_eq_f (ft232 48 rfl) c63 ?_
      refine rn_aload_n (ft232 49 rfl) rfl ?_
      obtain ⟨x54, q55, h⟩ := ob_some h
      refine rn_getR (ft232 50 rfl) q55 ?_
      refine rn_iconst (v := (5 : Int32)) (ft232 51 rfl) (by decide) ?_
      refine rn_aload_n (ft232 52 rfl) rfl ?_
      obtain ⟨x56, q57, h⟩ := ob_some h
      refine rn_getR (ft232 53 rfl) q57 ?_
      obtain ⟨x58, q59, h⟩ := ob_some h
      refine rn_getI (ft232 54 rfl) (by decide) (by decide) q59 ?_
      obtain ⟨g62, h⟩ := ifg h
      obtain ⟨p60, q61, h⟩ := ob_some h
      refine rn_callV (as := [.int (5 : Int32), .int x58]) (k0 := x54) (r := []) (v := none) (w1 := p60) (ft232 55 rfl) (by decide +kernel) rfl (Nat.le_of_ble_eq_true rfl) (Nat.le_of_ble_eq_true rfl) (r8 x54 (5 : Int32) x58 p52.2 _ q61) (by decide +kernel) g62 ?_
      cases h
      exact rn_vret pr232 (ft232 56 rfl)
def f232 (n : Nat) (v0 : Nat) (w : Wd) : Option Wd :=
  ob (getR w 7 v0 1) (fun x1 => (if (wsh w x1).map (fun q => q.1) = some 6 then ob (f3 n x1 w) (fun p3 => ob (putI p3 7 v0 2 (0 : Int32)) (fun w5 => f232_H14 n  (fun (e0_41 : Nat) (w41 : Wd) => f232_J85 n  e0_41 w41) n v0 (0 : Int32) w5)) else none))
set_option maxRecDepth 10000 in
theorem r232 {S : Sc} (n : Nat) (v0 : Nat) (w : Wd) (o : Wd) (h : f232 n v0 w = some o) : Rn S 232 0 [some (.ref v0), none] [] w (none, o) := by
  unfold f232 at h
  refine rn_aload_n (ft232 0 rfl) rfl ?_
  obtain ⟨x1, q2, h⟩ := ob_some h
  refine rn_getR (ft232 1 rfl) q2 ?_
  obtain ⟨g66, h⟩ := ifg h
  obtain ⟨p3, q4, h⟩ := ob_some h
  refine rn_callV (as := []) (k0 := x1) (r := []) (v := none) (w1 := p3) (ft232 2 rfl) (by decide +kernel) rfl (Nat.le_of_ble_eq_true rfl) (Nat.le_of_ble_eq_true rfl) (r3 n x1 w _ q4) (by decide +kernel) g66 ?_
  refine rn_aload_n (ft232 3 rfl) rfl ?_
  refine rn_iconst (v := (0 : Int32)) (ft232 4 rfl) (by decide) ?_
  obtain ⟨w5, q6, h⟩ := ob_some h
  refine rn_putI (ft232 5 rfl) q6 ?_
  refine rn_iconst (v := (0 : Int32)) (ft232 6 rfl) (by decide) ?_
  refine rn_istore_n (ls' := [some (.ref v0), some (.int (0 : Int32))]) (ft232 7 rfl) rfl ?_
  refine rn_forget (ls := [some (.ref v0), some (.int (0 : Int32))]) (And.intro rfl (And.intro rfl trivial)) (rf232_H14 n  _  (fun e0_41 w41 o h => ?_) n v0 (0 : Int32) w5 _ h)
  exact rn_forget (ls := [some (.ref e0_41), none]) (And.intro rfl trivial) (rf232_J85 n  e0_41 w41 _  h)
/-- NineWheel.rule()I -/
theorem ft233 : ∀ (i : Nat) {q : Nat × XI}, cd233[i]? = some q → fetch 233 q.1 = some q.2 := ft_of (by decide +kernel)
theorem pr233 : pRt 233 = some .int := rfl
def f233 (n : Nat) (v0 : Nat) (w : Wd) : Option (Int32 × Wd) :=
  ob (getR w 10 v0 0) (fun x1 => ob (getI w 9 x1 1) (fun x3 => (if x3 ≤ (80 : Int32) then ob (getI w 10 v0 6) (fun x5 => (if (4 : Int32) ≤ x5 then some ((-1000004 : Int32), w)
      else ob (getI w 10 v0 6) (fun x7 => ob (getR w 10 v0 4) (fun x9 => ob (alen w x9) (fun x11 => (if x7 < x11 then ob (getR w 10 v0 0) (fun x13 => (if (wsh w x13).map (fun q => q.1) = some 9 then ob (f2 x13 w) (fun p15 => ob (getR p15 10 v0 5) (fun x17 => ob (getR p15 10 v0 0) (fun x19 => (if (wsh p15 x17).map (fun q => q.1) = some 5 then ob (f218 n x17 x19 p15) (fun p21 => ob (getR p21 10 v0 0) (fun x23 => ob (putI p21 9 x23 1 (0 : Int32)) (fun w25 => ob (getR w25 10 v0 0) (fun x27 => ob (getI w25 9 x27 4) (fun x29 => (if x29 = 0 then ob (getR w25 10 v0 4) (fun x31 => ob (getI w25 10 v0 6) (fun x33 => ob (aldR w25 x31 x33) (fun x35 => ob (getR w25 10 v0 5) (fun x37 => (if (wsh w25 x35).map (fun q => q.1) = some 5 then ob (f17 x35 x37 w25) (fun p39 => ob (getI p39 10 v0 6) (fun x41 => ob (putI p39 10 v0 6 (x41 + (1 : Int32))) (fun w43 => some (x41, w43)))) else none)))))
          else ob (getR w25 10 v0 0) (fun x46 => ob (getI w25 9 x46 4) (fun x48 => some (((-10 : Int32) - x48), w25))))))))) else none)))) else none))
        else some ((-1000004 : Int32), w)))))))
    else some ((-1000003 : Int32), w))))
set_option maxRecDepth 10000 in
theorem r233 {S : Sc} (n : Nat) (v0 : Nat) (w : Wd) (o : (Int32 × Wd)) (h : f233 n v0 w = some o) : Rn S 233 0 [some (.ref v0)] [] w (some (.int o.1), o.2) := by
  unfold f233 at h
  refine rn_aload_n (ft233 0 rfl) rfl ?_
  obtain ⟨x1, q2, h⟩ := ob_some h
  refine rn_getR (ft233 1 rfl) q2 ?_
  obtain ⟨x3, q4, h⟩ := ob_some h
  refine rn_getI (ft233 2 rfl) (by decide) (by decide) q4 ?_
  refine rn_bipush (v := (80 : Int32)) (ft233 3 rfl) (by decide) ?_
  by_cases c55 : x3 ≤ (80 : Int32)
  · replace h := ifp c55 h
    refine rn_icmp_le_t (ft233 4 rfl) c55 ?_
    refine rn_aload_n (ft233 7 rfl) rfl ?_
    obtain ⟨x5, q6, h⟩ := ob_some h
    refine rn_getI (ft233 8 rfl) (by decide) (by decide) q6 ?_
    refine rn_iconst (v := (4 : Int32)) (ft233 9 rfl) (by decide) ?_
    by_cases c54 : (4 : Int32) ≤ x5
    · replace h := ifp c54 h
      refine rn_icmp_ge_t (ft233 10 rfl) c54 ?_
      refine rn_ldc (v := (-1000004 : Int32)) (ft233 17 rfl) (by decide) rfl ?_
      cases h
      exact rn_iretI pr233 (ft233 18 rfl)
    · replace h := ifn c54 h
      refine rn_icmp_ge_f (ft233 10 rfl) c54 ?_
      refine rn_aload_n (ft233 11 rfl) rfl ?_
      obtain ⟨x7, q8, h⟩ := ob_some h
      refine rn_getI (ft233 12 rfl) (by decide) (by decide) q8 ?_
      refine rn_aload_n (ft233 13 rfl) rfl ?_
      obtain ⟨x9, q10, h⟩ := ob_some h
      refine rn_getR (ft233 14 rfl) q10 ?_
      obtain ⟨x11, q12, h⟩ := ob_some h
      refine rn_alen (ft233 15 rfl) q12 ?_
      by_cases c53 : x7 < x11
      · replace h := ifp c53 h
        refine rn_icmp_lt_t (ft233 16 rfl) c53 ?_
        refine rn_aload_n (ft233 19 rfl) rfl ?_
        obtain ⟨x13, q14, h⟩ := ob_some h
        refine rn_getR (ft233 20 rfl) q14 ?_
        obtain ⟨g52, h⟩ := ifg h
        obtain ⟨p15, q16, h⟩ := ob_some h
        refine rn_callV (as := []) (k0 := x13) (r := []) (v := none) (w1 := p15) (ft233 21 rfl) (by decide +kernel) rfl (Nat.le_of_ble_eq_true rfl) (Nat.le_of_ble_eq_true rfl) (r2 x13 w _ q16) (by decide +kernel) g52 ?_
        refine rn_aload_n (ft233 22 rfl) rfl ?_
        obtain ⟨x17, q18, h⟩ := ob_some h
        refine rn_getR (ft233 23 rfl) q18 ?_
        refine rn_aload_n (ft233 24 rfl) rfl ?_
        obtain ⟨x19, q20, h⟩ := ob_some h
        refine rn_getR (ft233 25 rfl) q20 ?_
        obtain ⟨g51, h⟩ := ifg h
        obtain ⟨p21, q22, h⟩ := ob_some h
        refine rn_callV (as := [.ref x19]) (k0 := x17) (r := []) (v := none) (w1 := p21) (ft233 26 rfl) (by decide +kernel) rfl (Nat.le_of_ble_eq_true rfl) (Nat.le_of_ble_eq_true rfl) (r218 n x17 x19 p15 _ q22) (by decide +kernel) g51 ?_
        refine rn_aload_n (ft233 27 rfl) rfl ?_
        obtain ⟨x23, q24, h⟩ := ob_some h
        refine rn_getR (ft233 28 rfl) q24 ?_
        refine rn_iconst (v := (0 : Int32)) (ft233 29 rfl) (by decide) ?_
        obtain ⟨w25, q26, h⟩ := ob_some h
        refine rn_putI (ft233 30 rfl) q26 ?_
        refine rn_aload_n (ft233 31 rfl) rfl ?_
        obtain ⟨x27, q28, h⟩ := ob_some h
        refine rn_getR (ft233 32 rfl) q28 ?_
        obtain ⟨x29, q30, h⟩ := ob_some h
        refine rn_getI (ft233 33 rfl) (by decide) (by decide) q30 ?_
        by_cases c50 : x29 = 0
        · replace h := ifp c50 h
          refine rn_if_eq_t (ft233 34 rfl) c50 ?_
          refine rn_aload_n (ft233 41 rfl) rfl ?_
          obtain ⟨x31, q32, h⟩ := ob_some h
          refine rn_getR (ft233 42 rfl) q32 ?_
          refine rn_aload_n (ft233 43 rfl) rfl ?_
          obtain ⟨x33, q34, h⟩ := ob_some h
          refine rn_getI (ft233 44 rfl) (by decide) (by decide) q34 ?_
          obtain ⟨x35, q36, h⟩ := ob_some h
          refine rn_aaload (ft233 45 rfl) q36 ?_
          refine rn_aload_n (ft233 46 rfl) rfl ?_
          obtain ⟨x37, q38, h⟩ := ob_some h
          refine rn_getR (ft233 47 rfl) q38 ?_
          obtain ⟨g45, h⟩ := ifg h
          obtain ⟨p39, q40, h⟩ := ob_some h
          refine rn_callV (as := [.ref x37]) (k0 := x35) (r := []) (v := none) (w1 := p39) (ft233 48 rfl) (by decide +kernel) rfl (Nat.le_of_ble_eq_true rfl) (Nat.le_of_ble_eq_true rfl) (r17 x35 x37 w25 _ q40) (by decide +kernel) g45 ?_
          refine rn_aload_n (ft233 49 rfl) rfl ?_
          refine rn_dup (ft233 50 rfl) rfl ?_
          obtain ⟨x41, q42, h⟩ := ob_some h
          refine rn_getI (ft233 51 rfl) (by decide) (by decide) q42 ?_
          refine rn_dup_x1 (ft233 52 rfl) rfl rfl ?_
          refine rn_iconst (v := (1 : Int32)) (ft233 53 rfl) (by decide) ?_
          refine rn_iadd (ft233 54 rfl) ?_
          obtain ⟨w43, q44, h⟩ := ob_some h
          refine rn_putI (ft233 55 rfl) q44 ?_
          cases h
          exact rn_iretI pr233 (ft233 56 rfl)
        · replace h := ifn c50 h
          refine rn_if_eq_f (ft233 34 rfl) c50 ?_
          refine rn_bipush (v := (-10 : Int32)) (ft233 35 rfl) (by decide) ?_
          refine rn_aload_n (ft233 36 rfl) rfl ?_
          obtain ⟨x46, q47, h⟩ := ob_some h
          refine rn_getR (ft233 37 rfl) q47 ?_
          obtain ⟨x48, q49, h⟩ := ob_some h
          refine rn_getI (ft233 38 rfl) (by decide) (by decide) q49 ?_
          refine rn_isub (ft233 39 rfl) ?_
          obtain rfl := Option.some.inj h
          exact rn_iretI pr233 (ft233 40 rfl)
      · replace h := ifn c53 h
        refine rn_icmp_lt_f (ft233 16 rfl) c53 ?_
        refine rn_ldc (v := (-1000004 : Int32)) (ft233 17 rfl) (by decide) rfl ?_
        cases h
        exact rn_iretI pr233 (ft233 18 rfl)
  · replace h := ifn c55 h
    refine rn_icmp_le_f (ft233 4 rfl) c55 ?_
    refine rn_ldc (v := (-1000003 : Int32)) (ft233 5 rfl) (by decide) rfl ?_
    cases h
    exact rn_iretI pr233 (ft233 6 rfl)
/-- NineWheel.run(II)I -/
theorem ft234 : ∀ (i : Nat) {q : Nat × XI}, cd234[i]? = some q → fetch 234 q.1 = some q.2 := ft_of (by decide +kernel)
theorem pr234 : pRt 234 = some .int := rfl
def f234 (n : Nat) (v0 : Nat) (v1 : Int32) (v2 : Int32) (w : Wd) : Option (Int32 × Wd) :=
  (if (wsh w v0).map (fun q => q.1) = some 10 then ob (f98 v0 v1 w) (fun p1 => (if p1.1 = 0 then ob (f0 v2 (0 : Int32) (2 : Int32) p1.2) (fun p3 => (if p3.1 = 0 then ob (getR p3.2 10 v0 4) (fun x5 => ob (aldR p3.2 x5 v1) (fun x7 => (if (wsh p3.2 v0).map (fun q => q.1) = some 10 then ob (f221 n v0 x7 (400 : Int32) (-1 : Int32) p3.2) (fun p9 => (if ¬ v2 = 0 then ob (getR p9 10 v0 11) (fun x11 => (if (wsh p9 x11).map (fun q => q.1) = some 4 then ob (f155 n x11 p9) (fun p13 => (if ¬ p13.1 = 0 then (if ¬ v2 = (2 : Int32) then ob (getR p13.2 10 v0 11) (fun x15 => (if (wsh p13.2 x15).map (fun q => q.1) = some 4 then ob (f103 n x15 p13.1 p13.2) (fun p17 => some (p17.1, p17.2)) else none))
            else some (p13.1, p13.2))
          else some ((-1 : Int32), p13.2))) else none))
        else ob (getR p9 10 v0 11) (fun x23 => ob (getI p9 4 x23 8) (fun x25 => (if x25 = 0 then some ((-1 : Int32), p9)
          else ob (getR p9 10 v0 11) (fun x27 => ob (getI p9 4 x27 7) (fun x29 => some (x29, p9)))))))) else none)))
      else some ((-1000002 : Int32), p3.2)))
    else some ((-1000001 : Int32), p1.2))) else none)
set_option maxRecDepth 10000 in
theorem r234 {S : Sc} (n : Nat) (v0 : Nat) (v1 : Int32) (v2 : Int32) (w : Wd) (o : (Int32 × Wd)) (h : f234 n v0 v1 v2 w = some o) : Rn S 234 0 [some (.ref v0), some (.int v1), some (.int v2), none] [] w (some (.int o.1), o.2) := by
  unfold f234 at h
  refine rn_aload_n (ft234 0 rfl) rfl ?_
  refine rn_iload_n (ft234 1 rfl) rfl ?_
  obtain ⟨g36, h⟩ := ifg h
  obtain ⟨p1, q2, h⟩ := ob_some h
  refine rn_callV (as := [.int v1]) (k0 := v0) (r := []) (v := (some (.int p1.1))) (w1 := p1.2) (ft234 2 rfl) (by decide +kernel) rfl (Nat.le_of_ble_eq_true rfl) (Nat.le_of_ble_eq_true rfl) (r98 v0 v1 w _ q2) (by decide +kernel) g36 ?_
  by_cases c35 : p1.1 = 0
  · replace h := ifp c35 h
    refine rn_if_eq_t (ft234 3 rfl) c35 ?_
    refine rn_iload_n (ft234 6 rfl) rfl ?_
    refine rn_iconst (v := (0 : Int32)) (ft234 7 rfl) (by decide) ?_
    refine rn_iconst (v := (2 : Int32)) (ft234 8 rfl) (by decide) ?_
    obtain ⟨p3, q4, h⟩ := ob_some h
    refine rn_callS (as := [.int v2, .int (0 : Int32), .int (2 : Int32)]) (r := []) (v := (some (.int p3.1))) (w1 := p3.2) (ft234 9 rfl) (by decide +kernel) rfl (Nat.le_of_ble_eq_true rfl) (Nat.le_of_ble_eq_true rfl) (r0 v2 (0 : Int32) (2 : Int32) p1.2 _ q4) ?_
    by_cases c34 : p3.1 = 0
    · replace h := ifp c34 h
      refine rn_if_eq_t (ft234 10 rfl) c34 ?_
      refine rn_aload_n (ft234 13 rfl) rfl ?_
      refine rn_aload_n (ft234 14 rfl) rfl ?_
      obtain ⟨x5, q6, h⟩ := ob_some h
      refine rn_getR (ft234 15 rfl) q6 ?_
      refine rn_iload_n (ft234 16 rfl) rfl ?_
      obtain ⟨x7, q8, h⟩ := ob_some h
      refine rn_aaload (ft234 17 rfl) q8 ?_
      refine rn_sipush (v := (400 : Int32)) (ft234 18 rfl) (by decide) ?_
      refine rn_iconst (v := (-1 : Int32)) (ft234 19 rfl) (by decide) ?_
      obtain ⟨g33, h⟩ := ifg h
      obtain ⟨p9, q10, h⟩ := ob_some h
      refine rn_callV (as := [.ref x7, .int (400 : Int32), .int (-1 : Int32)]) (k0 := v0) (r := []) (v := none) (w1 := p9) (ft234 20 rfl) (by decide +kernel) rfl (Nat.le_of_ble_eq_true rfl) (Nat.le_of_ble_eq_true rfl) (r221 n v0 x7 (400 : Int32) (-1 : Int32) p3.2 _ q10) (by decide +kernel) g33 ?_
      refine rn_iload_n (ft234 21 rfl) rfl ?_
      by_cases c32 : ¬ v2 = 0
      · replace h := ifp c32 h
        refine rn_if_ne_t (ft234 22 rfl) c32 ?_
        refine rn_aload_n (ft234 33 rfl) rfl ?_
        obtain ⟨x11, q12, h⟩ := ob_some h
        refine rn_getR (ft234 34 rfl) q12 ?_
        obtain ⟨g22, h⟩ := ifg h
        obtain ⟨p13, q14, h⟩ := ob_some h
        refine rn_callV (as := []) (k0 := x11) (r := []) (v := (some (.int p13.1))) (w1 := p13.2) (ft234 35 rfl) (by decide +kernel) rfl (Nat.le_of_ble_eq_true rfl) (Nat.le_of_ble_eq_true rfl) (r155 n x11 p9 _ q14) (by decide +kernel) g22 ?_
        refine rn_istore_n (ls' := [some (.ref v0), some (.int v1), some (.int v2), some (.int p13.1)]) (ft234 36 rfl) rfl ?_
        refine rn_iload_n (ft234 37 rfl) rfl ?_
        by_cases c21 : ¬ p13.1 = 0
        · replace h := ifp c21 h
          refine rn_if_ne_t (ft234 38 rfl) c21 ?_
          refine rn_iload_n (ft234 41 rfl) rfl ?_
          refine rn_iconst (v := (2 : Int32)) (ft234 42 rfl) (by decide) ?_
          by_cases c20 : ¬ v2 = (2 : Int32)
          · replace h := ifp c20 h
            refine rn_icmp_ne_t (ft234 43 rfl) c20 ?_
            refine rn_aload_n (ft234 46 rfl) rfl ?_
            obtain ⟨x15, q16, h⟩ := ob_some h
            refine rn_getR (ft234 47 rfl) q16 ?_
            refine rn_iload_n (ft234 48 rfl) rfl ?_
            obtain ⟨g19, h⟩ := ifg h
            obtain ⟨p17, q18, h⟩ := ob_some h
            refine rn_callV (as := [.int p13.1]) (k0 := x15) (r := []) (v := (some (.int p17.1))) (w1 := p17.2) (ft234 49 rfl) (by decide +kernel) rfl (Nat.le_of_ble_eq_true rfl) (Nat.le_of_ble_eq_true rfl) (r103 n x15 p13.1 p13.2 _ q18) (by decide +kernel) g19 ?_
            cases h
            exact rn_iretI pr234 (ft234 50 rfl)
          · replace h := ifn c20 h
            refine rn_icmp_ne_f (ft234 43 rfl) c20 ?_
            refine rn_iload_n (ft234 44 rfl) rfl ?_
            refine rn_goto (ft234 45 rfl) ?_
            cases h
            exact rn_iretI pr234 (ft234 50 rfl)
        · replace h := ifn c21 h
          refine rn_if_ne_f (ft234 38 rfl) c21 ?_
          refine rn_iconst (v := (-1 : Int32)) (ft234 39 rfl) (by decide) ?_
          cases h
          exact rn_iretI pr234 (ft234 40 rfl)
      · replace h := ifn c32 h
        refine rn_if_ne_f (ft234 22 rfl) c32 ?_
        refine rn_aload_n (ft234 23 rfl) rfl ?_
        obtain ⟨x23, q24, h⟩ := ob_some h
        refine rn_getR (ft234 24 rfl) q24 ?_
        obtain ⟨x25, q26, h⟩ := ob_some h
        refine rn_getI (ft234 25 rfl) (by decide) (by decide) q26 ?_
        by_cases c31 : x25 = 0
        · replace h := ifp c31 h
          refine rn_if_eq_t (ft234 26 rfl) c31 ?_
          refine rn_iconst (v := (-1 : Int32)) (ft234 31 rfl) (by decide) ?_
          cases h
          exact rn_iretI pr234 (ft234 32 rfl)
        · replace h := ifn c31 h
          refine rn_if_eq_f (ft234 26 rfl) c31 ?_
          refine rn_aload_n (ft234 27 rfl) rfl ?_
          obtain ⟨x27, q28, h⟩ := ob_some h
          refine rn_getR (ft234 28 rfl) q28 ?_
          obtain ⟨x29, q30, h⟩ := ob_some h
          refine rn_getI (ft234 29 rfl) (by decide) (by decide) q30 ?_
          refine rn_goto (ft234 30 rfl) ?_
          cases h
          exact rn_iretI pr234 (ft234 32 rfl)
    · replace h := ifn c34 h
      refine rn_if_eq_f (ft234 10 rfl) c34 ?_
      refine rn_ldc (v := (-1000002 : Int32)) (ft234 11 rfl) (by decide) rfl ?_
      cases h
      exact rn_iretI pr234 (ft234 12 rfl)
  · replace h := ifn c35 h
    refine rn_if_eq_f (ft234 3 rfl) c35 ?_
    refine rn_ldc (v := (-1000001 : Int32)) (ft234 4 rfl) (by decide) rfl ?_
    cases h
    exact rn_iretI pr234 (ft234 5 rfl)
