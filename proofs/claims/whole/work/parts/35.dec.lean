/-! THE METHODS AS FUNCTIONS, 18 -/
/-- NineWheelModel.tryAll(IIII)I -/
theorem ft195 : ∀ (i : Nat) {q : Nat × XI}, cd195[i]? = some q → fetch 195 q.1 = some q.2 := ft_of (by decide +kernel)
theorem pr195 : pRt 195 = some .int := rfl
def f195_H16 (n : Nat) (rec4 : Nat → Int32 → Int32 → Int32 → Int32 → Int32 → Int32 → Wd → Option (Int32 × Wd)) (K4 : Int32 → Wd → Option (Int32 × Wd)) (K9 : Nat → Int32 → Int32 → Int32 → Int32 → Int32 → Int32 → Wd → Option (Int32 × Wd)) : Nat → Nat → Int32 → Int32 → Int32 → Int32 → Int32 → Int32 → Int32 → Wd → Option (Int32 × Wd)
  | 0, _, _, _, _, _, _, _, _, _ => none
  | k + 1, v0, v1, v2, v3, v4, v5, v6, v7, w =>
    ob (getI w 11 v0 6) (fun x1 => (if x1 ≤ v7 then K9 v0 v1 v2 v3 v4 v5 v6 w
      else ob (getR w 11 v0 36) (fun x3 => ob (f45 v1 v7 w) (fun p5 => (if p5.1 = 0 then ob (getR p5.2 11 v0 35) (fun x7 => ob (aldI p5.2 x7 ((((512 : Int32) * v7) + ((8 : Int32) * v2)) + v3)) (fun x9 => ob (astI p5.2 x3 v7 x9) (fun w11 => (fun (v0 : Nat) (v1 : Int32) (v2 : Int32) (v3 : Int32) (v4 : Int32) (v5 : Int32) (v6 : Int32) (v7 : Int32) w => f195_H16 n rec4 K4 K9 k v0 v1 v2 v3 v4 v5 v6 v7 w) v0 v1 v2 v3 v4 v5 v6 (v7 + (1 : Int32)) w11)))
        else ob (astI p5.2 x3 v7 v6) (fun w13 => (fun (v0 : Nat) (v1 : Int32) (v2 : Int32) (v3 : Int32) (v4 : Int32) (v5 : Int32) (v6 : Int32) (v7 : Int32) w => f195_H16 n rec4 K4 K9 k v0 v1 v2 v3 v4 v5 v6 v7 w) v0 v1 v2 v3 v4 v5 v6 (v7 + (1 : Int32)) w13))))))
set_option maxRecDepth 10000 in
theorem rf195_H16 {S : Sc} (n : Nat) (rec4 : Nat → Int32 → Int32 → Int32 → Int32 → Int32 → Int32 → Wd → Option (Int32 × Wd)) (K4 : Int32 → Wd → Option (Int32 × Wd)) (K9 : Nat → Int32 → Int32 → Int32 → Int32 → Int32 → Int32 → Wd → Option (Int32 × Wd)) (hrec4 : ∀ (y0 : Nat) (y1 : Int32) (y2 : Int32) (y3 : Int32) (y4 : Int32) (y5 : Int32) (y6 : Int32) (w : Wd) (o : (Int32 × Wd)), rec4 y0 y1 y2 y3 y4 y5 y6 w = some o → Rn S 195 7 [some (.ref y0), some (.int y1), some (.int y2), some (.int y3), some (.int y4), some (.int y5), some (.int y6), none] [] w (some (.int o.1), o.2)) (hK4 : ∀ (y5 : Int32) (w : Wd) (o : (Int32 × Wd)), K4 y5 w = some o → Rn S 195 100 [none, none, none, none, none, some (.int y5), none, none] [] w (some (.int o.1), o.2)) (hK9 : ∀ (y0 : Nat) (y1 : Int32) (y2 : Int32) (y3 : Int32) (y4 : Int32) (y5 : Int32) (y6 : Int32) (w : Wd) (o : (Int32 × Wd)), K9 y0 y1 y2 y3 y4 y5 y6 w = some o → Rn S 195 70 [some (.ref y0), some (.int y1), some (.int y2), some (.int y3), some (.int y4), some (.int y5), some (.int y6), none] [] w (some (.int o.1), o.2)) : ∀ (k : Nat) (v0 : Nat) (v1 : Int32) (v2 : Int32) (v3 : Int32) (v4 : Int32) (v5 : Int32) (v6 : Int32) (v7 : Int32) (w : Wd) (o : (Int32 × Wd)), f195_H16 n rec4 K4 K9 k v0 v1 v2 v3 v4 v5 v6 v7 w = some o → Rn S 195 16 [some (.ref v0), some (.int v1), some (.int v2), some (.int v3), some (.int v4), some (.int v5), some (.int v6), some (.int v7)] [] w (some (.int o.1), o.2) := by
  intro k
  induction k with
  | zero =>
    intro v0 v1 v2 v3 v4 v5 v6 v7 w o h
    exact nomatch h
  | succ k ih =>
    intro v0 v1 v2 v3 v4 v5 v6 v7 w o h
    have hrec9 : ∀ (y0 : Nat) (y1 : Int32) (y2 : Int32) (y3 : Int32) (y4 : Int32) (y5 : Int32) (y6 : Int32) (y7 : Int32) (w : Wd) (o : (Int32 × Wd)), (fun (v0 : Nat) (v1 : Int32) (v2 : Int32) (v3 : Int32) (v4 : Int32) (v5 : Int32) (v6 : Int32) (v7 : Int32) w => f195_H16 n rec4 K4 K9 k v0 v1 v2 v3 v4 v5 v6 v7 w) y0 y1 y2 y3 y4 y5 y6 y7 w = some o → Rn S 195 16 [some (.ref y0), some (.int y1), some (.int y2), some (.int y3), some (.int y4), some (.int y5), some (.int y6), some (.int y7)] [] w (some (.int o.1), o.2) := fun y0 y1 y2 y3 y4 y5 y6 y7 w o h => ih y0 y1 y2 y3 y4 y5 y6 y7 w o h
    unfold f195_H16 at h
    refine rn_iload (ft195 9 rfl) rfl ?_
    refine rn_aload_n (ft195 10 rfl) rfl ?_
    obtain ⟨x1, q2, h⟩ := ob_some h
    refine rn_getI (ft195 11 rfl) (by decide) (by decide) q2 ?_
    by_cases c16 : x1 ≤ v7
    · replace h := ifp c16 h
      refine rn_icmp_ge_t (ft195 12 rfl) c16 ?_
      exact rn_forget (ls := [some (.ref v0), some (.int v1), some (.int v2), some (.int v3), some (.int v4), some (.int v5), some (.int v6), none]) (And.intro rfl (And.intro rfl (And.intro rfl (And.intro rfl (And.intro rfl (And.intro rfl (And.intro rfl trivial))))))) (hK9 v0 v1 v2 v3 v4 v5 v6 w _ h)
    · replace h := ifn c16 h
      refine rn_icmp_ge_f (ft195 12 rfl) c16 ?_
      refine rn_aload_n (ft195 13 rfl) rfl ?_
      obtain ⟨x3, q4, h⟩ := ob_some h
      refine rn_getR (ft195 14 rfl) q4 ?_
      refine rn_iload (ft195 15 rfl) rfl ?_
      refine rn_iload_n (ft195 16 rfl) rfl ?_
      refine rn_iload (ft195 17 rfl) rfl ?_
      obtain ⟨p5, q6, h⟩ := ob_some h
      refine rn_callS (as := [.int v1, .int v7]) (r := [.int v7, .ref x3]) (v := (some (.int p5.1))) (w1 := p5.2) (ft195 18 rfl) (by decide +kernel) rfl (Nat.le_of_ble_eq_true rfl) (Nat.le_of_ble_eq_true rfl) (r45 v1 v7 w _ q6) ?_
      by_cases c15 : p5.1 = 0
      · replace h := ifp c15 h
        refine rn_if_eq_t (ft195 19 rfl) c15 ?_
        refine rn_aload_n (ft195 22 rfl) rfl ?_
        obtain ⟨x7, q8, h⟩ := ob_some h
        refine rn_getR (ft195 23 rfl) q8 ?_
        refine rn_sipush (v := (512 : Int32)) (ft195 24 rfl) (by decide) ?_
        refine rn_iload (ft195 25 rfl) rfl ?_
        refine rn_imul (ft195 26 rfl) ?_
        refine rn_bipush (v := (8 : Int32)) (ft195 27 rfl) (by decide) ?_
        refine rn_iload_n (ft195 28 rfl) rfl ?_
        refine rn_imul (ft195 29 rfl) ?_
        refine rn_iadd (ft195 30 rfl) ?_
        refine rn_iload_n (ft195 31 rfl) rfl ?_
        refine rn_iadd (ft195 32 rfl) ?_
        obtain ⟨x9, q10, h⟩ := ob_some h
        refine rn_iaload (ft195 33 rfl) q10 ?_
        obtain ⟨w11, q12, h⟩ := ob_some h
        refine rn_iastore (ft195 34 rfl) q12 ?_
        refine rn_iinc (u := 1) (ls' := [some (.ref v0), some (.int v1), some (.int v2), some (.int v3), some (.int v4), some (.int v5), some (.int v6), some (.int (v7 + (1 : Int32)))]) (ft195 35 rfl) rfl (by decide) rfl ?_
        refine rn_goto (ft195 36 rfl) ?_
        exact rn_forget (ls := [some (.ref v0), some (.int v1), some (.int v2), some (.int v3), some (.int v4), some (.int v5), some (.int v6), some (.int (v7 + (1 : Int32)))]) (And.intro rfl (And.intro rfl (And.intro rfl (And.intro rfl (And.intro rfl (And.intro rfl (And.intro rfl (And.intro rfl trivial)))))))) (hrec9 v0 v1 v2 v3 v4 v5 v6 (v7 + (1 : Int32)) w11 _ h)
      · replace h := ifn c15 h
        refine rn_if_eq_f (ft195 19 rfl) c15 ?_
        refine rn_iload (ft195 20 rfl) rfl ?_
        refine rn_goto (ft195 21 rfl) ?_
        obtain ⟨w13, q14, h⟩ := ob_some h
        refine rn_iastore (ft195 34 rfl) q14 ?_
        refine rn_iinc (u := 1) (ls' := [some (.ref v0), some (.int v1), some (.int v2), some (.int v3), some (.int v4), some (.int v5), some (.int v6), some (.int (v7 + (1 : Int32)))]) (ft195 35 rfl) rfl (by decide) rfl ?_
        refine rn_goto (ft195 36 rfl) ?_
        exact rn_forget (ls := [some (.ref v0), some (.int v1), some (.int v2), some (.int v3), some (.int v4), some (.int v5), some (.int v6), some (.int (v7 + (1 : Int32)))]) (And.intro rfl (And.intro rfl (And.intro rfl (And.intro rfl (And.intro rfl (And.intro rfl (And.intro rfl (And.intro rfl trivial)))))))) (hrec9 v0 v1 v2 v3 v4 v5 v6 (v7 + (1 : Int32)) w13 _ h)
def f195_H7 (n : Nat)  (K4 : Int32 → Wd → Option (Int32 × Wd)) : Nat → Nat → Int32 → Int32 → Int32 → Int32 → Int32 → Int32 → Wd → Option (Int32 × Wd)
  | 0, _, _, _, _, _, _, _, _ => none
  | k + 1, v0, v1, v2, v3, v4, v5, v6, w =>
    (if (2 : Int32) < v6 then K4 v5 w
      else f195_H16 n (fun (v0 : Nat) (v1 : Int32) (v2 : Int32) (v3 : Int32) (v4 : Int32) (v5 : Int32) (v6 : Int32) w => f195_H7 n  K4 k v0 v1 v2 v3 v4 v5 v6 w) K4 (fun (e0_17 : Nat) (e1_17 : Int32) (e2_17 : Int32) (e3_17 : Int32) (e4_17 : Int32) (e5_17 : Int32) (e6_17 : Int32) (w17 : Wd) => (if (wsh w17 e0_17).map (fun q => q.1) = some 11 then ob (f124 n e0_17 e1_17 w17) (fun p18 => (if (wsh p18 e0_17).map (fun q => q.1) = some 11 then ob (f171 n e0_17 e4_17 p18) (fun p20 => (if (wsh p20 e0_17).map (fun q => q.1) = some 11 then ob (f172 n e0_17 p20) (fun p22 => (fun (v0 : Nat) (v1 : Int32) (v2 : Int32) (v3 : Int32) (v4 : Int32) (v5 : Int32) (v6 : Int32) w => f195_H7 n  K4 k v0 v1 v2 v3 v4 v5 v6 w) e0_17 e1_17 e2_17 e3_17 e4_17 (e5_17 ||| ((1 : Int32) <<< ((p22.1 + (1 : Int32)) &&& 31))) (e6_17 + (1 : Int32)) p22.2) else none)) else none)) else none)) n v0 v1 v2 v3 v4 v5 v6 (0 : Int32) w)
set_option maxRecDepth 10000 in
theorem rf195_H7 {S : Sc} (n : Nat)  (K4 : Int32 → Wd → Option (Int32 × Wd))  (hK4 : ∀ (y5 : Int32) (w : Wd) (o : (Int32 × Wd)), K4 y5 w = some o → Rn S 195 100 [none, none, none, none, none, some (.int y5), none, none] [] w (some (.int o.1), o.2)) : ∀ (k : Nat) (v0 : Nat) (v1 : Int32) (v2 : Int32) (v3 : Int32) (v4 : Int32) (v5 : Int32) (v6 : Int32) (w : Wd) (o : (Int32 × Wd)), f195_H7 n  K4 k v0 v1 v2 v3 v4 v5 v6 w = some o → Rn S 195 7 [some (.ref v0), some (.int v1), some (.int v2), some (.int v3), some (.int v4), some (.int v5), some (.int v6), none] [] w (some (.int o.1), o.2) := by
  intro k
  induction k with
  | zero =>
    intro v0 v1 v2 v3 v4 v5 v6 w o h
    exact nomatch h
  | succ k ih =>
    intro v0 v1 v2 v3 v4 v5 v6 w o h
    have hrec4 : ∀ (y0 : Nat) (y1 : Int32) (y2 : Int32) (y3 : Int32) (y4 : Int32) (y5 : Int32) (y6 : Int32) (w : Wd) (o : (Int32 × Wd)), (fun (v0 : Nat) (v1 : Int32) (v2 : Int32) (v3 : Int32) (v4 : Int32) (v5 : Int32) (v6 : Int32) w => f195_H7 n  K4 k v0 v1 v2 v3 v4 v5 v6 w) y0 y1 y2 y3 y4 y5 y6 w = some o → Rn S 195 7 [some (.ref y0), some (.int y1), some (.int y2), some (.int y3), some (.int y4), some (.int y5), some (.int y6), none] [] w (some (.int o.1), o.2) := fun y0 y1 y2 y3 y4 y5 y6 w o h => ih y0 y1 y2 y3 y4 y5 y6 w o h
    unfold f195_H7 at h
    refine rn_iload (ft195 4 rfl) rfl ?_
    refine rn_iconst (v := (2 : Int32)) (ft195 5 rfl) (by decide) ?_
    by_cases c27 : (2 : Int32) < v6
    · replace h := ifp c27 h
      refine rn_icmp_gt_t (ft195 6 rfl) c27 ?_
      exact rn_forget (ls := [none, none, none, none, none, some (.int v5), none, none]) (And.intro rfl trivial) (hK4 v5 w _ h)
    · replace h := ifn c27 h
      refine rn_icmp_gt_f (ft195 6 rfl) c27 ?_
      refine rn_iconst (v := (0 : Int32)) (ft195 7 rfl) (by decide) ?_
      refine rn_istore (ls' := [some (.ref v0), some (.int v1), some (.int v2), some (.int v3), some (.int v4), some (.int v5), some (.int v6), some (.int (0 : Int32))]) (ft195 8 rfl) rfl ?_
      refine rn_forget (ls := [some (.ref v0), some (.int v1), some (.int v2), some (.int v3), some (.int v4), some (.int v5), some (.int v6), some (.int (0 : Int32))]) (And.intro rfl (And.intro rfl (And.intro rfl (And.intro rfl (And.intro rfl (And.intro rfl (And.intro rfl (And.intro rfl trivial)))))))) (rf195_H16 n (fun (v0 : Nat) (v1 : Int32) (v2 : Int32) (v3 : Int32) (v4 : Int32) (v5 : Int32) (v6 : Int32) w => f195_H7 n  K4 k v0 v1 v2 v3 v4 v5 v6 w) K4 _ hrec4 hK4 (fun e0_17 e1_17 e2_17 e3_17 e4_17 e5_17 e6_17 w17 o h => ?_) n v0 v1 v2 v3 v4 v5 v6 (0 : Int32) w _ h)
      refine rn_aload_n (ft195 37 rfl) rfl ?_
      refine rn_iload_n (ft195 38 rfl) rfl ?_
      obtain ⟨g26, h⟩ := ifg h
      obtain ⟨p18, q19, h⟩ := ob_some h
      refine rn_callV (as := [.int e1_17]) (k0 := e0_17) (r := []) (v := none) (w1 := p18) (ft195 39 rfl) (by decide +kernel) rfl (Nat.le_of_ble_eq_true rfl) (Nat.le_of_ble_eq_true rfl) (r124 n e0_17 e1_17 w17 _ q19) (by decide +kernel) g26 ?_
      refine rn_aload_n (ft195 40 rfl) rfl ?_
      refine rn_iload (ft195 41 rfl) rfl ?_
      obtain ⟨g25, h⟩ := ifg h
      obtain ⟨p20, q21, h⟩ := ob_some h
      refine rn_callV (as := [.int e4_17]) (k0 := e0_17) (r := []) (v := none) (w1 := p20) (ft195 42 rfl) (by decide +kernel) rfl (Nat.le_of_ble_eq_true rfl) (Nat.le_of_ble_eq_true rfl) (r171 n e0_17 e4_17 p18 _ q21) (by decide +kernel) g25 ?_
      refine rn_iload (ft195 43 rfl) rfl ?_
      refine rn_iconst (v := (1 : Int32)) (ft195 44 rfl) (by decide) ?_
      refine rn_aload_n (ft195 45 rfl) rfl ?_
      obtain ⟨g24, h⟩ := ifg h
      obtain ⟨p22, q23, h⟩ := ob_some h
      refine rn_callV (as := []) (k0 := e0_17) (r := [.int (1 : Int32), .int e5_17]) (v := (some (.int p22.1))) (w1 := p22.2) (ft195 46 rfl) (by decide +kernel) rfl (Nat.le_of_ble_eq_true rfl) (Nat.le_of_ble_eq_true rfl) (r172 n e0_17 p20 _ q23) (by decide +kernel) g24 ?_
      refine rn_iconst (v := (1 : Int32)) (ft195 47 rfl) (by decide) ?_
      refine rn_iadd (ft195 48 rfl) ?_
      refine rn_ishl (ft195 49 rfl) ?_
      refine rn_ior (ft195 50 rfl) ?_
      refine rn_istore (ls' := [some (.ref e0_17), some (.int e1_17), some (.int e2_17), some (.int e3_17), some (.int e4_17), some (.int (e5_17 ||| ((1 : Int32) <<< ((p22.1 + (1 : Int32)) &&& 31)))), some (.int e6_17), none]) (ft195 51 rfl) rfl ?_
      refine rn_iinc (u := 1) (ls' := [some (.ref e0_17), some (.int e1_17), some (.int e2_17), some (.int e3_17), some (.int e4_17), some (.int (e5_17 ||| ((1 : Int32) <<< ((p22.1 + (1 : Int32)) &&& 31)))), some (.int (e6_17 + (1 : Int32))), none]) (ft195 52 rfl) rfl (by decide) rfl ?_
      refine rn_goto (ft195 53 rfl) ?_
      exact rn_forget (ls := [some (.ref e0_17), some (.int e1_17), some (.int e2_17), some (.int e3_17), some (.int e4_17), some (.int (e5_17 ||| ((1 : Int32) <<< ((p22.1 + (1 : Int32)) &&& 31)))), some (.int (e6_17 + (1 : Int32))), none]) (And.intro rfl (And.intro rfl (And.intro rfl (And.intro rfl (And.intro rfl (And.intro rfl (And.intro rfl trivial))))))) (hrec4 e0_17 e1_17 e2_17 e3_17 e4_17 (e5_17 ||| ((1 : Int32) <<< ((p22.1 + (1 : Int32)) &&& 31))) (e6_17 + (1 : Int32)) p22.2 _ h)
def f195 (n : Nat) (v0 : Nat) (v1 : Int32) (v2 : Int32) (v3 : Int32) (v4 : Int32) (w : Wd) : Option (Int32 × Wd) :=
  f195_H7 n  (fun (e5_28 : Int32) (w28 : Wd) => some (e5_28, w28)) n v0 v1 v2 v3 v4 (0 : Int32) (-2 : Int32) w
set_option maxRecDepth 10000 in
theorem r195 {S : Sc} (n : Nat) (v0 : Nat) (v1 : Int32) (v2 : Int32) (v3 : Int32) (v4 : Int32) (w : Wd) (o : (Int32 × Wd)) (h : f195 n v0 v1 v2 v3 v4 w = some o) : Rn S 195 0 [some (.ref v0), some (.int v1), some (.int v2), some (.int v3), some (.int v4), none, none, none] [] w (some (.int o.1), o.2) := by
  unfold f195 at h
  refine rn_iconst (v := (0 : Int32)) (ft195 0 rfl) (by decide) ?_
  refine rn_istore (ls' := [some (.ref v0), some (.int v1), some (.int v2), some (.int v3), some (.int v4), some (.int (0 : Int32)), none, none]) (ft195 1 rfl) rfl ?_
  refine rn_bipush (v := (-2 : Int32)) (ft195 2 rfl) (by decide) ?_
  refine rn_istore (ls' := [some (.ref v0), some (.int v1), some (.int v2), some (.int v3), some (.int v4), some (.int (0 : Int32)), some (.int (-2 : Int32)), none]) (ft195 3 rfl) rfl ?_
  refine rn_forget (ls := [some (.ref v0), some (.int v1), some (.int v2), some (.int v3), some (.int v4), some (.int (0 : Int32)), some (.int (-2 : Int32)), none]) (And.intro rfl (And.intro rfl (And.intro rfl (And.intro rfl (And.intro rfl (And.intro rfl (And.intro rfl trivial))))))) (rf195_H7 n  _  (fun e5_28 w28 o h => ?_) n v0 v1 v2 v3 v4 (0 : Int32) (-2 : Int32) w _ h)
  refine rn_iload (ft195 54 rfl) rfl ?_
  cases h
  exact rn_iretI pr195 (ft195 55 rfl)
/-- NineWheelModel.brings(IIIIII)I -/
theorem ft196 : ∀ (i : Nat) {q : Nat × XI}, cd196[i]? = some q → fetch 196 q.1 = some q.2 := ft_of (by decide +kernel)
theorem pr196 : pRt 196 = some .int := rfl
def f196 (n : Nat) (v0 : Nat) (v1 : Int32) (v2 : Int32) (v3 : Int32) (v4 : Int32) (v5 : Int32) (v6 : Int32) (w : Wd) : Option (Int32 × Wd) :=
  (if (wsh w v0).map (fun q => q.1) = some 11 then ob (f166 v0 v2 v3 v4 v6 w) (fun p1 => ob (getR p1.2 11 v0 2) (fun x3 => ob (aldB p1.2 x3 p1.1) (fun x5 => (if x5 = 0 then (if (wsh p1.2 v0).map (fun q => q.1) = some 11 then ob (f120 n v0 p1.1 v1 p1.2) (fun p7 => ob (getR p7.2 11 v0 58) (fun x9 => ob (f51 v3 v6 p7.2) (fun p11 => ob (aldI p11.2 x9 ((((512 : Int32) * (v4 + (1 : Int32))) + ((8 : Int32) * p1.1)) + p11.1)) (fun x13 => some ((p7.1 + x13), p11.2))))) else none)
    else (if (wsh p1.2 v0).map (fun q => q.1) = some 11 then ob (f132 n v0 v1 p1.2) (fun p16 => some ((((-99 : Int32) * p16.1) * (v5 - v4)), p16.2)) else none))))) else none)
set_option maxRecDepth 10000 in
theorem r196 {S : Sc} (n : Nat) (v0 : Nat) (v1 : Int32) (v2 : Int32) (v3 : Int32) (v4 : Int32) (v5 : Int32) (v6 : Int32) (w : Wd) (o : (Int32 × Wd)) (h : f196 n v0 v1 v2 v3 v4 v5 v6 w = some o) : Rn S 196 0 [some (.ref v0), some (.int v1), some (.int v2), some (.int v3), some (.int v4), some (.int v5), some (.int v6), none] [] w (some (.int o.1), o.2) := by
  unfold f196 at h
  refine rn_aload_n (ft196 0 rfl) rfl ?_
  refine rn_iload_n (ft196 1 rfl) rfl ?_
  refine rn_iload_n (ft196 2 rfl) rfl ?_
  refine rn_iload (ft196 3 rfl) rfl ?_
  refine rn_iload (ft196 4 rfl) rfl ?_
  obtain ⟨g20, h⟩ := ifg h
  obtain ⟨p1, q2, h⟩ := ob_some h
  refine rn_callV (as := [.int v2, .int v3, .int v4, .int v6]) (k0 := v0) (r := []) (v := (some (.int p1.1))) (w1 := p1.2) (ft196 5 rfl) (by decide +kernel) rfl (Nat.le_of_ble_eq_true rfl) (Nat.le_of_ble_eq_true rfl) (r166 v0 v2 v3 v4 v6 w _ q2) (by decide +kernel) g20 ?_
  refine rn_istore (ls' := [some (.ref v0), some (.int v1), some (.int v2), some (.int v3), some (.int v4), some (.int v5), some (.int v6), some (.int p1.1)]) (ft196 6 rfl) rfl ?_
  refine rn_aload_n (ft196 7 rfl) rfl ?_
  obtain ⟨x3, q4, h⟩ := ob_some h
  refine rn_getR (ft196 8 rfl) q4 ?_
  refine rn_iload (ft196 9 rfl) rfl ?_
  obtain ⟨x5, q6, h⟩ := ob_some h
  refine rn_baload (ft196 10 rfl) q6 ?_
  by_cases c19 : x5 = 0
  · replace h := ifp c19 h
    refine rn_if_eq_t (ft196 11 rfl) c19 ?_
    refine rn_aload_n (ft196 22 rfl) rfl ?_
    refine rn_iload (ft196 23 rfl) rfl ?_
    refine rn_iload_n (ft196 24 rfl) rfl ?_
    obtain ⟨g15, h⟩ := ifg h
    obtain ⟨p7, q8, h⟩ := ob_some h
    refine rn_callV (as := [.int p1.1, .int v1]) (k0 := v0) (r := []) (v := (some (.int p7.1))) (w1 := p7.2) (ft196 25 rfl) (by decide +kernel) rfl (Nat.le_of_ble_eq_true rfl) (Nat.le_of_ble_eq_true rfl) (r120 n v0 p1.1 v1 p1.2 _ q8) (by decide +kernel) g15 ?_
    refine rn_aload_n (ft196 26 rfl) rfl ?_
    obtain ⟨x9, q10, h⟩ := ob_some h
    refine rn_getR (ft196 27 rfl) q10 ?_
    refine rn_sipush (v := (512 : Int32)) (ft196 28 rfl) (by decide) ?_
    refine rn_iload (ft196 29 rfl) rfl ?_
    refine rn_iconst (v := (1 : Int32)) (ft196 30 rfl) (by decide) ?_
    refine rn_iadd (ft196 31 rfl) ?_
    refine rn_imul (ft196 32 rfl) ?_
    refine rn_bipush (v := (8 : Int32)) (ft196 33 rfl) (by decide) ?_
    refine rn_iload (ft196 34 rfl) rfl ?_
    refine rn_imul (ft196 35 rfl) ?_
    refine rn_iadd (ft196 36 rfl) ?_
    refine rn_iload_n (ft196 37 rfl) rfl ?_
    refine rn_iload (ft196 38 rfl) rfl ?_
    obtain ⟨p11, q12, h⟩ := ob_some h
    refine rn_callS (as := [.int v3, .int v6]) (r := [.int (((512 : Int32) * (v4 + (1 : Int32))) + ((8 : Int32) * p1.1)), .ref x9, .int p7.1]) (v := (some (.int p11.1))) (w1 := p11.2) (ft196 39 rfl) (by decide +kernel) rfl (Nat.le_of_ble_eq_true rfl) (Nat.le_of_ble_eq_true rfl) (r51 v3 v6 p7.2 _ q12) ?_
    refine rn_iadd (ft196 40 rfl) ?_
    obtain ⟨x13, q14, h⟩ := ob_some h
    refine rn_iaload (ft196 41 rfl) q14 ?_
    refine rn_iadd (ft196 42 rfl) ?_
    cases h
    exact rn_iretI pr196 (ft196 43 rfl)
  · replace h := ifn c19 h
    refine rn_if_eq_f (ft196 11 rfl) c19 ?_
    refine rn_bipush (v := (-99 : Int32)) (ft196 12 rfl) (by decide) ?_
    refine rn_aload_n (ft196 13 rfl) rfl ?_
    refine rn_iload_n (ft196 14 rfl) rfl ?_
    obtain ⟨g18, h⟩ := ifg h
    obtain ⟨p16, q17, h⟩ := ob_some h
    refine rn_callV (as := [.int v1]) (k0 := v0) (r := [.int (-99 : Int32)]) (v := (some (.int p16.1))) (w1 := p16.2) (ft196 15 rfl) (by decide +kernel) rfl (Nat.le_of_ble_eq_true rfl) (Nat.le_of_ble_eq_true rfl) (r132 n v0 v1 p1.2 _ q17) (by decide +kernel) g18 ?_
    refine rn_imul (ft196 16 rfl) ?_
    refine rn_iload (ft196 17 rfl) rfl ?_
    refine rn_iload (ft196 18 rfl) rfl ?_
    refine rn_isub (ft196 19 rfl) ?_
    refine rn_imul (ft196 20 rfl) ?_
    cases h
    exact rn_iretI pr196 (ft196 21 rfl)
/-- NineWheel$Text.takes(Ljava/lang/String;)Z -/
theorem ft197 : ∀ (i : Nat) {q : Nat × XI}, cd197[i]? = some q → fetch 197 q.1 = some q.2 := ft_of (by decide +kernel)
theorem pr197 : pRt 197 = some .boolean := rfl
def f197_H9 (n : Nat)  (K5 : Nat → UInt32 → Int32 → Wd → Option (Int32 × Wd)) : Nat → Nat → UInt32 → Int32 → Wd → Option (Int32 × Wd)
  | 0, _, _, _, _ => none
  | k + 1, v0, v1, v2, w =>
    ob (getI w 9 v0 1) (fun x5 => (if x5 ≤ v2 then K5 v0 v1 v2 w
      else (if (wsh w v0).map (fun q => q.1) = some 9 then ob (f4 v0 v2 w) (fun p7 => (if p7.1 < (97 : Int32) then K5 v0 v1 v2 p7.2
        else (if (wsh p7.2 v0).map (fun q => q.1) = some 9 then ob (f4 v0 v2 p7.2) (fun p9 => (if (122 : Int32) < p9.1 then K5 v0 v1 v2 p9.2
          else (fun (v0 : Nat) (v1 : UInt32) (v2 : Int32) w => f197_H9 n  K5 k v0 v1 v2 w) v0 v1 (v2 + (1 : Int32)) p9.2)) else none))) else none)))
set_option maxRecDepth 10000 in
theorem rf197_H9 {S : Sc} (n : Nat)  (K5 : Nat → UInt32 → Int32 → Wd → Option (Int32 × Wd))  (hK5 : ∀ (y0 : Nat) (y1 : UInt32) (y2 : Int32) (w : Wd) (o : (Int32 × Wd)), K5 y0 y1 y2 w = some o → Rn S 197 43 [some (.ref y0), some (.float y1), some (.int y2), none] [] w (some (.int o.1), o.2)) : ∀ (k : Nat) (v0 : Nat) (v1 : UInt32) (v2 : Int32) (w : Wd) (o : (Int32 × Wd)), f197_H9 n  K5 k v0 v1 v2 w = some o → Rn S 197 9 [some (.ref v0), some (.float v1), some (.int v2), none] [] w (some (.int o.1), o.2) := by
  intro k
  induction k with
  | zero =>
    intro v0 v1 v2 w o h
    exact nomatch h
  | succ k ih =>
    intro v0 v1 v2 w o h
    have hrec5 : ∀ (y0 : Nat) (y1 : UInt32) (y2 : Int32) (w : Wd) (o : (Int32 × Wd)), (fun (v0 : Nat) (v1 : UInt32) (v2 : Int32) w => f197_H9 n  K5 k v0 v1 v2 w) y0 y1 y2 w = some o → Rn S 197 9 [some (.ref y0), some (.float y1), some (.int y2), none] [] w (some (.int o.1), o.2) := fun y0 y1 y2 w o h => ih y0 y1 y2 w o h
    unfold f197_H9 at h
    refine rn_iload_n (ft197 5 rfl) rfl ?_
    refine rn_aload_n (ft197 6 rfl) rfl ?_
    obtain ⟨x5, q6, h⟩ := ob_some h
    refine rn_getI (ft197 7 rfl) (by decide) (by decide) q6 ?_
    by_cases c15 : x5 ≤ v2
    · replace h := ifp c15 h
      refine rn_icmp_ge_t (ft197 8 rfl) c15 ?_
      exact rn_forget (ls := [some (.ref v0), some (.float v1), some (.int v2), none]) (And.intro rfl (And.intro rfl (And.intro rfl trivial))) (hK5 v0 v1 v2 w _ h)
    · replace h := ifn c15 h
      refine rn_icmp_ge_f (ft197 8 rfl) c15 ?_
      refine rn_aload_n (ft197 9 rfl) rfl ?_
      refine rn_iload_n (ft197 10 rfl) rfl ?_
      obtain ⟨g14, h⟩ := ifg h
      obtain ⟨p7, q8, h⟩ := ob_some h
      refine rn_callV (as := [.int v2]) (k0 := v0) (r := []) (v := (some (.int p7.1))) (w1 := p7.2) (ft197 11 rfl) (by decide +kernel) rfl (Nat.le_of_ble_eq_true rfl) (Nat.le_of_ble_eq_true rfl) (r4 v0 v2 w _ q8) (by decide +kernel) g14 ?_
      refine rn_bipush (v := (97 : Int32)) (ft197 12 rfl) (by decide) ?_
      by_cases c13 : p7.1 < (97 : Int32)
      · replace h := ifp c13 h
        refine rn_icmp_lt_t (ft197 13 rfl) c13 ?_
        exact rn_forget (ls := [some (.ref v0), some (.float v1), some (.int v2), none]) (And.intro rfl (And.intro rfl (And.intro rfl trivial))) (hK5 v0 v1 v2 p7.2 _ h)
      · replace h := ifn c13 h
        refine rn_icmp_lt_f (ft197 13 rfl) c13 ?_
        refine rn_aload_n (ft197 14 rfl) rfl ?_
        refine rn_iload_n (ft197 15 rfl) rfl ?_
        obtain ⟨g12, h⟩ := ifg h
        obtain ⟨p9, q10, h⟩ := ob_some h
        refine rn_callV (as := [.int v2]) (k0 := v0) (r := []) (v := (some (.int p9.1))) (w1 := p9.2) (ft197 16 rfl) (by decide +kernel) rfl (Nat.le_of_ble_eq_true rfl) (Nat.le_of_ble_eq_true rfl) (r4 v0 v2 p7.2 _ q10) (by decide +kernel) g12 ?_
        refine rn_bipush (v := (122 : Int32)) (ft197 17 rfl) (by decide) ?_
        by_cases c11 : (122 : Int32) < p9.1
        · replace h := ifp c11 h
          refine rn_icmp_gt_t (ft197 18 rfl) c11 ?_
          exact rn_forget (ls := [some (.ref v0), some (.float v1), some (.int v2), none]) (And.intro rfl (And.intro rfl (And.intro rfl trivial))) (hK5 v0 v1 v2 p9.2 _ h)
        · replace h := ifn c11 h
          refine rn_icmp_gt_f (ft197 18 rfl) c11 ?_
          refine rn_iinc (u := 1) (ls' := [some (.ref v0), some (.float v1), some (.int (v2 + (1 : Int32))), none]) (ft197 19 rfl) rfl (by decide) rfl ?_
          refine rn_goto (ft197 20 rfl) ?_
          exact rn_forget (ls := [some (.ref v0), some (.float v1), some (.int (v2 + (1 : Int32))), none]) (And.intro rfl (And.intro rfl (And.intro rfl trivial))) (hrec5 v0 v1 (v2 + (1 : Int32)) p9.2 _ h)
def f197_H67 (n : Nat)  (K35 : Nat → Int32 → Wd → Option (Int32 × Wd)) : Nat → Nat → UInt32 → Int32 → Int32 → Wd → Option (Int32 × Wd)
  | 0, _, _, _, _, _ => none
  | k + 1, v0, v1, v2, v3, w =>
    (if 16 ≤ UInt32.toNat v1 ∧ UInt32.toNat v1 < 32 then ob (f74 v1 w) (fun p23 => (if p23.1 ≤ v3 then K35 v0 v2 p23.2
      else ob (getI p23.2 9 v0 2) (fun x25 => (if (wsh p23.2 v0).map (fun q => q.1) = some 9 then ob (f4 v0 (x25 + v3) p23.2) (fun p27 => (if 16 ≤ UInt32.toNat v1 ∧ UInt32.toNat v1 < 32 then ob (f175 v1 v3 p27.2) (fun p29 => (if p27.1 = p29.1 then (fun (v0 : Nat) (v1 : UInt32) (v2 : Int32) (v3 : Int32) w => f197_H67 n  K35 k v0 v1 v2 v3 w) v0 v1 v2 (v3 + (1 : Int32)) p29.2
        else some ((0 : Int32), p29.2))) else none)) else none)))) else none)
set_option maxRecDepth 10000 in
theorem rf197_H67 {S : Sc} (n : Nat)  (K35 : Nat → Int32 → Wd → Option (Int32 × Wd))  (hK35 : ∀ (y0 : Nat) (y2 : Int32) (w : Wd) (o : (Int32 × Wd)), K35 y0 y2 w = some o → Rn S 197 101 [some (.ref y0), none, some (.int y2), none] [] w (some (.int o.1), o.2)) : ∀ (k : Nat) (v0 : Nat) (v1 : UInt32) (v2 : Int32) (v3 : Int32) (w : Wd) (o : (Int32 × Wd)), f197_H67 n  K35 k v0 v1 v2 v3 w = some o → Rn S 197 67 [some (.ref v0), some (.float v1), some (.int v2), some (.int v3)] [] w (some (.int o.1), o.2) := by
  intro k
  induction k with
  | zero =>
    intro v0 v1 v2 v3 w o h
    exact nomatch h
  | succ k ih =>
    intro v0 v1 v2 v3 w o h
    have hrec35 : ∀ (y0 : Nat) (y1 : UInt32) (y2 : Int32) (y3 : Int32) (w : Wd) (o : (Int32 × Wd)), (fun (v0 : Nat) (v1 : UInt32) (v2 : Int32) (v3 : Int32) w => f197_H67 n  K35 k v0 v1 v2 v3 w) y0 y1 y2 y3 w = some o → Rn S 197 67 [some (.ref y0), some (.float y1), some (.int y2), some (.int y3)] [] w (some (.int o.1), o.2) := fun y0 y1 y2 y3 w o h => ih y0 y1 y2 y3 w o h
    unfold f197_H67 at h
    refine rn_iload_n (ft197 35 rfl) rfl ?_
    refine rn_aload_nS (ft197 36 rfl) rfl ?_
    obtain ⟨g35, h⟩ := ifg h
    obtain ⟨p23, q24, h⟩ := ob_some h
    refine rn_callVS (as := []) (u := v1) (r := [.int v3]) (v := (some (.int p23.1))) (w1 := p23.2) (ft197 37 rfl) (by decide +kernel) rfl (Nat.le_of_ble_eq_true rfl) (Nat.le_of_ble_eq_true rfl) (r74 v1 w _ q24) (by decide +kernel) g35 ?_
    by_cases c34 : p23.1 ≤ v3
    · replace h := ifp c34 h
      refine rn_icmp_ge_t (ft197 38 rfl) c34 ?_
      exact rn_forget (ls := [some (.ref v0), none, some (.int v2), none]) (And.intro rfl (And.intro rfl trivial)) (hK35 v0 v2 p23.2 _ h)
    · replace h := ifn c34 h
      refine rn_icmp_ge_f (ft197 38 rfl) c34 ?_
      refine rn_aload_n (ft197 39 rfl) rfl ?_
      refine rn_aload_n (ft197 40 rfl) rfl ?_
      obtain ⟨x25, q26, h⟩ := ob_some h
      refine rn_getI (ft197 41 rfl) (by decide) (by decide) q26 ?_
      refine rn_iload_n (ft197 42 rfl) rfl ?_
      refine rn_iadd (ft197 43 rfl) ?_
      obtain ⟨g33, h⟩ := ifg h
      obtain ⟨p27, q28, h⟩ := ob_some h
      refine rn_callV (as := [.int (x25 + v3)]) (k0 := v0) (r := []) (v := (some (.int p27.1))) (w1 := p27.2) (ft197 44 rfl) (by decide +kernel) rfl (Nat.le_of_ble_eq_true rfl) (Nat.le_of_ble_eq_true rfl) (r4 v0 (x25 + v3) p23.2 _ q28) (by decide +kernel) g33 ?_
      refine rn_aload_nS (ft197 45 rfl) rfl ?_
      refine rn_iload_n (ft197 46 rfl) rfl ?_
      obtain ⟨g32, h⟩ := ifg h
      obtain ⟨p29, q30, h⟩ := ob_some h
      refine rn_callVS (as := [.int v3]) (u := v1) (r := [.int p27.1]) (v := (some (.int p29.1))) (w1 := p29.2) (ft197 47 rfl) (by decide +kernel) rfl (Nat.le_of_ble_eq_true rfl) (Nat.le_of_ble_eq_true rfl) (r175 v1 v3 p27.2 _ q30) (by decide +kernel) g32 ?_
      by_cases c31 : p27.1 = p29.1
      · replace h := ifp c31 h
        refine rn_icmp_eq_t (ft197 48 rfl) c31 ?_
        refine rn_iinc (u := 1) (ls' := [some (.ref v0), some (.float v1), some (.int v2), some (.int (v3 + (1 : Int32)))]) (ft197 51 rfl) rfl (by decide) rfl ?_
        refine rn_goto (ft197 52 rfl) ?_
        exact rn_forget (ls := [some (.ref v0), some (.float v1), some (.int v2), some (.int (v3 + (1 : Int32)))]) (And.intro rfl (And.intro rfl (And.intro rfl (And.intro rfl trivial)))) (hrec35 v0 v1 v2 (v3 + (1 : Int32)) p29.2 _ h)
      · replace h := ifn c31 h
        refine rn_icmp_eq_f (ft197 48 rfl) c31 ?_
        refine rn_iconst (v := (0 : Int32)) (ft197 49 rfl) (by decide) ?_
        cases h
        exact rn_iretZ pr197 (by decide) (ft197 50 rfl)
def f197_J43 (n : Nat)  (v0 : Nat) (v1 : UInt32) (v2 : Int32) (w : Wd) : Option (Int32 × Wd) :=
  ob (getI w 9 v0 4) (fun x17 => (if ¬ x17 = 0 then some ((0 : Int32), w)
    else ob (getI w 9 v0 2) (fun x19 => (if 16 ≤ UInt32.toNat v1 ∧ UInt32.toNat v1 < 32 then ob (f74 v1 w) (fun p21 => (if (v2 - x19) = p21.1 then f197_H67 n  (fun (e0_36 : Nat) (e2_36 : Int32) (w36 : Wd) => ob (putI w36 9 e0_36 2 e2_36) (fun w37 => some ((1 : Int32), w37))) n v0 v1 v2 (0 : Int32) p21.2
      else some ((0 : Int32), p21.2))) else none))))
set_option maxRecDepth 10000 in
theorem rf197_J43 {S : Sc} (n : Nat)  (v0 : Nat) (v1 : UInt32) (v2 : Int32) (w : Wd) (o : (Int32 × Wd))  (h : f197_J43 n  v0 v1 v2 w = some o) : Rn S 197 43 [some (.ref v0), some (.float v1), some (.int v2), none] [] w (some (.int o.1), o.2) := by
  unfold f197_J43 at h
  refine rn_aload_n (ft197 21 rfl) rfl ?_
  obtain ⟨x17, q18, h⟩ := ob_some h
  refine rn_getI (ft197 22 rfl) (by decide) (by decide) q18 ?_
  by_cases c41 : ¬ x17 = 0
  · replace h := ifp c41 h
    refine rn_if_ne_t (ft197 23 rfl) c41 ?_
    refine rn_iconst (v := (0 : Int32)) (ft197 31 rfl) (by decide) ?_
    cases h
    exact rn_iretZ pr197 (by decide) (ft197 32 rfl)
  · replace h := ifn c41 h
    refine rn_if_ne_f (ft197 23 rfl) c41 ?_
    refine rn_iload_n (ft197 24 rfl) rfl ?_
    refine rn_aload_n (ft197 25 rfl) rfl ?_
    obtain ⟨x19, q20, h⟩ := ob_some h
    refine rn_getI (ft197 26 rfl) (by decide) (by decide) q20 ?_
    refine rn_isub (ft197 27 rfl) ?_
    refine rn_aload_nS (ft197 28 rfl) rfl ?_
    obtain ⟨g40, h⟩ := ifg h
    obtain ⟨p21, q22, h⟩ := ob_some h
    refine rn_callVS (as := []) (u := v1) (r := [.int (v2 - x19)]) (v := (some (.int p21.1))) (w1 := p21.2) (ft197 29 rfl) (by decide +kernel) rfl (Nat.le_of_ble_eq_true rfl) (Nat.le_of_ble_eq_true rfl) (r74 v1 w _ q22) (by decide +kernel) g40 ?_
    by_cases c39 : (v2 - x19) = p21.1
    · replace h := ifp c39 h
      refine rn_icmp_eq_t (ft197 30 rfl) c39 ?_
      refine rn_iconst (v := (0 : Int32)) (ft197 33 rfl) (by decide) ?_
      refine rn_istore_n (ls' := [some (.ref v0), some (.float v1), some (.int v2), some (.int (0 : Int32))]) (ft197 34 rfl) rfl ?_
      refine rn_forget (ls := [some (.ref v0), some (.float v1), some (.int v2), some (.int (0 : Int32))]) (And.intro rfl (And.intro rfl (And.intro rfl (And.intro rfl trivial)))) (rf197_H67 n  _  (fun e0_36 e2_36 w36 o h => ?_) n v0 v1 v2 (0 : Int32) p21.2 _ h)
      refine rn_aload_n (ft197 53 rfl) rfl ?_
      refine rn_iload_n (ft197 54 rfl) rfl ?_
      obtain ⟨w37, q38, h⟩ := ob_some h
      refine rn_putI (ft197 55 rfl) q38 ?_
      refine rn_iconst (v := (1 : Int32)) (ft197 56 rfl) (by decide) ?_
      cases h
      exact rn_iretZ pr197 (by decide) (ft197 57 rfl)
    · replace h := ifn c39 h
      refine rn_icmp_eq_f (ft197 30 rfl) c39 ?_
      refine rn_iconst (v := (0 : Int32)) (ft197 31 rfl) (by decide) ?_
      cases h
      exact rn_iretZ pr197 (by decide) (ft197 32 rfl)
def f197 (n : Nat) (v0 : Nat) (v1 : UInt32) (w : Wd) : Option (Int32 × Wd) :=
  (if (wsh w v0).map (fun q => q.1) = some 9 then ob (f73 n v0 w) (fun p1 => ob (getI p1 9 v0 2) (fun x3 => f197_H9 n  (fun (e0_16 : Nat) (e1_16 : UInt32) (e2_16 : Int32) (w16 : Wd) => f197_J43 n  e0_16 e1_16 e2_16 w16) n v0 v1 x3 p1)) else none)
set_option maxRecDepth 10000 in
theorem r197 {S : Sc} (n : Nat) (v0 : Nat) (v1 : UInt32) (w : Wd) (o : (Int32 × Wd)) (h : f197 n v0 v1 w = some o) : Rn S 197 0 [some (.ref v0), some (.float v1), none, none] [] w (some (.int o.1), o.2) := by
  unfold f197 at h
  refine rn_aload_n (ft197 0 rfl) rfl ?_
  obtain ⟨g42, h⟩ := ifg h
  obtain ⟨p1, q2, h⟩ := ob_some h
  refine rn_callV (as := []) (k0 := v0) (r := []) (v := none) (w1 := p1) (ft197 1 rfl) (by decide +kernel) rfl (Nat.le_of_ble_eq_true rfl) (Nat.le_of_ble_eq_true rfl) (r73 n v0 w _ q2) (by decide +kernel) g42 ?_
  refine rn_aload_n (ft197 2 rfl) rfl ?_
  obtain ⟨x3, q4, h⟩ := ob_some h
  refine rn_getI (ft197 3 rfl) (by decide) (by decide) q4 ?_
  refine rn_istore_n (ls' := [some (.ref v0), some (.float v1), some (.int x3), none]) (ft197 4 rfl) rfl ?_
  refine rn_forget (ls := [some (.ref v0), some (.float v1), some (.int x3), none]) (And.intro rfl (And.intro rfl (And.intro rfl trivial))) (rf197_H9 n  _  (fun e0_16 e1_16 e2_16 w16 o h => ?_) n v0 v1 x3 p1 _ h)
  exact rn_forget (ls := [some (.ref e0_16), some (.float e1_16), some (.int e2_16), none]) (And.intro rfl (And.intro rfl (And.intro rfl trivial))) (rf197_J43 n  e0_16 e1_16 e2_16 w16 _  h)
/-- NineWheel$Crew.lookAhead(II)V -/
theorem ft198 : ∀ (i : Nat) {q : Nat × XI}, cd198[i]? = some q → fetch 198 q.1 = some q.2 := ft_of (by decide +kernel)
theorem pr198 : pRt 198 = none := rfl
def f198_H18 (n : Nat) (rec6 : Nat → Int32 → Int32 → Int32 → Wd → Option Wd) (K6 : Wd → Option Wd) (K11 : Nat → Int32 → Int32 → Int32 → Wd → Option Wd) : Nat → Nat → Int32 → Int32 → Int32 → Int32 → Wd → Option Wd
  | 0, _, _, _, _, _, _ => none
  | k + 1, v0, v1, v2, v3, v4, w =>
    (if (512 : Int32) ≤ v4 then K11 v0 v1 v2 v3 w
      else ob (getR w 2 v0 4) (fun x5 => (if (wsh w v0).map (fun q => q.1) = some 2 then ob (f182 n v0 v1 v4 v3 w) (fun p7 => (if (wsh p7.2 v0).map (fun q => q.1) = some 2 then ob (f147 v0 v1 v4 p7.1 v3 p7.2) (fun p9 => ob (astI p9.2 x5 v4 p9.1) (fun w11 => (fun (v0 : Nat) (v1 : Int32) (v2 : Int32) (v3 : Int32) (v4 : Int32) w => f198_H18 n rec6 K6 K11 k v0 v1 v2 v3 v4 w) v0 v1 v2 v3 (v4 + (1 : Int32)) w11)) else none)) else none)))
set_option maxRecDepth 10000 in
theorem rf198_H18 {S : Sc} (n : Nat) (rec6 : Nat → Int32 → Int32 → Int32 → Wd → Option Wd) (K6 : Wd → Option Wd) (K11 : Nat → Int32 → Int32 → Int32 → Wd → Option Wd) (hrec6 : ∀ (y0 : Nat) (y1 : Int32) (y2 : Int32) (y3 : Int32) (w : Wd) (o : Wd), rec6 y0 y1 y2 y3 w = some o → Rn S 198 10 [some (.ref y0), some (.int y1), some (.int y2), some (.int y3), none] [] w (none, o)) (hK6 : ∀  (w : Wd) (o : Wd), K6 w = some o → Rn S 198 77 [none, none, none, none, none] [] w (none, o)) (hK11 : ∀ (y0 : Nat) (y1 : Int32) (y2 : Int32) (y3 : Int32) (w : Wd) (o : Wd), K11 y0 y1 y2 y3 w = some o → Rn S 198 55 [some (.ref y0), some (.int y1), some (.int y2), some (.int y3), none] [] w (none, o)) : ∀ (k : Nat) (v0 : Nat) (v1 : Int32) (v2 : Int32) (v3 : Int32) (v4 : Int32) (w : Wd) (o : Wd), f198_H18 n rec6 K6 K11 k v0 v1 v2 v3 v4 w = some o → Rn S 198 18 [some (.ref v0), some (.int v1), some (.int v2), some (.int v3), some (.int v4)] [] w (none, o) := by
  intro k
  induction k with
  | zero =>
    intro v0 v1 v2 v3 v4 w o h
    exact nomatch h
  | succ k ih =>
    intro v0 v1 v2 v3 v4 w o h
    have hrec11 : ∀ (y0 : Nat) (y1 : Int32) (y2 : Int32) (y3 : Int32) (y4 : Int32) (w : Wd) (o : Wd), (fun (v0 : Nat) (v1 : Int32) (v2 : Int32) (v3 : Int32) (v4 : Int32) w => f198_H18 n rec6 K6 K11 k v0 v1 v2 v3 v4 w) y0 y1 y2 y3 y4 w = some o → Rn S 198 18 [some (.ref y0), some (.int y1), some (.int y2), some (.int y3), some (.int y4)] [] w (none, o) := fun y0 y1 y2 y3 y4 w o h => ih y0 y1 y2 y3 y4 w o h
    unfold f198_H18 at h
    refine rn_iload (ft198 11 rfl) rfl ?_
    refine rn_sipush (v := (512 : Int32)) (ft198 12 rfl) (by decide) ?_
    by_cases c15 : (512 : Int32) ≤ v4
    · replace h := ifp c15 h
      refine rn_icmp_ge_t (ft198 13 rfl) c15 ?_
      exact rn_forget (ls := [some (.ref v0), some (.int v1), some (.int v2), some (.int v3), none]) (And.intro rfl (And.intro rfl (And.intro rfl (And.intro rfl trivial)))) (hK11 v0 v1 v2 v3 w _ h)
    · replace h := ifn c15 h
      refine rn_icmp_ge_f (ft198 13 rfl) c15 ?_
      refine rn_aload_n (ft198 14 rfl) rfl ?_
      obtain ⟨x5, q6, h⟩ := ob_some h
      refine rn_getR (ft198 15 rfl) q6 ?_
      refine rn_iload (ft198 16 rfl) rfl ?_
      refine rn_aload_n (ft198 17 rfl) rfl ?_
      refine rn_iload_n (ft198 18 rfl) rfl ?_
      refine rn_iload (ft198 19 rfl) rfl ?_
      refine rn_aload_n (ft198 20 rfl) rfl ?_
      refine rn_iload_n (ft198 21 rfl) rfl ?_
      refine rn_iload (ft198 22 rfl) rfl ?_
      refine rn_iload_n (ft198 23 rfl) rfl ?_
      obtain ⟨g14, h⟩ := ifg h
      obtain ⟨p7, q8, h⟩ := ob_some h
      refine rn_callV (as := [.int v1, .int v4, .int v3]) (k0 := v0) (r := [.int v4, .int v1, .ref v0, .int v4, .ref x5]) (v := (some (.int p7.1))) (w1 := p7.2) (ft198 24 rfl) (by decide +kernel) rfl (Nat.le_of_ble_eq_true rfl) (Nat.le_of_ble_eq_true rfl) (r182 n v0 v1 v4 v3 w _ q8) (by decide +kernel) g14 ?_
      refine rn_iload_n (ft198 25 rfl) rfl ?_
      obtain ⟨g13, h⟩ := ifg h
      obtain ⟨p9, q10, h⟩ := ob_some h
      refine rn_callV (as := [.int v1, .int v4, .int p7.1, .int v3]) (k0 := v0) (r := [.int v4, .ref x5]) (v := (some (.int p9.1))) (w1 := p9.2) (ft198 26 rfl) (by decide +kernel) rfl (Nat.le_of_ble_eq_true rfl) (Nat.le_of_ble_eq_true rfl) (r147 v0 v1 v4 p7.1 v3 p7.2 _ q10) (by decide +kernel) g13 ?_
      obtain ⟨w11, q12, h⟩ := ob_some h
      refine rn_iastore (ft198 27 rfl) q12 ?_
      refine rn_iinc (u := 1) (ls' := [some (.ref v0), some (.int v1), some (.int v2), some (.int v3), some (.int (v4 + (1 : Int32)))]) (ft198 28 rfl) rfl (by decide) rfl ?_
      refine rn_goto (ft198 29 rfl) ?_
      exact rn_forget (ls := [some (.ref v0), some (.int v1), some (.int v2), some (.int v3), some (.int (v4 + (1 : Int32)))]) (And.intro rfl (And.intro rfl (And.intro rfl (And.intro rfl (And.intro rfl trivial))))) (hrec11 v0 v1 v2 v3 (v4 + (1 : Int32)) w11 _ h)
def f198_H10 (n : Nat)  (K6 : Wd → Option Wd) : Nat → Nat → Int32 → Int32 → Int32 → Wd → Option Wd
  | 0, _, _, _, _, _ => none
  | k + 1, v0, v1, v2, v3, w =>
    (if v2 ≤ v3 then K6 w
      else f198_H18 n (fun (v0 : Nat) (v1 : Int32) (v2 : Int32) (v3 : Int32) w => f198_H10 n  K6 k v0 v1 v2 v3 w) K6 (fun (e0_16 : Nat) (e1_16 : Int32) (e2_16 : Int32) (e3_16 : Int32) (w16 : Wd) => ob (getR w16 2 e0_16 4) (fun x17 => ob (getR w16 2 e0_16 5) (fun x19 => ob (cpyI w16 x17 (0 : Int32) x19 (0 : Int32) (512 : Int32)) (fun w21 => (fun (v0 : Nat) (v1 : Int32) (v2 : Int32) (v3 : Int32) w => f198_H10 n  K6 k v0 v1 v2 v3 w) e0_16 e1_16 e2_16 (e3_16 + (1 : Int32)) w21)))) n v0 v1 v2 v3 (0 : Int32) w)
set_option maxRecDepth 10000 in
theorem rf198_H10 {S : Sc} (n : Nat)  (K6 : Wd → Option Wd)  (hK6 : ∀  (w : Wd) (o : Wd), K6 w = some o → Rn S 198 77 [none, none, none, none, none] [] w (none, o)) : ∀ (k : Nat) (v0 : Nat) (v1 : Int32) (v2 : Int32) (v3 : Int32) (w : Wd) (o : Wd), f198_H10 n  K6 k v0 v1 v2 v3 w = some o → Rn S 198 10 [some (.ref v0), some (.int v1), some (.int v2), some (.int v3), none] [] w (none, o) := by
  intro k
  induction k with
  | zero =>
    intro v0 v1 v2 v3 w o h
    exact nomatch h
  | succ k ih =>
    intro v0 v1 v2 v3 w o h
    have hrec6 : ∀ (y0 : Nat) (y1 : Int32) (y2 : Int32) (y3 : Int32) (w : Wd) (o : Wd), (fun (v0 : Nat) (v1 : Int32) (v2 : Int32) (v3 : Int32) w => f198_H10 n  K6 k v0 v1 v2 v3 w) y0 y1 y2 y3 w = some o → Rn S 198 10 [some (.ref y0), some (.int y1), some (.int y2), some (.int y3), none] [] w (none, o) := fun y0 y1 y2 y3 w o h => ih y0 y1 y2 y3 w o h
    unfold f198_H10 at h
    refine rn_iload_n (ft198 6 rfl) rfl ?_
    refine rn_iload_n (ft198 7 rfl) rfl ?_
    by_cases c23 : v2 ≤ v3
    · replace h := ifp c23 h
      refine rn_icmp_ge_t (ft198 8 rfl) c23 ?_
      exact rn_forget (ls := [none, none, none, none, none]) trivial (hK6 w _ h)
    · replace h := ifn c23 h
      refine rn_icmp_ge_f (ft198 8 rfl) c23 ?_
      refine rn_iconst (v := (0 : Int32)) (ft198 9 rfl) (by decide) ?_
      refine rn_istore (ls' := [some (.ref v0), some (.int v1), some (.int v2), some (.int v3), some (.int (0 : Int32))]) (ft198 10 rfl) rfl ?_
      refine rn_forget (ls := [some (.ref v0), some (.int v1), some (.int v2), some (.int v3), some (.int (0 : Int32))]) (And.intro rfl (And.intro rfl (And.intro rfl (And.intro rfl (And.intro rfl trivial))))) (rf198_H18 n (fun (v0 : Nat) (v1 : Int32) (v2 : Int32) (v3 : Int32) w => f198_H10 n  K6 k v0 v1 v2 v3 w) K6 _ hrec6 hK6 (fun e0_16 e1_16 e2_16 e3_16 w16 o h => ?_) n v0 v1 v2 v3 (0 : Int32) w _ h)
      refine rn_aload_n (ft198 30 rfl) rfl ?_
      obtain ⟨x17, q18, h⟩ := ob_some h
      refine rn_getR (ft198 31 rfl) q18 ?_
      refine rn_iconst (v := (0 : Int32)) (ft198 32 rfl) (by decide) ?_
      refine rn_aload_n (ft198 33 rfl) rfl ?_
      obtain ⟨x19, q20, h⟩ := ob_some h
      refine rn_getR (ft198 34 rfl) q20 ?_
      refine rn_iconst (v := (0 : Int32)) (ft198 35 rfl) (by decide) ?_
      refine rn_sipush (v := (512 : Int32)) (ft198 36 rfl) (by decide) ?_
      obtain ⟨w21, q22, h⟩ := ob_some h
      refine rn_cpy (ft198 37 rfl) (Nat.le_of_ble_eq_true rfl) q22 ?_
      refine rn_iinc (u := 1) (ls' := [some (.ref e0_16), some (.int e1_16), some (.int e2_16), some (.int (e3_16 + (1 : Int32))), none]) (ft198 38 rfl) rfl (by decide) rfl ?_
      refine rn_goto (ft198 39 rfl) ?_
      exact rn_forget (ls := [some (.ref e0_16), some (.int e1_16), some (.int e2_16), some (.int (e3_16 + (1 : Int32))), none]) (And.intro rfl (And.intro rfl (And.intro rfl (And.intro rfl trivial)))) (hrec6 e0_16 e1_16 e2_16 (e3_16 + (1 : Int32)) w21 _ h)
def f198 (n : Nat) (v0 : Nat) (v1 : Int32) (v2 : Int32) (w : Wd) : Option Wd :=
  ob (getR w 2 v0 5) (fun x1 => ob (f14 n x1 (0 : Int32) w) (fun p3 => f198_H10 n  (fun  (w24 : Wd) => some w24) n v0 v1 v2 (1 : Int32) p3))
set_option maxRecDepth 10000 in
theorem r198 {S : Sc} (n : Nat) (v0 : Nat) (v1 : Int32) (v2 : Int32) (w : Wd) (o : Wd) (h : f198 n v0 v1 v2 w = some o) : Rn S 198 0 [some (.ref v0), some (.int v1), some (.int v2), none, none] [] w (none, o) := by
  unfold f198 at h
  refine rn_aload_n (ft198 0 rfl) rfl ?_
  obtain ⟨x1, q2, h⟩ := ob_some h
  refine rn_getR (ft198 1 rfl) q2 ?_
  refine rn_iconst (v := (0 : Int32)) (ft198 2 rfl) (by decide) ?_
  obtain ⟨p3, q4, h⟩ := ob_some h
  refine rn_callS (as := [.ref x1, .int (0 : Int32)]) (r := []) (v := none) (w1 := p3) (ft198 3 rfl) (by decide +kernel) rfl (Nat.le_of_ble_eq_true rfl) (Nat.le_of_ble_eq_true rfl) (r14 n x1 (0 : Int32) w _ q4) ?_
  refine rn_iconst (v := (1 : Int32)) (ft198 4 rfl) (by decide) ?_
  refine rn_istore_n (ls' := [some (.ref v0), some (.int v1), some (.int v2), some (.int (1 : Int32)), none]) (ft198 5 rfl) rfl ?_
  refine rn_forget (ls := [some (.ref v0), some (.int v1), some (.int v2), some (.int (1 : Int32)), none]) (And.intro rfl (And.intro rfl (And.intro rfl (And.intro rfl trivial)))) (rf198_H10 n  _  (fun  w24 o h => ?_) n v0 v1 v2 (1 : Int32) p3 _ h)
  cases h
  exact rn_vret pr198 (ft198 40 rfl)
/-- NineWheel$Crew.workOut(I)V -/
theorem ft199 : ∀ (i : Nat) {q : Nat × XI}, cd199[i]? = some q → fetch 199 q.1 = some q.2 := ft_of (by decide +kernel)
theorem pr199 : pRt 199 = none := rfl
def f199_J76 (n : Nat) (rec12 : Nat → Int32 → Int32 → Int32 → Int32 → Wd → Option Wd) (K12 : Wd → Option Wd) (v0 : Nat) (v1 : Int32) (v2 : Int32) (v3 : Int32) (v4 : Int32) (v5 : Int32) (w : Wd) : Option Wd :=
  (if (wsh w v0).map (fun q => q.1) = some 2 then ob (f96 v0 v1 v4 v5 w) (fun p9 => rec12 v0 v1 v2 v3 (v4 + (1 : Int32)) p9) else none)
set_option maxRecDepth 10000 in
theorem rf199_J76 {S : Sc} (n : Nat) (rec12 : Nat → Int32 → Int32 → Int32 → Int32 → Wd → Option Wd) (K12 : Wd → Option Wd) (v0 : Nat) (v1 : Int32) (v2 : Int32) (v3 : Int32) (v4 : Int32) (v5 : Int32) (w : Wd) (o : Wd) (hrec12 : ∀ (y0 : Nat) (y1 : Int32) (y2 : Int32) (y3 : Int32) (y4 : Int32) (w : Wd) (o : Wd), rec12 y0 y1 y2 y3 y4 w = some o → Rn S 199 21 [some (.ref y0), some (.int y1), some (.int y2), some (.int y3), some (.int y4), none] [] w (none, o)) (hK12 : ∀  (w : Wd) (o : Wd), K12 w = some o → Rn S 199 91 [none, none, none, none, none, none] [] w (none, o)) (h : f199_J76 n rec12 K12 v0 v1 v2 v3 v4 v5 w = some o) : Rn S 199 76 [some (.ref v0), some (.int v1), some (.int v2), some (.int v3), some (.int v4), some (.int v5)] [] w (none, o) := by
  unfold f199_J76 at h
  refine rn_aload_n (ft199 43 rfl) rfl ?_
  refine rn_iload_n (ft199 44 rfl) rfl ?_
  refine rn_iload (ft199 45 rfl) rfl ?_
  refine rn_iload (ft199 46 rfl) rfl ?_
  obtain ⟨g11, h⟩ := ifg h
  obtain ⟨p9, q10, h⟩ := ob_some h
  refine rn_callV (as := [.int v1, .int v4, .int v5]) (k0 := v0) (r := []) (v := none) (w1 := p9) (ft199 47 rfl) (by decide +kernel) rfl (Nat.le_of_ble_eq_true rfl) (Nat.le_of_ble_eq_true rfl) (r96 v0 v1 v4 v5 w _ q10) (by decide +kernel) g11 ?_
  refine rn_iinc (u := 1) (ls' := [some (.ref v0), some (.int v1), some (.int v2), some (.int v3), some (.int (v4 + (1 : Int32))), some (.int v5)]) (ft199 48 rfl) rfl (by decide) rfl ?_
  refine rn_goto (ft199 49 rfl) ?_
  exact rn_forget (ls := [some (.ref v0), some (.int v1), some (.int v2), some (.int v3), some (.int (v4 + (1 : Int32))), none]) (And.intro rfl (And.intro rfl (And.intro rfl (And.intro rfl (And.intro rfl trivial))))) (hrec12 v0 v1 v2 v3 (v4 + (1 : Int32)) p9 _ h)
def f199_J61 (n : Nat) (rec12 : Nat → Int32 → Int32 → Int32 → Int32 → Wd → Option Wd) (K12 : Wd → Option Wd) (v0 : Nat) (v1 : Int32) (v2 : Int32) (v3 : Int32) (v4 : Int32) (v5 : Int32) (w : Wd) : Option Wd :=
  (if ¬ v2 = (2 : Int32) then f199_J76 n rec12 K12 v0 v1 v2 v3 v4 v5 w
    else (if (wsh w v0).map (fun q => q.1) = some 2 then ob (f182 n v0 v1 v4 v3 w) (fun p12 => f199_J76 n rec12 K12 v0 v1 v2 v3 v4 p12.1 p12.2) else none))
set_option maxRecDepth 10000 in
theorem rf199_J61 {S : Sc} (n : Nat) (rec12 : Nat → Int32 → Int32 → Int32 → Int32 → Wd → Option Wd) (K12 : Wd → Option Wd) (v0 : Nat) (v1 : Int32) (v2 : Int32) (v3 : Int32) (v4 : Int32) (v5 : Int32) (w : Wd) (o : Wd) (hrec12 : ∀ (y0 : Nat) (y1 : Int32) (y2 : Int32) (y3 : Int32) (y4 : Int32) (w : Wd) (o : Wd), rec12 y0 y1 y2 y3 y4 w = some o → Rn S 199 21 [some (.ref y0), some (.int y1), some (.int y2), some (.int y3), some (.int y4), none] [] w (none, o)) (hK12 : ∀  (w : Wd) (o : Wd), K12 w = some o → Rn S 199 91 [none, none, none, none, none, none] [] w (none, o)) (h : f199_J61 n rec12 K12 v0 v1 v2 v3 v4 v5 w = some o) : Rn S 199 61 [some (.ref v0), some (.int v1), some (.int v2), some (.int v3), some (.int v4), some (.int v5)] [] w (none, o) := by
  unfold f199_J61 at h
  refine rn_iload_n (ft199 34 rfl) rfl ?_
  refine rn_iconst (v := (2 : Int32)) (ft199 35 rfl) (by decide) ?_
  by_cases c15 : ¬ v2 = (2 : Int32)
  · replace h := ifp c15 h
    refine rn_icmp_ne_t (ft199 36 rfl) c15 ?_
    exact rn_forget (ls := [some (.ref v0), some (.int v1), some (.int v2), some (.int v3), some (.int v4), some (.int v5)]) (And.intro rfl (And.intro rfl (And.intro rfl (And.intro rfl (And.intro rfl (And.intro rfl trivial)))))) (rf199_J76 n rec12 K12 v0 v1 v2 v3 v4 v5 w _ hrec12 hK12 h)
  · replace h := ifn c15 h
    refine rn_icmp_ne_f (ft199 36 rfl) c15 ?_
    refine rn_aload_n (ft199 37 rfl) rfl ?_
    refine rn_iload_n (ft199 38 rfl) rfl ?_
    refine rn_iload (ft199 39 rfl) rfl ?_
    refine rn_iload_n (ft199 40 rfl) rfl ?_
    obtain ⟨g14, h⟩ := ifg h
    obtain ⟨p12, q13, h⟩ := ob_some h
    refine rn_callV (as := [.int v1, .int v4, .int v3]) (k0 := v0) (r := []) (v := (some (.int p12.1))) (w1 := p12.2) (ft199 41 rfl) (by decide +kernel) rfl (Nat.le_of_ble_eq_true rfl) (Nat.le_of_ble_eq_true rfl) (r182 n v0 v1 v4 v3 w _ q13) (by decide +kernel) g14 ?_
    refine rn_istore (ls' := [some (.ref v0), some (.int v1), some (.int v2), some (.int v3), some (.int v4), some (.int p12.1)]) (ft199 42 rfl) rfl ?_
    exact rn_forget (ls := [some (.ref v0), some (.int v1), some (.int v2), some (.int v3), some (.int v4), some (.int p12.1)]) (And.intro rfl (And.intro rfl (And.intro rfl (And.intro rfl (And.intro rfl (And.intro rfl trivial)))))) (rf199_J76 n rec12 K12 v0 v1 v2 v3 v4 p12.1 p12.2 _ hrec12 hK12 h)
def f199_J45 (n : Nat) (rec12 : Nat → Int32 → Int32 → Int32 → Int32 → Wd → Option Wd) (K12 : Wd → Option Wd) (v0 : Nat) (v1 : Int32) (v2 : Int32) (v3 : Int32) (v4 : Int32) (v5 : Int32) (w : Wd) : Option Wd :=
  (if ¬ v2 = (1 : Int32) then f199_J61 n rec12 K12 v0 v1 v2 v3 v4 v5 w
    else (if (wsh w v0).map (fun q => q.1) = some 2 then ob (f148 n v0 v1 v4 w) (fun p16 => f199_J61 n rec12 K12 v0 v1 v2 v3 v4 ((2 : Int32) * p16.1) p16.2) else none))
set_option maxRecDepth 10000 in
theorem rf199_J45 {S : Sc} (n : Nat) (rec12 : Nat → Int32 → Int32 → Int32 → Int32 → Wd → Option Wd) (K12 : Wd → Option Wd) (v0 : Nat) (v1 : Int32) (v2 : Int32) (v3 : Int32) (v4 : Int32) (v5 : Int32) (w : Wd) (o : Wd) (hrec12 : ∀ (y0 : Nat) (y1 : Int32) (y2 : Int32) (y3 : Int32) (y4 : Int32) (w : Wd) (o : Wd), rec12 y0 y1 y2 y3 y4 w = some o → Rn S 199 21 [some (.ref y0), some (.int y1), some (.int y2), some (.int y3), some (.int y4), none] [] w (none, o)) (hK12 : ∀  (w : Wd) (o : Wd), K12 w = some o → Rn S 199 91 [none, none, none, none, none, none] [] w (none, o)) (h : f199_J45 n rec12 K12 v0 v1 v2 v3 v4 v5 w = some o) : Rn S 199 45 [some (.ref v0), some (.int v1), some (.int v2), some (.int v3), some (.int v4), some (.int v5)] [] w (none, o) := by
  unfold f199_J45 at h
  refine rn_iload_n (ft199 24 rfl) rfl ?_
  refine rn_iconst (v := (1 : Int32)) (ft199 25 rfl) (by decide) ?_
  by_cases c19 : ¬ v2 = (1 : Int32)
  · replace h := ifp c19 h
    refine rn_icmp_ne_t (ft199 26 rfl) c19 ?_
    exact rn_forget (ls := [some (.ref v0), some (.int v1), some (.int v2), some (.int v3), some (.int v4), some (.int v5)]) (And.intro rfl (And.intro rfl (And.intro rfl (And.intro rfl (And.intro rfl (And.intro rfl trivial)))))) (rf199_J61 n rec12 K12 v0 v1 v2 v3 v4 v5 w _ hrec12 hK12 h)
  · replace h := ifn c19 h
    refine rn_icmp_ne_f (ft199 26 rfl) c19 ?_
    refine rn_iconst (v := (2 : Int32)) (ft199 27 rfl) (by decide) ?_
    refine rn_aload_n (ft199 28 rfl) rfl ?_
    refine rn_iload_n (ft199 29 rfl) rfl ?_
    refine rn_iload (ft199 30 rfl) rfl ?_
    obtain ⟨g18, h⟩ := ifg h
    obtain ⟨p16, q17, h⟩ := ob_some h
    refine rn_callV (as := [.int v1, .int v4]) (k0 := v0) (r := [.int (2 : Int32)]) (v := (some (.int p16.1))) (w1 := p16.2) (ft199 31 rfl) (by decide +kernel) rfl (Nat.le_of_ble_eq_true rfl) (Nat.le_of_ble_eq_true rfl) (r148 n v0 v1 v4 w _ q17) (by decide +kernel) g18 ?_
    refine rn_imul (ft199 32 rfl) ?_
    refine rn_istore (ls' := [some (.ref v0), some (.int v1), some (.int v2), some (.int v3), some (.int v4), some (.int ((2 : Int32) * p16.1))]) (ft199 33 rfl) rfl ?_
    exact rn_forget (ls := [some (.ref v0), some (.int v1), some (.int v2), some (.int v3), some (.int v4), some (.int ((2 : Int32) * p16.1))]) (And.intro rfl (And.intro rfl (And.intro rfl (And.intro rfl (And.intro rfl (And.intro rfl trivial)))))) (rf199_J61 n rec12 K12 v0 v1 v2 v3 v4 ((2 : Int32) * p16.1) p16.2 _ hrec12 hK12 h)
def f199_H21 (n : Nat)  (K12 : Wd → Option Wd) : Nat → Nat → Int32 → Int32 → Int32 → Int32 → Wd → Option Wd
  | 0, _, _, _, _, _, _ => none
  | k + 1, v0, v1, v2, v3, v4, w =>
    (if (512 : Int32) ≤ v4 then K12 w
      else (if ¬ v2 = 0 then f199_J45 n (fun (v0 : Nat) (v1 : Int32) (v2 : Int32) (v3 : Int32) (v4 : Int32) w => f199_H21 n  K12 k v0 v1 v2 v3 v4 w) K12 v0 v1 v2 v3 v4 v3 w
        else (if (wsh w v0).map (fun q => q.1) = some 2 then ob (f148 n v0 v1 v4 w) (fun p20 => f199_J45 n (fun (v0 : Nat) (v1 : Int32) (v2 : Int32) (v3 : Int32) (v4 : Int32) w => f199_H21 n  K12 k v0 v1 v2 v3 v4 w) K12 v0 v1 v2 v3 v4 p20.1 p20.2) else none)))
set_option maxRecDepth 10000 in
theorem rf199_H21 {S : Sc} (n : Nat)  (K12 : Wd → Option Wd)  (hK12 : ∀  (w : Wd) (o : Wd), K12 w = some o → Rn S 199 91 [none, none, none, none, none, none] [] w (none, o)) : ∀ (k : Nat) (v0 : Nat) (v1 : Int32) (v2 : Int32) (v3 : Int32) (v4 : Int32) (w : Wd) (o : Wd), f199_H21 n  K12 k v0 v1 v2 v3 v4 w = some o → Rn S 199 21 [some (.ref v0), some (.int v1), some (.int v2), some (.int v3), some (.int v4), none] [] w (none, o) := by
  intro k
  induction k with
  | zero =>
    intro v0 v1 v2 v3 v4 w o h
    exact nomatch h
  | succ k ih =>
    intro v0 v1 v2 v3 v4 w o h
    have hrec12 : ∀ (y0 : Nat) (y1 : Int32) (y2 : Int32) (y3 : Int32) (y4 : Int32) (w : Wd) (o : Wd), (fun (v0 : Nat) (v1 : Int32) (v2 : Int32) (v3 : Int32) (v4 : Int32) w => f199_H21 n  K12 k v0 v1 v2 v3 v4 w) y0 y1 y2 y3 y4 w = some o → Rn S 199 21 [some (.ref y0), some (.int y1), some (.int y2), some (.int y3), some (.int y4), none] [] w (none, o) := fun y0 y1 y2 y3 y4 w o h => ih y0 y1 y2 y3 y4 w o h
    unfold f199_H21 at h
    refine rn_iload (ft199 12 rfl) rfl ?_
    refine rn_sipush (v := (512 : Int32)) (ft199 13 rfl) (by decide) ?_
    by_cases c24 : (512 : Int32) ≤ v4
    · replace h := ifp c24 h
      refine rn_icmp_ge_t (ft199 14 rfl) c24 ?_
      exact rn_forget (ls := [none, none, none, none, none, none]) trivial (hK12 w _ h)
    · replace h := ifn c24 h
      refine rn_icmp_ge_f (ft199 14 rfl) c24 ?_
      refine rn_iload_n (ft199 15 rfl) rfl ?_
      refine rn_istore (ls' := [some (.ref v0), some (.int v1), some (.int v2), some (.int v3), some (.int v4), some (.int v3)]) (ft199 16 rfl) rfl ?_
      refine rn_iload_n (ft199 17 rfl) rfl ?_
      by_cases c23 : ¬ v2 = 0
      · replace h := ifp c23 h
        refine rn_if_ne_t (ft199 18 rfl) c23 ?_
        exact rn_forget (ls := [some (.ref v0), some (.int v1), some (.int v2), some (.int v3), some (.int v4), some (.int v3)]) (And.intro rfl (And.intro rfl (And.intro rfl (And.intro rfl (And.intro rfl (And.intro rfl trivial)))))) (rf199_J45 n (fun (v0 : Nat) (v1 : Int32) (v2 : Int32) (v3 : Int32) (v4 : Int32) w => f199_H21 n  K12 k v0 v1 v2 v3 v4 w) K12 v0 v1 v2 v3 v4 v3 w _ hrec12 hK12 h)
      · replace h := ifn c23 h
        refine rn_if_ne_f (ft199 18 rfl) c23 ?_
        refine rn_aload_n (ft199 19 rfl) rfl ?_
        refine rn_iload_n (ft199 20 rfl) rfl ?_
        refine rn_iload (ft199 21 rfl) rfl ?_
        obtain ⟨g22, h⟩ := ifg h
        obtain ⟨p20, q21, h⟩ := ob_some h
        refine rn_callV (as := [.int v1, .int v4]) (k0 := v0) (r := []) (v := (some (.int p20.1))) (w1 := p20.2) (ft199 22 rfl) (by decide +kernel) rfl (Nat.le_of_ble_eq_true rfl) (Nat.le_of_ble_eq_true rfl) (r148 n v0 v1 v4 w _ q21) (by decide +kernel) g22 ?_
        refine rn_istore (ls' := [some (.ref v0), some (.int v1), some (.int v2), some (.int v3), some (.int v4), some (.int p20.1)]) (ft199 23 rfl) rfl ?_
        exact rn_forget (ls := [some (.ref v0), some (.int v1), some (.int v2), some (.int v3), some (.int v4), some (.int p20.1)]) (And.intro rfl (And.intro rfl (And.intro rfl (And.intro rfl (And.intro rfl (And.intro rfl trivial)))))) (rf199_J45 n (fun (v0 : Nat) (v1 : Int32) (v2 : Int32) (v3 : Int32) (v4 : Int32) w => f199_H21 n  K12 k v0 v1 v2 v3 v4 w) K12 v0 v1 v2 v3 v4 p20.1 p20.2 _ hrec12 hK12 h)
def f199 (n : Nat) (v0 : Nat) (v1 : Int32) (w : Wd) : Option Wd :=
  ob (getR w 2 v0 1) (fun x1 => (if (wsh w x1).map (fun q => q.1) = some 3 then ob (f88 x1 v1 w) (fun p3 => ob (getR p3.2 2 v0 1) (fun x5 => (if (wsh p3.2 x5).map (fun q => q.1) = some 3 then ob (f89 x5 v1 p3.2) (fun p7 => f199_H21 n  (fun  (w25 : Wd) => some w25) n v0 v1 p3.1 p7.1 (0 : Int32) p7.2) else none))) else none))
set_option maxRecDepth 10000 in
theorem r199 {S : Sc} (n : Nat) (v0 : Nat) (v1 : Int32) (w : Wd) (o : Wd) (h : f199 n v0 v1 w = some o) : Rn S 199 0 [some (.ref v0), some (.int v1), none, none, none, none] [] w (none, o) := by
  unfold f199 at h
  refine rn_aload_n (ft199 0 rfl) rfl ?_
  obtain ⟨x1, q2, h⟩ := ob_some h
  refine rn_getR (ft199 1 rfl) q2 ?_
  refine rn_iload_n (ft199 2 rfl) rfl ?_
  obtain ⟨g27, h⟩ := ifg h
  obtain ⟨p3, q4, h⟩ := ob_some h
  refine rn_callV (as := [.int v1]) (k0 := x1) (r := []) (v := (some (.int p3.1))) (w1 := p3.2) (ft199 3 rfl) (by decide +kernel) rfl (Nat.le_of_ble_eq_true rfl) (Nat.le_of_ble_eq_true rfl) (r88 x1 v1 w _ q4) (by decide +kernel) g27 ?_
  refine rn_istore_n (ls' := [some (.ref v0), some (.int v1), some (.int p3.1), none, none, none]) (ft199 4 rfl) rfl ?_
  refine rn_aload_n (ft199 5 rfl) rfl ?_
  obtain ⟨x5, q6, h⟩ := ob_some h
  refine rn_getR (ft199 6 rfl) q6 ?_
  refine rn_iload_n (ft199 7 rfl) rfl ?_
  obtain ⟨g26, h⟩ := ifg h
  obtain ⟨p7, q8, h⟩ := ob_some h
  refine rn_callV (as := [.int v1]) (k0 := x5) (r := []) (v := (some (.int p7.1))) (w1 := p7.2) (ft199 8 rfl) (by decide +kernel) rfl (Nat.le_of_ble_eq_true rfl) (Nat.le_of_ble_eq_true rfl) (r89 x5 v1 p3.2 _ q8) (by decide +kernel) g26 ?_
  refine rn_istore_n (ls' := [some (.ref v0), some (.int v1), some (.int p3.1), some (.int p7.1), none, none]) (ft199 9 rfl) rfl ?_
  refine rn_iconst (v := (0 : Int32)) (ft199 10 rfl) (by decide) ?_
  refine rn_istore (ls' := [some (.ref v0), some (.int v1), some (.int p3.1), some (.int p7.1), some (.int (0 : Int32)), none]) (ft199 11 rfl) rfl ?_
  refine rn_forget (ls := [some (.ref v0), some (.int v1), some (.int p3.1), some (.int p7.1), some (.int (0 : Int32)), none]) (And.intro rfl (And.intro rfl (And.intro rfl (And.intro rfl (And.intro rfl trivial))))) (rf199_H21 n  _  (fun  w25 o h => ?_) n v0 v1 p3.1 p7.1 (0 : Int32) p7.2 _ h)
  cases h
  exact rn_vret pr199 (ft199 50 rfl)
/-- NineWheel$Counting.options(II)I -/
theorem ft200 : ∀ (i : Nat) {q : Nat × XI}, cd200[i]? = some q → fetch 200 q.1 = some q.2 := ft_of (by decide +kernel)
theorem pr200 : pRt 200 = some .int := rfl
def f200_J44 (n : Nat)  (v0 : Nat) (v1 : Int32) (s0 : Int32) (w : Wd) : Option (Int32 × Wd) :=
  ob (getR w 0 v0 5) (fun x9 => ob (aldI w x9 v1) (fun x11 => (if ¬ ((x11 >>> (((3 : Int32) * s0) &&& 31)) &&& (7 : Int32)) = 0 then some (((x11 >>> (((3 : Int32) * s0) &&& 31)) &&& (7 : Int32)), w)
    else (if (wsh w v0).map (fun q => q.1) = some 0 then ob (f183 n v0 v1 s0 w) (fun p13 => ob (getR p13.2 0 v0 5) (fun x15 => ob (aldI p13.2 x15 v1) (fun x17 => ob (astI p13.2 x15 v1 (x17 ||| (p13.1 <<< (((3 : Int32) * s0) &&& 31)))) (fun w19 => some (p13.1, w19))))) else none))))
set_option maxRecDepth 10000 in
theorem rf200_J44 {S : Sc} (n : Nat)  (v0 : Nat) (v1 : Int32) (s0 : Int32) (w : Wd) (o : (Int32 × Wd))  (h : f200_J44 n  v0 v1 s0 w = some o) : Rn S 200 44 [some (.ref v0), some (.int v1), none, none, none] [.int s0] w (some (.int o.1), o.2) := by
  unfold f200_J44 at h
  refine rn_istore_n (ls' := [some (.ref v0), some (.int v1), none, some (.int s0), none]) (ft200 21 rfl) rfl ?_
  refine rn_aload_n (ft200 22 rfl) rfl ?_
  obtain ⟨x9, q10, h⟩ := ob_some h
  refine rn_getR (ft200 23 rfl) q10 ?_
  refine rn_iload_n (ft200 24 rfl) rfl ?_
  obtain ⟨x11, q12, h⟩ := ob_some h
  refine rn_iaload (ft200 25 rfl) q12 ?_
  refine rn_iconst (v := (3 : Int32)) (ft200 26 rfl) (by decide) ?_
  refine rn_iload_n (ft200 27 rfl) rfl ?_
  refine rn_imul (ft200 28 rfl) ?_
  refine rn_ishr (ft200 29 rfl) ?_
  refine rn_bipush (v := (7 : Int32)) (ft200 30 rfl) (by decide) ?_
  refine rn_iand (ft200 31 rfl) ?_
  refine rn_istore (ls' := [some (.ref v0), some (.int v1), none, some (.int s0), some (.int ((x11 >>> (((3 : Int32) * s0) &&& 31)) &&& (7 : Int32)))]) (ft200 32 rfl) rfl ?_
  refine rn_iload (ft200 33 rfl) rfl ?_
  by_cases c22 : ¬ ((x11 >>> (((3 : Int32) * s0) &&& 31)) &&& (7 : Int32)) = 0
  · replace h := ifp c22 h
    refine rn_if_ne_t (ft200 34 rfl) c22 ?_
    refine rn_iload (ft200 52 rfl) rfl ?_
    cases h
    exact rn_iretI pr200 (ft200 53 rfl)
  · replace h := ifn c22 h
    refine rn_if_ne_f (ft200 34 rfl) c22 ?_
    refine rn_aload_n (ft200 35 rfl) rfl ?_
    refine rn_iload_n (ft200 36 rfl) rfl ?_
    refine rn_iload_n (ft200 37 rfl) rfl ?_
    obtain ⟨g21, h⟩ := ifg h
    obtain ⟨p13, q14, h⟩ := ob_some h
    refine rn_callV (as := [.int v1, .int s0]) (k0 := v0) (r := []) (v := (some (.int p13.1))) (w1 := p13.2) (ft200 38 rfl) (by decide +kernel) rfl (Nat.le_of_ble_eq_true rfl) (Nat.le_of_ble_eq_true rfl) (r183 n v0 v1 s0 w _ q14) (by decide +kernel) g21 ?_
    refine rn_istore (ls' := [some (.ref v0), some (.int v1), none, some (.int s0), some (.int p13.1)]) (ft200 39 rfl) rfl ?_
    refine rn_aload_n (ft200 40 rfl) rfl ?_
    obtain ⟨x15, q16, h⟩ := ob_some h
    refine rn_getR (ft200 41 rfl) q16 ?_
    refine rn_iload_n (ft200 42 rfl) rfl ?_
    refine rn_dup2 (ft200 43 rfl) rfl rfl ?_
    obtain ⟨x17, q18, h⟩ := ob_some h
    refine rn_iaload (ft200 44 rfl) q18 ?_
    refine rn_iload (ft200 45 rfl) rfl ?_
    refine rn_iconst (v := (3 : Int32)) (ft200 46 rfl) (by decide) ?_
    refine rn_iload_n (ft200 47 rfl) rfl ?_
    refine rn_imul (ft200 48 rfl) ?_
    refine rn_ishl (ft200 49 rfl) ?_
    refine rn_ior (ft200 50 rfl) ?_
    obtain ⟨w19, q20, h⟩ := ob_some h
    refine rn_iastore (ft200 51 rfl) q20 ?_
    refine rn_iload (ft200 52 rfl) rfl ?_
    cases h
    exact rn_iretI pr200 (ft200 53 rfl)
def f200 (n : Nat) (v0 : Nat) (v1 : Int32) (v2 : Int32) (w : Wd) : Option (Int32 × Wd) :=
  ob (getI w 0 v0 4) (fun x1 => (if ¬ x1 = 0 then some ((7 : Int32), w)
    else ob (f0 v1 (0 : Int32) (511 : Int32) w) (fun p3 => (if p3.1 = 0 then ob (getR p3.2 0 v0 2) (fun x5 => ob (getI p3.2 5 x5 0) (fun x7 => (if ¬ x7 = (3 : Int32) then f200_J44 n  v0 v1 (0 : Int32) p3.2
        else ob (getR p3.2 0 v0 0) (fun x23 => (if (wsh p3.2 x23).map (fun q => q.1) = some 6 then ob (f150 n x23 v2 p3.2) (fun p25 => f200_J44 n  v0 v1 p25.1 p25.2) else none)))))
      else some ((7 : Int32), p3.2)))))
set_option maxRecDepth 10000 in
theorem r200 {S : Sc} (n : Nat) (v0 : Nat) (v1 : Int32) (v2 : Int32) (w : Wd) (o : (Int32 × Wd)) (h : f200 n v0 v1 v2 w = some o) : Rn S 200 0 [some (.ref v0), some (.int v1), some (.int v2), none, none] [] w (some (.int o.1), o.2) := by
  unfold f200 at h
  refine rn_aload_n (ft200 0 rfl) rfl ?_
  obtain ⟨x1, q2, h⟩ := ob_some h
  refine rn_getI (ft200 1 rfl) (by decide) (by decide) q2 ?_
  by_cases c30 : ¬ x1 = 0
  · replace h := ifp c30 h
    refine rn_if_ne_t (ft200 2 rfl) c30 ?_
    refine rn_bipush (v := (7 : Int32)) (ft200 8 rfl) (by decide) ?_
    cases h
    exact rn_iretI pr200 (ft200 9 rfl)
  · replace h := ifn c30 h
    refine rn_if_ne_f (ft200 2 rfl) c30 ?_
    refine rn_iload_n (ft200 3 rfl) rfl ?_
    refine rn_iconst (v := (0 : Int32)) (ft200 4 rfl) (by decide) ?_
    refine rn_sipush (v := (511 : Int32)) (ft200 5 rfl) (by decide) ?_
    obtain ⟨p3, q4, h⟩ := ob_some h
    refine rn_callS (as := [.int v1, .int (0 : Int32), .int (511 : Int32)]) (r := []) (v := (some (.int p3.1))) (w1 := p3.2) (ft200 6 rfl) (by decide +kernel) rfl (Nat.le_of_ble_eq_true rfl) (Nat.le_of_ble_eq_true rfl) (r0 v1 (0 : Int32) (511 : Int32) w _ q4) ?_
    by_cases c29 : p3.1 = 0
    · replace h := ifp c29 h
      refine rn_if_eq_t (ft200 7 rfl) c29 ?_
      refine rn_aload_n (ft200 10 rfl) rfl ?_
      obtain ⟨x5, q6, h⟩ := ob_some h
      refine rn_getR (ft200 11 rfl) q6 ?_
      obtain ⟨x7, q8, h⟩ := ob_some h
      refine rn_getI (ft200 12 rfl) (by decide) (by decide) q8 ?_
      refine rn_iconst (v := (3 : Int32)) (ft200 13 rfl) (by decide) ?_
      by_cases c28 : ¬ x7 = (3 : Int32)
      · replace h := ifp c28 h
        refine rn_icmp_ne_t (ft200 14 rfl) c28 ?_
        refine rn_iconst (v := (0 : Int32)) (ft200 20 rfl) (by decide) ?_
        exact rn_forget (ls := [some (.ref v0), some (.int v1), none, none, none]) (And.intro rfl (And.intro rfl trivial)) (rf200_J44 n  v0 v1 (0 : Int32) p3.2 _  h)
      · replace h := ifn c28 h
        refine rn_icmp_ne_f (ft200 14 rfl) c28 ?_
        refine rn_aload_n (ft200 15 rfl) rfl ?_
        obtain ⟨x23, q24, h⟩ := ob_some h
        refine rn_getR (ft200 16 rfl) q24 ?_
        refine rn_iload_n (ft200 17 rfl) rfl ?_
        obtain ⟨g27, h⟩ := ifg h
        obtain ⟨p25, q26, h⟩ := ob_some h
        refine rn_callV (as := [.int v2]) (k0 := x23) (r := []) (v := (some (.int p25.1))) (w1 := p25.2) (ft200 18 rfl) (by decide +kernel) rfl (Nat.le_of_ble_eq_true rfl) (Nat.le_of_ble_eq_true rfl) (r150 n x23 v2 p3.2 _ q26) (by decide +kernel) g27 ?_
        refine rn_goto (ft200 19 rfl) ?_
        exact rn_forget (ls := [some (.ref v0), some (.int v1), none, none, none]) (And.intro rfl (And.intro rfl trivial)) (rf200_J44 n  v0 v1 p25.1 p25.2 _  h)
    · replace h := ifn c29 h
      refine rn_if_eq_f (ft200 7 rfl) c29 ?_
      refine rn_bipush (v := (7 : Int32)) (ft200 8 rfl) (by decide) ?_
      cases h
      exact rn_iretI pr200 (ft200 9 rfl)
/-- NineWheelModel.takeRocks()I -/
theorem ft201 : ∀ (i : Nat) {q : Nat × XI}, cd201[i]? = some q → fetch 201 q.1 = some q.2 := ft_of (by decide +kernel)
theorem pr201 : pRt 201 = some .int := rfl
def f201_H6 (n : Nat)  (K4 : Wd → Option (Int32 × Wd)) : Nat → Nat → Int32 → Wd → Option (Int32 × Wd)
  | 0, _, _, _ => none
  | k + 1, v0, v1, w =>
    (if v1 = 0 then K4 w
      else (if (wsh w v0).map (fun q => q.1) = some 11 then ob (f189 n v0 w) (fun p3 => (if p3.1 ≤ 0 then ob (getR p3.2 11 v0 24) (fun x5 => ob (getI p3.2 11 v0 20) (fun x7 => ob (astB p3.2 x5 x7 (1 : Int32)) (fun w9 => (if (wsh w9 v0).map (fun q => q.1) = some 11 then ob (f114 n v0 w9) (fun p11 => (fun (v0 : Nat) (v1 : Int32) w => f201_H6 n  K4 k v0 v1 w) v0 p11.1 p11.2) else none))))
        else some (p3.1, p3.2))) else none))
set_option maxRecDepth 10000 in
theorem rf201_H6 {S : Sc} (n : Nat)  (K4 : Wd → Option (Int32 × Wd))  (hK4 : ∀  (w : Wd) (o : (Int32 × Wd)), K4 w = some o → Rn S 201 39 [none, none, none] [] w (some (.int o.1), o.2)) : ∀ (k : Nat) (v0 : Nat) (v1 : Int32) (w : Wd) (o : (Int32 × Wd)), f201_H6 n  K4 k v0 v1 w = some o → Rn S 201 6 [some (.ref v0), some (.int v1), none] [] w (some (.int o.1), o.2) := by
  intro k
  induction k with
  | zero =>
    intro v0 v1 w o h
    exact nomatch h
  | succ k ih =>
    intro v0 v1 w o h
    have hrec4 : ∀ (y0 : Nat) (y1 : Int32) (w : Wd) (o : (Int32 × Wd)), (fun (v0 : Nat) (v1 : Int32) w => f201_H6 n  K4 k v0 v1 w) y0 y1 w = some o → Rn S 201 6 [some (.ref y0), some (.int y1), none] [] w (some (.int o.1), o.2) := fun y0 y1 w o h => ih y0 y1 w o h
    unfold f201_H6 at h
    refine rn_iload_n (ft201 4 rfl) rfl ?_
    by_cases c16 : v1 = 0
    · replace h := ifp c16 h
      refine rn_if_eq_t (ft201 5 rfl) c16 ?_
      exact rn_forget (ls := [none, none, none]) trivial (hK4 w _ h)
    · replace h := ifn c16 h
      refine rn_if_eq_f (ft201 5 rfl) c16 ?_
      refine rn_aload_n (ft201 6 rfl) rfl ?_
      obtain ⟨g15, h⟩ := ifg h
      obtain ⟨p3, q4, h⟩ := ob_some h
      refine rn_callV (as := []) (k0 := v0) (r := []) (v := (some (.int p3.1))) (w1 := p3.2) (ft201 7 rfl) (by decide +kernel) rfl (Nat.le_of_ble_eq_true rfl) (Nat.le_of_ble_eq_true rfl) (r189 n v0 w _ q4) (by decide +kernel) g15 ?_
      refine rn_istore_n (ls' := [some (.ref v0), some (.int v1), some (.int p3.1)]) (ft201 8 rfl) rfl ?_
      refine rn_iload_n (ft201 9 rfl) rfl ?_
      by_cases c14 : p3.1 ≤ 0
      · replace h := ifp c14 h
        refine rn_if_le_t (ft201 10 rfl) c14 ?_
        refine rn_aload_n (ft201 13 rfl) rfl ?_
        obtain ⟨x5, q6, h⟩ := ob_some h
        refine rn_getR (ft201 14 rfl) q6 ?_
        refine rn_aload_n (ft201 15 rfl) rfl ?_
        obtain ⟨x7, q8, h⟩ := ob_some h
        refine rn_getI (ft201 16 rfl) (by decide) (by decide) q8 ?_
        refine rn_iconst (v := (1 : Int32)) (ft201 17 rfl) (by decide) ?_
        obtain ⟨w9, q10, h⟩ := ob_some h
        refine rn_bastore (ft201 18 rfl) q10 ?_
        refine rn_aload_n (ft201 19 rfl) rfl ?_
        obtain ⟨g13, h⟩ := ifg h
        obtain ⟨p11, q12, h⟩ := ob_some h
        refine rn_callV (as := []) (k0 := v0) (r := []) (v := (some (.int p11.1))) (w1 := p11.2) (ft201 20 rfl) (by decide +kernel) rfl (Nat.le_of_ble_eq_true rfl) (Nat.le_of_ble_eq_true rfl) (r114 n v0 w9 _ q12) (by decide +kernel) g13 ?_
        refine rn_istore_n (ls' := [some (.ref v0), some (.int p11.1), some (.int p3.1)]) (ft201 21 rfl) rfl ?_
        refine rn_goto (ft201 22 rfl) ?_
        exact rn_forget (ls := [some (.ref v0), some (.int p11.1), none]) (And.intro rfl (And.intro rfl trivial)) (hrec4 v0 p11.1 p11.2 _ h)
      · replace h := ifn c14 h
        refine rn_if_le_f (ft201 10 rfl) c14 ?_
        refine rn_iload_n (ft201 11 rfl) rfl ?_
        cases h
        exact rn_iretI pr201 (ft201 12 rfl)
def f201 (n : Nat) (v0 : Nat) (w : Wd) : Option (Int32 × Wd) :=
  (if (wsh w v0).map (fun q => q.1) = some 11 then ob (f47 n v0 w) (fun p1 => f201_H6 n  (fun  (w17 : Wd) => some ((0 : Int32), w17)) n v0 (1 : Int32) p1) else none)
set_option maxRecDepth 10000 in
theorem r201 {S : Sc} (n : Nat) (v0 : Nat) (w : Wd) (o : (Int32 × Wd)) (h : f201 n v0 w = some o) : Rn S 201 0 [some (.ref v0), none, none] [] w (some (.int o.1), o.2) := by
  unfold f201 at h
  refine rn_aload_n (ft201 0 rfl) rfl ?_
  obtain ⟨g18, h⟩ := ifg h
  obtain ⟨p1, q2, h⟩ := ob_some h
  refine rn_callV (as := []) (k0 := v0) (r := []) (v := none) (w1 := p1) (ft201 1 rfl) (by decide +kernel) rfl (Nat.le_of_ble_eq_true rfl) (Nat.le_of_ble_eq_true rfl) (r47 n v0 w _ q2) (by decide +kernel) g18 ?_
  refine rn_iconst (v := (1 : Int32)) (ft201 2 rfl) (by decide) ?_
  refine rn_istore_n (ls' := [some (.ref v0), some (.int (1 : Int32)), none]) (ft201 3 rfl) rfl ?_
  refine rn_forget (ls := [some (.ref v0), some (.int (1 : Int32)), none]) (And.intro rfl (And.intro rfl trivial)) (rf201_H6 n  _  (fun  w17 o h => ?_) n v0 (1 : Int32) p1 _ h)
  refine rn_iconst (v := (0 : Int32)) (ft201 23 rfl) (by decide) ?_
  cases h
  exact rn_iretI pr201 (ft201 24 rfl)
