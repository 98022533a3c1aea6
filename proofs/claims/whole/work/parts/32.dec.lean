/-! THE METHODS AS FUNCTIONS, 15 -/
/-- NineWheel$Counting.workOut(II)I -/
theorem ft183 : ∀ (i : Nat) {q : Nat × XI}, cd183[i]? = some q → fetch 183 q.1 = some q.2 := ft_of (by decide +kernel)
theorem pr183 : pRt 183 = some .int := rfl
def f183_H45 (n : Nat)  (K27 : Nat → Int32 → Int32 → Wd → Option (Int32 × Wd)) : Nat → Nat → Int32 → Int32 → Int32 → Int32 → Wd → Option (Int32 × Wd)
  | 0, _, _, _, _, _, _ => none
  | k + 1, v0, v1, v2, v4, v5, w =>
    (if (6 : Int32) ≤ v5 then K27 v0 v2 v4 w
      else ob (getR w 0 v0 6) (fun x15 => ob (getR w 0 v0 1) (fun x17 => (if (wsh w x17).map (fun q => q.1) = some 2 then ob (f97 x17 v5 v1 w) (fun p19 => ob (astI p19.2 x15 v5 p19.1) (fun w21 => (fun (v0 : Nat) (v1 : Int32) (v2 : Int32) (v4 : Int32) (v5 : Int32) w => f183_H45 n  K27 k v0 v1 v2 v4 v5 w) v0 v1 v2 v4 (v5 + (1 : Int32)) w21)) else none))))
set_option maxRecDepth 10000 in
theorem rf183_H45 {S : Sc} (n : Nat)  (K27 : Nat → Int32 → Int32 → Wd → Option (Int32 × Wd))  (hK27 : ∀ (y0 : Nat) (y2 : Int32) (y4 : Int32) (w : Wd) (o : (Int32 × Wd)), K27 y0 y2 y4 w = some o → Rn S 183 75 [some (.ref y0), none, some (.int y2), none, some (.int y4), none, none, none] [] w (some (.int o.1), o.2)) : ∀ (k : Nat) (v0 : Nat) (v1 : Int32) (v2 : Int32) (v4 : Int32) (v5 : Int32) (w : Wd) (o : (Int32 × Wd)), f183_H45 n  K27 k v0 v1 v2 v4 v5 w = some o → Rn S 183 45 [some (.ref v0), some (.int v1), some (.int v2), none, some (.int v4), some (.int v5), none, none] [] w (some (.int o.1), o.2) := by
  intro k
  induction k with
  | zero =>
    intro v0 v1 v2 v4 v5 w o h
    exact nomatch h
  | succ k ih =>
    intro v0 v1 v2 v4 v5 w o h
    have hrec27 : ∀ (y0 : Nat) (y1 : Int32) (y2 : Int32) (y4 : Int32) (y5 : Int32) (w : Wd) (o : (Int32 × Wd)), (fun (v0 : Nat) (v1 : Int32) (v2 : Int32) (v4 : Int32) (v5 : Int32) w => f183_H45 n  K27 k v0 v1 v2 v4 v5 w) y0 y1 y2 y4 y5 w = some o → Rn S 183 45 [some (.ref y0), some (.int y1), some (.int y2), none, some (.int y4), some (.int y5), none, none] [] w (some (.int o.1), o.2) := fun y0 y1 y2 y4 y5 w o h => ih y0 y1 y2 y4 y5 w o h
    unfold f183_H45 at h
    refine rn_iload (ft183 27 rfl) rfl ?_
    refine rn_bipush (v := (6 : Int32)) (ft183 28 rfl) (by decide) ?_
    by_cases c24 : (6 : Int32) ≤ v5
    · replace h := ifp c24 h
      refine rn_icmp_ge_t (ft183 29 rfl) c24 ?_
      exact rn_forget (ls := [some (.ref v0), none, some (.int v2), none, some (.int v4), none, none, none]) (And.intro rfl (And.intro rfl (And.intro rfl trivial))) (hK27 v0 v2 v4 w _ h)
    · replace h := ifn c24 h
      refine rn_icmp_ge_f (ft183 29 rfl) c24 ?_
      refine rn_aload_n (ft183 30 rfl) rfl ?_
      obtain ⟨x15, q16, h⟩ := ob_some h
      refine rn_getR (ft183 31 rfl) q16 ?_
      refine rn_iload (ft183 32 rfl) rfl ?_
      refine rn_aload_n (ft183 33 rfl) rfl ?_
      obtain ⟨x17, q18, h⟩ := ob_some h
      refine rn_getR (ft183 34 rfl) q18 ?_
      refine rn_iload (ft183 35 rfl) rfl ?_
      refine rn_iload_n (ft183 36 rfl) rfl ?_
      obtain ⟨g23, h⟩ := ifg h
      obtain ⟨p19, q20, h⟩ := ob_some h
      refine rn_callV (as := [.int v5, .int v1]) (k0 := x17) (r := [.int v5, .ref x15]) (v := (some (.int p19.1))) (w1 := p19.2) (ft183 37 rfl) (by decide +kernel) rfl (Nat.le_of_ble_eq_true rfl) (Nat.le_of_ble_eq_true rfl) (r97 x17 v5 v1 w _ q20) (by decide +kernel) g23 ?_
      obtain ⟨w21, q22, h⟩ := ob_some h
      refine rn_iastore (ft183 38 rfl) q22 ?_
      refine rn_iinc (u := 1) (ls' := [some (.ref v0), some (.int v1), some (.int v2), none, some (.int v4), some (.int (v5 + (1 : Int32))), none, none]) (ft183 39 rfl) rfl (by decide) rfl ?_
      refine rn_goto (ft183 40 rfl) ?_
      exact rn_forget (ls := [some (.ref v0), some (.int v1), some (.int v2), none, some (.int v4), some (.int (v5 + (1 : Int32))), none, none]) (And.intro rfl (And.intro rfl (And.intro rfl (And.intro rfl (And.intro rfl trivial))))) (hrec27 v0 v1 v2 v4 (v5 + (1 : Int32)) w21 _ h)
def f183_J120 (n : Nat) (rec49 : Nat → Int32 → Int32 → Int32 → Int32 → Int32 → Wd → Option (Int32 × Wd)) (K49 : Int32 → Wd → Option (Int32 × Wd)) (v0 : Nat) (v2 : Int32) (v4 : Int32) (v5 : Int32) (v6 : Int32) (v7 : Int32) (w : Wd) : Option (Int32 × Wd) :=
  (if (wsh w v0).map (fun q => q.1) = some 0 then ob (f153 n v0 v2 w) (fun p30 => ob (getR p30 0 v0 2) (fun x32 => ob (getR p30 0 v0 7) (fun x34 => (if (wsh p30 x32).map (fun q => q.1) = some 5 then ob (f154 x32 x34 p30) (fun p36 => rec49 v0 v2 v4 (v5 ||| ((1 : Int32) <<< ((p36.1 + (1 : Int32)) &&& 31))) v6 (v7 + (1 : Int32)) p36.2) else none)))) else none)
set_option maxRecDepth 10000 in
theorem rf183_J120 {S : Sc} (n : Nat) (rec49 : Nat → Int32 → Int32 → Int32 → Int32 → Int32 → Wd → Option (Int32 × Wd)) (K49 : Int32 → Wd → Option (Int32 × Wd)) (v0 : Nat) (v2 : Int32) (v4 : Int32) (v5 : Int32) (v6 : Int32) (v7 : Int32) (w : Wd) (o : (Int32 × Wd)) (hrec49 : ∀ (y0 : Nat) (y2 : Int32) (y4 : Int32) (y5 : Int32) (y6 : Int32) (y7 : Int32) (w : Wd) (o : (Int32 × Wd)), rec49 y0 y2 y4 y5 y6 y7 w = some o → Rn S 183 89 [some (.ref y0), none, some (.int y2), none, some (.int y4), some (.int y5), some (.int y6), some (.int y7)] [] w (some (.int o.1), o.2)) (hK49 : ∀ (y5 : Int32) (w : Wd) (o : (Int32 × Wd)), K49 y5 w = some o → Rn S 183 151 [none, none, none, none, none, some (.int y5), none, none] [] w (some (.int o.1), o.2)) (h : f183_J120 n rec49 K49 v0 v2 v4 v5 v6 v7 w = some o) : Rn S 183 120 [some (.ref v0), none, some (.int v2), none, some (.int v4), some (.int v5), some (.int v6), some (.int v7)] [] w (some (.int o.1), o.2) := by
  unfold f183_J120 at h
  refine rn_aload_n (ft183 63 rfl) rfl ?_
  refine rn_iload_n (ft183 64 rfl) rfl ?_
  obtain ⟨g39, h⟩ := ifg h
  obtain ⟨p30, q31, h⟩ := ob_some h
  refine rn_callV (as := [.int v2]) (k0 := v0) (r := []) (v := none) (w1 := p30) (ft183 65 rfl) (by decide +kernel) rfl (Nat.le_of_ble_eq_true rfl) (Nat.le_of_ble_eq_true rfl) (r153 n v0 v2 w _ q31) (by decide +kernel) g39 ?_
  refine rn_iload (ft183 66 rfl) rfl ?_
  refine rn_iconst (v := (1 : Int32)) (ft183 67 rfl) (by decide) ?_
  refine rn_aload_n (ft183 68 rfl) rfl ?_
  obtain ⟨x32, q33, h⟩ := ob_some h
  refine rn_getR (ft183 69 rfl) q33 ?_
  refine rn_aload_n (ft183 70 rfl) rfl ?_
  obtain ⟨x34, q35, h⟩ := ob_some h
  refine rn_getR (ft183 71 rfl) q35 ?_
  obtain ⟨g38, h⟩ := ifg h
  obtain ⟨p36, q37, h⟩ := ob_some h
  refine rn_callV (as := [.ref x34]) (k0 := x32) (r := [.int (1 : Int32), .int v5]) (v := (some (.int p36.1))) (w1 := p36.2) (ft183 72 rfl) (by decide +kernel) rfl (Nat.le_of_ble_eq_true rfl) (Nat.le_of_ble_eq_true rfl) (r154 x32 x34 p30 _ q37) (by decide +kernel) g38 ?_
  refine rn_iconst (v := (1 : Int32)) (ft183 73 rfl) (by decide) ?_
  refine rn_iadd (ft183 74 rfl) ?_
  refine rn_ishl (ft183 75 rfl) ?_
  refine rn_ior (ft183 76 rfl) ?_
  refine rn_istore (ls' := [some (.ref v0), none, some (.int v2), none, some (.int v4), some (.int (v5 ||| ((1 : Int32) <<< ((p36.1 + (1 : Int32)) &&& 31)))), some (.int v6), some (.int v7)]) (ft183 77 rfl) rfl ?_
  refine rn_iinc (u := 1) (ls' := [some (.ref v0), none, some (.int v2), none, some (.int v4), some (.int (v5 ||| ((1 : Int32) <<< ((p36.1 + (1 : Int32)) &&& 31)))), some (.int v6), some (.int (v7 + (1 : Int32)))]) (ft183 78 rfl) rfl (by decide) rfl ?_
  refine rn_goto (ft183 79 rfl) ?_
  exact rn_forget (ls := [some (.ref v0), none, some (.int v2), none, some (.int v4), some (.int (v5 ||| ((1 : Int32) <<< ((p36.1 + (1 : Int32)) &&& 31)))), some (.int v6), some (.int (v7 + (1 : Int32)))]) (And.intro rfl (And.intro rfl (And.intro rfl (And.intro rfl (And.intro rfl (And.intro rfl trivial)))))) (hrec49 v0 v2 v4 (v5 ||| ((1 : Int32) <<< ((p36.1 + (1 : Int32)) &&& 31))) v6 (v7 + (1 : Int32)) p36.2 _ h)
def f183_H89 (n : Nat)  (K49 : Int32 → Wd → Option (Int32 × Wd)) : Nat → Nat → Int32 → Int32 → Int32 → Int32 → Int32 → Wd → Option (Int32 × Wd)
  | 0, _, _, _, _, _, _, _ => none
  | k + 1, v0, v2, v4, v5, v6, v7, w =>
    (if v6 < v7 then K49 v5 w
      else (if v5 = (7 : Int32) then K49 v5 w
        else (if (wsh w v0).map (fun q => q.1) = some 0 then ob (f100 n v0 v7 w) (fun p28 => (if v4 = 0 then f183_J120 n (fun (v0 : Nat) (v2 : Int32) (v4 : Int32) (v5 : Int32) (v6 : Int32) (v7 : Int32) w => f183_H89 n  K49 k v0 v2 v4 v5 v6 v7 w) K49 v0 v2 v4 v5 v6 v7 p28
          else (if (wsh p28 v0).map (fun q => q.1) = some 0 then ob (f152 n v0 v4 p28) (fun p40 => f183_J120 n (fun (v0 : Nat) (v2 : Int32) (v4 : Int32) (v5 : Int32) (v6 : Int32) (v7 : Int32) w => f183_H89 n  K49 k v0 v2 v4 v5 v6 v7 w) K49 v0 v2 v4 v5 v6 v7 p40) else none))) else none)))
set_option maxRecDepth 10000 in
theorem rf183_H89 {S : Sc} (n : Nat)  (K49 : Int32 → Wd → Option (Int32 × Wd))  (hK49 : ∀ (y5 : Int32) (w : Wd) (o : (Int32 × Wd)), K49 y5 w = some o → Rn S 183 151 [none, none, none, none, none, some (.int y5), none, none] [] w (some (.int o.1), o.2)) : ∀ (k : Nat) (v0 : Nat) (v2 : Int32) (v4 : Int32) (v5 : Int32) (v6 : Int32) (v7 : Int32) (w : Wd) (o : (Int32 × Wd)), f183_H89 n  K49 k v0 v2 v4 v5 v6 v7 w = some o → Rn S 183 89 [some (.ref v0), none, some (.int v2), none, some (.int v4), some (.int v5), some (.int v6), some (.int v7)] [] w (some (.int o.1), o.2) := by
  intro k
  induction k with
  | zero =>
    intro v0 v2 v4 v5 v6 v7 w o h
    exact nomatch h
  | succ k ih =>
    intro v0 v2 v4 v5 v6 v7 w o h
    have hrec49 : ∀ (y0 : Nat) (y2 : Int32) (y4 : Int32) (y5 : Int32) (y6 : Int32) (y7 : Int32) (w : Wd) (o : (Int32 × Wd)), (fun (v0 : Nat) (v2 : Int32) (v4 : Int32) (v5 : Int32) (v6 : Int32) (v7 : Int32) w => f183_H89 n  K49 k v0 v2 v4 v5 v6 v7 w) y0 y2 y4 y5 y6 y7 w = some o → Rn S 183 89 [some (.ref y0), none, some (.int y2), none, some (.int y4), some (.int y5), some (.int y6), some (.int y7)] [] w (some (.int o.1), o.2) := fun y0 y2 y4 y5 y6 y7 w o h => ih y0 y2 y4 y5 y6 y7 w o h
    unfold f183_H89 at h
    refine rn_iload (ft183 49 rfl) rfl ?_
    refine rn_iload (ft183 50 rfl) rfl ?_
    by_cases c46 : v6 < v7
    · replace h := ifp c46 h
      refine rn_icmp_gt_t (ft183 51 rfl) c46 ?_
      exact rn_forget (ls := [none, none, none, none, none, some (.int v5), none, none]) (And.intro rfl trivial) (hK49 v5 w _ h)
    · replace h := ifn c46 h
      refine rn_icmp_gt_f (ft183 51 rfl) c46 ?_
      refine rn_iload (ft183 52 rfl) rfl ?_
      refine rn_bipush (v := (7 : Int32)) (ft183 53 rfl) (by decide) ?_
      by_cases c45 : v5 = (7 : Int32)
      · replace h := ifp c45 h
        refine rn_icmp_eq_t (ft183 54 rfl) c45 ?_
        exact rn_forget (ls := [none, none, none, none, none, some (.int v5), none, none]) (And.intro rfl trivial) (hK49 v5 w _ h)
      · replace h := ifn c45 h
        refine rn_icmp_eq_f (ft183 54 rfl) c45 ?_
        refine rn_aload_n (ft183 55 rfl) rfl ?_
        refine rn_iload (ft183 56 rfl) rfl ?_
        obtain ⟨g44, h⟩ := ifg h
        obtain ⟨p28, q29, h⟩ := ob_some h
        refine rn_callV (as := [.int v7]) (k0 := v0) (r := []) (v := none) (w1 := p28) (ft183 57 rfl) (by decide +kernel) rfl (Nat.le_of_ble_eq_true rfl) (Nat.le_of_ble_eq_true rfl) (r100 n v0 v7 w _ q29) (by decide +kernel) g44 ?_
        refine rn_iload (ft183 58 rfl) rfl ?_
        by_cases c43 : v4 = 0
        · replace h := ifp c43 h
          refine rn_if_eq_t (ft183 59 rfl) c43 ?_
          exact rn_forget (ls := [some (.ref v0), none, some (.int v2), none, some (.int v4), some (.int v5), some (.int v6), some (.int v7)]) (And.intro rfl (And.intro rfl (And.intro rfl (And.intro rfl (And.intro rfl (And.intro rfl trivial)))))) (rf183_J120 n (fun (v0 : Nat) (v2 : Int32) (v4 : Int32) (v5 : Int32) (v6 : Int32) (v7 : Int32) w => f183_H89 n  K49 k v0 v2 v4 v5 v6 v7 w) K49 v0 v2 v4 v5 v6 v7 p28 _ hrec49 hK49 h)
        · replace h := ifn c43 h
          refine rn_if_eq_f (ft183 59 rfl) c43 ?_
          refine rn_aload_n (ft183 60 rfl) rfl ?_
          refine rn_iload (ft183 61 rfl) rfl ?_
          obtain ⟨g42, h⟩ := ifg h
          obtain ⟨p40, q41, h⟩ := ob_some h
          refine rn_callV (as := [.int v4]) (k0 := v0) (r := []) (v := none) (w1 := p40) (ft183 62 rfl) (by decide +kernel) rfl (Nat.le_of_ble_eq_true rfl) (Nat.le_of_ble_eq_true rfl) (r152 n v0 v4 p28 _ q41) (by decide +kernel) g42 ?_
          exact rn_forget (ls := [some (.ref v0), none, some (.int v2), none, some (.int v4), some (.int v5), some (.int v6), some (.int v7)]) (And.intro rfl (And.intro rfl (And.intro rfl (And.intro rfl (And.intro rfl (And.intro rfl trivial)))))) (rf183_J120 n (fun (v0 : Nat) (v2 : Int32) (v4 : Int32) (v5 : Int32) (v6 : Int32) (v7 : Int32) w => f183_H89 n  K49 k v0 v2 v4 v5 v6 v7 w) K49 v0 v2 v4 v5 v6 v7 p40 _ hrec49 hK49 h)
def f183 (n : Nat) (v0 : Nat) (v1 : Int32) (v2 : Int32) (w : Wd) : Option (Int32 × Wd) :=
  ob (getR w 0 v0 2) (fun x1 => ob (getR w 0 v0 0) (fun x3 => (if (wsh w x1).map (fun q => q.1) = some 5 then ob (f151 n x1 x3 v1 w) (fun p5 => (if p5.1 = 0 then ob (getR p5.2 0 v0 1) (fun x7 => ob (getR p5.2 2 x7 1) (fun x9 => (if (wsh p5.2 x9).map (fun q => q.1) = some 3 then ob (f22 n x9 p5.2) (fun p11 => ob (getI p11.2 0 v0 3) (fun x13 => f183_H45 n  (fun (e0_25 : Nat) (e2_25 : Int32) (e4_25 : Int32) (w25 : Wd) => (if (wsh w25 e0_25).map (fun q => q.1) = some 0 then ob (f26 e0_25 w25) (fun p26 => f183_H89 n  (fun (e5_47 : Int32) (w47 : Wd) => some (e5_47, w47)) n e0_25 e2_25 e4_25 (0 : Int32) p26.1 (-p26.1) p26.2) else none)) n v0 v1 v2 (p11.1 &&& (x13 ^^^ (-1 : Int32))) (0 : Int32) p11.2)) else none)))
    else some (((1 : Int32) <<< ((p5.1 + (1 : Int32)) &&& 31)), p5.2))) else none)))
set_option maxRecDepth 10000 in
theorem r183 {S : Sc} (n : Nat) (v0 : Nat) (v1 : Int32) (v2 : Int32) (w : Wd) (o : (Int32 × Wd)) (h : f183 n v0 v1 v2 w = some o) : Rn S 183 0 [some (.ref v0), some (.int v1), some (.int v2), none, none, none, none, none] [] w (some (.int o.1), o.2) := by
  unfold f183 at h
  refine rn_aload_n (ft183 0 rfl) rfl ?_
  obtain ⟨x1, q2, h⟩ := ob_some h
  refine rn_getR (ft183 1 rfl) q2 ?_
  refine rn_aload_n (ft183 2 rfl) rfl ?_
  obtain ⟨x3, q4, h⟩ := ob_some h
  refine rn_getR (ft183 3 rfl) q4 ?_
  refine rn_iload_n (ft183 4 rfl) rfl ?_
  obtain ⟨g51, h⟩ := ifg h
  obtain ⟨p5, q6, h⟩ := ob_some h
  refine rn_callV (as := [.ref x3, .int v1]) (k0 := x1) (r := []) (v := (some (.int p5.1))) (w1 := p5.2) (ft183 5 rfl) (by decide +kernel) rfl (Nat.le_of_ble_eq_true rfl) (Nat.le_of_ble_eq_true rfl) (r151 n x1 x3 v1 w _ q6) (by decide +kernel) g51 ?_
  refine rn_istore_n (ls' := [some (.ref v0), some (.int v1), some (.int v2), some (.int p5.1), none, none, none, none]) (ft183 6 rfl) rfl ?_
  refine rn_iload_n (ft183 7 rfl) rfl ?_
  by_cases c50 : p5.1 = 0
  · replace h := ifp c50 h
    refine rn_if_eq_t (ft183 8 rfl) c50 ?_
    refine rn_aload_n (ft183 15 rfl) rfl ?_
    obtain ⟨x7, q8, h⟩ := ob_some h
    refine rn_getR (ft183 16 rfl) q8 ?_
    obtain ⟨x9, q10, h⟩ := ob_some h
    refine rn_getR (ft183 17 rfl) q10 ?_
    obtain ⟨g49, h⟩ := ifg h
    obtain ⟨p11, q12, h⟩ := ob_some h
    refine rn_callV (as := []) (k0 := x9) (r := []) (v := (some (.int p11.1))) (w1 := p11.2) (ft183 18 rfl) (by decide +kernel) rfl (Nat.le_of_ble_eq_true rfl) (Nat.le_of_ble_eq_true rfl) (r22 n x9 p5.2 _ q12) (by decide +kernel) g49 ?_
    refine rn_aload_n (ft183 19 rfl) rfl ?_
    obtain ⟨x13, q14, h⟩ := ob_some h
    refine rn_getI (ft183 20 rfl) (by decide) (by decide) q14 ?_
    refine rn_iconst (v := (-1 : Int32)) (ft183 21 rfl) (by decide) ?_
    refine rn_ixor (ft183 22 rfl) ?_
    refine rn_iand (ft183 23 rfl) ?_
    refine rn_istore (ls' := [some (.ref v0), some (.int v1), some (.int v2), some (.int p5.1), some (.int (p11.1 &&& (x13 ^^^ (-1 : Int32)))), none, none, none]) (ft183 24 rfl) rfl ?_
    refine rn_iconst (v := (0 : Int32)) (ft183 25 rfl) (by decide) ?_
    refine rn_istore (ls' := [some (.ref v0), some (.int v1), some (.int v2), some (.int p5.1), some (.int (p11.1 &&& (x13 ^^^ (-1 : Int32)))), some (.int (0 : Int32)), none, none]) (ft183 26 rfl) rfl ?_
    refine rn_forget (ls := [some (.ref v0), some (.int v1), some (.int v2), none, some (.int (p11.1 &&& (x13 ^^^ (-1 : Int32)))), some (.int (0 : Int32)), none, none]) (And.intro rfl (And.intro rfl (And.intro rfl (And.intro rfl (And.intro rfl trivial))))) (rf183_H45 n  _  (fun e0_25 e2_25 e4_25 w25 o h => ?_) n v0 v1 v2 (p11.1 &&& (x13 ^^^ (-1 : Int32))) (0 : Int32) p11.2 _ h)
    refine rn_iconst (v := (0 : Int32)) (ft183 41 rfl) (by decide) ?_
    refine rn_istore (ls' := [some (.ref e0_25), none, some (.int e2_25), none, some (.int e4_25), some (.int (0 : Int32)), none, none]) (ft183 42 rfl) rfl ?_
    refine rn_aload_n (ft183 43 rfl) rfl ?_
    obtain ⟨g48, h⟩ := ifg h
    obtain ⟨p26, q27, h⟩ := ob_some h
    refine rn_callV (as := []) (k0 := e0_25) (r := []) (v := (some (.int p26.1))) (w1 := p26.2) (ft183 44 rfl) (by decide +kernel) rfl (Nat.le_of_ble_eq_true rfl) (Nat.le_of_ble_eq_true rfl) (r26 e0_25 w25 _ q27) (by decide +kernel) g48 ?_
    refine rn_istore (ls' := [some (.ref e0_25), none, some (.int e2_25), none, some (.int e4_25), some (.int (0 : Int32)), some (.int p26.1), none]) (ft183 45 rfl) rfl ?_
    refine rn_iload (ft183 46 rfl) rfl ?_
    refine rn_ineg (ft183 47 rfl) ?_
    refine rn_istore (ls' := [some (.ref e0_25), none, some (.int e2_25), none, some (.int e4_25), some (.int (0 : Int32)), some (.int p26.1), some (.int (-p26.1))]) (ft183 48 rfl) rfl ?_
    refine rn_forget (ls := [some (.ref e0_25), none, some (.int e2_25), none, some (.int e4_25), some (.int (0 : Int32)), some (.int p26.1), some (.int (-p26.1))]) (And.intro rfl (And.intro rfl (And.intro rfl (And.intro rfl (And.intro rfl (And.intro rfl trivial)))))) (rf183_H89 n  _  (fun e5_47 w47 o h => ?_) n e0_25 e2_25 e4_25 (0 : Int32) p26.1 (-p26.1) p26.2 _ h)
    refine rn_iload (ft183 80 rfl) rfl ?_
    cases h
    exact rn_iretI pr183 (ft183 81 rfl)
  · replace h := ifn c50 h
    refine rn_if_eq_f (ft183 8 rfl) c50 ?_
    refine rn_iconst (v := (1 : Int32)) (ft183 9 rfl) (by decide) ?_
    refine rn_iload_n (ft183 10 rfl) rfl ?_
    refine rn_iconst (v := (1 : Int32)) (ft183 11 rfl) (by decide) ?_
    refine rn_iadd (ft183 12 rfl) ?_
    refine rn_ishl (ft183 13 rfl) ?_
    cases h
    exact rn_iretI pr183 (ft183 14 rfl)
/-- NineWheel$Journey.drawn(LNineWheel$Rule;III)I -/
theorem ft184 : ∀ (i : Nat) {q : Nat × XI}, cd184[i]? = some q → fetch 184 q.1 = some q.2 := ft_of (by decide +kernel)
theorem pr184 : pRt 184 = some .int := rfl
def f184_J124 (n : Nat) (rec17 : Nat → Nat → Int32 → Int32 → Int32 → Int32 → Wd → Option (Int32 × Wd)) (K17 : Nat → Nat → Wd → Option (Int32 × Wd)) (rec24 : Nat → Nat → Int32 → Int32 → Int32 → Int32 → Int32 → Wd → Option (Int32 × Wd)) (K24 : Nat → Nat → Int32 → Int32 → Int32 → Int32 → Wd → Option (Int32 × Wd)) (v0 : Nat) (v1 : Nat) (v2 : Int32) (v4 : Int32) (v5 : Int32) (v6 : Int32) (v7 : Int32) (v8 : Int32) (w : Wd) : Option (Int32 × Wd) :=
  ob (getR w 4 v0 4) (fun x29 => (if (wsh w x29).map (fun q => q.1) = some 8 then ob (f24 x29 v6 v8 (1 : Int32) w) (fun p31 => rec24 v0 v1 v2 v4 v5 v6 (v7 + (1 : Int32)) p31) else none))
set_option maxRecDepth 10000 in
theorem rf184_J124 {S : Sc} (n : Nat) (rec17 : Nat → Nat → Int32 → Int32 → Int32 → Int32 → Wd → Option (Int32 × Wd)) (K17 : Nat → Nat → Wd → Option (Int32 × Wd)) (rec24 : Nat → Nat → Int32 → Int32 → Int32 → Int32 → Int32 → Wd → Option (Int32 × Wd)) (K24 : Nat → Nat → Int32 → Int32 → Int32 → Int32 → Wd → Option (Int32 × Wd)) (v0 : Nat) (v1 : Nat) (v2 : Int32) (v4 : Int32) (v5 : Int32) (v6 : Int32) (v7 : Int32) (v8 : Int32) (w : Wd) (o : (Int32 × Wd)) (hrec17 : ∀ (y0 : Nat) (y1 : Nat) (y2 : Int32) (y4 : Int32) (y5 : Int32) (y6 : Int32) (w : Wd) (o : (Int32 × Wd)), rec17 y0 y1 y2 y4 y5 y6 w = some o → Rn S 184 35 [some (.ref y0), some (.ref y1), some (.int y2), none, some (.int y4), some (.int y5), some (.int y6), none, none] [] w (some (.int o.1), o.2)) (hK17 : ∀ (y0 : Nat) (y1 : Nat) (w : Wd) (o : (Int32 × Wd)), K17 y0 y1 w = some o → Rn S 184 148 [some (.ref y0), some (.ref y1), none, none, none, none, none, none, none] [] w (some (.int o.1), o.2)) (hrec24 : ∀ (y0 : Nat) (y1 : Nat) (y2 : Int32) (y4 : Int32) (y5 : Int32) (y6 : Int32) (y7 : Int32) (w : Wd) (o : (Int32 × Wd)), rec24 y0 y1 y2 y4 y5 y6 y7 w = some o → Rn S 184 50 [some (.ref y0), some (.ref y1), some (.int y2), none, some (.int y4), some (.int y5), some (.int y6), some (.int y7), none] [] w (some (.int o.1), o.2)) (hK24 : ∀ (y0 : Nat) (y1 : Nat) (y2 : Int32) (y4 : Int32) (y5 : Int32) (y6 : Int32) (w : Wd) (o : (Int32 × Wd)), K24 y0 y1 y2 y4 y5 y6 w = some o → Rn S 184 142 [some (.ref y0), some (.ref y1), some (.int y2), none, some (.int y4), some (.int y5), some (.int y6), none, none] [] w (some (.int o.1), o.2)) (h : f184_J124 n rec17 K17 rec24 K24 v0 v1 v2 v4 v5 v6 v7 v8 w = some o) : Rn S 184 124 [some (.ref v0), some (.ref v1), some (.int v2), none, some (.int v4), some (.int v5), some (.int v6), some (.int v7), some (.int v8)] [] w (some (.int o.1), o.2) := by
  unfold f184_J124 at h
  refine rn_aload_n (ft184 58 rfl) rfl ?_
  obtain ⟨x29, q30, h⟩ := ob_some h
  refine rn_getR (ft184 59 rfl) q30 ?_
  refine rn_iload (ft184 60 rfl) rfl ?_
  refine rn_iload (ft184 61 rfl) rfl ?_
  refine rn_iconst (v := (1 : Int32)) (ft184 62 rfl) (by decide) ?_
  obtain ⟨g33, h⟩ := ifg h
  obtain ⟨p31, q32, h⟩ := ob_some h
  refine rn_callV (as := [.int v6, .int v8, .int (1 : Int32)]) (k0 := x29) (r := []) (v := none) (w1 := p31) (ft184 63 rfl) (by decide +kernel) rfl (Nat.le_of_ble_eq_true rfl) (Nat.le_of_ble_eq_true rfl) (r24 x29 v6 v8 (1 : Int32) w _ q32) (by decide +kernel) g33 ?_
  refine rn_iinc (u := 1) (ls' := [some (.ref v0), some (.ref v1), some (.int v2), none, some (.int v4), some (.int v5), some (.int v6), some (.int (v7 + (1 : Int32))), some (.int v8)]) (ft184 64 rfl) rfl (by decide) rfl ?_
  refine rn_goto (ft184 65 rfl) ?_
  exact rn_forget (ls := [some (.ref v0), some (.ref v1), some (.int v2), none, some (.int v4), some (.int v5), some (.int v6), some (.int (v7 + (1 : Int32))), none]) (And.intro rfl (And.intro rfl (And.intro rfl (And.intro rfl (And.intro rfl (And.intro rfl (And.intro rfl trivial))))))) (hrec24 v0 v1 v2 v4 v5 v6 (v7 + (1 : Int32)) p31 _ h)
def f184_J101 (n : Nat) (rec17 : Nat → Nat → Int32 → Int32 → Int32 → Int32 → Wd → Option (Int32 × Wd)) (K17 : Nat → Nat → Wd → Option (Int32 × Wd)) (rec24 : Nat → Nat → Int32 → Int32 → Int32 → Int32 → Int32 → Wd → Option (Int32 × Wd)) (K24 : Nat → Nat → Int32 → Int32 → Int32 → Int32 → Wd → Option (Int32 × Wd)) (v0 : Nat) (v1 : Nat) (v2 : Int32) (v4 : Int32) (v5 : Int32) (v6 : Int32) (v7 : Int32) (s0 : Int32) (w : Wd) : Option (Int32 × Wd) :=
  ob (getR w 4 v0 4) (fun x25 => ob (getI w 8 x25 0) (fun x27 => (if ¬ x27 = v5 then f184_J124 n rec17 K17 rec24 K24 v0 v1 v2 v4 v5 v6 v7 s0 w
    else ob (getR w 4 v0 4) (fun x34 => ob (putI w 8 x34 6 s0) (fun w36 => f184_J124 n rec17 K17 rec24 K24 v0 v1 v2 v4 v5 v6 v7 s0 w36)))))
set_option maxRecDepth 10000 in
theorem rf184_J101 {S : Sc} (n : Nat) (rec17 : Nat → Nat → Int32 → Int32 → Int32 → Int32 → Wd → Option (Int32 × Wd)) (K17 : Nat → Nat → Wd → Option (Int32 × Wd)) (rec24 : Nat → Nat → Int32 → Int32 → Int32 → Int32 → Int32 → Wd → Option (Int32 × Wd)) (K24 : Nat → Nat → Int32 → Int32 → Int32 → Int32 → Wd → Option (Int32 × Wd)) (v0 : Nat) (v1 : Nat) (v2 : Int32) (v4 : Int32) (v5 : Int32) (v6 : Int32) (v7 : Int32) (s0 : Int32) (w : Wd) (o : (Int32 × Wd)) (hrec17 : ∀ (y0 : Nat) (y1 : Nat) (y2 : Int32) (y4 : Int32) (y5 : Int32) (y6 : Int32) (w : Wd) (o : (Int32 × Wd)), rec17 y0 y1 y2 y4 y5 y6 w = some o → Rn S 184 35 [some (.ref y0), some (.ref y1), some (.int y2), none, some (.int y4), some (.int y5), some (.int y6), none, none] [] w (some (.int o.1), o.2)) (hK17 : ∀ (y0 : Nat) (y1 : Nat) (w : Wd) (o : (Int32 × Wd)), K17 y0 y1 w = some o → Rn S 184 148 [some (.ref y0), some (.ref y1), none, none, none, none, none, none, none] [] w (some (.int o.1), o.2)) (hrec24 : ∀ (y0 : Nat) (y1 : Nat) (y2 : Int32) (y4 : Int32) (y5 : Int32) (y6 : Int32) (y7 : Int32) (w : Wd) (o : (Int32 × Wd)), rec24 y0 y1 y2 y4 y5 y6 y7 w = some o → Rn S 184 50 [some (.ref y0), some (.ref y1), some (.int y2), none, some (.int y4), some (.int y5), some (.int y6), some (.int y7), none] [] w (some (.int o.1), o.2)) (hK24 : ∀ (y0 : Nat) (y1 : Nat) (y2 : Int32) (y4 : Int32) (y5 : Int32) (y6 : Int32) (w : Wd) (o : (Int32 × Wd)), K24 y0 y1 y2 y4 y5 y6 w = some o → Rn S 184 142 [some (.ref y0), some (.ref y1), some (.int y2), none, some (.int y4), some (.int y5), some (.int y6), none, none] [] w (some (.int o.1), o.2)) (h : f184_J101 n rec17 K17 rec24 K24 v0 v1 v2 v4 v5 v6 v7 s0 w = some o) : Rn S 184 101 [some (.ref v0), some (.ref v1), some (.int v2), none, some (.int v4), some (.int v5), some (.int v6), some (.int v7), none] [.int s0] w (some (.int o.1), o.2) := by
  unfold f184_J101 at h
  refine rn_istore (ls' := [some (.ref v0), some (.ref v1), some (.int v2), none, some (.int v4), some (.int v5), some (.int v6), some (.int v7), some (.int s0)]) (ft184 48 rfl) rfl ?_
  refine rn_aload_n (ft184 49 rfl) rfl ?_
  obtain ⟨x25, q26, h⟩ := ob_some h
  refine rn_getR (ft184 50 rfl) q26 ?_
  obtain ⟨x27, q28, h⟩ := ob_some h
  refine rn_getI (ft184 51 rfl) (by decide) (by decide) q28 ?_
  refine rn_iload (ft184 52 rfl) rfl ?_
  by_cases c38 : ¬ x27 = v5
  · replace h := ifp c38 h
    refine rn_icmp_ne_t (ft184 53 rfl) c38 ?_
    exact rn_forget (ls := [some (.ref v0), some (.ref v1), some (.int v2), none, some (.int v4), some (.int v5), some (.int v6), some (.int v7), some (.int s0)]) (And.intro rfl (And.intro rfl (And.intro rfl (And.intro rfl (And.intro rfl (And.intro rfl (And.intro rfl (And.intro rfl trivial)))))))) (rf184_J124 n rec17 K17 rec24 K24 v0 v1 v2 v4 v5 v6 v7 s0 w _ hrec17 hK17 hrec24 hK24 h)
  · replace h := ifn c38 h
    refine rn_icmp_ne_f (ft184 53 rfl) c38 ?_
    refine rn_aload_n (ft184 54 rfl) rfl ?_
    obtain ⟨x34, q35, h⟩ := ob_some h
    refine rn_getR (ft184 55 rfl) q35 ?_
    refine rn_iload (ft184 56 rfl) rfl ?_
    obtain ⟨w36, q37, h⟩ := ob_some h
    refine rn_putI (ft184 57 rfl) q37 ?_
    exact rn_forget (ls := [some (.ref v0), some (.ref v1), some (.int v2), none, some (.int v4), some (.int v5), some (.int v6), some (.int v7), some (.int s0)]) (And.intro rfl (And.intro rfl (And.intro rfl (And.intro rfl (And.intro rfl (And.intro rfl (And.intro rfl (And.intro rfl trivial)))))))) (rf184_J124 n rec17 K17 rec24 K24 v0 v1 v2 v4 v5 v6 v7 s0 w36 _ hrec17 hK17 hrec24 hK24 h)
def f184_H50 (n : Nat) (rec17 : Nat → Nat → Int32 → Int32 → Int32 → Int32 → Wd → Option (Int32 × Wd)) (K17 : Nat → Nat → Wd → Option (Int32 × Wd)) (K24 : Nat → Nat → Int32 → Int32 → Int32 → Int32 → Wd → Option (Int32 × Wd)) : Nat → Nat → Nat → Int32 → Int32 → Int32 → Int32 → Int32 → Wd → Option (Int32 × Wd)
  | 0, _, _, _, _, _, _, _, _ => none
  | k + 1, v0, v1, v2, v4, v5, v6, v7, w =>
    ob (getR w 4 v0 0) (fun x13 => (if (wsh w x13).map (fun q => q.1) = some 6 then ob (f84 x13 v6 w) (fun p15 => (if p15.1 ≤ v7 then K24 v0 v1 v2 v4 v5 v6 p15.2
      else ob (getR p15.2 4 v0 3) (fun x17 => (if (wsh p15.2 x17).map (fun q => q.1) = some 3 then ob (f31 x17 (100 : Int32) p15.2) (fun p19 => (if v4 ≤ p19.1 then ob (getR p19.2 4 v0 1) (fun x21 => (if (wsh p19.2 x21).map (fun q => q.1) = some 2 then ob (f97 x21 v6 v2 p19.2) (fun p23 => f184_J101 n rec17 K17 (fun (v0 : Nat) (v1 : Nat) (v2 : Int32) (v4 : Int32) (v5 : Int32) (v6 : Int32) (v7 : Int32) w => f184_H50 n rec17 K17 K24 k v0 v1 v2 v4 v5 v6 v7 w) K24 v0 v1 v2 v4 v5 v6 v7 p23.1 p23.2) else none))
        else ob (getR p19.2 4 v0 3) (fun x40 => (if (wsh p19.2 x40).map (fun q => q.1) = some 3 then ob (f31 x40 (3 : Int32) p19.2) (fun p42 => f184_J101 n rec17 K17 (fun (v0 : Nat) (v1 : Nat) (v2 : Int32) (v4 : Int32) (v5 : Int32) (v6 : Int32) (v7 : Int32) w => f184_H50 n rec17 K17 K24 k v0 v1 v2 v4 v5 v6 v7 w) K24 v0 v1 v2 v4 v5 v6 v7 (p42.1 - (1 : Int32)) p42.2) else none)))) else none)))) else none))
set_option maxRecDepth 10000 in
theorem rf184_H50 {S : Sc} (n : Nat) (rec17 : Nat → Nat → Int32 → Int32 → Int32 → Int32 → Wd → Option (Int32 × Wd)) (K17 : Nat → Nat → Wd → Option (Int32 × Wd)) (K24 : Nat → Nat → Int32 → Int32 → Int32 → Int32 → Wd → Option (Int32 × Wd)) (hrec17 : ∀ (y0 : Nat) (y1 : Nat) (y2 : Int32) (y4 : Int32) (y5 : Int32) (y6 : Int32) (w : Wd) (o : (Int32 × Wd)), rec17 y0 y1 y2 y4 y5 y6 w = some o → Rn S 184 35 [some (.ref y0), some (.ref y1), some (.int y2), none, some (.int y4), some (.int y5), some (.int y6), none, none] [] w (some (.int o.1), o.2)) (hK17 : ∀ (y0 : Nat) (y1 : Nat) (w : Wd) (o : (Int32 × Wd)), K17 y0 y1 w = some o → Rn S 184 148 [some (.ref y0), some (.ref y1), none, none, none, none, none, none, none] [] w (some (.int o.1), o.2)) (hK24 : ∀ (y0 : Nat) (y1 : Nat) (y2 : Int32) (y4 : Int32) (y5 : Int32) (y6 : Int32) (w : Wd) (o : (Int32 × Wd)), K24 y0 y1 y2 y4 y5 y6 w = some o → Rn S 184 142 [some (.ref y0), some (.ref y1), some (.int y2), none, some (.int y4), some (.int y5), some (.int y6), none, none] [] w (some (.int o.1), o.2)) : ∀ (k : Nat) (v0 : Nat) (v1 : Nat) (v2 : Int32) (v4 : Int32) (v5 : Int32) (v6 : Int32) (v7 : Int32) (w : Wd) (o : (Int32 × Wd)), f184_H50 n rec17 K17 K24 k v0 v1 v2 v4 v5 v6 v7 w = some o → Rn S 184 50 [some (.ref v0), some (.ref v1), some (.int v2), none, some (.int v4), some (.int v5), some (.int v6), some (.int v7), none] [] w (some (.int o.1), o.2) := by
  intro k
  induction k with
  | zero =>
    intro v0 v1 v2 v4 v5 v6 v7 w o h
    exact nomatch h
  | succ k ih =>
    intro v0 v1 v2 v4 v5 v6 v7 w o h
    have hrec24 : ∀ (y0 : Nat) (y1 : Nat) (y2 : Int32) (y4 : Int32) (y5 : Int32) (y6 : Int32) (y7 : Int32) (w : Wd) (o : (Int32 × Wd)), (fun (v0 : Nat) (v1 : Nat) (v2 : Int32) (v4 : Int32) (v5 : Int32) (v6 : Int32) (v7 : Int32) w => f184_H50 n rec17 K17 K24 k v0 v1 v2 v4 v5 v6 v7 w) y0 y1 y2 y4 y5 y6 y7 w = some o → Rn S 184 50 [some (.ref y0), some (.ref y1), some (.int y2), none, some (.int y4), some (.int y5), some (.int y6), some (.int y7), none] [] w (some (.int o.1), o.2) := fun y0 y1 y2 y4 y5 y6 y7 w o h => ih y0 y1 y2 y4 y5 y6 y7 w o h
    unfold f184_H50 at h
    refine rn_iload (ft184 24 rfl) rfl ?_
    refine rn_aload_n (ft184 25 rfl) rfl ?_
    obtain ⟨x13, q14, h⟩ := ob_some h
    refine rn_getR (ft184 26 rfl) q14 ?_
    refine rn_iload (ft184 27 rfl) rfl ?_
    obtain ⟨g48, h⟩ := ifg h
    obtain ⟨p15, q16, h⟩ := ob_some h
    refine rn_callV (as := [.int v6]) (k0 := x13) (r := [.int v7]) (v := (some (.int p15.1))) (w1 := p15.2) (ft184 28 rfl) (by decide +kernel) rfl (Nat.le_of_ble_eq_true rfl) (Nat.le_of_ble_eq_true rfl) (r84 x13 v6 w _ q16) (by decide +kernel) g48 ?_
    by_cases c47 : p15.1 ≤ v7
    · replace h := ifp c47 h
      refine rn_icmp_ge_t (ft184 29 rfl) c47 ?_
      exact rn_forget (ls := [some (.ref v0), some (.ref v1), some (.int v2), none, some (.int v4), some (.int v5), some (.int v6), none, none]) (And.intro rfl (And.intro rfl (And.intro rfl (And.intro rfl (And.intro rfl (And.intro rfl trivial)))))) (hK24 v0 v1 v2 v4 v5 v6 p15.2 _ h)
    · replace h := ifn c47 h
      refine rn_icmp_ge_f (ft184 29 rfl) c47 ?_
      refine rn_aload_n (ft184 30 rfl) rfl ?_
      obtain ⟨x17, q18, h⟩ := ob_some h
      refine rn_getR (ft184 31 rfl) q18 ?_
      refine rn_bipush (v := (100 : Int32)) (ft184 32 rfl) (by decide) ?_
      obtain ⟨g46, h⟩ := ifg h
      obtain ⟨p19, q20, h⟩ := ob_some h
      refine rn_callV (as := [.int (100 : Int32)]) (k0 := x17) (r := []) (v := (some (.int p19.1))) (w1 := p19.2) (ft184 33 rfl) (by decide +kernel) rfl (Nat.le_of_ble_eq_true rfl) (Nat.le_of_ble_eq_true rfl) (r31 x17 (100 : Int32) p15.2 _ q20) (by decide +kernel) g46 ?_
      refine rn_iload (ft184 34 rfl) rfl ?_
      by_cases c45 : v4 ≤ p19.1
      · replace h := ifp c45 h
        refine rn_icmp_ge_t (ft184 35 rfl) c45 ?_
        refine rn_aload_n (ft184 43 rfl) rfl ?_
        obtain ⟨x21, q22, h⟩ := ob_some h
        refine rn_getR (ft184 44 rfl) q22 ?_
        refine rn_iload (ft184 45 rfl) rfl ?_
        refine rn_iload_n (ft184 46 rfl) rfl ?_
        obtain ⟨g39, h⟩ := ifg h
        obtain ⟨p23, q24, h⟩ := ob_some h
        refine rn_callV (as := [.int v6, .int v2]) (k0 := x21) (r := []) (v := (some (.int p23.1))) (w1 := p23.2) (ft184 47 rfl) (by decide +kernel) rfl (Nat.le_of_ble_eq_true rfl) (Nat.le_of_ble_eq_true rfl) (r97 x21 v6 v2 p19.2 _ q24) (by decide +kernel) g39 ?_
        exact rn_forget (ls := [some (.ref v0), some (.ref v1), some (.int v2), none, some (.int v4), some (.int v5), some (.int v6), some (.int v7), none]) (And.intro rfl (And.intro rfl (And.intro rfl (And.intro rfl (And.intro rfl (And.intro rfl (And.intro rfl trivial))))))) (rf184_J101 n rec17 K17 (fun (v0 : Nat) (v1 : Nat) (v2 : Int32) (v4 : Int32) (v5 : Int32) (v6 : Int32) (v7 : Int32) w => f184_H50 n rec17 K17 K24 k v0 v1 v2 v4 v5 v6 v7 w) K24 v0 v1 v2 v4 v5 v6 v7 p23.1 p23.2 _ hrec17 hK17 hrec24 hK24 h)
      · replace h := ifn c45 h
        refine rn_icmp_ge_f (ft184 35 rfl) c45 ?_
        refine rn_aload_n (ft184 36 rfl) rfl ?_
        obtain ⟨x40, q41, h⟩ := ob_some h
        refine rn_getR (ft184 37 rfl) q41 ?_
        refine rn_iconst (v := (3 : Int32)) (ft184 38 rfl) (by decide) ?_
        obtain ⟨g44, h⟩ := ifg h
        obtain ⟨p42, q43, h⟩ := ob_some h
        refine rn_callV (as := [.int (3 : Int32)]) (k0 := x40) (r := []) (v := (some (.int p42.1))) (w1 := p42.2) (ft184 39 rfl) (by decide +kernel) rfl (Nat.le_of_ble_eq_true rfl) (Nat.le_of_ble_eq_true rfl) (r31 x40 (3 : Int32) p19.2 _ q43) (by decide +kernel) g44 ?_
        refine rn_iconst (v := (1 : Int32)) (ft184 40 rfl) (by decide) ?_
        refine rn_isub (ft184 41 rfl) ?_
        refine rn_goto (ft184 42 rfl) ?_
        exact rn_forget (ls := [some (.ref v0), some (.ref v1), some (.int v2), none, some (.int v4), some (.int v5), some (.int v6), some (.int v7), none]) (And.intro rfl (And.intro rfl (And.intro rfl (And.intro rfl (And.intro rfl (And.intro rfl (And.intro rfl trivial))))))) (rf184_J101 n rec17 K17 (fun (v0 : Nat) (v1 : Nat) (v2 : Int32) (v4 : Int32) (v5 : Int32) (v6 : Int32) (v7 : Int32) w => f184_H50 n rec17 K17 K24 k v0 v1 v2 v4 v5 v6 v7 w) K24 v0 v1 v2 v4 v5 v6 v7 (p42.1 - (1 : Int32)) p42.2 _ hrec17 hK17 hrec24 hK24 h)
def f184_H35 (n : Nat)  (K17 : Nat → Nat → Wd → Option (Int32 × Wd)) : Nat → Nat → Nat → Int32 → Int32 → Int32 → Int32 → Wd → Option (Int32 × Wd)
  | 0, _, _, _, _, _, _, _ => none
  | k + 1, v0, v1, v2, v4, v5, v6, w =>
    ob (getR w 4 v0 0) (fun x9 => ob (getI w 6 x9 5) (fun x11 => (if x11 ≤ v6 then K17 v0 v1 w
      else f184_H50 n (fun (v0 : Nat) (v1 : Nat) (v2 : Int32) (v4 : Int32) (v5 : Int32) (v6 : Int32) w => f184_H35 n  K17 k v0 v1 v2 v4 v5 v6 w) K17 (fun (e0_49 : Nat) (e1_49 : Nat) (e2_49 : Int32) (e4_49 : Int32) (e5_49 : Int32) (e6_49 : Int32) (w49 : Wd) => (fun (v0 : Nat) (v1 : Nat) (v2 : Int32) (v4 : Int32) (v5 : Int32) (v6 : Int32) w => f184_H35 n  K17 k v0 v1 v2 v4 v5 v6 w) e0_49 e1_49 e2_49 e4_49 e5_49 (e6_49 + (1 : Int32)) w49) n v0 v1 v2 v4 v5 v6 (0 : Int32) w)))
set_option maxRecDepth 10000 in
theorem rf184_H35 {S : Sc} (n : Nat)  (K17 : Nat → Nat → Wd → Option (Int32 × Wd))  (hK17 : ∀ (y0 : Nat) (y1 : Nat) (w : Wd) (o : (Int32 × Wd)), K17 y0 y1 w = some o → Rn S 184 148 [some (.ref y0), some (.ref y1), none, none, none, none, none, none, none] [] w (some (.int o.1), o.2)) : ∀ (k : Nat) (v0 : Nat) (v1 : Nat) (v2 : Int32) (v4 : Int32) (v5 : Int32) (v6 : Int32) (w : Wd) (o : (Int32 × Wd)), f184_H35 n  K17 k v0 v1 v2 v4 v5 v6 w = some o → Rn S 184 35 [some (.ref v0), some (.ref v1), some (.int v2), none, some (.int v4), some (.int v5), some (.int v6), none, none] [] w (some (.int o.1), o.2) := by
  intro k
  induction k with
  | zero =>
    intro v0 v1 v2 v4 v5 v6 w o h
    exact nomatch h
  | succ k ih =>
    intro v0 v1 v2 v4 v5 v6 w o h
    have hrec17 : ∀ (y0 : Nat) (y1 : Nat) (y2 : Int32) (y4 : Int32) (y5 : Int32) (y6 : Int32) (w : Wd) (o : (Int32 × Wd)), (fun (v0 : Nat) (v1 : Nat) (v2 : Int32) (v4 : Int32) (v5 : Int32) (v6 : Int32) w => f184_H35 n  K17 k v0 v1 v2 v4 v5 v6 w) y0 y1 y2 y4 y5 y6 w = some o → Rn S 184 35 [some (.ref y0), some (.ref y1), some (.int y2), none, some (.int y4), some (.int y5), some (.int y6), none, none] [] w (some (.int o.1), o.2) := fun y0 y1 y2 y4 y5 y6 w o h => ih y0 y1 y2 y4 y5 y6 w o h
    unfold f184_H35 at h
    refine rn_iload (ft184 17 rfl) rfl ?_
    refine rn_aload_n (ft184 18 rfl) rfl ?_
    obtain ⟨x9, q10, h⟩ := ob_some h
    refine rn_getR (ft184 19 rfl) q10 ?_
    obtain ⟨x11, q12, h⟩ := ob_some h
    refine rn_getI (ft184 20 rfl) (by decide) (by decide) q12 ?_
    by_cases c50 : x11 ≤ v6
    · replace h := ifp c50 h
      refine rn_icmp_ge_t (ft184 21 rfl) c50 ?_
      exact rn_forget (ls := [some (.ref v0), some (.ref v1), none, none, none, none, none, none, none]) (And.intro rfl (And.intro rfl trivial)) (hK17 v0 v1 w _ h)
    · replace h := ifn c50 h
      refine rn_icmp_ge_f (ft184 21 rfl) c50 ?_
      refine rn_iconst (v := (0 : Int32)) (ft184 22 rfl) (by decide) ?_
      refine rn_istore (ls' := [some (.ref v0), some (.ref v1), some (.int v2), none, some (.int v4), some (.int v5), some (.int v6), some (.int (0 : Int32)), none]) (ft184 23 rfl) rfl ?_
      refine rn_forget (ls := [some (.ref v0), some (.ref v1), some (.int v2), none, some (.int v4), some (.int v5), some (.int v6), some (.int (0 : Int32)), none]) (And.intro rfl (And.intro rfl (And.intro rfl (And.intro rfl (And.intro rfl (And.intro rfl (And.intro rfl trivial))))))) (rf184_H50 n (fun (v0 : Nat) (v1 : Nat) (v2 : Int32) (v4 : Int32) (v5 : Int32) (v6 : Int32) w => f184_H35 n  K17 k v0 v1 v2 v4 v5 v6 w) K17 _ hrec17 hK17 (fun e0_49 e1_49 e2_49 e4_49 e5_49 e6_49 w49 o h => ?_) n v0 v1 v2 v4 v5 v6 (0 : Int32) w _ h)
      refine rn_iinc (u := 1) (ls' := [some (.ref e0_49), some (.ref e1_49), some (.int e2_49), none, some (.int e4_49), some (.int e5_49), some (.int (e6_49 + (1 : Int32))), none, none]) (ft184 66 rfl) rfl (by decide) rfl ?_
      refine rn_goto (ft184 67 rfl) ?_
      exact rn_forget (ls := [some (.ref e0_49), some (.ref e1_49), some (.int e2_49), none, some (.int e4_49), some (.int e5_49), some (.int (e6_49 + (1 : Int32))), none, none]) (And.intro rfl (And.intro rfl (And.intro rfl (And.intro rfl (And.intro rfl (And.intro rfl trivial)))))) (hrec17 e0_49 e1_49 e2_49 e4_49 e5_49 (e6_49 + (1 : Int32)) w49 _ h)
def f184_J23 (n : Nat)  (v0 : Nat) (v1 : Nat) (v2 : Int32) (v4 : Int32) (s0 : Int32) (w : Wd) : Option (Int32 × Wd) :=
  ob (getR w 4 v0 4) (fun x5 => (if (wsh w x5).map (fun q => q.1) = some 8 then ob (f23 x5 w) (fun p7 => f184_H35 n  (fun (e0_51 : Nat) (e1_51 : Nat) (w51 : Wd) => ob (getR w51 4 e0_51 4) (fun x52 => (if (wsh w51 e1_51).map (fun q => q.1) = some 5 then ob (f154 e1_51 x52 w51) (fun p54 => some (p54.1, p54.2)) else none))) n v0 v1 v2 v4 s0 (0 : Int32) p7) else none))
set_option maxRecDepth 10000 in
theorem rf184_J23 {S : Sc} (n : Nat)  (v0 : Nat) (v1 : Nat) (v2 : Int32) (v4 : Int32) (s0 : Int32) (w : Wd) (o : (Int32 × Wd))  (h : f184_J23 n  v0 v1 v2 v4 s0 w = some o) : Rn S 184 23 [some (.ref v0), some (.ref v1), some (.int v2), none, some (.int v4), none, none, none, none] [.int s0] w (some (.int o.1), o.2) := by
  unfold f184_J23 at h
  refine rn_istore (ls' := [some (.ref v0), some (.ref v1), some (.int v2), none, some (.int v4), some (.int s0), none, none, none]) (ft184 11 rfl) rfl ?_
  refine rn_aload_n (ft184 12 rfl) rfl ?_
  obtain ⟨x5, q6, h⟩ := ob_some h
  refine rn_getR (ft184 13 rfl) q6 ?_
  obtain ⟨g57, h⟩ := ifg h
  obtain ⟨p7, q8, h⟩ := ob_some h
  refine rn_callV (as := []) (k0 := x5) (r := []) (v := none) (w1 := p7) (ft184 14 rfl) (by decide +kernel) rfl (Nat.le_of_ble_eq_true rfl) (Nat.le_of_ble_eq_true rfl) (r23 x5 w _ q8) (by decide +kernel) g57 ?_
  refine rn_iconst (v := (0 : Int32)) (ft184 15 rfl) (by decide) ?_
  refine rn_istore (ls' := [some (.ref v0), some (.ref v1), some (.int v2), none, some (.int v4), some (.int s0), some (.int (0 : Int32)), none, none]) (ft184 16 rfl) rfl ?_
  refine rn_forget (ls := [some (.ref v0), some (.ref v1), some (.int v2), none, some (.int v4), some (.int s0), some (.int (0 : Int32)), none, none]) (And.intro rfl (And.intro rfl (And.intro rfl (And.intro rfl (And.intro rfl (And.intro rfl trivial)))))) (rf184_H35 n  _  (fun e0_51 e1_51 w51 o h => ?_) n v0 v1 v2 v4 s0 (0 : Int32) p7 _ h)
  refine rn_aload_n (ft184 68 rfl) rfl ?_
  refine rn_aload_n (ft184 69 rfl) rfl ?_
  obtain ⟨x52, q53, h⟩ := ob_some h
  refine rn_getR (ft184 70 rfl) q53 ?_
  obtain ⟨g56, h⟩ := ifg h
  obtain ⟨p54, q55, h⟩ := ob_some h
  refine rn_callV (as := [.ref x52]) (k0 := e1_51) (r := []) (v := (some (.int p54.1))) (w1 := p54.2) (ft184 71 rfl) (by decide +kernel) rfl (Nat.le_of_ble_eq_true rfl) (Nat.le_of_ble_eq_true rfl) (r154 e1_51 x52 w51 _ q55) (by decide +kernel) g56 ?_
  cases h
  exact rn_iretI pr184 (ft184 72 rfl)
def f184 (n : Nat) (v0 : Nat) (v1 : Nat) (v2 : Int32) (v3 : Int32) (v4 : Int32) (w : Wd) : Option (Int32 × Wd) :=
  ob (getR w 4 v0 0) (fun x1 => ob (getI w 6 x1 6) (fun x3 => (if x3 ≤ 0 then f184_J23 n  v0 v1 v2 v4 (0 : Int32) w
    else ob (getR w 4 v0 0) (fun x58 => ob (getI w 6 x58 6) (fun x60 => (if ¬ x60 = 0 then f184_J23 n  v0 v1 v2 v4 (irm v3 x60) w else none))))))
set_option maxRecDepth 10000 in
theorem r184 {S : Sc} (n : Nat) (v0 : Nat) (v1 : Nat) (v2 : Int32) (v3 : Int32) (v4 : Int32) (w : Wd) (o : (Int32 × Wd)) (h : f184 n v0 v1 v2 v3 v4 w = some o) : Rn S 184 0 [some (.ref v0), some (.ref v1), some (.int v2), some (.int v3), some (.int v4), none, none, none, none] [] w (some (.int o.1), o.2) := by
  unfold f184 at h
  refine rn_aload_n (ft184 0 rfl) rfl ?_
  obtain ⟨x1, q2, h⟩ := ob_some h
  refine rn_getR (ft184 1 rfl) q2 ?_
  obtain ⟨x3, q4, h⟩ := ob_some h
  refine rn_getI (ft184 2 rfl) (by decide) (by decide) q4 ?_
  by_cases c63 : x3 ≤ 0
  · replace h := ifp c63 h
    refine rn_if_le_t (ft184 3 rfl) c63 ?_
    refine rn_iconst (v := (0 : Int32)) (ft184 10 rfl) (by decide) ?_
    exact rn_forget (ls := [some (.ref v0), some (.ref v1), some (.int v2), none, some (.int v4), none, none, none, none]) (And.intro rfl (And.intro rfl (And.intro rfl (And.intro rfl trivial)))) (rf184_J23 n  v0 v1 v2 v4 (0 : Int32) w _  h)
  · replace h := ifn c63 h
    refine rn_if_le_f (ft184 3 rfl) c63 ?_
    refine rn_iload_n (ft184 4 rfl) rfl ?_
    refine rn_aload_n (ft184 5 rfl) rfl ?_
    obtain ⟨x58, q59, h⟩ := ob_some h
    refine rn_getR (ft184 6 rfl) q59 ?_
    obtain ⟨x60, q61, h⟩ := ob_some h
    refine rn_getI (ft184 7 rfl) (by decide) (by decide) q61 ?_
    obtain ⟨g62, h⟩ := ifg h
    refine rn_irem (ft184 8 rfl) g62 ?_
    refine rn_goto (ft184 9 rfl) ?_
    exact rn_forget (ls := [some (.ref v0), some (.ref v1), some (.int v2), none, some (.int v4), none, none, none, none]) (And.intro rfl (And.intro rfl (And.intro rfl (And.intro rfl trivial)))) (rf184_J23 n  v0 v1 v2 v4 (irm v3 x60) w _  h)
/-- NineWheel$Courses.reachFrom(III)V -/
theorem ft185 : ∀ (i : Nat) {q : Nat × XI}, cd185[i]? = some q → fetch 185 q.1 = some q.2 := ft_of (by decide +kernel)
theorem pr185 : pRt 185 = none := rfl
def f185_J86 (n : Nat) (rec7 : Nat → Int32 → Int32 → Int32 → Int32 → Int32 → Wd → Option Wd) (K7 : Wd → Option Wd) (v0 : Nat) (v1 : Int32) (v2 : Int32) (v3 : Int32) (v5 : Int32) (v6 : Int32) (v8 : Int32) (s0 : Int32) (w : Wd) : Option Wd :=
  (if s0 = 0 then rec7 v0 v1 v2 v3 v5 (v6 + (1 : Int32)) w
    else ob (getR w 1 v0 3) (fun x15 => ob (aldI w x15 v8) (fun x17 => ob (astI w x15 v8 (x17 ||| ((2 : Int32) <<< (v2 &&& 31)))) (fun w19 => rec7 v0 v1 v2 v3 v5 (v6 + (1 : Int32)) w19))))
set_option maxRecDepth 10000 in
theorem rf185_J86 {S : Sc} (n : Nat) (rec7 : Nat → Int32 → Int32 → Int32 → Int32 → Int32 → Wd → Option Wd) (K7 : Wd → Option Wd) (v0 : Nat) (v1 : Int32) (v2 : Int32) (v3 : Int32) (v5 : Int32) (v6 : Int32) (v8 : Int32) (s0 : Int32) (w : Wd) (o : Wd) (hrec7 : ∀ (y0 : Nat) (y1 : Int32) (y2 : Int32) (y3 : Int32) (y5 : Int32) (y6 : Int32) (w : Wd) (o : Wd), rec7 y0 y1 y2 y3 y5 y6 w = some o → Rn S 185 13 [some (.ref y0), some (.int y1), some (.int y2), some (.int y3), some (.float 0), some (.int y5), some (.int y6), none, none, none] [] w (none, o)) (hK7 : ∀  (w : Wd) (o : Wd), K7 w = some o → Rn S 185 112 [none, none, none, none, none, none, none, none, none, none] [] w (none, o)) (h : f185_J86 n rec7 K7 v0 v1 v2 v3 v5 v6 v8 s0 w = some o) : Rn S 185 86 [some (.ref v0), some (.int v1), some (.int v2), some (.int v3), some (.float 0), some (.int v5), some (.int v6), none, some (.int v8), none] [.int s0] w (none, o) := by
  unfold f185_J86 at h
  refine rn_istore (ls' := [some (.ref v0), some (.int v1), some (.int v2), some (.int v3), some (.float 0), some (.int v5), some (.int v6), none, some (.int v8), some (.int s0)]) (ft185 42 rfl) rfl ?_
  refine rn_iload (ft185 43 rfl) rfl ?_
  by_cases c21 : s0 = 0
  · replace h := ifp c21 h
    refine rn_if_eq_t (ft185 44 rfl) c21 ?_
    refine rn_iinc (u := 1) (ls' := [some (.ref v0), some (.int v1), some (.int v2), some (.int v3), some (.float 0), some (.int v5), some (.int (v6 + (1 : Int32))), none, some (.int v8), some (.int s0)]) (ft185 55 rfl) rfl (by decide) rfl ?_
    refine rn_goto (ft185 56 rfl) ?_
    exact rn_forget (ls := [some (.ref v0), some (.int v1), some (.int v2), some (.int v3), some (.float 0), some (.int v5), some (.int (v6 + (1 : Int32))), none, none, none]) (And.intro rfl (And.intro rfl (And.intro rfl (And.intro rfl (And.intro rfl (And.intro rfl (And.intro rfl trivial))))))) (hrec7 v0 v1 v2 v3 v5 (v6 + (1 : Int32)) w _ h)
  · replace h := ifn c21 h
    refine rn_if_eq_f (ft185 44 rfl) c21 ?_
    refine rn_aload_n (ft185 45 rfl) rfl ?_
    obtain ⟨x15, q16, h⟩ := ob_some h
    refine rn_getR (ft185 46 rfl) q16 ?_
    refine rn_iload (ft185 47 rfl) rfl ?_
    refine rn_dup2 (ft185 48 rfl) rfl rfl ?_
    obtain ⟨x17, q18, h⟩ := ob_some h
    refine rn_iaload (ft185 49 rfl) q18 ?_
    refine rn_iconst (v := (2 : Int32)) (ft185 50 rfl) (by decide) ?_
    refine rn_iload_n (ft185 51 rfl) rfl ?_
    refine rn_ishl (ft185 52 rfl) ?_
    refine rn_ior (ft185 53 rfl) ?_
    obtain ⟨w19, q20, h⟩ := ob_some h
    refine rn_iastore (ft185 54 rfl) q20 ?_
    refine rn_iinc (u := 1) (ls' := [some (.ref v0), some (.int v1), some (.int v2), some (.int v3), some (.float 0), some (.int v5), some (.int (v6 + (1 : Int32))), none, some (.int v8), some (.int s0)]) (ft185 55 rfl) rfl (by decide) rfl ?_
    refine rn_goto (ft185 56 rfl) ?_
    exact rn_forget (ls := [some (.ref v0), some (.int v1), some (.int v2), some (.int v3), some (.float 0), some (.int v5), some (.int (v6 + (1 : Int32))), none, none, none]) (And.intro rfl (And.intro rfl (And.intro rfl (And.intro rfl (And.intro rfl (And.intro rfl (And.intro rfl trivial))))))) (hrec7 v0 v1 v2 v3 v5 (v6 + (1 : Int32)) w19 _ h)
def f185_H13 (n : Nat)  (K7 : Wd → Option Wd) : Nat → Nat → Int32 → Int32 → Int32 → Int32 → Int32 → Wd → Option Wd
  | 0, _, _, _, _, _, _, _ => none
  | k + 1, v0, v1, v2, v3, v5, v6, w =>
    (if v5 ≤ v6 then K7 w
      else ob (tldI S0 0 v6) (fun x1 => ob (f16 v3 (x1 + (1 : Int32)) w) (fun p3 => (if ¬ p3.1 = 0 then ob (getR p3.2 1 v0 0) (fun x5 => (if (wsh p3.2 x5).map (fun q => q.1) = some 6 then ob (f145 x5 v1 x1 v2 p3.2) (fun p7 => ob (getR p7.2 1 v0 0) (fun x9 => ob (f20 p7.1 p7.2) (fun p11 => (if (wsh p11.2 x9).map (fun q => q.1) = some 6 then ob (f9 x9 p11.1 p11.2) (fun p13 => (if ¬ p13.1 = 0 then f185_J86 n (fun (v0 : Nat) (v1 : Int32) (v2 : Int32) (v3 : Int32) (v5 : Int32) (v6 : Int32) w => f185_H13 n  K7 k v0 v1 v2 v3 v5 v6 w) K7 v0 v1 v2 v3 v5 v6 p7.1 (0 : Int32) p13.2
          else ob (f0 p7.1 (0 : Int32) (511 : Int32) p13.2) (fun p22 => (if ¬ p22.1 = 0 then f185_J86 n (fun (v0 : Nat) (v1 : Int32) (v2 : Int32) (v3 : Int32) (v5 : Int32) (v6 : Int32) w => f185_H13 n  K7 k v0 v1 v2 v3 v5 v6 w) K7 v0 v1 v2 v3 v5 v6 p7.1 (0 : Int32) p22.2
            else f185_J86 n (fun (v0 : Nat) (v1 : Int32) (v2 : Int32) (v3 : Int32) (v5 : Int32) (v6 : Int32) w => f185_H13 n  K7 k v0 v1 v2 v3 v5 v6 w) K7 v0 v1 v2 v3 v5 v6 p7.1 (1 : Int32) p22.2)))) else none)))) else none))
        else (fun (v0 : Nat) (v1 : Int32) (v2 : Int32) (v3 : Int32) (v5 : Int32) (v6 : Int32) w => f185_H13 n  K7 k v0 v1 v2 v3 v5 v6 w) v0 v1 v2 v3 v5 (v6 + (1 : Int32)) p3.2))))
set_option maxRecDepth 10000 in
theorem rf185_H13 {S : Sc} (n : Nat)  (K7 : Wd → Option Wd)  (hK7 : ∀  (w : Wd) (o : Wd), K7 w = some o → Rn S 185 112 [none, none, none, none, none, none, none, none, none, none] [] w (none, o)) : ∀ (k : Nat) (v0 : Nat) (v1 : Int32) (v2 : Int32) (v3 : Int32) (v5 : Int32) (v6 : Int32) (w : Wd) (o : Wd), f185_H13 n  K7 k v0 v1 v2 v3 v5 v6 w = some o → Rn S 185 13 [some (.ref v0), some (.int v1), some (.int v2), some (.int v3), some (.float 0), some (.int v5), some (.int v6), none, none, none] [] w (none, o) := by
  intro k
  induction k with
  | zero =>
    intro v0 v1 v2 v3 v5 v6 w o h
    exact nomatch h
  | succ k ih =>
    intro v0 v1 v2 v3 v5 v6 w o h
    have hrec7 : ∀ (y0 : Nat) (y1 : Int32) (y2 : Int32) (y3 : Int32) (y5 : Int32) (y6 : Int32) (w : Wd) (o : Wd), (fun (v0 : Nat) (v1 : Int32) (v2 : Int32) (v3 : Int32) (v5 : Int32) (v6 : Int32) w => f185_H13 n  K7 k v0 v1 v2 v3 v5 v6 w) y0 y1 y2 y3 y5 y6 w = some o → Rn S 185 13 [some (.ref y0), some (.int y1), some (.int y2), some (.int y3), some (.float 0), some (.int y5), some (.int y6), none, none, none] [] w (none, o) := fun y0 y1 y2 y3 y5 y6 w o h => ih y0 y1 y2 y3 y5 y6 w o h
    unfold f185_H13 at h
    refine rn_iload (ft185 7 rfl) rfl ?_
    refine rn_iload (ft185 8 rfl) rfl ?_
    by_cases c29 : v5 ≤ v6
    · replace h := ifp c29 h
      refine rn_icmp_ge_t (ft185 9 rfl) c29 ?_
      exact rn_forget (ls := [none, none, none, none, none, none, none, none, none, none]) trivial (hK7 w _ h)
    · replace h := ifn c29 h
      refine rn_icmp_ge_f (ft185 9 rfl) c29 ?_
      refine rn_aloadS (ft185 10 rfl) rfl ?_
      refine rn_iload (ft185 11 rfl) rfl ?_
      obtain ⟨x1, q2, h⟩ := ob_some h
      refine rn_ialoadS (ft185 12 rfl) q2 ?_
      refine rn_istore (ls' := [some (.ref v0), some (.int v1), some (.int v2), some (.int v3), some (.float 0), some (.int v5), some (.int v6), some (.int x1), none, none]) (ft185 13 rfl) rfl ?_
      refine rn_iload_n (ft185 14 rfl) rfl ?_
      refine rn_iload (ft185 15 rfl) rfl ?_
      refine rn_iconst (v := (1 : Int32)) (ft185 16 rfl) (by decide) ?_
      refine rn_iadd (ft185 17 rfl) ?_
      obtain ⟨p3, q4, h⟩ := ob_some h
      refine rn_callS (as := [.int v3, .int (x1 + (1 : Int32))]) (r := []) (v := (some (.int p3.1))) (w1 := p3.2) (ft185 18 rfl) (by decide +kernel) rfl (Nat.le_of_ble_eq_true rfl) (Nat.le_of_ble_eq_true rfl) (r16 v3 (x1 + (1 : Int32)) w _ q4) ?_
      by_cases c28 : ¬ p3.1 = 0
      · replace h := ifp c28 h
        refine rn_if_ne_t (ft185 19 rfl) c28 ?_
        refine rn_aload_n (ft185 21 rfl) rfl ?_
        obtain ⟨x5, q6, h⟩ := ob_some h
        refine rn_getR (ft185 22 rfl) q6 ?_
        refine rn_iload_n (ft185 23 rfl) rfl ?_
        refine rn_iload (ft185 24 rfl) rfl ?_
        refine rn_iload_n (ft185 25 rfl) rfl ?_
        obtain ⟨g27, h⟩ := ifg h
        obtain ⟨p7, q8, h⟩ := ob_some h
        refine rn_callV (as := [.int v1, .int x1, .int v2]) (k0 := x5) (r := []) (v := (some (.int p7.1))) (w1 := p7.2) (ft185 26 rfl) (by decide +kernel) rfl (Nat.le_of_ble_eq_true rfl) (Nat.le_of_ble_eq_true rfl) (r145 x5 v1 x1 v2 p3.2 _ q8) (by decide +kernel) g27 ?_
        refine rn_istore (ls' := [some (.ref v0), some (.int v1), some (.int v2), some (.int v3), some (.float 0), some (.int v5), some (.int v6), some (.int x1), some (.int p7.1), none]) (ft185 27 rfl) rfl ?_
        refine rn_aload_n (ft185 28 rfl) rfl ?_
        obtain ⟨x9, q10, h⟩ := ob_some h
        refine rn_getR (ft185 29 rfl) q10 ?_
        refine rn_iload (ft185 30 rfl) rfl ?_
        obtain ⟨p11, q12, h⟩ := ob_some h
        refine rn_callS (as := [.int p7.1]) (r := [.ref x9]) (v := (some (.int p11.1))) (w1 := p11.2) (ft185 31 rfl) (by decide +kernel) rfl (Nat.le_of_ble_eq_true rfl) (Nat.le_of_ble_eq_true rfl) (r20 p7.1 p7.2 _ q12) ?_
        obtain ⟨g26, h⟩ := ifg h
        obtain ⟨p13, q14, h⟩ := ob_some h
        refine rn_callV (as := [.int p11.1]) (k0 := x9) (r := []) (v := (some (.int p13.1))) (w1 := p13.2) (ft185 32 rfl) (by decide +kernel) rfl (Nat.le_of_ble_eq_true rfl) (Nat.le_of_ble_eq_true rfl) (r9 x9 p11.1 p11.2 _ q14) (by decide +kernel) g26 ?_
        by_cases c25 : ¬ p13.1 = 0
        · replace h := ifp c25 h
          refine rn_if_ne_t (ft185 33 rfl) c25 ?_
          refine rn_iconst (v := (0 : Int32)) (ft185 41 rfl) (by decide) ?_
          exact rn_forget (ls := [some (.ref v0), some (.int v1), some (.int v2), some (.int v3), some (.float 0), some (.int v5), some (.int v6), none, some (.int p7.1), none]) (And.intro rfl (And.intro rfl (And.intro rfl (And.intro rfl (And.intro rfl (And.intro rfl (And.intro rfl (And.intro rfl trivial)))))))) (rf185_J86 n (fun (v0 : Nat) (v1 : Int32) (v2 : Int32) (v3 : Int32) (v5 : Int32) (v6 : Int32) w => f185_H13 n  K7 k v0 v1 v2 v3 v5 v6 w) K7 v0 v1 v2 v3 v5 v6 p7.1 (0 : Int32) p13.2 _ hrec7 hK7 h)
        · replace h := ifn c25 h
          refine rn_if_ne_f (ft185 33 rfl) c25 ?_
          refine rn_iload (ft185 34 rfl) rfl ?_
          refine rn_iconst (v := (0 : Int32)) (ft185 35 rfl) (by decide) ?_
          refine rn_sipush (v := (511 : Int32)) (ft185 36 rfl) (by decide) ?_
          obtain ⟨p22, q23, h⟩ := ob_some h
          refine rn_callS (as := [.int p7.1, .int (0 : Int32), .int (511 : Int32)]) (r := []) (v := (some (.int p22.1))) (w1 := p22.2) (ft185 37 rfl) (by decide +kernel) rfl (Nat.le_of_ble_eq_true rfl) (Nat.le_of_ble_eq_true rfl) (r0 p7.1 (0 : Int32) (511 : Int32) p13.2 _ q23) ?_
          by_cases c24 : ¬ p22.1 = 0
          · replace h := ifp c24 h
            refine rn_if_ne_t (ft185 38 rfl) c24 ?_
            refine rn_iconst (v := (0 : Int32)) (ft185 41 rfl) (by decide) ?_
            exact rn_forget (ls := [some (.ref v0), some (.int v1), some (.int v2), some (.int v3), some (.float 0), some (.int v5), some (.int v6), none, some (.int p7.1), none]) (And.intro rfl (And.intro rfl (And.intro rfl (And.intro rfl (And.intro rfl (And.intro rfl (And.intro rfl (And.intro rfl trivial)))))))) (rf185_J86 n (fun (v0 : Nat) (v1 : Int32) (v2 : Int32) (v3 : Int32) (v5 : Int32) (v6 : Int32) w => f185_H13 n  K7 k v0 v1 v2 v3 v5 v6 w) K7 v0 v1 v2 v3 v5 v6 p7.1 (0 : Int32) p22.2 _ hrec7 hK7 h)
          · replace h := ifn c24 h
            refine rn_if_ne_f (ft185 38 rfl) c24 ?_
            refine rn_iconst (v := (1 : Int32)) (ft185 39 rfl) (by decide) ?_
            refine rn_goto (ft185 40 rfl) ?_
            exact rn_forget (ls := [some (.ref v0), some (.int v1), some (.int v2), some (.int v3), some (.float 0), some (.int v5), some (.int v6), none, some (.int p7.1), none]) (And.intro rfl (And.intro rfl (And.intro rfl (And.intro rfl (And.intro rfl (And.intro rfl (And.intro rfl (And.intro rfl trivial)))))))) (rf185_J86 n (fun (v0 : Nat) (v1 : Int32) (v2 : Int32) (v3 : Int32) (v5 : Int32) (v6 : Int32) w => f185_H13 n  K7 k v0 v1 v2 v3 v5 v6 w) K7 v0 v1 v2 v3 v5 v6 p7.1 (1 : Int32) p22.2 _ hrec7 hK7 h)
      · replace h := ifn c28 h
        refine rn_if_ne_f (ft185 19 rfl) c28 ?_
        refine rn_goto (ft185 20 rfl) ?_
        refine rn_iinc (u := 1) (ls' := [some (.ref v0), some (.int v1), some (.int v2), some (.int v3), some (.float 0), some (.int v5), some (.int (v6 + (1 : Int32))), some (.int x1), none, none]) (ft185 55 rfl) rfl (by decide) rfl ?_
        refine rn_goto (ft185 56 rfl) ?_
        exact rn_forget (ls := [some (.ref v0), some (.int v1), some (.int v2), some (.int v3), some (.float 0), some (.int v5), some (.int (v6 + (1 : Int32))), none, none, none]) (And.intro rfl (And.intro rfl (And.intro rfl (And.intro rfl (And.intro rfl (And.intro rfl (And.intro rfl trivial))))))) (hrec7 v0 v1 v2 v3 v5 (v6 + (1 : Int32)) p3.2 _ h)
def f185 (n : Nat) (v0 : Nat) (v1 : Int32) (v2 : Int32) (v3 : Int32) (w : Wd) : Option Wd :=
  f185_H13 n  (fun  (w30 : Wd) => some w30) n v0 v1 v2 v3 3 (0 : Int32) w
set_option maxRecDepth 10000 in
theorem r185 {S : Sc} (n : Nat) (v0 : Nat) (v1 : Int32) (v2 : Int32) (v3 : Int32) (w : Wd) (o : Wd) (h : f185 n v0 v1 v2 v3 w = some o) : Rn S 185 0 [some (.ref v0), some (.int v1), some (.int v2), some (.int v3), none, none, none, none, none, none] [] w (none, o) := by
  unfold f185 at h
  refine rn_gets (v := .float 0) (ft185 0 rfl) rfl ?_
  refine rn_astoreS (ls' := [some (.ref v0), some (.int v1), some (.int v2), some (.int v3), some (.float 0), none, none, none, none, none]) (ft185 1 rfl) rfl ?_
  refine rn_aloadS (ft185 2 rfl) rfl ?_
  refine rn_alenS (v := 3) (ft185 3 rfl) rfl ?_
  refine rn_istore (ls' := [some (.ref v0), some (.int v1), some (.int v2), some (.int v3), some (.float 0), some (.int 3), none, none, none, none]) (ft185 4 rfl) rfl ?_
  refine rn_iconst (v := (0 : Int32)) (ft185 5 rfl) (by decide) ?_
  refine rn_istore (ls' := [some (.ref v0), some (.int v1), some (.int v2), some (.int v3), some (.float 0), some (.int 3), some (.int (0 : Int32)), none, none, none]) (ft185 6 rfl) rfl ?_
  refine rn_forget (ls := [some (.ref v0), some (.int v1), some (.int v2), some (.int v3), some (.float 0), some (.int 3), some (.int (0 : Int32)), none, none, none]) (And.intro rfl (And.intro rfl (And.intro rfl (And.intro rfl (And.intro rfl (And.intro rfl (And.intro rfl trivial))))))) (rf185_H13 n  _  (fun  w30 o h => ?_) n v0 v1 v2 v3 3 (0 : Int32) w _ h)
  cases h
  exact rn_vret pr185 (ft185 57 rfl)
