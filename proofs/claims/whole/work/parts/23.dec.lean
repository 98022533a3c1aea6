/-! THE METHODS AS FUNCTIONS, 6 -/
/-- NineWheelModel.rocksBy(I)I -/
theorem ft116 : ∀ (i : Nat) {q : Nat × XI}, cd116[i]? = some q → fetch 116 q.1 = some q.2 := ft_of (by decide +kernel)
theorem pr116 : pRt 116 = some .int := rfl
def f116_J34 (n : Nat) (rec4 : Nat → Int32 → Int32 → Int32 → Wd → Option (Int32 × Wd)) (K4 : Int32 → Wd → Option (Int32 × Wd)) (v0 : Nat) (v1 : Int32) (v3 : Int32) (s0 : Int32) (s1 : Int32) (w : Wd) : Option (Int32 × Wd) :=
  rec4 v0 v1 (s0 + s1) (v3 + (1 : Int32)) w
set_option maxRecDepth 10000 in
theorem rf116_J34 {S : Sc} (n : Nat) (rec4 : Nat → Int32 → Int32 → Int32 → Wd → Option (Int32 × Wd)) (K4 : Int32 → Wd → Option (Int32 × Wd)) (v0 : Nat) (v1 : Int32) (v3 : Int32) (s0 : Int32) (s1 : Int32) (w : Wd) (o : (Int32 × Wd)) (hrec4 : ∀ (y0 : Nat) (y1 : Int32) (y2 : Int32) (y3 : Int32) (w : Wd) (o : (Int32 × Wd)), rec4 y0 y1 y2 y3 w = some o → Rn S 116 4 [some (.ref y0), some (.int y1), some (.int y2), some (.int y3)] [] w (some (.int o.1), o.2)) (hK4 : ∀ (y2 : Int32) (w : Wd) (o : (Int32 × Wd)), K4 y2 w = some o → Rn S 116 42 [none, none, some (.int y2), none] [] w (some (.int o.1), o.2)) (h : f116_J34 n rec4 K4 v0 v1 v3 s0 s1 w = some o) : Rn S 116 34 [some (.ref v0), some (.int v1), none, some (.int v3)] [.int s1, .int s0] w (some (.int o.1), o.2) := by
  unfold f116_J34 at h
  refine rn_iadd (ft116 21 rfl) ?_
  refine rn_istore_n (ls' := [some (.ref v0), some (.int v1), some (.int (s0 + s1)), some (.int v3)]) (ft116 22 rfl) rfl ?_
  refine rn_iinc (u := 1) (ls' := [some (.ref v0), some (.int v1), some (.int (s0 + s1)), some (.int (v3 + (1 : Int32)))]) (ft116 23 rfl) rfl (by decide) rfl ?_
  refine rn_goto (ft116 24 rfl) ?_
  exact rn_forget (ls := [some (.ref v0), some (.int v1), some (.int (s0 + s1)), some (.int (v3 + (1 : Int32)))]) (And.intro rfl (And.intro rfl (And.intro rfl (And.intro rfl trivial)))) (hrec4 v0 v1 (s0 + s1) (v3 + (1 : Int32)) w _ h)
def f116_H4 (n : Nat)  (K4 : Int32 → Wd → Option (Int32 × Wd)) : Nat → Nat → Int32 → Int32 → Int32 → Wd → Option (Int32 × Wd)
  | 0, _, _, _, _, _ => none
  | k + 1, v0, v1, v2, v3, w =>
    (if (64 : Int32) ≤ v3 then K4 v2 w
      else ob (getR w 11 v0 2) (fun x1 => ob (aldB w x1 v3) (fun x3 => (if x3 = 0 then f116_J34 n (fun (v0 : Nat) (v1 : Int32) (v2 : Int32) (v3 : Int32) w => f116_H4 n  K4 k v0 v1 v2 v3 w) K4 v0 v1 v3 v2 (0 : Int32) w
        else ob (f48 v1 v3 w) (fun p5 => (if (1 : Int32) < p5.1 then f116_J34 n (fun (v0 : Nat) (v1 : Int32) (v2 : Int32) (v3 : Int32) w => f116_H4 n  K4 k v0 v1 v2 v3 w) K4 v0 v1 v3 v2 (0 : Int32) p5.2
          else f116_J34 n (fun (v0 : Nat) (v1 : Int32) (v2 : Int32) (v3 : Int32) w => f116_H4 n  K4 k v0 v1 v2 v3 w) K4 v0 v1 v3 v2 (1 : Int32) p5.2))))))
set_option maxRecDepth 10000 in
theorem rf116_H4 {S : Sc} (n : Nat)  (K4 : Int32 → Wd → Option (Int32 × Wd))  (hK4 : ∀ (y2 : Int32) (w : Wd) (o : (Int32 × Wd)), K4 y2 w = some o → Rn S 116 42 [none, none, some (.int y2), none] [] w (some (.int o.1), o.2)) : ∀ (k : Nat) (v0 : Nat) (v1 : Int32) (v2 : Int32) (v3 : Int32) (w : Wd) (o : (Int32 × Wd)), f116_H4 n  K4 k v0 v1 v2 v3 w = some o → Rn S 116 4 [some (.ref v0), some (.int v1), some (.int v2), some (.int v3)] [] w (some (.int o.1), o.2) := by
  intro k
  induction k with
  | zero =>
    intro v0 v1 v2 v3 w o h
    exact nomatch h
  | succ k ih =>
    intro v0 v1 v2 v3 w o h
    have hrec4 : ∀ (y0 : Nat) (y1 : Int32) (y2 : Int32) (y3 : Int32) (w : Wd) (o : (Int32 × Wd)), (fun (v0 : Nat) (v1 : Int32) (v2 : Int32) (v3 : Int32) w => f116_H4 n  K4 k v0 v1 v2 v3 w) y0 y1 y2 y3 w = some o → Rn S 116 4 [some (.ref y0), some (.int y1), some (.int y2), some (.int y3)] [] w (some (.int o.1), o.2) := fun y0 y1 y2 y3 w o h => ih y0 y1 y2 y3 w o h
    unfold f116_H4 at h
    refine rn_iload_n (ft116 4 rfl) rfl ?_
    refine rn_bipush (v := (64 : Int32)) (ft116 5 rfl) (by decide) ?_
    by_cases c9 : (64 : Int32) ≤ v3
    · replace h := ifp c9 h
      refine rn_icmp_ge_t (ft116 6 rfl) c9 ?_
      exact rn_forget (ls := [none, none, some (.int v2), none]) (And.intro rfl trivial) (hK4 v2 w _ h)
    · replace h := ifn c9 h
      refine rn_icmp_ge_f (ft116 6 rfl) c9 ?_
      refine rn_iload_n (ft116 7 rfl) rfl ?_
      refine rn_aload_n (ft116 8 rfl) rfl ?_
      obtain ⟨x1, q2, h⟩ := ob_some h
      refine rn_getR (ft116 9 rfl) q2 ?_
      refine rn_iload_n (ft116 10 rfl) rfl ?_
      obtain ⟨x3, q4, h⟩ := ob_some h
      refine rn_baload (ft116 11 rfl) q4 ?_
      by_cases c8 : x3 = 0
      · replace h := ifp c8 h
        refine rn_if_eq_t (ft116 12 rfl) c8 ?_
        refine rn_iconst (v := (0 : Int32)) (ft116 20 rfl) (by decide) ?_
        exact rn_forget (ls := [some (.ref v0), some (.int v1), none, some (.int v3)]) (And.intro rfl (And.intro rfl (And.intro rfl trivial))) (rf116_J34 n (fun (v0 : Nat) (v1 : Int32) (v2 : Int32) (v3 : Int32) w => f116_H4 n  K4 k v0 v1 v2 v3 w) K4 v0 v1 v3 v2 (0 : Int32) w _ hrec4 hK4 h)
      · replace h := ifn c8 h
        refine rn_if_eq_f (ft116 12 rfl) c8 ?_
        refine rn_iload_n (ft116 13 rfl) rfl ?_
        refine rn_iload_n (ft116 14 rfl) rfl ?_
        obtain ⟨p5, q6, h⟩ := ob_some h
        refine rn_callS (as := [.int v1, .int v3]) (r := [.int v2]) (v := (some (.int p5.1))) (w1 := p5.2) (ft116 15 rfl) (by decide +kernel) rfl (Nat.le_of_ble_eq_true rfl) (Nat.le_of_ble_eq_true rfl) (r48 v1 v3 w _ q6) ?_
        refine rn_iconst (v := (1 : Int32)) (ft116 16 rfl) (by decide) ?_
        by_cases c7 : (1 : Int32) < p5.1
        · replace h := ifp c7 h
          refine rn_icmp_gt_t (ft116 17 rfl) c7 ?_
          refine rn_iconst (v := (0 : Int32)) (ft116 20 rfl) (by decide) ?_
          exact rn_forget (ls := [some (.ref v0), some (.int v1), none, some (.int v3)]) (And.intro rfl (And.intro rfl (And.intro rfl trivial))) (rf116_J34 n (fun (v0 : Nat) (v1 : Int32) (v2 : Int32) (v3 : Int32) w => f116_H4 n  K4 k v0 v1 v2 v3 w) K4 v0 v1 v3 v2 (0 : Int32) p5.2 _ hrec4 hK4 h)
        · replace h := ifn c7 h
          refine rn_icmp_gt_f (ft116 17 rfl) c7 ?_
          refine rn_iconst (v := (1 : Int32)) (ft116 18 rfl) (by decide) ?_
          refine rn_goto (ft116 19 rfl) ?_
          exact rn_forget (ls := [some (.ref v0), some (.int v1), none, some (.int v3)]) (And.intro rfl (And.intro rfl (And.intro rfl trivial))) (rf116_J34 n (fun (v0 : Nat) (v1 : Int32) (v2 : Int32) (v3 : Int32) w => f116_H4 n  K4 k v0 v1 v2 v3 w) K4 v0 v1 v3 v2 (1 : Int32) p5.2 _ hrec4 hK4 h)
def f116 (n : Nat) (v0 : Nat) (v1 : Int32) (w : Wd) : Option (Int32 × Wd) :=
  f116_H4 n  (fun (e2_10 : Int32) (w10 : Wd) => some (e2_10, w10)) n v0 v1 (0 : Int32) (0 : Int32) w
set_option maxRecDepth 10000 in
theorem r116 {S : Sc} (n : Nat) (v0 : Nat) (v1 : Int32) (w : Wd) (o : (Int32 × Wd)) (h : f116 n v0 v1 w = some o) : Rn S 116 0 [some (.ref v0), some (.int v1), none, none] [] w (some (.int o.1), o.2) := by
  unfold f116 at h
  refine rn_iconst (v := (0 : Int32)) (ft116 0 rfl) (by decide) ?_
  refine rn_istore_n (ls' := [some (.ref v0), some (.int v1), some (.int (0 : Int32)), none]) (ft116 1 rfl) rfl ?_
  refine rn_iconst (v := (0 : Int32)) (ft116 2 rfl) (by decide) ?_
  refine rn_istore_n (ls' := [some (.ref v0), some (.int v1), some (.int (0 : Int32)), some (.int (0 : Int32))]) (ft116 3 rfl) rfl ?_
  refine rn_forget (ls := [some (.ref v0), some (.int v1), some (.int (0 : Int32)), some (.int (0 : Int32))]) (And.intro rfl (And.intro rfl (And.intro rfl (And.intro rfl trivial)))) (rf116_H4 n  _  (fun e2_10 w10 o h => ?_) n v0 v1 (0 : Int32) (0 : Int32) w _ h)
  refine rn_iload_n (ft116 25 rfl) rfl ?_
  cases h
  exact rn_iretI pr116 (ft116 26 rfl)
/-- NineWheelModel.told(I)I -/
theorem ft117 : ∀ (i : Nat) {q : Nat × XI}, cd117[i]? = some q → fetch 117 q.1 = some q.2 := ft_of (by decide +kernel)
theorem pr117 : pRt 117 = some .int := rfl
def f117_J25 (n : Nat) (rec4 : Nat → Int32 → Int32 → Int32 → Wd → Option (Int32 × Wd)) (K4 : Nat → Int32 → Int32 → Wd → Option (Int32 × Wd)) (v0 : Nat) (v1 : Int32) (v3 : Int32) (s0 : Int32) (s1 : Int32) (w : Wd) : Option (Int32 × Wd) :=
  rec4 v0 v1 (s0 + s1) (v3 + (1 : Int32)) w
set_option maxRecDepth 10000 in
theorem rf117_J25 {S : Sc} (n : Nat) (rec4 : Nat → Int32 → Int32 → Int32 → Wd → Option (Int32 × Wd)) (K4 : Nat → Int32 → Int32 → Wd → Option (Int32 × Wd)) (v0 : Nat) (v1 : Int32) (v3 : Int32) (s0 : Int32) (s1 : Int32) (w : Wd) (o : (Int32 × Wd)) (hrec4 : ∀ (y0 : Nat) (y1 : Int32) (y2 : Int32) (y3 : Int32) (w : Wd) (o : (Int32 × Wd)), rec4 y0 y1 y2 y3 w = some o → Rn S 117 4 [some (.ref y0), some (.int y1), some (.int y2), some (.int y3)] [] w (some (.int o.1), o.2)) (hK4 : ∀ (y0 : Nat) (y1 : Int32) (y2 : Int32) (w : Wd) (o : (Int32 × Wd)), K4 y0 y1 y2 w = some o → Rn S 117 33 [some (.ref y0), some (.int y1), some (.int y2), none] [] w (some (.int o.1), o.2)) (h : f117_J25 n rec4 K4 v0 v1 v3 s0 s1 w = some o) : Rn S 117 25 [some (.ref v0), some (.int v1), none, some (.int v3)] [.int s1, .int s0] w (some (.int o.1), o.2) := by
  unfold f117_J25 at h
  refine rn_iadd (ft117 16 rfl) ?_
  refine rn_istore_n (ls' := [some (.ref v0), some (.int v1), some (.int (s0 + s1)), some (.int v3)]) (ft117 17 rfl) rfl ?_
  refine rn_iinc (u := 1) (ls' := [some (.ref v0), some (.int v1), some (.int (s0 + s1)), some (.int (v3 + (1 : Int32)))]) (ft117 18 rfl) rfl (by decide) rfl ?_
  refine rn_goto (ft117 19 rfl) ?_
  exact rn_forget (ls := [some (.ref v0), some (.int v1), some (.int (s0 + s1)), some (.int (v3 + (1 : Int32)))]) (And.intro rfl (And.intro rfl (And.intro rfl (And.intro rfl trivial)))) (hrec4 v0 v1 (s0 + s1) (v3 + (1 : Int32)) w _ h)
def f117_H4 (n : Nat)  (K4 : Nat → Int32 → Int32 → Wd → Option (Int32 × Wd)) : Nat → Nat → Int32 → Int32 → Int32 → Wd → Option (Int32 × Wd)
  | 0, _, _, _, _, _ => none
  | k + 1, v0, v1, v2, v3, w =>
    (if (64 : Int32) ≤ v3 then K4 v0 v1 v2 w
      else ob (getR w 11 v0 2) (fun x1 => ob (aldB w x1 v3) (fun x3 => (if x3 = 0 then f117_J25 n (fun (v0 : Nat) (v1 : Int32) (v2 : Int32) (v3 : Int32) w => f117_H4 n  K4 k v0 v1 v2 v3 w) K4 v0 v1 v3 v2 (0 : Int32) w
        else f117_J25 n (fun (v0 : Nat) (v1 : Int32) (v2 : Int32) (v3 : Int32) w => f117_H4 n  K4 k v0 v1 v2 v3 w) K4 v0 v1 v3 v2 (1 : Int32) w))))
set_option maxRecDepth 10000 in
theorem rf117_H4 {S : Sc} (n : Nat)  (K4 : Nat → Int32 → Int32 → Wd → Option (Int32 × Wd))  (hK4 : ∀ (y0 : Nat) (y1 : Int32) (y2 : Int32) (w : Wd) (o : (Int32 × Wd)), K4 y0 y1 y2 w = some o → Rn S 117 33 [some (.ref y0), some (.int y1), some (.int y2), none] [] w (some (.int o.1), o.2)) : ∀ (k : Nat) (v0 : Nat) (v1 : Int32) (v2 : Int32) (v3 : Int32) (w : Wd) (o : (Int32 × Wd)), f117_H4 n  K4 k v0 v1 v2 v3 w = some o → Rn S 117 4 [some (.ref v0), some (.int v1), some (.int v2), some (.int v3)] [] w (some (.int o.1), o.2) := by
  intro k
  induction k with
  | zero =>
    intro v0 v1 v2 v3 w o h
    exact nomatch h
  | succ k ih =>
    intro v0 v1 v2 v3 w o h
    have hrec4 : ∀ (y0 : Nat) (y1 : Int32) (y2 : Int32) (y3 : Int32) (w : Wd) (o : (Int32 × Wd)), (fun (v0 : Nat) (v1 : Int32) (v2 : Int32) (v3 : Int32) w => f117_H4 n  K4 k v0 v1 v2 v3 w) y0 y1 y2 y3 w = some o → Rn S 117 4 [some (.ref y0), some (.int y1), some (.int y2), some (.int y3)] [] w (some (.int o.1), o.2) := fun y0 y1 y2 y3 w o h => ih y0 y1 y2 y3 w o h
    unfold f117_H4 at h
    refine rn_iload_n (ft117 4 rfl) rfl ?_
    refine rn_bipush (v := (64 : Int32)) (ft117 5 rfl) (by decide) ?_
    by_cases c6 : (64 : Int32) ≤ v3
    · replace h := ifp c6 h
      refine rn_icmp_ge_t (ft117 6 rfl) c6 ?_
      exact rn_forget (ls := [some (.ref v0), some (.int v1), some (.int v2), none]) (And.intro rfl (And.intro rfl (And.intro rfl trivial))) (hK4 v0 v1 v2 w _ h)
    · replace h := ifn c6 h
      refine rn_icmp_ge_f (ft117 6 rfl) c6 ?_
      refine rn_iload_n (ft117 7 rfl) rfl ?_
      refine rn_aload_n (ft117 8 rfl) rfl ?_
      obtain ⟨x1, q2, h⟩ := ob_some h
      refine rn_getR (ft117 9 rfl) q2 ?_
      refine rn_iload_n (ft117 10 rfl) rfl ?_
      obtain ⟨x3, q4, h⟩ := ob_some h
      refine rn_baload (ft117 11 rfl) q4 ?_
      by_cases c5 : x3 = 0
      · replace h := ifp c5 h
        refine rn_if_eq_t (ft117 12 rfl) c5 ?_
        refine rn_iconst (v := (0 : Int32)) (ft117 15 rfl) (by decide) ?_
        exact rn_forget (ls := [some (.ref v0), some (.int v1), none, some (.int v3)]) (And.intro rfl (And.intro rfl (And.intro rfl trivial))) (rf117_J25 n (fun (v0 : Nat) (v1 : Int32) (v2 : Int32) (v3 : Int32) w => f117_H4 n  K4 k v0 v1 v2 v3 w) K4 v0 v1 v3 v2 (0 : Int32) w _ hrec4 hK4 h)
      · replace h := ifn c5 h
        refine rn_if_eq_f (ft117 12 rfl) c5 ?_
        refine rn_iconst (v := (1 : Int32)) (ft117 13 rfl) (by decide) ?_
        refine rn_goto (ft117 14 rfl) ?_
        exact rn_forget (ls := [some (.ref v0), some (.int v1), none, some (.int v3)]) (And.intro rfl (And.intro rfl (And.intro rfl trivial))) (rf117_J25 n (fun (v0 : Nat) (v1 : Int32) (v2 : Int32) (v3 : Int32) w => f117_H4 n  K4 k v0 v1 v2 v3 w) K4 v0 v1 v3 v2 (1 : Int32) w _ hrec4 hK4 h)
def f117 (n : Nat) (v0 : Nat) (v1 : Int32) (w : Wd) : Option (Int32 × Wd) :=
  f117_H4 n  (fun (e0_7 : Nat) (e1_7 : Int32) (e2_7 : Int32) (w7 : Wd) => (if e1_7 = 0 then ob (getI w7 11 e0_7 0) (fun x21 => some (x21, w7))
      else (if e1_7 = 1 then ob (getI w7 11 e0_7 1) (fun x19 => some (x19, w7))
        else (if e1_7 = 2 then ob (getI w7 11 e0_7 3) (fun x17 => some (x17, w7))
          else (if e1_7 = 3 then ob (getI w7 11 e0_7 4) (fun x15 => some (x15, w7))
            else (if e1_7 = 4 then ob (getI w7 11 e0_7 5) (fun x13 => some (x13, w7))
              else (if e1_7 = 5 then ob (getI w7 11 e0_7 6) (fun x11 => some (x11, w7))
                else (if e1_7 = 6 then (if (wsh w7 e0_7).map (fun q => q.1) = some 11 then ob (f50 n e0_7 w7) (fun p8 => some (p8.1, p8.2)) else none)
                  else (if e1_7 = 7 then some (e2_7, w7)
                    else some ((-1000002 : Int32), w7)))))))))) n v0 v1 (0 : Int32) (0 : Int32) w
set_option maxRecDepth 10000 in
theorem r117 {S : Sc} (n : Nat) (v0 : Nat) (v1 : Int32) (w : Wd) (o : (Int32 × Wd)) (h : f117 n v0 v1 w = some o) : Rn S 117 0 [some (.ref v0), some (.int v1), none, none] [] w (some (.int o.1), o.2) := by
  unfold f117 at h
  refine rn_iconst (v := (0 : Int32)) (ft117 0 rfl) (by decide) ?_
  refine rn_istore_n (ls' := [some (.ref v0), some (.int v1), some (.int (0 : Int32)), none]) (ft117 1 rfl) rfl ?_
  refine rn_iconst (v := (0 : Int32)) (ft117 2 rfl) (by decide) ?_
  refine rn_istore_n (ls' := [some (.ref v0), some (.int v1), some (.int (0 : Int32)), some (.int (0 : Int32))]) (ft117 3 rfl) rfl ?_
  refine rn_forget (ls := [some (.ref v0), some (.int v1), some (.int (0 : Int32)), some (.int (0 : Int32))]) (And.intro rfl (And.intro rfl (And.intro rfl (And.intro rfl trivial)))) (rf117_H4 n  _  (fun e0_7 e1_7 e2_7 w7 o h => ?_) n v0 v1 (0 : Int32) (0 : Int32) w _ h)
  refine rn_iload_n (ft117 20 rfl) rfl ?_
  by_cases c23 : e1_7 = 0
  · replace h := ifp c23 h
    refine rn_sw_i (e := 46) (pc' := 80) (ft117 21 rfl) (by rw [c23]; decide) (by rw [c23]; rfl) (by decide) ?_
    refine rn_aload_n (ft117 22 rfl) rfl ?_
    obtain ⟨x21, q22, h⟩ := ob_some h
    refine rn_getI (ft117 23 rfl) (by decide) (by decide) q22 ?_
    cases h
    exact rn_iretI pr117 (ft117 24 rfl)
  · replace h := ifn c23 h
    by_cases c24 : e1_7 = 1
    · replace h := ifp c24 h
      refine rn_sw_i (e := 51) (pc' := 85) (ft117 21 rfl) (by rw [c24]; decide) (by rw [c24]; rfl) (by decide) ?_
      refine rn_aload_n (ft117 25 rfl) rfl ?_
      obtain ⟨x19, q20, h⟩ := ob_some h
      refine rn_getI (ft117 26 rfl) (by decide) (by decide) q20 ?_
      cases h
      exact rn_iretI pr117 (ft117 27 rfl)
    · replace h := ifn c24 h
      by_cases c25 : e1_7 = 2
      · replace h := ifp c25 h
        refine rn_sw_i (e := 56) (pc' := 90) (ft117 21 rfl) (by rw [c25]; decide) (by rw [c25]; rfl) (by decide) ?_
        refine rn_aload_n (ft117 28 rfl) rfl ?_
        obtain ⟨x17, q18, h⟩ := ob_some h
        refine rn_getI (ft117 29 rfl) (by decide) (by decide) q18 ?_
        cases h
        exact rn_iretI pr117 (ft117 30 rfl)
      · replace h := ifn c25 h
        by_cases c26 : e1_7 = 3
        · replace h := ifp c26 h
          refine rn_sw_i (e := 61) (pc' := 95) (ft117 21 rfl) (by rw [c26]; decide) (by rw [c26]; rfl) (by decide) ?_
          refine rn_aload_n (ft117 31 rfl) rfl ?_
          obtain ⟨x15, q16, h⟩ := ob_some h
          refine rn_getI (ft117 32 rfl) (by decide) (by decide) q16 ?_
          cases h
          exact rn_iretI pr117 (ft117 33 rfl)
        · replace h := ifn c26 h
          by_cases c27 : e1_7 = 4
          · replace h := ifp c27 h
            refine rn_sw_i (e := 66) (pc' := 100) (ft117 21 rfl) (by rw [c27]; decide) (by rw [c27]; rfl) (by decide) ?_
            refine rn_aload_n (ft117 34 rfl) rfl ?_
            obtain ⟨x13, q14, h⟩ := ob_some h
            refine rn_getI (ft117 35 rfl) (by decide) (by decide) q14 ?_
            cases h
            exact rn_iretI pr117 (ft117 36 rfl)
          · replace h := ifn c27 h
            by_cases c28 : e1_7 = 5
            · replace h := ifp c28 h
              refine rn_sw_i (e := 71) (pc' := 105) (ft117 21 rfl) (by rw [c28]; decide) (by rw [c28]; rfl) (by decide) ?_
              refine rn_aload_n (ft117 37 rfl) rfl ?_
              obtain ⟨x11, q12, h⟩ := ob_some h
              refine rn_getI (ft117 38 rfl) (by decide) (by decide) q12 ?_
              cases h
              exact rn_iretI pr117 (ft117 39 rfl)
            · replace h := ifn c28 h
              by_cases c29 : e1_7 = 6
              · replace h := ifp c29 h
                refine rn_sw_i (e := 76) (pc' := 110) (ft117 21 rfl) (by rw [c29]; decide) (by rw [c29]; rfl) (by decide) ?_
                refine rn_aload_n (ft117 40 rfl) rfl ?_
                obtain ⟨g10, h⟩ := ifg h
                obtain ⟨p8, q9, h⟩ := ob_some h
                refine rn_callV (as := []) (k0 := e0_7) (r := []) (v := (some (.int p8.1))) (w1 := p8.2) (ft117 41 rfl) (by decide +kernel) rfl (Nat.le_of_ble_eq_true rfl) (Nat.le_of_ble_eq_true rfl) (r50 n e0_7 w7 _ q9) (by decide +kernel) g10 ?_
                cases h
                exact rn_iretI pr117 (ft117 42 rfl)
              · replace h := ifn c29 h
                by_cases c30 : e1_7 = 7
                · replace h := ifp c30 h
                  refine rn_sw_i (e := 81) (pc' := 115) (ft117 21 rfl) (by rw [c30]; decide) (by rw [c30]; rfl) (by decide) ?_
                  refine rn_iload_n (ft117 43 rfl) rfl ?_
                  cases h
                  exact rn_iretI pr117 (ft117 44 rfl)
                · replace h := ifn c30 h
                  have hsw := sw_out (v := e1_7) (N := 7) (by omega) (fun j hj => by
                    have hj2 : j = 0 ∨ j = 1 ∨ j = 2 ∨ j = 3 ∨ j = 4 ∨ j = 5 ∨ j = 6 ∨ j = 7 := by omega
                    rcases hj2 with rfl | rfl | rfl | rfl | rfl | rfl | rfl | rfl
                    · exact c23
                    · exact c24
                    · exact c25
                    · exact c26
                    · exact c27
                    · exact c28
                    · exact c29
                    · exact c30)
                  refine rn_sw_d (ft117 21 rfl) hsw (by decide) ?_
                  refine rn_ldc (v := (-1000002 : Int32)) (ft117 45 rfl) (by decide) rfl ?_
                  cases h
                  exact rn_iretI pr117 (ft117 46 rfl)
/-- NineWheelModel.isCell(I)Z -/
theorem ft118 : ∀ (i : Nat) {q : Nat × XI}, cd118[i]? = some q → fetch 118 q.1 = some q.2 := ft_of (by decide +kernel)
theorem pr118 : pRt 118 = some .boolean := rfl
def f118 (v0 : Int32) (w : Wd) : Option (Int32 × Wd) :=
  ob (f40 (Int32.toInt64 v0) (0 : Int64) (63 : Int64) w) (fun p1 => (if p1.1 = 0 ∨ p1.1 = 1 then some (p1.1, p1.2) else none))
set_option maxRecDepth 10000 in
theorem r118 {S : Sc} (v0 : Int32) (w : Wd) (o : (Int32 × Wd)) (h : f118 v0 w = some o) : Rn S 118 0 [some (.int v0)] [] w (some (.int o.1), o.2) := by
  unfold f118 at h
  refine rn_iload_n (ft118 0 rfl) rfl ?_
  refine rn_i2l (ft118 1 rfl) ?_
  refine rn_lconst (v := (0 : Int64)) (ft118 2 rfl) (by decide) ?_
  refine rn_ldc2 (v := (63 : Int64)) (ft118 3 rfl) (by decide) ?_
  obtain ⟨p1, q2, h⟩ := ob_some h
  refine rn_callS (as := [.long (Int32.toInt64 v0), .long (0 : Int64), .long (63 : Int64)]) (r := []) (v := (some (.int p1.1))) (w1 := p1.2) (ft118 4 rfl) (by decide +kernel) rfl (Nat.le_of_ble_eq_true rfl) (Nat.le_of_ble_eq_true rfl) (r40 (Int32.toInt64 v0) (0 : Int64) (63 : Int64) w _ q2) ?_
  obtain ⟨g3, h⟩ := ifg h
  cases h
  exact rn_iretZ pr118 g3 (ft118 5 rfl)
/-- NineWheelModel.areSorts(I)Z -/
theorem ft119 : ∀ (i : Nat) {q : Nat × XI}, cd119[i]? = some q → fetch 119 q.1 = some q.2 := ft_of (by decide +kernel)
theorem pr119 : pRt 119 = some .boolean := rfl
def f119 (v0 : Nat) (v1 : Int32) (w : Wd) : Option (Int32 × Wd) :=
  ob (getI w 11 v0 6) (fun x1 => ob (f40 (Int32.toInt64 v1) (0 : Int64) (Int32.toInt64 (((1 : Int32) <<< (x1 &&& 31)) - (1 : Int32))) w) (fun p3 => (if p3.1 = 0 ∨ p3.1 = 1 then some (p3.1, p3.2) else none)))
set_option maxRecDepth 10000 in
theorem r119 {S : Sc} (v0 : Nat) (v1 : Int32) (w : Wd) (o : (Int32 × Wd)) (h : f119 v0 v1 w = some o) : Rn S 119 0 [some (.ref v0), some (.int v1)] [] w (some (.int o.1), o.2) := by
  unfold f119 at h
  refine rn_iload_n (ft119 0 rfl) rfl ?_
  refine rn_i2l (ft119 1 rfl) ?_
  refine rn_lconst (v := (0 : Int64)) (ft119 2 rfl) (by decide) ?_
  refine rn_iconst (v := (1 : Int32)) (ft119 3 rfl) (by decide) ?_
  refine rn_aload_n (ft119 4 rfl) rfl ?_
  obtain ⟨x1, q2, h⟩ := ob_some h
  refine rn_getI (ft119 5 rfl) (by decide) (by decide) q2 ?_
  refine rn_ishl (ft119 6 rfl) ?_
  refine rn_iconst (v := (1 : Int32)) (ft119 7 rfl) (by decide) ?_
  refine rn_isub (ft119 8 rfl) ?_
  refine rn_i2l (ft119 9 rfl) ?_
  obtain ⟨p3, q4, h⟩ := ob_some h
  refine rn_callS (as := [.long (Int32.toInt64 v1), .long (0 : Int64), .long (Int32.toInt64 (((1 : Int32) <<< (x1 &&& 31)) - (1 : Int32)))]) (r := []) (v := (some (.int p3.1))) (w1 := p3.2) (ft119 10 rfl) (by decide +kernel) rfl (Nat.le_of_ble_eq_true rfl) (Nat.le_of_ble_eq_true rfl) (r40 (Int32.toInt64 v1) (0 : Int64) (Int32.toInt64 (((1 : Int32) <<< (x1 &&& 31)) - (1 : Int32))) w _ q4) ?_
  obtain ⟨g5, h⟩ := ifg h
  cases h
  exact rn_iretZ pr119 g5 (ft119 11 rfl)
/-- NineWheelModel.worthOf(II)I -/
theorem ft120 : ∀ (i : Nat) {q : Nat × XI}, cd120[i]? = some q → fetch 120 q.1 = some q.2 := ft_of (by decide +kernel)
theorem pr120 : pRt 120 = some .int := rfl
def f120_J48 (n : Nat) (rec4 : Nat → Int32 → Int32 → Int32 → Int32 → Wd → Option (Int32 × Wd)) (K4 : Int32 → Wd → Option (Int32 × Wd)) (v0 : Nat) (v1 : Int32) (v2 : Int32) (v4 : Int32) (s0 : Int32) (s1 : Int32) (w : Wd) : Option (Int32 × Wd) :=
  rec4 v0 v1 v2 (s0 + s1) (v4 + (1 : Int32)) w
set_option maxRecDepth 10000 in
theorem rf120_J48 {S : Sc} (n : Nat) (rec4 : Nat → Int32 → Int32 → Int32 → Int32 → Wd → Option (Int32 × Wd)) (K4 : Int32 → Wd → Option (Int32 × Wd)) (v0 : Nat) (v1 : Int32) (v2 : Int32) (v4 : Int32) (s0 : Int32) (s1 : Int32) (w : Wd) (o : (Int32 × Wd)) (hrec4 : ∀ (y0 : Nat) (y1 : Int32) (y2 : Int32) (y3 : Int32) (y4 : Int32) (w : Wd) (o : (Int32 × Wd)), rec4 y0 y1 y2 y3 y4 w = some o → Rn S 120 5 [some (.ref y0), some (.int y1), some (.int y2), some (.int y3), some (.int y4)] [] w (some (.int o.1), o.2)) (hK4 : ∀ (y3 : Int32) (w : Wd) (o : (Int32 × Wd)), K4 y3 w = some o → Rn S 120 56 [none, none, none, some (.int y3), none] [] w (some (.int o.1), o.2)) (h : f120_J48 n rec4 K4 v0 v1 v2 v4 s0 s1 w = some o) : Rn S 120 48 [some (.ref v0), some (.int v1), some (.int v2), none, some (.int v4)] [.int s1, .int s0] w (some (.int o.1), o.2) := by
  unfold f120_J48 at h
  refine rn_iadd (ft120 28 rfl) ?_
  refine rn_istore_n (ls' := [some (.ref v0), some (.int v1), some (.int v2), some (.int (s0 + s1)), some (.int v4)]) (ft120 29 rfl) rfl ?_
  refine rn_iinc (u := 1) (ls' := [some (.ref v0), some (.int v1), some (.int v2), some (.int (s0 + s1)), some (.int (v4 + (1 : Int32)))]) (ft120 30 rfl) rfl (by decide) rfl ?_
  refine rn_goto (ft120 31 rfl) ?_
  exact rn_forget (ls := [some (.ref v0), some (.int v1), some (.int v2), some (.int (s0 + s1)), some (.int (v4 + (1 : Int32)))]) (And.intro rfl (And.intro rfl (And.intro rfl (And.intro rfl (And.intro rfl trivial))))) (hrec4 v0 v1 v2 (s0 + s1) (v4 + (1 : Int32)) w _ h)
def f120_H5 (n : Nat)  (K4 : Int32 → Wd → Option (Int32 × Wd)) : Nat → Nat → Int32 → Int32 → Int32 → Int32 → Wd → Option (Int32 × Wd)
  | 0, _, _, _, _, _, _ => none
  | k + 1, v0, v1, v2, v3, v4, w =>
    ob (getI w 11 v0 6) (fun x1 => (if x1 ≤ v4 then K4 v3 w
      else ob (f45 v2 v4 w) (fun p3 => (if p3.1 = 0 then f120_J48 n (fun (v0 : Nat) (v1 : Int32) (v2 : Int32) (v3 : Int32) (v4 : Int32) w => f120_H5 n  K4 k v0 v1 v2 v3 v4 w) K4 v0 v1 v2 v4 v3 (0 : Int32) p3.2
        else ob (getR p3.2 11 v0 7) (fun x5 => ob (aldI p3.2 x5 v4) (fun x7 => ob (getR p3.2 11 v0 12) (fun x9 => ob (aldI p3.2 x9 (((64 : Int32) * v4) + v1)) (fun x11 => f120_J48 n (fun (v0 : Nat) (v1 : Int32) (v2 : Int32) (v3 : Int32) (v4 : Int32) w => f120_H5 n  K4 k v0 v1 v2 v3 v4 w) K4 v0 v1 v2 v4 v3 (x7 * x11) p3.2))))))))
set_option maxRecDepth 10000 in
theorem rf120_H5 {S : Sc} (n : Nat)  (K4 : Int32 → Wd → Option (Int32 × Wd))  (hK4 : ∀ (y3 : Int32) (w : Wd) (o : (Int32 × Wd)), K4 y3 w = some o → Rn S 120 56 [none, none, none, some (.int y3), none] [] w (some (.int o.1), o.2)) : ∀ (k : Nat) (v0 : Nat) (v1 : Int32) (v2 : Int32) (v3 : Int32) (v4 : Int32) (w : Wd) (o : (Int32 × Wd)), f120_H5 n  K4 k v0 v1 v2 v3 v4 w = some o → Rn S 120 5 [some (.ref v0), some (.int v1), some (.int v2), some (.int v3), some (.int v4)] [] w (some (.int o.1), o.2) := by
  intro k
  induction k with
  | zero =>
    intro v0 v1 v2 v3 v4 w o h
    exact nomatch h
  | succ k ih =>
    intro v0 v1 v2 v3 v4 w o h
    have hrec4 : ∀ (y0 : Nat) (y1 : Int32) (y2 : Int32) (y3 : Int32) (y4 : Int32) (w : Wd) (o : (Int32 × Wd)), (fun (v0 : Nat) (v1 : Int32) (v2 : Int32) (v3 : Int32) (v4 : Int32) w => f120_H5 n  K4 k v0 v1 v2 v3 v4 w) y0 y1 y2 y3 y4 w = some o → Rn S 120 5 [some (.ref y0), some (.int y1), some (.int y2), some (.int y3), some (.int y4)] [] w (some (.int o.1), o.2) := fun y0 y1 y2 y3 y4 w o h => ih y0 y1 y2 y3 y4 w o h
    unfold f120_H5 at h
    refine rn_iload (ft120 4 rfl) rfl ?_
    refine rn_aload_n (ft120 5 rfl) rfl ?_
    obtain ⟨x1, q2, h⟩ := ob_some h
    refine rn_getI (ft120 6 rfl) (by decide) (by decide) q2 ?_
    by_cases c14 : x1 ≤ v4
    · replace h := ifp c14 h
      refine rn_icmp_ge_t (ft120 7 rfl) c14 ?_
      exact rn_forget (ls := [none, none, none, some (.int v3), none]) (And.intro rfl trivial) (hK4 v3 w _ h)
    · replace h := ifn c14 h
      refine rn_icmp_ge_f (ft120 7 rfl) c14 ?_
      refine rn_iload_n (ft120 8 rfl) rfl ?_
      refine rn_iload_n (ft120 9 rfl) rfl ?_
      refine rn_iload (ft120 10 rfl) rfl ?_
      obtain ⟨p3, q4, h⟩ := ob_some h
      refine rn_callS (as := [.int v2, .int v4]) (r := [.int v3]) (v := (some (.int p3.1))) (w1 := p3.2) (ft120 11 rfl) (by decide +kernel) rfl (Nat.le_of_ble_eq_true rfl) (Nat.le_of_ble_eq_true rfl) (r45 v2 v4 w _ q4) ?_
      by_cases c13 : p3.1 = 0
      · replace h := ifp c13 h
        refine rn_if_eq_t (ft120 12 rfl) c13 ?_
        refine rn_iconst (v := (0 : Int32)) (ft120 27 rfl) (by decide) ?_
        exact rn_forget (ls := [some (.ref v0), some (.int v1), some (.int v2), none, some (.int v4)]) (And.intro rfl (And.intro rfl (And.intro rfl (And.intro rfl trivial)))) (rf120_J48 n (fun (v0 : Nat) (v1 : Int32) (v2 : Int32) (v3 : Int32) (v4 : Int32) w => f120_H5 n  K4 k v0 v1 v2 v3 v4 w) K4 v0 v1 v2 v4 v3 (0 : Int32) p3.2 _ hrec4 hK4 h)
      · replace h := ifn c13 h
        refine rn_if_eq_f (ft120 12 rfl) c13 ?_
        refine rn_aload_n (ft120 13 rfl) rfl ?_
        obtain ⟨x5, q6, h⟩ := ob_some h
        refine rn_getR (ft120 14 rfl) q6 ?_
        refine rn_iload (ft120 15 rfl) rfl ?_
        obtain ⟨x7, q8, h⟩ := ob_some h
        refine rn_iaload (ft120 16 rfl) q8 ?_
        refine rn_aload_n (ft120 17 rfl) rfl ?_
        obtain ⟨x9, q10, h⟩ := ob_some h
        refine rn_getR (ft120 18 rfl) q10 ?_
        refine rn_bipush (v := (64 : Int32)) (ft120 19 rfl) (by decide) ?_
        refine rn_iload (ft120 20 rfl) rfl ?_
        refine rn_imul (ft120 21 rfl) ?_
        refine rn_iload_n (ft120 22 rfl) rfl ?_
        refine rn_iadd (ft120 23 rfl) ?_
        obtain ⟨x11, q12, h⟩ := ob_some h
        refine rn_iaload (ft120 24 rfl) q12 ?_
        refine rn_imul (ft120 25 rfl) ?_
        refine rn_goto (ft120 26 rfl) ?_
        exact rn_forget (ls := [some (.ref v0), some (.int v1), some (.int v2), none, some (.int v4)]) (And.intro rfl (And.intro rfl (And.intro rfl (And.intro rfl trivial)))) (rf120_J48 n (fun (v0 : Nat) (v1 : Int32) (v2 : Int32) (v3 : Int32) (v4 : Int32) w => f120_H5 n  K4 k v0 v1 v2 v3 v4 w) K4 v0 v1 v2 v4 v3 (x7 * x11) p3.2 _ hrec4 hK4 h)
def f120 (n : Nat) (v0 : Nat) (v1 : Int32) (v2 : Int32) (w : Wd) : Option (Int32 × Wd) :=
  f120_H5 n  (fun (e3_15 : Int32) (w15 : Wd) => some (e3_15, w15)) n v0 v1 v2 (0 : Int32) (0 : Int32) w
set_option maxRecDepth 10000 in
theorem r120 {S : Sc} (n : Nat) (v0 : Nat) (v1 : Int32) (v2 : Int32) (w : Wd) (o : (Int32 × Wd)) (h : f120 n v0 v1 v2 w = some o) : Rn S 120 0 [some (.ref v0), some (.int v1), some (.int v2), none, none] [] w (some (.int o.1), o.2) := by
  unfold f120 at h
  refine rn_iconst (v := (0 : Int32)) (ft120 0 rfl) (by decide) ?_
  refine rn_istore_n (ls' := [some (.ref v0), some (.int v1), some (.int v2), some (.int (0 : Int32)), none]) (ft120 1 rfl) rfl ?_
  refine rn_iconst (v := (0 : Int32)) (ft120 2 rfl) (by decide) ?_
  refine rn_istore (ls' := [some (.ref v0), some (.int v1), some (.int v2), some (.int (0 : Int32)), some (.int (0 : Int32))]) (ft120 3 rfl) rfl ?_
  refine rn_forget (ls := [some (.ref v0), some (.int v1), some (.int v2), some (.int (0 : Int32)), some (.int (0 : Int32))]) (And.intro rfl (And.intro rfl (And.intro rfl (And.intro rfl (And.intro rfl trivial))))) (rf120_H5 n  _  (fun e3_15 w15 o h => ?_) n v0 v1 v2 (0 : Int32) (0 : Int32) w _ h)
  refine rn_iload_n (ft120 32 rfl) rfl ?_
  cases h
  exact rn_iretI pr120 (ft120 33 rfl)
/-- NineWheelModel.isSort(I)Z -/
theorem ft121 : ∀ (i : Nat) {q : Nat × XI}, cd121[i]? = some q → fetch 121 q.1 = some q.2 := ft_of (by decide +kernel)
theorem pr121 : pRt 121 = some .boolean := rfl
def f121 (v0 : Nat) (v1 : Int32) (w : Wd) : Option (Int32 × Wd) :=
  ob (getI w 11 v0 6) (fun x1 => ob (f40 (Int32.toInt64 v1) (0 : Int64) (Int32.toInt64 (x1 - (1 : Int32))) w) (fun p3 => (if p3.1 = 0 ∨ p3.1 = 1 then some (p3.1, p3.2) else none)))
set_option maxRecDepth 10000 in
theorem r121 {S : Sc} (v0 : Nat) (v1 : Int32) (w : Wd) (o : (Int32 × Wd)) (h : f121 v0 v1 w = some o) : Rn S 121 0 [some (.ref v0), some (.int v1)] [] w (some (.int o.1), o.2) := by
  unfold f121 at h
  refine rn_iload_n (ft121 0 rfl) rfl ?_
  refine rn_i2l (ft121 1 rfl) ?_
  refine rn_lconst (v := (0 : Int64)) (ft121 2 rfl) (by decide) ?_
  refine rn_aload_n (ft121 3 rfl) rfl ?_
  obtain ⟨x1, q2, h⟩ := ob_some h
  refine rn_getI (ft121 4 rfl) (by decide) (by decide) q2 ?_
  refine rn_iconst (v := (1 : Int32)) (ft121 5 rfl) (by decide) ?_
  refine rn_isub (ft121 6 rfl) ?_
  refine rn_i2l (ft121 7 rfl) ?_
  obtain ⟨p3, q4, h⟩ := ob_some h
  refine rn_callS (as := [.long (Int32.toInt64 v1), .long (0 : Int64), .long (Int32.toInt64 (x1 - (1 : Int32)))]) (r := []) (v := (some (.int p3.1))) (w1 := p3.2) (ft121 8 rfl) (by decide +kernel) rfl (Nat.le_of_ble_eq_true rfl) (Nat.le_of_ble_eq_true rfl) (r40 (Int32.toInt64 v1) (0 : Int64) (Int32.toInt64 (x1 - (1 : Int32))) w _ q4) ?_
  obtain ⟨g5, h⟩ := ifg h
  cases h
  exact rn_iretZ pr121 g5 (ft121 9 rfl)
/-- NineWheelModel.isHeading(I)Z -/
theorem ft122 : ∀ (i : Nat) {q : Nat × XI}, cd122[i]? = some q → fetch 122 q.1 = some q.2 := ft_of (by decide +kernel)
theorem pr122 : pRt 122 = some .boolean := rfl
def f122 (v0 : Int32) (w : Wd) : Option (Int32 × Wd) :=
  ob (f40 (Int32.toInt64 v0) (0 : Int64) (7 : Int64) w) (fun p1 => (if p1.1 = 0 ∨ p1.1 = 1 then some (p1.1, p1.2) else none))
set_option maxRecDepth 10000 in
theorem r122 {S : Sc} (v0 : Int32) (w : Wd) (o : (Int32 × Wd)) (h : f122 v0 w = some o) : Rn S 122 0 [some (.int v0)] [] w (some (.int o.1), o.2) := by
  unfold f122 at h
  refine rn_iload_n (ft122 0 rfl) rfl ?_
  refine rn_i2l (ft122 1 rfl) ?_
  refine rn_lconst (v := (0 : Int64)) (ft122 2 rfl) (by decide) ?_
  refine rn_ldc2 (v := (7 : Int64)) (ft122 3 rfl) (by decide) ?_
  obtain ⟨p1, q2, h⟩ := ob_some h
  refine rn_callS (as := [.long (Int32.toInt64 v0), .long (0 : Int64), .long (7 : Int64)]) (r := []) (v := (some (.int p1.1))) (w1 := p1.2) (ft122 4 rfl) (by decide +kernel) rfl (Nat.le_of_ble_eq_true rfl) (Nat.le_of_ble_eq_true rfl) (r40 (Int32.toInt64 v0) (0 : Int64) (7 : Int64) w _ q2) ?_
  obtain ⟨g3, h⟩ := ifg h
  cases h
  exact rn_iretZ pr122 g3 (ft122 5 rfl)
/-- NineWheelModel.goTo(II)I -/
theorem ft123 : ∀ (i : Nat) {q : Nat × XI}, cd123[i]? = some q → fetch 123 q.1 = some q.2 := ft_of (by decide +kernel)
theorem pr123 : pRt 123 = some .int := rfl
def f123_J61  (v0 : Int32) (v2 : Int32) (s0 : Int32) (w : Wd) : Option (Int32 × Wd) :=
  ob (f40 (Int32.toInt64 ((v0 / (8 : Int32)) + v2)) (0 : Int64) (7 : Int64) w) (fun p3 => (if p3.1 = 0 then some (v0, p3.2)
    else ob (f40 (Int32.toInt64 ((irm v0 (8 : Int32)) + s0)) (0 : Int64) (7 : Int64) p3.2) (fun p5 => (if p5.1 = 0 then some (v0, p5.2)
      else some ((((8 : Int32) * ((v0 / (8 : Int32)) + v2)) + ((irm v0 (8 : Int32)) + s0)), p5.2)))))
set_option maxRecDepth 10000 in
theorem rf123_J61 {S : Sc}  (v0 : Int32) (v2 : Int32) (s0 : Int32) (w : Wd) (o : (Int32 × Wd))  (h : f123_J61  v0 v2 s0 w = some o) : Rn S 123 61 [some (.int v0), none, some (.int v2), none, none, none] [.int s0] w (some (.int o.1), o.2) := by
  unfold f123_J61 at h
  refine rn_istore_n (ls' := [some (.int v0), none, some (.int v2), some (.int s0), none, none]) (ft123 32 rfl) rfl ?_
  refine rn_iload_n (ft123 33 rfl) rfl ?_
  refine rn_bipush (v := (8 : Int32)) (ft123 34 rfl) (by decide) ?_
  refine rn_idiv (ft123 35 rfl) (by decide) ?_
  refine rn_iload_n (ft123 36 rfl) rfl ?_
  refine rn_iadd (ft123 37 rfl) ?_
  refine rn_istore (ls' := [some (.int v0), none, some (.int v2), some (.int s0), some (.int ((v0 / (8 : Int32)) + v2)), none]) (ft123 38 rfl) rfl ?_
  refine rn_iload_n (ft123 39 rfl) rfl ?_
  refine rn_bipush (v := (8 : Int32)) (ft123 40 rfl) (by decide) ?_
  refine rn_irem (ft123 41 rfl) (by decide) ?_
  refine rn_iload_n (ft123 42 rfl) rfl ?_
  refine rn_iadd (ft123 43 rfl) ?_
  refine rn_istore (ls' := [some (.int v0), none, some (.int v2), some (.int s0), some (.int ((v0 / (8 : Int32)) + v2)), some (.int ((irm v0 (8 : Int32)) + s0))]) (ft123 44 rfl) rfl ?_
  refine rn_iload (ft123 45 rfl) rfl ?_
  refine rn_i2l (ft123 46 rfl) ?_
  refine rn_lconst (v := (0 : Int64)) (ft123 47 rfl) (by decide) ?_
  refine rn_ldc2 (v := (7 : Int64)) (ft123 48 rfl) (by decide) ?_
  obtain ⟨p3, q4, h⟩ := ob_some h
  refine rn_callS (as := [.long (Int32.toInt64 ((v0 / (8 : Int32)) + v2)), .long (0 : Int64), .long (7 : Int64)]) (r := []) (v := (some (.int p3.1))) (w1 := p3.2) (ft123 49 rfl) (by decide +kernel) rfl (Nat.le_of_ble_eq_true rfl) (Nat.le_of_ble_eq_true rfl) (r40 (Int32.toInt64 ((v0 / (8 : Int32)) + v2)) (0 : Int64) (7 : Int64) w _ q4) ?_
  by_cases c8 : p3.1 = 0
  · replace h := ifp c8 h
    refine rn_if_eq_t (ft123 50 rfl) c8 ?_
    refine rn_iload_n (ft123 63 rfl) rfl ?_
    cases h
    exact rn_iretI pr123 (ft123 64 rfl)
  · replace h := ifn c8 h
    refine rn_if_eq_f (ft123 50 rfl) c8 ?_
    refine rn_iload (ft123 51 rfl) rfl ?_
    refine rn_i2l (ft123 52 rfl) ?_
    refine rn_lconst (v := (0 : Int64)) (ft123 53 rfl) (by decide) ?_
    refine rn_ldc2 (v := (7 : Int64)) (ft123 54 rfl) (by decide) ?_
    obtain ⟨p5, q6, h⟩ := ob_some h
    refine rn_callS (as := [.long (Int32.toInt64 ((irm v0 (8 : Int32)) + s0)), .long (0 : Int64), .long (7 : Int64)]) (r := []) (v := (some (.int p5.1))) (w1 := p5.2) (ft123 55 rfl) (by decide +kernel) rfl (Nat.le_of_ble_eq_true rfl) (Nat.le_of_ble_eq_true rfl) (r40 (Int32.toInt64 ((irm v0 (8 : Int32)) + s0)) (0 : Int64) (7 : Int64) p3.2 _ q6) ?_
    by_cases c7 : p5.1 = 0
    · replace h := ifp c7 h
      refine rn_if_eq_t (ft123 56 rfl) c7 ?_
      refine rn_iload_n (ft123 63 rfl) rfl ?_
      cases h
      exact rn_iretI pr123 (ft123 64 rfl)
    · replace h := ifn c7 h
      refine rn_if_eq_f (ft123 56 rfl) c7 ?_
      refine rn_bipush (v := (8 : Int32)) (ft123 57 rfl) (by decide) ?_
      refine rn_iload (ft123 58 rfl) rfl ?_
      refine rn_imul (ft123 59 rfl) ?_
      refine rn_iload (ft123 60 rfl) rfl ?_
      refine rn_iadd (ft123 61 rfl) ?_
      refine rn_goto (ft123 62 rfl) ?_
      cases h
      exact rn_iretI pr123 (ft123 64 rfl)
def f123_J34  (v0 : Int32) (v1 : Int32) (s0 : Int32) (w : Wd) : Option (Int32 × Wd) :=
  ob (f40 (Int32.toInt64 v1) (1 : Int64) (3 : Int64) w) (fun p1 => (if p1.1 = 0 then (if v1 ≤ (4 : Int32) then f123_J61  v0 s0 (0 : Int32) p1.2
      else f123_J61  v0 s0 (-1 : Int32) p1.2)
    else f123_J61  v0 s0 (1 : Int32) p1.2))
set_option maxRecDepth 10000 in
theorem rf123_J34 {S : Sc}  (v0 : Int32) (v1 : Int32) (s0 : Int32) (w : Wd) (o : (Int32 × Wd))  (h : f123_J34  v0 v1 s0 w = some o) : Rn S 123 34 [some (.int v0), some (.int v1), none, none, none, none] [.int s0] w (some (.int o.1), o.2) := by
  unfold f123_J34 at h
  refine rn_istore_n (ls' := [some (.int v0), some (.int v1), some (.int s0), none, none, none]) (ft123 17 rfl) rfl ?_
  refine rn_iload_n (ft123 18 rfl) rfl ?_
  refine rn_i2l (ft123 19 rfl) ?_
  refine rn_lconst (v := (1 : Int64)) (ft123 20 rfl) (by decide) ?_
  refine rn_ldc2 (v := (3 : Int64)) (ft123 21 rfl) (by decide) ?_
  obtain ⟨p1, q2, h⟩ := ob_some h
  refine rn_callS (as := [.long (Int32.toInt64 v1), .long (1 : Int64), .long (3 : Int64)]) (r := []) (v := (some (.int p1.1))) (w1 := p1.2) (ft123 22 rfl) (by decide +kernel) rfl (Nat.le_of_ble_eq_true rfl) (Nat.le_of_ble_eq_true rfl) (r40 (Int32.toInt64 v1) (1 : Int64) (3 : Int64) w _ q2) ?_
  by_cases c10 : p1.1 = 0
  · replace h := ifp c10 h
    refine rn_if_eq_t (ft123 23 rfl) c10 ?_
    refine rn_iload_n (ft123 26 rfl) rfl ?_
    refine rn_iconst (v := (4 : Int32)) (ft123 27 rfl) (by decide) ?_
    by_cases c9 : v1 ≤ (4 : Int32)
    · replace h := ifp c9 h
      refine rn_icmp_le_t (ft123 28 rfl) c9 ?_
      refine rn_iconst (v := (0 : Int32)) (ft123 31 rfl) (by decide) ?_
      exact rn_forget (ls := [some (.int v0), none, some (.int s0), none, none, none]) (And.intro rfl (And.intro rfl trivial)) (rf123_J61  v0 s0 (0 : Int32) p1.2 _  h)
    · replace h := ifn c9 h
      refine rn_icmp_le_f (ft123 28 rfl) c9 ?_
      refine rn_iconst (v := (-1 : Int32)) (ft123 29 rfl) (by decide) ?_
      refine rn_goto (ft123 30 rfl) ?_
      exact rn_forget (ls := [some (.int v0), none, some (.int s0), none, none, none]) (And.intro rfl (And.intro rfl trivial)) (rf123_J61  v0 s0 (-1 : Int32) p1.2 _  h)
  · replace h := ifn c10 h
    refine rn_if_eq_f (ft123 23 rfl) c10 ?_
    refine rn_iconst (v := (1 : Int32)) (ft123 24 rfl) (by decide) ?_
    refine rn_goto (ft123 25 rfl) ?_
    exact rn_forget (ls := [some (.int v0), none, some (.int s0), none, none, none]) (And.intro rfl (And.intro rfl trivial)) (rf123_J61  v0 s0 (1 : Int32) p1.2 _  h)
def f123 (v0 : Int32) (v1 : Int32) (w : Wd) : Option (Int32 × Wd) :=
  (if v1 = (7 : Int32) then f123_J34  v0 v1 (-1 : Int32) w
    else (if (2 : Int32) ≤ v1 then ob (f40 (Int32.toInt64 v1) (3 : Int64) (5 : Int64) w) (fun p11 => (if p11.1 = 0 then f123_J34  v0 v1 (0 : Int32) p11.2
        else f123_J34  v0 v1 (1 : Int32) p11.2))
      else f123_J34  v0 v1 (-1 : Int32) w))
set_option maxRecDepth 10000 in
theorem r123 {S : Sc} (v0 : Int32) (v1 : Int32) (w : Wd) (o : (Int32 × Wd)) (h : f123 v0 v1 w = some o) : Rn S 123 0 [some (.int v0), some (.int v1), none, none, none, none] [] w (some (.int o.1), o.2) := by
  unfold f123 at h
  refine rn_iload_n (ft123 0 rfl) rfl ?_
  refine rn_bipush (v := (7 : Int32)) (ft123 1 rfl) (by decide) ?_
  by_cases c15 : v1 = (7 : Int32)
  · replace h := ifp c15 h
    refine rn_icmp_eq_t (ft123 2 rfl) c15 ?_
    refine rn_iconst (v := (-1 : Int32)) (ft123 6 rfl) (by decide) ?_
    refine rn_goto (ft123 7 rfl) ?_
    exact rn_forget (ls := [some (.int v0), some (.int v1), none, none, none, none]) (And.intro rfl (And.intro rfl trivial)) (rf123_J34  v0 v1 (-1 : Int32) w _  h)
  · replace h := ifn c15 h
    refine rn_icmp_eq_f (ft123 2 rfl) c15 ?_
    refine rn_iload_n (ft123 3 rfl) rfl ?_
    refine rn_iconst (v := (2 : Int32)) (ft123 4 rfl) (by decide) ?_
    by_cases c14 : (2 : Int32) ≤ v1
    · replace h := ifp c14 h
      refine rn_icmp_ge_t (ft123 5 rfl) c14 ?_
      refine rn_iload_n (ft123 8 rfl) rfl ?_
      refine rn_i2l (ft123 9 rfl) ?_
      refine rn_ldc2 (v := (3 : Int64)) (ft123 10 rfl) (by decide) ?_
      refine rn_ldc2 (v := (5 : Int64)) (ft123 11 rfl) (by decide) ?_
      obtain ⟨p11, q12, h⟩ := ob_some h
      refine rn_callS (as := [.long (Int32.toInt64 v1), .long (3 : Int64), .long (5 : Int64)]) (r := []) (v := (some (.int p11.1))) (w1 := p11.2) (ft123 12 rfl) (by decide +kernel) rfl (Nat.le_of_ble_eq_true rfl) (Nat.le_of_ble_eq_true rfl) (r40 (Int32.toInt64 v1) (3 : Int64) (5 : Int64) w _ q12) ?_
      by_cases c13 : p11.1 = 0
      · replace h := ifp c13 h
        refine rn_if_eq_t (ft123 13 rfl) c13 ?_
        refine rn_iconst (v := (0 : Int32)) (ft123 16 rfl) (by decide) ?_
        exact rn_forget (ls := [some (.int v0), some (.int v1), none, none, none, none]) (And.intro rfl (And.intro rfl trivial)) (rf123_J34  v0 v1 (0 : Int32) p11.2 _  h)
      · replace h := ifn c13 h
        refine rn_if_eq_f (ft123 13 rfl) c13 ?_
        refine rn_iconst (v := (1 : Int32)) (ft123 14 rfl) (by decide) ?_
        refine rn_goto (ft123 15 rfl) ?_
        exact rn_forget (ls := [some (.int v0), some (.int v1), none, none, none, none]) (And.intro rfl (And.intro rfl trivial)) (rf123_J34  v0 v1 (1 : Int32) p11.2 _  h)
    · replace h := ifn c14 h
      refine rn_icmp_ge_f (ft123 5 rfl) c14 ?_
      refine rn_iconst (v := (-1 : Int32)) (ft123 6 rfl) (by decide) ?_
      refine rn_goto (ft123 7 rfl) ?_
      exact rn_forget (ls := [some (.int v0), some (.int v1), none, none, none, none]) (And.intro rfl (And.intro rfl trivial)) (rf123_J34  v0 v1 (-1 : Int32) w _  h)
/-- NineWheelModel.pressBlind(I)V -/
theorem ft124 : ∀ (i : Nat) {q : Nat × XI}, cd124[i]? = some q → fetch 124 q.1 = some q.2 := ft_of (by decide +kernel)
theorem pr124 : pRt 124 = none := rfl
def f124_J85 (n : Nat) (rec8 : Nat → Int32 → Int32 → Int32 → Int32 → Int32 → Wd → Option Wd) (K8 : Nat → Int32 → Int32 → Int32 → Int32 → Wd → Option Wd) (v0 : Nat) (v1 : Int32) (v2 : Int32) (v4 : Int32) (v5 : Int32) (s0 : Int32) (s1 : Int32) (w : Wd) : Option Wd :=
  ob (getR w 11 v0 36) (fun x15 => ob (aldI w x15 v5) (fun x17 => (if x17 ≤ 0 then rec8 v0 v1 v2 (s0 + s1) (v4 + (0 : Int32)) (v5 + (1 : Int32)) w
    else ob (getR w 11 v0 7) (fun x19 => ob (aldI w x19 v5) (fun x21 => rec8 v0 v1 v2 (s0 + s1) (v4 + x21) (v5 + (1 : Int32)) w)))))
set_option maxRecDepth 10000 in
theorem rf124_J85 {S : Sc} (n : Nat) (rec8 : Nat → Int32 → Int32 → Int32 → Int32 → Int32 → Wd → Option Wd) (K8 : Nat → Int32 → Int32 → Int32 → Int32 → Wd → Option Wd) (v0 : Nat) (v1 : Int32) (v2 : Int32) (v4 : Int32) (v5 : Int32) (s0 : Int32) (s1 : Int32) (w : Wd) (o : Wd) (hrec8 : ∀ (y0 : Nat) (y1 : Int32) (y2 : Int32) (y3 : Int32) (y4 : Int32) (y5 : Int32) (w : Wd) (o : Wd), rec8 y0 y1 y2 y3 y4 y5 w = some o → Rn S 124 10 [some (.ref y0), some (.int y1), some (.int y2), some (.int y3), some (.int y4), some (.int y5)] [] w (none, o)) (hK8 : ∀ (y0 : Nat) (y1 : Int32) (y2 : Int32) (y3 : Int32) (y4 : Int32) (w : Wd) (o : Wd), K8 y0 y1 y2 y3 y4 w = some o → Rn S 124 119 [some (.ref y0), some (.int y1), some (.int y2), some (.int y3), some (.int y4), none] [] w (none, o)) (h : f124_J85 n rec8 K8 v0 v1 v2 v4 v5 s0 s1 w = some o) : Rn S 124 85 [some (.ref v0), some (.int v1), some (.int v2), none, some (.int v4), some (.int v5)] [.int s1, .int s0] w (none, o) := by
  unfold f124_J85 at h
  refine rn_iadd (ft124 48 rfl) ?_
  refine rn_istore_n (ls' := [some (.ref v0), some (.int v1), some (.int v2), some (.int (s0 + s1)), some (.int v4), some (.int v5)]) (ft124 49 rfl) rfl ?_
  refine rn_iload (ft124 50 rfl) rfl ?_
  refine rn_aload_n (ft124 51 rfl) rfl ?_
  obtain ⟨x15, q16, h⟩ := ob_some h
  refine rn_getR (ft124 52 rfl) q16 ?_
  refine rn_iload (ft124 53 rfl) rfl ?_
  obtain ⟨x17, q18, h⟩ := ob_some h
  refine rn_iaload (ft124 54 rfl) q18 ?_
  by_cases c23 : x17 ≤ 0
  · replace h := ifp c23 h
    refine rn_if_le_t (ft124 55 rfl) c23 ?_
    refine rn_iconst (v := (0 : Int32)) (ft124 61 rfl) (by decide) ?_
    refine rn_iadd (ft124 62 rfl) ?_
    refine rn_istore (ls' := [some (.ref v0), some (.int v1), some (.int v2), some (.int (s0 + s1)), some (.int (v4 + (0 : Int32))), some (.int v5)]) (ft124 63 rfl) rfl ?_
    refine rn_iinc (u := 1) (ls' := [some (.ref v0), some (.int v1), some (.int v2), some (.int (s0 + s1)), some (.int (v4 + (0 : Int32))), some (.int (v5 + (1 : Int32)))]) (ft124 64 rfl) rfl (by decide) rfl ?_
    refine rn_goto (ft124 65 rfl) ?_
    exact rn_forget (ls := [some (.ref v0), some (.int v1), some (.int v2), some (.int (s0 + s1)), some (.int (v4 + (0 : Int32))), some (.int (v5 + (1 : Int32)))]) (And.intro rfl (And.intro rfl (And.intro rfl (And.intro rfl (And.intro rfl (And.intro rfl trivial)))))) (hrec8 v0 v1 v2 (s0 + s1) (v4 + (0 : Int32)) (v5 + (1 : Int32)) w _ h)
  · replace h := ifn c23 h
    refine rn_if_le_f (ft124 55 rfl) c23 ?_
    refine rn_aload_n (ft124 56 rfl) rfl ?_
    obtain ⟨x19, q20, h⟩ := ob_some h
    refine rn_getR (ft124 57 rfl) q20 ?_
    refine rn_iload (ft124 58 rfl) rfl ?_
    obtain ⟨x21, q22, h⟩ := ob_some h
    refine rn_iaload (ft124 59 rfl) q22 ?_
    refine rn_goto (ft124 60 rfl) ?_
    refine rn_iadd (ft124 62 rfl) ?_
    refine rn_istore (ls' := [some (.ref v0), some (.int v1), some (.int v2), some (.int (s0 + s1)), some (.int (v4 + x21)), some (.int v5)]) (ft124 63 rfl) rfl ?_
    refine rn_iinc (u := 1) (ls' := [some (.ref v0), some (.int v1), some (.int v2), some (.int (s0 + s1)), some (.int (v4 + x21)), some (.int (v5 + (1 : Int32)))]) (ft124 64 rfl) rfl (by decide) rfl ?_
    refine rn_goto (ft124 65 rfl) ?_
    exact rn_forget (ls := [some (.ref v0), some (.int v1), some (.int v2), some (.int (s0 + s1)), some (.int (v4 + x21)), some (.int (v5 + (1 : Int32)))]) (And.intro rfl (And.intro rfl (And.intro rfl (And.intro rfl (And.intro rfl (And.intro rfl trivial)))))) (hrec8 v0 v1 v2 (s0 + s1) (v4 + x21) (v5 + (1 : Int32)) w _ h)
def f124_J61 (n : Nat) (rec8 : Nat → Int32 → Int32 → Int32 → Int32 → Int32 → Wd → Option Wd) (K8 : Nat → Int32 → Int32 → Int32 → Int32 → Wd → Option Wd) (v0 : Nat) (v1 : Int32) (v3 : Int32) (v4 : Int32) (v5 : Int32) (s0 : Int32) (s1 : Int32) (w : Wd) : Option Wd :=
  ob (getR w 11 v0 36) (fun x11 => ob (aldI w x11 v5) (fun x13 => (if ¬ x13 = 0 then f124_J85 n rec8 K8 v0 v1 (s0 + s1) v4 v5 v3 (0 : Int32) w
    else ob (getR w 11 v0 7) (fun x24 => ob (aldI w x24 v5) (fun x26 => f124_J85 n rec8 K8 v0 v1 (s0 + s1) v4 v5 v3 x26 w)))))
set_option maxRecDepth 10000 in
theorem rf124_J61 {S : Sc} (n : Nat) (rec8 : Nat → Int32 → Int32 → Int32 → Int32 → Int32 → Wd → Option Wd) (K8 : Nat → Int32 → Int32 → Int32 → Int32 → Wd → Option Wd) (v0 : Nat) (v1 : Int32) (v3 : Int32) (v4 : Int32) (v5 : Int32) (s0 : Int32) (s1 : Int32) (w : Wd) (o : Wd) (hrec8 : ∀ (y0 : Nat) (y1 : Int32) (y2 : Int32) (y3 : Int32) (y4 : Int32) (y5 : Int32) (w : Wd) (o : Wd), rec8 y0 y1 y2 y3 y4 y5 w = some o → Rn S 124 10 [some (.ref y0), some (.int y1), some (.int y2), some (.int y3), some (.int y4), some (.int y5)] [] w (none, o)) (hK8 : ∀ (y0 : Nat) (y1 : Int32) (y2 : Int32) (y3 : Int32) (y4 : Int32) (w : Wd) (o : Wd), K8 y0 y1 y2 y3 y4 w = some o → Rn S 124 119 [some (.ref y0), some (.int y1), some (.int y2), some (.int y3), some (.int y4), none] [] w (none, o)) (h : f124_J61 n rec8 K8 v0 v1 v3 v4 v5 s0 s1 w = some o) : Rn S 124 61 [some (.ref v0), some (.int v1), none, some (.int v3), some (.int v4), some (.int v5)] [.int s1, .int s0] w (none, o) := by
  unfold f124_J61 at h
  refine rn_iadd (ft124 34 rfl) ?_
  refine rn_istore_n (ls' := [some (.ref v0), some (.int v1), some (.int (s0 + s1)), some (.int v3), some (.int v4), some (.int v5)]) (ft124 35 rfl) rfl ?_
  refine rn_iload_n (ft124 36 rfl) rfl ?_
  refine rn_aload_n (ft124 37 rfl) rfl ?_
  obtain ⟨x11, q12, h⟩ := ob_some h
  refine rn_getR (ft124 38 rfl) q12 ?_
  refine rn_iload (ft124 39 rfl) rfl ?_
  obtain ⟨x13, q14, h⟩ := ob_some h
  refine rn_iaload (ft124 40 rfl) q14 ?_
  by_cases c28 : ¬ x13 = 0
  · replace h := ifp c28 h
    refine rn_if_ne_t (ft124 41 rfl) c28 ?_
    refine rn_iconst (v := (0 : Int32)) (ft124 47 rfl) (by decide) ?_
    exact rn_forget (ls := [some (.ref v0), some (.int v1), some (.int (s0 + s1)), none, some (.int v4), some (.int v5)]) (And.intro rfl (And.intro rfl (And.intro rfl (And.intro rfl (And.intro rfl trivial))))) (rf124_J85 n rec8 K8 v0 v1 (s0 + s1) v4 v5 v3 (0 : Int32) w _ hrec8 hK8 h)
  · replace h := ifn c28 h
    refine rn_if_ne_f (ft124 41 rfl) c28 ?_
    refine rn_aload_n (ft124 42 rfl) rfl ?_
    obtain ⟨x24, q25, h⟩ := ob_some h
    refine rn_getR (ft124 43 rfl) q25 ?_
    refine rn_iload (ft124 44 rfl) rfl ?_
    obtain ⟨x26, q27, h⟩ := ob_some h
    refine rn_iaload (ft124 45 rfl) q27 ?_
    refine rn_goto (ft124 46 rfl) ?_
    exact rn_forget (ls := [some (.ref v0), some (.int v1), some (.int (s0 + s1)), none, some (.int v4), some (.int v5)]) (And.intro rfl (And.intro rfl (And.intro rfl (And.intro rfl (And.intro rfl trivial))))) (rf124_J85 n rec8 K8 v0 v1 (s0 + s1) v4 v5 v3 x26 w _ hrec8 hK8 h)
def f124_J39 (n : Nat) (rec8 : Nat → Int32 → Int32 → Int32 → Int32 → Int32 → Wd → Option Wd) (K8 : Nat → Int32 → Int32 → Int32 → Int32 → Wd → Option Wd) (v0 : Nat) (v1 : Int32) (v2 : Int32) (v3 : Int32) (v4 : Int32) (v5 : Int32) (w : Wd) : Option Wd :=
  ob (getR w 11 v0 36) (fun x7 => ob (aldI w x7 v5) (fun x9 => (if 0 ≤ x9 then f124_J61 n rec8 K8 v0 v1 v3 v4 v5 v2 (0 : Int32) w
    else ob (getR w 11 v0 7) (fun x29 => ob (aldI w x29 v5) (fun x31 => f124_J61 n rec8 K8 v0 v1 v3 v4 v5 v2 x31 w)))))
set_option maxRecDepth 10000 in
theorem rf124_J39 {S : Sc} (n : Nat) (rec8 : Nat → Int32 → Int32 → Int32 → Int32 → Int32 → Wd → Option Wd) (K8 : Nat → Int32 → Int32 → Int32 → Int32 → Wd → Option Wd) (v0 : Nat) (v1 : Int32) (v2 : Int32) (v3 : Int32) (v4 : Int32) (v5 : Int32) (w : Wd) (o : Wd) (hrec8 : ∀ (y0 : Nat) (y1 : Int32) (y2 : Int32) (y3 : Int32) (y4 : Int32) (y5 : Int32) (w : Wd) (o : Wd), rec8 y0 y1 y2 y3 y4 y5 w = some o → Rn S 124 10 [some (.ref y0), some (.int y1), some (.int y2), some (.int y3), some (.int y4), some (.int y5)] [] w (none, o)) (hK8 : ∀ (y0 : Nat) (y1 : Int32) (y2 : Int32) (y3 : Int32) (y4 : Int32) (w : Wd) (o : Wd), K8 y0 y1 y2 y3 y4 w = some o → Rn S 124 119 [some (.ref y0), some (.int y1), some (.int y2), some (.int y3), some (.int y4), none] [] w (none, o)) (h : f124_J39 n rec8 K8 v0 v1 v2 v3 v4 v5 w = some o) : Rn S 124 39 [some (.ref v0), some (.int v1), some (.int v2), some (.int v3), some (.int v4), some (.int v5)] [] w (none, o) := by
  unfold f124_J39 at h
  refine rn_iload_n (ft124 22 rfl) rfl ?_
  refine rn_aload_n (ft124 23 rfl) rfl ?_
  obtain ⟨x7, q8, h⟩ := ob_some h
  refine rn_getR (ft124 24 rfl) q8 ?_
  refine rn_iload (ft124 25 rfl) rfl ?_
  obtain ⟨x9, q10, h⟩ := ob_some h
  refine rn_iaload (ft124 26 rfl) q10 ?_
  by_cases c33 : 0 ≤ x9
  · replace h := ifp c33 h
    refine rn_if_ge_t (ft124 27 rfl) c33 ?_
    refine rn_iconst (v := (0 : Int32)) (ft124 33 rfl) (by decide) ?_
    exact rn_forget (ls := [some (.ref v0), some (.int v1), none, some (.int v3), some (.int v4), some (.int v5)]) (And.intro rfl (And.intro rfl (And.intro rfl (And.intro rfl (And.intro rfl trivial))))) (rf124_J61 n rec8 K8 v0 v1 v3 v4 v5 v2 (0 : Int32) w _ hrec8 hK8 h)
  · replace h := ifn c33 h
    refine rn_if_ge_f (ft124 27 rfl) c33 ?_
    refine rn_aload_n (ft124 28 rfl) rfl ?_
    obtain ⟨x29, q30, h⟩ := ob_some h
    refine rn_getR (ft124 29 rfl) q30 ?_
    refine rn_iload (ft124 30 rfl) rfl ?_
    obtain ⟨x31, q32, h⟩ := ob_some h
    refine rn_iaload (ft124 31 rfl) q32 ?_
    refine rn_goto (ft124 32 rfl) ?_
    exact rn_forget (ls := [some (.ref v0), some (.int v1), none, some (.int v3), some (.int v4), some (.int v5)]) (And.intro rfl (And.intro rfl (And.intro rfl (And.intro rfl (And.intro rfl trivial))))) (rf124_J61 n rec8 K8 v0 v1 v3 v4 v5 v2 x31 w _ hrec8 hK8 h)
def f124_H10 (n : Nat)  (K8 : Nat → Int32 → Int32 → Int32 → Int32 → Wd → Option Wd) : Nat → Nat → Int32 → Int32 → Int32 → Int32 → Int32 → Wd → Option Wd
  | 0, _, _, _, _, _, _, _ => none
  | k + 1, v0, v1, v2, v3, v4, v5, w =>
    ob (getI w 11 v0 6) (fun x1 => (if x1 ≤ v5 then K8 v0 v1 v2 v3 v4 w
      else ob (getR w 11 v0 10) (fun x3 => ob (aldI w x3 v5) (fun x5 => (if ¬ x5 = (3 : Int32) then f124_J39 n (fun (v0 : Nat) (v1 : Int32) (v2 : Int32) (v3 : Int32) (v4 : Int32) (v5 : Int32) w => f124_H10 n  K8 k v0 v1 v2 v3 v4 v5 w) K8 v0 v1 v2 v3 v4 v5 w
        else ob (f45 v1 v5 w) (fun p34 => (if p34.1 = 0 then (fun (v0 : Nat) (v1 : Int32) (v2 : Int32) (v3 : Int32) (v4 : Int32) (v5 : Int32) w => f124_H10 n  K8 k v0 v1 v2 v3 v4 v5 w) v0 v1 v2 v3 v4 (v5 + (1 : Int32)) p34.2
          else f124_J39 n (fun (v0 : Nat) (v1 : Int32) (v2 : Int32) (v3 : Int32) (v4 : Int32) (v5 : Int32) w => f124_H10 n  K8 k v0 v1 v2 v3 v4 v5 w) K8 v0 v1 v2 v3 v4 v5 p34.2)))))))
set_option maxRecDepth 10000 in
theorem rf124_H10 {S : Sc} (n : Nat)  (K8 : Nat → Int32 → Int32 → Int32 → Int32 → Wd → Option Wd)  (hK8 : ∀ (y0 : Nat) (y1 : Int32) (y2 : Int32) (y3 : Int32) (y4 : Int32) (w : Wd) (o : Wd), K8 y0 y1 y2 y3 y4 w = some o → Rn S 124 119 [some (.ref y0), some (.int y1), some (.int y2), some (.int y3), some (.int y4), none] [] w (none, o)) : ∀ (k : Nat) (v0 : Nat) (v1 : Int32) (v2 : Int32) (v3 : Int32) (v4 : Int32) (v5 : Int32) (w : Wd) (o : Wd), f124_H10 n  K8 k v0 v1 v2 v3 v4 v5 w = some o → Rn S 124 10 [some (.ref v0), some (.int v1), some (.int v2), some (.int v3), some (.int v4), some (.int v5)] [] w (none, o) := by
  intro k
  induction k with
  | zero =>
    intro v0 v1 v2 v3 v4 v5 w o h
    exact nomatch h
  | succ k ih =>
    intro v0 v1 v2 v3 v4 v5 w o h
    have hrec8 : ∀ (y0 : Nat) (y1 : Int32) (y2 : Int32) (y3 : Int32) (y4 : Int32) (y5 : Int32) (w : Wd) (o : Wd), (fun (v0 : Nat) (v1 : Int32) (v2 : Int32) (v3 : Int32) (v4 : Int32) (v5 : Int32) w => f124_H10 n  K8 k v0 v1 v2 v3 v4 v5 w) y0 y1 y2 y3 y4 y5 w = some o → Rn S 124 10 [some (.ref y0), some (.int y1), some (.int y2), some (.int y3), some (.int y4), some (.int y5)] [] w (none, o) := fun y0 y1 y2 y3 y4 y5 w o h => ih y0 y1 y2 y3 y4 y5 w o h
    unfold f124_H10 at h
    refine rn_iload (ft124 8 rfl) rfl ?_
    refine rn_aload_n (ft124 9 rfl) rfl ?_
    obtain ⟨x1, q2, h⟩ := ob_some h
    refine rn_getI (ft124 10 rfl) (by decide) (by decide) q2 ?_
    by_cases c38 : x1 ≤ v5
    · replace h := ifp c38 h
      refine rn_icmp_ge_t (ft124 11 rfl) c38 ?_
      exact rn_forget (ls := [some (.ref v0), some (.int v1), some (.int v2), some (.int v3), some (.int v4), none]) (And.intro rfl (And.intro rfl (And.intro rfl (And.intro rfl (And.intro rfl trivial))))) (hK8 v0 v1 v2 v3 v4 w _ h)
    · replace h := ifn c38 h
      refine rn_icmp_ge_f (ft124 11 rfl) c38 ?_
      refine rn_aload_n (ft124 12 rfl) rfl ?_
      obtain ⟨x3, q4, h⟩ := ob_some h
      refine rn_getR (ft124 13 rfl) q4 ?_
      refine rn_iload (ft124 14 rfl) rfl ?_
      obtain ⟨x5, q6, h⟩ := ob_some h
      refine rn_iaload (ft124 15 rfl) q6 ?_
      refine rn_iconst (v := (3 : Int32)) (ft124 16 rfl) (by decide) ?_
      by_cases c37 : ¬ x5 = (3 : Int32)
      · replace h := ifp c37 h
        refine rn_icmp_ne_t (ft124 17 rfl) c37 ?_
        exact rn_forget (ls := [some (.ref v0), some (.int v1), some (.int v2), some (.int v3), some (.int v4), some (.int v5)]) (And.intro rfl (And.intro rfl (And.intro rfl (And.intro rfl (And.intro rfl (And.intro rfl trivial)))))) (rf124_J39 n (fun (v0 : Nat) (v1 : Int32) (v2 : Int32) (v3 : Int32) (v4 : Int32) (v5 : Int32) w => f124_H10 n  K8 k v0 v1 v2 v3 v4 v5 w) K8 v0 v1 v2 v3 v4 v5 w _ hrec8 hK8 h)
      · replace h := ifn c37 h
        refine rn_icmp_ne_f (ft124 17 rfl) c37 ?_
        refine rn_iload_n (ft124 18 rfl) rfl ?_
        refine rn_iload (ft124 19 rfl) rfl ?_
        obtain ⟨p34, q35, h⟩ := ob_some h
        refine rn_callS (as := [.int v1, .int v5]) (r := []) (v := (some (.int p34.1))) (w1 := p34.2) (ft124 20 rfl) (by decide +kernel) rfl (Nat.le_of_ble_eq_true rfl) (Nat.le_of_ble_eq_true rfl) (r45 v1 v5 w _ q35) ?_
        by_cases c36 : p34.1 = 0
        · replace h := ifp c36 h
          refine rn_if_eq_t (ft124 21 rfl) c36 ?_
          refine rn_iinc (u := 1) (ls' := [some (.ref v0), some (.int v1), some (.int v2), some (.int v3), some (.int v4), some (.int (v5 + (1 : Int32)))]) (ft124 64 rfl) rfl (by decide) rfl ?_
          refine rn_goto (ft124 65 rfl) ?_
          exact rn_forget (ls := [some (.ref v0), some (.int v1), some (.int v2), some (.int v3), some (.int v4), some (.int (v5 + (1 : Int32)))]) (And.intro rfl (And.intro rfl (And.intro rfl (And.intro rfl (And.intro rfl (And.intro rfl trivial)))))) (hrec8 v0 v1 v2 v3 v4 (v5 + (1 : Int32)) p34.2 _ h)
        · replace h := ifn c36 h
          refine rn_if_eq_f (ft124 21 rfl) c36 ?_
          exact rn_forget (ls := [some (.ref v0), some (.int v1), some (.int v2), some (.int v3), some (.int v4), some (.int v5)]) (And.intro rfl (And.intro rfl (And.intro rfl (And.intro rfl (And.intro rfl (And.intro rfl trivial)))))) (rf124_J39 n (fun (v0 : Nat) (v1 : Int32) (v2 : Int32) (v3 : Int32) (v4 : Int32) (v5 : Int32) w => f124_H10 n  K8 k v0 v1 v2 v3 v4 v5 w) K8 v0 v1 v2 v3 v4 v5 p34.2 _ hrec8 hK8 h)
def f124_H122 (n : Nat)  (K68 : Wd → Option Wd) : Nat → Nat → Int32 → Int32 → Int32 → Int32 → Int32 → Wd → Option Wd
  | 0, _, _, _, _, _, _, _ => none
  | k + 1, v0, v1, v2, v3, v4, v5, w =>
    ob (getI w 11 v0 6) (fun x40 => (if x40 ≤ v5 then K68 w
      else ob (getR w 11 v0 10) (fun x42 => ob (aldI w x42 v5) (fun x44 => (if ¬ x44 = (3 : Int32) then (fun (v0 : Nat) (v1 : Int32) (v2 : Int32) (v3 : Int32) (v4 : Int32) (v5 : Int32) w => f124_H122 n  K68 k v0 v1 v2 v3 v4 v5 w) v0 v1 v2 v3 v4 (v5 + (1 : Int32)) w
        else ob (f45 v1 v5 w) (fun p46 => (if ¬ p46.1 = 0 then (fun (v0 : Nat) (v1 : Int32) (v2 : Int32) (v3 : Int32) (v4 : Int32) (v5 : Int32) w => f124_H122 n  K68 k v0 v1 v2 v3 v4 v5 w) v0 v1 v2 v3 v4 (v5 + (1 : Int32)) p46.2
          else ob (getR p46.2 11 v0 36) (fun x48 => ob (f53 v2 v3 v4 p46.2) (fun p50 => ob (astI p50.2 x48 v5 p50.1) (fun w52 => (fun (v0 : Nat) (v1 : Int32) (v2 : Int32) (v3 : Int32) (v4 : Int32) (v5 : Int32) w => f124_H122 n  K68 k v0 v1 v2 v3 v4 v5 w) v0 v1 v2 v3 v4 (v5 + (1 : Int32)) w52))))))))))
set_option maxRecDepth 10000 in
theorem rf124_H122 {S : Sc} (n : Nat)  (K68 : Wd → Option Wd)  (hK68 : ∀  (w : Wd) (o : Wd), K68 w = some o → Rn S 124 171 [none, none, none, none, none, none] [] w (none, o)) : ∀ (k : Nat) (v0 : Nat) (v1 : Int32) (v2 : Int32) (v3 : Int32) (v4 : Int32) (v5 : Int32) (w : Wd) (o : Wd), f124_H122 n  K68 k v0 v1 v2 v3 v4 v5 w = some o → Rn S 124 122 [some (.ref v0), some (.int v1), some (.int v2), some (.int v3), some (.int v4), some (.int v5)] [] w (none, o) := by
  intro k
  induction k with
  | zero =>
    intro v0 v1 v2 v3 v4 v5 w o h
    exact nomatch h
  | succ k ih =>
    intro v0 v1 v2 v3 v4 v5 w o h
    have hrec68 : ∀ (y0 : Nat) (y1 : Int32) (y2 : Int32) (y3 : Int32) (y4 : Int32) (y5 : Int32) (w : Wd) (o : Wd), (fun (v0 : Nat) (v1 : Int32) (v2 : Int32) (v3 : Int32) (v4 : Int32) (v5 : Int32) w => f124_H122 n  K68 k v0 v1 v2 v3 v4 v5 w) y0 y1 y2 y3 y4 y5 w = some o → Rn S 124 122 [some (.ref y0), some (.int y1), some (.int y2), some (.int y3), some (.int y4), some (.int y5)] [] w (none, o) := fun y0 y1 y2 y3 y4 y5 w o h => ih y0 y1 y2 y3 y4 y5 w o h
    unfold f124_H122 at h
    refine rn_iload (ft124 68 rfl) rfl ?_
    refine rn_aload_n (ft124 69 rfl) rfl ?_
    obtain ⟨x40, q41, h⟩ := ob_some h
    refine rn_getI (ft124 70 rfl) (by decide) (by decide) q41 ?_
    by_cases c56 : x40 ≤ v5
    · replace h := ifp c56 h
      refine rn_icmp_ge_t (ft124 71 rfl) c56 ?_
      exact rn_forget (ls := [none, none, none, none, none, none]) trivial (hK68 w _ h)
    · replace h := ifn c56 h
      refine rn_icmp_ge_f (ft124 71 rfl) c56 ?_
      refine rn_aload_n (ft124 72 rfl) rfl ?_
      obtain ⟨x42, q43, h⟩ := ob_some h
      refine rn_getR (ft124 73 rfl) q43 ?_
      refine rn_iload (ft124 74 rfl) rfl ?_
      obtain ⟨x44, q45, h⟩ := ob_some h
      refine rn_iaload (ft124 75 rfl) q45 ?_
      refine rn_iconst (v := (3 : Int32)) (ft124 76 rfl) (by decide) ?_
      by_cases c55 : ¬ x44 = (3 : Int32)
      · replace h := ifp c55 h
        refine rn_icmp_ne_t (ft124 77 rfl) c55 ?_
        refine rn_iinc (u := 1) (ls' := [some (.ref v0), some (.int v1), some (.int v2), some (.int v3), some (.int v4), some (.int (v5 + (1 : Int32)))]) (ft124 90 rfl) rfl (by decide) rfl ?_
        refine rn_goto (ft124 91 rfl) ?_
        exact rn_forget (ls := [some (.ref v0), some (.int v1), some (.int v2), some (.int v3), some (.int v4), some (.int (v5 + (1 : Int32)))]) (And.intro rfl (And.intro rfl (And.intro rfl (And.intro rfl (And.intro rfl (And.intro rfl trivial)))))) (hrec68 v0 v1 v2 v3 v4 (v5 + (1 : Int32)) w _ h)
      · replace h := ifn c55 h
        refine rn_icmp_ne_f (ft124 77 rfl) c55 ?_
        refine rn_iload_n (ft124 78 rfl) rfl ?_
        refine rn_iload (ft124 79 rfl) rfl ?_
        obtain ⟨p46, q47, h⟩ := ob_some h
        refine rn_callS (as := [.int v1, .int v5]) (r := []) (v := (some (.int p46.1))) (w1 := p46.2) (ft124 80 rfl) (by decide +kernel) rfl (Nat.le_of_ble_eq_true rfl) (Nat.le_of_ble_eq_true rfl) (r45 v1 v5 w _ q47) ?_
        by_cases c54 : ¬ p46.1 = 0
        · replace h := ifp c54 h
          refine rn_if_ne_t (ft124 81 rfl) c54 ?_
          refine rn_iinc (u := 1) (ls' := [some (.ref v0), some (.int v1), some (.int v2), some (.int v3), some (.int v4), some (.int (v5 + (1 : Int32)))]) (ft124 90 rfl) rfl (by decide) rfl ?_
          refine rn_goto (ft124 91 rfl) ?_
          exact rn_forget (ls := [some (.ref v0), some (.int v1), some (.int v2), some (.int v3), some (.int v4), some (.int (v5 + (1 : Int32)))]) (And.intro rfl (And.intro rfl (And.intro rfl (And.intro rfl (And.intro rfl (And.intro rfl trivial)))))) (hrec68 v0 v1 v2 v3 v4 (v5 + (1 : Int32)) p46.2 _ h)
        · replace h := ifn c54 h
          refine rn_if_ne_f (ft124 81 rfl) c54 ?_
          refine rn_aload_n (ft124 82 rfl) rfl ?_
          obtain ⟨x48, q49, h⟩ := ob_some h
          refine rn_getR (ft124 83 rfl) q49 ?_
          refine rn_iload (ft124 84 rfl) rfl ?_
          refine rn_iload_n (ft124 85 rfl) rfl ?_
          refine rn_iload_n (ft124 86 rfl) rfl ?_
          refine rn_iload (ft124 87 rfl) rfl ?_
          obtain ⟨p50, q51, h⟩ := ob_some h
          refine rn_callS (as := [.int v2, .int v3, .int v4]) (r := [.int v5, .ref x48]) (v := (some (.int p50.1))) (w1 := p50.2) (ft124 88 rfl) (by decide +kernel) rfl (Nat.le_of_ble_eq_true rfl) (Nat.le_of_ble_eq_true rfl) (r53 v2 v3 v4 p46.2 _ q51) ?_
          obtain ⟨w52, q53, h⟩ := ob_some h
          refine rn_iastore (ft124 89 rfl) q53 ?_
          refine rn_iinc (u := 1) (ls' := [some (.ref v0), some (.int v1), some (.int v2), some (.int v3), some (.int v4), some (.int (v5 + (1 : Int32)))]) (ft124 90 rfl) rfl (by decide) rfl ?_
          refine rn_goto (ft124 91 rfl) ?_
          exact rn_forget (ls := [some (.ref v0), some (.int v1), some (.int v2), some (.int v3), some (.int v4), some (.int (v5 + (1 : Int32)))]) (And.intro rfl (And.intro rfl (And.intro rfl (And.intro rfl (And.intro rfl (And.intro rfl trivial)))))) (hrec68 v0 v1 v2 v3 v4 (v5 + (1 : Int32)) w52 _ h)
def f124 (n : Nat) (v0 : Nat) (v1 : Int32) (w : Wd) : Option Wd :=
  f124_H10 n  (fun (e0_39 : Nat) (e1_39 : Int32) (e2_39 : Int32) (e3_39 : Int32) (e4_39 : Int32) (w39 : Wd) => f124_H122 n  (fun  (w57 : Wd) => some w57) n e0_39 e1_39 e2_39 e3_39 e4_39 (0 : Int32) w39) n v0 v1 (0 : Int32) (0 : Int32) (0 : Int32) (0 : Int32) w
set_option maxRecDepth 10000 in
theorem r124 {S : Sc} (n : Nat) (v0 : Nat) (v1 : Int32) (w : Wd) (o : Wd) (h : f124 n v0 v1 w = some o) : Rn S 124 0 [some (.ref v0), some (.int v1), none, none, none, none] [] w (none, o) := by
  unfold f124 at h
  refine rn_iconst (v := (0 : Int32)) (ft124 0 rfl) (by decide) ?_
  refine rn_istore_n (ls' := [some (.ref v0), some (.int v1), some (.int (0 : Int32)), none, none, none]) (ft124 1 rfl) rfl ?_
  refine rn_iconst (v := (0 : Int32)) (ft124 2 rfl) (by decide) ?_
  refine rn_istore_n (ls' := [some (.ref v0), some (.int v1), some (.int (0 : Int32)), some (.int (0 : Int32)), none, none]) (ft124 3 rfl) rfl ?_
  refine rn_iconst (v := (0 : Int32)) (ft124 4 rfl) (by decide) ?_
  refine rn_istore (ls' := [some (.ref v0), some (.int v1), some (.int (0 : Int32)), some (.int (0 : Int32)), some (.int (0 : Int32)), none]) (ft124 5 rfl) rfl ?_
  refine rn_iconst (v := (0 : Int32)) (ft124 6 rfl) (by decide) ?_
  refine rn_istore (ls' := [some (.ref v0), some (.int v1), some (.int (0 : Int32)), some (.int (0 : Int32)), some (.int (0 : Int32)), some (.int (0 : Int32))]) (ft124 7 rfl) rfl ?_
  refine rn_forget (ls := [some (.ref v0), some (.int v1), some (.int (0 : Int32)), some (.int (0 : Int32)), some (.int (0 : Int32)), some (.int (0 : Int32))]) (And.intro rfl (And.intro rfl (And.intro rfl (And.intro rfl (And.intro rfl (And.intro rfl trivial)))))) (rf124_H10 n  _  (fun e0_39 e1_39 e2_39 e3_39 e4_39 w39 o h => ?_) n v0 v1 (0 : Int32) (0 : Int32) (0 : Int32) (0 : Int32) w _ h)
  refine rn_iconst (v := (0 : Int32)) (ft124 66 rfl) (by decide) ?_
  refine rn_istore (ls' := [some (.ref e0_39), some (.int e1_39), some (.int e2_39), some (.int e3_39), some (.int e4_39), some (.int (0 : Int32))]) (ft124 67 rfl) rfl ?_
  refine rn_forget (ls := [some (.ref e0_39), some (.int e1_39), some (.int e2_39), some (.int e3_39), some (.int e4_39), some (.int (0 : Int32))]) (And.intro rfl (And.intro rfl (And.intro rfl (And.intro rfl (And.intro rfl (And.intro rfl trivial)))))) (rf124_H122 n  _  (fun  w57 o h => ?_) n e0_39 e1_39 e2_39 e3_39 e4_39 (0 : Int32) w39 _ h)
  cases h
  exact rn_vret pr124 (ft124 92 rfl)
