/-! THE METHODS AS FUNCTIONS, 9 -/
/-- NineWheel$Sea.rocksNear(I)I -/
theorem ft142 : ∀ (i : Nat) {q : Nat × XI}, cd142[i]? = some q → fetch 142 q.1 = some q.2 := ft_of (by decide +kernel)
theorem pr142 : pRt 142 = some .int := rfl
def f142_H4 (n : Nat)  (K4 : Int32 → Wd → Option (Int32 × Wd)) : Nat → Nat → Int32 → Int32 → Int32 → Wd → Option (Int32 × Wd)
  | 0, _, _, _, _, _ => none
  | k + 1, v0, v1, v2, v3, w =>
    (if (64 : Int32) ≤ v3 then K4 v2 w
      else (if (wsh w v0).map (fun q => q.1) = some 6 then ob (f9 v0 v3 w) (fun p1 => (if p1.1 = 0 then (fun (v0 : Nat) (v1 : Int32) (v2 : Int32) (v3 : Int32) w => f142_H4 n  K4 k v0 v1 v2 v3 w) v0 v1 v2 (v3 + (1 : Int32)) p1.2
        else ob (f79 v3 v1 p1.2) (fun p3 => (if (1 : Int32) < p3.1 then (fun (v0 : Nat) (v1 : Int32) (v2 : Int32) (v3 : Int32) w => f142_H4 n  K4 k v0 v1 v2 v3 w) v0 v1 v2 (v3 + (1 : Int32)) p3.2
          else (fun (v0 : Nat) (v1 : Int32) (v2 : Int32) (v3 : Int32) w => f142_H4 n  K4 k v0 v1 v2 v3 w) v0 v1 (v2 + (1 : Int32)) (v3 + (1 : Int32)) p3.2)))) else none))
set_option maxRecDepth 10000 in
theorem rf142_H4 {S : Sc} (n : Nat)  (K4 : Int32 → Wd → Option (Int32 × Wd))  (hK4 : ∀ (y2 : Int32) (w : Wd) (o : (Int32 × Wd)), K4 y2 w = some o → Rn S 142 36 [none, none, some (.int y2), none] [] w (some (.int o.1), o.2)) : ∀ (k : Nat) (v0 : Nat) (v1 : Int32) (v2 : Int32) (v3 : Int32) (w : Wd) (o : (Int32 × Wd)), f142_H4 n  K4 k v0 v1 v2 v3 w = some o → Rn S 142 4 [some (.ref v0), some (.int v1), some (.int v2), some (.int v3)] [] w (some (.int o.1), o.2) := by
  intro k
  induction k with
  | zero =>
    intro v0 v1 v2 v3 w o h
    exact nomatch h
  | succ k ih =>
    intro v0 v1 v2 v3 w o h
    have hrec4 : ∀ (y0 : Nat) (y1 : Int32) (y2 : Int32) (y3 : Int32) (w : Wd) (o : (Int32 × Wd)), (fun (v0 : Nat) (v1 : Int32) (v2 : Int32) (v3 : Int32) w => f142_H4 n  K4 k v0 v1 v2 v3 w) y0 y1 y2 y3 w = some o → Rn S 142 4 [some (.ref y0), some (.int y1), some (.int y2), some (.int y3)] [] w (some (.int o.1), o.2) := fun y0 y1 y2 y3 w o h => ih y0 y1 y2 y3 w o h
    unfold f142_H4 at h
    refine rn_iload_n (ft142 4 rfl) rfl ?_
    refine rn_bipush (v := (64 : Int32)) (ft142 5 rfl) (by decide) ?_
    by_cases c8 : (64 : Int32) ≤ v3
    · replace h := ifp c8 h
      refine rn_icmp_ge_t (ft142 6 rfl) c8 ?_
      exact rn_forget (ls := [none, none, some (.int v2), none]) (And.intro rfl trivial) (hK4 v2 w _ h)
    · replace h := ifn c8 h
      refine rn_icmp_ge_f (ft142 6 rfl) c8 ?_
      refine rn_aload_n (ft142 7 rfl) rfl ?_
      refine rn_iload_n (ft142 8 rfl) rfl ?_
      obtain ⟨g7, h⟩ := ifg h
      obtain ⟨p1, q2, h⟩ := ob_some h
      refine rn_callV (as := [.int v3]) (k0 := v0) (r := []) (v := (some (.int p1.1))) (w1 := p1.2) (ft142 9 rfl) (by decide +kernel) rfl (Nat.le_of_ble_eq_true rfl) (Nat.le_of_ble_eq_true rfl) (r9 v0 v3 w _ q2) (by decide +kernel) g7 ?_
      by_cases c6 : p1.1 = 0
      · replace h := ifp c6 h
        refine rn_if_eq_t (ft142 10 rfl) c6 ?_
        refine rn_iinc (u := 1) (ls' := [some (.ref v0), some (.int v1), some (.int v2), some (.int (v3 + (1 : Int32)))]) (ft142 17 rfl) rfl (by decide) rfl ?_
        refine rn_goto (ft142 18 rfl) ?_
        exact rn_forget (ls := [some (.ref v0), some (.int v1), some (.int v2), some (.int (v3 + (1 : Int32)))]) (And.intro rfl (And.intro rfl (And.intro rfl (And.intro rfl trivial)))) (hrec4 v0 v1 v2 (v3 + (1 : Int32)) p1.2 _ h)
      · replace h := ifn c6 h
        refine rn_if_eq_f (ft142 10 rfl) c6 ?_
        refine rn_iload_n (ft142 11 rfl) rfl ?_
        refine rn_iload_n (ft142 12 rfl) rfl ?_
        obtain ⟨p3, q4, h⟩ := ob_some h
        refine rn_callS (as := [.int v3, .int v1]) (r := []) (v := (some (.int p3.1))) (w1 := p3.2) (ft142 13 rfl) (by decide +kernel) rfl (Nat.le_of_ble_eq_true rfl) (Nat.le_of_ble_eq_true rfl) (r79 v3 v1 p1.2 _ q4) ?_
        refine rn_iconst (v := (1 : Int32)) (ft142 14 rfl) (by decide) ?_
        by_cases c5 : (1 : Int32) < p3.1
        · replace h := ifp c5 h
          refine rn_icmp_gt_t (ft142 15 rfl) c5 ?_
          refine rn_iinc (u := 1) (ls' := [some (.ref v0), some (.int v1), some (.int v2), some (.int (v3 + (1 : Int32)))]) (ft142 17 rfl) rfl (by decide) rfl ?_
          refine rn_goto (ft142 18 rfl) ?_
          exact rn_forget (ls := [some (.ref v0), some (.int v1), some (.int v2), some (.int (v3 + (1 : Int32)))]) (And.intro rfl (And.intro rfl (And.intro rfl (And.intro rfl trivial)))) (hrec4 v0 v1 v2 (v3 + (1 : Int32)) p3.2 _ h)
        · replace h := ifn c5 h
          refine rn_icmp_gt_f (ft142 15 rfl) c5 ?_
          refine rn_iinc (u := 1) (ls' := [some (.ref v0), some (.int v1), some (.int (v2 + (1 : Int32))), some (.int v3)]) (ft142 16 rfl) rfl (by decide) rfl ?_
          refine rn_iinc (u := 1) (ls' := [some (.ref v0), some (.int v1), some (.int (v2 + (1 : Int32))), some (.int (v3 + (1 : Int32)))]) (ft142 17 rfl) rfl (by decide) rfl ?_
          refine rn_goto (ft142 18 rfl) ?_
          exact rn_forget (ls := [some (.ref v0), some (.int v1), some (.int (v2 + (1 : Int32))), some (.int (v3 + (1 : Int32)))]) (And.intro rfl (And.intro rfl (And.intro rfl (And.intro rfl trivial)))) (hrec4 v0 v1 (v2 + (1 : Int32)) (v3 + (1 : Int32)) p3.2 _ h)
def f142 (n : Nat) (v0 : Nat) (v1 : Int32) (w : Wd) : Option (Int32 × Wd) :=
  f142_H4 n  (fun (e2_9 : Int32) (w9 : Wd) => some (e2_9, w9)) n v0 v1 (0 : Int32) (0 : Int32) w
set_option maxRecDepth 10000 in
theorem r142 {S : Sc} (n : Nat) (v0 : Nat) (v1 : Int32) (w : Wd) (o : (Int32 × Wd)) (h : f142 n v0 v1 w = some o) : Rn S 142 0 [some (.ref v0), some (.int v1), none, none] [] w (some (.int o.1), o.2) := by
  unfold f142 at h
  refine rn_iconst (v := (0 : Int32)) (ft142 0 rfl) (by decide) ?_
  refine rn_istore_n (ls' := [some (.ref v0), some (.int v1), some (.int (0 : Int32)), none]) (ft142 1 rfl) rfl ?_
  refine rn_iconst (v := (0 : Int32)) (ft142 2 rfl) (by decide) ?_
  refine rn_istore_n (ls' := [some (.ref v0), some (.int v1), some (.int (0 : Int32)), some (.int (0 : Int32))]) (ft142 3 rfl) rfl ?_
  refine rn_forget (ls := [some (.ref v0), some (.int v1), some (.int (0 : Int32)), some (.int (0 : Int32))]) (And.intro rfl (And.intro rfl (And.intro rfl (And.intro rfl trivial)))) (rf142_H4 n  _  (fun e2_9 w9 o h => ?_) n v0 v1 (0 : Int32) (0 : Int32) w _ h)
  refine rn_iload_n (ft142 19 rfl) rfl ?_
  cases h
  exact rn_iretI pr142 (ft142 20 rfl)
/-- NineWheel$Sea.worthToSet(II)I -/
theorem ft143 : ∀ (i : Nat) {q : Nat × XI}, cd143[i]? = some q → fetch 143 q.1 = some q.2 := ft_of (by decide +kernel)
theorem pr143 : pRt 143 = some .int := rfl
def f143_H5 (n : Nat)  (K4 : Int32 → Wd → Option (Int32 × Wd)) : Nat → Nat → Int32 → Int32 → Int32 → Int32 → Wd → Option (Int32 × Wd)
  | 0, _, _, _, _, _, _ => none
  | k + 1, v0, v1, v2, v3, v4, w =>
    ob (getI w 6 v0 5) (fun x1 => (if x1 ≤ v4 then K4 v3 w
      else ob (f16 v2 v4 w) (fun p3 => (if p3.1 = 0 then (fun (v0 : Nat) (v1 : Int32) (v2 : Int32) (v3 : Int32) (v4 : Int32) w => f143_H5 n  K4 k v0 v1 v2 v3 v4 w) v0 v1 v2 v3 (v4 + (1 : Int32)) p3.2
        else (if (wsh p3.2 v0).map (fun q => q.1) = some 6 then ob (f83 v0 v4 p3.2) (fun p5 => (if (wsh p5.2 v0).map (fun q => q.1) = some 6 then ob (f80 v0 v4 v1 p5.2) (fun p7 => (fun (v0 : Nat) (v1 : Int32) (v2 : Int32) (v3 : Int32) (v4 : Int32) w => f143_H5 n  K4 k v0 v1 v2 v3 v4 w) v0 v1 v2 (v3 + (p5.1 * p7.1)) (v4 + (1 : Int32)) p7.2) else none)) else none)))))
set_option maxRecDepth 10000 in
theorem rf143_H5 {S : Sc} (n : Nat)  (K4 : Int32 → Wd → Option (Int32 × Wd))  (hK4 : ∀ (y3 : Int32) (w : Wd) (o : (Int32 × Wd)), K4 y3 w = some o → Rn S 143 46 [none, none, none, some (.int y3), none] [] w (some (.int o.1), o.2)) : ∀ (k : Nat) (v0 : Nat) (v1 : Int32) (v2 : Int32) (v3 : Int32) (v4 : Int32) (w : Wd) (o : (Int32 × Wd)), f143_H5 n  K4 k v0 v1 v2 v3 v4 w = some o → Rn S 143 5 [some (.ref v0), some (.int v1), some (.int v2), some (.int v3), some (.int v4)] [] w (some (.int o.1), o.2) := by
  intro k
  induction k with
  | zero =>
    intro v0 v1 v2 v3 v4 w o h
    exact nomatch h
  | succ k ih =>
    intro v0 v1 v2 v3 v4 w o h
    have hrec4 : ∀ (y0 : Nat) (y1 : Int32) (y2 : Int32) (y3 : Int32) (y4 : Int32) (w : Wd) (o : (Int32 × Wd)), (fun (v0 : Nat) (v1 : Int32) (v2 : Int32) (v3 : Int32) (v4 : Int32) w => f143_H5 n  K4 k v0 v1 v2 v3 v4 w) y0 y1 y2 y3 y4 w = some o → Rn S 143 5 [some (.ref y0), some (.int y1), some (.int y2), some (.int y3), some (.int y4)] [] w (some (.int o.1), o.2) := fun y0 y1 y2 y3 y4 w o h => ih y0 y1 y2 y3 y4 w o h
    unfold f143_H5 at h
    refine rn_iload (ft143 4 rfl) rfl ?_
    refine rn_aload_n (ft143 5 rfl) rfl ?_
    obtain ⟨x1, q2, h⟩ := ob_some h
    refine rn_getI (ft143 6 rfl) (by decide) (by decide) q2 ?_
    by_cases c12 : x1 ≤ v4
    · replace h := ifp c12 h
      refine rn_icmp_ge_t (ft143 7 rfl) c12 ?_
      exact rn_forget (ls := [none, none, none, some (.int v3), none]) (And.intro rfl trivial) (hK4 v3 w _ h)
    · replace h := ifn c12 h
      refine rn_icmp_ge_f (ft143 7 rfl) c12 ?_
      refine rn_iload_n (ft143 8 rfl) rfl ?_
      refine rn_iload (ft143 9 rfl) rfl ?_
      obtain ⟨p3, q4, h⟩ := ob_some h
      refine rn_callS (as := [.int v2, .int v4]) (r := []) (v := (some (.int p3.1))) (w1 := p3.2) (ft143 10 rfl) (by decide +kernel) rfl (Nat.le_of_ble_eq_true rfl) (Nat.le_of_ble_eq_true rfl) (r16 v2 v4 w _ q4) ?_
      by_cases c11 : p3.1 = 0
      · replace h := ifp c11 h
        refine rn_if_eq_t (ft143 11 rfl) c11 ?_
        refine rn_iinc (u := 1) (ls' := [some (.ref v0), some (.int v1), some (.int v2), some (.int v3), some (.int (v4 + (1 : Int32)))]) (ft143 23 rfl) rfl (by decide) rfl ?_
        refine rn_goto (ft143 24 rfl) ?_
        exact rn_forget (ls := [some (.ref v0), some (.int v1), some (.int v2), some (.int v3), some (.int (v4 + (1 : Int32)))]) (And.intro rfl (And.intro rfl (And.intro rfl (And.intro rfl (And.intro rfl trivial))))) (hrec4 v0 v1 v2 v3 (v4 + (1 : Int32)) p3.2 _ h)
      · replace h := ifn c11 h
        refine rn_if_eq_f (ft143 11 rfl) c11 ?_
        refine rn_iload_n (ft143 12 rfl) rfl ?_
        refine rn_aload_n (ft143 13 rfl) rfl ?_
        refine rn_iload (ft143 14 rfl) rfl ?_
        obtain ⟨g10, h⟩ := ifg h
        obtain ⟨p5, q6, h⟩ := ob_some h
        refine rn_callV (as := [.int v4]) (k0 := v0) (r := [.int v3]) (v := (some (.int p5.1))) (w1 := p5.2) (ft143 15 rfl) (by decide +kernel) rfl (Nat.le_of_ble_eq_true rfl) (Nat.le_of_ble_eq_true rfl) (r83 v0 v4 p3.2 _ q6) (by decide +kernel) g10 ?_
        refine rn_aload_n (ft143 16 rfl) rfl ?_
        refine rn_iload (ft143 17 rfl) rfl ?_
        refine rn_iload_n (ft143 18 rfl) rfl ?_
        obtain ⟨g9, h⟩ := ifg h
        obtain ⟨p7, q8, h⟩ := ob_some h
        refine rn_callV (as := [.int v4, .int v1]) (k0 := v0) (r := [.int p5.1, .int v3]) (v := (some (.int p7.1))) (w1 := p7.2) (ft143 19 rfl) (by decide +kernel) rfl (Nat.le_of_ble_eq_true rfl) (Nat.le_of_ble_eq_true rfl) (r80 v0 v4 v1 p5.2 _ q8) (by decide +kernel) g9 ?_
        refine rn_imul (ft143 20 rfl) ?_
        refine rn_iadd (ft143 21 rfl) ?_
        refine rn_istore_n (ls' := [some (.ref v0), some (.int v1), some (.int v2), some (.int (v3 + (p5.1 * p7.1))), some (.int v4)]) (ft143 22 rfl) rfl ?_
        refine rn_iinc (u := 1) (ls' := [some (.ref v0), some (.int v1), some (.int v2), some (.int (v3 + (p5.1 * p7.1))), some (.int (v4 + (1 : Int32)))]) (ft143 23 rfl) rfl (by decide) rfl ?_
        refine rn_goto (ft143 24 rfl) ?_
        exact rn_forget (ls := [some (.ref v0), some (.int v1), some (.int v2), some (.int (v3 + (p5.1 * p7.1))), some (.int (v4 + (1 : Int32)))]) (And.intro rfl (And.intro rfl (And.intro rfl (And.intro rfl (And.intro rfl trivial))))) (hrec4 v0 v1 v2 (v3 + (p5.1 * p7.1)) (v4 + (1 : Int32)) p7.2 _ h)
def f143 (n : Nat) (v0 : Nat) (v1 : Int32) (v2 : Int32) (w : Wd) : Option (Int32 × Wd) :=
  f143_H5 n  (fun (e3_13 : Int32) (w13 : Wd) => some (e3_13, w13)) n v0 v1 v2 (0 : Int32) (0 : Int32) w
set_option maxRecDepth 10000 in
theorem r143 {S : Sc} (n : Nat) (v0 : Nat) (v1 : Int32) (v2 : Int32) (w : Wd) (o : (Int32 × Wd)) (h : f143 n v0 v1 v2 w = some o) : Rn S 143 0 [some (.ref v0), some (.int v1), some (.int v2), none, none] [] w (some (.int o.1), o.2) := by
  unfold f143 at h
  refine rn_iconst (v := (0 : Int32)) (ft143 0 rfl) (by decide) ?_
  refine rn_istore_n (ls' := [some (.ref v0), some (.int v1), some (.int v2), some (.int (0 : Int32)), none]) (ft143 1 rfl) rfl ?_
  refine rn_iconst (v := (0 : Int32)) (ft143 2 rfl) (by decide) ?_
  refine rn_istore (ls' := [some (.ref v0), some (.int v1), some (.int v2), some (.int (0 : Int32)), some (.int (0 : Int32))]) (ft143 3 rfl) rfl ?_
  refine rn_forget (ls := [some (.ref v0), some (.int v1), some (.int v2), some (.int (0 : Int32)), some (.int (0 : Int32))]) (And.intro rfl (And.intro rfl (And.intro rfl (And.intro rfl (And.intro rfl trivial))))) (rf143_H5 n  _  (fun e3_13 w13 o h => ?_) n v0 v1 v2 (0 : Int32) (0 : Int32) w _ h)
  refine rn_iload_n (ft143 25 rfl) rfl ?_
  cases h
  exact rn_iretI pr143 (ft143 26 rfl)
/-- NineWheel.sort(II)I -/
theorem ft144 : ∀ (i : Nat) {q : Nat × XI}, cd144[i]? = some q → fetch 144 q.1 = some q.2 := ft_of (by decide +kernel)
theorem pr144 : pRt 144 = some .int := rfl
def f144 (v0 : Nat) (v1 : Int32) (v2 : Int32) (w : Wd) : Option (Int32 × Wd) :=
  (if (wsh w v0).map (fun q => q.1) = some 10 then ob (f84 v0 v1 w) (fun p1 => (if p1.1 = 0 then (if v2 = 0 then ob (getR p1.2 10 v0 1) (fun x23 => (if (wsh p1.2 x23).map (fun q => q.1) = some 6 then ob (f83 x23 v1 p1.2) (fun p25 => some (p25.1, p25.2)) else none))
      else (if v2 = 1 then ob (getR p1.2 10 v0 1) (fun x18 => (if (wsh p1.2 x18).map (fun q => q.1) = some 6 then ob (f85 x18 v1 p1.2) (fun p20 => some (p20.1, p20.2)) else none))
        else (if v2 = 2 then ob (getR p1.2 10 v0 1) (fun x13 => (if (wsh p1.2 x13).map (fun q => q.1) = some 6 then ob (f86 x13 v1 p1.2) (fun p15 => some (p15.1, p15.2)) else none))
          else (if v2 = 3 then ob (getR p1.2 10 v0 7) (fun x8 => (if (wsh p1.2 x8).map (fun q => q.1) = some 3 then ob (f87 x8 v1 p1.2) (fun p10 => some (p10.1, p10.2)) else none))
            else (if v2 = 4 then ob (getR p1.2 10 v0 7) (fun x3 => (if (wsh p1.2 x3).map (fun q => q.1) = some 3 then ob (f88 x3 v1 p1.2) (fun p5 => some (p5.1, p5.2)) else none))
              else some ((-1000002 : Int32), p1.2))))))
    else some ((-1000001 : Int32), p1.2))) else none)
set_option maxRecDepth 10000 in
theorem r144 {S : Sc} (v0 : Nat) (v1 : Int32) (v2 : Int32) (w : Wd) (o : (Int32 × Wd)) (h : f144 v0 v1 v2 w = some o) : Rn S 144 0 [some (.ref v0), some (.int v1), some (.int v2)] [] w (some (.int o.1), o.2) := by
  unfold f144 at h
  refine rn_aload_n (ft144 0 rfl) rfl ?_
  refine rn_iload_n (ft144 1 rfl) rfl ?_
  obtain ⟨g35, h⟩ := ifg h
  obtain ⟨p1, q2, h⟩ := ob_some h
  refine rn_callV (as := [.int v1]) (k0 := v0) (r := []) (v := (some (.int p1.1))) (w1 := p1.2) (ft144 2 rfl) (by decide +kernel) rfl (Nat.le_of_ble_eq_true rfl) (Nat.le_of_ble_eq_true rfl) (r84 v0 v1 w _ q2) (by decide +kernel) g35 ?_
  by_cases c34 : p1.1 = 0
  · replace h := ifp c34 h
    refine rn_if_eq_t (ft144 3 rfl) c34 ?_
    refine rn_iload_n (ft144 6 rfl) rfl ?_
    by_cases c28 : v2 = 0
    · replace h := ifp c28 h
      refine rn_sw_i (e := 36) (pc' := 48) (ft144 7 rfl) (by rw [c28]; decide) (by rw [c28]; rfl) (by decide) ?_
      refine rn_aload_n (ft144 8 rfl) rfl ?_
      obtain ⟨x23, q24, h⟩ := ob_some h
      refine rn_getR (ft144 9 rfl) q24 ?_
      refine rn_iload_n (ft144 10 rfl) rfl ?_
      obtain ⟨g27, h⟩ := ifg h
      obtain ⟨p25, q26, h⟩ := ob_some h
      refine rn_callV (as := [.int v1]) (k0 := x23) (r := []) (v := (some (.int p25.1))) (w1 := p25.2) (ft144 11 rfl) (by decide +kernel) rfl (Nat.le_of_ble_eq_true rfl) (Nat.le_of_ble_eq_true rfl) (r83 x23 v1 p1.2 _ q26) (by decide +kernel) g27 ?_
      cases h
      exact rn_iretI pr144 (ft144 12 rfl)
    · replace h := ifn c28 h
      by_cases c29 : v2 = 1
      · replace h := ifp c29 h
        refine rn_sw_i (e := 45) (pc' := 57) (ft144 7 rfl) (by rw [c29]; decide) (by rw [c29]; rfl) (by decide) ?_
        refine rn_aload_n (ft144 13 rfl) rfl ?_
        obtain ⟨x18, q19, h⟩ := ob_some h
        refine rn_getR (ft144 14 rfl) q19 ?_
        refine rn_iload_n (ft144 15 rfl) rfl ?_
        obtain ⟨g22, h⟩ := ifg h
        obtain ⟨p20, q21, h⟩ := ob_some h
        refine rn_callV (as := [.int v1]) (k0 := x18) (r := []) (v := (some (.int p20.1))) (w1 := p20.2) (ft144 16 rfl) (by decide +kernel) rfl (Nat.le_of_ble_eq_true rfl) (Nat.le_of_ble_eq_true rfl) (r85 x18 v1 p1.2 _ q21) (by decide +kernel) g22 ?_
        cases h
        exact rn_iretI pr144 (ft144 17 rfl)
      · replace h := ifn c29 h
        by_cases c30 : v2 = 2
        · replace h := ifp c30 h
          refine rn_sw_i (e := 54) (pc' := 66) (ft144 7 rfl) (by rw [c30]; decide) (by rw [c30]; rfl) (by decide) ?_
          refine rn_aload_n (ft144 18 rfl) rfl ?_
          obtain ⟨x13, q14, h⟩ := ob_some h
          refine rn_getR (ft144 19 rfl) q14 ?_
          refine rn_iload_n (ft144 20 rfl) rfl ?_
          obtain ⟨g17, h⟩ := ifg h
          obtain ⟨p15, q16, h⟩ := ob_some h
          refine rn_callV (as := [.int v1]) (k0 := x13) (r := []) (v := (some (.int p15.1))) (w1 := p15.2) (ft144 21 rfl) (by decide +kernel) rfl (Nat.le_of_ble_eq_true rfl) (Nat.le_of_ble_eq_true rfl) (r86 x13 v1 p1.2 _ q16) (by decide +kernel) g17 ?_
          cases h
          exact rn_iretI pr144 (ft144 22 rfl)
        · replace h := ifn c30 h
          by_cases c31 : v2 = 3
          · replace h := ifp c31 h
            refine rn_sw_i (e := 63) (pc' := 75) (ft144 7 rfl) (by rw [c31]; decide) (by rw [c31]; rfl) (by decide) ?_
            refine rn_aload_n (ft144 23 rfl) rfl ?_
            obtain ⟨x8, q9, h⟩ := ob_some h
            refine rn_getR (ft144 24 rfl) q9 ?_
            refine rn_iload_n (ft144 25 rfl) rfl ?_
            obtain ⟨g12, h⟩ := ifg h
            obtain ⟨p10, q11, h⟩ := ob_some h
            refine rn_callV (as := [.int v1]) (k0 := x8) (r := []) (v := (some (.int p10.1))) (w1 := p10.2) (ft144 26 rfl) (by decide +kernel) rfl (Nat.le_of_ble_eq_true rfl) (Nat.le_of_ble_eq_true rfl) (r87 x8 v1 p1.2 _ q11) (by decide +kernel) g12 ?_
            cases h
            exact rn_iretI pr144 (ft144 27 rfl)
          · replace h := ifn c31 h
            by_cases c32 : v2 = 4
            · replace h := ifp c32 h
              refine rn_sw_i (e := 72) (pc' := 84) (ft144 7 rfl) (by rw [c32]; decide) (by rw [c32]; rfl) (by decide) ?_
              refine rn_aload_n (ft144 28 rfl) rfl ?_
              obtain ⟨x3, q4, h⟩ := ob_some h
              refine rn_getR (ft144 29 rfl) q4 ?_
              refine rn_iload_n (ft144 30 rfl) rfl ?_
              obtain ⟨g7, h⟩ := ifg h
              obtain ⟨p5, q6, h⟩ := ob_some h
              refine rn_callV (as := [.int v1]) (k0 := x3) (r := []) (v := (some (.int p5.1))) (w1 := p5.2) (ft144 31 rfl) (by decide +kernel) rfl (Nat.le_of_ble_eq_true rfl) (Nat.le_of_ble_eq_true rfl) (r88 x3 v1 p1.2 _ q6) (by decide +kernel) g7 ?_
              cases h
              exact rn_iretI pr144 (ft144 32 rfl)
            · replace h := ifn c32 h
              have hsw := sw_out (v := v2) (N := 4) (by omega) (fun j hj => by
                have hj2 : j = 0 ∨ j = 1 ∨ j = 2 ∨ j = 3 ∨ j = 4 := by omega
                rcases hj2 with rfl | rfl | rfl | rfl | rfl
                · exact c28
                · exact c29
                · exact c30
                · exact c31
                · exact c32)
              refine rn_sw_d (ft144 7 rfl) hsw (by decide) ?_
              refine rn_ldc (v := (-1000002 : Int32)) (ft144 33 rfl) (by decide) rfl ?_
              cases h
              exact rn_iretI pr144 (ft144 34 rfl)
  · replace h := ifn c34 h
    refine rn_if_eq_f (ft144 3 rfl) c34 ?_
    refine rn_ldc (v := (-1000001 : Int32)) (ft144 4 rfl) (by decide) rfl ?_
    cases h
    exact rn_iretI pr144 (ft144 5 rfl)
/-- NineWheel$Sea.moved(III)I -/
theorem ft145 : ∀ (i : Nat) {q : Nat × XI}, cd145[i]? = some q → fetch 145 q.1 = some q.2 := ft_of (by decide +kernel)
theorem pr145 : pRt 145 = some .int := rfl
def f145 (v0 : Nat) (v1 : Int32) (v2 : Int32) (v3 : Int32) (w : Wd) : Option (Int32 × Wd) :=
  ob (f92 v1 v2 w) (fun p1 => ob (f20 p1.1 p1.2) (fun p3 => (if (wsh p3.2 v0).map (fun q => q.1) = some 6 then ob (f9 v0 p3.1 p3.2) (fun p5 => (if ¬ p5.1 = 0 then some (p1.1, p5.2)
    else ob (getI p5.2 6 v0 3) (fun x7 => (if x7 ≤ 0 then some (p1.1, p5.2)
      else ob (getI p5.2 6 v0 3) (fun x9 => (if ¬ x9 = 0 then (if (irm (v3 + (1 : Int32)) x9) = 0 then ob (f20 p1.1 p5.2) (fun p11 => ob (getI p11.2 6 v0 2) (fun x13 => ob (f92 ((p11.1 * (8 : Int32)) + x13) (0 : Int32) p11.2) (fun p15 => ob (f20 p15.1 p15.2) (fun p17 => ob (f21 p1.1 p17.2) (fun p19 => some (((p17.1 * (8 : Int32)) + p19.1), p19.2))))))
        else some (p1.1, p5.2)) else none)))))) else none)))
set_option maxRecDepth 10000 in
theorem r145 {S : Sc} (v0 : Nat) (v1 : Int32) (v2 : Int32) (v3 : Int32) (w : Wd) (o : (Int32 × Wd)) (h : f145 v0 v1 v2 v3 w = some o) : Rn S 145 0 [some (.ref v0), some (.int v1), some (.int v2), some (.int v3), none, none] [] w (some (.int o.1), o.2) := by
  unfold f145 at h
  refine rn_iload_n (ft145 0 rfl) rfl ?_
  refine rn_iload_n (ft145 1 rfl) rfl ?_
  obtain ⟨p1, q2, h⟩ := ob_some h
  refine rn_callS (as := [.int v1, .int v2]) (r := []) (v := (some (.int p1.1))) (w1 := p1.2) (ft145 2 rfl) (by decide +kernel) rfl (Nat.le_of_ble_eq_true rfl) (Nat.le_of_ble_eq_true rfl) (r92 v1 v2 w _ q2) ?_
  refine rn_istore (ls' := [some (.ref v0), some (.int v1), some (.int v2), some (.int v3), some (.int p1.1), none]) (ft145 3 rfl) rfl ?_
  refine rn_aload_n (ft145 4 rfl) rfl ?_
  refine rn_iload (ft145 5 rfl) rfl ?_
  obtain ⟨p3, q4, h⟩ := ob_some h
  refine rn_callS (as := [.int p1.1]) (r := [.ref v0]) (v := (some (.int p3.1))) (w1 := p3.2) (ft145 6 rfl) (by decide +kernel) rfl (Nat.le_of_ble_eq_true rfl) (Nat.le_of_ble_eq_true rfl) (r20 p1.1 p1.2 _ q4) ?_
  obtain ⟨g25, h⟩ := ifg h
  obtain ⟨p5, q6, h⟩ := ob_some h
  refine rn_callV (as := [.int p3.1]) (k0 := v0) (r := []) (v := (some (.int p5.1))) (w1 := p5.2) (ft145 7 rfl) (by decide +kernel) rfl (Nat.le_of_ble_eq_true rfl) (Nat.le_of_ble_eq_true rfl) (r9 v0 p3.1 p3.2 _ q6) (by decide +kernel) g25 ?_
  by_cases c24 : ¬ p5.1 = 0
  · replace h := ifp c24 h
    refine rn_if_ne_t (ft145 8 rfl) c24 ?_
    refine rn_iload (ft145 19 rfl) rfl ?_
    cases h
    exact rn_iretI pr145 (ft145 20 rfl)
  · replace h := ifn c24 h
    refine rn_if_ne_f (ft145 8 rfl) c24 ?_
    refine rn_aload_n (ft145 9 rfl) rfl ?_
    obtain ⟨x7, q8, h⟩ := ob_some h
    refine rn_getI (ft145 10 rfl) (by decide) (by decide) q8 ?_
    by_cases c23 : x7 ≤ 0
    · replace h := ifp c23 h
      refine rn_if_le_t (ft145 11 rfl) c23 ?_
      refine rn_iload (ft145 19 rfl) rfl ?_
      cases h
      exact rn_iretI pr145 (ft145 20 rfl)
    · replace h := ifn c23 h
      refine rn_if_le_f (ft145 11 rfl) c23 ?_
      refine rn_iload_n (ft145 12 rfl) rfl ?_
      refine rn_iconst (v := (1 : Int32)) (ft145 13 rfl) (by decide) ?_
      refine rn_iadd (ft145 14 rfl) ?_
      refine rn_aload_n (ft145 15 rfl) rfl ?_
      obtain ⟨x9, q10, h⟩ := ob_some h
      refine rn_getI (ft145 16 rfl) (by decide) (by decide) q10 ?_
      obtain ⟨g22, h⟩ := ifg h
      refine rn_irem (ft145 17 rfl) g22 ?_
      by_cases c21 : (irm (v3 + (1 : Int32)) x9) = 0
      · replace h := ifp c21 h
        refine rn_if_eq_t (ft145 18 rfl) c21 ?_
        refine rn_iload (ft145 21 rfl) rfl ?_
        obtain ⟨p11, q12, h⟩ := ob_some h
        refine rn_callS (as := [.int p1.1]) (r := []) (v := (some (.int p11.1))) (w1 := p11.2) (ft145 22 rfl) (by decide +kernel) rfl (Nat.le_of_ble_eq_true rfl) (Nat.le_of_ble_eq_true rfl) (r20 p1.1 p5.2 _ q12) ?_
        refine rn_bipush (v := (8 : Int32)) (ft145 23 rfl) (by decide) ?_
        refine rn_imul (ft145 24 rfl) ?_
        refine rn_aload_n (ft145 25 rfl) rfl ?_
        obtain ⟨x13, q14, h⟩ := ob_some h
        refine rn_getI (ft145 26 rfl) (by decide) (by decide) q14 ?_
        refine rn_iadd (ft145 27 rfl) ?_
        refine rn_iconst (v := (0 : Int32)) (ft145 28 rfl) (by decide) ?_
        obtain ⟨p15, q16, h⟩ := ob_some h
        refine rn_callS (as := [.int ((p11.1 * (8 : Int32)) + x13), .int (0 : Int32)]) (r := []) (v := (some (.int p15.1))) (w1 := p15.2) (ft145 29 rfl) (by decide +kernel) rfl (Nat.le_of_ble_eq_true rfl) (Nat.le_of_ble_eq_true rfl) (r92 ((p11.1 * (8 : Int32)) + x13) (0 : Int32) p11.2 _ q16) ?_
        refine rn_istore (ls' := [some (.ref v0), some (.int v1), some (.int v2), some (.int v3), some (.int p1.1), some (.int p15.1)]) (ft145 30 rfl) rfl ?_
        refine rn_iload (ft145 31 rfl) rfl ?_
        obtain ⟨p17, q18, h⟩ := ob_some h
        refine rn_callS (as := [.int p15.1]) (r := []) (v := (some (.int p17.1))) (w1 := p17.2) (ft145 32 rfl) (by decide +kernel) rfl (Nat.le_of_ble_eq_true rfl) (Nat.le_of_ble_eq_true rfl) (r20 p15.1 p15.2 _ q18) ?_
        refine rn_bipush (v := (8 : Int32)) (ft145 33 rfl) (by decide) ?_
        refine rn_imul (ft145 34 rfl) ?_
        refine rn_iload (ft145 35 rfl) rfl ?_
        obtain ⟨p19, q20, h⟩ := ob_some h
        refine rn_callS (as := [.int p1.1]) (r := [.int (p17.1 * (8 : Int32))]) (v := (some (.int p19.1))) (w1 := p19.2) (ft145 36 rfl) (by decide +kernel) rfl (Nat.le_of_ble_eq_true rfl) (Nat.le_of_ble_eq_true rfl) (r21 p1.1 p17.2 _ q20) ?_
        refine rn_iadd (ft145 37 rfl) ?_
        cases h
        exact rn_iretI pr145 (ft145 38 rfl)
      · replace h := ifn c21 h
        refine rn_if_eq_f (ft145 18 rfl) c21 ?_
        refine rn_iload (ft145 19 rfl) rfl ?_
        cases h
        exact rn_iretI pr145 (ft145 20 rfl)
/-- NineWheel.way(III)I -/
theorem ft146 : ∀ (i : Nat) {q : Nat × XI}, cd146[i]? = some q → fetch 146 q.1 = some q.2 := ft_of (by decide +kernel)
theorem pr146 : pRt 146 = some .int := rfl
def f146 (v0 : Nat) (v1 : Int32) (v2 : Int32) (v3 : Int32) (w : Wd) : Option (Int32 × Wd) :=
  (if (wsh w v0).map (fun q => q.1) = some 10 then ob (f84 v0 v1 w) (fun p1 => (if p1.1 = 0 then ob (f0 v2 (0 : Int32) (4 : Int32) p1.2) (fun p3 => (if ¬ p3.1 = 0 then some ((-1000002 : Int32), p3.2)
      else ob (f93 v2 v3 p3.2) (fun p5 => (if p5.1 = 0 then ob (getR p5.2 10 v0 7) (fun x7 => (if (wsh p5.2 x7).map (fun q => q.1) = some 3 then ob (f87 x7 v1 p5.2) (fun p9 => ob (getR p9.2 10 v0 7) (fun x11 => (if (wsh p9.2 x11).map (fun q => q.1) = some 3 then ob (f94 x11 v1 v2 v3 p9.2) (fun p13 => ob (getR p13 10 v0 9) (fun x15 => ob (putZ p13 2 x15 2 (0 : Int32)) (fun w17 => some (p9.1, w17)))) else none))) else none))
        else some ((-1000002 : Int32), p5.2)))))
    else some ((-1000001 : Int32), p1.2))) else none)
set_option maxRecDepth 10000 in
theorem r146 {S : Sc} (v0 : Nat) (v1 : Int32) (v2 : Int32) (v3 : Int32) (w : Wd) (o : (Int32 × Wd)) (h : f146 v0 v1 v2 v3 w = some o) : Rn S 146 0 [some (.ref v0), some (.int v1), some (.int v2), some (.int v3), none] [] w (some (.int o.1), o.2) := by
  unfold f146 at h
  refine rn_aload_n (ft146 0 rfl) rfl ?_
  refine rn_iload_n (ft146 1 rfl) rfl ?_
  obtain ⟨g24, h⟩ := ifg h
  obtain ⟨p1, q2, h⟩ := ob_some h
  refine rn_callV (as := [.int v1]) (k0 := v0) (r := []) (v := (some (.int p1.1))) (w1 := p1.2) (ft146 2 rfl) (by decide +kernel) rfl (Nat.le_of_ble_eq_true rfl) (Nat.le_of_ble_eq_true rfl) (r84 v0 v1 w _ q2) (by decide +kernel) g24 ?_
  by_cases c23 : p1.1 = 0
  · replace h := ifp c23 h
    refine rn_if_eq_t (ft146 3 rfl) c23 ?_
    refine rn_iload_n (ft146 6 rfl) rfl ?_
    refine rn_iconst (v := (0 : Int32)) (ft146 7 rfl) (by decide) ?_
    refine rn_iconst (v := (4 : Int32)) (ft146 8 rfl) (by decide) ?_
    obtain ⟨p3, q4, h⟩ := ob_some h
    refine rn_callS (as := [.int v2, .int (0 : Int32), .int (4 : Int32)]) (r := []) (v := (some (.int p3.1))) (w1 := p3.2) (ft146 9 rfl) (by decide +kernel) rfl (Nat.le_of_ble_eq_true rfl) (Nat.le_of_ble_eq_true rfl) (r0 v2 (0 : Int32) (4 : Int32) p1.2 _ q4) ?_
    by_cases c22 : ¬ p3.1 = 0
    · replace h := ifp c22 h
      refine rn_if_ne_t (ft146 10 rfl) c22 ?_
      refine rn_ldc (v := (-1000002 : Int32)) (ft146 15 rfl) (by decide) rfl ?_
      cases h
      exact rn_iretI pr146 (ft146 16 rfl)
    · replace h := ifn c22 h
      refine rn_if_ne_f (ft146 10 rfl) c22 ?_
      refine rn_iload_n (ft146 11 rfl) rfl ?_
      refine rn_iload_n (ft146 12 rfl) rfl ?_
      obtain ⟨p5, q6, h⟩ := ob_some h
      refine rn_callS (as := [.int v2, .int v3]) (r := []) (v := (some (.int p5.1))) (w1 := p5.2) (ft146 13 rfl) (by decide +kernel) rfl (Nat.le_of_ble_eq_true rfl) (Nat.le_of_ble_eq_true rfl) (r93 v2 v3 p3.2 _ q6) ?_
      by_cases c21 : p5.1 = 0
      · replace h := ifp c21 h
        refine rn_if_eq_t (ft146 14 rfl) c21 ?_
        refine rn_aload_n (ft146 17 rfl) rfl ?_
        obtain ⟨x7, q8, h⟩ := ob_some h
        refine rn_getR (ft146 18 rfl) q8 ?_
        refine rn_iload_n (ft146 19 rfl) rfl ?_
        obtain ⟨g20, h⟩ := ifg h
        obtain ⟨p9, q10, h⟩ := ob_some h
        refine rn_callV (as := [.int v1]) (k0 := x7) (r := []) (v := (some (.int p9.1))) (w1 := p9.2) (ft146 20 rfl) (by decide +kernel) rfl (Nat.le_of_ble_eq_true rfl) (Nat.le_of_ble_eq_true rfl) (r87 x7 v1 p5.2 _ q10) (by decide +kernel) g20 ?_
        refine rn_istore (ls' := [some (.ref v0), some (.int v1), some (.int v2), some (.int v3), some (.int p9.1)]) (ft146 21 rfl) rfl ?_
        refine rn_aload_n (ft146 22 rfl) rfl ?_
        obtain ⟨x11, q12, h⟩ := ob_some h
        refine rn_getR (ft146 23 rfl) q12 ?_
        refine rn_iload_n (ft146 24 rfl) rfl ?_
        refine rn_iload_n (ft146 25 rfl) rfl ?_
        refine rn_iload_n (ft146 26 rfl) rfl ?_
        obtain ⟨g19, h⟩ := ifg h
        obtain ⟨p13, q14, h⟩ := ob_some h
        refine rn_callV (as := [.int v1, .int v2, .int v3]) (k0 := x11) (r := []) (v := none) (w1 := p13) (ft146 27 rfl) (by decide +kernel) rfl (Nat.le_of_ble_eq_true rfl) (Nat.le_of_ble_eq_true rfl) (r94 x11 v1 v2 v3 p9.2 _ q14) (by decide +kernel) g19 ?_
        refine rn_aload_n (ft146 28 rfl) rfl ?_
        obtain ⟨x15, q16, h⟩ := ob_some h
        refine rn_getR (ft146 29 rfl) q16 ?_
        refine rn_iconst (v := (0 : Int32)) (ft146 30 rfl) (by decide) ?_
        obtain ⟨w17, q18, h⟩ := ob_some h
        refine rn_putZ (ft146 31 rfl) q18 ?_
        refine rn_iload (ft146 32 rfl) rfl ?_
        cases h
        exact rn_iretI pr146 (ft146 33 rfl)
      · replace h := ifn c21 h
        refine rn_if_eq_f (ft146 14 rfl) c21 ?_
        refine rn_ldc (v := (-1000002 : Int32)) (ft146 15 rfl) (by decide) rfl ?_
        cases h
        exact rn_iretI pr146 (ft146 16 rfl)
  · replace h := ifn c23 h
    refine rn_if_eq_f (ft146 3 rfl) c23 ?_
    refine rn_ldc (v := (-1000001 : Int32)) (ft146 4 rfl) (by decide) rfl ?_
    cases h
    exact rn_iretI pr146 (ft146 5 rfl)
/-- NineWheel$Crew.foreseen(IIII)I -/
theorem ft147 : ∀ (i : Nat) {q : Nat × XI}, cd147[i]? = some q → fetch 147 q.1 = some q.2 := ft_of (by decide +kernel)
theorem pr147 : pRt 147 = some .int := rfl
def f147_J35  (v4 : Int32) (w : Wd) : Option (Int32 × Wd) :=
  some (((-99 : Int32) * v4), w)
set_option maxRecDepth 10000 in
theorem rf147_J35 {S : Sc}  (v4 : Int32) (w : Wd) (o : (Int32 × Wd))  (h : f147_J35  v4 w = some o) : Rn S 147 35 [none, none, none, none, some (.int v4), none] [] w (some (.int o.1), o.2) := by
  unfold f147_J35 at h
  refine rn_bipush (v := (-99 : Int32)) (ft147 15 rfl) (by decide) ?_
  refine rn_iload (ft147 16 rfl) rfl ?_
  refine rn_imul (ft147 17 rfl) ?_
  obtain rfl := Option.some.inj h
  exact rn_iretI pr147 (ft147 18 rfl)
def f147 (v0 : Nat) (v1 : Int32) (v2 : Int32) (v3 : Int32) (v4 : Int32) (w : Wd) : Option (Int32 × Wd) :=
  ob (f92 v2 v3 w) (fun p1 => ob (getR p1.2 2 v0 0) (fun x3 => ob (f20 p1.1 p1.2) (fun p5 => (if (wsh p5.2 x3).map (fun q => q.1) = some 6 then ob (f9 x3 p5.1 p5.2) (fun p7 => (if ¬ p7.1 = 0 then f147_J35  v4 p7.2
    else (if p1.1 < 0 then f147_J35  v4 p7.2
      else (if p1.1 < (512 : Int32) then ob (getR p7.2 2 v0 0) (fun x9 => ob (f20 p1.1 p7.2) (fun p11 => (if (wsh p11.2 x9).map (fun q => q.1) = some 6 then ob (f80 x9 v1 p11.1 p11.2) (fun p13 => ob (getR p13.2 2 v0 5) (fun x15 => ob (aldI p13.2 x15 p1.1) (fun x17 => some ((p13.1 + x17), p13.2)))) else none)))
        else f147_J35  v4 p7.2)))) else none))))
set_option maxRecDepth 10000 in
theorem r147 {S : Sc} (v0 : Nat) (v1 : Int32) (v2 : Int32) (v3 : Int32) (v4 : Int32) (w : Wd) (o : (Int32 × Wd)) (h : f147 v0 v1 v2 v3 v4 w = some o) : Rn S 147 0 [some (.ref v0), some (.int v1), some (.int v2), some (.int v3), some (.int v4), none] [] w (some (.int o.1), o.2) := by
  unfold f147 at h
  refine rn_iload_n (ft147 0 rfl) rfl ?_
  refine rn_iload_n (ft147 1 rfl) rfl ?_
  obtain ⟨p1, q2, h⟩ := ob_some h
  refine rn_callS (as := [.int v2, .int v3]) (r := []) (v := (some (.int p1.1))) (w1 := p1.2) (ft147 2 rfl) (by decide +kernel) rfl (Nat.le_of_ble_eq_true rfl) (Nat.le_of_ble_eq_true rfl) (r92 v2 v3 w _ q2) ?_
  refine rn_istore (ls' := [some (.ref v0), some (.int v1), some (.int v2), some (.int v3), some (.int v4), some (.int p1.1)]) (ft147 3 rfl) rfl ?_
  refine rn_aload_n (ft147 4 rfl) rfl ?_
  obtain ⟨x3, q4, h⟩ := ob_some h
  refine rn_getR (ft147 5 rfl) q4 ?_
  refine rn_iload (ft147 6 rfl) rfl ?_
  obtain ⟨p5, q6, h⟩ := ob_some h
  refine rn_callS (as := [.int p1.1]) (r := [.ref x3]) (v := (some (.int p5.1))) (w1 := p5.2) (ft147 7 rfl) (by decide +kernel) rfl (Nat.le_of_ble_eq_true rfl) (Nat.le_of_ble_eq_true rfl) (r20 p1.1 p1.2 _ q6) ?_
  obtain ⟨g23, h⟩ := ifg h
  obtain ⟨p7, q8, h⟩ := ob_some h
  refine rn_callV (as := [.int p5.1]) (k0 := x3) (r := []) (v := (some (.int p7.1))) (w1 := p7.2) (ft147 8 rfl) (by decide +kernel) rfl (Nat.le_of_ble_eq_true rfl) (Nat.le_of_ble_eq_true rfl) (r9 x3 p5.1 p5.2 _ q8) (by decide +kernel) g23 ?_
  by_cases c22 : ¬ p7.1 = 0
  · replace h := ifp c22 h
    refine rn_if_ne_t (ft147 9 rfl) c22 ?_
    exact rn_forget (ls := [none, none, none, none, some (.int v4), none]) (And.intro rfl trivial) (rf147_J35  v4 p7.2 _  h)
  · replace h := ifn c22 h
    refine rn_if_ne_f (ft147 9 rfl) c22 ?_
    refine rn_iload (ft147 10 rfl) rfl ?_
    by_cases c21 : p1.1 < 0
    · replace h := ifp c21 h
      refine rn_if_lt_t (ft147 11 rfl) c21 ?_
      exact rn_forget (ls := [none, none, none, none, some (.int v4), none]) (And.intro rfl trivial) (rf147_J35  v4 p7.2 _  h)
    · replace h := ifn c21 h
      refine rn_if_lt_f (ft147 11 rfl) c21 ?_
      refine rn_iload (ft147 12 rfl) rfl ?_
      refine rn_sipush (v := (512 : Int32)) (ft147 13 rfl) (by decide) ?_
      by_cases c20 : p1.1 < (512 : Int32)
      · replace h := ifp c20 h
        refine rn_icmp_lt_t (ft147 14 rfl) c20 ?_
        refine rn_aload_n (ft147 19 rfl) rfl ?_
        obtain ⟨x9, q10, h⟩ := ob_some h
        refine rn_getR (ft147 20 rfl) q10 ?_
        refine rn_iload_n (ft147 21 rfl) rfl ?_
        refine rn_iload (ft147 22 rfl) rfl ?_
        obtain ⟨p11, q12, h⟩ := ob_some h
        refine rn_callS (as := [.int p1.1]) (r := [.int v1, .ref x9]) (v := (some (.int p11.1))) (w1 := p11.2) (ft147 23 rfl) (by decide +kernel) rfl (Nat.le_of_ble_eq_true rfl) (Nat.le_of_ble_eq_true rfl) (r20 p1.1 p7.2 _ q12) ?_
        obtain ⟨g19, h⟩ := ifg h
        obtain ⟨p13, q14, h⟩ := ob_some h
        refine rn_callV (as := [.int v1, .int p11.1]) (k0 := x9) (r := []) (v := (some (.int p13.1))) (w1 := p13.2) (ft147 24 rfl) (by decide +kernel) rfl (Nat.le_of_ble_eq_true rfl) (Nat.le_of_ble_eq_true rfl) (r80 x9 v1 p11.1 p11.2 _ q14) (by decide +kernel) g19 ?_
        refine rn_aload_n (ft147 25 rfl) rfl ?_
        obtain ⟨x15, q16, h⟩ := ob_some h
        refine rn_getR (ft147 26 rfl) q16 ?_
        refine rn_iload (ft147 27 rfl) rfl ?_
        obtain ⟨x17, q18, h⟩ := ob_some h
        refine rn_iaload (ft147 28 rfl) q18 ?_
        refine rn_iadd (ft147 29 rfl) ?_
        cases h
        exact rn_iretI pr147 (ft147 30 rfl)
      · replace h := ifn c20 h
        refine rn_icmp_lt_f (ft147 14 rfl) c20 ?_
        exact rn_forget (ls := [none, none, none, none, some (.int v4), none]) (And.intro rfl trivial) (rf147_J35  v4 p7.2 _  h)
/-- NineWheel$Crew.nearest(II)I -/
theorem ft148 : ∀ (i : Nat) {q : Nat × XI}, cd148[i]? = some q → fetch 148 q.1 = some q.2 := ft_of (by decide +kernel)
theorem pr148 : pRt 148 = some .int := rfl
def f148_J84 (n : Nat) (rec21 : Nat → Int32 → Int32 → Int32 → Int32 → Int32 → Int32 → Wd → Option (Int32 × Wd)) (K21 : Int32 → Wd → Option (Int32 × Wd)) (v0 : Nat) (v2 : Int32) (v3 : Int32) (v4 : Int32) (v5 : Int32) (v7 : Int32) (v8 : Int32) (v9 : Int32) (s0 : Int32) (w : Wd) : Option (Int32 × Wd) :=
  (if v5 ≤ s0 then rec21 v0 v2 v3 v4 v5 v7 (v8 + (1 : Int32)) w
    else rec21 v0 v2 v3 v9 s0 v7 (v8 + (1 : Int32)) w)
set_option maxRecDepth 10000 in
theorem rf148_J84 {S : Sc} (n : Nat) (rec21 : Nat → Int32 → Int32 → Int32 → Int32 → Int32 → Int32 → Wd → Option (Int32 × Wd)) (K21 : Int32 → Wd → Option (Int32 × Wd)) (v0 : Nat) (v2 : Int32) (v3 : Int32) (v4 : Int32) (v5 : Int32) (v7 : Int32) (v8 : Int32) (v9 : Int32) (s0 : Int32) (w : Wd) (o : (Int32 × Wd)) (hrec21 : ∀ (y0 : Nat) (y2 : Int32) (y3 : Int32) (y4 : Int32) (y5 : Int32) (y7 : Int32) (y8 : Int32) (w : Wd) (o : (Int32 × Wd)), rec21 y0 y2 y3 y4 y5 y7 y8 w = some o → Rn S 148 36 [some (.ref y0), none, some (.int y2), some (.int y3), some (.int y4), some (.int y5), some (.float 0), some (.int y7), some (.int y8), none, none, none] [] w (some (.int o.1), o.2)) (hK21 : ∀ (y4 : Int32) (w : Wd) (o : (Int32 × Wd)), K21 y4 w = some o → Rn S 148 107 [none, none, none, none, some (.int y4), none, none, none, none, none, none, none] [] w (some (.int o.1), o.2)) (h : f148_J84 n rec21 K21 v0 v2 v3 v4 v5 v7 v8 v9 s0 w = some o) : Rn S 148 84 [some (.ref v0), none, some (.int v2), some (.int v3), some (.int v4), some (.int v5), some (.float 0), some (.int v7), some (.int v8), some (.int v9), none, none] [.int s0] w (some (.int o.1), o.2) := by
  unfold f148_J84 at h
  refine rn_istore (ls' := [some (.ref v0), none, some (.int v2), some (.int v3), some (.int v4), some (.int v5), some (.float 0), some (.int v7), some (.int v8), some (.int v9), none, some (.int s0)]) (ft148 43 rfl) rfl ?_
  refine rn_iload (ft148 44 rfl) rfl ?_
  refine rn_iload (ft148 45 rfl) rfl ?_
  by_cases c17 : v5 ≤ s0
  · replace h := ifp c17 h
    refine rn_icmp_ge_t (ft148 46 rfl) c17 ?_
    refine rn_iinc (u := 1) (ls' := [some (.ref v0), none, some (.int v2), some (.int v3), some (.int v4), some (.int v5), some (.float 0), some (.int v7), some (.int (v8 + (1 : Int32))), some (.int v9), none, some (.int s0)]) (ft148 51 rfl) rfl (by decide) rfl ?_
    refine rn_goto (ft148 52 rfl) ?_
    exact rn_forget (ls := [some (.ref v0), none, some (.int v2), some (.int v3), some (.int v4), some (.int v5), some (.float 0), some (.int v7), some (.int (v8 + (1 : Int32))), none, none, none]) (And.intro rfl (And.intro rfl (And.intro rfl (And.intro rfl (And.intro rfl (And.intro rfl (And.intro rfl (And.intro rfl trivial)))))))) (hrec21 v0 v2 v3 v4 v5 v7 (v8 + (1 : Int32)) w _ h)
  · replace h := ifn c17 h
    refine rn_icmp_ge_f (ft148 46 rfl) c17 ?_
    refine rn_iload (ft148 47 rfl) rfl ?_
    refine rn_istore (ls' := [some (.ref v0), none, some (.int v2), some (.int v3), some (.int v4), some (.int s0), some (.float 0), some (.int v7), some (.int v8), some (.int v9), none, some (.int s0)]) (ft148 48 rfl) rfl ?_
    refine rn_iload (ft148 49 rfl) rfl ?_
    refine rn_istore (ls' := [some (.ref v0), none, some (.int v2), some (.int v3), some (.int v9), some (.int s0), some (.float 0), some (.int v7), some (.int v8), some (.int v9), none, some (.int s0)]) (ft148 50 rfl) rfl ?_
    refine rn_iinc (u := 1) (ls' := [some (.ref v0), none, some (.int v2), some (.int v3), some (.int v9), some (.int s0), some (.float 0), some (.int v7), some (.int (v8 + (1 : Int32))), some (.int v9), none, some (.int s0)]) (ft148 51 rfl) rfl (by decide) rfl ?_
    refine rn_goto (ft148 52 rfl) ?_
    exact rn_forget (ls := [some (.ref v0), none, some (.int v2), some (.int v3), some (.int v9), some (.int s0), some (.float 0), some (.int v7), some (.int (v8 + (1 : Int32))), none, none, none]) (And.intro rfl (And.intro rfl (And.intro rfl (And.intro rfl (And.intro rfl (And.intro rfl (And.intro rfl (And.intro rfl trivial)))))))) (hrec21 v0 v2 v3 v9 s0 v7 (v8 + (1 : Int32)) w _ h)
def f148_H36 (n : Nat)  (K21 : Int32 → Wd → Option (Int32 × Wd)) : Nat → Nat → Int32 → Int32 → Int32 → Int32 → Int32 → Int32 → Wd → Option (Int32 × Wd)
  | 0, _, _, _, _, _, _, _, _ => none
  | k + 1, v0, v2, v3, v4, v5, v7, v8, w =>
    (if v7 ≤ v8 then K21 v4 w
      else ob (tldI S0 0 v8) (fun x5 => ob (f92 v2 x5 w) (fun p7 => ob (f20 p7.1 p7.2) (fun p9 => ob (getR p9.2 2 v0 0) (fun x11 => (if (wsh p9.2 x11).map (fun q => q.1) = some 6 then ob (f9 x11 p9.1 p9.2) (fun p13 => (if p13.1 = 0 then ob (f79 p9.1 v3 p13.2) (fun p15 => f148_J84 n (fun (v0 : Nat) (v2 : Int32) (v3 : Int32) (v4 : Int32) (v5 : Int32) (v7 : Int32) (v8 : Int32) w => f148_H36 n  K21 k v0 v2 v3 v4 v5 v7 v8 w) K21 v0 v2 v3 v4 v5 v7 v8 x5 p15.1 p15.2)
        else f148_J84 n (fun (v0 : Nat) (v2 : Int32) (v3 : Int32) (v4 : Int32) (v5 : Int32) (v7 : Int32) (v8 : Int32) w => f148_H36 n  K21 k v0 v2 v3 v4 v5 v7 v8 w) K21 v0 v2 v3 v4 v5 v7 v8 x5 (99 : Int32) p13.2)) else none))))))
set_option maxRecDepth 10000 in
theorem rf148_H36 {S : Sc} (n : Nat)  (K21 : Int32 → Wd → Option (Int32 × Wd))  (hK21 : ∀ (y4 : Int32) (w : Wd) (o : (Int32 × Wd)), K21 y4 w = some o → Rn S 148 107 [none, none, none, none, some (.int y4), none, none, none, none, none, none, none] [] w (some (.int o.1), o.2)) : ∀ (k : Nat) (v0 : Nat) (v2 : Int32) (v3 : Int32) (v4 : Int32) (v5 : Int32) (v7 : Int32) (v8 : Int32) (w : Wd) (o : (Int32 × Wd)), f148_H36 n  K21 k v0 v2 v3 v4 v5 v7 v8 w = some o → Rn S 148 36 [some (.ref v0), none, some (.int v2), some (.int v3), some (.int v4), some (.int v5), some (.float 0), some (.int v7), some (.int v8), none, none, none] [] w (some (.int o.1), o.2) := by
  intro k
  induction k with
  | zero =>
    intro v0 v2 v3 v4 v5 v7 v8 w o h
    exact nomatch h
  | succ k ih =>
    intro v0 v2 v3 v4 v5 v7 v8 w o h
    have hrec21 : ∀ (y0 : Nat) (y2 : Int32) (y3 : Int32) (y4 : Int32) (y5 : Int32) (y7 : Int32) (y8 : Int32) (w : Wd) (o : (Int32 × Wd)), (fun (v0 : Nat) (v2 : Int32) (v3 : Int32) (v4 : Int32) (v5 : Int32) (v7 : Int32) (v8 : Int32) w => f148_H36 n  K21 k v0 v2 v3 v4 v5 v7 v8 w) y0 y2 y3 y4 y5 y7 y8 w = some o → Rn S 148 36 [some (.ref y0), none, some (.int y2), some (.int y3), some (.int y4), some (.int y5), some (.float 0), some (.int y7), some (.int y8), none, none, none] [] w (some (.int o.1), o.2) := fun y0 y2 y3 y4 y5 y7 y8 w o h => ih y0 y2 y3 y4 y5 y7 y8 w o h
    unfold f148_H36 at h
    refine rn_iload (ft148 21 rfl) rfl ?_
    refine rn_iload (ft148 22 rfl) rfl ?_
    by_cases c20 : v7 ≤ v8
    · replace h := ifp c20 h
      refine rn_icmp_ge_t (ft148 23 rfl) c20 ?_
      exact rn_forget (ls := [none, none, none, none, some (.int v4), none, none, none, none, none, none, none]) (And.intro rfl trivial) (hK21 v4 w _ h)
    · replace h := ifn c20 h
      refine rn_icmp_ge_f (ft148 23 rfl) c20 ?_
      refine rn_aloadS (ft148 24 rfl) rfl ?_
      refine rn_iload (ft148 25 rfl) rfl ?_
      obtain ⟨x5, q6, h⟩ := ob_some h
      refine rn_ialoadS (ft148 26 rfl) q6 ?_
      refine rn_istore (ls' := [some (.ref v0), none, some (.int v2), some (.int v3), some (.int v4), some (.int v5), some (.float 0), some (.int v7), some (.int v8), some (.int x5), none, none]) (ft148 27 rfl) rfl ?_
      refine rn_iload_n (ft148 28 rfl) rfl ?_
      refine rn_iload (ft148 29 rfl) rfl ?_
      obtain ⟨p7, q8, h⟩ := ob_some h
      refine rn_callS (as := [.int v2, .int x5]) (r := []) (v := (some (.int p7.1))) (w1 := p7.2) (ft148 30 rfl) (by decide +kernel) rfl (Nat.le_of_ble_eq_true rfl) (Nat.le_of_ble_eq_true rfl) (r92 v2 x5 w _ q8) ?_
      obtain ⟨p9, q10, h⟩ := ob_some h
      refine rn_callS (as := [.int p7.1]) (r := []) (v := (some (.int p9.1))) (w1 := p9.2) (ft148 31 rfl) (by decide +kernel) rfl (Nat.le_of_ble_eq_true rfl) (Nat.le_of_ble_eq_true rfl) (r20 p7.1 p7.2 _ q10) ?_
      refine rn_istore (ls' := [some (.ref v0), none, some (.int v2), some (.int v3), some (.int v4), some (.int v5), some (.float 0), some (.int v7), some (.int v8), some (.int x5), some (.int p9.1), none]) (ft148 32 rfl) rfl ?_
      refine rn_aload_n (ft148 33 rfl) rfl ?_
      obtain ⟨x11, q12, h⟩ := ob_some h
      refine rn_getR (ft148 34 rfl) q12 ?_
      refine rn_iload (ft148 35 rfl) rfl ?_
      obtain ⟨g19, h⟩ := ifg h
      obtain ⟨p13, q14, h⟩ := ob_some h
      refine rn_callV (as := [.int p9.1]) (k0 := x11) (r := []) (v := (some (.int p13.1))) (w1 := p13.2) (ft148 36 rfl) (by decide +kernel) rfl (Nat.le_of_ble_eq_true rfl) (Nat.le_of_ble_eq_true rfl) (r9 x11 p9.1 p9.2 _ q14) (by decide +kernel) g19 ?_
      by_cases c18 : p13.1 = 0
      · replace h := ifp c18 h
        refine rn_if_eq_t (ft148 37 rfl) c18 ?_
        refine rn_iload (ft148 40 rfl) rfl ?_
        refine rn_iload_n (ft148 41 rfl) rfl ?_
        obtain ⟨p15, q16, h⟩ := ob_some h
        refine rn_callS (as := [.int p9.1, .int v3]) (r := []) (v := (some (.int p15.1))) (w1 := p15.2) (ft148 42 rfl) (by decide +kernel) rfl (Nat.le_of_ble_eq_true rfl) (Nat.le_of_ble_eq_true rfl) (r79 p9.1 v3 p13.2 _ q16) ?_
        exact rn_forget (ls := [some (.ref v0), none, some (.int v2), some (.int v3), some (.int v4), some (.int v5), some (.float 0), some (.int v7), some (.int v8), some (.int x5), none, none]) (And.intro rfl (And.intro rfl (And.intro rfl (And.intro rfl (And.intro rfl (And.intro rfl (And.intro rfl (And.intro rfl (And.intro rfl trivial))))))))) (rf148_J84 n (fun (v0 : Nat) (v2 : Int32) (v3 : Int32) (v4 : Int32) (v5 : Int32) (v7 : Int32) (v8 : Int32) w => f148_H36 n  K21 k v0 v2 v3 v4 v5 v7 v8 w) K21 v0 v2 v3 v4 v5 v7 v8 x5 p15.1 p15.2 _ hrec21 hK21 h)
      · replace h := ifn c18 h
        refine rn_if_eq_f (ft148 37 rfl) c18 ?_
        refine rn_bipush (v := (99 : Int32)) (ft148 38 rfl) (by decide) ?_
        refine rn_goto (ft148 39 rfl) ?_
        exact rn_forget (ls := [some (.ref v0), none, some (.int v2), some (.int v3), some (.int v4), some (.int v5), some (.float 0), some (.int v7), some (.int v8), some (.int x5), none, none]) (And.intro rfl (And.intro rfl (And.intro rfl (And.intro rfl (And.intro rfl (And.intro rfl (And.intro rfl (And.intro rfl (And.intro rfl trivial))))))))) (rf148_J84 n (fun (v0 : Nat) (v2 : Int32) (v3 : Int32) (v4 : Int32) (v5 : Int32) (v7 : Int32) (v8 : Int32) w => f148_H36 n  K21 k v0 v2 v3 v4 v5 v7 v8 w) K21 v0 v2 v3 v4 v5 v7 v8 x5 (99 : Int32) p13.2 _ hrec21 hK21 h)
def f148 (n : Nat) (v0 : Nat) (v1 : Int32) (v2 : Int32) (w : Wd) : Option (Int32 × Wd) :=
  ob (getR w 2 v0 0) (fun x1 => (if (wsh w x1).map (fun q => q.1) = some 6 then ob (f86 x1 v1 w) (fun p3 => (if ¬ p3.1 = (-1 : Int32) then f148_H36 n  (fun (e4_21 : Int32) (w21 : Wd) => some (e4_21, w21)) n v0 v2 p3.1 (0 : Int32) (100 : Int32) 3 (0 : Int32) p3.2
    else some ((0 : Int32), p3.2))) else none))
set_option maxRecDepth 10000 in
theorem r148 {S : Sc} (n : Nat) (v0 : Nat) (v1 : Int32) (v2 : Int32) (w : Wd) (o : (Int32 × Wd)) (h : f148 n v0 v1 v2 w = some o) : Rn S 148 0 [some (.ref v0), some (.int v1), some (.int v2), none, none, none, none, none, none, none, none, none] [] w (some (.int o.1), o.2) := by
  unfold f148 at h
  refine rn_aload_n (ft148 0 rfl) rfl ?_
  obtain ⟨x1, q2, h⟩ := ob_some h
  refine rn_getR (ft148 1 rfl) q2 ?_
  refine rn_iload_n (ft148 2 rfl) rfl ?_
  obtain ⟨g23, h⟩ := ifg h
  obtain ⟨p3, q4, h⟩ := ob_some h
  refine rn_callV (as := [.int v1]) (k0 := x1) (r := []) (v := (some (.int p3.1))) (w1 := p3.2) (ft148 3 rfl) (by decide +kernel) rfl (Nat.le_of_ble_eq_true rfl) (Nat.le_of_ble_eq_true rfl) (r86 x1 v1 w _ q4) (by decide +kernel) g23 ?_
  refine rn_istore_n (ls' := [some (.ref v0), some (.int v1), some (.int v2), some (.int p3.1), none, none, none, none, none, none, none, none]) (ft148 4 rfl) rfl ?_
  refine rn_iconst (v := (0 : Int32)) (ft148 5 rfl) (by decide) ?_
  refine rn_istore (ls' := [some (.ref v0), some (.int v1), some (.int v2), some (.int p3.1), some (.int (0 : Int32)), none, none, none, none, none, none, none]) (ft148 6 rfl) rfl ?_
  refine rn_bipush (v := (100 : Int32)) (ft148 7 rfl) (by decide) ?_
  refine rn_istore (ls' := [some (.ref v0), some (.int v1), some (.int v2), some (.int p3.1), some (.int (0 : Int32)), some (.int (100 : Int32)), none, none, none, none, none, none]) (ft148 8 rfl) rfl ?_
  refine rn_iload_n (ft148 9 rfl) rfl ?_
  refine rn_iconst (v := (-1 : Int32)) (ft148 10 rfl) (by decide) ?_
  by_cases c22 : ¬ p3.1 = (-1 : Int32)
  · replace h := ifp c22 h
    refine rn_icmp_ne_t (ft148 11 rfl) c22 ?_
    refine rn_gets (v := .float 0) (ft148 14 rfl) rfl ?_
    refine rn_astoreS (ls' := [some (.ref v0), some (.int v1), some (.int v2), some (.int p3.1), some (.int (0 : Int32)), some (.int (100 : Int32)), some (.float 0), none, none, none, none, none]) (ft148 15 rfl) rfl ?_
    refine rn_aloadS (ft148 16 rfl) rfl ?_
    refine rn_alenS (v := 3) (ft148 17 rfl) rfl ?_
    refine rn_istore (ls' := [some (.ref v0), some (.int v1), some (.int v2), some (.int p3.1), some (.int (0 : Int32)), some (.int (100 : Int32)), some (.float 0), some (.int 3), none, none, none, none]) (ft148 18 rfl) rfl ?_
    refine rn_iconst (v := (0 : Int32)) (ft148 19 rfl) (by decide) ?_
    refine rn_istore (ls' := [some (.ref v0), some (.int v1), some (.int v2), some (.int p3.1), some (.int (0 : Int32)), some (.int (100 : Int32)), some (.float 0), some (.int 3), some (.int (0 : Int32)), none, none, none]) (ft148 20 rfl) rfl ?_
    refine rn_forget (ls := [some (.ref v0), none, some (.int v2), some (.int p3.1), some (.int (0 : Int32)), some (.int (100 : Int32)), some (.float 0), some (.int 3), some (.int (0 : Int32)), none, none, none]) (And.intro rfl (And.intro rfl (And.intro rfl (And.intro rfl (And.intro rfl (And.intro rfl (And.intro rfl (And.intro rfl trivial)))))))) (rf148_H36 n  _  (fun e4_21 w21 o h => ?_) n v0 v2 p3.1 (0 : Int32) (100 : Int32) 3 (0 : Int32) p3.2 _ h)
    refine rn_iload (ft148 53 rfl) rfl ?_
    cases h
    exact rn_iretI pr148 (ft148 54 rfl)
  · replace h := ifn c22 h
    refine rn_icmp_ne_f (ft148 11 rfl) c22 ?_
    refine rn_iconst (v := (0 : Int32)) (ft148 12 rfl) (by decide) ?_
    cases h
    exact rn_iretI pr148 (ft148 13 rfl)
/-- NineWheel$Crew.mostSeeing(II)I -/
theorem ft149 : ∀ (i : Nat) {q : Nat × XI}, cd149[i]? = some q → fetch 149 q.1 = some q.2 := ft_of (by decide +kernel)
theorem pr149 : pRt 149 = some .int := rfl
def f149_H9 (n : Nat)  (K5 : Nat → Wd → Option (Int32 × Wd)) : Nat → Nat → Int32 → Int32 → Int32 → Wd → Option (Int32 × Wd)
  | 0, _, _, _, _, _ => none
  | k + 1, v0, v1, v2, v3, w =>
    ob (getR w 2 v0 0) (fun x5 => ob (getI w 6 x5 5) (fun x7 => (if x7 ≤ v3 then K5 v0 w
      else ob (f16 v2 v3 w) (fun p9 => (if ¬ p9.1 = 0 then (fun (v0 : Nat) (v1 : Int32) (v2 : Int32) (v3 : Int32) w => f149_H9 n  K5 k v0 v1 v2 v3 w) v0 v1 v2 (v3 + (1 : Int32)) p9.2
        else ob (getR p9.2 2 v0 6) (fun x11 => (if (wsh p9.2 v0).map (fun q => q.1) = some 2 then ob (f96 v0 v3 v1 p9.2) (fun p13 => ob (getR p13.2 2 v0 0) (fun x15 => (if (wsh p13.2 x15).map (fun q => q.1) = some 6 then ob (f83 x15 v3 p13.2) (fun p17 => (if (wsh p17.2 x11).map (fun q => q.1) = some 8 then ob (f24 x11 v3 p13.1 p17.1 p17.2) (fun p19 => (fun (v0 : Nat) (v1 : Int32) (v2 : Int32) (v3 : Int32) w => f149_H9 n  K5 k v0 v1 v2 v3 w) v0 v1 v2 (v3 + (1 : Int32)) p19) else none)) else none))) else none)))))))
set_option maxRecDepth 10000 in
theorem rf149_H9 {S : Sc} (n : Nat)  (K5 : Nat → Wd → Option (Int32 × Wd))  (hK5 : ∀ (y0 : Nat) (w : Wd) (o : (Int32 × Wd)), K5 y0 w = some o → Rn S 149 56 [some (.ref y0), none, none, none] [] w (some (.int o.1), o.2)) : ∀ (k : Nat) (v0 : Nat) (v1 : Int32) (v2 : Int32) (v3 : Int32) (w : Wd) (o : (Int32 × Wd)), f149_H9 n  K5 k v0 v1 v2 v3 w = some o → Rn S 149 9 [some (.ref v0), some (.int v1), some (.int v2), some (.int v3)] [] w (some (.int o.1), o.2) := by
  intro k
  induction k with
  | zero =>
    intro v0 v1 v2 v3 w o h
    exact nomatch h
  | succ k ih =>
    intro v0 v1 v2 v3 w o h
    have hrec5 : ∀ (y0 : Nat) (y1 : Int32) (y2 : Int32) (y3 : Int32) (w : Wd) (o : (Int32 × Wd)), (fun (v0 : Nat) (v1 : Int32) (v2 : Int32) (v3 : Int32) w => f149_H9 n  K5 k v0 v1 v2 v3 w) y0 y1 y2 y3 w = some o → Rn S 149 9 [some (.ref y0), some (.int y1), some (.int y2), some (.int y3)] [] w (some (.int o.1), o.2) := fun y0 y1 y2 y3 w o h => ih y0 y1 y2 y3 w o h
    unfold f149_H9 at h
    refine rn_iload_n (ft149 5 rfl) rfl ?_
    refine rn_aload_n (ft149 6 rfl) rfl ?_
    obtain ⟨x5, q6, h⟩ := ob_some h
    refine rn_getR (ft149 7 rfl) q6 ?_
    obtain ⟨x7, q8, h⟩ := ob_some h
    refine rn_getI (ft149 8 rfl) (by decide) (by decide) q8 ?_
    by_cases c25 : x7 ≤ v3
    · replace h := ifp c25 h
      refine rn_icmp_ge_t (ft149 9 rfl) c25 ?_
      exact rn_forget (ls := [some (.ref v0), none, none, none]) (And.intro rfl trivial) (hK5 v0 w _ h)
    · replace h := ifn c25 h
      refine rn_icmp_ge_f (ft149 9 rfl) c25 ?_
      refine rn_iload_n (ft149 10 rfl) rfl ?_
      refine rn_iload_n (ft149 11 rfl) rfl ?_
      obtain ⟨p9, q10, h⟩ := ob_some h
      refine rn_callS (as := [.int v2, .int v3]) (r := []) (v := (some (.int p9.1))) (w1 := p9.2) (ft149 12 rfl) (by decide +kernel) rfl (Nat.le_of_ble_eq_true rfl) (Nat.le_of_ble_eq_true rfl) (r16 v2 v3 w _ q10) ?_
      by_cases c24 : ¬ p9.1 = 0
      · replace h := ifp c24 h
        refine rn_if_ne_t (ft149 13 rfl) c24 ?_
        refine rn_iinc (u := 1) (ls' := [some (.ref v0), some (.int v1), some (.int v2), some (.int (v3 + (1 : Int32)))]) (ft149 26 rfl) rfl (by decide) rfl ?_
        refine rn_goto (ft149 27 rfl) ?_
        exact rn_forget (ls := [some (.ref v0), some (.int v1), some (.int v2), some (.int (v3 + (1 : Int32)))]) (And.intro rfl (And.intro rfl (And.intro rfl (And.intro rfl trivial)))) (hrec5 v0 v1 v2 (v3 + (1 : Int32)) p9.2 _ h)
      · replace h := ifn c24 h
        refine rn_if_ne_f (ft149 13 rfl) c24 ?_
        refine rn_aload_n (ft149 14 rfl) rfl ?_
        obtain ⟨x11, q12, h⟩ := ob_some h
        refine rn_getR (ft149 15 rfl) q12 ?_
        refine rn_iload_n (ft149 16 rfl) rfl ?_
        refine rn_aload_n (ft149 17 rfl) rfl ?_
        refine rn_iload_n (ft149 18 rfl) rfl ?_
        refine rn_iload_n (ft149 19 rfl) rfl ?_
        obtain ⟨g23, h⟩ := ifg h
        obtain ⟨p13, q14, h⟩ := ob_some h
        refine rn_callV (as := [.int v3, .int v1]) (k0 := v0) (r := [.int v3, .ref x11]) (v := (some (.int p13.1))) (w1 := p13.2) (ft149 20 rfl) (by decide +kernel) rfl (Nat.le_of_ble_eq_true rfl) (Nat.le_of_ble_eq_true rfl) (r96 v0 v3 v1 p9.2 _ q14) (by decide +kernel) g23 ?_
        refine rn_aload_n (ft149 21 rfl) rfl ?_
        obtain ⟨x15, q16, h⟩ := ob_some h
        refine rn_getR (ft149 22 rfl) q16 ?_
        refine rn_iload_n (ft149 23 rfl) rfl ?_
        obtain ⟨g22, h⟩ := ifg h
        obtain ⟨p17, q18, h⟩ := ob_some h
        refine rn_callV (as := [.int v3]) (k0 := x15) (r := [.int p13.1, .int v3, .ref x11]) (v := (some (.int p17.1))) (w1 := p17.2) (ft149 24 rfl) (by decide +kernel) rfl (Nat.le_of_ble_eq_true rfl) (Nat.le_of_ble_eq_true rfl) (r83 x15 v3 p13.2 _ q18) (by decide +kernel) g22 ?_
        obtain ⟨g21, h⟩ := ifg h
        obtain ⟨p19, q20, h⟩ := ob_some h
        refine rn_callV (as := [.int v3, .int p13.1, .int p17.1]) (k0 := x11) (r := []) (v := none) (w1 := p19) (ft149 25 rfl) (by decide +kernel) rfl (Nat.le_of_ble_eq_true rfl) (Nat.le_of_ble_eq_true rfl) (r24 x11 v3 p13.1 p17.1 p17.2 _ q20) (by decide +kernel) g21 ?_
        refine rn_iinc (u := 1) (ls' := [some (.ref v0), some (.int v1), some (.int v2), some (.int (v3 + (1 : Int32)))]) (ft149 26 rfl) rfl (by decide) rfl ?_
        refine rn_goto (ft149 27 rfl) ?_
        exact rn_forget (ls := [some (.ref v0), some (.int v1), some (.int v2), some (.int (v3 + (1 : Int32)))]) (And.intro rfl (And.intro rfl (And.intro rfl (And.intro rfl trivial)))) (hrec5 v0 v1 v2 (v3 + (1 : Int32)) p19 _ h)
def f149 (n : Nat) (v0 : Nat) (v1 : Int32) (v2 : Int32) (w : Wd) : Option (Int32 × Wd) :=
  ob (getR w 2 v0 6) (fun x1 => (if (wsh w x1).map (fun q => q.1) = some 8 then ob (f23 x1 w) (fun p3 => f149_H9 n  (fun (e0_26 : Nat) (w26 : Wd) => ob (getR w26 2 e0_26 6) (fun x27 => (if (wsh w26 x27).map (fun q => q.1) = some 8 then ob (f25 x27 w26) (fun p29 => some (p29.1, p29.2)) else none))) n v0 v1 v2 (0 : Int32) p3) else none))
set_option maxRecDepth 10000 in
theorem r149 {S : Sc} (n : Nat) (v0 : Nat) (v1 : Int32) (v2 : Int32) (w : Wd) (o : (Int32 × Wd)) (h : f149 n v0 v1 v2 w = some o) : Rn S 149 0 [some (.ref v0), some (.int v1), some (.int v2), none] [] w (some (.int o.1), o.2) := by
  unfold f149 at h
  refine rn_aload_n (ft149 0 rfl) rfl ?_
  obtain ⟨x1, q2, h⟩ := ob_some h
  refine rn_getR (ft149 1 rfl) q2 ?_
  obtain ⟨g32, h⟩ := ifg h
  obtain ⟨p3, q4, h⟩ := ob_some h
  refine rn_callV (as := []) (k0 := x1) (r := []) (v := none) (w1 := p3) (ft149 2 rfl) (by decide +kernel) rfl (Nat.le_of_ble_eq_true rfl) (Nat.le_of_ble_eq_true rfl) (r23 x1 w _ q4) (by decide +kernel) g32 ?_
  refine rn_iconst (v := (0 : Int32)) (ft149 3 rfl) (by decide) ?_
  refine rn_istore_n (ls' := [some (.ref v0), some (.int v1), some (.int v2), some (.int (0 : Int32))]) (ft149 4 rfl) rfl ?_
  refine rn_forget (ls := [some (.ref v0), some (.int v1), some (.int v2), some (.int (0 : Int32))]) (And.intro rfl (And.intro rfl (And.intro rfl (And.intro rfl trivial)))) (rf149_H9 n  _  (fun e0_26 w26 o h => ?_) n v0 v1 v2 (0 : Int32) p3 _ h)
  refine rn_aload_n (ft149 28 rfl) rfl ?_
  obtain ⟨x27, q28, h⟩ := ob_some h
  refine rn_getR (ft149 29 rfl) q28 ?_
  obtain ⟨g31, h⟩ := ifg h
  obtain ⟨p29, q30, h⟩ := ob_some h
  refine rn_callV (as := []) (k0 := x27) (r := []) (v := (some (.int p29.1))) (w1 := p29.2) (ft149 30 rfl) (by decide +kernel) rfl (Nat.le_of_ble_eq_true rfl) (Nat.le_of_ble_eq_true rfl) (r25 x27 w26 _ q30) (by decide +kernel) g31 ?_
  cases h
  exact rn_iretI pr149 (ft149 31 rfl)
/-- NineWheel$Sea.sortInTurn(I)I -/
theorem ft150 : ∀ (i : Nat) {q : Nat × XI}, cd150[i]? = some q → fetch 150 q.1 = some q.2 := ft_of (by decide +kernel)
theorem pr150 : pRt 150 = some .int := rfl
def f150_H18 (n : Nat)  (K12 : Wd → Option (Int32 × Wd)) : Nat → Nat → Int32 → Int32 → Wd → Option (Int32 × Wd)
  | 0, _, _, _, _ => none
  | k + 1, v0, v2, v3, w =>
    ob (getI w 6 v0 5) (fun x5 => (if x5 ≤ v3 then K12 w
      else (if (wsh w v0).map (fun q => q.1) = some 6 then ob (f83 v0 v3 w) (fun p7 => (if 0 ≤ (v2 - p7.1) then (fun (v0 : Nat) (v2 : Int32) (v3 : Int32) w => f150_H18 n  K12 k v0 v2 v3 w) v0 (v2 - p7.1) (v3 + (1 : Int32)) p7.2
        else some (v3, p7.2))) else none)))
set_option maxRecDepth 10000 in
theorem rf150_H18 {S : Sc} (n : Nat)  (K12 : Wd → Option (Int32 × Wd))  (hK12 : ∀  (w : Wd) (o : (Int32 × Wd)), K12 w = some o → Rn S 150 46 [none, none, none, none] [] w (some (.int o.1), o.2)) : ∀ (k : Nat) (v0 : Nat) (v2 : Int32) (v3 : Int32) (w : Wd) (o : (Int32 × Wd)), f150_H18 n  K12 k v0 v2 v3 w = some o → Rn S 150 18 [some (.ref v0), none, some (.int v2), some (.int v3)] [] w (some (.int o.1), o.2) := by
  intro k
  induction k with
  | zero =>
    intro v0 v2 v3 w o h
    exact nomatch h
  | succ k ih =>
    intro v0 v2 v3 w o h
    have hrec12 : ∀ (y0 : Nat) (y2 : Int32) (y3 : Int32) (w : Wd) (o : (Int32 × Wd)), (fun (v0 : Nat) (v2 : Int32) (v3 : Int32) w => f150_H18 n  K12 k v0 v2 v3 w) y0 y2 y3 w = some o → Rn S 150 18 [some (.ref y0), none, some (.int y2), some (.int y3)] [] w (some (.int o.1), o.2) := fun y0 y2 y3 w o h => ih y0 y2 y3 w o h
    unfold f150_H18 at h
    refine rn_iload_n (ft150 12 rfl) rfl ?_
    refine rn_aload_n (ft150 13 rfl) rfl ?_
    obtain ⟨x5, q6, h⟩ := ob_some h
    refine rn_getI (ft150 14 rfl) (by decide) (by decide) q6 ?_
    by_cases c11 : x5 ≤ v3
    · replace h := ifp c11 h
      refine rn_icmp_ge_t (ft150 15 rfl) c11 ?_
      exact rn_forget (ls := [none, none, none, none]) trivial (hK12 w _ h)
    · replace h := ifn c11 h
      refine rn_icmp_ge_f (ft150 15 rfl) c11 ?_
      refine rn_iload_n (ft150 16 rfl) rfl ?_
      refine rn_aload_n (ft150 17 rfl) rfl ?_
      refine rn_iload_n (ft150 18 rfl) rfl ?_
      obtain ⟨g10, h⟩ := ifg h
      obtain ⟨p7, q8, h⟩ := ob_some h
      refine rn_callV (as := [.int v3]) (k0 := v0) (r := [.int v2]) (v := (some (.int p7.1))) (w1 := p7.2) (ft150 19 rfl) (by decide +kernel) rfl (Nat.le_of_ble_eq_true rfl) (Nat.le_of_ble_eq_true rfl) (r83 v0 v3 w _ q8) (by decide +kernel) g10 ?_
      refine rn_isub (ft150 20 rfl) ?_
      refine rn_istore_n (ls' := [some (.ref v0), none, some (.int (v2 - p7.1)), some (.int v3)]) (ft150 21 rfl) rfl ?_
      refine rn_iload_n (ft150 22 rfl) rfl ?_
      by_cases c9 : 0 ≤ (v2 - p7.1)
      · replace h := ifp c9 h
        refine rn_if_ge_t (ft150 23 rfl) c9 ?_
        refine rn_iinc (u := 1) (ls' := [some (.ref v0), none, some (.int (v2 - p7.1)), some (.int (v3 + (1 : Int32)))]) (ft150 26 rfl) rfl (by decide) rfl ?_
        refine rn_goto (ft150 27 rfl) ?_
        exact rn_forget (ls := [some (.ref v0), none, some (.int (v2 - p7.1)), some (.int (v3 + (1 : Int32)))]) (And.intro rfl (And.intro rfl (And.intro rfl trivial))) (hrec12 v0 (v2 - p7.1) (v3 + (1 : Int32)) p7.2 _ h)
      · replace h := ifn c9 h
        refine rn_if_ge_f (ft150 23 rfl) c9 ?_
        refine rn_iload_n (ft150 24 rfl) rfl ?_
        cases h
        exact rn_iretI pr150 (ft150 25 rfl)
def f150 (n : Nat) (v0 : Nat) (v1 : Int32) (w : Wd) : Option (Int32 × Wd) :=
  ob (getI w 6 v0 6) (fun x1 => (if 0 < x1 then ob (getI w 6 v0 6) (fun x3 => (if ¬ x3 = 0 then f150_H18 n  (fun  (w12 : Wd) => some ((0 : Int32), w12)) n v0 (irm v1 x3) (0 : Int32) w else none))
    else some ((0 : Int32), w)))
set_option maxRecDepth 10000 in
theorem r150 {S : Sc} (n : Nat) (v0 : Nat) (v1 : Int32) (w : Wd) (o : (Int32 × Wd)) (h : f150 n v0 v1 w = some o) : Rn S 150 0 [some (.ref v0), some (.int v1), none, none] [] w (some (.int o.1), o.2) := by
  unfold f150 at h
  refine rn_aload_n (ft150 0 rfl) rfl ?_
  obtain ⟨x1, q2, h⟩ := ob_some h
  refine rn_getI (ft150 1 rfl) (by decide) (by decide) q2 ?_
  by_cases c14 : 0 < x1
  · replace h := ifp c14 h
    refine rn_if_gt_t (ft150 2 rfl) c14 ?_
    refine rn_iload_n (ft150 5 rfl) rfl ?_
    refine rn_aload_n (ft150 6 rfl) rfl ?_
    obtain ⟨x3, q4, h⟩ := ob_some h
    refine rn_getI (ft150 7 rfl) (by decide) (by decide) q4 ?_
    obtain ⟨g13, h⟩ := ifg h
    refine rn_irem (ft150 8 rfl) g13 ?_
    refine rn_istore_n (ls' := [some (.ref v0), some (.int v1), some (.int (irm v1 x3)), none]) (ft150 9 rfl) rfl ?_
    refine rn_iconst (v := (0 : Int32)) (ft150 10 rfl) (by decide) ?_
    refine rn_istore_n (ls' := [some (.ref v0), some (.int v1), some (.int (irm v1 x3)), some (.int (0 : Int32))]) (ft150 11 rfl) rfl ?_
    refine rn_forget (ls := [some (.ref v0), none, some (.int (irm v1 x3)), some (.int (0 : Int32))]) (And.intro rfl (And.intro rfl (And.intro rfl trivial))) (rf150_H18 n  _  (fun  w12 o h => ?_) n v0 (irm v1 x3) (0 : Int32) w _ h)
    refine rn_iconst (v := (0 : Int32)) (ft150 28 rfl) (by decide) ?_
    cases h
    exact rn_iretI pr150 (ft150 29 rfl)
  · replace h := ifn c14 h
    refine rn_if_gt_f (ft150 2 rfl) c14 ?_
    refine rn_iconst (v := (0 : Int32)) (ft150 3 rfl) (by decide) ?_
    cases h
    exact rn_iretI pr150 (ft150 4 rfl)
/-- NineWheel$Rule.dodge(LNineWheel$Sea;I)I -/
theorem ft151 : ∀ (i : Nat) {q : Nat × XI}, cd151[i]? = some q → fetch 151 q.1 = some q.2 := ft_of (by decide +kernel)
theorem pr151 : pRt 151 = some .int := rfl
def f151_H5 (n : Nat)  (K4 : Wd → Option (Int32 × Wd)) : Nat → Nat → Nat → Int32 → Int32 → Wd → Option (Int32 × Wd)
  | 0, _, _, _, _, _ => none
  | k + 1, v0, v1, v3, v4, w =>
    ob (getI w 5 v0 4) (fun x1 => (if x1 ≤ v4 then K4 w
      else ob (f92 v3 (0 : Int32) w) (fun p3 => ob (f20 p3.1 p3.2) (fun p5 => (if (wsh p5.2 v1).map (fun q => q.1) = some 6 then ob (f9 v1 p5.1 p5.2) (fun p7 => (if p7.1 = 0 then (fun (v0 : Nat) (v1 : Nat) (v3 : Int32) (v4 : Int32) w => f151_H5 n  K4 k v0 v1 v3 v4 w) v0 v1 p3.1 (v4 + (1 : Int32)) p7.2
        else ob (getI p7.2 5 v0 3) (fun x9 => some (x9, p7.2)))) else none)))))
set_option maxRecDepth 10000 in
theorem rf151_H5 {S : Sc} (n : Nat)  (K4 : Wd → Option (Int32 × Wd))  (hK4 : ∀  (w : Wd) (o : (Int32 × Wd)), K4 w = some o → Rn S 151 42 [none, none, none, none, none] [] w (some (.int o.1), o.2)) : ∀ (k : Nat) (v0 : Nat) (v1 : Nat) (v3 : Int32) (v4 : Int32) (w : Wd) (o : (Int32 × Wd)), f151_H5 n  K4 k v0 v1 v3 v4 w = some o → Rn S 151 5 [some (.ref v0), some (.ref v1), none, some (.int v3), some (.int v4)] [] w (some (.int o.1), o.2) := by
  intro k
  induction k with
  | zero =>
    intro v0 v1 v3 v4 w o h
    exact nomatch h
  | succ k ih =>
    intro v0 v1 v3 v4 w o h
    have hrec4 : ∀ (y0 : Nat) (y1 : Nat) (y3 : Int32) (y4 : Int32) (w : Wd) (o : (Int32 × Wd)), (fun (v0 : Nat) (v1 : Nat) (v3 : Int32) (v4 : Int32) w => f151_H5 n  K4 k v0 v1 v3 v4 w) y0 y1 y3 y4 w = some o → Rn S 151 5 [some (.ref y0), some (.ref y1), none, some (.int y3), some (.int y4)] [] w (some (.int o.1), o.2) := fun y0 y1 y3 y4 w o h => ih y0 y1 y3 y4 w o h
    unfold f151_H5 at h
    refine rn_iload (ft151 4 rfl) rfl ?_
    refine rn_aload_n (ft151 5 rfl) rfl ?_
    obtain ⟨x1, q2, h⟩ := ob_some h
    refine rn_getI (ft151 6 rfl) (by decide) (by decide) q2 ?_
    by_cases c13 : x1 ≤ v4
    · replace h := ifp c13 h
      refine rn_icmp_ge_t (ft151 7 rfl) c13 ?_
      exact rn_forget (ls := [none, none, none, none, none]) trivial (hK4 w _ h)
    · replace h := ifn c13 h
      refine rn_icmp_ge_f (ft151 7 rfl) c13 ?_
      refine rn_iload_n (ft151 8 rfl) rfl ?_
      refine rn_iconst (v := (0 : Int32)) (ft151 9 rfl) (by decide) ?_
      obtain ⟨p3, q4, h⟩ := ob_some h
      refine rn_callS (as := [.int v3, .int (0 : Int32)]) (r := []) (v := (some (.int p3.1))) (w1 := p3.2) (ft151 10 rfl) (by decide +kernel) rfl (Nat.le_of_ble_eq_true rfl) (Nat.le_of_ble_eq_true rfl) (r92 v3 (0 : Int32) w _ q4) ?_
      refine rn_istore_n (ls' := [some (.ref v0), some (.ref v1), none, some (.int p3.1), some (.int v4)]) (ft151 11 rfl) rfl ?_
      refine rn_aload_n (ft151 12 rfl) rfl ?_
      refine rn_iload_n (ft151 13 rfl) rfl ?_
      obtain ⟨p5, q6, h⟩ := ob_some h
      refine rn_callS (as := [.int p3.1]) (r := [.ref v1]) (v := (some (.int p5.1))) (w1 := p5.2) (ft151 14 rfl) (by decide +kernel) rfl (Nat.le_of_ble_eq_true rfl) (Nat.le_of_ble_eq_true rfl) (r20 p3.1 p3.2 _ q6) ?_
      obtain ⟨g12, h⟩ := ifg h
      obtain ⟨p7, q8, h⟩ := ob_some h
      refine rn_callV (as := [.int p5.1]) (k0 := v1) (r := []) (v := (some (.int p7.1))) (w1 := p7.2) (ft151 15 rfl) (by decide +kernel) rfl (Nat.le_of_ble_eq_true rfl) (Nat.le_of_ble_eq_true rfl) (r9 v1 p5.1 p5.2 _ q8) (by decide +kernel) g12 ?_
      by_cases c11 : p7.1 = 0
      · replace h := ifp c11 h
        refine rn_if_eq_t (ft151 16 rfl) c11 ?_
        refine rn_iinc (u := 1) (ls' := [some (.ref v0), some (.ref v1), none, some (.int p3.1), some (.int (v4 + (1 : Int32)))]) (ft151 20 rfl) rfl (by decide) rfl ?_
        refine rn_goto (ft151 21 rfl) ?_
        exact rn_forget (ls := [some (.ref v0), some (.ref v1), none, some (.int p3.1), some (.int (v4 + (1 : Int32)))]) (And.intro rfl (And.intro rfl (And.intro rfl (And.intro rfl trivial)))) (hrec4 v0 v1 p3.1 (v4 + (1 : Int32)) p7.2 _ h)
      · replace h := ifn c11 h
        refine rn_if_eq_f (ft151 16 rfl) c11 ?_
        refine rn_aload_n (ft151 17 rfl) rfl ?_
        obtain ⟨x9, q10, h⟩ := ob_some h
        refine rn_getI (ft151 18 rfl) (by decide) (by decide) q10 ?_
        cases h
        exact rn_iretI pr151 (ft151 19 rfl)
def f151 (n : Nat) (v0 : Nat) (v1 : Nat) (v2 : Int32) (w : Wd) : Option (Int32 × Wd) :=
  f151_H5 n  (fun  (w14 : Wd) => some ((0 : Int32), w14)) n v0 v1 v2 (0 : Int32) w
set_option maxRecDepth 10000 in
theorem r151 {S : Sc} (n : Nat) (v0 : Nat) (v1 : Nat) (v2 : Int32) (w : Wd) (o : (Int32 × Wd)) (h : f151 n v0 v1 v2 w = some o) : Rn S 151 0 [some (.ref v0), some (.ref v1), some (.int v2), none, none] [] w (some (.int o.1), o.2) := by
  unfold f151 at h
  refine rn_iload_n (ft151 0 rfl) rfl ?_
  refine rn_istore_n (ls' := [some (.ref v0), some (.ref v1), some (.int v2), some (.int v2), none]) (ft151 1 rfl) rfl ?_
  refine rn_iconst (v := (0 : Int32)) (ft151 2 rfl) (by decide) ?_
  refine rn_istore (ls' := [some (.ref v0), some (.ref v1), some (.int v2), some (.int v2), some (.int (0 : Int32))]) (ft151 3 rfl) rfl ?_
  refine rn_forget (ls := [some (.ref v0), some (.ref v1), none, some (.int v2), some (.int (0 : Int32))]) (And.intro rfl (And.intro rfl (And.intro rfl (And.intro rfl trivial)))) (rf151_H5 n  _  (fun  w14 o h => ?_) n v0 v1 v2 (0 : Int32) w _ h)
  refine rn_iconst (v := (0 : Int32)) (ft151 22 rfl) (by decide) ?_
  cases h
  exact rn_iretI pr151 (ft151 23 rfl)
