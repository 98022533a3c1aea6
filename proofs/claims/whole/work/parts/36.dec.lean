/-! THE METHODS AS FUNCTIONS, 19 -/
/-- NineWheelModel.takeLikes(I)I -/
theorem ft202 : ∀ (i : Nat) {q : Nat × XI}, cd202[i]? = some q → fetch 202 q.1 = some q.2 := ft_of (by decide +kernel)
theorem pr202 : pRt 202 = some .int := rfl
def f202_J35 (n : Nat) (rec4 : Nat → Int32 → Int32 → Wd → Option (Int32 × Wd)) (K4 : Wd → Option (Int32 × Wd)) (v0 : Nat) (v1 : Int32) (v4 : Int32) (s0 : Int32) (w : Wd) : Option (Int32 × Wd) :=
  (if s0 ≤ 0 then ob (getR w 11 v0 31) (fun x9 => ob (getI w 11 v0 20) (fun x11 => ob (astI w x9 (((64 : Int32) * v1) + v4) x11) (fun w13 => (if (wsh w13 v0).map (fun q => q.1) = some 11 then ob (f114 n v0 w13) (fun p15 => rec4 v0 v1 p15.1 p15.2) else none))))
    else some (s0, w))
set_option maxRecDepth 10000 in
theorem rf202_J35 {S : Sc} (n : Nat) (rec4 : Nat → Int32 → Int32 → Wd → Option (Int32 × Wd)) (K4 : Wd → Option (Int32 × Wd)) (v0 : Nat) (v1 : Int32) (v4 : Int32) (s0 : Int32) (w : Wd) (o : (Int32 × Wd)) (hrec4 : ∀ (y0 : Nat) (y1 : Int32) (y2 : Int32) (w : Wd) (o : (Int32 × Wd)), rec4 y0 y1 y2 w = some o → Rn S 202 6 [some (.ref y0), some (.int y1), some (.int y2), none, none] [] w (some (.int o.1), o.2)) (hK4 : ∀  (w : Wd) (o : (Int32 × Wd)), K4 w = some o → Rn S 202 66 [none, none, none, none, none] [] w (some (.int o.1), o.2)) (h : f202_J35 n rec4 K4 v0 v1 v4 s0 w = some o) : Rn S 202 35 [some (.ref v0), some (.int v1), none, none, some (.int v4)] [.int s0] w (some (.int o.1), o.2) := by
  unfold f202_J35 at h
  refine rn_istore_n (ls' := [some (.ref v0), some (.int v1), none, some (.int s0), some (.int v4)]) (ft202 19 rfl) rfl ?_
  refine rn_iload_n (ft202 20 rfl) rfl ?_
  by_cases c18 : s0 ≤ 0
  · replace h := ifp c18 h
    refine rn_if_le_t (ft202 21 rfl) c18 ?_
    refine rn_aload_n (ft202 24 rfl) rfl ?_
    obtain ⟨x9, q10, h⟩ := ob_some h
    refine rn_getR (ft202 25 rfl) q10 ?_
    refine rn_bipush (v := (64 : Int32)) (ft202 26 rfl) (by decide) ?_
    refine rn_iload_n (ft202 27 rfl) rfl ?_
    refine rn_imul (ft202 28 rfl) ?_
    refine rn_iload (ft202 29 rfl) rfl ?_
    refine rn_iadd (ft202 30 rfl) ?_
    refine rn_aload_n (ft202 31 rfl) rfl ?_
    obtain ⟨x11, q12, h⟩ := ob_some h
    refine rn_getI (ft202 32 rfl) (by decide) (by decide) q12 ?_
    obtain ⟨w13, q14, h⟩ := ob_some h
    refine rn_iastore (ft202 33 rfl) q14 ?_
    refine rn_aload_n (ft202 34 rfl) rfl ?_
    obtain ⟨g17, h⟩ := ifg h
    obtain ⟨p15, q16, h⟩ := ob_some h
    refine rn_callV (as := []) (k0 := v0) (r := []) (v := (some (.int p15.1))) (w1 := p15.2) (ft202 35 rfl) (by decide +kernel) rfl (Nat.le_of_ble_eq_true rfl) (Nat.le_of_ble_eq_true rfl) (r114 n v0 w13 _ q16) (by decide +kernel) g17 ?_
    refine rn_istore_n (ls' := [some (.ref v0), some (.int v1), some (.int p15.1), some (.int s0), some (.int v4)]) (ft202 36 rfl) rfl ?_
    refine rn_goto (ft202 37 rfl) ?_
    exact rn_forget (ls := [some (.ref v0), some (.int v1), some (.int p15.1), none, none]) (And.intro rfl (And.intro rfl (And.intro rfl trivial))) (hrec4 v0 v1 p15.1 p15.2 _ h)
  · replace h := ifn c18 h
    refine rn_if_le_f (ft202 21 rfl) c18 ?_
    refine rn_iload_n (ft202 22 rfl) rfl ?_
    cases h
    exact rn_iretI pr202 (ft202 23 rfl)
def f202_H6 (n : Nat)  (K4 : Wd → Option (Int32 × Wd)) : Nat → Nat → Int32 → Int32 → Wd → Option (Int32 × Wd)
  | 0, _, _, _, _ => none
  | k + 1, v0, v1, v2, w =>
    (if v2 = 0 then K4 w
      else (if (wsh w v0).map (fun q => q.1) = some 11 then ob (f189 n v0 w) (fun p3 => ob (getI p3.2 11 v0 20) (fun x5 => (if p3.1 ≤ 0 then (if (wsh p3.2 v0).map (fun q => q.1) = some 11 then ob (f162 n v0 (9 : Int32) p3.2) (fun p7 => f202_J35 n (fun (v0 : Nat) (v1 : Int32) (v2 : Int32) w => f202_H6 n  K4 k v0 v1 v2 w) K4 v0 v1 x5 p7.1 p7.2) else none)
        else f202_J35 n (fun (v0 : Nat) (v1 : Int32) (v2 : Int32) w => f202_H6 n  K4 k v0 v1 v2 w) K4 v0 v1 x5 p3.1 p3.2))) else none))
set_option maxRecDepth 10000 in
theorem rf202_H6 {S : Sc} (n : Nat)  (K4 : Wd → Option (Int32 × Wd))  (hK4 : ∀  (w : Wd) (o : (Int32 × Wd)), K4 w = some o → Rn S 202 66 [none, none, none, none, none] [] w (some (.int o.1), o.2)) : ∀ (k : Nat) (v0 : Nat) (v1 : Int32) (v2 : Int32) (w : Wd) (o : (Int32 × Wd)), f202_H6 n  K4 k v0 v1 v2 w = some o → Rn S 202 6 [some (.ref v0), some (.int v1), some (.int v2), none, none] [] w (some (.int o.1), o.2) := by
  intro k
  induction k with
  | zero =>
    intro v0 v1 v2 w o h
    exact nomatch h
  | succ k ih =>
    intro v0 v1 v2 w o h
    have hrec4 : ∀ (y0 : Nat) (y1 : Int32) (y2 : Int32) (w : Wd) (o : (Int32 × Wd)), (fun (v0 : Nat) (v1 : Int32) (v2 : Int32) w => f202_H6 n  K4 k v0 v1 v2 w) y0 y1 y2 w = some o → Rn S 202 6 [some (.ref y0), some (.int y1), some (.int y2), none, none] [] w (some (.int o.1), o.2) := fun y0 y1 y2 w o h => ih y0 y1 y2 w o h
    unfold f202_H6 at h
    refine rn_iload_n (ft202 4 rfl) rfl ?_
    by_cases c22 : v2 = 0
    · replace h := ifp c22 h
      refine rn_if_eq_t (ft202 5 rfl) c22 ?_
      exact rn_forget (ls := [none, none, none, none, none]) trivial (hK4 w _ h)
    · replace h := ifn c22 h
      refine rn_if_eq_f (ft202 5 rfl) c22 ?_
      refine rn_aload_n (ft202 6 rfl) rfl ?_
      obtain ⟨g21, h⟩ := ifg h
      obtain ⟨p3, q4, h⟩ := ob_some h
      refine rn_callV (as := []) (k0 := v0) (r := []) (v := (some (.int p3.1))) (w1 := p3.2) (ft202 7 rfl) (by decide +kernel) rfl (Nat.le_of_ble_eq_true rfl) (Nat.le_of_ble_eq_true rfl) (r189 n v0 w _ q4) (by decide +kernel) g21 ?_
      refine rn_istore_n (ls' := [some (.ref v0), some (.int v1), some (.int v2), some (.int p3.1), none]) (ft202 8 rfl) rfl ?_
      refine rn_aload_n (ft202 9 rfl) rfl ?_
      obtain ⟨x5, q6, h⟩ := ob_some h
      refine rn_getI (ft202 10 rfl) (by decide) (by decide) q6 ?_
      refine rn_istore (ls' := [some (.ref v0), some (.int v1), some (.int v2), some (.int p3.1), some (.int x5)]) (ft202 11 rfl) rfl ?_
      refine rn_iload_n (ft202 12 rfl) rfl ?_
      by_cases c20 : p3.1 ≤ 0
      · replace h := ifp c20 h
        refine rn_if_le_t (ft202 13 rfl) c20 ?_
        refine rn_aload_n (ft202 16 rfl) rfl ?_
        refine rn_bipush (v := (9 : Int32)) (ft202 17 rfl) (by decide) ?_
        obtain ⟨g19, h⟩ := ifg h
        obtain ⟨p7, q8, h⟩ := ob_some h
        refine rn_callV (as := [.int (9 : Int32)]) (k0 := v0) (r := []) (v := (some (.int p7.1))) (w1 := p7.2) (ft202 18 rfl) (by decide +kernel) rfl (Nat.le_of_ble_eq_true rfl) (Nat.le_of_ble_eq_true rfl) (r162 n v0 (9 : Int32) p3.2 _ q8) (by decide +kernel) g19 ?_
        exact rn_forget (ls := [some (.ref v0), some (.int v1), none, none, some (.int x5)]) (And.intro rfl (And.intro rfl (And.intro rfl trivial))) (rf202_J35 n (fun (v0 : Nat) (v1 : Int32) (v2 : Int32) w => f202_H6 n  K4 k v0 v1 v2 w) K4 v0 v1 x5 p7.1 p7.2 _ hrec4 hK4 h)
      · replace h := ifn c20 h
        refine rn_if_le_f (ft202 13 rfl) c20 ?_
        refine rn_iload_n (ft202 14 rfl) rfl ?_
        refine rn_goto (ft202 15 rfl) ?_
        exact rn_forget (ls := [some (.ref v0), some (.int v1), none, none, some (.int x5)]) (And.intro rfl (And.intro rfl (And.intro rfl trivial))) (rf202_J35 n (fun (v0 : Nat) (v1 : Int32) (v2 : Int32) w => f202_H6 n  K4 k v0 v1 v2 w) K4 v0 v1 x5 p3.1 p3.2 _ hrec4 hK4 h)
def f202 (n : Nat) (v0 : Nat) (v1 : Int32) (w : Wd) : Option (Int32 × Wd) :=
  (if (wsh w v0).map (fun q => q.1) = some 11 then ob (f47 n v0 w) (fun p1 => f202_H6 n  (fun  (w23 : Wd) => some ((0 : Int32), w23)) n v0 v1 (1 : Int32) p1) else none)
set_option maxRecDepth 10000 in
theorem r202 {S : Sc} (n : Nat) (v0 : Nat) (v1 : Int32) (w : Wd) (o : (Int32 × Wd)) (h : f202 n v0 v1 w = some o) : Rn S 202 0 [some (.ref v0), some (.int v1), none, none, none] [] w (some (.int o.1), o.2) := by
  unfold f202 at h
  refine rn_aload_n (ft202 0 rfl) rfl ?_
  obtain ⟨g24, h⟩ := ifg h
  obtain ⟨p1, q2, h⟩ := ob_some h
  refine rn_callV (as := []) (k0 := v0) (r := []) (v := none) (w1 := p1) (ft202 1 rfl) (by decide +kernel) rfl (Nat.le_of_ble_eq_true rfl) (Nat.le_of_ble_eq_true rfl) (r47 n v0 w _ q2) (by decide +kernel) g24 ?_
  refine rn_iconst (v := (1 : Int32)) (ft202 2 rfl) (by decide) ?_
  refine rn_istore_n (ls' := [some (.ref v0), some (.int v1), some (.int (1 : Int32)), none, none]) (ft202 3 rfl) rfl ?_
  refine rn_forget (ls := [some (.ref v0), some (.int v1), some (.int (1 : Int32)), none, none]) (And.intro rfl (And.intro rfl (And.intro rfl trivial))) (rf202_H6 n  _  (fun  w23 o h => ?_) n v0 v1 (1 : Int32) p1 _ h)
  refine rn_iconst (v := (0 : Int32)) (ft202 38 rfl) (by decide) ?_
  cases h
  exact rn_iretI pr202 (ft202 39 rfl)
/-- NineWheelModel.pressAll(II)V -/
theorem ft203 : ∀ (i : Nat) {q : Nat × XI}, cd203[i]? = some q → fetch 203 q.1 = some q.2 := ft_of (by decide +kernel)
theorem pr203 : pRt 203 = none := rfl
def f203_H6 (n : Nat)  (K4 : Nat → Wd → Option Wd) : Nat → Nat → Int32 → Int32 → Int32 → Wd → Option Wd
  | 0, _, _, _, _, _ => none
  | k + 1, v0, v1, v2, v3, w =>
    ob (getI w 11 v0 6) (fun x3 => (if x3 ≤ v3 then K4 v0 w
      else ob (getR w 11 v0 36) (fun x5 => ob (getR w 11 v0 35) (fun x7 => ob (aldI w x7 ((((512 : Int32) * v3) + ((8 : Int32) * v1)) + v2)) (fun x9 => ob (astI w x5 v3 x9) (fun w11 => (fun (v0 : Nat) (v1 : Int32) (v2 : Int32) (v3 : Int32) w => f203_H6 n  K4 k v0 v1 v2 v3 w) v0 v1 v2 (v3 + (1 : Int32)) w11))))))
set_option maxRecDepth 10000 in
theorem rf203_H6 {S : Sc} (n : Nat)  (K4 : Nat → Wd → Option Wd)  (hK4 : ∀ (y0 : Nat) (w : Wd) (o : Wd), K4 y0 w = some o → Rn S 203 43 [some (.ref y0), none, none, none] [] w (none, o)) : ∀ (k : Nat) (v0 : Nat) (v1 : Int32) (v2 : Int32) (v3 : Int32) (w : Wd) (o : Wd), f203_H6 n  K4 k v0 v1 v2 v3 w = some o → Rn S 203 6 [some (.ref v0), some (.int v1), some (.int v2), some (.int v3)] [] w (none, o) := by
  intro k
  induction k with
  | zero =>
    intro v0 v1 v2 v3 w o h
    exact nomatch h
  | succ k ih =>
    intro v0 v1 v2 v3 w o h
    have hrec4 : ∀ (y0 : Nat) (y1 : Int32) (y2 : Int32) (y3 : Int32) (w : Wd) (o : Wd), (fun (v0 : Nat) (v1 : Int32) (v2 : Int32) (v3 : Int32) w => f203_H6 n  K4 k v0 v1 v2 v3 w) y0 y1 y2 y3 w = some o → Rn S 203 6 [some (.ref y0), some (.int y1), some (.int y2), some (.int y3)] [] w (none, o) := fun y0 y1 y2 y3 w o h => ih y0 y1 y2 y3 w o h
    unfold f203_H6 at h
    refine rn_iload_n (ft203 4 rfl) rfl ?_
    refine rn_aload_n (ft203 5 rfl) rfl ?_
    obtain ⟨x3, q4, h⟩ := ob_some h
    refine rn_getI (ft203 6 rfl) (by decide) (by decide) q4 ?_
    by_cases c13 : x3 ≤ v3
    · replace h := ifp c13 h
      refine rn_icmp_ge_t (ft203 7 rfl) c13 ?_
      exact rn_forget (ls := [some (.ref v0), none, none, none]) (And.intro rfl trivial) (hK4 v0 w _ h)
    · replace h := ifn c13 h
      refine rn_icmp_ge_f (ft203 7 rfl) c13 ?_
      refine rn_aload_n (ft203 8 rfl) rfl ?_
      obtain ⟨x5, q6, h⟩ := ob_some h
      refine rn_getR (ft203 9 rfl) q6 ?_
      refine rn_iload_n (ft203 10 rfl) rfl ?_
      refine rn_aload_n (ft203 11 rfl) rfl ?_
      obtain ⟨x7, q8, h⟩ := ob_some h
      refine rn_getR (ft203 12 rfl) q8 ?_
      refine rn_sipush (v := (512 : Int32)) (ft203 13 rfl) (by decide) ?_
      refine rn_iload_n (ft203 14 rfl) rfl ?_
      refine rn_imul (ft203 15 rfl) ?_
      refine rn_bipush (v := (8 : Int32)) (ft203 16 rfl) (by decide) ?_
      refine rn_iload_n (ft203 17 rfl) rfl ?_
      refine rn_imul (ft203 18 rfl) ?_
      refine rn_iadd (ft203 19 rfl) ?_
      refine rn_iload_n (ft203 20 rfl) rfl ?_
      refine rn_iadd (ft203 21 rfl) ?_
      obtain ⟨x9, q10, h⟩ := ob_some h
      refine rn_iaload (ft203 22 rfl) q10 ?_
      obtain ⟨w11, q12, h⟩ := ob_some h
      refine rn_iastore (ft203 23 rfl) q12 ?_
      refine rn_iinc (u := 1) (ls' := [some (.ref v0), some (.int v1), some (.int v2), some (.int (v3 + (1 : Int32)))]) (ft203 24 rfl) rfl (by decide) rfl ?_
      refine rn_goto (ft203 25 rfl) ?_
      exact rn_forget (ls := [some (.ref v0), some (.int v1), some (.int v2), some (.int (v3 + (1 : Int32)))]) (And.intro rfl (And.intro rfl (And.intro rfl (And.intro rfl trivial)))) (hrec4 v0 v1 v2 (v3 + (1 : Int32)) w11 _ h)
def f203 (n : Nat) (v0 : Nat) (v1 : Int32) (v2 : Int32) (w : Wd) : Option Wd :=
  (if (wsh w v0).map (fun q => q.1) = some 11 then ob (f191 n v0 w) (fun p1 => f203_H6 n  (fun (e0_14 : Nat) (w14 : Wd) => (if (wsh w14 e0_14).map (fun q => q.1) = some 11 then ob (f124 n e0_14 (0 : Int32) w14) (fun p15 => some p15) else none)) n v0 v1 v2 (0 : Int32) p1) else none)
set_option maxRecDepth 10000 in
theorem r203 {S : Sc} (n : Nat) (v0 : Nat) (v1 : Int32) (v2 : Int32) (w : Wd) (o : Wd) (h : f203 n v0 v1 v2 w = some o) : Rn S 203 0 [some (.ref v0), some (.int v1), some (.int v2), none] [] w (none, o) := by
  unfold f203 at h
  refine rn_aload_n (ft203 0 rfl) rfl ?_
  obtain ⟨g18, h⟩ := ifg h
  obtain ⟨p1, q2, h⟩ := ob_some h
  refine rn_callV (as := []) (k0 := v0) (r := []) (v := none) (w1 := p1) (ft203 1 rfl) (by decide +kernel) rfl (Nat.le_of_ble_eq_true rfl) (Nat.le_of_ble_eq_true rfl) (r191 n v0 w _ q2) (by decide +kernel) g18 ?_
  refine rn_iconst (v := (0 : Int32)) (ft203 2 rfl) (by decide) ?_
  refine rn_istore_n (ls' := [some (.ref v0), some (.int v1), some (.int v2), some (.int (0 : Int32))]) (ft203 3 rfl) rfl ?_
  refine rn_forget (ls := [some (.ref v0), some (.int v1), some (.int v2), some (.int (0 : Int32))]) (And.intro rfl (And.intro rfl (And.intro rfl (And.intro rfl trivial)))) (rf203_H6 n  _  (fun e0_14 w14 o h => ?_) n v0 v1 v2 (0 : Int32) p1 _ h)
  refine rn_aload_n (ft203 26 rfl) rfl ?_
  refine rn_iconst (v := (0 : Int32)) (ft203 27 rfl) (by decide) ?_
  obtain ⟨g17, h⟩ := ifg h
  obtain ⟨p15, q16, h⟩ := ob_some h
  refine rn_callV (as := [.int (0 : Int32)]) (k0 := e0_14) (r := []) (v := none) (w1 := p15) (ft203 28 rfl) (by decide +kernel) rfl (Nat.le_of_ble_eq_true rfl) (Nat.le_of_ble_eq_true rfl) (r124 n e0_14 (0 : Int32) w14 _ q16) (by decide +kernel) g17 ?_
  cases h
  exact rn_vret pr203 (ft203 29 rfl)
/-- NineWheelModel.takeRule()I -/
theorem ft204 : ∀ (i : Nat) {q : Nat × XI}, cd204[i]? = some q → fetch 204 q.1 = some q.2 := ft_of (by decide +kernel)
theorem pr204 : pRt 204 = some .int := rfl
def f204_H157 (n : Nat)  (K80 : Nat → Int32 → Wd → Option (Int32 × Wd)) : Nat → Nat → Int32 → Int32 → Wd → Option (Int32 × Wd)
  | 0, _, _, _, _ => none
  | k + 1, v0, v1, v5, w =>
    (if (5 : Int32) ≤ v5 then K80 v0 v1 w
      else ob (getR w 11 v0 38) (fun x35 => ob (astI w x35 (v1 + v5) (0 : Int32)) (fun w37 => (fun (v0 : Nat) (v1 : Int32) (v5 : Int32) w => f204_H157 n  K80 k v0 v1 v5 w) v0 v1 (v5 + (1 : Int32)) w37)))
set_option maxRecDepth 10000 in
theorem rf204_H157 {S : Sc} (n : Nat)  (K80 : Nat → Int32 → Wd → Option (Int32 × Wd))  (hK80 : ∀ (y0 : Nat) (y1 : Int32) (w : Wd) (o : (Int32 × Wd)), K80 y0 y1 w = some o → Rn S 204 179 [some (.ref y0), some (.int y1), none, none, none, none, none, none] [] w (some (.int o.1), o.2)) : ∀ (k : Nat) (v0 : Nat) (v1 : Int32) (v5 : Int32) (w : Wd) (o : (Int32 × Wd)), f204_H157 n  K80 k v0 v1 v5 w = some o → Rn S 204 157 [some (.ref v0), some (.int v1), none, none, none, some (.int v5), none, none] [] w (some (.int o.1), o.2) := by
  intro k
  induction k with
  | zero =>
    intro v0 v1 v5 w o h
    exact nomatch h
  | succ k ih =>
    intro v0 v1 v5 w o h
    have hrec80 : ∀ (y0 : Nat) (y1 : Int32) (y5 : Int32) (w : Wd) (o : (Int32 × Wd)), (fun (v0 : Nat) (v1 : Int32) (v5 : Int32) w => f204_H157 n  K80 k v0 v1 v5 w) y0 y1 y5 w = some o → Rn S 204 157 [some (.ref y0), some (.int y1), none, none, none, some (.int y5), none, none] [] w (some (.int o.1), o.2) := fun y0 y1 y5 w o h => ih y0 y1 y5 w o h
    unfold f204_H157 at h
    refine rn_iload (ft204 80 rfl) rfl ?_
    refine rn_iconst (v := (5 : Int32)) (ft204 81 rfl) (by decide) ?_
    by_cases c39 : (5 : Int32) ≤ v5
    · replace h := ifp c39 h
      refine rn_icmp_ge_t (ft204 82 rfl) c39 ?_
      exact rn_forget (ls := [some (.ref v0), some (.int v1), none, none, none, none, none, none]) (And.intro rfl (And.intro rfl trivial)) (hK80 v0 v1 w _ h)
    · replace h := ifn c39 h
      refine rn_icmp_ge_f (ft204 82 rfl) c39 ?_
      refine rn_aload_n (ft204 83 rfl) rfl ?_
      obtain ⟨x35, q36, h⟩ := ob_some h
      refine rn_getR (ft204 84 rfl) q36 ?_
      refine rn_iload_n (ft204 85 rfl) rfl ?_
      refine rn_iload (ft204 86 rfl) rfl ?_
      refine rn_iadd (ft204 87 rfl) ?_
      refine rn_iconst (v := (0 : Int32)) (ft204 88 rfl) (by decide) ?_
      obtain ⟨w37, q38, h⟩ := ob_some h
      refine rn_iastore (ft204 89 rfl) q38 ?_
      refine rn_iinc (u := 1) (ls' := [some (.ref v0), some (.int v1), none, none, none, some (.int (v5 + (1 : Int32))), none, none]) (ft204 90 rfl) rfl (by decide) rfl ?_
      refine rn_goto (ft204 91 rfl) ?_
      exact rn_forget (ls := [some (.ref v0), some (.int v1), none, none, none, some (.int (v5 + (1 : Int32))), none, none]) (And.intro rfl (And.intro rfl (And.intro rfl trivial))) (hrec80 v0 v1 (v5 + (1 : Int32)) w37 _ h)
def f204_J230 (n : Nat) (rec96 : Nat → Int32 → Int32 → Int32 → Wd → Option (Int32 × Wd)) (K96 : Int32 → Wd → Option (Int32 × Wd)) (v0 : Nat) (v1 : Int32) (v5 : Int32) (s0 : Int32) (w : Wd) : Option (Int32 × Wd) :=
  (if v5 < s0 then ob (getI w 11 v0 19) (fun x51 => ob (putI w 11 v0 17 x51) (fun w53 => (if ¬ s0 = (1 : Int32) then (if ¬ s0 = (2 : Int32) then (if (wsh w53 v0).map (fun q => q.1) = some 11 then ob (f193 n v0 v1 w53) (fun p55 => rec96 v0 v1 s0 p55.1 p55.2) else none)
        else (if (wsh w53 v0).map (fun q => q.1) = some 11 then ob (f192 n v0 v1 w53) (fun p58 => rec96 v0 v1 s0 p58.1 p58.2) else none))
      else (if (wsh w53 v0).map (fun q => q.1) = some 11 then ob (f161 n v0 (0 : Int32) (54 : Int32) w53) (fun p62 => ob (getR p62.2 11 v0 38) (fun x64 => ob (getI p62.2 11 v0 20) (fun x66 => ob (astI p62.2 x64 (v1 + (1 : Int32)) x66) (fun w68 => rec96 v0 v1 s0 p62.1 w68)))) else none))))
    else ob (getI w 11 v0 17) (fun x72 => (if (wsh w v0).map (fun q => q.1) = some 11 then ob (f46 v0 (1 : Int32) x72 w) (fun p74 => some (p74.1, p74.2)) else none)))
set_option maxRecDepth 10000 in
theorem rf204_J230 {S : Sc} (n : Nat) (rec96 : Nat → Int32 → Int32 → Int32 → Wd → Option (Int32 × Wd)) (K96 : Int32 → Wd → Option (Int32 × Wd)) (v0 : Nat) (v1 : Int32) (v5 : Int32) (s0 : Int32) (w : Wd) (o : (Int32 × Wd)) (hrec96 : ∀ (y0 : Nat) (y1 : Int32) (y5 : Int32) (y6 : Int32) (w : Wd) (o : (Int32 × Wd)), rec96 y0 y1 y5 y6 w = some o → Rn S 204 185 [some (.ref y0), some (.int y1), none, none, none, some (.int y5), some (.int y6), none] [] w (some (.int o.1), o.2)) (hK96 : ∀ (y6 : Int32) (w : Wd) (o : (Int32 × Wd)), K96 y6 w = some o → Rn S 204 315 [none, none, none, none, none, none, some (.int y6), none] [] w (some (.int o.1), o.2)) (h : f204_J230 n rec96 K96 v0 v1 v5 s0 w = some o) : Rn S 204 230 [some (.ref v0), some (.int v1), none, none, none, some (.int v5), none, none] [.int s0] w (some (.int o.1), o.2) := by
  unfold f204_J230 at h
  refine rn_istore (ls' := [some (.ref v0), some (.int v1), none, none, none, some (.int v5), none, some (.int s0)]) (ft204 118 rfl) rfl ?_
  refine rn_iload (ft204 119 rfl) rfl ?_
  refine rn_iload (ft204 120 rfl) rfl ?_
  by_cases c77 : v5 < s0
  · replace h := ifp c77 h
    refine rn_icmp_gt_t (ft204 121 rfl) c77 ?_
    refine rn_iload (ft204 128 rfl) rfl ?_
    refine rn_istore (ls' := [some (.ref v0), some (.int v1), none, none, none, some (.int s0), none, some (.int s0)]) (ft204 129 rfl) rfl ?_
    refine rn_aload_n (ft204 130 rfl) rfl ?_
    refine rn_aload_n (ft204 131 rfl) rfl ?_
    obtain ⟨x51, q52, h⟩ := ob_some h
    refine rn_getI (ft204 132 rfl) (by decide) (by decide) q52 ?_
    obtain ⟨w53, q54, h⟩ := ob_some h
    refine rn_putI (ft204 133 rfl) q54 ?_
    refine rn_iload (ft204 134 rfl) rfl ?_
    refine rn_iconst (v := (1 : Int32)) (ft204 135 rfl) (by decide) ?_
    by_cases c71 : ¬ s0 = (1 : Int32)
    · replace h := ifp c71 h
      refine rn_icmp_ne_t (ft204 136 rfl) c71 ?_
      refine rn_iload (ft204 151 rfl) rfl ?_
      refine rn_iconst (v := (2 : Int32)) (ft204 152 rfl) (by decide) ?_
      by_cases c61 : ¬ s0 = (2 : Int32)
      · replace h := ifp c61 h
        refine rn_icmp_ne_t (ft204 153 rfl) c61 ?_
        refine rn_aload_n (ft204 158 rfl) rfl ?_
        refine rn_iload_n (ft204 159 rfl) rfl ?_
        obtain ⟨g57, h⟩ := ifg h
        obtain ⟨p55, q56, h⟩ := ob_some h
        refine rn_callV (as := [.int v1]) (k0 := v0) (r := []) (v := (some (.int p55.1))) (w1 := p55.2) (ft204 160 rfl) (by decide +kernel) rfl (Nat.le_of_ble_eq_true rfl) (Nat.le_of_ble_eq_true rfl) (r193 n v0 v1 w53 _ q56) (by decide +kernel) g57 ?_
        refine rn_istore (ls' := [some (.ref v0), some (.int v1), none, none, none, some (.int s0), some (.int p55.1), some (.int s0)]) (ft204 161 rfl) rfl ?_
        refine rn_goto (ft204 162 rfl) ?_
        exact rn_forget (ls := [some (.ref v0), some (.int v1), none, none, none, some (.int s0), some (.int p55.1), none]) (And.intro rfl (And.intro rfl (And.intro rfl (And.intro rfl trivial)))) (hrec96 v0 v1 s0 p55.1 p55.2 _ h)
      · replace h := ifn c61 h
        refine rn_icmp_ne_f (ft204 153 rfl) c61 ?_
        refine rn_aload_n (ft204 154 rfl) rfl ?_
        refine rn_iload_n (ft204 155 rfl) rfl ?_
        obtain ⟨g60, h⟩ := ifg h
        obtain ⟨p58, q59, h⟩ := ob_some h
        refine rn_callV (as := [.int v1]) (k0 := v0) (r := []) (v := (some (.int p58.1))) (w1 := p58.2) (ft204 156 rfl) (by decide +kernel) rfl (Nat.le_of_ble_eq_true rfl) (Nat.le_of_ble_eq_true rfl) (r192 n v0 v1 w53 _ q59) (by decide +kernel) g60 ?_
        refine rn_goto (ft204 157 rfl) ?_
        refine rn_istore (ls' := [some (.ref v0), some (.int v1), none, none, none, some (.int s0), some (.int p58.1), some (.int s0)]) (ft204 161 rfl) rfl ?_
        refine rn_goto (ft204 162 rfl) ?_
        exact rn_forget (ls := [some (.ref v0), some (.int v1), none, none, none, some (.int s0), some (.int p58.1), none]) (And.intro rfl (And.intro rfl (And.intro rfl (And.intro rfl trivial)))) (hrec96 v0 v1 s0 p58.1 p58.2 _ h)
    · replace h := ifn c71 h
      refine rn_icmp_ne_f (ft204 136 rfl) c71 ?_
      refine rn_aload_n (ft204 137 rfl) rfl ?_
      refine rn_iconst (v := (0 : Int32)) (ft204 138 rfl) (by decide) ?_
      refine rn_bipush (v := (54 : Int32)) (ft204 139 rfl) (by decide) ?_
      obtain ⟨g70, h⟩ := ifg h
      obtain ⟨p62, q63, h⟩ := ob_some h
      refine rn_callV (as := [.int (0 : Int32), .int (54 : Int32)]) (k0 := v0) (r := []) (v := (some (.int p62.1))) (w1 := p62.2) (ft204 140 rfl) (by decide +kernel) rfl (Nat.le_of_ble_eq_true rfl) (Nat.le_of_ble_eq_true rfl) (r161 n v0 (0 : Int32) (54 : Int32) w53 _ q63) (by decide +kernel) g70 ?_
      refine rn_istore (ls' := [some (.ref v0), some (.int v1), none, none, none, some (.int s0), some (.int p62.1), some (.int s0)]) (ft204 141 rfl) rfl ?_
      refine rn_aload_n (ft204 142 rfl) rfl ?_
      obtain ⟨x64, q65, h⟩ := ob_some h
      refine rn_getR (ft204 143 rfl) q65 ?_
      refine rn_iload_n (ft204 144 rfl) rfl ?_
      refine rn_iconst (v := (1 : Int32)) (ft204 145 rfl) (by decide) ?_
      refine rn_iadd (ft204 146 rfl) ?_
      refine rn_aload_n (ft204 147 rfl) rfl ?_
      obtain ⟨x66, q67, h⟩ := ob_some h
      refine rn_getI (ft204 148 rfl) (by decide) (by decide) q67 ?_
      obtain ⟨w68, q69, h⟩ := ob_some h
      refine rn_iastore (ft204 149 rfl) q69 ?_
      refine rn_goto (ft204 150 rfl) ?_
      refine rn_goto (ft204 162 rfl) ?_
      exact rn_forget (ls := [some (.ref v0), some (.int v1), none, none, none, some (.int s0), some (.int p62.1), none]) (And.intro rfl (And.intro rfl (And.intro rfl (And.intro rfl trivial)))) (hrec96 v0 v1 s0 p62.1 w68 _ h)
  · replace h := ifn c77 h
    refine rn_icmp_gt_f (ft204 121 rfl) c77 ?_
    refine rn_aload_n (ft204 122 rfl) rfl ?_
    refine rn_iconst (v := (1 : Int32)) (ft204 123 rfl) (by decide) ?_
    refine rn_aload_n (ft204 124 rfl) rfl ?_
    obtain ⟨x72, q73, h⟩ := ob_some h
    refine rn_getI (ft204 125 rfl) (by decide) (by decide) q73 ?_
    obtain ⟨g76, h⟩ := ifg h
    obtain ⟨p74, q75, h⟩ := ob_some h
    refine rn_callV (as := [.int (1 : Int32), .int x72]) (k0 := v0) (r := []) (v := (some (.int p74.1))) (w1 := p74.2) (ft204 126 rfl) (by decide +kernel) rfl (Nat.le_of_ble_eq_true rfl) (Nat.le_of_ble_eq_true rfl) (r46 v0 (1 : Int32) x72 w _ q75) (by decide +kernel) g76 ?_
    cases h
    exact rn_iretI pr204 (ft204 127 rfl)
def f204_H185 (n : Nat)  (K96 : Int32 → Wd → Option (Int32 × Wd)) : Nat → Nat → Int32 → Int32 → Int32 → Wd → Option (Int32 × Wd)
  | 0, _, _, _, _, _ => none
  | k + 1, v0, v1, v5, v6, w =>
    (if ¬ v6 = 0 then K96 v6 w
      else (if (wsh w v0).map (fun q => q.1) = some 11 then ob (f42 n v0 w) (fun p41 => (if p41.1 < 0 then K96 v6 p41.2
        else (if (wsh p41.2 v0).map (fun q => q.1) = some 11 then ob (f111 n v0 p41.2) (fun p43 => (if (wsh p43 v0).map (fun q => q.1) = some 11 then ob (f125 v0 (1 : Int32) p43) (fun p45 => (if p45.1 ≤ 0 then (if (wsh p45.2 v0).map (fun q => q.1) = some 11 then ob (f125 v0 (2 : Int32) p45.2) (fun p47 => (if p47.1 ≤ 0 then (if (wsh p47.2 v0).map (fun q => q.1) = some 11 then ob (f125 v0 (3 : Int32) p47.2) (fun p49 => f204_J230 n (fun (v0 : Nat) (v1 : Int32) (v5 : Int32) (v6 : Int32) w => f204_H185 n  K96 k v0 v1 v5 v6 w) K96 v0 v1 v5 p49.1 p49.2) else none)
            else f204_J230 n (fun (v0 : Nat) (v1 : Int32) (v5 : Int32) (v6 : Int32) w => f204_H185 n  K96 k v0 v1 v5 v6 w) K96 v0 v1 v5 (2 : Int32) p47.2)) else none)
          else f204_J230 n (fun (v0 : Nat) (v1 : Int32) (v5 : Int32) (v6 : Int32) w => f204_H185 n  K96 k v0 v1 v5 v6 w) K96 v0 v1 v5 (1 : Int32) p45.2)) else none)) else none))) else none))
set_option maxRecDepth 10000 in
theorem rf204_H185 {S : Sc} (n : Nat)  (K96 : Int32 → Wd → Option (Int32 × Wd))  (hK96 : ∀ (y6 : Int32) (w : Wd) (o : (Int32 × Wd)), K96 y6 w = some o → Rn S 204 315 [none, none, none, none, none, none, some (.int y6), none] [] w (some (.int o.1), o.2)) : ∀ (k : Nat) (v0 : Nat) (v1 : Int32) (v5 : Int32) (v6 : Int32) (w : Wd) (o : (Int32 × Wd)), f204_H185 n  K96 k v0 v1 v5 v6 w = some o → Rn S 204 185 [some (.ref v0), some (.int v1), none, none, none, some (.int v5), some (.int v6), none] [] w (some (.int o.1), o.2) := by
  intro k
  induction k with
  | zero =>
    intro v0 v1 v5 v6 w o h
    exact nomatch h
  | succ k ih =>
    intro v0 v1 v5 v6 w o h
    have hrec96 : ∀ (y0 : Nat) (y1 : Int32) (y5 : Int32) (y6 : Int32) (w : Wd) (o : (Int32 × Wd)), (fun (v0 : Nat) (v1 : Int32) (v5 : Int32) (v6 : Int32) w => f204_H185 n  K96 k v0 v1 v5 v6 w) y0 y1 y5 y6 w = some o → Rn S 204 185 [some (.ref y0), some (.int y1), none, none, none, some (.int y5), some (.int y6), none] [] w (some (.int o.1), o.2) := fun y0 y1 y5 y6 w o h => ih y0 y1 y5 y6 w o h
    unfold f204_H185 at h
    refine rn_iload (ft204 96 rfl) rfl ?_
    by_cases c86 : ¬ v6 = 0
    · replace h := ifp c86 h
      refine rn_if_ne_t (ft204 97 rfl) c86 ?_
      exact rn_forget (ls := [none, none, none, none, none, none, some (.int v6), none]) (And.intro rfl trivial) (hK96 v6 w _ h)
    · replace h := ifn c86 h
      refine rn_if_ne_f (ft204 97 rfl) c86 ?_
      refine rn_aload_n (ft204 98 rfl) rfl ?_
      obtain ⟨g85, h⟩ := ifg h
      obtain ⟨p41, q42, h⟩ := ob_some h
      refine rn_callV (as := []) (k0 := v0) (r := []) (v := (some (.int p41.1))) (w1 := p41.2) (ft204 99 rfl) (by decide +kernel) rfl (Nat.le_of_ble_eq_true rfl) (Nat.le_of_ble_eq_true rfl) (r42 n v0 w _ q42) (by decide +kernel) g85 ?_
      by_cases c84 : p41.1 < 0
      · replace h := ifp c84 h
        refine rn_if_lt_t (ft204 100 rfl) c84 ?_
        exact rn_forget (ls := [none, none, none, none, none, none, some (.int v6), none]) (And.intro rfl trivial) (hK96 v6 p41.2 _ h)
      · replace h := ifn c84 h
        refine rn_if_lt_f (ft204 100 rfl) c84 ?_
        refine rn_aload_n (ft204 101 rfl) rfl ?_
        obtain ⟨g83, h⟩ := ifg h
        obtain ⟨p43, q44, h⟩ := ob_some h
        refine rn_callV (as := []) (k0 := v0) (r := []) (v := none) (w1 := p43) (ft204 102 rfl) (by decide +kernel) rfl (Nat.le_of_ble_eq_true rfl) (Nat.le_of_ble_eq_true rfl) (r111 n v0 p41.2 _ q44) (by decide +kernel) g83 ?_
        refine rn_aload_n (ft204 103 rfl) rfl ?_
        refine rn_iconst (v := (1 : Int32)) (ft204 104 rfl) (by decide) ?_
        obtain ⟨g82, h⟩ := ifg h
        obtain ⟨p45, q46, h⟩ := ob_some h
        refine rn_callV (as := [.int (1 : Int32)]) (k0 := v0) (r := []) (v := (some (.int p45.1))) (w1 := p45.2) (ft204 105 rfl) (by decide +kernel) rfl (Nat.le_of_ble_eq_true rfl) (Nat.le_of_ble_eq_true rfl) (r125 v0 (1 : Int32) p43 _ q46) (by decide +kernel) g82 ?_
        by_cases c81 : p45.1 ≤ 0
        · replace h := ifp c81 h
          refine rn_if_le_t (ft204 106 rfl) c81 ?_
          refine rn_aload_n (ft204 109 rfl) rfl ?_
          refine rn_iconst (v := (2 : Int32)) (ft204 110 rfl) (by decide) ?_
          obtain ⟨g80, h⟩ := ifg h
          obtain ⟨p47, q48, h⟩ := ob_some h
          refine rn_callV (as := [.int (2 : Int32)]) (k0 := v0) (r := []) (v := (some (.int p47.1))) (w1 := p47.2) (ft204 111 rfl) (by decide +kernel) rfl (Nat.le_of_ble_eq_true rfl) (Nat.le_of_ble_eq_true rfl) (r125 v0 (2 : Int32) p45.2 _ q48) (by decide +kernel) g80 ?_
          by_cases c79 : p47.1 ≤ 0
          · replace h := ifp c79 h
            refine rn_if_le_t (ft204 112 rfl) c79 ?_
            refine rn_aload_n (ft204 115 rfl) rfl ?_
            refine rn_iconst (v := (3 : Int32)) (ft204 116 rfl) (by decide) ?_
            obtain ⟨g78, h⟩ := ifg h
            obtain ⟨p49, q50, h⟩ := ob_some h
            refine rn_callV (as := [.int (3 : Int32)]) (k0 := v0) (r := []) (v := (some (.int p49.1))) (w1 := p49.2) (ft204 117 rfl) (by decide +kernel) rfl (Nat.le_of_ble_eq_true rfl) (Nat.le_of_ble_eq_true rfl) (r125 v0 (3 : Int32) p47.2 _ q50) (by decide +kernel) g78 ?_
            exact rn_forget (ls := [some (.ref v0), some (.int v1), none, none, none, some (.int v5), none, none]) (And.intro rfl (And.intro rfl (And.intro rfl trivial))) (rf204_J230 n (fun (v0 : Nat) (v1 : Int32) (v5 : Int32) (v6 : Int32) w => f204_H185 n  K96 k v0 v1 v5 v6 w) K96 v0 v1 v5 p49.1 p49.2 _ hrec96 hK96 h)
          · replace h := ifn c79 h
            refine rn_if_le_f (ft204 112 rfl) c79 ?_
            refine rn_iconst (v := (2 : Int32)) (ft204 113 rfl) (by decide) ?_
            refine rn_goto (ft204 114 rfl) ?_
            exact rn_forget (ls := [some (.ref v0), some (.int v1), none, none, none, some (.int v5), none, none]) (And.intro rfl (And.intro rfl (And.intro rfl trivial))) (rf204_J230 n (fun (v0 : Nat) (v1 : Int32) (v5 : Int32) (v6 : Int32) w => f204_H185 n  K96 k v0 v1 v5 v6 w) K96 v0 v1 v5 (2 : Int32) p47.2 _ hrec96 hK96 h)
        · replace h := ifn c81 h
          refine rn_if_le_f (ft204 106 rfl) c81 ?_
          refine rn_iconst (v := (1 : Int32)) (ft204 107 rfl) (by decide) ?_
          refine rn_goto (ft204 108 rfl) ?_
          exact rn_forget (ls := [some (.ref v0), some (.int v1), none, none, none, some (.int v5), none, none]) (And.intro rfl (And.intro rfl (And.intro rfl trivial))) (rf204_J230 n (fun (v0 : Nat) (v1 : Int32) (v5 : Int32) (v6 : Int32) w => f204_H185 n  K96 k v0 v1 v5 v6 w) K96 v0 v1 v5 (1 : Int32) p45.2 _ hrec96 hK96 h)
def f204_J121 (n : Nat)  (v0 : Nat) (v1 : Int32) (s0 : Int32) (w : Wd) : Option (Int32 × Wd) :=
  (if 0 ≤ s0 then ob (getI w 11 v0 19) (fun x27 => ob (putI w 11 v0 17 x27) (fun w29 => ob (getR w29 11 v0 38) (fun x31 => ob (astI w29 x31 v1 s0) (fun w33 => f204_H157 n  (fun (e0_40 : Nat) (e1_40 : Int32) (w40 : Wd) => f204_H185 n  (fun (e6_87 : Int32) (w87 : Wd) => some (e6_87, w87)) n e0_40 e1_40 (0 : Int32) (0 : Int32) w40) n v0 v1 (1 : Int32) w33))))
    else ob (getI w 11 v0 17) (fun x88 => (if (wsh w v0).map (fun q => q.1) = some 11 then ob (f46 v0 (1 : Int32) x88 w) (fun p90 => some (p90.1, p90.2)) else none)))
set_option maxRecDepth 10000 in
theorem rf204_J121 {S : Sc} (n : Nat)  (v0 : Nat) (v1 : Int32) (s0 : Int32) (w : Wd) (o : (Int32 × Wd))  (h : f204_J121 n  v0 v1 s0 w = some o) : Rn S 204 121 [some (.ref v0), some (.int v1), none, none, none, none, none, none] [.int s0] w (some (.int o.1), o.2) := by
  unfold f204_J121 at h
  refine rn_istore (ls' := [some (.ref v0), some (.int v1), none, none, some (.int s0), none, none, none]) (ft204 60 rfl) rfl ?_
  refine rn_iload (ft204 61 rfl) rfl ?_
  by_cases c93 : 0 ≤ s0
  · replace h := ifp c93 h
    refine rn_if_ge_t (ft204 62 rfl) c93 ?_
    refine rn_aload_n (ft204 69 rfl) rfl ?_
    refine rn_aload_n (ft204 70 rfl) rfl ?_
    obtain ⟨x27, q28, h⟩ := ob_some h
    refine rn_getI (ft204 71 rfl) (by decide) (by decide) q28 ?_
    obtain ⟨w29, q30, h⟩ := ob_some h
    refine rn_putI (ft204 72 rfl) q30 ?_
    refine rn_aload_n (ft204 73 rfl) rfl ?_
    obtain ⟨x31, q32, h⟩ := ob_some h
    refine rn_getR (ft204 74 rfl) q32 ?_
    refine rn_iload_n (ft204 75 rfl) rfl ?_
    refine rn_iload (ft204 76 rfl) rfl ?_
    obtain ⟨w33, q34, h⟩ := ob_some h
    refine rn_iastore (ft204 77 rfl) q34 ?_
    refine rn_iconst (v := (1 : Int32)) (ft204 78 rfl) (by decide) ?_
    refine rn_istore (ls' := [some (.ref v0), some (.int v1), none, none, some (.int s0), some (.int (1 : Int32)), none, none]) (ft204 79 rfl) rfl ?_
    refine rn_forget (ls := [some (.ref v0), some (.int v1), none, none, none, some (.int (1 : Int32)), none, none]) (And.intro rfl (And.intro rfl (And.intro rfl trivial))) (rf204_H157 n  _  (fun e0_40 e1_40 w40 o h => ?_) n v0 v1 (1 : Int32) w33 _ h)
    refine rn_iconst (v := (0 : Int32)) (ft204 92 rfl) (by decide) ?_
    refine rn_istore (ls' := [some (.ref e0_40), some (.int e1_40), none, none, none, some (.int (0 : Int32)), none, none]) (ft204 93 rfl) rfl ?_
    refine rn_iconst (v := (0 : Int32)) (ft204 94 rfl) (by decide) ?_
    refine rn_istore (ls' := [some (.ref e0_40), some (.int e1_40), none, none, none, some (.int (0 : Int32)), some (.int (0 : Int32)), none]) (ft204 95 rfl) rfl ?_
    refine rn_forget (ls := [some (.ref e0_40), some (.int e1_40), none, none, none, some (.int (0 : Int32)), some (.int (0 : Int32)), none]) (And.intro rfl (And.intro rfl (And.intro rfl (And.intro rfl trivial)))) (rf204_H185 n  _  (fun e6_87 w87 o h => ?_) n e0_40 e1_40 (0 : Int32) (0 : Int32) w40 _ h)
    refine rn_iload (ft204 163 rfl) rfl ?_
    cases h
    exact rn_iretI pr204 (ft204 164 rfl)
  · replace h := ifn c93 h
    refine rn_if_ge_f (ft204 62 rfl) c93 ?_
    refine rn_aload_n (ft204 63 rfl) rfl ?_
    refine rn_iconst (v := (1 : Int32)) (ft204 64 rfl) (by decide) ?_
    refine rn_aload_n (ft204 65 rfl) rfl ?_
    obtain ⟨x88, q89, h⟩ := ob_some h
    refine rn_getI (ft204 66 rfl) (by decide) (by decide) q89 ?_
    obtain ⟨g92, h⟩ := ifg h
    obtain ⟨p90, q91, h⟩ := ob_some h
    refine rn_callV (as := [.int (1 : Int32), .int x88]) (k0 := v0) (r := []) (v := (some (.int p90.1))) (w1 := p90.2) (ft204 67 rfl) (by decide +kernel) rfl (Nat.le_of_ble_eq_true rfl) (Nat.le_of_ble_eq_true rfl) (r46 v0 (1 : Int32) x88 w _ q91) (by decide +kernel) g92 ?_
    cases h
    exact rn_iretI pr204 (ft204 68 rfl)
def f204 (n : Nat) (v0 : Nat) (w : Wd) : Option (Int32 × Wd) :=
  ob (getI w 11 v0 37) (fun x1 => (if (wsh w v0).map (fun q => q.1) = some 11 then ob (f111 n v0 w) (fun p3 => ob (f43 (109 : Int32) (105 : Int32) (100 : Int32) (100 : Int32) p3) (fun p5 => ob (f44 p5.1 (108 : Int32) p5.2) (fun p7 => ob (f44 p7.1 (101 : Int32) p7.2) (fun p9 => ob (getL p9.2 11 v0 18) (fun x11 => ob (f43 (109 : Int32) (111 : Int32) (115 : Int32) (116 : Int32) p9.2) (fun p13 => (if ¬ (lg_cmp x11 p13.1) = 0 then ob (getL p13.2 11 v0 18) (fun x15 => (if ¬ (lg_cmp x15 p9.1) = 0 then ob (getL p13.2 11 v0 18) (fun x17 => ob (f43 (109 : Int32) (101 : Int32) (97 : Int32) (110 : Int32) p13.2) (fun p19 => (if ¬ (lg_cmp x17 p19.1) = 0 then ob (getL p19.2 11 v0 18) (fun x21 => ob (f43 (116 : Int32) (117 : Int32) (114 : Int32) (110 : Int32) p19.2) (fun p23 => ob (f44 p23.1 (115 : Int32) p23.2) (fun p25 => (if ¬ (lg_cmp x21 p25.1) = 0 then f204_J121 n  v0 ((5 : Int32) * x1) (-1 : Int32) p25.2
          else f204_J121 n  v0 ((5 : Int32) * x1) (3 : Int32) p25.2))))
        else f204_J121 n  v0 ((5 : Int32) * x1) (2 : Int32) p19.2)))
      else f204_J121 n  v0 ((5 : Int32) * x1) (1 : Int32) p13.2))
    else f204_J121 n  v0 ((5 : Int32) * x1) (0 : Int32) p13.2))))))) else none))
set_option maxRecDepth 10000 in
theorem r204 {S : Sc} (n : Nat) (v0 : Nat) (w : Wd) (o : (Int32 × Wd)) (h : f204 n v0 w = some o) : Rn S 204 0 [some (.ref v0), none, none, none, none, none, none, none] [] w (some (.int o.1), o.2) := by
  unfold f204 at h
  refine rn_iconst (v := (5 : Int32)) (ft204 0 rfl) (by decide) ?_
  refine rn_aload_n (ft204 1 rfl) rfl ?_
  obtain ⟨x1, q2, h⟩ := ob_some h
  refine rn_getI (ft204 2 rfl) (by decide) (by decide) q2 ?_
  refine rn_imul (ft204 3 rfl) ?_
  refine rn_istore_n (ls' := [some (.ref v0), some (.int ((5 : Int32) * x1)), none, none, none, none, none, none]) (ft204 4 rfl) rfl ?_
  refine rn_aload_n (ft204 5 rfl) rfl ?_
  obtain ⟨g98, h⟩ := ifg h
  obtain ⟨p3, q4, h⟩ := ob_some h
  refine rn_callV (as := []) (k0 := v0) (r := []) (v := none) (w1 := p3) (ft204 6 rfl) (by decide +kernel) rfl (Nat.le_of_ble_eq_true rfl) (Nat.le_of_ble_eq_true rfl) (r111 n v0 w _ q4) (by decide +kernel) g98 ?_
  refine rn_bipush (v := (109 : Int32)) (ft204 7 rfl) (by decide) ?_
  refine rn_bipush (v := (105 : Int32)) (ft204 8 rfl) (by decide) ?_
  refine rn_bipush (v := (100 : Int32)) (ft204 9 rfl) (by decide) ?_
  refine rn_bipush (v := (100 : Int32)) (ft204 10 rfl) (by decide) ?_
  obtain ⟨p5, q6, h⟩ := ob_some h
  refine rn_callS (as := [.int (109 : Int32), .int (105 : Int32), .int (100 : Int32), .int (100 : Int32)]) (r := []) (v := (some (.long p5.1))) (w1 := p5.2) (ft204 11 rfl) (by decide +kernel) rfl (Nat.le_of_ble_eq_true rfl) (Nat.le_of_ble_eq_true rfl) (r43 (109 : Int32) (105 : Int32) (100 : Int32) (100 : Int32) p3 _ q6) ?_
  refine rn_bipush (v := (108 : Int32)) (ft204 12 rfl) (by decide) ?_
  obtain ⟨p7, q8, h⟩ := ob_some h
  refine rn_callS (as := [.long p5.1, .int (108 : Int32)]) (r := []) (v := (some (.long p7.1))) (w1 := p7.2) (ft204 13 rfl) (by decide +kernel) rfl (Nat.le_of_ble_eq_true rfl) (Nat.le_of_ble_eq_true rfl) (r44 p5.1 (108 : Int32) p5.2 _ q8) ?_
  refine rn_bipush (v := (101 : Int32)) (ft204 14 rfl) (by decide) ?_
  obtain ⟨p9, q10, h⟩ := ob_some h
  refine rn_callS (as := [.long p7.1, .int (101 : Int32)]) (r := []) (v := (some (.long p9.1))) (w1 := p9.2) (ft204 15 rfl) (by decide +kernel) rfl (Nat.le_of_ble_eq_true rfl) (Nat.le_of_ble_eq_true rfl) (r44 p7.1 (101 : Int32) p7.2 _ q10) ?_
  refine rn_lstore_n (ls' := [some (.ref v0), some (.int ((5 : Int32) * x1)), some (.long p9.1), none, none, none, none, none]) (ft204 16 rfl) rfl ?_
  refine rn_aload_n (ft204 17 rfl) rfl ?_
  obtain ⟨x11, q12, h⟩ := ob_some h
  refine rn_getL (ft204 18 rfl) q12 ?_
  refine rn_bipush (v := (109 : Int32)) (ft204 19 rfl) (by decide) ?_
  refine rn_bipush (v := (111 : Int32)) (ft204 20 rfl) (by decide) ?_
  refine rn_bipush (v := (115 : Int32)) (ft204 21 rfl) (by decide) ?_
  refine rn_bipush (v := (116 : Int32)) (ft204 22 rfl) (by decide) ?_
  obtain ⟨p13, q14, h⟩ := ob_some h
  refine rn_callS (as := [.int (109 : Int32), .int (111 : Int32), .int (115 : Int32), .int (116 : Int32)]) (r := [.long x11]) (v := (some (.long p13.1))) (w1 := p13.2) (ft204 23 rfl) (by decide +kernel) rfl (Nat.le_of_ble_eq_true rfl) (Nat.le_of_ble_eq_true rfl) (r43 (109 : Int32) (111 : Int32) (115 : Int32) (116 : Int32) p9.2 _ q14) ?_
  refine rn_lcmp (ft204 24 rfl) ?_
  by_cases c97 : ¬ (lg_cmp x11 p13.1) = 0
  · replace h := ifp c97 h
    refine rn_if_ne_t (ft204 25 rfl) c97 ?_
    refine rn_aload_n (ft204 28 rfl) rfl ?_
    obtain ⟨x15, q16, h⟩ := ob_some h
    refine rn_getL (ft204 29 rfl) q16 ?_
    refine rn_lload_n (ft204 30 rfl) rfl ?_
    refine rn_lcmp (ft204 31 rfl) ?_
    by_cases c96 : ¬ (lg_cmp x15 p9.1) = 0
    · replace h := ifp c96 h
      refine rn_if_ne_t (ft204 32 rfl) c96 ?_
      refine rn_aload_n (ft204 35 rfl) rfl ?_
      obtain ⟨x17, q18, h⟩ := ob_some h
      refine rn_getL (ft204 36 rfl) q18 ?_
      refine rn_bipush (v := (109 : Int32)) (ft204 37 rfl) (by decide) ?_
      refine rn_bipush (v := (101 : Int32)) (ft204 38 rfl) (by decide) ?_
      refine rn_bipush (v := (97 : Int32)) (ft204 39 rfl) (by decide) ?_
      refine rn_bipush (v := (110 : Int32)) (ft204 40 rfl) (by decide) ?_
      obtain ⟨p19, q20, h⟩ := ob_some h
      refine rn_callS (as := [.int (109 : Int32), .int (101 : Int32), .int (97 : Int32), .int (110 : Int32)]) (r := [.long x17]) (v := (some (.long p19.1))) (w1 := p19.2) (ft204 41 rfl) (by decide +kernel) rfl (Nat.le_of_ble_eq_true rfl) (Nat.le_of_ble_eq_true rfl) (r43 (109 : Int32) (101 : Int32) (97 : Int32) (110 : Int32) p13.2 _ q20) ?_
      refine rn_lcmp (ft204 42 rfl) ?_
      by_cases c95 : ¬ (lg_cmp x17 p19.1) = 0
      · replace h := ifp c95 h
        refine rn_if_ne_t (ft204 43 rfl) c95 ?_
        refine rn_aload_n (ft204 46 rfl) rfl ?_
        obtain ⟨x21, q22, h⟩ := ob_some h
        refine rn_getL (ft204 47 rfl) q22 ?_
        refine rn_bipush (v := (116 : Int32)) (ft204 48 rfl) (by decide) ?_
        refine rn_bipush (v := (117 : Int32)) (ft204 49 rfl) (by decide) ?_
        refine rn_bipush (v := (114 : Int32)) (ft204 50 rfl) (by decide) ?_
        refine rn_bipush (v := (110 : Int32)) (ft204 51 rfl) (by decide) ?_
        obtain ⟨p23, q24, h⟩ := ob_some h
        refine rn_callS (as := [.int (116 : Int32), .int (117 : Int32), .int (114 : Int32), .int (110 : Int32)]) (r := [.long x21]) (v := (some (.long p23.1))) (w1 := p23.2) (ft204 52 rfl) (by decide +kernel) rfl (Nat.le_of_ble_eq_true rfl) (Nat.le_of_ble_eq_true rfl) (r43 (116 : Int32) (117 : Int32) (114 : Int32) (110 : Int32) p19.2 _ q24) ?_
        refine rn_bipush (v := (115 : Int32)) (ft204 53 rfl) (by decide) ?_
        obtain ⟨p25, q26, h⟩ := ob_some h
        refine rn_callS (as := [.long p23.1, .int (115 : Int32)]) (r := [.long x21]) (v := (some (.long p25.1))) (w1 := p25.2) (ft204 54 rfl) (by decide +kernel) rfl (Nat.le_of_ble_eq_true rfl) (Nat.le_of_ble_eq_true rfl) (r44 p23.1 (115 : Int32) p23.2 _ q26) ?_
        refine rn_lcmp (ft204 55 rfl) ?_
        by_cases c94 : ¬ (lg_cmp x21 p25.1) = 0
        · replace h := ifp c94 h
          refine rn_if_ne_t (ft204 56 rfl) c94 ?_
          refine rn_iconst (v := (-1 : Int32)) (ft204 59 rfl) (by decide) ?_
          exact rn_forget (ls := [some (.ref v0), some (.int ((5 : Int32) * x1)), none, none, none, none, none, none]) (And.intro rfl (And.intro rfl trivial)) (rf204_J121 n  v0 ((5 : Int32) * x1) (-1 : Int32) p25.2 _  h)
        · replace h := ifn c94 h
          refine rn_if_ne_f (ft204 56 rfl) c94 ?_
          refine rn_iconst (v := (3 : Int32)) (ft204 57 rfl) (by decide) ?_
          refine rn_goto (ft204 58 rfl) ?_
          exact rn_forget (ls := [some (.ref v0), some (.int ((5 : Int32) * x1)), none, none, none, none, none, none]) (And.intro rfl (And.intro rfl trivial)) (rf204_J121 n  v0 ((5 : Int32) * x1) (3 : Int32) p25.2 _  h)
      · replace h := ifn c95 h
        refine rn_if_ne_f (ft204 43 rfl) c95 ?_
        refine rn_iconst (v := (2 : Int32)) (ft204 44 rfl) (by decide) ?_
        refine rn_goto (ft204 45 rfl) ?_
        exact rn_forget (ls := [some (.ref v0), some (.int ((5 : Int32) * x1)), none, none, none, none, none, none]) (And.intro rfl (And.intro rfl trivial)) (rf204_J121 n  v0 ((5 : Int32) * x1) (2 : Int32) p19.2 _  h)
    · replace h := ifn c96 h
      refine rn_if_ne_f (ft204 32 rfl) c96 ?_
      refine rn_iconst (v := (1 : Int32)) (ft204 33 rfl) (by decide) ?_
      refine rn_goto (ft204 34 rfl) ?_
      exact rn_forget (ls := [some (.ref v0), some (.int ((5 : Int32) * x1)), none, none, none, none, none, none]) (And.intro rfl (And.intro rfl trivial)) (rf204_J121 n  v0 ((5 : Int32) * x1) (1 : Int32) p13.2 _  h)
  · replace h := ifn c97 h
    refine rn_if_ne_f (ft204 25 rfl) c97 ?_
    refine rn_iconst (v := (0 : Int32)) (ft204 26 rfl) (by decide) ?_
    refine rn_goto (ft204 27 rfl) ?_
    exact rn_forget (ls := [some (.ref v0), some (.int ((5 : Int32) * x1)), none, none, none, none, none, none]) (And.intro rfl (And.intro rfl trivial)) (rf204_J121 n  v0 ((5 : Int32) * x1) (0 : Int32) p13.2 _  h)
/-- NineWheelModel.mayTurn(IIII)I -/
theorem ft205 : ∀ (i : Nat) {q : Nat × XI}, cd205[i]? = some q → fetch 205 q.1 = some q.2 := ft_of (by decide +kernel)
theorem pr205 : pRt 205 = some .int := rfl
def f205 (n : Nat) (v0 : Nat) (v1 : Int32) (v2 : Int32) (v3 : Int32) (v4 : Int32) (w : Wd) : Option (Int32 × Wd) :=
  (if (wsh w v0).map (fun q => q.1) = some 11 then ob (f170 n v0 v2 v3 w) (fun p1 => (if p1.1 = 0 then (if (wsh p1.2 v0).map (fun q => q.1) = some 11 then ob (f195 n v0 v1 v2 v3 v4 p1.2) (fun p3 => some (p3.1, p3.2)) else none)
    else ob (getI p1.2 11 v0 42) (fun x6 => some (((1 : Int32) <<< ((x6 + (1 : Int32)) &&& 31)), p1.2)))) else none)
set_option maxRecDepth 10000 in
theorem r205 {S : Sc} (n : Nat) (v0 : Nat) (v1 : Int32) (v2 : Int32) (v3 : Int32) (v4 : Int32) (w : Wd) (o : (Int32 × Wd)) (h : f205 n v0 v1 v2 v3 v4 w = some o) : Rn S 205 0 [some (.ref v0), some (.int v1), some (.int v2), some (.int v3), some (.int v4)] [] w (some (.int o.1), o.2) := by
  unfold f205 at h
  refine rn_aload_n (ft205 0 rfl) rfl ?_
  refine rn_iload_n (ft205 1 rfl) rfl ?_
  refine rn_iload_n (ft205 2 rfl) rfl ?_
  obtain ⟨g9, h⟩ := ifg h
  obtain ⟨p1, q2, h⟩ := ob_some h
  refine rn_callV (as := [.int v2, .int v3]) (k0 := v0) (r := []) (v := (some (.int p1.1))) (w1 := p1.2) (ft205 3 rfl) (by decide +kernel) rfl (Nat.le_of_ble_eq_true rfl) (Nat.le_of_ble_eq_true rfl) (r170 n v0 v2 v3 w _ q2) (by decide +kernel) g9 ?_
  by_cases c8 : p1.1 = 0
  · replace h := ifp c8 h
    refine rn_if_eq_t (ft205 4 rfl) c8 ?_
    refine rn_aload_n (ft205 12 rfl) rfl ?_
    refine rn_iload_n (ft205 13 rfl) rfl ?_
    refine rn_iload_n (ft205 14 rfl) rfl ?_
    refine rn_iload_n (ft205 15 rfl) rfl ?_
    refine rn_iload (ft205 16 rfl) rfl ?_
    obtain ⟨g5, h⟩ := ifg h
    obtain ⟨p3, q4, h⟩ := ob_some h
    refine rn_callV (as := [.int v1, .int v2, .int v3, .int v4]) (k0 := v0) (r := []) (v := (some (.int p3.1))) (w1 := p3.2) (ft205 17 rfl) (by decide +kernel) rfl (Nat.le_of_ble_eq_true rfl) (Nat.le_of_ble_eq_true rfl) (r195 n v0 v1 v2 v3 v4 p1.2 _ q4) (by decide +kernel) g5 ?_
    cases h
    exact rn_iretI pr205 (ft205 18 rfl)
  · replace h := ifn c8 h
    refine rn_if_eq_f (ft205 4 rfl) c8 ?_
    refine rn_iconst (v := (1 : Int32)) (ft205 5 rfl) (by decide) ?_
    refine rn_aload_n (ft205 6 rfl) rfl ?_
    obtain ⟨x6, q7, h⟩ := ob_some h
    refine rn_getI (ft205 7 rfl) (by decide) (by decide) q7 ?_
    refine rn_iconst (v := (1 : Int32)) (ft205 8 rfl) (by decide) ?_
    refine rn_iadd (ft205 9 rfl) ?_
    refine rn_ishl (ft205 10 rfl) ?_
    refine rn_goto (ft205 11 rfl) ?_
    cases h
    exact rn_iretI pr205 (ft205 18 rfl)
/-- NineWheel$SeaReader.people()V -/
theorem ft206 : ∀ (i : Nat) {q : Nat × XI}, cd206[i]? = some q → fetch 206 q.1 = some q.2 := ft_of (by decide +kernel)
theorem pr206 : pRt 206 = none := rfl
def f206_J48 (n : Nat)  (v0 : Nat) (v2 : Int32) (w : Wd) : Option Wd :=
  ob (getR w 7 v0 0) (fun x17 => (if (wsh w x17).map (fun q => q.1) = some 9 then ob (f197 n x17 22 w) (fun p19 => (if p19.1 = 0 then some p19.2
    else ob (getR p19.2 7 v0 1) (fun x21 => ob (getR p19.2 7 v0 0) (fun x23 => (if (wsh p19.2 x23).map (fun q => q.1) = some 9 then ob (f140 n x23 (0 : Int32) (9 : Int32) p19.2) (fun p25 => (if (wsh p25.2 x21).map (fun q => q.1) = some 6 then ob (f79 x21 v2 p25.1 p25.2) (fun p27 => some p27) else none)) else none))))) else none))
set_option maxRecDepth 10000 in
theorem rf206_J48 {S : Sc} (n : Nat)  (v0 : Nat) (v2 : Int32) (w : Wd) (o : Wd)  (h : f206_J48 n  v0 v2 w = some o) : Rn S 206 48 [some (.ref v0), none, some (.int v2)] [] w (none, o) := by
  unfold f206_J48 at h
  refine rn_aload_n (ft206 24 rfl) rfl ?_
  obtain ⟨x17, q18, h⟩ := ob_some h
  refine rn_getR (ft206 25 rfl) q18 ?_
  refine rn_ldcS (v := 22) (ft206 26 rfl) (by decide) ?_
  obtain ⟨g32, h⟩ := ifg h
  obtain ⟨p19, q20, h⟩ := ob_some h
  refine rn_callV (as := [.float 22]) (k0 := x17) (r := []) (v := (some (.int p19.1))) (w1 := p19.2) (ft206 27 rfl) (by decide +kernel) rfl (Nat.le_of_ble_eq_true rfl) (Nat.le_of_ble_eq_true rfl) (r197 n x17 22 w _ q20) (by decide +kernel) g32 ?_
  by_cases c31 : p19.1 = 0
  · replace h := ifp c31 h
    refine rn_if_eq_t (ft206 28 rfl) c31 ?_
    cases h
    exact rn_vret pr206 (ft206 38 rfl)
  · replace h := ifn c31 h
    refine rn_if_eq_f (ft206 28 rfl) c31 ?_
    refine rn_aload_n (ft206 29 rfl) rfl ?_
    obtain ⟨x21, q22, h⟩ := ob_some h
    refine rn_getR (ft206 30 rfl) q22 ?_
    refine rn_iload_n (ft206 31 rfl) rfl ?_
    refine rn_aload_n (ft206 32 rfl) rfl ?_
    obtain ⟨x23, q24, h⟩ := ob_some h
    refine rn_getR (ft206 33 rfl) q24 ?_
    refine rn_iconst (v := (0 : Int32)) (ft206 34 rfl) (by decide) ?_
    refine rn_bipush (v := (9 : Int32)) (ft206 35 rfl) (by decide) ?_
    obtain ⟨g30, h⟩ := ifg h
    obtain ⟨p25, q26, h⟩ := ob_some h
    refine rn_callV (as := [.int (0 : Int32), .int (9 : Int32)]) (k0 := x23) (r := [.int v2, .ref x21]) (v := (some (.int p25.1))) (w1 := p25.2) (ft206 36 rfl) (by decide +kernel) rfl (Nat.le_of_ble_eq_true rfl) (Nat.le_of_ble_eq_true rfl) (r140 n x23 (0 : Int32) (9 : Int32) p19.2 _ q26) (by decide +kernel) g30 ?_
    obtain ⟨g29, h⟩ := ifg h
    obtain ⟨p27, q28, h⟩ := ob_some h
    refine rn_callV (as := [.int v2, .int p25.1]) (k0 := x21) (r := []) (v := none) (w1 := p27) (ft206 37 rfl) (by decide +kernel) rfl (Nat.le_of_ble_eq_true rfl) (Nat.le_of_ble_eq_true rfl) (r79 x21 v2 p25.1 p25.2 _ q28) (by decide +kernel) g29 ?_
    cases h
    exact rn_vret pr206 (ft206 38 rfl)
def f206 (n : Nat) (v0 : Nat) (w : Wd) : Option Wd :=
  ob (getR w 7 v0 0) (fun x1 => (if (wsh w x1).map (fun q => q.1) = some 9 then ob (f140 n x1 (1 : Int32) (9 : Int32) w) (fun p3 => ob (getR p3.2 7 v0 0) (fun x5 => ob (getI p3.2 9 x5 4) (fun x7 => (if x7 = 0 then ob (getR p3.2 7 v0 1) (fun x9 => (if (wsh p3.2 x9).map (fun q => q.1) = some 6 then ob (f11 n x9 p3.1 p3.2) (fun p11 => ob (getR p11.2 7 v0 0) (fun x13 => (if (wsh p11.2 x13).map (fun q => q.1) = some 9 then ob (f197 n x13 21 p11.2) (fun p15 => (if p15.1 = 0 then f206_J48 n  v0 p11.1 p15.2
      else (if (wsh p15.2 v0).map (fun q => q.1) = some 7 then ob (f177 n v0 p11.1 p15.2) (fun p33 => f206_J48 n  v0 p11.1 p33) else none))) else none))) else none))
    else some p3.2)))) else none))
set_option maxRecDepth 10000 in
theorem r206 {S : Sc} (n : Nat) (v0 : Nat) (w : Wd) (o : Wd) (h : f206 n v0 w = some o) : Rn S 206 0 [some (.ref v0), none, none] [] w (none, o) := by
  unfold f206 at h
  refine rn_aload_n (ft206 0 rfl) rfl ?_
  obtain ⟨x1, q2, h⟩ := ob_some h
  refine rn_getR (ft206 1 rfl) q2 ?_
  refine rn_iconst (v := (1 : Int32)) (ft206 2 rfl) (by decide) ?_
  refine rn_bipush (v := (9 : Int32)) (ft206 3 rfl) (by decide) ?_
  obtain ⟨g40, h⟩ := ifg h
  obtain ⟨p3, q4, h⟩ := ob_some h
  refine rn_callV (as := [.int (1 : Int32), .int (9 : Int32)]) (k0 := x1) (r := []) (v := (some (.int p3.1))) (w1 := p3.2) (ft206 4 rfl) (by decide +kernel) rfl (Nat.le_of_ble_eq_true rfl) (Nat.le_of_ble_eq_true rfl) (r140 n x1 (1 : Int32) (9 : Int32) w _ q4) (by decide +kernel) g40 ?_
  refine rn_istore_n (ls' := [some (.ref v0), some (.int p3.1), none]) (ft206 5 rfl) rfl ?_
  refine rn_aload_n (ft206 6 rfl) rfl ?_
  obtain ⟨x5, q6, h⟩ := ob_some h
  refine rn_getR (ft206 7 rfl) q6 ?_
  obtain ⟨x7, q8, h⟩ := ob_some h
  refine rn_getI (ft206 8 rfl) (by decide) (by decide) q8 ?_
  by_cases c39 : x7 = 0
  · replace h := ifp c39 h
    refine rn_if_eq_t (ft206 9 rfl) c39 ?_
    refine rn_aload_n (ft206 11 rfl) rfl ?_
    obtain ⟨x9, q10, h⟩ := ob_some h
    refine rn_getR (ft206 12 rfl) q10 ?_
    refine rn_iload_n (ft206 13 rfl) rfl ?_
    obtain ⟨g38, h⟩ := ifg h
    obtain ⟨p11, q12, h⟩ := ob_some h
    refine rn_callV (as := [.int p3.1]) (k0 := x9) (r := []) (v := (some (.int p11.1))) (w1 := p11.2) (ft206 14 rfl) (by decide +kernel) rfl (Nat.le_of_ble_eq_true rfl) (Nat.le_of_ble_eq_true rfl) (r11 n x9 p3.1 p3.2 _ q12) (by decide +kernel) g38 ?_
    refine rn_istore_n (ls' := [some (.ref v0), some (.int p3.1), some (.int p11.1)]) (ft206 15 rfl) rfl ?_
    refine rn_aload_n (ft206 16 rfl) rfl ?_
    obtain ⟨x13, q14, h⟩ := ob_some h
    refine rn_getR (ft206 17 rfl) q14 ?_
    refine rn_ldcS (v := 21) (ft206 18 rfl) (by decide) ?_
    obtain ⟨g37, h⟩ := ifg h
    obtain ⟨p15, q16, h⟩ := ob_some h
    refine rn_callV (as := [.float 21]) (k0 := x13) (r := []) (v := (some (.int p15.1))) (w1 := p15.2) (ft206 19 rfl) (by decide +kernel) rfl (Nat.le_of_ble_eq_true rfl) (Nat.le_of_ble_eq_true rfl) (r197 n x13 21 p11.2 _ q16) (by decide +kernel) g37 ?_
    by_cases c36 : p15.1 = 0
    · replace h := ifp c36 h
      refine rn_if_eq_t (ft206 20 rfl) c36 ?_
      exact rn_forget (ls := [some (.ref v0), none, some (.int p11.1)]) (And.intro rfl (And.intro rfl trivial)) (rf206_J48 n  v0 p11.1 p15.2 _  h)
    · replace h := ifn c36 h
      refine rn_if_eq_f (ft206 20 rfl) c36 ?_
      refine rn_aload_n (ft206 21 rfl) rfl ?_
      refine rn_iload_n (ft206 22 rfl) rfl ?_
      obtain ⟨g35, h⟩ := ifg h
      obtain ⟨p33, q34, h⟩ := ob_some h
      refine rn_callV (as := [.int p11.1]) (k0 := v0) (r := []) (v := none) (w1 := p33) (ft206 23 rfl) (by decide +kernel) rfl (Nat.le_of_ble_eq_true rfl) (Nat.le_of_ble_eq_true rfl) (r177 n v0 p11.1 p15.2 _ q34) (by decide +kernel) g35 ?_
      exact rn_forget (ls := [some (.ref v0), none, some (.int p11.1)]) (And.intro rfl (And.intro rfl trivial)) (rf206_J48 n  v0 p11.1 p33 _  h)
  · replace h := ifn c39 h
    refine rn_if_eq_f (ft206 9 rfl) c39 ?_
    cases h
    exact rn_vret pr206 (ft206 10 rfl)
/-- NineWheel$Rule.readUnless(LNineWheel$Text;)V -/
theorem ft207 : ∀ (i : Nat) {q : Nat × XI}, cd207[i]? = some q → fetch 207 q.1 = some q.2 := ft_of (by decide +kernel)
theorem pr207 : pRt 207 = none := rfl
def f207_J43 (n : Nat)  (v0 : Nat) (v1 : Nat) (w : Wd) : Option Wd :=
  (if (wsh w v1).map (fun q => q.1) = some 9 then ob (f140 n v1 (1 : Int32) (7 : Int32) w) (fun p9 => ob (putI p9.2 5 v0 4 p9.1) (fun w11 => some w11)) else none)
set_option maxRecDepth 10000 in
theorem rf207_J43 {S : Sc} (n : Nat)  (v0 : Nat) (v1 : Nat) (w : Wd) (o : Wd)  (h : f207_J43 n  v0 v1 w = some o) : Rn S 207 43 [some (.ref v0), some (.ref v1)] [] w (none, o) := by
  unfold f207_J43 at h
  refine rn_aload_n (ft207 21 rfl) rfl ?_
  refine rn_aload_n (ft207 22 rfl) rfl ?_
  refine rn_iconst (v := (1 : Int32)) (ft207 23 rfl) (by decide) ?_
  refine rn_bipush (v := (7 : Int32)) (ft207 24 rfl) (by decide) ?_
  obtain ⟨g13, h⟩ := ifg h
  obtain ⟨p9, q10, h⟩ := ob_some h
  refine rn_callV (as := [.int (1 : Int32), .int (7 : Int32)]) (k0 := v1) (r := [.ref v0]) (v := (some (.int p9.1))) (w1 := p9.2) (ft207 25 rfl) (by decide +kernel) rfl (Nat.le_of_ble_eq_true rfl) (Nat.le_of_ble_eq_true rfl) (r140 n v1 (1 : Int32) (7 : Int32) w _ q10) (by decide +kernel) g13 ?_
  obtain ⟨w11, q12, h⟩ := ob_some h
  refine rn_putI (ft207 26 rfl) q12 ?_
  cases h
  exact rn_vret pr207 (ft207 27 rfl)
def f207 (n : Nat) (v0 : Nat) (v1 : Nat) (w : Wd) : Option Wd :=
  (if (wsh w v1).map (fun q => q.1) = some 9 then ob (f197 n v1 30 w) (fun p1 => (if p1.1 = 0 then (if (wsh p1.2 v1).map (fun q => q.1) = some 9 then ob (f197 n v1 31 p1.2) (fun p3 => (if p3.1 = 0 then ob (getI p3.2 9 v1 2) (fun x5 => (if (wsh p3.2 v1).map (fun q => q.1) = some 9 then ob (f8 v1 (1 : Int32) x5 p3.2) (fun p7 => f207_J43 n  v0 v1 p7) else none))
      else ob (putI p3.2 5 v0 3 (1 : Int32)) (fun w15 => f207_J43 n  v0 v1 w15))) else none)
    else ob (putI p1.2 5 v0 3 (-1 : Int32)) (fun w19 => f207_J43 n  v0 v1 w19))) else none)
set_option maxRecDepth 10000 in
theorem r207 {S : Sc} (n : Nat) (v0 : Nat) (v1 : Nat) (w : Wd) (o : Wd) (h : f207 n v0 v1 w = some o) : Rn S 207 0 [some (.ref v0), some (.ref v1)] [] w (none, o) := by
  unfold f207 at h
  refine rn_aload_n (ft207 0 rfl) rfl ?_
  refine rn_ldcS (v := 30) (ft207 1 rfl) (by decide) ?_
  obtain ⟨g22, h⟩ := ifg h
  obtain ⟨p1, q2, h⟩ := ob_some h
  refine rn_callV (as := [.float 30]) (k0 := v1) (r := []) (v := (some (.int p1.1))) (w1 := p1.2) (ft207 2 rfl) (by decide +kernel) rfl (Nat.le_of_ble_eq_true rfl) (Nat.le_of_ble_eq_true rfl) (r197 n v1 30 w _ q2) (by decide +kernel) g22 ?_
  by_cases c21 : p1.1 = 0
  · replace h := ifp c21 h
    refine rn_if_eq_t (ft207 3 rfl) c21 ?_
    refine rn_aload_n (ft207 8 rfl) rfl ?_
    refine rn_ldcS (v := 31) (ft207 9 rfl) (by decide) ?_
    obtain ⟨g18, h⟩ := ifg h
    obtain ⟨p3, q4, h⟩ := ob_some h
    refine rn_callV (as := [.float 31]) (k0 := v1) (r := []) (v := (some (.int p3.1))) (w1 := p3.2) (ft207 10 rfl) (by decide +kernel) rfl (Nat.le_of_ble_eq_true rfl) (Nat.le_of_ble_eq_true rfl) (r197 n v1 31 p1.2 _ q4) (by decide +kernel) g18 ?_
    by_cases c17 : p3.1 = 0
    · replace h := ifp c17 h
      refine rn_if_eq_t (ft207 11 rfl) c17 ?_
      refine rn_aload_n (ft207 16 rfl) rfl ?_
      refine rn_iconst (v := (1 : Int32)) (ft207 17 rfl) (by decide) ?_
      refine rn_aload_n (ft207 18 rfl) rfl ?_
      obtain ⟨x5, q6, h⟩ := ob_some h
      refine rn_getI (ft207 19 rfl) (by decide) (by decide) q6 ?_
      obtain ⟨g14, h⟩ := ifg h
      obtain ⟨p7, q8, h⟩ := ob_some h
      refine rn_callV (as := [.int (1 : Int32), .int x5]) (k0 := v1) (r := []) (v := none) (w1 := p7) (ft207 20 rfl) (by decide +kernel) rfl (Nat.le_of_ble_eq_true rfl) (Nat.le_of_ble_eq_true rfl) (r8 v1 (1 : Int32) x5 p3.2 _ q8) (by decide +kernel) g14 ?_
      exact rn_forget (ls := [some (.ref v0), some (.ref v1)]) (And.intro rfl (And.intro rfl trivial)) (rf207_J43 n  v0 v1 p7 _  h)
    · replace h := ifn c17 h
      refine rn_if_eq_f (ft207 11 rfl) c17 ?_
      refine rn_aload_n (ft207 12 rfl) rfl ?_
      refine rn_iconst (v := (1 : Int32)) (ft207 13 rfl) (by decide) ?_
      obtain ⟨w15, q16, h⟩ := ob_some h
      refine rn_putI (ft207 14 rfl) q16 ?_
      refine rn_goto (ft207 15 rfl) ?_
      exact rn_forget (ls := [some (.ref v0), some (.ref v1)]) (And.intro rfl (And.intro rfl trivial)) (rf207_J43 n  v0 v1 w15 _  h)
  · replace h := ifn c21 h
    refine rn_if_eq_f (ft207 3 rfl) c21 ?_
    refine rn_aload_n (ft207 4 rfl) rfl ?_
    refine rn_iconst (v := (-1 : Int32)) (ft207 5 rfl) (by decide) ?_
    obtain ⟨w19, q20, h⟩ := ob_some h
    refine rn_putI (ft207 6 rfl) q20 ?_
    refine rn_goto (ft207 7 rfl) ?_
    exact rn_forget (ls := [some (.ref v0), some (.ref v1)]) (And.intro rfl (And.intro rfl trivial)) (rf207_J43 n  v0 v1 w19 _  h)
