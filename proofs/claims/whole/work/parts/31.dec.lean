/-! THE METHODS AS FUNCTIONS, 14 -/
/-- NineWheel$SeaReader.likes(I)V -/
theorem ft177 : ∀ (i : Nat) {q : Nat × XI}, cd177[i]? = some q → fetch 177 q.1 = some q.2 := ft_of (by decide +kernel)
theorem pr177 : pRt 177 = none := rfl
def f177_J58 (n : Nat) (rec6 : Nat → Int32 → Int64 → Int32 → Int32 → Wd → Option Wd) (K6 : Wd → Option Wd) (v0 : Nat) (v1 : Int32) (v2 : Int64) (v5 : Int32) (v6 : Int32) (w : Wd) : Option Wd :=
  ob (getR w 7 v0 1) (fun x5 => ob (getR w 7 v0 0) (fun x7 => (if (wsh w x7).map (fun q => q.1) = some 9 then ob (f140 n x7 (-9 : Int32) (9 : Int32) w) (fun p9 => (if (wsh p9.2 x5).map (fun q => q.1) = some 6 then ob (f78 x5 v1 v6 p9.1 p9.2) (fun p11 => ob (getR p11 7 v0 0) (fun x13 => (if (wsh p11 x13).map (fun q => q.1) = some 9 then ob (f141 n x13 (44 : Int32) p11) (fun p15 => rec6 v0 v1 (v2 ||| ((1 : Int64) <<< (Int32.toInt64 v6 &&& 63))) p15.1 (v5 + (1 : Int32)) p15.2) else none))) else none)) else none)))
set_option maxRecDepth 10000 in
theorem rf177_J58 {S : Sc} (n : Nat) (rec6 : Nat → Int32 → Int64 → Int32 → Int32 → Wd → Option Wd) (K6 : Wd → Option Wd) (v0 : Nat) (v1 : Int32) (v2 : Int64) (v5 : Int32) (v6 : Int32) (w : Wd) (o : Wd) (hrec6 : ∀ (y0 : Nat) (y1 : Int32) (y2 : Int64) (y4 : Int32) (y5 : Int32) (w : Wd) (o : Wd), rec6 y0 y1 y2 y4 y5 w = some o → Rn S 177 8 [some (.ref y0), some (.int y1), some (.long y2), none, some (.int y4), some (.int y5), none] [] w (none, o)) (hK6 : ∀  (w : Wd) (o : Wd), K6 w = some o → Rn S 177 103 [none, none, none, none, none, none, none] [] w (none, o)) (h : f177_J58 n rec6 K6 v0 v1 v2 v5 v6 w = some o) : Rn S 177 58 [some (.ref v0), some (.int v1), some (.long v2), none, none, some (.int v5), some (.int v6)] [] w (none, o) := by
  unfold f177_J58 at h
  refine rn_lload_n (ft177 32 rfl) rfl ?_
  refine rn_lconst (v := (1 : Int64)) (ft177 33 rfl) (by decide) ?_
  refine rn_iload (ft177 34 rfl) rfl ?_
  refine rn_lshl (ft177 35 rfl) ?_
  refine rn_lor (ft177 36 rfl) ?_
  refine rn_lstore_n (ls' := [some (.ref v0), some (.int v1), some (.long (v2 ||| ((1 : Int64) <<< (Int32.toInt64 v6 &&& 63)))), none, none, some (.int v5), some (.int v6)]) (ft177 37 rfl) rfl ?_
  refine rn_aload_n (ft177 38 rfl) rfl ?_
  obtain ⟨x5, q6, h⟩ := ob_some h
  refine rn_getR (ft177 39 rfl) q6 ?_
  refine rn_iload_n (ft177 40 rfl) rfl ?_
  refine rn_iload (ft177 41 rfl) rfl ?_
  refine rn_aload_n (ft177 42 rfl) rfl ?_
  obtain ⟨x7, q8, h⟩ := ob_some h
  refine rn_getR (ft177 43 rfl) q8 ?_
  refine rn_bipush (v := (-9 : Int32)) (ft177 44 rfl) (by decide) ?_
  refine rn_bipush (v := (9 : Int32)) (ft177 45 rfl) (by decide) ?_
  obtain ⟨g19, h⟩ := ifg h
  obtain ⟨p9, q10, h⟩ := ob_some h
  refine rn_callV (as := [.int (-9 : Int32), .int (9 : Int32)]) (k0 := x7) (r := [.int v6, .int v1, .ref x5]) (v := (some (.int p9.1))) (w1 := p9.2) (ft177 46 rfl) (by decide +kernel) rfl (Nat.le_of_ble_eq_true rfl) (Nat.le_of_ble_eq_true rfl) (r140 n x7 (-9 : Int32) (9 : Int32) w _ q10) (by decide +kernel) g19 ?_
  obtain ⟨g18, h⟩ := ifg h
  obtain ⟨p11, q12, h⟩ := ob_some h
  refine rn_callV (as := [.int v1, .int v6, .int p9.1]) (k0 := x5) (r := []) (v := none) (w1 := p11) (ft177 47 rfl) (by decide +kernel) rfl (Nat.le_of_ble_eq_true rfl) (Nat.le_of_ble_eq_true rfl) (r78 x5 v1 v6 p9.1 p9.2 _ q12) (by decide +kernel) g18 ?_
  refine rn_aload_n (ft177 48 rfl) rfl ?_
  obtain ⟨x13, q14, h⟩ := ob_some h
  refine rn_getR (ft177 49 rfl) q14 ?_
  refine rn_bipush (v := (44 : Int32)) (ft177 50 rfl) (by decide) ?_
  obtain ⟨g17, h⟩ := ifg h
  obtain ⟨p15, q16, h⟩ := ob_some h
  refine rn_callV (as := [.int (44 : Int32)]) (k0 := x13) (r := []) (v := (some (.int p15.1))) (w1 := p15.2) (ft177 51 rfl) (by decide +kernel) rfl (Nat.le_of_ble_eq_true rfl) (Nat.le_of_ble_eq_true rfl) (r141 n x13 (44 : Int32) p11 _ q16) (by decide +kernel) g17 ?_
  refine rn_istore (ls' := [some (.ref v0), some (.int v1), some (.long (v2 ||| ((1 : Int64) <<< (Int32.toInt64 v6 &&& 63)))), none, some (.int p15.1), some (.int v5), some (.int v6)]) (ft177 52 rfl) rfl ?_
  refine rn_iinc (u := 1) (ls' := [some (.ref v0), some (.int v1), some (.long (v2 ||| ((1 : Int64) <<< (Int32.toInt64 v6 &&& 63)))), none, some (.int p15.1), some (.int (v5 + (1 : Int32))), some (.int v6)]) (ft177 53 rfl) rfl (by decide) rfl ?_
  refine rn_goto (ft177 54 rfl) ?_
  exact rn_forget (ls := [some (.ref v0), some (.int v1), some (.long (v2 ||| ((1 : Int64) <<< (Int32.toInt64 v6 &&& 63)))), none, some (.int p15.1), some (.int (v5 + (1 : Int32))), none]) (And.intro rfl (And.intro rfl (And.intro rfl (And.intro rfl (And.intro rfl trivial))))) (hrec6 v0 v1 (v2 ||| ((1 : Int64) <<< (Int32.toInt64 v6 &&& 63))) p15.1 (v5 + (1 : Int32)) p15.2 _ h)
def f177_H8 (n : Nat)  (K6 : Wd → Option Wd) : Nat → Nat → Int32 → Int64 → Int32 → Int32 → Wd → Option Wd
  | 0, _, _, _, _, _, _ => none
  | k + 1, v0, v1, v2, v4, v5, w =>
    (if (64 : Int32) < v5 then K6 w
      else (if v4 = 0 then K6 w
        else ob (getR w 7 v0 0) (fun x1 => (if (wsh w x1).map (fun q => q.1) = some 9 then ob (f140 n x1 (0 : Int32) (63 : Int32) w) (fun p3 => (if (lg_cmp ((lush v2 p3.1) &&& (1 : Int64)) (0 : Int64)) = 0 then f177_J58 n (fun (v0 : Nat) (v1 : Int32) (v2 : Int64) (v4 : Int32) (v5 : Int32) w => f177_H8 n  K6 k v0 v1 v2 v4 v5 w) K6 v0 v1 v2 v5 p3.1 p3.2
          else ob (getR p3.2 7 v0 0) (fun x20 => ob (getR p3.2 7 v0 0) (fun x22 => ob (getI p3.2 9 x22 3) (fun x24 => (if (wsh p3.2 x20).map (fun q => q.1) = some 9 then ob (f8 x20 (4 : Int32) x24 p3.2) (fun p26 => f177_J58 n (fun (v0 : Nat) (v1 : Int32) (v2 : Int64) (v4 : Int32) (v5 : Int32) w => f177_H8 n  K6 k v0 v1 v2 v4 v5 w) K6 v0 v1 v2 v5 p3.1 p26) else none)))))) else none))))
set_option maxRecDepth 10000 in
theorem rf177_H8 {S : Sc} (n : Nat)  (K6 : Wd → Option Wd)  (hK6 : ∀  (w : Wd) (o : Wd), K6 w = some o → Rn S 177 103 [none, none, none, none, none, none, none] [] w (none, o)) : ∀ (k : Nat) (v0 : Nat) (v1 : Int32) (v2 : Int64) (v4 : Int32) (v5 : Int32) (w : Wd) (o : Wd), f177_H8 n  K6 k v0 v1 v2 v4 v5 w = some o → Rn S 177 8 [some (.ref v0), some (.int v1), some (.long v2), none, some (.int v4), some (.int v5), none] [] w (none, o) := by
  intro k
  induction k with
  | zero =>
    intro v0 v1 v2 v4 v5 w o h
    exact nomatch h
  | succ k ih =>
    intro v0 v1 v2 v4 v5 w o h
    have hrec6 : ∀ (y0 : Nat) (y1 : Int32) (y2 : Int64) (y4 : Int32) (y5 : Int32) (w : Wd) (o : Wd), (fun (v0 : Nat) (v1 : Int32) (v2 : Int64) (v4 : Int32) (v5 : Int32) w => f177_H8 n  K6 k v0 v1 v2 v4 v5 w) y0 y1 y2 y4 y5 w = some o → Rn S 177 8 [some (.ref y0), some (.int y1), some (.long y2), none, some (.int y4), some (.int y5), none] [] w (none, o) := fun y0 y1 y2 y4 y5 w o h => ih y0 y1 y2 y4 y5 w o h
    unfold f177_H8 at h
    refine rn_iload (ft177 6 rfl) rfl ?_
    refine rn_bipush (v := (64 : Int32)) (ft177 7 rfl) (by decide) ?_
    by_cases c32 : (64 : Int32) < v5
    · replace h := ifp c32 h
      refine rn_icmp_gt_t (ft177 8 rfl) c32 ?_
      exact rn_forget (ls := [none, none, none, none, none, none, none]) trivial (hK6 w _ h)
    · replace h := ifn c32 h
      refine rn_icmp_gt_f (ft177 8 rfl) c32 ?_
      refine rn_iload (ft177 9 rfl) rfl ?_
      by_cases c31 : v4 = 0
      · replace h := ifp c31 h
        refine rn_if_eq_t (ft177 10 rfl) c31 ?_
        exact rn_forget (ls := [none, none, none, none, none, none, none]) trivial (hK6 w _ h)
      · replace h := ifn c31 h
        refine rn_if_eq_f (ft177 10 rfl) c31 ?_
        refine rn_aload_n (ft177 11 rfl) rfl ?_
        obtain ⟨x1, q2, h⟩ := ob_some h
        refine rn_getR (ft177 12 rfl) q2 ?_
        refine rn_iconst (v := (0 : Int32)) (ft177 13 rfl) (by decide) ?_
        refine rn_bipush (v := (63 : Int32)) (ft177 14 rfl) (by decide) ?_
        obtain ⟨g30, h⟩ := ifg h
        obtain ⟨p3, q4, h⟩ := ob_some h
        refine rn_callV (as := [.int (0 : Int32), .int (63 : Int32)]) (k0 := x1) (r := []) (v := (some (.int p3.1))) (w1 := p3.2) (ft177 15 rfl) (by decide +kernel) rfl (Nat.le_of_ble_eq_true rfl) (Nat.le_of_ble_eq_true rfl) (r140 n x1 (0 : Int32) (63 : Int32) w _ q4) (by decide +kernel) g30 ?_
        refine rn_istore (ls' := [some (.ref v0), some (.int v1), some (.long v2), none, some (.int v4), some (.int v5), some (.int p3.1)]) (ft177 16 rfl) rfl ?_
        refine rn_lload_n (ft177 17 rfl) rfl ?_
        refine rn_iload (ft177 18 rfl) rfl ?_
        refine rn_lushr (ft177 19 rfl) ?_
        refine rn_lconst (v := (1 : Int64)) (ft177 20 rfl) (by decide) ?_
        refine rn_land (ft177 21 rfl) ?_
        refine rn_lconst (v := (0 : Int64)) (ft177 22 rfl) (by decide) ?_
        refine rn_lcmp (ft177 23 rfl) ?_
        by_cases c29 : (lg_cmp ((lush v2 p3.1) &&& (1 : Int64)) (0 : Int64)) = 0
        · replace h := ifp c29 h
          refine rn_if_eq_t (ft177 24 rfl) c29 ?_
          exact rn_forget (ls := [some (.ref v0), some (.int v1), some (.long v2), none, none, some (.int v5), some (.int p3.1)]) (And.intro rfl (And.intro rfl (And.intro rfl (And.intro rfl (And.intro rfl trivial))))) (rf177_J58 n (fun (v0 : Nat) (v1 : Int32) (v2 : Int64) (v4 : Int32) (v5 : Int32) w => f177_H8 n  K6 k v0 v1 v2 v4 v5 w) K6 v0 v1 v2 v5 p3.1 p3.2 _ hrec6 hK6 h)
        · replace h := ifn c29 h
          refine rn_if_eq_f (ft177 24 rfl) c29 ?_
          refine rn_aload_n (ft177 25 rfl) rfl ?_
          obtain ⟨x20, q21, h⟩ := ob_some h
          refine rn_getR (ft177 26 rfl) q21 ?_
          refine rn_iconst (v := (4 : Int32)) (ft177 27 rfl) (by decide) ?_
          refine rn_aload_n (ft177 28 rfl) rfl ?_
          obtain ⟨x22, q23, h⟩ := ob_some h
          refine rn_getR (ft177 29 rfl) q23 ?_
          obtain ⟨x24, q25, h⟩ := ob_some h
          refine rn_getI (ft177 30 rfl) (by decide) (by decide) q25 ?_
          obtain ⟨g28, h⟩ := ifg h
          obtain ⟨p26, q27, h⟩ := ob_some h
          refine rn_callV (as := [.int (4 : Int32), .int x24]) (k0 := x20) (r := []) (v := none) (w1 := p26) (ft177 31 rfl) (by decide +kernel) rfl (Nat.le_of_ble_eq_true rfl) (Nat.le_of_ble_eq_true rfl) (r8 x20 (4 : Int32) x24 p3.2 _ q27) (by decide +kernel) g28 ?_
          exact rn_forget (ls := [some (.ref v0), some (.int v1), some (.long v2), none, none, some (.int v5), some (.int p3.1)]) (And.intro rfl (And.intro rfl (And.intro rfl (And.intro rfl (And.intro rfl trivial))))) (rf177_J58 n (fun (v0 : Nat) (v1 : Int32) (v2 : Int64) (v4 : Int32) (v5 : Int32) w => f177_H8 n  K6 k v0 v1 v2 v4 v5 w) K6 v0 v1 v2 v5 p3.1 p26 _ hrec6 hK6 h)
def f177 (n : Nat) (v0 : Nat) (v1 : Int32) (w : Wd) : Option Wd :=
  f177_H8 n  (fun  (w33 : Wd) => some w33) n v0 v1 (0 : Int64) (1 : Int32) (0 : Int32) w
set_option maxRecDepth 10000 in
theorem r177 {S : Sc} (n : Nat) (v0 : Nat) (v1 : Int32) (w : Wd) (o : Wd) (h : f177 n v0 v1 w = some o) : Rn S 177 0 [some (.ref v0), some (.int v1), none, none, none, none, none] [] w (none, o) := by
  unfold f177 at h
  refine rn_lconst (v := (0 : Int64)) (ft177 0 rfl) (by decide) ?_
  refine rn_lstore_n (ls' := [some (.ref v0), some (.int v1), some (.long (0 : Int64)), none, none, none, none]) (ft177 1 rfl) rfl ?_
  refine rn_iconst (v := (1 : Int32)) (ft177 2 rfl) (by decide) ?_
  refine rn_istore (ls' := [some (.ref v0), some (.int v1), some (.long (0 : Int64)), none, some (.int (1 : Int32)), none, none]) (ft177 3 rfl) rfl ?_
  refine rn_iconst (v := (0 : Int32)) (ft177 4 rfl) (by decide) ?_
  refine rn_istore (ls' := [some (.ref v0), some (.int v1), some (.long (0 : Int64)), none, some (.int (1 : Int32)), some (.int (0 : Int32)), none]) (ft177 5 rfl) rfl ?_
  refine rn_forget (ls := [some (.ref v0), some (.int v1), some (.long (0 : Int64)), none, some (.int (1 : Int32)), some (.int (0 : Int32)), none]) (And.intro rfl (And.intro rfl (And.intro rfl (And.intro rfl (And.intro rfl trivial))))) (rf177_H8 n  _  (fun  w33 o h => ?_) n v0 v1 (0 : Int64) (1 : Int32) (0 : Int32) w _ h)
  cases h
  exact rn_vret pr177 (ft177 55 rfl)
/-- NineWheel$Sea.settle()V -/
theorem ft178 : ∀ (i : Nat) {q : Nat × XI}, cd178[i]? = some q → fetch 178 q.1 = some q.2 := ft_of (by decide +kernel)
theorem pr178 : pRt 178 = none := rfl
def f178_H12 (n : Nat)  (K8 : Nat → Wd → Option Wd) : Nat → Nat → Int32 → Wd → Option Wd
  | 0, _, _, _ => none
  | k + 1, v0, v1, w =>
    (if (64 : Int32) ≤ v1 then K8 v0 w
      else (if (wsh w v0).map (fun q => q.1) = some 6 then ob (f9 v0 v1 w) (fun p5 => (if p5.1 = 0 then (fun (v0 : Nat) (v1 : Int32) w => f178_H12 n  K8 k v0 v1 w) v0 (v1 + (1 : Int32)) p5.2
        else ob (getI p5.2 6 v0 7) (fun x7 => ob (putI p5.2 6 v0 7 (x7 + (1 : Int32))) (fun w9 => (fun (v0 : Nat) (v1 : Int32) w => f178_H12 n  K8 k v0 v1 w) v0 (v1 + (1 : Int32)) w9)))) else none))
set_option maxRecDepth 10000 in
theorem rf178_H12 {S : Sc} (n : Nat)  (K8 : Nat → Wd → Option Wd)  (hK8 : ∀ (y0 : Nat) (w : Wd) (o : Wd), K8 y0 w = some o → Rn S 178 42 [some (.ref y0), none, none] [] w (none, o)) : ∀ (k : Nat) (v0 : Nat) (v1 : Int32) (w : Wd) (o : Wd), f178_H12 n  K8 k v0 v1 w = some o → Rn S 178 12 [some (.ref v0), some (.int v1), none] [] w (none, o) := by
  intro k
  induction k with
  | zero =>
    intro v0 v1 w o h
    exact nomatch h
  | succ k ih =>
    intro v0 v1 w o h
    have hrec8 : ∀ (y0 : Nat) (y1 : Int32) (w : Wd) (o : Wd), (fun (v0 : Nat) (v1 : Int32) w => f178_H12 n  K8 k v0 v1 w) y0 y1 w = some o → Rn S 178 12 [some (.ref y0), some (.int y1), none] [] w (none, o) := fun y0 y1 w o h => ih y0 y1 w o h
    unfold f178_H12 at h
    refine rn_iload_n (ft178 8 rfl) rfl ?_
    refine rn_bipush (v := (64 : Int32)) (ft178 9 rfl) (by decide) ?_
    by_cases c13 : (64 : Int32) ≤ v1
    · replace h := ifp c13 h
      refine rn_icmp_ge_t (ft178 10 rfl) c13 ?_
      exact rn_forget (ls := [some (.ref v0), none, none]) (And.intro rfl trivial) (hK8 v0 w _ h)
    · replace h := ifn c13 h
      refine rn_icmp_ge_f (ft178 10 rfl) c13 ?_
      refine rn_aload_n (ft178 11 rfl) rfl ?_
      refine rn_iload_n (ft178 12 rfl) rfl ?_
      obtain ⟨g12, h⟩ := ifg h
      obtain ⟨p5, q6, h⟩ := ob_some h
      refine rn_callV (as := [.int v1]) (k0 := v0) (r := []) (v := (some (.int p5.1))) (w1 := p5.2) (ft178 13 rfl) (by decide +kernel) rfl (Nat.le_of_ble_eq_true rfl) (Nat.le_of_ble_eq_true rfl) (r9 v0 v1 w _ q6) (by decide +kernel) g12 ?_
      by_cases c11 : p5.1 = 0
      · replace h := ifp c11 h
        refine rn_if_eq_t (ft178 14 rfl) c11 ?_
        refine rn_iinc (u := 1) (ls' := [some (.ref v0), some (.int (v1 + (1 : Int32))), none]) (ft178 21 rfl) rfl (by decide) rfl ?_
        refine rn_goto (ft178 22 rfl) ?_
        exact rn_forget (ls := [some (.ref v0), some (.int (v1 + (1 : Int32))), none]) (And.intro rfl (And.intro rfl trivial)) (hrec8 v0 (v1 + (1 : Int32)) p5.2 _ h)
      · replace h := ifn c11 h
        refine rn_if_eq_f (ft178 14 rfl) c11 ?_
        refine rn_aload_n (ft178 15 rfl) rfl ?_
        refine rn_dup (ft178 16 rfl) rfl ?_
        obtain ⟨x7, q8, h⟩ := ob_some h
        refine rn_getI (ft178 17 rfl) (by decide) (by decide) q8 ?_
        refine rn_iconst (v := (1 : Int32)) (ft178 18 rfl) (by decide) ?_
        refine rn_iadd (ft178 19 rfl) ?_
        obtain ⟨w9, q10, h⟩ := ob_some h
        refine rn_putI (ft178 20 rfl) q10 ?_
        refine rn_iinc (u := 1) (ls' := [some (.ref v0), some (.int (v1 + (1 : Int32))), none]) (ft178 21 rfl) rfl (by decide) rfl ?_
        refine rn_goto (ft178 22 rfl) ?_
        exact rn_forget (ls := [some (.ref v0), some (.int (v1 + (1 : Int32))), none]) (And.intro rfl (And.intro rfl trivial)) (hrec8 v0 (v1 + (1 : Int32)) w9 _ h)
def f178_J170 (n : Nat) (rec25 : Nat → Int32 → Wd → Option Wd) (K25 : Wd → Option Wd) (rec48 : Nat → Int32 → Int32 → Wd → Option Wd) (K48 : Nat → Int32 → Wd → Option Wd) (v0 : Nat) (v1 : Int32) (v2 : Int32) (w : Wd) : Option Wd :=
  ob (getR w 6 v0 10) (fun x55 => ob (astI w x55 v1 v2) (fun w57 => rec48 v0 v1 (v2 + (1 : Int32)) w57))
set_option maxRecDepth 10000 in
theorem rf178_J170 {S : Sc} (n : Nat) (rec25 : Nat → Int32 → Wd → Option Wd) (K25 : Wd → Option Wd) (rec48 : Nat → Int32 → Int32 → Wd → Option Wd) (K48 : Nat → Int32 → Wd → Option Wd) (v0 : Nat) (v1 : Int32) (v2 : Int32) (w : Wd) (o : Wd) (hrec25 : ∀ (y0 : Nat) (y1 : Int32) (w : Wd) (o : Wd), rec25 y0 y1 w = some o → Rn S 178 44 [some (.ref y0), some (.int y1), none] [] w (none, o)) (hK25 : ∀  (w : Wd) (o : Wd), K25 w = some o → Rn S 178 189 [none, none, none] [] w (none, o)) (hrec48 : ∀ (y0 : Nat) (y1 : Int32) (y2 : Int32) (w : Wd) (o : Wd), rec48 y0 y1 y2 w = some o → Rn S 178 82 [some (.ref y0), some (.int y1), some (.int y2)] [] w (none, o)) (hK48 : ∀ (y0 : Nat) (y1 : Int32) (w : Wd) (o : Wd), K48 y0 y1 w = some o → Rn S 178 183 [some (.ref y0), some (.int y1), none] [] w (none, o)) (h : f178_J170 n rec25 K25 rec48 K48 v0 v1 v2 w = some o) : Rn S 178 170 [some (.ref v0), some (.int v1), some (.int v2)] [] w (none, o) := by
  unfold f178_J170 at h
  refine rn_aload_n (ft178 102 rfl) rfl ?_
  obtain ⟨x55, q56, h⟩ := ob_some h
  refine rn_getR (ft178 103 rfl) q56 ?_
  refine rn_iload_n (ft178 104 rfl) rfl ?_
  refine rn_iload_n (ft178 105 rfl) rfl ?_
  obtain ⟨w57, q58, h⟩ := ob_some h
  refine rn_iastore (ft178 106 rfl) q58 ?_
  refine rn_iinc (u := 1) (ls' := [some (.ref v0), some (.int v1), some (.int (v2 + (1 : Int32)))]) (ft178 107 rfl) rfl (by decide) rfl ?_
  refine rn_goto (ft178 108 rfl) ?_
  exact rn_forget (ls := [some (.ref v0), some (.int v1), some (.int (v2 + (1 : Int32)))]) (And.intro rfl (And.intro rfl (And.intro rfl trivial))) (hrec48 v0 v1 (v2 + (1 : Int32)) w57 _ h)
def f178_J129 (n : Nat) (rec25 : Nat → Int32 → Wd → Option Wd) (K25 : Wd → Option Wd) (rec48 : Nat → Int32 → Int32 → Wd → Option Wd) (K48 : Nat → Int32 → Wd → Option Wd) (v0 : Nat) (v1 : Int32) (v2 : Int32) (s0 : Nat) (s1 : Int32) (s2 : Int32) (w : Wd) : Option Wd :=
  ob (astI w s0 s1 s2) (fun w47 => (if (wsh w47 v0).map (fun q => q.1) = some 6 then ob (f9 v0 v2 w47) (fun p49 => (if ¬ p49.1 = 0 then rec48 v0 v1 (v2 + (1 : Int32)) p49.2
    else ob (getR p49.2 6 v0 10) (fun x51 => ob (aldI p49.2 x51 v1) (fun x53 => (if x53 = (-1 : Int32) then f178_J170 n rec25 K25 rec48 K48 v0 v1 v2 p49.2
      else ob (getR p49.2 6 v0 11) (fun x59 => ob (aldR p49.2 x59 v1) (fun x61 => ob (aldI p49.2 x61 v2) (fun x63 => ob (getR p49.2 6 v0 10) (fun x65 => ob (aldI p49.2 x65 v1) (fun x67 => (if (wsh p49.2 v0).map (fun q => q.1) = some 6 then ob (f81 v0 v1 x67 p49.2) (fun p69 => (if x63 ≤ p69.1 then rec48 v0 v1 (v2 + (1 : Int32)) p69.2
        else f178_J170 n rec25 K25 rec48 K48 v0 v1 v2 p69.2)) else none))))))))))) else none))
set_option maxRecDepth 10000 in
theorem rf178_J129 {S : Sc} (n : Nat) (rec25 : Nat → Int32 → Wd → Option Wd) (K25 : Wd → Option Wd) (rec48 : Nat → Int32 → Int32 → Wd → Option Wd) (K48 : Nat → Int32 → Wd → Option Wd) (v0 : Nat) (v1 : Int32) (v2 : Int32) (s0 : Nat) (s1 : Int32) (s2 : Int32) (w : Wd) (o : Wd) (hrec25 : ∀ (y0 : Nat) (y1 : Int32) (w : Wd) (o : Wd), rec25 y0 y1 w = some o → Rn S 178 44 [some (.ref y0), some (.int y1), none] [] w (none, o)) (hK25 : ∀  (w : Wd) (o : Wd), K25 w = some o → Rn S 178 189 [none, none, none] [] w (none, o)) (hrec48 : ∀ (y0 : Nat) (y1 : Int32) (y2 : Int32) (w : Wd) (o : Wd), rec48 y0 y1 y2 w = some o → Rn S 178 82 [some (.ref y0), some (.int y1), some (.int y2)] [] w (none, o)) (hK48 : ∀ (y0 : Nat) (y1 : Int32) (w : Wd) (o : Wd), K48 y0 y1 w = some o → Rn S 178 183 [some (.ref y0), some (.int y1), none] [] w (none, o)) (h : f178_J129 n rec25 K25 rec48 K48 v0 v1 v2 s0 s1 s2 w = some o) : Rn S 178 129 [some (.ref v0), some (.int v1), some (.int v2)] [.int s2, .int s1, .ref s0] w (none, o) := by
  unfold f178_J129 at h
  obtain ⟨w47, q48, h⟩ := ob_some h
  refine rn_iastore (ft178 77 rfl) q48 ?_
  refine rn_aload_n (ft178 78 rfl) rfl ?_
  refine rn_iload_n (ft178 79 rfl) rfl ?_
  obtain ⟨g75, h⟩ := ifg h
  obtain ⟨p49, q50, h⟩ := ob_some h
  refine rn_callV (as := [.int v2]) (k0 := v0) (r := []) (v := (some (.int p49.1))) (w1 := p49.2) (ft178 80 rfl) (by decide +kernel) rfl (Nat.le_of_ble_eq_true rfl) (Nat.le_of_ble_eq_true rfl) (r9 v0 v2 w47 _ q50) (by decide +kernel) g75 ?_
  by_cases c74 : ¬ p49.1 = 0
  · replace h := ifp c74 h
    refine rn_if_ne_t (ft178 81 rfl) c74 ?_
    refine rn_iinc (u := 1) (ls' := [some (.ref v0), some (.int v1), some (.int (v2 + (1 : Int32)))]) (ft178 107 rfl) rfl (by decide) rfl ?_
    refine rn_goto (ft178 108 rfl) ?_
    exact rn_forget (ls := [some (.ref v0), some (.int v1), some (.int (v2 + (1 : Int32)))]) (And.intro rfl (And.intro rfl (And.intro rfl trivial))) (hrec48 v0 v1 (v2 + (1 : Int32)) p49.2 _ h)
  · replace h := ifn c74 h
    refine rn_if_ne_f (ft178 81 rfl) c74 ?_
    refine rn_aload_n (ft178 82 rfl) rfl ?_
    obtain ⟨x51, q52, h⟩ := ob_some h
    refine rn_getR (ft178 83 rfl) q52 ?_
    refine rn_iload_n (ft178 84 rfl) rfl ?_
    obtain ⟨x53, q54, h⟩ := ob_some h
    refine rn_iaload (ft178 85 rfl) q54 ?_
    refine rn_iconst (v := (-1 : Int32)) (ft178 86 rfl) (by decide) ?_
    by_cases c73 : x53 = (-1 : Int32)
    · replace h := ifp c73 h
      refine rn_icmp_eq_t (ft178 87 rfl) c73 ?_
      exact rn_forget (ls := [some (.ref v0), some (.int v1), some (.int v2)]) (And.intro rfl (And.intro rfl (And.intro rfl trivial))) (rf178_J170 n rec25 K25 rec48 K48 v0 v1 v2 p49.2 _ hrec25 hK25 hrec48 hK48 h)
    · replace h := ifn c73 h
      refine rn_icmp_eq_f (ft178 87 rfl) c73 ?_
      refine rn_aload_n (ft178 88 rfl) rfl ?_
      obtain ⟨x59, q60, h⟩ := ob_some h
      refine rn_getR (ft178 89 rfl) q60 ?_
      refine rn_iload_n (ft178 90 rfl) rfl ?_
      obtain ⟨x61, q62, h⟩ := ob_some h
      refine rn_aaload (ft178 91 rfl) q62 ?_
      refine rn_iload_n (ft178 92 rfl) rfl ?_
      obtain ⟨x63, q64, h⟩ := ob_some h
      refine rn_iaload (ft178 93 rfl) q64 ?_
      refine rn_aload_n (ft178 94 rfl) rfl ?_
      refine rn_iload_n (ft178 95 rfl) rfl ?_
      refine rn_aload_n (ft178 96 rfl) rfl ?_
      obtain ⟨x65, q66, h⟩ := ob_some h
      refine rn_getR (ft178 97 rfl) q66 ?_
      refine rn_iload_n (ft178 98 rfl) rfl ?_
      obtain ⟨x67, q68, h⟩ := ob_some h
      refine rn_iaload (ft178 99 rfl) q68 ?_
      obtain ⟨g72, h⟩ := ifg h
      obtain ⟨p69, q70, h⟩ := ob_some h
      refine rn_callV (as := [.int v1, .int x67]) (k0 := v0) (r := [.int x63]) (v := (some (.int p69.1))) (w1 := p69.2) (ft178 100 rfl) (by decide +kernel) rfl (Nat.le_of_ble_eq_true rfl) (Nat.le_of_ble_eq_true rfl) (r81 v0 v1 x67 p49.2 _ q70) (by decide +kernel) g72 ?_
      by_cases c71 : x63 ≤ p69.1
      · replace h := ifp c71 h
        refine rn_icmp_le_t (ft178 101 rfl) c71 ?_
        refine rn_iinc (u := 1) (ls' := [some (.ref v0), some (.int v1), some (.int (v2 + (1 : Int32)))]) (ft178 107 rfl) rfl (by decide) rfl ?_
        refine rn_goto (ft178 108 rfl) ?_
        exact rn_forget (ls := [some (.ref v0), some (.int v1), some (.int (v2 + (1 : Int32)))]) (And.intro rfl (And.intro rfl (And.intro rfl trivial))) (hrec48 v0 v1 (v2 + (1 : Int32)) p69.2 _ h)
      · replace h := ifn c71 h
        refine rn_icmp_le_f (ft178 101 rfl) c71 ?_
        exact rn_forget (ls := [some (.ref v0), some (.int v1), some (.int v2)]) (And.intro rfl (And.intro rfl (And.intro rfl trivial))) (rf178_J170 n rec25 K25 rec48 K48 v0 v1 v2 p69.2 _ hrec25 hK25 hrec48 hK48 h)
def f178_H82 (n : Nat) (rec25 : Nat → Int32 → Wd → Option Wd) (K25 : Wd → Option Wd) (K48 : Nat → Int32 → Wd → Option Wd) : Nat → Nat → Int32 → Int32 → Wd → Option Wd
  | 0, _, _, _, _ => none
  | k + 1, v0, v1, v2, w =>
    (if (64 : Int32) ≤ v2 then K48 v0 v1 w
      else ob (getR w 6 v0 11) (fun x29 => ob (aldR w x29 v1) (fun x31 => (if (wsh w v0).map (fun q => q.1) = some 6 then ob (f9 v0 v2 w) (fun p33 => (if p33.1 = 0 then ob (getR p33.2 6 v0 11) (fun x35 => ob (aldR p33.2 x35 v1) (fun x37 => ob (aldI p33.2 x37 v2) (fun x39 => ob (getR p33.2 6 v0 9) (fun x41 => ob (aldI p33.2 x41 v1) (fun x43 => (if (wsh p33.2 v0).map (fun q => q.1) = some 6 then ob (f142 n v0 v2 p33.2) (fun p45 => f178_J129 n rec25 K25 (fun (v0 : Nat) (v1 : Int32) (v2 : Int32) w => f178_H82 n rec25 K25 K48 k v0 v1 v2 w) K48 v0 v1 v2 x31 v2 (x39 - (x43 * p45.1)) p45.2) else none))))))
        else f178_J129 n rec25 K25 (fun (v0 : Nat) (v1 : Int32) (v2 : Int32) w => f178_H82 n rec25 K25 K48 k v0 v1 v2 w) K48 v0 v1 v2 x31 v2 (-99 : Int32) p33.2)) else none))))
set_option maxRecDepth 10000 in
theorem rf178_H82 {S : Sc} (n : Nat) (rec25 : Nat → Int32 → Wd → Option Wd) (K25 : Wd → Option Wd) (K48 : Nat → Int32 → Wd → Option Wd) (hrec25 : ∀ (y0 : Nat) (y1 : Int32) (w : Wd) (o : Wd), rec25 y0 y1 w = some o → Rn S 178 44 [some (.ref y0), some (.int y1), none] [] w (none, o)) (hK25 : ∀  (w : Wd) (o : Wd), K25 w = some o → Rn S 178 189 [none, none, none] [] w (none, o)) (hK48 : ∀ (y0 : Nat) (y1 : Int32) (w : Wd) (o : Wd), K48 y0 y1 w = some o → Rn S 178 183 [some (.ref y0), some (.int y1), none] [] w (none, o)) : ∀ (k : Nat) (v0 : Nat) (v1 : Int32) (v2 : Int32) (w : Wd) (o : Wd), f178_H82 n rec25 K25 K48 k v0 v1 v2 w = some o → Rn S 178 82 [some (.ref v0), some (.int v1), some (.int v2)] [] w (none, o) := by
  intro k
  induction k with
  | zero =>
    intro v0 v1 v2 w o h
    exact nomatch h
  | succ k ih =>
    intro v0 v1 v2 w o h
    have hrec48 : ∀ (y0 : Nat) (y1 : Int32) (y2 : Int32) (w : Wd) (o : Wd), (fun (v0 : Nat) (v1 : Int32) (v2 : Int32) w => f178_H82 n rec25 K25 K48 k v0 v1 v2 w) y0 y1 y2 w = some o → Rn S 178 82 [some (.ref y0), some (.int y1), some (.int y2)] [] w (none, o) := fun y0 y1 y2 w o h => ih y0 y1 y2 w o h
    unfold f178_H82 at h
    refine rn_iload_n (ft178 48 rfl) rfl ?_
    refine rn_bipush (v := (64 : Int32)) (ft178 49 rfl) (by decide) ?_
    by_cases c79 : (64 : Int32) ≤ v2
    · replace h := ifp c79 h
      refine rn_icmp_ge_t (ft178 50 rfl) c79 ?_
      exact rn_forget (ls := [some (.ref v0), some (.int v1), none]) (And.intro rfl (And.intro rfl trivial)) (hK48 v0 v1 w _ h)
    · replace h := ifn c79 h
      refine rn_icmp_ge_f (ft178 50 rfl) c79 ?_
      refine rn_aload_n (ft178 51 rfl) rfl ?_
      obtain ⟨x29, q30, h⟩ := ob_some h
      refine rn_getR (ft178 52 rfl) q30 ?_
      refine rn_iload_n (ft178 53 rfl) rfl ?_
      obtain ⟨x31, q32, h⟩ := ob_some h
      refine rn_aaload (ft178 54 rfl) q32 ?_
      refine rn_iload_n (ft178 55 rfl) rfl ?_
      refine rn_aload_n (ft178 56 rfl) rfl ?_
      refine rn_iload_n (ft178 57 rfl) rfl ?_
      obtain ⟨g78, h⟩ := ifg h
      obtain ⟨p33, q34, h⟩ := ob_some h
      refine rn_callV (as := [.int v2]) (k0 := v0) (r := [.int v2, .ref x31]) (v := (some (.int p33.1))) (w1 := p33.2) (ft178 58 rfl) (by decide +kernel) rfl (Nat.le_of_ble_eq_true rfl) (Nat.le_of_ble_eq_true rfl) (r9 v0 v2 w _ q34) (by decide +kernel) g78 ?_
      by_cases c77 : p33.1 = 0
      · replace h := ifp c77 h
        refine rn_if_eq_t (ft178 59 rfl) c77 ?_
        refine rn_aload_n (ft178 62 rfl) rfl ?_
        obtain ⟨x35, q36, h⟩ := ob_some h
        refine rn_getR (ft178 63 rfl) q36 ?_
        refine rn_iload_n (ft178 64 rfl) rfl ?_
        obtain ⟨x37, q38, h⟩ := ob_some h
        refine rn_aaload (ft178 65 rfl) q38 ?_
        refine rn_iload_n (ft178 66 rfl) rfl ?_
        obtain ⟨x39, q40, h⟩ := ob_some h
        refine rn_iaload (ft178 67 rfl) q40 ?_
        refine rn_aload_n (ft178 68 rfl) rfl ?_
        obtain ⟨x41, q42, h⟩ := ob_some h
        refine rn_getR (ft178 69 rfl) q42 ?_
        refine rn_iload_n (ft178 70 rfl) rfl ?_
        obtain ⟨x43, q44, h⟩ := ob_some h
        refine rn_iaload (ft178 71 rfl) q44 ?_
        refine rn_aload_n (ft178 72 rfl) rfl ?_
        refine rn_iload_n (ft178 73 rfl) rfl ?_
        obtain ⟨g76, h⟩ := ifg h
        obtain ⟨p45, q46, h⟩ := ob_some h
        refine rn_callV (as := [.int v2]) (k0 := v0) (r := [.int x43, .int x39, .int v2, .ref x31]) (v := (some (.int p45.1))) (w1 := p45.2) (ft178 74 rfl) (by decide +kernel) rfl (Nat.le_of_ble_eq_true rfl) (Nat.le_of_ble_eq_true rfl) (r142 n v0 v2 p33.2 _ q46) (by decide +kernel) g76 ?_
        refine rn_imul (ft178 75 rfl) ?_
        refine rn_isub (ft178 76 rfl) ?_
        exact rn_forget (ls := [some (.ref v0), some (.int v1), some (.int v2)]) (And.intro rfl (And.intro rfl (And.intro rfl trivial))) (rf178_J129 n rec25 K25 (fun (v0 : Nat) (v1 : Int32) (v2 : Int32) w => f178_H82 n rec25 K25 K48 k v0 v1 v2 w) K48 v0 v1 v2 x31 v2 (x39 - (x43 * p45.1)) p45.2 _ hrec25 hK25 hrec48 hK48 h)
      · replace h := ifn c77 h
        refine rn_if_eq_f (ft178 59 rfl) c77 ?_
        refine rn_bipush (v := (-99 : Int32)) (ft178 60 rfl) (by decide) ?_
        refine rn_goto (ft178 61 rfl) ?_
        exact rn_forget (ls := [some (.ref v0), some (.int v1), some (.int v2)]) (And.intro rfl (And.intro rfl (And.intro rfl trivial))) (rf178_J129 n rec25 K25 (fun (v0 : Nat) (v1 : Int32) (v2 : Int32) w => f178_H82 n rec25 K25 K48 k v0 v1 v2 w) K48 v0 v1 v2 x31 v2 (-99 : Int32) p33.2 _ hrec25 hK25 hrec48 hK48 h)
def f178_H44 (n : Nat)  (K25 : Wd → Option Wd) : Nat → Nat → Int32 → Wd → Option Wd
  | 0, _, _, _ => none
  | k + 1, v0, v1, w =>
    ob (getI w 6 v0 5) (fun x15 => (if x15 ≤ v1 then K25 w
      else (if (6 : Int32) ≤ v1 then K25 w
        else ob (getI w 6 v0 6) (fun x17 => ob (getR w 6 v0 8) (fun x19 => ob (aldI w x19 v1) (fun x21 => ob (putI w 6 v0 6 (x17 + x21)) (fun w23 => ob (getR w23 6 v0 10) (fun x25 => ob (astI w23 x25 v1 (-1 : Int32)) (fun w27 => f178_H82 n (fun (v0 : Nat) (v1 : Int32) w => f178_H44 n  K25 k v0 v1 w) K25 (fun (e0_80 : Nat) (e1_80 : Int32) (w80 : Wd) => (fun (v0 : Nat) (v1 : Int32) w => f178_H44 n  K25 k v0 v1 w) e0_80 (e1_80 + (1 : Int32)) w80) n v0 v1 (0 : Int32) w27)))))))))
set_option maxRecDepth 10000 in
theorem rf178_H44 {S : Sc} (n : Nat)  (K25 : Wd → Option Wd)  (hK25 : ∀  (w : Wd) (o : Wd), K25 w = some o → Rn S 178 189 [none, none, none] [] w (none, o)) : ∀ (k : Nat) (v0 : Nat) (v1 : Int32) (w : Wd) (o : Wd), f178_H44 n  K25 k v0 v1 w = some o → Rn S 178 44 [some (.ref v0), some (.int v1), none] [] w (none, o) := by
  intro k
  induction k with
  | zero =>
    intro v0 v1 w o h
    exact nomatch h
  | succ k ih =>
    intro v0 v1 w o h
    have hrec25 : ∀ (y0 : Nat) (y1 : Int32) (w : Wd) (o : Wd), (fun (v0 : Nat) (v1 : Int32) w => f178_H44 n  K25 k v0 v1 w) y0 y1 w = some o → Rn S 178 44 [some (.ref y0), some (.int y1), none] [] w (none, o) := fun y0 y1 w o h => ih y0 y1 w o h
    unfold f178_H44 at h
    refine rn_iload_n (ft178 25 rfl) rfl ?_
    refine rn_aload_n (ft178 26 rfl) rfl ?_
    obtain ⟨x15, q16, h⟩ := ob_some h
    refine rn_getI (ft178 27 rfl) (by decide) (by decide) q16 ?_
    by_cases c82 : x15 ≤ v1
    · replace h := ifp c82 h
      refine rn_icmp_ge_t (ft178 28 rfl) c82 ?_
      exact rn_forget (ls := [none, none, none]) trivial (hK25 w _ h)
    · replace h := ifn c82 h
      refine rn_icmp_ge_f (ft178 28 rfl) c82 ?_
      refine rn_iload_n (ft178 29 rfl) rfl ?_
      refine rn_bipush (v := (6 : Int32)) (ft178 30 rfl) (by decide) ?_
      by_cases c81 : (6 : Int32) ≤ v1
      · replace h := ifp c81 h
        refine rn_icmp_ge_t (ft178 31 rfl) c81 ?_
        exact rn_forget (ls := [none, none, none]) trivial (hK25 w _ h)
      · replace h := ifn c81 h
        refine rn_icmp_ge_f (ft178 31 rfl) c81 ?_
        refine rn_aload_n (ft178 32 rfl) rfl ?_
        refine rn_dup (ft178 33 rfl) rfl ?_
        obtain ⟨x17, q18, h⟩ := ob_some h
        refine rn_getI (ft178 34 rfl) (by decide) (by decide) q18 ?_
        refine rn_aload_n (ft178 35 rfl) rfl ?_
        obtain ⟨x19, q20, h⟩ := ob_some h
        refine rn_getR (ft178 36 rfl) q20 ?_
        refine rn_iload_n (ft178 37 rfl) rfl ?_
        obtain ⟨x21, q22, h⟩ := ob_some h
        refine rn_iaload (ft178 38 rfl) q22 ?_
        refine rn_iadd (ft178 39 rfl) ?_
        obtain ⟨w23, q24, h⟩ := ob_some h
        refine rn_putI (ft178 40 rfl) q24 ?_
        refine rn_aload_n (ft178 41 rfl) rfl ?_
        obtain ⟨x25, q26, h⟩ := ob_some h
        refine rn_getR (ft178 42 rfl) q26 ?_
        refine rn_iload_n (ft178 43 rfl) rfl ?_
        refine rn_iconst (v := (-1 : Int32)) (ft178 44 rfl) (by decide) ?_
        obtain ⟨w27, q28, h⟩ := ob_some h
        refine rn_iastore (ft178 45 rfl) q28 ?_
        refine rn_iconst (v := (0 : Int32)) (ft178 46 rfl) (by decide) ?_
        refine rn_istore_n (ls' := [some (.ref v0), some (.int v1), some (.int (0 : Int32))]) (ft178 47 rfl) rfl ?_
        refine rn_forget (ls := [some (.ref v0), some (.int v1), some (.int (0 : Int32))]) (And.intro rfl (And.intro rfl (And.intro rfl trivial))) (rf178_H82 n (fun (v0 : Nat) (v1 : Int32) w => f178_H44 n  K25 k v0 v1 w) K25 _ hrec25 hK25 (fun e0_80 e1_80 w80 o h => ?_) n v0 v1 (0 : Int32) w27 _ h)
        refine rn_iinc (u := 1) (ls' := [some (.ref e0_80), some (.int (e1_80 + (1 : Int32))), none]) (ft178 109 rfl) rfl (by decide) rfl ?_
        refine rn_goto (ft178 110 rfl) ?_
        exact rn_forget (ls := [some (.ref e0_80), some (.int (e1_80 + (1 : Int32))), none]) (And.intro rfl (And.intro rfl trivial)) (hrec25 e0_80 (e1_80 + (1 : Int32)) w80 _ h)
def f178 (n : Nat) (v0 : Nat) (w : Wd) : Option Wd :=
  ob (putI w 6 v0 6 (0 : Int32)) (fun w1 => ob (putI w1 6 v0 7 (0 : Int32)) (fun w3 => f178_H12 n  (fun (e0_14 : Nat) (w14 : Wd) => f178_H44 n  (fun  (w83 : Wd) => some w83) n e0_14 (0 : Int32) w14) n v0 (0 : Int32) w3))
set_option maxRecDepth 10000 in
theorem r178 {S : Sc} (n : Nat) (v0 : Nat) (w : Wd) (o : Wd) (h : f178 n v0 w = some o) : Rn S 178 0 [some (.ref v0), none, none] [] w (none, o) := by
  unfold f178 at h
  refine rn_aload_n (ft178 0 rfl) rfl ?_
  refine rn_iconst (v := (0 : Int32)) (ft178 1 rfl) (by decide) ?_
  obtain ⟨w1, q2, h⟩ := ob_some h
  refine rn_putI (ft178 2 rfl) q2 ?_
  refine rn_aload_n (ft178 3 rfl) rfl ?_
  refine rn_iconst (v := (0 : Int32)) (ft178 4 rfl) (by decide) ?_
  obtain ⟨w3, q4, h⟩ := ob_some h
  refine rn_putI (ft178 5 rfl) q4 ?_
  refine rn_iconst (v := (0 : Int32)) (ft178 6 rfl) (by decide) ?_
  refine rn_istore_n (ls' := [some (.ref v0), some (.int (0 : Int32)), none]) (ft178 7 rfl) rfl ?_
  refine rn_forget (ls := [some (.ref v0), some (.int (0 : Int32)), none]) (And.intro rfl (And.intro rfl trivial)) (rf178_H12 n  _  (fun e0_14 w14 o h => ?_) n v0 (0 : Int32) w3 _ h)
  refine rn_iconst (v := (0 : Int32)) (ft178 23 rfl) (by decide) ?_
  refine rn_istore_n (ls' := [some (.ref e0_14), some (.int (0 : Int32)), none]) (ft178 24 rfl) rfl ?_
  refine rn_forget (ls := [some (.ref e0_14), some (.int (0 : Int32)), none]) (And.intro rfl (And.intro rfl trivial)) (rf178_H44 n  _  (fun  w83 o h => ?_) n e0_14 (0 : Int32) w14 _ h)
  cases h
  exact rn_vret pr178 (ft178 111 rfl)
/-- NineWheel$Rule.readBars(LNineWheel$Text;)V -/
theorem ft179 : ∀ (i : Nat) {q : Nat × XI}, cd179[i]? = some q → fetch 179 q.1 = some q.2 := ft_of (by decide +kernel)
theorem pr179 : pRt 179 = none := rfl
def f179_J43 (n : Nat) (rec4 : Nat → Nat → Int32 → Int32 → Wd → Option Wd) (K4 : Wd → Option Wd) (v0 : Nat) (v1 : Nat) (v3 : Int32) (v4 : Int32) (w : Wd) : Option Wd :=
  ob (getI w 5 v0 2) (fun x7 => ob (putI w 5 v0 2 (x7 ||| ((1 : Int32) <<< (v4 &&& 31)))) (fun w9 => (if (wsh w9 v1).map (fun q => q.1) = some 9 then ob (f141 n v1 (44 : Int32) w9) (fun p11 => rec4 v0 v1 p11.1 (v3 + (1 : Int32)) p11.2) else none)))
set_option maxRecDepth 10000 in
theorem rf179_J43 {S : Sc} (n : Nat) (rec4 : Nat → Nat → Int32 → Int32 → Wd → Option Wd) (K4 : Wd → Option Wd) (v0 : Nat) (v1 : Nat) (v3 : Int32) (v4 : Int32) (w : Wd) (o : Wd) (hrec4 : ∀ (y0 : Nat) (y1 : Nat) (y2 : Int32) (y3 : Int32) (w : Wd) (o : Wd), rec4 y0 y1 y2 y3 w = some o → Rn S 179 4 [some (.ref y0), some (.ref y1), some (.int y2), some (.int y3), none] [] w (none, o)) (hK4 : ∀  (w : Wd) (o : Wd), K4 w = some o → Rn S 179 69 [none, none, none, none, none] [] w (none, o)) (h : f179_J43 n rec4 K4 v0 v1 v3 v4 w = some o) : Rn S 179 43 [some (.ref v0), some (.ref v1), none, some (.int v3), some (.int v4)] [] w (none, o) := by
  unfold f179_J43 at h
  refine rn_aload_n (ft179 24 rfl) rfl ?_
  refine rn_dup (ft179 25 rfl) rfl ?_
  obtain ⟨x7, q8, h⟩ := ob_some h
  refine rn_getI (ft179 26 rfl) (by decide) (by decide) q8 ?_
  refine rn_iconst (v := (1 : Int32)) (ft179 27 rfl) (by decide) ?_
  refine rn_iload (ft179 28 rfl) rfl ?_
  refine rn_ishl (ft179 29 rfl) ?_
  refine rn_ior (ft179 30 rfl) ?_
  obtain ⟨w9, q10, h⟩ := ob_some h
  refine rn_putI (ft179 31 rfl) q10 ?_
  refine rn_aload_n (ft179 32 rfl) rfl ?_
  refine rn_bipush (v := (44 : Int32)) (ft179 33 rfl) (by decide) ?_
  obtain ⟨g13, h⟩ := ifg h
  obtain ⟨p11, q12, h⟩ := ob_some h
  refine rn_callV (as := [.int (44 : Int32)]) (k0 := v1) (r := []) (v := (some (.int p11.1))) (w1 := p11.2) (ft179 34 rfl) (by decide +kernel) rfl (Nat.le_of_ble_eq_true rfl) (Nat.le_of_ble_eq_true rfl) (r141 n v1 (44 : Int32) w9 _ q12) (by decide +kernel) g13 ?_
  refine rn_istore_n (ls' := [some (.ref v0), some (.ref v1), some (.int p11.1), some (.int v3), some (.int v4)]) (ft179 35 rfl) rfl ?_
  refine rn_iinc (u := 1) (ls' := [some (.ref v0), some (.ref v1), some (.int p11.1), some (.int (v3 + (1 : Int32))), some (.int v4)]) (ft179 36 rfl) rfl (by decide) rfl ?_
  refine rn_goto (ft179 37 rfl) ?_
  exact rn_forget (ls := [some (.ref v0), some (.ref v1), some (.int p11.1), some (.int (v3 + (1 : Int32))), none]) (And.intro rfl (And.intro rfl (And.intro rfl (And.intro rfl trivial)))) (hrec4 v0 v1 p11.1 (v3 + (1 : Int32)) p11.2 _ h)
def f179_H4 (n : Nat)  (K4 : Wd → Option Wd) : Nat → Nat → Nat → Int32 → Int32 → Wd → Option Wd
  | 0, _, _, _, _, _ => none
  | k + 1, v0, v1, v2, v3, w =>
    (if (6 : Int32) < v3 then K4 w
      else (if v2 = 0 then K4 w
        else (if (wsh w v1).map (fun q => q.1) = some 9 then ob (f140 n v1 (0 : Int32) (5 : Int32) w) (fun p1 => ob (getI p1.2 5 v0 2) (fun x3 => ob (f16 x3 p1.1 p1.2) (fun p5 => (if p5.1 = 0 then f179_J43 n (fun (v0 : Nat) (v1 : Nat) (v2 : Int32) (v3 : Int32) w => f179_H4 n  K4 k v0 v1 v2 v3 w) K4 v0 v1 v3 p1.1 p5.2
          else ob (getI p5.2 9 v1 3) (fun x14 => (if (wsh p5.2 v1).map (fun q => q.1) = some 9 then ob (f8 v1 (4 : Int32) x14 p5.2) (fun p16 => f179_J43 n (fun (v0 : Nat) (v1 : Nat) (v2 : Int32) (v3 : Int32) w => f179_H4 n  K4 k v0 v1 v2 v3 w) K4 v0 v1 v3 p1.1 p16) else none)))))) else none)))
set_option maxRecDepth 10000 in
theorem rf179_H4 {S : Sc} (n : Nat)  (K4 : Wd → Option Wd)  (hK4 : ∀  (w : Wd) (o : Wd), K4 w = some o → Rn S 179 69 [none, none, none, none, none] [] w (none, o)) : ∀ (k : Nat) (v0 : Nat) (v1 : Nat) (v2 : Int32) (v3 : Int32) (w : Wd) (o : Wd), f179_H4 n  K4 k v0 v1 v2 v3 w = some o → Rn S 179 4 [some (.ref v0), some (.ref v1), some (.int v2), some (.int v3), none] [] w (none, o) := by
  intro k
  induction k with
  | zero =>
    intro v0 v1 v2 v3 w o h
    exact nomatch h
  | succ k ih =>
    intro v0 v1 v2 v3 w o h
    have hrec4 : ∀ (y0 : Nat) (y1 : Nat) (y2 : Int32) (y3 : Int32) (w : Wd) (o : Wd), (fun (v0 : Nat) (v1 : Nat) (v2 : Int32) (v3 : Int32) w => f179_H4 n  K4 k v0 v1 v2 v3 w) y0 y1 y2 y3 w = some o → Rn S 179 4 [some (.ref y0), some (.ref y1), some (.int y2), some (.int y3), none] [] w (none, o) := fun y0 y1 y2 y3 w o h => ih y0 y1 y2 y3 w o h
    unfold f179_H4 at h
    refine rn_iload_n (ft179 4 rfl) rfl ?_
    refine rn_bipush (v := (6 : Int32)) (ft179 5 rfl) (by decide) ?_
    by_cases c22 : (6 : Int32) < v3
    · replace h := ifp c22 h
      refine rn_icmp_gt_t (ft179 6 rfl) c22 ?_
      exact rn_forget (ls := [none, none, none, none, none]) trivial (hK4 w _ h)
    · replace h := ifn c22 h
      refine rn_icmp_gt_f (ft179 6 rfl) c22 ?_
      refine rn_iload_n (ft179 7 rfl) rfl ?_
      by_cases c21 : v2 = 0
      · replace h := ifp c21 h
        refine rn_if_eq_t (ft179 8 rfl) c21 ?_
        exact rn_forget (ls := [none, none, none, none, none]) trivial (hK4 w _ h)
      · replace h := ifn c21 h
        refine rn_if_eq_f (ft179 8 rfl) c21 ?_
        refine rn_aload_n (ft179 9 rfl) rfl ?_
        refine rn_iconst (v := (0 : Int32)) (ft179 10 rfl) (by decide) ?_
        refine rn_iconst (v := (5 : Int32)) (ft179 11 rfl) (by decide) ?_
        obtain ⟨g20, h⟩ := ifg h
        obtain ⟨p1, q2, h⟩ := ob_some h
        refine rn_callV (as := [.int (0 : Int32), .int (5 : Int32)]) (k0 := v1) (r := []) (v := (some (.int p1.1))) (w1 := p1.2) (ft179 12 rfl) (by decide +kernel) rfl (Nat.le_of_ble_eq_true rfl) (Nat.le_of_ble_eq_true rfl) (r140 n v1 (0 : Int32) (5 : Int32) w _ q2) (by decide +kernel) g20 ?_
        refine rn_istore (ls' := [some (.ref v0), some (.ref v1), some (.int v2), some (.int v3), some (.int p1.1)]) (ft179 13 rfl) rfl ?_
        refine rn_aload_n (ft179 14 rfl) rfl ?_
        obtain ⟨x3, q4, h⟩ := ob_some h
        refine rn_getI (ft179 15 rfl) (by decide) (by decide) q4 ?_
        refine rn_iload (ft179 16 rfl) rfl ?_
        obtain ⟨p5, q6, h⟩ := ob_some h
        refine rn_callS (as := [.int x3, .int p1.1]) (r := []) (v := (some (.int p5.1))) (w1 := p5.2) (ft179 17 rfl) (by decide +kernel) rfl (Nat.le_of_ble_eq_true rfl) (Nat.le_of_ble_eq_true rfl) (r16 x3 p1.1 p1.2 _ q6) ?_
        by_cases c19 : p5.1 = 0
        · replace h := ifp c19 h
          refine rn_if_eq_t (ft179 18 rfl) c19 ?_
          exact rn_forget (ls := [some (.ref v0), some (.ref v1), none, some (.int v3), some (.int p1.1)]) (And.intro rfl (And.intro rfl (And.intro rfl (And.intro rfl trivial)))) (rf179_J43 n (fun (v0 : Nat) (v1 : Nat) (v2 : Int32) (v3 : Int32) w => f179_H4 n  K4 k v0 v1 v2 v3 w) K4 v0 v1 v3 p1.1 p5.2 _ hrec4 hK4 h)
        · replace h := ifn c19 h
          refine rn_if_eq_f (ft179 18 rfl) c19 ?_
          refine rn_aload_n (ft179 19 rfl) rfl ?_
          refine rn_iconst (v := (4 : Int32)) (ft179 20 rfl) (by decide) ?_
          refine rn_aload_n (ft179 21 rfl) rfl ?_
          obtain ⟨x14, q15, h⟩ := ob_some h
          refine rn_getI (ft179 22 rfl) (by decide) (by decide) q15 ?_
          obtain ⟨g18, h⟩ := ifg h
          obtain ⟨p16, q17, h⟩ := ob_some h
          refine rn_callV (as := [.int (4 : Int32), .int x14]) (k0 := v1) (r := []) (v := none) (w1 := p16) (ft179 23 rfl) (by decide +kernel) rfl (Nat.le_of_ble_eq_true rfl) (Nat.le_of_ble_eq_true rfl) (r8 v1 (4 : Int32) x14 p5.2 _ q17) (by decide +kernel) g18 ?_
          exact rn_forget (ls := [some (.ref v0), some (.ref v1), none, some (.int v3), some (.int p1.1)]) (And.intro rfl (And.intro rfl (And.intro rfl (And.intro rfl trivial)))) (rf179_J43 n (fun (v0 : Nat) (v1 : Nat) (v2 : Int32) (v3 : Int32) w => f179_H4 n  K4 k v0 v1 v2 v3 w) K4 v0 v1 v3 p1.1 p16 _ hrec4 hK4 h)
def f179 (n : Nat) (v0 : Nat) (v1 : Nat) (w : Wd) : Option Wd :=
  f179_H4 n  (fun  (w23 : Wd) => some w23) n v0 v1 (1 : Int32) (0 : Int32) w
set_option maxRecDepth 10000 in
theorem r179 {S : Sc} (n : Nat) (v0 : Nat) (v1 : Nat) (w : Wd) (o : Wd) (h : f179 n v0 v1 w = some o) : Rn S 179 0 [some (.ref v0), some (.ref v1), none, none, none] [] w (none, o) := by
  unfold f179 at h
  refine rn_iconst (v := (1 : Int32)) (ft179 0 rfl) (by decide) ?_
  refine rn_istore_n (ls' := [some (.ref v0), some (.ref v1), some (.int (1 : Int32)), none, none]) (ft179 1 rfl) rfl ?_
  refine rn_iconst (v := (0 : Int32)) (ft179 2 rfl) (by decide) ?_
  refine rn_istore_n (ls' := [some (.ref v0), some (.ref v1), some (.int (1 : Int32)), some (.int (0 : Int32)), none]) (ft179 3 rfl) rfl ?_
  refine rn_forget (ls := [some (.ref v0), some (.ref v1), some (.int (1 : Int32)), some (.int (0 : Int32)), none]) (And.intro rfl (And.intro rfl (And.intro rfl (And.intro rfl trivial)))) (rf179_H4 n  _  (fun  w23 o h => ?_) n v0 v1 (1 : Int32) (0 : Int32) w _ h)
  cases h
  exact rn_vret pr179 (ft179 38 rfl)
/-- NineWheel.worth(II)I -/
theorem ft180 : ∀ (i : Nat) {q : Nat × XI}, cd180[i]? = some q → fetch 180 q.1 = some q.2 := ft_of (by decide +kernel)
theorem pr180 : pRt 180 = some .int := rfl
def f180 (n : Nat) (v0 : Nat) (v1 : Int32) (v2 : Int32) (w : Wd) : Option (Int32 × Wd) :=
  ob (f10 v1 w) (fun p1 => (if ¬ p1.1 = 0 then some ((-1000001 : Int32), p1.2)
    else (if (wsh p1.2 v0).map (fun q => q.1) = some 10 then ob (f83 v0 v2 p1.2) (fun p3 => (if p3.1 = 0 then ob (getR p3.2 10 v0 1) (fun x5 => (if (wsh p3.2 x5).map (fun q => q.1) = some 6 then ob (f143 n x5 v1 v2 p3.2) (fun p7 => some (p7.1, p7.2)) else none))
      else some ((-1000001 : Int32), p3.2))) else none)))
set_option maxRecDepth 10000 in
theorem r180 {S : Sc} (n : Nat) (v0 : Nat) (v1 : Int32) (v2 : Int32) (w : Wd) (o : (Int32 × Wd)) (h : f180 n v0 v1 v2 w = some o) : Rn S 180 0 [some (.ref v0), some (.int v1), some (.int v2)] [] w (some (.int o.1), o.2) := by
  unfold f180 at h
  refine rn_iload_n (ft180 0 rfl) rfl ?_
  obtain ⟨p1, q2, h⟩ := ob_some h
  refine rn_callS (as := [.int v1]) (r := []) (v := (some (.int p1.1))) (w1 := p1.2) (ft180 1 rfl) (by decide +kernel) rfl (Nat.le_of_ble_eq_true rfl) (Nat.le_of_ble_eq_true rfl) (r10 v1 w _ q2) ?_
  by_cases c12 : ¬ p1.1 = 0
  · replace h := ifp c12 h
    refine rn_if_ne_t (ft180 2 rfl) c12 ?_
    refine rn_ldc (v := (-1000001 : Int32)) (ft180 7 rfl) (by decide) rfl ?_
    cases h
    exact rn_iretI pr180 (ft180 8 rfl)
  · replace h := ifn c12 h
    refine rn_if_ne_f (ft180 2 rfl) c12 ?_
    refine rn_aload_n (ft180 3 rfl) rfl ?_
    refine rn_iload_n (ft180 4 rfl) rfl ?_
    obtain ⟨g11, h⟩ := ifg h
    obtain ⟨p3, q4, h⟩ := ob_some h
    refine rn_callV (as := [.int v2]) (k0 := v0) (r := []) (v := (some (.int p3.1))) (w1 := p3.2) (ft180 5 rfl) (by decide +kernel) rfl (Nat.le_of_ble_eq_true rfl) (Nat.le_of_ble_eq_true rfl) (r83 v0 v2 p1.2 _ q4) (by decide +kernel) g11 ?_
    by_cases c10 : p3.1 = 0
    · replace h := ifp c10 h
      refine rn_if_eq_t (ft180 6 rfl) c10 ?_
      refine rn_aload_n (ft180 9 rfl) rfl ?_
      obtain ⟨x5, q6, h⟩ := ob_some h
      refine rn_getR (ft180 10 rfl) q6 ?_
      refine rn_iload_n (ft180 11 rfl) rfl ?_
      refine rn_iload_n (ft180 12 rfl) rfl ?_
      obtain ⟨g9, h⟩ := ifg h
      obtain ⟨p7, q8, h⟩ := ob_some h
      refine rn_callV (as := [.int v1, .int v2]) (k0 := x5) (r := []) (v := (some (.int p7.1))) (w1 := p7.2) (ft180 13 rfl) (by decide +kernel) rfl (Nat.le_of_ble_eq_true rfl) (Nat.le_of_ble_eq_true rfl) (r143 n x5 v1 v2 p3.2 _ q8) (by decide +kernel) g9 ?_
      cases h
      exact rn_iretI pr180 (ft180 14 rfl)
    · replace h := ifn c10 h
      refine rn_if_eq_f (ft180 6 rfl) c10 ?_
      refine rn_ldc (v := (-1000001 : Int32)) (ft180 7 rfl) (by decide) rfl ?_
      cases h
      exact rn_iretI pr180 (ft180 8 rfl)
/-- NineWheel.turns(IIIII)I -/
theorem ft181 : ∀ (i : Nat) {q : Nat × XI}, cd181[i]? = some q → fetch 181 q.1 = some q.2 := ft_of (by decide +kernel)
theorem pr181 : pRt 181 = some .int := rfl
def f181 (v0 : Nat) (v1 : Int32) (v2 : Int32) (v3 : Int32) (v4 : Int32) (v5 : Int32) (w : Wd) : Option (Int32 × Wd) :=
  ob (f10 v1 w) (fun p1 => (if p1.1 = 0 then ob (f90 v2 p1.2) (fun p3 => (if ¬ p3.1 = 0 then some ((-1000002 : Int32), p3.2)
      else ob (f91 v3 p3.2) (fun p5 => (if ¬ p5.1 = 0 then some ((-1000002 : Int32), p5.2)
        else ob (f92 v4 p5.2) (fun p7 => (if ¬ p7.1 = 0 then some ((-1000002 : Int32), p7.2)
          else ob (f0 v5 (0 : Int32) (2 : Int32) p7.2) (fun p9 => (if p9.1 = 0 then ob (getR p9.2 10 v0 1) (fun x11 => (if (wsh p9.2 x11).map (fun q => q.1) = some 6 then ob (f9 x11 v1 p9.2) (fun p13 => (if p13.1 = 0 then ob (getR p13.2 10 v0 1) (fun x15 => (if (wsh p13.2 x15).map (fun q => q.1) = some 6 then ob (f145 x15 ((v1 * (8 : Int32)) + v2) v4 v3 p13.2) (fun p17 => (if ¬ v5 = 0 then (if ¬ v5 = (1 : Int32) then ob (getR p17.2 10 v0 1) (fun x19 => ob (f20 p17.1 p17.2) (fun p21 => (if (wsh p21.2 x19).map (fun q => q.1) = some 6 then ob (f9 x19 p21.1 p21.2) (fun p23 => (if p23.1 = 0 then some ((0 : Int32), p23.2)
                    else some ((1 : Int32), p23.2))) else none)))
                  else ob (f21 p17.1 p17.2) (fun p27 => some (p27.1, p27.2)))
                else ob (f20 p17.1 p17.2) (fun p30 => some (p30.1, p30.2)))) else none))
              else some ((-1000003 : Int32), p13.2))) else none))
            else some ((-1000002 : Int32), p9.2)))))))))
    else some ((-1000001 : Int32), p1.2)))
set_option maxRecDepth 10000 in
theorem r181 {S : Sc} (v0 : Nat) (v1 : Int32) (v2 : Int32) (v3 : Int32) (v4 : Int32) (v5 : Int32) (w : Wd) (o : (Int32 × Wd)) (h : f181 v0 v1 v2 v3 v4 v5 w = some o) : Rn S 181 0 [some (.ref v0), some (.int v1), some (.int v2), some (.int v3), some (.int v4), some (.int v5), none] [] w (some (.int o.1), o.2) := by
  unfold f181 at h
  refine rn_iload_n (ft181 0 rfl) rfl ?_
  obtain ⟨p1, q2, h⟩ := ob_some h
  refine rn_callS (as := [.int v1]) (r := []) (v := (some (.int p1.1))) (w1 := p1.2) (ft181 1 rfl) (by decide +kernel) rfl (Nat.le_of_ble_eq_true rfl) (Nat.le_of_ble_eq_true rfl) (r10 v1 w _ q2) ?_
  by_cases c40 : p1.1 = 0
  · replace h := ifp c40 h
    refine rn_if_eq_t (ft181 2 rfl) c40 ?_
    refine rn_iload_n (ft181 5 rfl) rfl ?_
    obtain ⟨p3, q4, h⟩ := ob_some h
    refine rn_callS (as := [.int v2]) (r := []) (v := (some (.int p3.1))) (w1 := p3.2) (ft181 6 rfl) (by decide +kernel) rfl (Nat.le_of_ble_eq_true rfl) (Nat.le_of_ble_eq_true rfl) (r90 v2 p1.2 _ q4) ?_
    by_cases c39 : ¬ p3.1 = 0
    · replace h := ifp c39 h
      refine rn_if_ne_t (ft181 7 rfl) c39 ?_
      refine rn_ldc (v := (-1000002 : Int32)) (ft181 19 rfl) (by decide) rfl ?_
      cases h
      exact rn_iretI pr181 (ft181 20 rfl)
    · replace h := ifn c39 h
      refine rn_if_ne_f (ft181 7 rfl) c39 ?_
      refine rn_iload_n (ft181 8 rfl) rfl ?_
      obtain ⟨p5, q6, h⟩ := ob_some h
      refine rn_callS (as := [.int v3]) (r := []) (v := (some (.int p5.1))) (w1 := p5.2) (ft181 9 rfl) (by decide +kernel) rfl (Nat.le_of_ble_eq_true rfl) (Nat.le_of_ble_eq_true rfl) (r91 v3 p3.2 _ q6) ?_
      by_cases c38 : ¬ p5.1 = 0
      · replace h := ifp c38 h
        refine rn_if_ne_t (ft181 10 rfl) c38 ?_
        refine rn_ldc (v := (-1000002 : Int32)) (ft181 19 rfl) (by decide) rfl ?_
        cases h
        exact rn_iretI pr181 (ft181 20 rfl)
      · replace h := ifn c38 h
        refine rn_if_ne_f (ft181 10 rfl) c38 ?_
        refine rn_iload (ft181 11 rfl) rfl ?_
        obtain ⟨p7, q8, h⟩ := ob_some h
        refine rn_callS (as := [.int v4]) (r := []) (v := (some (.int p7.1))) (w1 := p7.2) (ft181 12 rfl) (by decide +kernel) rfl (Nat.le_of_ble_eq_true rfl) (Nat.le_of_ble_eq_true rfl) (r92 v4 p5.2 _ q8) ?_
        by_cases c37 : ¬ p7.1 = 0
        · replace h := ifp c37 h
          refine rn_if_ne_t (ft181 13 rfl) c37 ?_
          refine rn_ldc (v := (-1000002 : Int32)) (ft181 19 rfl) (by decide) rfl ?_
          cases h
          exact rn_iretI pr181 (ft181 20 rfl)
        · replace h := ifn c37 h
          refine rn_if_ne_f (ft181 13 rfl) c37 ?_
          refine rn_iload (ft181 14 rfl) rfl ?_
          refine rn_iconst (v := (0 : Int32)) (ft181 15 rfl) (by decide) ?_
          refine rn_iconst (v := (2 : Int32)) (ft181 16 rfl) (by decide) ?_
          obtain ⟨p9, q10, h⟩ := ob_some h
          refine rn_callS (as := [.int v5, .int (0 : Int32), .int (2 : Int32)]) (r := []) (v := (some (.int p9.1))) (w1 := p9.2) (ft181 17 rfl) (by decide +kernel) rfl (Nat.le_of_ble_eq_true rfl) (Nat.le_of_ble_eq_true rfl) (r0 v5 (0 : Int32) (2 : Int32) p7.2 _ q10) ?_
          by_cases c36 : p9.1 = 0
          · replace h := ifp c36 h
            refine rn_if_eq_t (ft181 18 rfl) c36 ?_
            refine rn_aload_n (ft181 21 rfl) rfl ?_
            obtain ⟨x11, q12, h⟩ := ob_some h
            refine rn_getR (ft181 22 rfl) q12 ?_
            refine rn_iload_n (ft181 23 rfl) rfl ?_
            obtain ⟨g35, h⟩ := ifg h
            obtain ⟨p13, q14, h⟩ := ob_some h
            refine rn_callV (as := [.int v1]) (k0 := x11) (r := []) (v := (some (.int p13.1))) (w1 := p13.2) (ft181 24 rfl) (by decide +kernel) rfl (Nat.le_of_ble_eq_true rfl) (Nat.le_of_ble_eq_true rfl) (r9 x11 v1 p9.2 _ q14) (by decide +kernel) g35 ?_
            by_cases c34 : p13.1 = 0
            · replace h := ifp c34 h
              refine rn_if_eq_t (ft181 25 rfl) c34 ?_
              refine rn_aload_n (ft181 28 rfl) rfl ?_
              obtain ⟨x15, q16, h⟩ := ob_some h
              refine rn_getR (ft181 29 rfl) q16 ?_
              refine rn_iload_n (ft181 30 rfl) rfl ?_
              refine rn_bipush (v := (8 : Int32)) (ft181 31 rfl) (by decide) ?_
              refine rn_imul (ft181 32 rfl) ?_
              refine rn_iload_n (ft181 33 rfl) rfl ?_
              refine rn_iadd (ft181 34 rfl) ?_
              refine rn_iload (ft181 35 rfl) rfl ?_
              refine rn_iload_n (ft181 36 rfl) rfl ?_
              obtain ⟨g33, h⟩ := ifg h
              obtain ⟨p17, q18, h⟩ := ob_some h
              refine rn_callV (as := [.int ((v1 * (8 : Int32)) + v2), .int v4, .int v3]) (k0 := x15) (r := []) (v := (some (.int p17.1))) (w1 := p17.2) (ft181 37 rfl) (by decide +kernel) rfl (Nat.le_of_ble_eq_true rfl) (Nat.le_of_ble_eq_true rfl) (r145 x15 ((v1 * (8 : Int32)) + v2) v4 v3 p13.2 _ q18) (by decide +kernel) g33 ?_
              refine rn_istore (ls' := [some (.ref v0), some (.int v1), some (.int v2), some (.int v3), some (.int v4), some (.int v5), some (.int p17.1)]) (ft181 38 rfl) rfl ?_
              refine rn_iload (ft181 39 rfl) rfl ?_
              by_cases c32 : ¬ v5 = 0
              · replace h := ifp c32 h
                refine rn_if_ne_t (ft181 40 rfl) c32 ?_
                refine rn_iload (ft181 44 rfl) rfl ?_
                refine rn_iconst (v := (1 : Int32)) (ft181 45 rfl) (by decide) ?_
                by_cases c29 : ¬ v5 = (1 : Int32)
                · replace h := ifp c29 h
                  refine rn_icmp_ne_t (ft181 46 rfl) c29 ?_
                  refine rn_aload_n (ft181 50 rfl) rfl ?_
                  obtain ⟨x19, q20, h⟩ := ob_some h
                  refine rn_getR (ft181 51 rfl) q20 ?_
                  refine rn_iload (ft181 52 rfl) rfl ?_
                  obtain ⟨p21, q22, h⟩ := ob_some h
                  refine rn_callS (as := [.int p17.1]) (r := [.ref x19]) (v := (some (.int p21.1))) (w1 := p21.2) (ft181 53 rfl) (by decide +kernel) rfl (Nat.le_of_ble_eq_true rfl) (Nat.le_of_ble_eq_true rfl) (r20 p17.1 p17.2 _ q22) ?_
                  obtain ⟨g26, h⟩ := ifg h
                  obtain ⟨p23, q24, h⟩ := ob_some h
                  refine rn_callV (as := [.int p21.1]) (k0 := x19) (r := []) (v := (some (.int p23.1))) (w1 := p23.2) (ft181 54 rfl) (by decide +kernel) rfl (Nat.le_of_ble_eq_true rfl) (Nat.le_of_ble_eq_true rfl) (r9 x19 p21.1 p21.2 _ q24) (by decide +kernel) g26 ?_
                  by_cases c25 : p23.1 = 0
                  · replace h := ifp c25 h
                    refine rn_if_eq_t (ft181 55 rfl) c25 ?_
                    refine rn_iconst (v := (0 : Int32)) (ft181 58 rfl) (by decide) ?_
                    cases h
                    exact rn_iretI pr181 (ft181 59 rfl)
                  · replace h := ifn c25 h
                    refine rn_if_eq_f (ft181 55 rfl) c25 ?_
                    refine rn_iconst (v := (1 : Int32)) (ft181 56 rfl) (by decide) ?_
                    refine rn_goto (ft181 57 rfl) ?_
                    cases h
                    exact rn_iretI pr181 (ft181 59 rfl)
                · replace h := ifn c29 h
                  refine rn_icmp_ne_f (ft181 46 rfl) c29 ?_
                  refine rn_iload (ft181 47 rfl) rfl ?_
                  obtain ⟨p27, q28, h⟩ := ob_some h
                  refine rn_callS (as := [.int p17.1]) (r := []) (v := (some (.int p27.1))) (w1 := p27.2) (ft181 48 rfl) (by decide +kernel) rfl (Nat.le_of_ble_eq_true rfl) (Nat.le_of_ble_eq_true rfl) (r21 p17.1 p17.2 _ q28) ?_
                  cases h
                  exact rn_iretI pr181 (ft181 49 rfl)
              · replace h := ifn c32 h
                refine rn_if_ne_f (ft181 40 rfl) c32 ?_
                refine rn_iload (ft181 41 rfl) rfl ?_
                obtain ⟨p30, q31, h⟩ := ob_some h
                refine rn_callS (as := [.int p17.1]) (r := []) (v := (some (.int p30.1))) (w1 := p30.2) (ft181 42 rfl) (by decide +kernel) rfl (Nat.le_of_ble_eq_true rfl) (Nat.le_of_ble_eq_true rfl) (r20 p17.1 p17.2 _ q31) ?_
                cases h
                exact rn_iretI pr181 (ft181 43 rfl)
            · replace h := ifn c34 h
              refine rn_if_eq_f (ft181 25 rfl) c34 ?_
              refine rn_ldc (v := (-1000003 : Int32)) (ft181 26 rfl) (by decide) rfl ?_
              cases h
              exact rn_iretI pr181 (ft181 27 rfl)
          · replace h := ifn c36 h
            refine rn_if_eq_f (ft181 18 rfl) c36 ?_
            refine rn_ldc (v := (-1000002 : Int32)) (ft181 19 rfl) (by decide) rfl ?_
            cases h
            exact rn_iretI pr181 (ft181 20 rfl)
  · replace h := ifn c40 h
    refine rn_if_eq_f (ft181 2 rfl) c40 ?_
    refine rn_ldc (v := (-1000001 : Int32)) (ft181 3 rfl) (by decide) rfl ?_
    cases h
    exact rn_iretI pr181 (ft181 4 rfl)
/-- NineWheel$Crew.wisest(III)I -/
theorem ft182 : ∀ (i : Nat) {q : Nat × XI}, cd182[i]? = some q → fetch 182 q.1 = some q.2 := ft_of (by decide +kernel)
theorem pr182 : pRt 182 = some .int := rfl
def f182_H20 (n : Nat)  (K11 : Int32 → Wd → Option (Int32 × Wd)) : Nat → Nat → Int32 → Int32 → Int32 → Int32 → Int32 → Int32 → Int32 → Wd → Option (Int32 × Wd)
  | 0, _, _, _, _, _, _, _, _, _ => none
  | k + 1, v0, v1, v2, v3, v4, v5, v7, v8, w =>
    (if v7 ≤ v8 then K11 v4 w
      else ob (tldI S0 0 v8) (fun x1 => (if (wsh w v0).map (fun q => q.1) = some 2 then ob (f147 v0 v1 v2 x1 v3 w) (fun p3 => (if p3.1 ≤ v5 then (fun (v0 : Nat) (v1 : Int32) (v2 : Int32) (v3 : Int32) (v4 : Int32) (v5 : Int32) (v7 : Int32) (v8 : Int32) w => f182_H20 n  K11 k v0 v1 v2 v3 v4 v5 v7 v8 w) v0 v1 v2 v3 v4 v5 v7 (v8 + (1 : Int32)) p3.2
        else (fun (v0 : Nat) (v1 : Int32) (v2 : Int32) (v3 : Int32) (v4 : Int32) (v5 : Int32) (v7 : Int32) (v8 : Int32) w => f182_H20 n  K11 k v0 v1 v2 v3 v4 v5 v7 v8 w) v0 v1 v2 v3 x1 p3.1 v7 (v8 + (1 : Int32)) p3.2)) else none)))
set_option maxRecDepth 10000 in
theorem rf182_H20 {S : Sc} (n : Nat)  (K11 : Int32 → Wd → Option (Int32 × Wd))  (hK11 : ∀ (y4 : Int32) (w : Wd) (o : (Int32 × Wd)), K11 y4 w = some o → Rn S 182 66 [none, none, none, none, some (.int y4), none, none, none, none, none, none] [] w (some (.int o.1), o.2)) : ∀ (k : Nat) (v0 : Nat) (v1 : Int32) (v2 : Int32) (v3 : Int32) (v4 : Int32) (v5 : Int32) (v7 : Int32) (v8 : Int32) (w : Wd) (o : (Int32 × Wd)), f182_H20 n  K11 k v0 v1 v2 v3 v4 v5 v7 v8 w = some o → Rn S 182 20 [some (.ref v0), some (.int v1), some (.int v2), some (.int v3), some (.int v4), some (.int v5), some (.float 0), some (.int v7), some (.int v8), none, none] [] w (some (.int o.1), o.2) := by
  intro k
  induction k with
  | zero =>
    intro v0 v1 v2 v3 v4 v5 v7 v8 w o h
    exact nomatch h
  | succ k ih =>
    intro v0 v1 v2 v3 v4 v5 v7 v8 w o h
    have hrec11 : ∀ (y0 : Nat) (y1 : Int32) (y2 : Int32) (y3 : Int32) (y4 : Int32) (y5 : Int32) (y7 : Int32) (y8 : Int32) (w : Wd) (o : (Int32 × Wd)), (fun (v0 : Nat) (v1 : Int32) (v2 : Int32) (v3 : Int32) (v4 : Int32) (v5 : Int32) (v7 : Int32) (v8 : Int32) w => f182_H20 n  K11 k v0 v1 v2 v3 v4 v5 v7 v8 w) y0 y1 y2 y3 y4 y5 y7 y8 w = some o → Rn S 182 20 [some (.ref y0), some (.int y1), some (.int y2), some (.int y3), some (.int y4), some (.int y5), some (.float 0), some (.int y7), some (.int y8), none, none] [] w (some (.int o.1), o.2) := fun y0 y1 y2 y3 y4 y5 y7 y8 w o h => ih y0 y1 y2 y3 y4 y5 y7 y8 w o h
    unfold f182_H20 at h
    refine rn_iload (ft182 11 rfl) rfl ?_
    refine rn_iload (ft182 12 rfl) rfl ?_
    by_cases c7 : v7 ≤ v8
    · replace h := ifp c7 h
      refine rn_icmp_ge_t (ft182 13 rfl) c7 ?_
      exact rn_forget (ls := [none, none, none, none, some (.int v4), none, none, none, none, none, none]) (And.intro rfl trivial) (hK11 v4 w _ h)
    · replace h := ifn c7 h
      refine rn_icmp_ge_f (ft182 13 rfl) c7 ?_
      refine rn_aloadS (ft182 14 rfl) rfl ?_
      refine rn_iload (ft182 15 rfl) rfl ?_
      obtain ⟨x1, q2, h⟩ := ob_some h
      refine rn_ialoadS (ft182 16 rfl) q2 ?_
      refine rn_istore (ls' := [some (.ref v0), some (.int v1), some (.int v2), some (.int v3), some (.int v4), some (.int v5), some (.float 0), some (.int v7), some (.int v8), some (.int x1), none]) (ft182 17 rfl) rfl ?_
      refine rn_aload_n (ft182 18 rfl) rfl ?_
      refine rn_iload_n (ft182 19 rfl) rfl ?_
      refine rn_iload_n (ft182 20 rfl) rfl ?_
      refine rn_iload (ft182 21 rfl) rfl ?_
      refine rn_iload_n (ft182 22 rfl) rfl ?_
      obtain ⟨g6, h⟩ := ifg h
      obtain ⟨p3, q4, h⟩ := ob_some h
      refine rn_callV (as := [.int v1, .int v2, .int x1, .int v3]) (k0 := v0) (r := []) (v := (some (.int p3.1))) (w1 := p3.2) (ft182 23 rfl) (by decide +kernel) rfl (Nat.le_of_ble_eq_true rfl) (Nat.le_of_ble_eq_true rfl) (r147 v0 v1 v2 x1 v3 w _ q4) (by decide +kernel) g6 ?_
      refine rn_istore (ls' := [some (.ref v0), some (.int v1), some (.int v2), some (.int v3), some (.int v4), some (.int v5), some (.float 0), some (.int v7), some (.int v8), some (.int x1), some (.int p3.1)]) (ft182 24 rfl) rfl ?_
      refine rn_iload (ft182 25 rfl) rfl ?_
      refine rn_iload (ft182 26 rfl) rfl ?_
      by_cases c5 : p3.1 ≤ v5
      · replace h := ifp c5 h
        refine rn_icmp_le_t (ft182 27 rfl) c5 ?_
        refine rn_iinc (u := 1) (ls' := [some (.ref v0), some (.int v1), some (.int v2), some (.int v3), some (.int v4), some (.int v5), some (.float 0), some (.int v7), some (.int (v8 + (1 : Int32))), some (.int x1), some (.int p3.1)]) (ft182 32 rfl) rfl (by decide) rfl ?_
        refine rn_goto (ft182 33 rfl) ?_
        exact rn_forget (ls := [some (.ref v0), some (.int v1), some (.int v2), some (.int v3), some (.int v4), some (.int v5), some (.float 0), some (.int v7), some (.int (v8 + (1 : Int32))), none, none]) (And.intro rfl (And.intro rfl (And.intro rfl (And.intro rfl (And.intro rfl (And.intro rfl (And.intro rfl (And.intro rfl (And.intro rfl trivial))))))))) (hrec11 v0 v1 v2 v3 v4 v5 v7 (v8 + (1 : Int32)) p3.2 _ h)
      · replace h := ifn c5 h
        refine rn_icmp_le_f (ft182 27 rfl) c5 ?_
        refine rn_iload (ft182 28 rfl) rfl ?_
        refine rn_istore (ls' := [some (.ref v0), some (.int v1), some (.int v2), some (.int v3), some (.int v4), some (.int p3.1), some (.float 0), some (.int v7), some (.int v8), some (.int x1), some (.int p3.1)]) (ft182 29 rfl) rfl ?_
        refine rn_iload (ft182 30 rfl) rfl ?_
        refine rn_istore (ls' := [some (.ref v0), some (.int v1), some (.int v2), some (.int v3), some (.int x1), some (.int p3.1), some (.float 0), some (.int v7), some (.int v8), some (.int x1), some (.int p3.1)]) (ft182 31 rfl) rfl ?_
        refine rn_iinc (u := 1) (ls' := [some (.ref v0), some (.int v1), some (.int v2), some (.int v3), some (.int x1), some (.int p3.1), some (.float 0), some (.int v7), some (.int (v8 + (1 : Int32))), some (.int x1), some (.int p3.1)]) (ft182 32 rfl) rfl (by decide) rfl ?_
        refine rn_goto (ft182 33 rfl) ?_
        exact rn_forget (ls := [some (.ref v0), some (.int v1), some (.int v2), some (.int v3), some (.int x1), some (.int p3.1), some (.float 0), some (.int v7), some (.int (v8 + (1 : Int32))), none, none]) (And.intro rfl (And.intro rfl (And.intro rfl (And.intro rfl (And.intro rfl (And.intro rfl (And.intro rfl (And.intro rfl (And.intro rfl trivial))))))))) (hrec11 v0 v1 v2 v3 x1 p3.1 v7 (v8 + (1 : Int32)) p3.2 _ h)
def f182 (n : Nat) (v0 : Nat) (v1 : Int32) (v2 : Int32) (v3 : Int32) (w : Wd) : Option (Int32 × Wd) :=
  f182_H20 n  (fun (e4_8 : Int32) (w8 : Wd) => some (e4_8, w8)) n v0 v1 v2 v3 (0 : Int32) (-1000000000 : Int32) 3 (0 : Int32) w
set_option maxRecDepth 10000 in
theorem r182 {S : Sc} (n : Nat) (v0 : Nat) (v1 : Int32) (v2 : Int32) (v3 : Int32) (w : Wd) (o : (Int32 × Wd)) (h : f182 n v0 v1 v2 v3 w = some o) : Rn S 182 0 [some (.ref v0), some (.int v1), some (.int v2), some (.int v3), none, none, none, none, none, none, none] [] w (some (.int o.1), o.2) := by
  unfold f182 at h
  refine rn_iconst (v := (0 : Int32)) (ft182 0 rfl) (by decide) ?_
  refine rn_istore (ls' := [some (.ref v0), some (.int v1), some (.int v2), some (.int v3), some (.int (0 : Int32)), none, none, none, none, none, none]) (ft182 1 rfl) rfl ?_
  refine rn_ldc (v := (-1000000000 : Int32)) (ft182 2 rfl) (by decide) rfl ?_
  refine rn_istore (ls' := [some (.ref v0), some (.int v1), some (.int v2), some (.int v3), some (.int (0 : Int32)), some (.int (-1000000000 : Int32)), none, none, none, none, none]) (ft182 3 rfl) rfl ?_
  refine rn_gets (v := .float 0) (ft182 4 rfl) rfl ?_
  refine rn_astoreS (ls' := [some (.ref v0), some (.int v1), some (.int v2), some (.int v3), some (.int (0 : Int32)), some (.int (-1000000000 : Int32)), some (.float 0), none, none, none, none]) (ft182 5 rfl) rfl ?_
  refine rn_aloadS (ft182 6 rfl) rfl ?_
  refine rn_alenS (v := 3) (ft182 7 rfl) rfl ?_
  refine rn_istore (ls' := [some (.ref v0), some (.int v1), some (.int v2), some (.int v3), some (.int (0 : Int32)), some (.int (-1000000000 : Int32)), some (.float 0), some (.int 3), none, none, none]) (ft182 8 rfl) rfl ?_
  refine rn_iconst (v := (0 : Int32)) (ft182 9 rfl) (by decide) ?_
  refine rn_istore (ls' := [some (.ref v0), some (.int v1), some (.int v2), some (.int v3), some (.int (0 : Int32)), some (.int (-1000000000 : Int32)), some (.float 0), some (.int 3), some (.int (0 : Int32)), none, none]) (ft182 10 rfl) rfl ?_
  refine rn_forget (ls := [some (.ref v0), some (.int v1), some (.int v2), some (.int v3), some (.int (0 : Int32)), some (.int (-1000000000 : Int32)), some (.float 0), some (.int 3), some (.int (0 : Int32)), none, none]) (And.intro rfl (And.intro rfl (And.intro rfl (And.intro rfl (And.intro rfl (And.intro rfl (And.intro rfl (And.intro rfl (And.intro rfl trivial))))))))) (rf182_H20 n  _  (fun e4_8 w8 o h => ?_) n v0 v1 v2 v3 (0 : Int32) (-1000000000 : Int32) 3 (0 : Int32) w _ h)
  refine rn_iload (ft182 34 rfl) rfl ?_
  cases h
  exact rn_iretI pr182 (ft182 35 rfl)
