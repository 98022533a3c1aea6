/-! THE METHODS AS FUNCTIONS, 10 -/
/-- NineWheel$Counting.follow(I)V -/
theorem ft152 : ∀ (i : Nat) {q : Nat × XI}, cd152[i]? = some q → fetch 152 q.1 = some q.2 := ft_of (by decide +kernel)
theorem pr152 : pRt 152 = none := rfl
def f152_H9 (n : Nat)  (K5 : Nat → Int32 → Wd → Option Wd) : Nat → Nat → Int32 → Int32 → Wd → Option Wd
  | 0, _, _, _, _ => none
  | k + 1, v0, v1, v2, w =>
    (if (6 : Int32) ≤ v2 then K5 v0 v1 w
      else ob (f16 v1 v2 w) (fun p5 => (if ¬ p5.1 = 0 then (fun (v0 : Nat) (v1 : Int32) (v2 : Int32) w => f152_H9 n  K5 k v0 v1 v2 w) v0 v1 (v2 + (1 : Int32)) p5.2
        else ob (getR p5.2 0 v0 7) (fun x7 => ob (getR p5.2 0 v0 6) (fun x9 => ob (aldI p5.2 x9 v2) (fun x11 => ob (getR p5.2 0 v0 0) (fun x13 => (if (wsh p5.2 x13).map (fun q => q.1) = some 6 then ob (f83 x13 v2 p5.2) (fun p15 => (if (wsh p15.2 x7).map (fun q => q.1) = some 8 then ob (f24 x7 v2 x11 p15.1 p15.2) (fun p17 => (fun (v0 : Nat) (v1 : Int32) (v2 : Int32) w => f152_H9 n  K5 k v0 v1 v2 w) v0 v1 (v2 + (1 : Int32)) p17) else none)) else none))))))))
set_option maxRecDepth 10000 in
theorem rf152_H9 {S : Sc} (n : Nat)  (K5 : Nat → Int32 → Wd → Option Wd)  (hK5 : ∀ (y0 : Nat) (y1 : Int32) (w : Wd) (o : Wd), K5 y0 y1 w = some o → Rn S 152 51 [some (.ref y0), some (.int y1), none, none] [] w (none, o)) : ∀ (k : Nat) (v0 : Nat) (v1 : Int32) (v2 : Int32) (w : Wd) (o : Wd), f152_H9 n  K5 k v0 v1 v2 w = some o → Rn S 152 9 [some (.ref v0), some (.int v1), some (.int v2), none] [] w (none, o) := by
  intro k
  induction k with
  | zero =>
    intro v0 v1 v2 w o h
    exact nomatch h
  | succ k ih =>
    intro v0 v1 v2 w o h
    have hrec5 : ∀ (y0 : Nat) (y1 : Int32) (y2 : Int32) (w : Wd) (o : Wd), (fun (v0 : Nat) (v1 : Int32) (v2 : Int32) w => f152_H9 n  K5 k v0 v1 v2 w) y0 y1 y2 w = some o → Rn S 152 9 [some (.ref y0), some (.int y1), some (.int y2), none] [] w (none, o) := fun y0 y1 y2 w o h => ih y0 y1 y2 w o h
    unfold f152_H9 at h
    refine rn_iload_n (ft152 5 rfl) rfl ?_
    refine rn_bipush (v := (6 : Int32)) (ft152 6 rfl) (by decide) ?_
    by_cases c22 : (6 : Int32) ≤ v2
    · replace h := ifp c22 h
      refine rn_icmp_ge_t (ft152 7 rfl) c22 ?_
      exact rn_forget (ls := [some (.ref v0), some (.int v1), none, none]) (And.intro rfl (And.intro rfl trivial)) (hK5 v0 v1 w _ h)
    · replace h := ifn c22 h
      refine rn_icmp_ge_f (ft152 7 rfl) c22 ?_
      refine rn_iload_n (ft152 8 rfl) rfl ?_
      refine rn_iload_n (ft152 9 rfl) rfl ?_
      obtain ⟨p5, q6, h⟩ := ob_some h
      refine rn_callS (as := [.int v1, .int v2]) (r := []) (v := (some (.int p5.1))) (w1 := p5.2) (ft152 10 rfl) (by decide +kernel) rfl (Nat.le_of_ble_eq_true rfl) (Nat.le_of_ble_eq_true rfl) (r16 v1 v2 w _ q6) ?_
      by_cases c21 : ¬ p5.1 = 0
      · replace h := ifp c21 h
        refine rn_if_ne_t (ft152 11 rfl) c21 ?_
        refine rn_iinc (u := 1) (ls' := [some (.ref v0), some (.int v1), some (.int (v2 + (1 : Int32))), none]) (ft152 24 rfl) rfl (by decide) rfl ?_
        refine rn_goto (ft152 25 rfl) ?_
        exact rn_forget (ls := [some (.ref v0), some (.int v1), some (.int (v2 + (1 : Int32))), none]) (And.intro rfl (And.intro rfl (And.intro rfl trivial))) (hrec5 v0 v1 (v2 + (1 : Int32)) p5.2 _ h)
      · replace h := ifn c21 h
        refine rn_if_ne_f (ft152 11 rfl) c21 ?_
        refine rn_aload_n (ft152 12 rfl) rfl ?_
        obtain ⟨x7, q8, h⟩ := ob_some h
        refine rn_getR (ft152 13 rfl) q8 ?_
        refine rn_iload_n (ft152 14 rfl) rfl ?_
        refine rn_aload_n (ft152 15 rfl) rfl ?_
        obtain ⟨x9, q10, h⟩ := ob_some h
        refine rn_getR (ft152 16 rfl) q10 ?_
        refine rn_iload_n (ft152 17 rfl) rfl ?_
        obtain ⟨x11, q12, h⟩ := ob_some h
        refine rn_iaload (ft152 18 rfl) q12 ?_
        refine rn_aload_n (ft152 19 rfl) rfl ?_
        obtain ⟨x13, q14, h⟩ := ob_some h
        refine rn_getR (ft152 20 rfl) q14 ?_
        refine rn_iload_n (ft152 21 rfl) rfl ?_
        obtain ⟨g20, h⟩ := ifg h
        obtain ⟨p15, q16, h⟩ := ob_some h
        refine rn_callV (as := [.int v2]) (k0 := x13) (r := [.int x11, .int v2, .ref x7]) (v := (some (.int p15.1))) (w1 := p15.2) (ft152 22 rfl) (by decide +kernel) rfl (Nat.le_of_ble_eq_true rfl) (Nat.le_of_ble_eq_true rfl) (r83 x13 v2 p5.2 _ q16) (by decide +kernel) g20 ?_
        obtain ⟨g19, h⟩ := ifg h
        obtain ⟨p17, q18, h⟩ := ob_some h
        refine rn_callV (as := [.int v2, .int x11, .int p15.1]) (k0 := x7) (r := []) (v := none) (w1 := p17) (ft152 23 rfl) (by decide +kernel) rfl (Nat.le_of_ble_eq_true rfl) (Nat.le_of_ble_eq_true rfl) (r24 x7 v2 x11 p15.1 p15.2 _ q18) (by decide +kernel) g19 ?_
        refine rn_iinc (u := 1) (ls' := [some (.ref v0), some (.int v1), some (.int (v2 + (1 : Int32))), none]) (ft152 24 rfl) rfl (by decide) rfl ?_
        refine rn_goto (ft152 25 rfl) ?_
        exact rn_forget (ls := [some (.ref v0), some (.int v1), some (.int (v2 + (1 : Int32))), none]) (And.intro rfl (And.intro rfl (And.intro rfl trivial))) (hrec5 v0 v1 (v2 + (1 : Int32)) p17 _ h)
def f152_H61 (n : Nat)  (K32 : Wd → Option Wd) : Nat → Nat → Int32 → Int32 → Int32 → Wd → Option Wd
  | 0, _, _, _, _, _ => none
  | k + 1, v0, v1, v2, v3, w =>
    (if (6 : Int32) ≤ v3 then K32 w
      else ob (f16 v1 v3 w) (fun p28 => (if p28.1 = 0 then (fun (v0 : Nat) (v1 : Int32) (v2 : Int32) (v3 : Int32) w => f152_H61 n  K32 k v0 v1 v2 v3 w) v0 v1 v2 (v3 + (1 : Int32)) p28.2
        else ob (getR p28.2 0 v0 6) (fun x30 => ob (astI p28.2 x30 v3 v2) (fun w32 => (fun (v0 : Nat) (v1 : Int32) (v2 : Int32) (v3 : Int32) w => f152_H61 n  K32 k v0 v1 v2 v3 w) v0 v1 v2 (v3 + (1 : Int32)) w32)))))
set_option maxRecDepth 10000 in
theorem rf152_H61 {S : Sc} (n : Nat)  (K32 : Wd → Option Wd)  (hK32 : ∀  (w : Wd) (o : Wd), K32 w = some o → Rn S 152 88 [none, none, none, none] [] w (none, o)) : ∀ (k : Nat) (v0 : Nat) (v1 : Int32) (v2 : Int32) (v3 : Int32) (w : Wd) (o : Wd), f152_H61 n  K32 k v0 v1 v2 v3 w = some o → Rn S 152 61 [some (.ref v0), some (.int v1), some (.int v2), some (.int v3)] [] w (none, o) := by
  intro k
  induction k with
  | zero =>
    intro v0 v1 v2 v3 w o h
    exact nomatch h
  | succ k ih =>
    intro v0 v1 v2 v3 w o h
    have hrec32 : ∀ (y0 : Nat) (y1 : Int32) (y2 : Int32) (y3 : Int32) (w : Wd) (o : Wd), (fun (v0 : Nat) (v1 : Int32) (v2 : Int32) (v3 : Int32) w => f152_H61 n  K32 k v0 v1 v2 v3 w) y0 y1 y2 y3 w = some o → Rn S 152 61 [some (.ref y0), some (.int y1), some (.int y2), some (.int y3)] [] w (none, o) := fun y0 y1 y2 y3 w o h => ih y0 y1 y2 y3 w o h
    unfold f152_H61 at h
    refine rn_iload_n (ft152 32 rfl) rfl ?_
    refine rn_bipush (v := (6 : Int32)) (ft152 33 rfl) (by decide) ?_
    by_cases c35 : (6 : Int32) ≤ v3
    · replace h := ifp c35 h
      refine rn_icmp_ge_t (ft152 34 rfl) c35 ?_
      exact rn_forget (ls := [none, none, none, none]) trivial (hK32 w _ h)
    · replace h := ifn c35 h
      refine rn_icmp_ge_f (ft152 34 rfl) c35 ?_
      refine rn_iload_n (ft152 35 rfl) rfl ?_
      refine rn_iload_n (ft152 36 rfl) rfl ?_
      obtain ⟨p28, q29, h⟩ := ob_some h
      refine rn_callS (as := [.int v1, .int v3]) (r := []) (v := (some (.int p28.1))) (w1 := p28.2) (ft152 37 rfl) (by decide +kernel) rfl (Nat.le_of_ble_eq_true rfl) (Nat.le_of_ble_eq_true rfl) (r16 v1 v3 w _ q29) ?_
      by_cases c34 : p28.1 = 0
      · replace h := ifp c34 h
        refine rn_if_eq_t (ft152 38 rfl) c34 ?_
        refine rn_iinc (u := 1) (ls' := [some (.ref v0), some (.int v1), some (.int v2), some (.int (v3 + (1 : Int32)))]) (ft152 44 rfl) rfl (by decide) rfl ?_
        refine rn_goto (ft152 45 rfl) ?_
        exact rn_forget (ls := [some (.ref v0), some (.int v1), some (.int v2), some (.int (v3 + (1 : Int32)))]) (And.intro rfl (And.intro rfl (And.intro rfl (And.intro rfl trivial)))) (hrec32 v0 v1 v2 (v3 + (1 : Int32)) p28.2 _ h)
      · replace h := ifn c34 h
        refine rn_if_eq_f (ft152 38 rfl) c34 ?_
        refine rn_aload_n (ft152 39 rfl) rfl ?_
        obtain ⟨x30, q31, h⟩ := ob_some h
        refine rn_getR (ft152 40 rfl) q31 ?_
        refine rn_iload_n (ft152 41 rfl) rfl ?_
        refine rn_iload_n (ft152 42 rfl) rfl ?_
        obtain ⟨w32, q33, h⟩ := ob_some h
        refine rn_iastore (ft152 43 rfl) q33 ?_
        refine rn_iinc (u := 1) (ls' := [some (.ref v0), some (.int v1), some (.int v2), some (.int (v3 + (1 : Int32)))]) (ft152 44 rfl) rfl (by decide) rfl ?_
        refine rn_goto (ft152 45 rfl) ?_
        exact rn_forget (ls := [some (.ref v0), some (.int v1), some (.int v2), some (.int (v3 + (1 : Int32)))]) (And.intro rfl (And.intro rfl (And.intro rfl (And.intro rfl trivial)))) (hrec32 v0 v1 v2 (v3 + (1 : Int32)) w32 _ h)
def f152 (n : Nat) (v0 : Nat) (v1 : Int32) (w : Wd) : Option Wd :=
  ob (getR w 0 v0 7) (fun x1 => (if (wsh w x1).map (fun q => q.1) = some 8 then ob (f23 x1 w) (fun p3 => f152_H9 n  (fun (e0_23 : Nat) (e1_23 : Int32) (w23 : Wd) => ob (getR w23 0 e0_23 7) (fun x24 => (if (wsh w23 x24).map (fun q => q.1) = some 8 then ob (f25 x24 w23) (fun p26 => f152_H61 n  (fun  (w36 : Wd) => some w36) n e0_23 e1_23 p26.1 (0 : Int32) p26.2) else none))) n v0 v1 (0 : Int32) p3) else none))
set_option maxRecDepth 10000 in
theorem r152 {S : Sc} (n : Nat) (v0 : Nat) (v1 : Int32) (w : Wd) (o : Wd) (h : f152 n v0 v1 w = some o) : Rn S 152 0 [some (.ref v0), some (.int v1), none, none] [] w (none, o) := by
  unfold f152 at h
  refine rn_aload_n (ft152 0 rfl) rfl ?_
  obtain ⟨x1, q2, h⟩ := ob_some h
  refine rn_getR (ft152 1 rfl) q2 ?_
  obtain ⟨g38, h⟩ := ifg h
  obtain ⟨p3, q4, h⟩ := ob_some h
  refine rn_callV (as := []) (k0 := x1) (r := []) (v := none) (w1 := p3) (ft152 2 rfl) (by decide +kernel) rfl (Nat.le_of_ble_eq_true rfl) (Nat.le_of_ble_eq_true rfl) (r23 x1 w _ q4) (by decide +kernel) g38 ?_
  refine rn_iconst (v := (0 : Int32)) (ft152 3 rfl) (by decide) ?_
  refine rn_istore_n (ls' := [some (.ref v0), some (.int v1), some (.int (0 : Int32)), none]) (ft152 4 rfl) rfl ?_
  refine rn_forget (ls := [some (.ref v0), some (.int v1), some (.int (0 : Int32)), none]) (And.intro rfl (And.intro rfl (And.intro rfl trivial))) (rf152_H9 n  _  (fun e0_23 e1_23 w23 o h => ?_) n v0 v1 (0 : Int32) p3 _ h)
  refine rn_aload_n (ft152 26 rfl) rfl ?_
  obtain ⟨x24, q25, h⟩ := ob_some h
  refine rn_getR (ft152 27 rfl) q25 ?_
  obtain ⟨g37, h⟩ := ifg h
  obtain ⟨p26, q27, h⟩ := ob_some h
  refine rn_callV (as := []) (k0 := x24) (r := []) (v := (some (.int p26.1))) (w1 := p26.2) (ft152 28 rfl) (by decide +kernel) rfl (Nat.le_of_ble_eq_true rfl) (Nat.le_of_ble_eq_true rfl) (r25 x24 w23 _ q27) (by decide +kernel) g37 ?_
  refine rn_istore_n (ls' := [some (.ref e0_23), some (.int e1_23), some (.int p26.1), none]) (ft152 29 rfl) rfl ?_
  refine rn_iconst (v := (0 : Int32)) (ft152 30 rfl) (by decide) ?_
  refine rn_istore_n (ls' := [some (.ref e0_23), some (.int e1_23), some (.int p26.1), some (.int (0 : Int32))]) (ft152 31 rfl) rfl ?_
  refine rn_forget (ls := [some (.ref e0_23), some (.int e1_23), some (.int p26.1), some (.int (0 : Int32))]) (And.intro rfl (And.intro rfl (And.intro rfl (And.intro rfl trivial)))) (rf152_H61 n  _  (fun  w36 o h => ?_) n e0_23 e1_23 p26.1 (0 : Int32) p26.2 _ h)
  cases h
  exact rn_vret pr152 (ft152 46 rfl)
/-- NineWheel$Counting.addUp(I)V -/
theorem ft153 : ∀ (i : Nat) {q : Nat × XI}, cd153[i]? = some q → fetch 153 q.1 = some q.2 := ft_of (by decide +kernel)
theorem pr153 : pRt 153 = none := rfl
def f153_J48 (n : Nat) (rec5 : Nat → Int32 → Int32 → Wd → Option Wd) (K5 : Wd → Option Wd) (v0 : Nat) (v1 : Int32) (v2 : Int32) (w : Wd) : Option Wd :=
  (if ¬ v2 = v1 then rec5 v0 v1 (v2 + (1 : Int32)) w
    else ob (getR w 0 v0 7) (fun x9 => ob (getR w 0 v0 6) (fun x11 => ob (aldI w x11 v2) (fun x13 => ob (putI w 8 x9 6 x13) (fun w15 => rec5 v0 v1 (v2 + (1 : Int32)) w15)))))
set_option maxRecDepth 10000 in
theorem rf153_J48 {S : Sc} (n : Nat) (rec5 : Nat → Int32 → Int32 → Wd → Option Wd) (K5 : Wd → Option Wd) (v0 : Nat) (v1 : Int32) (v2 : Int32) (w : Wd) (o : Wd) (hrec5 : ∀ (y0 : Nat) (y1 : Int32) (y2 : Int32) (w : Wd) (o : Wd), rec5 y0 y1 y2 w = some o → Rn S 153 9 [some (.ref y0), some (.int y1), some (.int y2)] [] w (none, o)) (hK5 : ∀  (w : Wd) (o : Wd), K5 w = some o → Rn S 153 72 [none, none, none] [] w (none, o)) (h : f153_J48 n rec5 K5 v0 v1 v2 w = some o) : Rn S 153 48 [some (.ref v0), some (.int v1), some (.int v2)] [] w (none, o) := by
  unfold f153_J48 at h
  refine rn_iload_n (ft153 25 rfl) rfl ?_
  refine rn_iload_n (ft153 26 rfl) rfl ?_
  by_cases c17 : ¬ v2 = v1
  · replace h := ifp c17 h
    refine rn_icmp_ne_t (ft153 27 rfl) c17 ?_
    refine rn_iinc (u := 1) (ls' := [some (.ref v0), some (.int v1), some (.int (v2 + (1 : Int32)))]) (ft153 35 rfl) rfl (by decide) rfl ?_
    refine rn_goto (ft153 36 rfl) ?_
    exact rn_forget (ls := [some (.ref v0), some (.int v1), some (.int (v2 + (1 : Int32)))]) (And.intro rfl (And.intro rfl (And.intro rfl trivial))) (hrec5 v0 v1 (v2 + (1 : Int32)) w _ h)
  · replace h := ifn c17 h
    refine rn_icmp_ne_f (ft153 27 rfl) c17 ?_
    refine rn_aload_n (ft153 28 rfl) rfl ?_
    obtain ⟨x9, q10, h⟩ := ob_some h
    refine rn_getR (ft153 29 rfl) q10 ?_
    refine rn_aload_n (ft153 30 rfl) rfl ?_
    obtain ⟨x11, q12, h⟩ := ob_some h
    refine rn_getR (ft153 31 rfl) q12 ?_
    refine rn_iload_n (ft153 32 rfl) rfl ?_
    obtain ⟨x13, q14, h⟩ := ob_some h
    refine rn_iaload (ft153 33 rfl) q14 ?_
    obtain ⟨w15, q16, h⟩ := ob_some h
    refine rn_putI (ft153 34 rfl) q16 ?_
    refine rn_iinc (u := 1) (ls' := [some (.ref v0), some (.int v1), some (.int (v2 + (1 : Int32)))]) (ft153 35 rfl) rfl (by decide) rfl ?_
    refine rn_goto (ft153 36 rfl) ?_
    exact rn_forget (ls := [some (.ref v0), some (.int v1), some (.int (v2 + (1 : Int32)))]) (And.intro rfl (And.intro rfl (And.intro rfl trivial))) (hrec5 v0 v1 (v2 + (1 : Int32)) w15 _ h)
def f153_H9 (n : Nat)  (K5 : Wd → Option Wd) : Nat → Nat → Int32 → Int32 → Wd → Option Wd
  | 0, _, _, _, _ => none
  | k + 1, v0, v1, v2, w =>
    (if (6 : Int32) ≤ v2 then K5 w
      else ob (getR w 0 v0 0) (fun x5 => (if (wsh w x5).map (fun q => q.1) = some 6 then ob (f12 x5 v2 w) (fun p7 => (if p7.1 = 0 then f153_J48 n (fun (v0 : Nat) (v1 : Int32) (v2 : Int32) w => f153_H9 n  K5 k v0 v1 v2 w) K5 v0 v1 v2 p7.2
        else ob (getR p7.2 0 v0 7) (fun x18 => ob (getR p7.2 0 v0 6) (fun x20 => ob (aldI p7.2 x20 v2) (fun x22 => ob (getR p7.2 0 v0 0) (fun x24 => (if (wsh p7.2 x24).map (fun q => q.1) = some 6 then ob (f83 x24 v2 p7.2) (fun p26 => (if (wsh p26.2 x18).map (fun q => q.1) = some 8 then ob (f24 x18 v2 x22 p26.1 p26.2) (fun p28 => f153_J48 n (fun (v0 : Nat) (v1 : Int32) (v2 : Int32) w => f153_H9 n  K5 k v0 v1 v2 w) K5 v0 v1 v2 p28) else none)) else none))))))) else none)))
set_option maxRecDepth 10000 in
theorem rf153_H9 {S : Sc} (n : Nat)  (K5 : Wd → Option Wd)  (hK5 : ∀  (w : Wd) (o : Wd), K5 w = some o → Rn S 153 72 [none, none, none] [] w (none, o)) : ∀ (k : Nat) (v0 : Nat) (v1 : Int32) (v2 : Int32) (w : Wd) (o : Wd), f153_H9 n  K5 k v0 v1 v2 w = some o → Rn S 153 9 [some (.ref v0), some (.int v1), some (.int v2)] [] w (none, o) := by
  intro k
  induction k with
  | zero =>
    intro v0 v1 v2 w o h
    exact nomatch h
  | succ k ih =>
    intro v0 v1 v2 w o h
    have hrec5 : ∀ (y0 : Nat) (y1 : Int32) (y2 : Int32) (w : Wd) (o : Wd), (fun (v0 : Nat) (v1 : Int32) (v2 : Int32) w => f153_H9 n  K5 k v0 v1 v2 w) y0 y1 y2 w = some o → Rn S 153 9 [some (.ref y0), some (.int y1), some (.int y2)] [] w (none, o) := fun y0 y1 y2 w o h => ih y0 y1 y2 w o h
    unfold f153_H9 at h
    refine rn_iload_n (ft153 5 rfl) rfl ?_
    refine rn_bipush (v := (6 : Int32)) (ft153 6 rfl) (by decide) ?_
    by_cases c34 : (6 : Int32) ≤ v2
    · replace h := ifp c34 h
      refine rn_icmp_ge_t (ft153 7 rfl) c34 ?_
      exact rn_forget (ls := [none, none, none]) trivial (hK5 w _ h)
    · replace h := ifn c34 h
      refine rn_icmp_ge_f (ft153 7 rfl) c34 ?_
      refine rn_aload_n (ft153 8 rfl) rfl ?_
      obtain ⟨x5, q6, h⟩ := ob_some h
      refine rn_getR (ft153 9 rfl) q6 ?_
      refine rn_iload_n (ft153 10 rfl) rfl ?_
      obtain ⟨g33, h⟩ := ifg h
      obtain ⟨p7, q8, h⟩ := ob_some h
      refine rn_callV (as := [.int v2]) (k0 := x5) (r := []) (v := (some (.int p7.1))) (w1 := p7.2) (ft153 11 rfl) (by decide +kernel) rfl (Nat.le_of_ble_eq_true rfl) (Nat.le_of_ble_eq_true rfl) (r12 x5 v2 w _ q8) (by decide +kernel) g33 ?_
      by_cases c32 : p7.1 = 0
      · replace h := ifp c32 h
        refine rn_if_eq_t (ft153 12 rfl) c32 ?_
        exact rn_forget (ls := [some (.ref v0), some (.int v1), some (.int v2)]) (And.intro rfl (And.intro rfl (And.intro rfl trivial))) (rf153_J48 n (fun (v0 : Nat) (v1 : Int32) (v2 : Int32) w => f153_H9 n  K5 k v0 v1 v2 w) K5 v0 v1 v2 p7.2 _ hrec5 hK5 h)
      · replace h := ifn c32 h
        refine rn_if_eq_f (ft153 12 rfl) c32 ?_
        refine rn_aload_n (ft153 13 rfl) rfl ?_
        obtain ⟨x18, q19, h⟩ := ob_some h
        refine rn_getR (ft153 14 rfl) q19 ?_
        refine rn_iload_n (ft153 15 rfl) rfl ?_
        refine rn_aload_n (ft153 16 rfl) rfl ?_
        obtain ⟨x20, q21, h⟩ := ob_some h
        refine rn_getR (ft153 17 rfl) q21 ?_
        refine rn_iload_n (ft153 18 rfl) rfl ?_
        obtain ⟨x22, q23, h⟩ := ob_some h
        refine rn_iaload (ft153 19 rfl) q23 ?_
        refine rn_aload_n (ft153 20 rfl) rfl ?_
        obtain ⟨x24, q25, h⟩ := ob_some h
        refine rn_getR (ft153 21 rfl) q25 ?_
        refine rn_iload_n (ft153 22 rfl) rfl ?_
        obtain ⟨g31, h⟩ := ifg h
        obtain ⟨p26, q27, h⟩ := ob_some h
        refine rn_callV (as := [.int v2]) (k0 := x24) (r := [.int x22, .int v2, .ref x18]) (v := (some (.int p26.1))) (w1 := p26.2) (ft153 23 rfl) (by decide +kernel) rfl (Nat.le_of_ble_eq_true rfl) (Nat.le_of_ble_eq_true rfl) (r83 x24 v2 p7.2 _ q27) (by decide +kernel) g31 ?_
        obtain ⟨g30, h⟩ := ifg h
        obtain ⟨p28, q29, h⟩ := ob_some h
        refine rn_callV (as := [.int v2, .int x22, .int p26.1]) (k0 := x18) (r := []) (v := none) (w1 := p28) (ft153 24 rfl) (by decide +kernel) rfl (Nat.le_of_ble_eq_true rfl) (Nat.le_of_ble_eq_true rfl) (r24 x18 v2 x22 p26.1 p26.2 _ q29) (by decide +kernel) g30 ?_
        exact rn_forget (ls := [some (.ref v0), some (.int v1), some (.int v2)]) (And.intro rfl (And.intro rfl (And.intro rfl trivial))) (rf153_J48 n (fun (v0 : Nat) (v1 : Int32) (v2 : Int32) w => f153_H9 n  K5 k v0 v1 v2 w) K5 v0 v1 v2 p28 _ hrec5 hK5 h)
def f153 (n : Nat) (v0 : Nat) (v1 : Int32) (w : Wd) : Option Wd :=
  ob (getR w 0 v0 7) (fun x1 => (if (wsh w x1).map (fun q => q.1) = some 8 then ob (f23 x1 w) (fun p3 => f153_H9 n  (fun  (w35 : Wd) => some w35) n v0 v1 (0 : Int32) p3) else none))
set_option maxRecDepth 10000 in
theorem r153 {S : Sc} (n : Nat) (v0 : Nat) (v1 : Int32) (w : Wd) (o : Wd) (h : f153 n v0 v1 w = some o) : Rn S 153 0 [some (.ref v0), some (.int v1), none] [] w (none, o) := by
  unfold f153 at h
  refine rn_aload_n (ft153 0 rfl) rfl ?_
  obtain ⟨x1, q2, h⟩ := ob_some h
  refine rn_getR (ft153 1 rfl) q2 ?_
  obtain ⟨g36, h⟩ := ifg h
  obtain ⟨p3, q4, h⟩ := ob_some h
  refine rn_callV (as := []) (k0 := x1) (r := []) (v := none) (w1 := p3) (ft153 2 rfl) (by decide +kernel) rfl (Nat.le_of_ble_eq_true rfl) (Nat.le_of_ble_eq_true rfl) (r23 x1 w _ q4) (by decide +kernel) g36 ?_
  refine rn_iconst (v := (0 : Int32)) (ft153 3 rfl) (by decide) ?_
  refine rn_istore_n (ls' := [some (.ref v0), some (.int v1), some (.int (0 : Int32))]) (ft153 4 rfl) rfl ?_
  refine rn_forget (ls := [some (.ref v0), some (.int v1), some (.int (0 : Int32))]) (And.intro rfl (And.intro rfl (And.intro rfl trivial))) (rf153_H9 n  _  (fun  w35 o h => ?_) n v0 v1 (0 : Int32) p3 _ h)
  cases h
  exact rn_vret pr153 (ft153 37 rfl)
/-- NineWheel$Rule.decided(LNineWheel$Tally;)I -/
theorem ft154 : ∀ (i : Nat) {q : Nat × XI}, cd154[i]? = some q → fetch 154 q.1 = some q.2 := ft_of (by decide +kernel)
theorem pr154 : pRt 154 = some .int := rfl
def f154_J101  (v0 : Nat) (v2 : Int32) (v3 : Int32) (s0 : Int32) (w : Wd) : Option (Int32 × Wd) :=
  ob (getI w 5 v0 1) (fun x11 => (if v3 < x11 then some ((0 : Int32), w)
    else ob (getI w 5 v0 2) (fun x13 => (if (s0 &&& x13) = 0 then some (v2, w)
      else some ((0 : Int32), w)))))
set_option maxRecDepth 10000 in
theorem rf154_J101 {S : Sc}  (v0 : Nat) (v2 : Int32) (v3 : Int32) (s0 : Int32) (w : Wd) (o : (Int32 × Wd))  (h : f154_J101  v0 v2 v3 s0 w = some o) : Rn S 154 101 [some (.ref v0), none, some (.int v2), some (.int v3), none] [.int s0] w (some (.int o.1), o.2) := by
  unfold f154_J101 at h
  refine rn_istore (ls' := [some (.ref v0), none, some (.int v2), some (.int v3), some (.int s0)]) (ft154 38 rfl) rfl ?_
  refine rn_iload_n (ft154 39 rfl) rfl ?_
  refine rn_aload_n (ft154 40 rfl) rfl ?_
  obtain ⟨x11, q12, h⟩ := ob_some h
  refine rn_getI (ft154 41 rfl) (by decide) (by decide) q12 ?_
  by_cases c16 : v3 < x11
  · replace h := ifp c16 h
    refine rn_icmp_lt_t (ft154 42 rfl) c16 ?_
    refine rn_iconst (v := (0 : Int32)) (ft154 48 rfl) (by decide) ?_
    refine rn_goto (ft154 49 rfl) ?_
    cases h
    exact rn_iretI pr154 (ft154 51 rfl)
  · replace h := ifn c16 h
    refine rn_icmp_lt_f (ft154 42 rfl) c16 ?_
    refine rn_iload (ft154 43 rfl) rfl ?_
    refine rn_aload_n (ft154 44 rfl) rfl ?_
    obtain ⟨x13, q14, h⟩ := ob_some h
    refine rn_getI (ft154 45 rfl) (by decide) (by decide) q14 ?_
    refine rn_iand (ft154 46 rfl) ?_
    by_cases c15 : (s0 &&& x13) = 0
    · replace h := ifp c15 h
      refine rn_if_eq_t (ft154 47 rfl) c15 ?_
      refine rn_iload_n (ft154 50 rfl) rfl ?_
      cases h
      exact rn_iretI pr154 (ft154 51 rfl)
    · replace h := ifn c15 h
      refine rn_if_eq_f (ft154 47 rfl) c15 ?_
      refine rn_iconst (v := (0 : Int32)) (ft154 48 rfl) (by decide) ?_
      refine rn_goto (ft154 49 rfl) ?_
      cases h
      exact rn_iretI pr154 (ft154 51 rfl)
def f154_J85  (v0 : Nat) (v1 : Nat) (v2 : Int32) (s0 : Int32) (w : Wd) : Option (Int32 × Wd) :=
  (if 0 ≤ v2 then ob (getI w 8 v1 4) (fun x9 => f154_J101  v0 v2 s0 x9 w)
    else ob (getI w 8 v1 5) (fun x17 => f154_J101  v0 v2 s0 x17 w))
set_option maxRecDepth 10000 in
theorem rf154_J85 {S : Sc}  (v0 : Nat) (v1 : Nat) (v2 : Int32) (s0 : Int32) (w : Wd) (o : (Int32 × Wd))  (h : f154_J85  v0 v1 v2 s0 w = some o) : Rn S 154 85 [some (.ref v0), some (.ref v1), some (.int v2), none, none] [.int s0] w (some (.int o.1), o.2) := by
  unfold f154_J85 at h
  refine rn_istore_n (ls' := [some (.ref v0), some (.ref v1), some (.int v2), some (.int s0), none]) (ft154 30 rfl) rfl ?_
  refine rn_iload_n (ft154 31 rfl) rfl ?_
  by_cases c19 : 0 ≤ v2
  · replace h := ifp c19 h
    refine rn_if_ge_t (ft154 32 rfl) c19 ?_
    refine rn_aload_n (ft154 36 rfl) rfl ?_
    obtain ⟨x9, q10, h⟩ := ob_some h
    refine rn_getI (ft154 37 rfl) (by decide) (by decide) q10 ?_
    exact rn_forget (ls := [some (.ref v0), none, some (.int v2), some (.int s0), none]) (And.intro rfl (And.intro rfl (And.intro rfl trivial))) (rf154_J101  v0 v2 s0 x9 w _  h)
  · replace h := ifn c19 h
    refine rn_if_ge_f (ft154 32 rfl) c19 ?_
    refine rn_aload_n (ft154 33 rfl) rfl ?_
    obtain ⟨x17, q18, h⟩ := ob_some h
    refine rn_getI (ft154 34 rfl) (by decide) (by decide) q18 ?_
    refine rn_goto (ft154 35 rfl) ?_
    exact rn_forget (ls := [some (.ref v0), none, some (.int v2), some (.int s0), none]) (And.intro rfl (And.intro rfl (And.intro rfl trivial))) (rf154_J101  v0 v2 s0 x17 w _  h)
def f154_J64  (v0 : Nat) (v1 : Nat) (v2 : Int32) (w : Wd) : Option (Int32 × Wd) :=
  (if ¬ v2 = 0 then (if 0 ≤ v2 then ob (getI w 8 v1 2) (fun x7 => f154_J85  v0 v1 v2 x7 w)
      else ob (getI w 8 v1 1) (fun x20 => f154_J85  v0 v1 v2 x20 w))
    else some ((0 : Int32), w))
set_option maxRecDepth 10000 in
theorem rf154_J64 {S : Sc}  (v0 : Nat) (v1 : Nat) (v2 : Int32) (w : Wd) (o : (Int32 × Wd))  (h : f154_J64  v0 v1 v2 w = some o) : Rn S 154 64 [some (.ref v0), some (.ref v1), some (.int v2), none, none] [] w (some (.int o.1), o.2) := by
  unfold f154_J64 at h
  refine rn_iload_n (ft154 19 rfl) rfl ?_
  by_cases c23 : ¬ v2 = 0
  · replace h := ifp c23 h
    refine rn_if_ne_t (ft154 20 rfl) c23 ?_
    refine rn_iload_n (ft154 23 rfl) rfl ?_
    by_cases c22 : 0 ≤ v2
    · replace h := ifp c22 h
      refine rn_if_ge_t (ft154 24 rfl) c22 ?_
      refine rn_aload_n (ft154 28 rfl) rfl ?_
      obtain ⟨x7, q8, h⟩ := ob_some h
      refine rn_getI (ft154 29 rfl) (by decide) (by decide) q8 ?_
      exact rn_forget (ls := [some (.ref v0), some (.ref v1), some (.int v2), none, none]) (And.intro rfl (And.intro rfl (And.intro rfl trivial))) (rf154_J85  v0 v1 v2 x7 w _  h)
    · replace h := ifn c22 h
      refine rn_if_ge_f (ft154 24 rfl) c22 ?_
      refine rn_aload_n (ft154 25 rfl) rfl ?_
      obtain ⟨x20, q21, h⟩ := ob_some h
      refine rn_getI (ft154 26 rfl) (by decide) (by decide) q21 ?_
      refine rn_goto (ft154 27 rfl) ?_
      exact rn_forget (ls := [some (.ref v0), some (.ref v1), some (.int v2), none, none]) (And.intro rfl (And.intro rfl (And.intro rfl trivial))) (rf154_J85  v0 v1 v2 x20 w _  h)
  · replace h := ifn c23 h
    refine rn_if_ne_f (ft154 20 rfl) c23 ?_
    refine rn_iconst (v := (0 : Int32)) (ft154 21 rfl) (by decide) ?_
    cases h
    exact rn_iretI pr154 (ft154 22 rfl)
def f154 (v0 : Nat) (v1 : Nat) (w : Wd) : Option (Int32 × Wd) :=
  ob (getI w 5 v0 0) (fun x1 => (if x1 = 0 then (if (wsh w v1).map (fun q => q.1) = some 8 then ob (f25 v1 w) (fun p30 => f154_J64  v0 v1 p30.1 p30.2) else none)
    else (if x1 = 1 then (if (wsh w v1).map (fun q => q.1) = some 8 then ob (f26 v1 w) (fun p27 => f154_J64  v0 v1 p27.1 p27.2) else none)
      else (if x1 = 2 then (if (wsh w v1).map (fun q => q.1) = some 8 then ob (f101 v1 w) (fun p24 => f154_J64  v0 v1 p24.1 p24.2) else none)
        else ob (getI w 8 v1 6) (fun x3 => ob (f27 x3 w) (fun p5 => f154_J64  v0 v1 p5.1 p5.2))))))
set_option maxRecDepth 10000 in
theorem r154 {S : Sc} (v0 : Nat) (v1 : Nat) (w : Wd) (o : (Int32 × Wd)) (h : f154 v0 v1 w = some o) : Rn S 154 0 [some (.ref v0), some (.ref v1), none, none, none] [] w (some (.int o.1), o.2) := by
  unfold f154 at h
  refine rn_aload_n (ft154 0 rfl) rfl ?_
  obtain ⟨x1, q2, h⟩ := ob_some h
  refine rn_getI (ft154 1 rfl) (by decide) (by decide) q2 ?_
  by_cases c33 : x1 = 0
  · replace h := ifp c33 h
    refine rn_sw_i (e := 28) (pc' := 32) (ft154 2 rfl) (by rw [c33]; decide) (by rw [c33]; rfl) (by decide) ?_
    refine rn_aload_n (ft154 3 rfl) rfl ?_
    obtain ⟨g32, h⟩ := ifg h
    obtain ⟨p30, q31, h⟩ := ob_some h
    refine rn_callV (as := []) (k0 := v1) (r := []) (v := (some (.int p30.1))) (w1 := p30.2) (ft154 4 rfl) (by decide +kernel) rfl (Nat.le_of_ble_eq_true rfl) (Nat.le_of_ble_eq_true rfl) (r25 v1 w _ q31) (by decide +kernel) g32 ?_
    refine rn_istore_n (ls' := [some (.ref v0), some (.ref v1), some (.int p30.1), none, none]) (ft154 5 rfl) rfl ?_
    refine rn_goto (ft154 6 rfl) ?_
    exact rn_forget (ls := [some (.ref v0), some (.ref v1), some (.int p30.1), none, none]) (And.intro rfl (And.intro rfl (And.intro rfl trivial))) (rf154_J64  v0 v1 p30.1 p30.2 _  h)
  · replace h := ifn c33 h
    by_cases c34 : x1 = 1
    · replace h := ifp c34 h
      refine rn_sw_i (e := 36) (pc' := 40) (ft154 2 rfl) (by rw [c34]; decide) (by rw [c34]; rfl) (by decide) ?_
      refine rn_aload_n (ft154 7 rfl) rfl ?_
      obtain ⟨g29, h⟩ := ifg h
      obtain ⟨p27, q28, h⟩ := ob_some h
      refine rn_callV (as := []) (k0 := v1) (r := []) (v := (some (.int p27.1))) (w1 := p27.2) (ft154 8 rfl) (by decide +kernel) rfl (Nat.le_of_ble_eq_true rfl) (Nat.le_of_ble_eq_true rfl) (r26 v1 w _ q28) (by decide +kernel) g29 ?_
      refine rn_istore_n (ls' := [some (.ref v0), some (.ref v1), some (.int p27.1), none, none]) (ft154 9 rfl) rfl ?_
      refine rn_goto (ft154 10 rfl) ?_
      exact rn_forget (ls := [some (.ref v0), some (.ref v1), some (.int p27.1), none, none]) (And.intro rfl (And.intro rfl (And.intro rfl trivial))) (rf154_J64  v0 v1 p27.1 p27.2 _  h)
    · replace h := ifn c34 h
      by_cases c35 : x1 = 2
      · replace h := ifp c35 h
        refine rn_sw_i (e := 44) (pc' := 48) (ft154 2 rfl) (by rw [c35]; decide) (by rw [c35]; rfl) (by decide) ?_
        refine rn_aload_n (ft154 11 rfl) rfl ?_
        obtain ⟨g26, h⟩ := ifg h
        obtain ⟨p24, q25, h⟩ := ob_some h
        refine rn_callV (as := []) (k0 := v1) (r := []) (v := (some (.int p24.1))) (w1 := p24.2) (ft154 12 rfl) (by decide +kernel) rfl (Nat.le_of_ble_eq_true rfl) (Nat.le_of_ble_eq_true rfl) (r101 v1 w _ q25) (by decide +kernel) g26 ?_
        refine rn_istore_n (ls' := [some (.ref v0), some (.ref v1), some (.int p24.1), none, none]) (ft154 13 rfl) rfl ?_
        refine rn_goto (ft154 14 rfl) ?_
        exact rn_forget (ls := [some (.ref v0), some (.ref v1), some (.int p24.1), none, none]) (And.intro rfl (And.intro rfl (And.intro rfl trivial))) (rf154_J64  v0 v1 p24.1 p24.2 _  h)
      · replace h := ifn c35 h
        have hsw := sw_out (v := x1) (N := 2) (by omega) (fun j hj => by
          have hj2 : j = 0 ∨ j = 1 ∨ j = 2 := by omega
          rcases hj2 with rfl | rfl | rfl
          · exact c33
          · exact c34
          · exact c35)
        refine rn_sw_d (ft154 2 rfl) hsw (by decide) ?_
        refine rn_aload_n (ft154 15 rfl) rfl ?_
        obtain ⟨x3, q4, h⟩ := ob_some h
        refine rn_getI (ft154 16 rfl) (by decide) (by decide) q4 ?_
        obtain ⟨p5, q6, h⟩ := ob_some h
        refine rn_callS (as := [.int x3]) (r := []) (v := (some (.int p5.1))) (w1 := p5.2) (ft154 17 rfl) (by decide +kernel) rfl (Nat.le_of_ble_eq_true rfl) (Nat.le_of_ble_eq_true rfl) (r27 x3 w _ q6) ?_
        refine rn_istore_n (ls' := [some (.ref v0), some (.ref v1), some (.int p5.1), none, none]) (ft154 18 rfl) rfl ?_
        exact rn_forget (ls := [some (.ref v0), some (.ref v1), some (.int p5.1), none, none]) (And.intro rfl (And.intro rfl (And.intro rfl trivial))) (rf154_J64  v0 v1 p5.1 p5.2 _  h)
/-- NineWheel$Journey.hoursRound()I -/
theorem ft155 : ∀ (i : Nat) {q : Nat × XI}, cd155[i]? = some q → fetch 155 q.1 = some q.2 := ft_of (by decide +kernel)
theorem pr155 : pRt 155 = some .int := rfl
def f155_H29 (n : Nat)  (K15 : Wd → Option (Int32 × Wd)) : Nat → Nat → Int32 → Int32 → Wd → Option (Int32 × Wd)
  | 0, _, _, _, _ => none
  | k + 1, v0, v1, v2, w =>
    ob (getI w 4 v0 7) (fun x9 => (if x9 < v2 then K15 w
      else ob (getR w 4 v0 5) (fun x11 => ob (getI w 4 v0 7) (fun x13 => ob (aldI w x11 (x13 - v2)) (fun x15 => ob (getR w 4 v0 5) (fun x17 => ob (getI w 4 v0 7) (fun x19 => ob (aldI w x17 x19) (fun x21 => (if ¬ x15 = x21 then (fun (v0 : Nat) (v1 : Int32) (v2 : Int32) w => f155_H29 n  K15 k v0 v1 v2 w) v0 v1 (v2 + v1) w
        else some (v2, w))))))))))
set_option maxRecDepth 10000 in
theorem rf155_H29 {S : Sc} (n : Nat)  (K15 : Wd → Option (Int32 × Wd))  (hK15 : ∀  (w : Wd) (o : (Int32 × Wd)), K15 w = some o → Rn S 155 69 [none, none, none] [] w (some (.int o.1), o.2)) : ∀ (k : Nat) (v0 : Nat) (v1 : Int32) (v2 : Int32) (w : Wd) (o : (Int32 × Wd)), f155_H29 n  K15 k v0 v1 v2 w = some o → Rn S 155 29 [some (.ref v0), some (.int v1), some (.int v2)] [] w (some (.int o.1), o.2) := by
  intro k
  induction k with
  | zero =>
    intro v0 v1 v2 w o h
    exact nomatch h
  | succ k ih =>
    intro v0 v1 v2 w o h
    have hrec15 : ∀ (y0 : Nat) (y1 : Int32) (y2 : Int32) (w : Wd) (o : (Int32 × Wd)), (fun (v0 : Nat) (v1 : Int32) (v2 : Int32) w => f155_H29 n  K15 k v0 v1 v2 w) y0 y1 y2 w = some o → Rn S 155 29 [some (.ref y0), some (.int y1), some (.int y2)] [] w (some (.int o.1), o.2) := fun y0 y1 y2 w o h => ih y0 y1 y2 w o h
    unfold f155_H29 at h
    refine rn_iload_n (ft155 15 rfl) rfl ?_
    refine rn_aload_n (ft155 16 rfl) rfl ?_
    obtain ⟨x9, q10, h⟩ := ob_some h
    refine rn_getI (ft155 17 rfl) (by decide) (by decide) q10 ?_
    by_cases c24 : x9 < v2
    · replace h := ifp c24 h
      refine rn_icmp_gt_t (ft155 18 rfl) c24 ?_
      exact rn_forget (ls := [none, none, none]) trivial (hK15 w _ h)
    · replace h := ifn c24 h
      refine rn_icmp_gt_f (ft155 18 rfl) c24 ?_
      refine rn_aload_n (ft155 19 rfl) rfl ?_
      obtain ⟨x11, q12, h⟩ := ob_some h
      refine rn_getR (ft155 20 rfl) q12 ?_
      refine rn_aload_n (ft155 21 rfl) rfl ?_
      obtain ⟨x13, q14, h⟩ := ob_some h
      refine rn_getI (ft155 22 rfl) (by decide) (by decide) q14 ?_
      refine rn_iload_n (ft155 23 rfl) rfl ?_
      refine rn_isub (ft155 24 rfl) ?_
      obtain ⟨x15, q16, h⟩ := ob_some h
      refine rn_iaload (ft155 25 rfl) q16 ?_
      refine rn_aload_n (ft155 26 rfl) rfl ?_
      obtain ⟨x17, q18, h⟩ := ob_some h
      refine rn_getR (ft155 27 rfl) q18 ?_
      refine rn_aload_n (ft155 28 rfl) rfl ?_
      obtain ⟨x19, q20, h⟩ := ob_some h
      refine rn_getI (ft155 29 rfl) (by decide) (by decide) q20 ?_
      obtain ⟨x21, q22, h⟩ := ob_some h
      refine rn_iaload (ft155 30 rfl) q22 ?_
      by_cases c23 : ¬ x15 = x21
      · replace h := ifp c23 h
        refine rn_icmp_ne_t (ft155 31 rfl) c23 ?_
        refine rn_iload_n (ft155 34 rfl) rfl ?_
        refine rn_iload_n (ft155 35 rfl) rfl ?_
        refine rn_iadd (ft155 36 rfl) ?_
        refine rn_istore_n (ls' := [some (.ref v0), some (.int v1), some (.int (v2 + v1))]) (ft155 37 rfl) rfl ?_
        refine rn_goto (ft155 38 rfl) ?_
        exact rn_forget (ls := [some (.ref v0), some (.int v1), some (.int (v2 + v1))]) (And.intro rfl (And.intro rfl (And.intro rfl trivial))) (hrec15 v0 v1 (v2 + v1) w _ h)
      · replace h := ifn c23 h
        refine rn_icmp_ne_f (ft155 31 rfl) c23 ?_
        refine rn_iload_n (ft155 32 rfl) rfl ?_
        cases h
        exact rn_iretI pr155 (ft155 33 rfl)
def f155 (n : Nat) (v0 : Nat) (w : Wd) : Option (Int32 × Wd) :=
  ob (getI w 4 v0 8) (fun x1 => (if ¬ x1 = 0 then some ((0 : Int32), w)
    else ob (getI w 4 v0 7) (fun x3 => (if x3 ≤ (400 : Int32) then ob (getR w 4 v0 0) (fun x5 => (if (wsh w x5).map (fun q => q.1) = some 6 then ob (f102 x5 w) (fun p7 => f155_H29 n  (fun  (w25 : Wd) => some ((0 : Int32), w25)) n v0 p7.1 p7.1 p7.2) else none))
      else some ((0 : Int32), w)))))
set_option maxRecDepth 10000 in
theorem r155 {S : Sc} (n : Nat) (v0 : Nat) (w : Wd) (o : (Int32 × Wd)) (h : f155 n v0 w = some o) : Rn S 155 0 [some (.ref v0), none, none] [] w (some (.int o.1), o.2) := by
  unfold f155 at h
  refine rn_aload_n (ft155 0 rfl) rfl ?_
  obtain ⟨x1, q2, h⟩ := ob_some h
  refine rn_getI (ft155 1 rfl) (by decide) (by decide) q2 ?_
  by_cases c28 : ¬ x1 = 0
  · replace h := ifp c28 h
    refine rn_if_ne_t (ft155 2 rfl) c28 ?_
    refine rn_iconst (v := (0 : Int32)) (ft155 7 rfl) (by decide) ?_
    cases h
    exact rn_iretI pr155 (ft155 8 rfl)
  · replace h := ifn c28 h
    refine rn_if_ne_f (ft155 2 rfl) c28 ?_
    refine rn_aload_n (ft155 3 rfl) rfl ?_
    obtain ⟨x3, q4, h⟩ := ob_some h
    refine rn_getI (ft155 4 rfl) (by decide) (by decide) q4 ?_
    refine rn_sipush (v := (400 : Int32)) (ft155 5 rfl) (by decide) ?_
    by_cases c27 : x3 ≤ (400 : Int32)
    · replace h := ifp c27 h
      refine rn_icmp_le_t (ft155 6 rfl) c27 ?_
      refine rn_aload_n (ft155 9 rfl) rfl ?_
      obtain ⟨x5, q6, h⟩ := ob_some h
      refine rn_getR (ft155 10 rfl) q6 ?_
      obtain ⟨g26, h⟩ := ifg h
      obtain ⟨p7, q8, h⟩ := ob_some h
      refine rn_callV (as := []) (k0 := x5) (r := []) (v := (some (.int p7.1))) (w1 := p7.2) (ft155 11 rfl) (by decide +kernel) rfl (Nat.le_of_ble_eq_true rfl) (Nat.le_of_ble_eq_true rfl) (r102 x5 w _ q8) (by decide +kernel) g26 ?_
      refine rn_istore_n (ls' := [some (.ref v0), some (.int p7.1), none]) (ft155 12 rfl) rfl ?_
      refine rn_iload_n (ft155 13 rfl) rfl ?_
      refine rn_istore_n (ls' := [some (.ref v0), some (.int p7.1), some (.int p7.1)]) (ft155 14 rfl) rfl ?_
      refine rn_forget (ls := [some (.ref v0), some (.int p7.1), some (.int p7.1)]) (And.intro rfl (And.intro rfl (And.intro rfl trivial))) (rf155_H29 n  _  (fun  w25 o h => ?_) n v0 p7.1 p7.1 p7.2 _ h)
      refine rn_iconst (v := (0 : Int32)) (ft155 39 rfl) (by decide) ?_
      cases h
      exact rn_iretI pr155 (ft155 40 rfl)
    · replace h := ifn c27 h
      refine rn_icmp_le_f (ft155 6 rfl) c27 ?_
      refine rn_iconst (v := (0 : Int32)) (ft155 7 rfl) (by decide) ?_
      cases h
      exact rn_iretI pr155 (ft155 8 rfl)
/-- NineWheel$Journey.firstAt(I)I -/
theorem ft156 : ∀ (i : Nat) {q : Nat × XI}, cd156[i]? = some q → fetch 156 q.1 = some q.2 := ft_of (by decide +kernel)
theorem pr156 : pRt 156 = some .int := rfl
def f156_H2 (n : Nat)  (K2 : Wd → Option (Int32 × Wd)) : Nat → Nat → Int32 → Int32 → Wd → Option (Int32 × Wd)
  | 0, _, _, _, _ => none
  | k + 1, v0, v1, v2, w =>
    ob (getI w 4 v0 7) (fun x1 => (if x1 < v2 then K2 w
      else (if (wsh w v0).map (fun q => q.1) = some 4 then ob (f104 v0 v2 w) (fun p3 => ob (f20 p3.1 p3.2) (fun p5 => (if ¬ p5.1 = v1 then (fun (v0 : Nat) (v1 : Int32) (v2 : Int32) w => f156_H2 n  K2 k v0 v1 v2 w) v0 v1 (v2 + (1 : Int32)) p5.2
        else some (v2, p5.2)))) else none)))
set_option maxRecDepth 10000 in
theorem rf156_H2 {S : Sc} (n : Nat)  (K2 : Wd → Option (Int32 × Wd))  (hK2 : ∀  (w : Wd) (o : (Int32 × Wd)), K2 w = some o → Rn S 156 30 [none, none, none] [] w (some (.int o.1), o.2)) : ∀ (k : Nat) (v0 : Nat) (v1 : Int32) (v2 : Int32) (w : Wd) (o : (Int32 × Wd)), f156_H2 n  K2 k v0 v1 v2 w = some o → Rn S 156 2 [some (.ref v0), some (.int v1), some (.int v2)] [] w (some (.int o.1), o.2) := by
  intro k
  induction k with
  | zero =>
    intro v0 v1 v2 w o h
    exact nomatch h
  | succ k ih =>
    intro v0 v1 v2 w o h
    have hrec2 : ∀ (y0 : Nat) (y1 : Int32) (y2 : Int32) (w : Wd) (o : (Int32 × Wd)), (fun (v0 : Nat) (v1 : Int32) (v2 : Int32) w => f156_H2 n  K2 k v0 v1 v2 w) y0 y1 y2 w = some o → Rn S 156 2 [some (.ref y0), some (.int y1), some (.int y2)] [] w (some (.int o.1), o.2) := fun y0 y1 y2 w o h => ih y0 y1 y2 w o h
    unfold f156_H2 at h
    refine rn_iload_n (ft156 2 rfl) rfl ?_
    refine rn_aload_n (ft156 3 rfl) rfl ?_
    obtain ⟨x1, q2, h⟩ := ob_some h
    refine rn_getI (ft156 4 rfl) (by decide) (by decide) q2 ?_
    by_cases c9 : x1 < v2
    · replace h := ifp c9 h
      refine rn_icmp_gt_t (ft156 5 rfl) c9 ?_
      exact rn_forget (ls := [none, none, none]) trivial (hK2 w _ h)
    · replace h := ifn c9 h
      refine rn_icmp_gt_f (ft156 5 rfl) c9 ?_
      refine rn_aload_n (ft156 6 rfl) rfl ?_
      refine rn_iload_n (ft156 7 rfl) rfl ?_
      obtain ⟨g8, h⟩ := ifg h
      obtain ⟨p3, q4, h⟩ := ob_some h
      refine rn_callV (as := [.int v2]) (k0 := v0) (r := []) (v := (some (.int p3.1))) (w1 := p3.2) (ft156 8 rfl) (by decide +kernel) rfl (Nat.le_of_ble_eq_true rfl) (Nat.le_of_ble_eq_true rfl) (r104 v0 v2 w _ q4) (by decide +kernel) g8 ?_
      obtain ⟨p5, q6, h⟩ := ob_some h
      refine rn_callS (as := [.int p3.1]) (r := []) (v := (some (.int p5.1))) (w1 := p5.2) (ft156 9 rfl) (by decide +kernel) rfl (Nat.le_of_ble_eq_true rfl) (Nat.le_of_ble_eq_true rfl) (r20 p3.1 p3.2 _ q6) ?_
      refine rn_iload_n (ft156 10 rfl) rfl ?_
      by_cases c7 : ¬ p5.1 = v1
      · replace h := ifp c7 h
        refine rn_icmp_ne_t (ft156 11 rfl) c7 ?_
        refine rn_iinc (u := 1) (ls' := [some (.ref v0), some (.int v1), some (.int (v2 + (1 : Int32)))]) (ft156 14 rfl) rfl (by decide) rfl ?_
        refine rn_goto (ft156 15 rfl) ?_
        exact rn_forget (ls := [some (.ref v0), some (.int v1), some (.int (v2 + (1 : Int32)))]) (And.intro rfl (And.intro rfl (And.intro rfl trivial))) (hrec2 v0 v1 (v2 + (1 : Int32)) p5.2 _ h)
      · replace h := ifn c7 h
        refine rn_icmp_ne_f (ft156 11 rfl) c7 ?_
        refine rn_iload_n (ft156 12 rfl) rfl ?_
        cases h
        exact rn_iretI pr156 (ft156 13 rfl)
def f156 (n : Nat) (v0 : Nat) (v1 : Int32) (w : Wd) : Option (Int32 × Wd) :=
  f156_H2 n  (fun  (w10 : Wd) => some ((-1 : Int32), w10)) n v0 v1 (0 : Int32) w
set_option maxRecDepth 10000 in
theorem r156 {S : Sc} (n : Nat) (v0 : Nat) (v1 : Int32) (w : Wd) (o : (Int32 × Wd)) (h : f156 n v0 v1 w = some o) : Rn S 156 0 [some (.ref v0), some (.int v1), none] [] w (some (.int o.1), o.2) := by
  unfold f156 at h
  refine rn_iconst (v := (0 : Int32)) (ft156 0 rfl) (by decide) ?_
  refine rn_istore_n (ls' := [some (.ref v0), some (.int v1), some (.int (0 : Int32))]) (ft156 1 rfl) rfl ?_
  refine rn_forget (ls := [some (.ref v0), some (.int v1), some (.int (0 : Int32))]) (And.intro rfl (And.intro rfl (And.intro rfl trivial))) (rf156_H2 n  _  (fun  w10 o h => ?_) n v0 v1 (0 : Int32) w _ h)
  refine rn_iconst (v := (-1 : Int32)) (ft156 16 rfl) (by decide) ?_
  cases h
  exact rn_iretI pr156 (ft156 17 rfl)
/-- NineWheel.log(I)I -/
theorem ft157 : ∀ (i : Nat) {q : Nat × XI}, cd157[i]? = some q → fetch 157 q.1 = some q.2 := ft_of (by decide +kernel)
theorem pr157 : pRt 157 = some .int := rfl
def f157 (v0 : Nat) (v1 : Int32) (w : Wd) : Option (Int32 × Wd) :=
  ob (f91 v1 w) (fun p1 => (if p1.1 = 0 then ob (getR p1.2 10 v0 7) (fun x3 => ob (getI p1.2 3 x3 3) (fun x5 => (if x5 < (40 : Int32) then ob (getR p1.2 10 v0 7) (fun x7 => (if (wsh p1.2 x7).map (fun q => q.1) = some 3 then ob (f105 x7 v1 p1.2) (fun p9 => ob (getR p9 10 v0 7) (fun x11 => ob (getI p9 3 x11 3) (fun x13 => some (x13, p9)))) else none))
      else some ((-1000004 : Int32), p1.2))))
    else some ((-1000002 : Int32), p1.2)))
set_option maxRecDepth 10000 in
theorem r157 {S : Sc} (v0 : Nat) (v1 : Int32) (w : Wd) (o : (Int32 × Wd)) (h : f157 v0 v1 w = some o) : Rn S 157 0 [some (.ref v0), some (.int v1)] [] w (some (.int o.1), o.2) := by
  unfold f157 at h
  refine rn_iload_n (ft157 0 rfl) rfl ?_
  obtain ⟨p1, q2, h⟩ := ob_some h
  refine rn_callS (as := [.int v1]) (r := []) (v := (some (.int p1.1))) (w1 := p1.2) (ft157 1 rfl) (by decide +kernel) rfl (Nat.le_of_ble_eq_true rfl) (Nat.le_of_ble_eq_true rfl) (r91 v1 w _ q2) ?_
  by_cases c17 : p1.1 = 0
  · replace h := ifp c17 h
    refine rn_if_eq_t (ft157 2 rfl) c17 ?_
    refine rn_aload_n (ft157 5 rfl) rfl ?_
    obtain ⟨x3, q4, h⟩ := ob_some h
    refine rn_getR (ft157 6 rfl) q4 ?_
    obtain ⟨x5, q6, h⟩ := ob_some h
    refine rn_getI (ft157 7 rfl) (by decide) (by decide) q6 ?_
    refine rn_bipush (v := (40 : Int32)) (ft157 8 rfl) (by decide) ?_
    by_cases c16 : x5 < (40 : Int32)
    · replace h := ifp c16 h
      refine rn_icmp_lt_t (ft157 9 rfl) c16 ?_
      refine rn_aload_n (ft157 12 rfl) rfl ?_
      obtain ⟨x7, q8, h⟩ := ob_some h
      refine rn_getR (ft157 13 rfl) q8 ?_
      refine rn_iload_n (ft157 14 rfl) rfl ?_
      obtain ⟨g15, h⟩ := ifg h
      obtain ⟨p9, q10, h⟩ := ob_some h
      refine rn_callV (as := [.int v1]) (k0 := x7) (r := []) (v := none) (w1 := p9) (ft157 15 rfl) (by decide +kernel) rfl (Nat.le_of_ble_eq_true rfl) (Nat.le_of_ble_eq_true rfl) (r105 x7 v1 p1.2 _ q10) (by decide +kernel) g15 ?_
      refine rn_aload_n (ft157 16 rfl) rfl ?_
      obtain ⟨x11, q12, h⟩ := ob_some h
      refine rn_getR (ft157 17 rfl) q12 ?_
      obtain ⟨x13, q14, h⟩ := ob_some h
      refine rn_getI (ft157 18 rfl) (by decide) (by decide) q14 ?_
      cases h
      exact rn_iretI pr157 (ft157 19 rfl)
    · replace h := ifn c16 h
      refine rn_icmp_lt_f (ft157 9 rfl) c16 ?_
      refine rn_ldc (v := (-1000004 : Int32)) (ft157 10 rfl) (by decide) rfl ?_
      cases h
      exact rn_iretI pr157 (ft157 11 rfl)
  · replace h := ifn c17 h
    refine rn_if_eq_f (ft157 2 rfl) c17 ?_
    refine rn_ldc (v := (-1000002 : Int32)) (ft157 3 rfl) (by decide) rfl ?_
    cases h
    exact rn_iretI pr157 (ft157 4 rfl)
/-- NineWheel$Sea.personsIn(I)I -/
theorem ft158 : ∀ (i : Nat) {q : Nat × XI}, cd158[i]? = some q → fetch 158 q.1 = some q.2 := ft_of (by decide +kernel)
theorem pr158 : pRt 158 = some .int := rfl
def f158_H4 (n : Nat)  (K4 : Int32 → Wd → Option (Int32 × Wd)) : Nat → Nat → Int32 → Int32 → Int32 → Wd → Option (Int32 × Wd)
  | 0, _, _, _, _, _ => none
  | k + 1, v0, v1, v2, v3, w =>
    ob (getI w 6 v0 5) (fun x1 => (if x1 ≤ v3 then K4 v2 w
      else ob (f16 v1 v3 w) (fun p3 => (if p3.1 = 0 then (fun (v0 : Nat) (v1 : Int32) (v2 : Int32) (v3 : Int32) w => f158_H4 n  K4 k v0 v1 v2 v3 w) v0 v1 v2 (v3 + (1 : Int32)) p3.2
        else (if (wsh p3.2 v0).map (fun q => q.1) = some 6 then ob (f83 v0 v3 p3.2) (fun p5 => (fun (v0 : Nat) (v1 : Int32) (v2 : Int32) (v3 : Int32) w => f158_H4 n  K4 k v0 v1 v2 v3 w) v0 v1 (v2 + p5.1) (v3 + (1 : Int32)) p5.2) else none)))))
set_option maxRecDepth 10000 in
theorem rf158_H4 {S : Sc} (n : Nat)  (K4 : Int32 → Wd → Option (Int32 × Wd))  (hK4 : ∀ (y2 : Int32) (w : Wd) (o : (Int32 × Wd)), K4 y2 w = some o → Rn S 158 34 [none, none, some (.int y2), none] [] w (some (.int o.1), o.2)) : ∀ (k : Nat) (v0 : Nat) (v1 : Int32) (v2 : Int32) (v3 : Int32) (w : Wd) (o : (Int32 × Wd)), f158_H4 n  K4 k v0 v1 v2 v3 w = some o → Rn S 158 4 [some (.ref v0), some (.int v1), some (.int v2), some (.int v3)] [] w (some (.int o.1), o.2) := by
  intro k
  induction k with
  | zero =>
    intro v0 v1 v2 v3 w o h
    exact nomatch h
  | succ k ih =>
    intro v0 v1 v2 v3 w o h
    have hrec4 : ∀ (y0 : Nat) (y1 : Int32) (y2 : Int32) (y3 : Int32) (w : Wd) (o : (Int32 × Wd)), (fun (v0 : Nat) (v1 : Int32) (v2 : Int32) (v3 : Int32) w => f158_H4 n  K4 k v0 v1 v2 v3 w) y0 y1 y2 y3 w = some o → Rn S 158 4 [some (.ref y0), some (.int y1), some (.int y2), some (.int y3)] [] w (some (.int o.1), o.2) := fun y0 y1 y2 y3 w o h => ih y0 y1 y2 y3 w o h
    unfold f158_H4 at h
    refine rn_iload_n (ft158 4 rfl) rfl ?_
    refine rn_aload_n (ft158 5 rfl) rfl ?_
    obtain ⟨x1, q2, h⟩ := ob_some h
    refine rn_getI (ft158 6 rfl) (by decide) (by decide) q2 ?_
    by_cases c9 : x1 ≤ v3
    · replace h := ifp c9 h
      refine rn_icmp_ge_t (ft158 7 rfl) c9 ?_
      exact rn_forget (ls := [none, none, some (.int v2), none]) (And.intro rfl trivial) (hK4 v2 w _ h)
    · replace h := ifn c9 h
      refine rn_icmp_ge_f (ft158 7 rfl) c9 ?_
      refine rn_iload_n (ft158 8 rfl) rfl ?_
      refine rn_iload_n (ft158 9 rfl) rfl ?_
      obtain ⟨p3, q4, h⟩ := ob_some h
      refine rn_callS (as := [.int v1, .int v3]) (r := []) (v := (some (.int p3.1))) (w1 := p3.2) (ft158 10 rfl) (by decide +kernel) rfl (Nat.le_of_ble_eq_true rfl) (Nat.le_of_ble_eq_true rfl) (r16 v1 v3 w _ q4) ?_
      by_cases c8 : p3.1 = 0
      · replace h := ifp c8 h
        refine rn_if_eq_t (ft158 11 rfl) c8 ?_
        refine rn_iinc (u := 1) (ls' := [some (.ref v0), some (.int v1), some (.int v2), some (.int (v3 + (1 : Int32)))]) (ft158 18 rfl) rfl (by decide) rfl ?_
        refine rn_goto (ft158 19 rfl) ?_
        exact rn_forget (ls := [some (.ref v0), some (.int v1), some (.int v2), some (.int (v3 + (1 : Int32)))]) (And.intro rfl (And.intro rfl (And.intro rfl (And.intro rfl trivial)))) (hrec4 v0 v1 v2 (v3 + (1 : Int32)) p3.2 _ h)
      · replace h := ifn c8 h
        refine rn_if_eq_f (ft158 11 rfl) c8 ?_
        refine rn_iload_n (ft158 12 rfl) rfl ?_
        refine rn_aload_n (ft158 13 rfl) rfl ?_
        refine rn_iload_n (ft158 14 rfl) rfl ?_
        obtain ⟨g7, h⟩ := ifg h
        obtain ⟨p5, q6, h⟩ := ob_some h
        refine rn_callV (as := [.int v3]) (k0 := v0) (r := [.int v2]) (v := (some (.int p5.1))) (w1 := p5.2) (ft158 15 rfl) (by decide +kernel) rfl (Nat.le_of_ble_eq_true rfl) (Nat.le_of_ble_eq_true rfl) (r83 v0 v3 p3.2 _ q6) (by decide +kernel) g7 ?_
        refine rn_iadd (ft158 16 rfl) ?_
        refine rn_istore_n (ls' := [some (.ref v0), some (.int v1), some (.int (v2 + p5.1)), some (.int v3)]) (ft158 17 rfl) rfl ?_
        refine rn_iinc (u := 1) (ls' := [some (.ref v0), some (.int v1), some (.int (v2 + p5.1)), some (.int (v3 + (1 : Int32)))]) (ft158 18 rfl) rfl (by decide) rfl ?_
        refine rn_goto (ft158 19 rfl) ?_
        exact rn_forget (ls := [some (.ref v0), some (.int v1), some (.int (v2 + p5.1)), some (.int (v3 + (1 : Int32)))]) (And.intro rfl (And.intro rfl (And.intro rfl (And.intro rfl trivial)))) (hrec4 v0 v1 (v2 + p5.1) (v3 + (1 : Int32)) p5.2 _ h)
def f158 (n : Nat) (v0 : Nat) (v1 : Int32) (w : Wd) : Option (Int32 × Wd) :=
  f158_H4 n  (fun (e2_10 : Int32) (w10 : Wd) => some (e2_10, w10)) n v0 v1 (0 : Int32) (0 : Int32) w
set_option maxRecDepth 10000 in
theorem r158 {S : Sc} (n : Nat) (v0 : Nat) (v1 : Int32) (w : Wd) (o : (Int32 × Wd)) (h : f158 n v0 v1 w = some o) : Rn S 158 0 [some (.ref v0), some (.int v1), none, none] [] w (some (.int o.1), o.2) := by
  unfold f158 at h
  refine rn_iconst (v := (0 : Int32)) (ft158 0 rfl) (by decide) ?_
  refine rn_istore_n (ls' := [some (.ref v0), some (.int v1), some (.int (0 : Int32)), none]) (ft158 1 rfl) rfl ?_
  refine rn_iconst (v := (0 : Int32)) (ft158 2 rfl) (by decide) ?_
  refine rn_istore_n (ls' := [some (.ref v0), some (.int v1), some (.int (0 : Int32)), some (.int (0 : Int32))]) (ft158 3 rfl) rfl ?_
  refine rn_forget (ls := [some (.ref v0), some (.int v1), some (.int (0 : Int32)), some (.int (0 : Int32))]) (And.intro rfl (And.intro rfl (And.intro rfl (And.intro rfl trivial)))) (rf158_H4 n  _  (fun e2_10 w10 o h => ?_) n v0 v1 (0 : Int32) (0 : Int32) w _ h)
  refine rn_iload_n (ft158 20 rfl) rfl ?_
  cases h
  exact rn_iretI pr158 (ft158 21 rfl)
/-- NineWheel.keep(I)I -/
theorem ft159 : ∀ (i : Nat) {q : Nat × XI}, cd159[i]? = some q → fetch 159 q.1 = some q.2 := ft_of (by decide +kernel)
theorem pr159 : pRt 159 = some .int := rfl
def f159 (n : Nat) (v0 : Nat) (v1 : Int32) (w : Wd) : Option (Int32 × Wd) :=
  (if (wsh w v0).map (fun q => q.1) = some 10 then ob (f108 v0 v1 w) (fun p1 => (if p1.1 = 0 then ob (getR p1.2 10 v0 8) (fun x3 => ob (aldR p1.2 x3 v1) (fun x5 => ob (getR p1.2 10 v0 7) (fun x7 => (if (wsh p1.2 x5).map (fun q => q.1) = some 3 then ob (f38 n x5 x7 p1.2) (fun p9 => ob (getR p9 10 v0 8) (fun x11 => ob (aldR p9 x11 v1) (fun x13 => ob (putZ p9 3 x13 5 (1 : Int32)) (fun w15 => some ((1 : Int32), w15))))) else none))))
    else some ((-1000001 : Int32), p1.2))) else none)
set_option maxRecDepth 10000 in
theorem r159 {S : Sc} (n : Nat) (v0 : Nat) (v1 : Int32) (w : Wd) (o : (Int32 × Wd)) (h : f159 n v0 v1 w = some o) : Rn S 159 0 [some (.ref v0), some (.int v1)] [] w (some (.int o.1), o.2) := by
  unfold f159 at h
  refine rn_aload_n (ft159 0 rfl) rfl ?_
  refine rn_iload_n (ft159 1 rfl) rfl ?_
  obtain ⟨g19, h⟩ := ifg h
  obtain ⟨p1, q2, h⟩ := ob_some h
  refine rn_callV (as := [.int v1]) (k0 := v0) (r := []) (v := (some (.int p1.1))) (w1 := p1.2) (ft159 2 rfl) (by decide +kernel) rfl (Nat.le_of_ble_eq_true rfl) (Nat.le_of_ble_eq_true rfl) (r108 v0 v1 w _ q2) (by decide +kernel) g19 ?_
  by_cases c18 : p1.1 = 0
  · replace h := ifp c18 h
    refine rn_if_eq_t (ft159 3 rfl) c18 ?_
    refine rn_aload_n (ft159 6 rfl) rfl ?_
    obtain ⟨x3, q4, h⟩ := ob_some h
    refine rn_getR (ft159 7 rfl) q4 ?_
    refine rn_iload_n (ft159 8 rfl) rfl ?_
    obtain ⟨x5, q6, h⟩ := ob_some h
    refine rn_aaload (ft159 9 rfl) q6 ?_
    refine rn_aload_n (ft159 10 rfl) rfl ?_
    obtain ⟨x7, q8, h⟩ := ob_some h
    refine rn_getR (ft159 11 rfl) q8 ?_
    obtain ⟨g17, h⟩ := ifg h
    obtain ⟨p9, q10, h⟩ := ob_some h
    refine rn_callV (as := [.ref x7]) (k0 := x5) (r := []) (v := none) (w1 := p9) (ft159 12 rfl) (by decide +kernel) rfl (Nat.le_of_ble_eq_true rfl) (Nat.le_of_ble_eq_true rfl) (r38 n x5 x7 p1.2 _ q10) (by decide +kernel) g17 ?_
    refine rn_aload_n (ft159 13 rfl) rfl ?_
    obtain ⟨x11, q12, h⟩ := ob_some h
    refine rn_getR (ft159 14 rfl) q12 ?_
    refine rn_iload_n (ft159 15 rfl) rfl ?_
    obtain ⟨x13, q14, h⟩ := ob_some h
    refine rn_aaload (ft159 16 rfl) q14 ?_
    refine rn_iconst (v := (1 : Int32)) (ft159 17 rfl) (by decide) ?_
    obtain ⟨w15, q16, h⟩ := ob_some h
    refine rn_putZ (ft159 18 rfl) q16 ?_
    refine rn_iconst (v := (1 : Int32)) (ft159 19 rfl) (by decide) ?_
    cases h
    exact rn_iretI pr159 (ft159 20 rfl)
  · replace h := ifn c18 h
    refine rn_if_eq_f (ft159 3 rfl) c18 ?_
    refine rn_ldc (v := (-1000001 : Int32)) (ft159 4 rfl) (by decide) rfl ?_
    cases h
    exact rn_iretI pr159 (ft159 5 rfl)
/-- NineWheel.goBack(I)I -/
theorem ft160 : ∀ (i : Nat) {q : Nat × XI}, cd160[i]? = some q → fetch 160 q.1 = some q.2 := ft_of (by decide +kernel)
theorem pr160 : pRt 160 = some .int := rfl
def f160 (n : Nat) (v0 : Nat) (v1 : Int32) (w : Wd) : Option (Int32 × Wd) :=
  (if (wsh w v0).map (fun q => q.1) = some 10 then ob (f108 v0 v1 w) (fun p1 => (if p1.1 = 0 then ob (getR p1.2 10 v0 8) (fun x3 => ob (aldR p1.2 x3 v1) (fun x5 => ob (getI p1.2 3 x5 5) (fun x7 => (if ¬ x7 = 0 then ob (getR p1.2 10 v0 7) (fun x9 => ob (getR p1.2 10 v0 8) (fun x11 => ob (aldR p1.2 x11 v1) (fun x13 => (if (wsh p1.2 x9).map (fun q => q.1) = some 3 then ob (f38 n x9 x13 p1.2) (fun p15 => ob (getR p15 10 v0 9) (fun x17 => ob (putZ p15 2 x17 2 (0 : Int32)) (fun w19 => some ((1 : Int32), w19)))) else none))))
      else some ((-1000003 : Int32), p1.2)))))
    else some ((-1000001 : Int32), p1.2))) else none)
set_option maxRecDepth 10000 in
theorem r160 {S : Sc} (n : Nat) (v0 : Nat) (v1 : Int32) (w : Wd) (o : (Int32 × Wd)) (h : f160 n v0 v1 w = some o) : Rn S 160 0 [some (.ref v0), some (.int v1)] [] w (some (.int o.1), o.2) := by
  unfold f160 at h
  refine rn_aload_n (ft160 0 rfl) rfl ?_
  refine rn_iload_n (ft160 1 rfl) rfl ?_
  obtain ⟨g24, h⟩ := ifg h
  obtain ⟨p1, q2, h⟩ := ob_some h
  refine rn_callV (as := [.int v1]) (k0 := v0) (r := []) (v := (some (.int p1.1))) (w1 := p1.2) (ft160 2 rfl) (by decide +kernel) rfl (Nat.le_of_ble_eq_true rfl) (Nat.le_of_ble_eq_true rfl) (r108 v0 v1 w _ q2) (by decide +kernel) g24 ?_
  by_cases c23 : p1.1 = 0
  · replace h := ifp c23 h
    refine rn_if_eq_t (ft160 3 rfl) c23 ?_
    refine rn_aload_n (ft160 6 rfl) rfl ?_
    obtain ⟨x3, q4, h⟩ := ob_some h
    refine rn_getR (ft160 7 rfl) q4 ?_
    refine rn_iload_n (ft160 8 rfl) rfl ?_
    obtain ⟨x5, q6, h⟩ := ob_some h
    refine rn_aaload (ft160 9 rfl) q6 ?_
    obtain ⟨x7, q8, h⟩ := ob_some h
    refine rn_getI (ft160 10 rfl) (by decide) (by decide) q8 ?_
    by_cases c22 : ¬ x7 = 0
    · replace h := ifp c22 h
      refine rn_if_ne_t (ft160 11 rfl) c22 ?_
      refine rn_aload_n (ft160 14 rfl) rfl ?_
      obtain ⟨x9, q10, h⟩ := ob_some h
      refine rn_getR (ft160 15 rfl) q10 ?_
      refine rn_aload_n (ft160 16 rfl) rfl ?_
      obtain ⟨x11, q12, h⟩ := ob_some h
      refine rn_getR (ft160 17 rfl) q12 ?_
      refine rn_iload_n (ft160 18 rfl) rfl ?_
      obtain ⟨x13, q14, h⟩ := ob_some h
      refine rn_aaload (ft160 19 rfl) q14 ?_
      obtain ⟨g21, h⟩ := ifg h
      obtain ⟨p15, q16, h⟩ := ob_some h
      refine rn_callV (as := [.ref x13]) (k0 := x9) (r := []) (v := none) (w1 := p15) (ft160 20 rfl) (by decide +kernel) rfl (Nat.le_of_ble_eq_true rfl) (Nat.le_of_ble_eq_true rfl) (r38 n x9 x13 p1.2 _ q16) (by decide +kernel) g21 ?_
      refine rn_aload_n (ft160 21 rfl) rfl ?_
      obtain ⟨x17, q18, h⟩ := ob_some h
      refine rn_getR (ft160 22 rfl) q18 ?_
      refine rn_iconst (v := (0 : Int32)) (ft160 23 rfl) (by decide) ?_
      obtain ⟨w19, q20, h⟩ := ob_some h
      refine rn_putZ (ft160 24 rfl) q20 ?_
      refine rn_iconst (v := (1 : Int32)) (ft160 25 rfl) (by decide) ?_
      cases h
      exact rn_iretI pr160 (ft160 26 rfl)
    · replace h := ifn c22 h
      refine rn_if_ne_f (ft160 11 rfl) c22 ?_
      refine rn_ldc (v := (-1000003 : Int32)) (ft160 12 rfl) (by decide) rfl ?_
      cases h
      exact rn_iretI pr160 (ft160 13 rfl)
  · replace h := ifn c23 h
    refine rn_if_eq_f (ft160 3 rfl) c23 ?_
    refine rn_ldc (v := (-1000001 : Int32)) (ft160 4 rfl) (by decide) rfl ?_
    cases h
    exact rn_iretI pr160 (ft160 5 rfl)
/-- NineWheelModel.takeNumber(II)I -/
theorem ft161 : ∀ (i : Nat) {q : Nat × XI}, cd161[i]? = some q → fetch 161 q.1 = some q.2 := ft_of (by decide +kernel)
theorem pr161 : pRt 161 = some .int := rfl
def f161 (n : Nat) (v0 : Nat) (v1 : Int32) (v2 : Int32) (w : Wd) : Option (Int32 × Wd) :=
  (if (wsh w v0).map (fun q => q.1) = some 11 then ob (f41 n v0 w) (fun p1 => ob (getI p1.2 11 v0 17) (fun x3 => ob (putI p1.2 11 v0 21 x3) (fun w5 => (if ¬ p1.1 = (45 : Int32) then (if (wsh w5 v0).map (fun q => q.1) = some 11 then ob (f113 n v0 v1 v2 (0 : Int32) w5) (fun p7 => some (p7.1, p7.2)) else none)
    else ob (getI w5 11 v0 17) (fun x10 => (if (wsh w5 v0).map (fun q => q.1) = some 11 then ob (f45 v0 (1 : Int32) x10 w5) (fun p12 => some (p12.1, p12.2)) else none)))))) else none)
set_option maxRecDepth 10000 in
theorem r161 {S : Sc} (n : Nat) (v0 : Nat) (v1 : Int32) (v2 : Int32) (w : Wd) (o : (Int32 × Wd)) (h : f161 n v0 v1 v2 w = some o) : Rn S 161 0 [some (.ref v0), some (.int v1), some (.int v2), none] [] w (some (.int o.1), o.2) := by
  unfold f161 at h
  refine rn_aload_n (ft161 0 rfl) rfl ?_
  obtain ⟨g16, h⟩ := ifg h
  obtain ⟨p1, q2, h⟩ := ob_some h
  refine rn_callV (as := []) (k0 := v0) (r := []) (v := (some (.int p1.1))) (w1 := p1.2) (ft161 1 rfl) (by decide +kernel) rfl (Nat.le_of_ble_eq_true rfl) (Nat.le_of_ble_eq_true rfl) (r41 n v0 w _ q2) (by decide +kernel) g16 ?_
  refine rn_istore_n (ls' := [some (.ref v0), some (.int v1), some (.int v2), some (.int p1.1)]) (ft161 2 rfl) rfl ?_
  refine rn_aload_n (ft161 3 rfl) rfl ?_
  refine rn_aload_n (ft161 4 rfl) rfl ?_
  obtain ⟨x3, q4, h⟩ := ob_some h
  refine rn_getI (ft161 5 rfl) (by decide) (by decide) q4 ?_
  obtain ⟨w5, q6, h⟩ := ob_some h
  refine rn_putI (ft161 6 rfl) q6 ?_
  refine rn_iload_n (ft161 7 rfl) rfl ?_
  refine rn_bipush (v := (45 : Int32)) (ft161 8 rfl) (by decide) ?_
  by_cases c15 : ¬ p1.1 = (45 : Int32)
  · replace h := ifp c15 h
    refine rn_icmp_ne_t (ft161 9 rfl) c15 ?_
    refine rn_aload_n (ft161 16 rfl) rfl ?_
    refine rn_iload_n (ft161 17 rfl) rfl ?_
    refine rn_iload_n (ft161 18 rfl) rfl ?_
    refine rn_iconst (v := (0 : Int32)) (ft161 19 rfl) (by decide) ?_
    obtain ⟨g9, h⟩ := ifg h
    obtain ⟨p7, q8, h⟩ := ob_some h
    refine rn_callV (as := [.int v1, .int v2, .int (0 : Int32)]) (k0 := v0) (r := []) (v := (some (.int p7.1))) (w1 := p7.2) (ft161 20 rfl) (by decide +kernel) rfl (Nat.le_of_ble_eq_true rfl) (Nat.le_of_ble_eq_true rfl) (r113 n v0 v1 v2 (0 : Int32) w5 _ q8) (by decide +kernel) g9 ?_
    cases h
    exact rn_iretI pr161 (ft161 21 rfl)
  · replace h := ifn c15 h
    refine rn_icmp_ne_f (ft161 9 rfl) c15 ?_
    refine rn_aload_n (ft161 10 rfl) rfl ?_
    refine rn_iconst (v := (1 : Int32)) (ft161 11 rfl) (by decide) ?_
    refine rn_aload_n (ft161 12 rfl) rfl ?_
    obtain ⟨x10, q11, h⟩ := ob_some h
    refine rn_getI (ft161 13 rfl) (by decide) (by decide) q11 ?_
    obtain ⟨g14, h⟩ := ifg h
    obtain ⟨p12, q13, h⟩ := ob_some h
    refine rn_callV (as := [.int (1 : Int32), .int x10]) (k0 := v0) (r := []) (v := (some (.int p12.1))) (w1 := p12.2) (ft161 14 rfl) (by decide +kernel) rfl (Nat.le_of_ble_eq_true rfl) (Nat.le_of_ble_eq_true rfl) (r45 v0 (1 : Int32) x10 w5 _ q13) (by decide +kernel) g14 ?_
    refine rn_goto (ft161 15 rfl) ?_
    cases h
    exact rn_iretI pr161 (ft161 21 rfl)
/-- NineWheelModel.takeSigned(I)I -/
theorem ft162 : ∀ (i : Nat) {q : Nat × XI}, cd162[i]? = some q → fetch 162 q.1 = some q.2 := ft_of (by decide +kernel)
theorem pr162 : pRt 162 = some .int := rfl
def f162_J37 (n : Nat)  (v0 : Nat) (v1 : Int32) (v2 : Int32) (s0 : Nat) (s1 : Int32) (s2 : Int32) (w : Wd) : Option (Int32 × Wd) :=
  ob (putI w 11 s0 17 (s1 + s2)) (fun w9 => (if (wsh w9 v0).map (fun q => q.1) = some 11 then ob (f113 n v0 (-v1) v1 v2 w9) (fun p11 => some (p11.1, p11.2)) else none))
set_option maxRecDepth 10000 in
theorem rf162_J37 {S : Sc} (n : Nat)  (v0 : Nat) (v1 : Int32) (v2 : Int32) (s0 : Nat) (s1 : Int32) (s2 : Int32) (w : Wd) (o : (Int32 × Wd))  (h : f162_J37 n  v0 v1 v2 s0 s1 s2 w = some o) : Rn S 162 37 [some (.ref v0), some (.int v1), some (.int v2)] [.int s2, .int s1, .ref s0] w (some (.int o.1), o.2) := by
  unfold f162_J37 at h
  refine rn_iadd (ft162 20 rfl) ?_
  obtain ⟨w9, q10, h⟩ := ob_some h
  refine rn_putI (ft162 21 rfl) q10 ?_
  refine rn_aload_n (ft162 22 rfl) rfl ?_
  refine rn_iload_n (ft162 23 rfl) rfl ?_
  refine rn_ineg (ft162 24 rfl) ?_
  refine rn_iload_n (ft162 25 rfl) rfl ?_
  refine rn_iload_n (ft162 26 rfl) rfl ?_
  obtain ⟨g13, h⟩ := ifg h
  obtain ⟨p11, q12, h⟩ := ob_some h
  refine rn_callV (as := [.int (-v1), .int v1, .int v2]) (k0 := v0) (r := []) (v := (some (.int p11.1))) (w1 := p11.2) (ft162 27 rfl) (by decide +kernel) rfl (Nat.le_of_ble_eq_true rfl) (Nat.le_of_ble_eq_true rfl) (r113 n v0 (-v1) v1 v2 w9 _ q12) (by decide +kernel) g13 ?_
  cases h
  exact rn_iretI pr162 (ft162 28 rfl)
def f162_J14 (n : Nat)  (v0 : Nat) (v1 : Int32) (s0 : Int32) (w : Wd) : Option (Int32 × Wd) :=
  ob (getI w 11 v0 17) (fun x3 => ob (putI w 11 v0 21 x3) (fun w5 => ob (getI w5 11 v0 17) (fun x7 => (if s0 = 0 then f162_J37 n  v0 v1 s0 v0 x7 (0 : Int32) w5
    else f162_J37 n  v0 v1 s0 v0 x7 (1 : Int32) w5))))
set_option maxRecDepth 10000 in
theorem rf162_J14 {S : Sc} (n : Nat)  (v0 : Nat) (v1 : Int32) (s0 : Int32) (w : Wd) (o : (Int32 × Wd))  (h : f162_J14 n  v0 v1 s0 w = some o) : Rn S 162 14 [some (.ref v0), some (.int v1), none] [.int s0] w (some (.int o.1), o.2) := by
  unfold f162_J14 at h
  refine rn_istore_n (ls' := [some (.ref v0), some (.int v1), some (.int s0)]) (ft162 7 rfl) rfl ?_
  refine rn_aload_n (ft162 8 rfl) rfl ?_
  refine rn_aload_n (ft162 9 rfl) rfl ?_
  obtain ⟨x3, q4, h⟩ := ob_some h
  refine rn_getI (ft162 10 rfl) (by decide) (by decide) q4 ?_
  obtain ⟨w5, q6, h⟩ := ob_some h
  refine rn_putI (ft162 11 rfl) q6 ?_
  refine rn_aload_n (ft162 12 rfl) rfl ?_
  refine rn_dup (ft162 13 rfl) rfl ?_
  obtain ⟨x7, q8, h⟩ := ob_some h
  refine rn_getI (ft162 14 rfl) (by decide) (by decide) q8 ?_
  refine rn_iload_n (ft162 15 rfl) rfl ?_
  by_cases c14 : s0 = 0
  · replace h := ifp c14 h
    refine rn_if_eq_t (ft162 16 rfl) c14 ?_
    refine rn_iconst (v := (0 : Int32)) (ft162 19 rfl) (by decide) ?_
    exact rn_forget (ls := [some (.ref v0), some (.int v1), some (.int s0)]) (And.intro rfl (And.intro rfl (And.intro rfl trivial))) (rf162_J37 n  v0 v1 s0 v0 x7 (0 : Int32) w5 _  h)
  · replace h := ifn c14 h
    refine rn_if_eq_f (ft162 16 rfl) c14 ?_
    refine rn_iconst (v := (1 : Int32)) (ft162 17 rfl) (by decide) ?_
    refine rn_goto (ft162 18 rfl) ?_
    exact rn_forget (ls := [some (.ref v0), some (.int v1), some (.int s0)]) (And.intro rfl (And.intro rfl (And.intro rfl trivial))) (rf162_J37 n  v0 v1 s0 v0 x7 (1 : Int32) w5 _  h)
def f162 (n : Nat) (v0 : Nat) (v1 : Int32) (w : Wd) : Option (Int32 × Wd) :=
  (if (wsh w v0).map (fun q => q.1) = some 11 then ob (f41 n v0 w) (fun p1 => (if ¬ p1.1 = (45 : Int32) then f162_J14 n  v0 v1 (0 : Int32) p1.2
    else f162_J14 n  v0 v1 (1 : Int32) p1.2)) else none)
set_option maxRecDepth 10000 in
theorem r162 {S : Sc} (n : Nat) (v0 : Nat) (v1 : Int32) (w : Wd) (o : (Int32 × Wd)) (h : f162 n v0 v1 w = some o) : Rn S 162 0 [some (.ref v0), some (.int v1), none] [] w (some (.int o.1), o.2) := by
  unfold f162 at h
  refine rn_aload_n (ft162 0 rfl) rfl ?_
  obtain ⟨g16, h⟩ := ifg h
  obtain ⟨p1, q2, h⟩ := ob_some h
  refine rn_callV (as := []) (k0 := v0) (r := []) (v := (some (.int p1.1))) (w1 := p1.2) (ft162 1 rfl) (by decide +kernel) rfl (Nat.le_of_ble_eq_true rfl) (Nat.le_of_ble_eq_true rfl) (r41 n v0 w _ q2) (by decide +kernel) g16 ?_
  refine rn_bipush (v := (45 : Int32)) (ft162 2 rfl) (by decide) ?_
  by_cases c15 : ¬ p1.1 = (45 : Int32)
  · replace h := ifp c15 h
    refine rn_icmp_ne_t (ft162 3 rfl) c15 ?_
    refine rn_iconst (v := (0 : Int32)) (ft162 6 rfl) (by decide) ?_
    exact rn_forget (ls := [some (.ref v0), some (.int v1), none]) (And.intro rfl (And.intro rfl trivial)) (rf162_J14 n  v0 v1 (0 : Int32) p1.2 _  h)
  · replace h := ifn c15 h
    refine rn_icmp_ne_f (ft162 3 rfl) c15 ?_
    refine rn_iconst (v := (1 : Int32)) (ft162 4 rfl) (by decide) ?_
    refine rn_goto (ft162 5 rfl) ?_
    exact rn_forget (ls := [some (.ref v0), some (.int v1), none]) (And.intro rfl (And.intro rfl trivial)) (rf162_J14 n  v0 v1 (1 : Int32) p1.2 _  h)
