/-! THE METHODS AS FUNCTIONS, 27 -/
/-- NineWheelModel.sea()I -/
theorem ft243 : ∀ (i : Nat) {q : Nat × XI}, cd243[i]? = some q → fetch 243 q.1 = some q.2 := ft_of (by decide +kernel)
theorem pr243 : pRt 243 = some .int := rfl
def f243_H16 (n : Nat)  (K10 : Nat → Int32 → Wd → Option (Int32 × Wd)) : Nat → Nat → Int32 → Wd → Option (Int32 × Wd)
  | 0, _, _, _ => none
  | k + 1, v0, v1, w =>
    (if ¬ v1 = 0 then K10 v0 v1 w
      else (if (wsh w v0).map (fun q => q.1) = some 11 then ob (f42 n v0 w) (fun p7 => (if p7.1 < 0 then K10 v0 v1 p7.2
        else (if (wsh p7.2 v0).map (fun q => q.1) = some 11 then ob (f226 n v0 p7.2) (fun p9 => (fun (v0 : Nat) (v1 : Int32) w => f243_H16 n  K10 k v0 v1 w) v0 p9.1 p9.2) else none))) else none))
set_option maxRecDepth 10000 in
theorem rf243_H16 {S : Sc} (n : Nat)  (K10 : Nat → Int32 → Wd → Option (Int32 × Wd))  (hK10 : ∀ (y0 : Nat) (y1 : Int32) (w : Wd) (o : (Int32 × Wd)), K10 y0 y1 w = some o → Rn S 243 35 [some (.ref y0), some (.int y1)] [] w (some (.int o.1), o.2)) : ∀ (k : Nat) (v0 : Nat) (v1 : Int32) (w : Wd) (o : (Int32 × Wd)), f243_H16 n  K10 k v0 v1 w = some o → Rn S 243 16 [some (.ref v0), some (.int v1)] [] w (some (.int o.1), o.2) := by
  intro k
  induction k with
  | zero =>
    intro v0 v1 w o h
    exact nomatch h
  | succ k ih =>
    intro v0 v1 w o h
    have hrec10 : ∀ (y0 : Nat) (y1 : Int32) (w : Wd) (o : (Int32 × Wd)), (fun (v0 : Nat) (v1 : Int32) w => f243_H16 n  K10 k v0 v1 w) y0 y1 w = some o → Rn S 243 16 [some (.ref y0), some (.int y1)] [] w (some (.int o.1), o.2) := fun y0 y1 w o h => ih y0 y1 w o h
    unfold f243_H16 at h
    refine rn_iload_n (ft243 10 rfl) rfl ?_
    by_cases c14 : ¬ v1 = 0
    · replace h := ifp c14 h
      refine rn_if_ne_t (ft243 11 rfl) c14 ?_
      exact rn_forget (ls := [some (.ref v0), some (.int v1)]) (And.intro rfl (And.intro rfl trivial)) (hK10 v0 v1 w _ h)
    · replace h := ifn c14 h
      refine rn_if_ne_f (ft243 11 rfl) c14 ?_
      refine rn_aload_n (ft243 12 rfl) rfl ?_
      obtain ⟨g13, h⟩ := ifg h
      obtain ⟨p7, q8, h⟩ := ob_some h
      refine rn_callV (as := []) (k0 := v0) (r := []) (v := (some (.int p7.1))) (w1 := p7.2) (ft243 13 rfl) (by decide +kernel) rfl (Nat.le_of_ble_eq_true rfl) (Nat.le_of_ble_eq_true rfl) (r42 n v0 w _ q8) (by decide +kernel) g13 ?_
      by_cases c12 : p7.1 < 0
      · replace h := ifp c12 h
        refine rn_if_lt_t (ft243 14 rfl) c12 ?_
        exact rn_forget (ls := [some (.ref v0), some (.int v1)]) (And.intro rfl (And.intro rfl trivial)) (hK10 v0 v1 p7.2 _ h)
      · replace h := ifn c12 h
        refine rn_if_lt_f (ft243 14 rfl) c12 ?_
        refine rn_aload_n (ft243 15 rfl) rfl ?_
        obtain ⟨g11, h⟩ := ifg h
        obtain ⟨p9, q10, h⟩ := ob_some h
        refine rn_callV (as := []) (k0 := v0) (r := []) (v := (some (.int p9.1))) (w1 := p9.2) (ft243 16 rfl) (by decide +kernel) rfl (Nat.le_of_ble_eq_true rfl) (Nat.le_of_ble_eq_true rfl) (r226 n v0 p7.2 _ q10) (by decide +kernel) g11 ?_
        refine rn_istore_n (ls' := [some (.ref v0), some (.int p9.1)]) (ft243 17 rfl) rfl ?_
        refine rn_goto (ft243 18 rfl) ?_
        exact rn_forget (ls := [some (.ref v0), some (.int p9.1)]) (And.intro rfl (And.intro rfl trivial)) (hrec10 v0 p9.1 p9.2 _ h)
def f243_J64 (n : Nat)  (v0 : Nat) (s0 : Int32) (w : Wd) : Option (Int32 × Wd) :=
  ob (putI w 11 v0 15 (0 : Int32)) (fun w16 => (if s0 ≤ 0 then (if (wsh w16 v0).map (fun q => q.1) = some 11 then ob (f163 n v0 w16) (fun p18 => ob (getI p18 11 v0 6) (fun x20 => some (x20, p18))) else none)
    else some (((-10 : Int32) - s0), w16)))
set_option maxRecDepth 10000 in
theorem rf243_J64 {S : Sc} (n : Nat)  (v0 : Nat) (s0 : Int32) (w : Wd) (o : (Int32 × Wd))  (h : f243_J64 n  v0 s0 w = some o) : Rn S 243 64 [some (.ref v0), none] [.int s0] w (some (.int o.1), o.2) := by
  unfold f243_J64 at h
  refine rn_istore_n (ls' := [some (.ref v0), some (.int s0)]) (ft243 34 rfl) rfl ?_
  refine rn_aload_n (ft243 35 rfl) rfl ?_
  refine rn_iconst (v := (0 : Int32)) (ft243 36 rfl) (by decide) ?_
  obtain ⟨w16, q17, h⟩ := ob_some h
  refine rn_putI (ft243 37 rfl) q17 ?_
  refine rn_iload_n (ft243 38 rfl) rfl ?_
  by_cases c23 : s0 ≤ 0
  · replace h := ifp c23 h
    refine rn_if_le_t (ft243 39 rfl) c23 ?_
    refine rn_aload_n (ft243 44 rfl) rfl ?_
    obtain ⟨g22, h⟩ := ifg h
    obtain ⟨p18, q19, h⟩ := ob_some h
    refine rn_callV (as := []) (k0 := v0) (r := []) (v := none) (w1 := p18) (ft243 45 rfl) (by decide +kernel) rfl (Nat.le_of_ble_eq_true rfl) (Nat.le_of_ble_eq_true rfl) (r163 n v0 w16 _ q19) (by decide +kernel) g22 ?_
    refine rn_aload_n (ft243 46 rfl) rfl ?_
    obtain ⟨x20, q21, h⟩ := ob_some h
    refine rn_getI (ft243 47 rfl) (by decide) (by decide) q21 ?_
    cases h
    exact rn_iretI pr243 (ft243 48 rfl)
  · replace h := ifn c23 h
    refine rn_if_le_f (ft243 39 rfl) c23 ?_
    refine rn_bipush (v := (-10 : Int32)) (ft243 40 rfl) (by decide) ?_
    refine rn_iload_n (ft243 41 rfl) rfl ?_
    refine rn_isub (ft243 42 rfl) ?_
    obtain rfl := Option.some.inj h
    exact rn_iretI pr243 (ft243 43 rfl)
def f243_J35 (n : Nat)  (v0 : Nat) (v1 : Int32) (w : Wd) : Option (Int32 × Wd) :=
  (if ¬ v1 = 0 then f243_J64 n  v0 v1 w
    else ob (getR w 11 v0 24) (fun x24 => ob (getI w 11 v0 22) (fun x26 => ob (aldB w x24 x26) (fun x28 => (if x28 = 0 then f243_J64 n  v0 v1 w
      else ob (getI w 11 v0 15) (fun x30 => (if (wsh w v0).map (fun q => q.1) = some 11 then ob (f46 v0 (5 : Int32) x30 w) (fun p32 => f243_J64 n  v0 p32.1 p32.2) else none)))))))
set_option maxRecDepth 10000 in
theorem rf243_J35 {S : Sc} (n : Nat)  (v0 : Nat) (v1 : Int32) (w : Wd) (o : (Int32 × Wd))  (h : f243_J35 n  v0 v1 w = some o) : Rn S 243 35 [some (.ref v0), some (.int v1)] [] w (some (.int o.1), o.2) := by
  unfold f243_J35 at h
  refine rn_iload_n (ft243 19 rfl) rfl ?_
  by_cases c36 : ¬ v1 = 0
  · replace h := ifp c36 h
    refine rn_if_ne_t (ft243 20 rfl) c36 ?_
    refine rn_iload_n (ft243 33 rfl) rfl ?_
    exact rn_forget (ls := [some (.ref v0), none]) (And.intro rfl trivial) (rf243_J64 n  v0 v1 w _  h)
  · replace h := ifn c36 h
    refine rn_if_ne_f (ft243 20 rfl) c36 ?_
    refine rn_aload_n (ft243 21 rfl) rfl ?_
    obtain ⟨x24, q25, h⟩ := ob_some h
    refine rn_getR (ft243 22 rfl) q25 ?_
    refine rn_aload_n (ft243 23 rfl) rfl ?_
    obtain ⟨x26, q27, h⟩ := ob_some h
    refine rn_getI (ft243 24 rfl) (by decide) (by decide) q27 ?_
    obtain ⟨x28, q29, h⟩ := ob_some h
    refine rn_baload (ft243 25 rfl) q29 ?_
    by_cases c35 : x28 = 0
    · replace h := ifp c35 h
      refine rn_if_eq_t (ft243 26 rfl) c35 ?_
      refine rn_iload_n (ft243 33 rfl) rfl ?_
      exact rn_forget (ls := [some (.ref v0), none]) (And.intro rfl trivial) (rf243_J64 n  v0 v1 w _  h)
    · replace h := ifn c35 h
      refine rn_if_eq_f (ft243 26 rfl) c35 ?_
      refine rn_aload_n (ft243 27 rfl) rfl ?_
      refine rn_iconst (v := (5 : Int32)) (ft243 28 rfl) (by decide) ?_
      refine rn_aload_n (ft243 29 rfl) rfl ?_
      obtain ⟨x30, q31, h⟩ := ob_some h
      refine rn_getI (ft243 30 rfl) (by decide) (by decide) q31 ?_
      obtain ⟨g34, h⟩ := ifg h
      obtain ⟨p32, q33, h⟩ := ob_some h
      refine rn_callV (as := [.int (5 : Int32), .int x30]) (k0 := v0) (r := []) (v := (some (.int p32.1))) (w1 := p32.2) (ft243 31 rfl) (by decide +kernel) rfl (Nat.le_of_ble_eq_true rfl) (Nat.le_of_ble_eq_true rfl) (r46 v0 (5 : Int32) x30 w _ q33) (by decide +kernel) g34 ?_
      refine rn_goto (ft243 32 rfl) ?_
      exact rn_forget (ls := [some (.ref v0), none]) (And.intro rfl trivial) (rf243_J64 n  v0 p32.1 p32.2 _  h)
def f243 (n : Nat) (v0 : Nat) (w : Wd) : Option (Int32 × Wd) :=
  ob (putI w 11 v0 16 (-1 : Int32)) (fun w1 => ob (putI w1 11 v0 17 (0 : Int32)) (fun w3 => (if (wsh w3 v0).map (fun q => q.1) = some 11 then ob (f41 n v0 w3) (fun p5 => f243_H16 n  (fun (e0_15 : Nat) (e1_15 : Int32) (w15 : Wd) => f243_J35 n  e0_15 e1_15 w15) n v0 (0 : Int32) p5) else none)))
set_option maxRecDepth 10000 in
theorem r243 {S : Sc} (n : Nat) (v0 : Nat) (w : Wd) (o : (Int32 × Wd)) (h : f243 n v0 w = some o) : Rn S 243 0 [some (.ref v0), none] [] w (some (.int o.1), o.2) := by
  unfold f243 at h
  refine rn_aload_n (ft243 0 rfl) rfl ?_
  refine rn_iconst (v := (-1 : Int32)) (ft243 1 rfl) (by decide) ?_
  obtain ⟨w1, q2, h⟩ := ob_some h
  refine rn_putI (ft243 2 rfl) q2 ?_
  refine rn_aload_n (ft243 3 rfl) rfl ?_
  refine rn_iconst (v := (0 : Int32)) (ft243 4 rfl) (by decide) ?_
  obtain ⟨w3, q4, h⟩ := ob_some h
  refine rn_putI (ft243 5 rfl) q4 ?_
  refine rn_aload_n (ft243 6 rfl) rfl ?_
  obtain ⟨g37, h⟩ := ifg h
  obtain ⟨p5, q6, h⟩ := ob_some h
  refine rn_callV (as := []) (k0 := v0) (r := []) (v := none) (w1 := p5) (ft243 7 rfl) (by decide +kernel) rfl (Nat.le_of_ble_eq_true rfl) (Nat.le_of_ble_eq_true rfl) (r41 n v0 w3 _ q6) (by decide +kernel) g37 ?_
  refine rn_iconst (v := (0 : Int32)) (ft243 8 rfl) (by decide) ?_
  refine rn_istore_n (ls' := [some (.ref v0), some (.int (0 : Int32))]) (ft243 9 rfl) rfl ?_
  refine rn_forget (ls := [some (.ref v0), some (.int (0 : Int32))]) (And.intro rfl (And.intro rfl trivial)) (rf243_H16 n  _  (fun e0_15 e1_15 w15 o h => ?_) n v0 (0 : Int32) p5 _ h)
  exact rn_forget (ls := [some (.ref e0_15), some (.int e1_15)]) (And.intro rfl (And.intro rfl trivial)) (rf243_J35 n  e0_15 e1_15 w15 _  h)
/-- NineWheelModel.runRule(I)V -/
theorem ft244 : ∀ (i : Nat) {q : Nat × XI}, cd244[i]? = some q → fetch 244 q.1 = some q.2 := ft_of (by decide +kernel)
theorem pr244 : pRt 244 = none := rfl
def f244 (n : Nat) (v0 : Nat) (v1 : Int32) (w : Wd) : Option Wd :=
  (if (wsh w v0).map (fun q => q.1) = some 11 then ob (f54 v0 v1 w) (fun p1 => ob (getI p1 11 v0 0) (fun x3 => ob (getI p1 11 v0 1) (fun x5 => ob (getI p1 11 v0 5) (fun x7 => (if (wsh p1 v0).map (fun q => q.1) = some 11 then ob (f228 n v0 x3 x5 (400 : Int32) x7 p1) (fun p9 => some p9) else none))))) else none)
set_option maxRecDepth 10000 in
theorem r244 {S : Sc} (n : Nat) (v0 : Nat) (v1 : Int32) (w : Wd) (o : Wd) (h : f244 n v0 v1 w = some o) : Rn S 244 0 [some (.ref v0), some (.int v1)] [] w (none, o) := by
  unfold f244 at h
  refine rn_aload_n (ft244 0 rfl) rfl ?_
  refine rn_iload_n (ft244 1 rfl) rfl ?_
  obtain ⟨g12, h⟩ := ifg h
  obtain ⟨p1, q2, h⟩ := ob_some h
  refine rn_callV (as := [.int v1]) (k0 := v0) (r := []) (v := none) (w1 := p1) (ft244 2 rfl) (by decide +kernel) rfl (Nat.le_of_ble_eq_true rfl) (Nat.le_of_ble_eq_true rfl) (r54 v0 v1 w _ q2) (by decide +kernel) g12 ?_
  refine rn_aload_n (ft244 3 rfl) rfl ?_
  refine rn_aload_n (ft244 4 rfl) rfl ?_
  obtain ⟨x3, q4, h⟩ := ob_some h
  refine rn_getI (ft244 5 rfl) (by decide) (by decide) q4 ?_
  refine rn_aload_n (ft244 6 rfl) rfl ?_
  obtain ⟨x5, q6, h⟩ := ob_some h
  refine rn_getI (ft244 7 rfl) (by decide) (by decide) q6 ?_
  refine rn_sipush (v := (400 : Int32)) (ft244 8 rfl) (by decide) ?_
  refine rn_aload_n (ft244 9 rfl) rfl ?_
  obtain ⟨x7, q8, h⟩ := ob_some h
  refine rn_getI (ft244 10 rfl) (by decide) (by decide) q8 ?_
  obtain ⟨g11, h⟩ := ifg h
  obtain ⟨p9, q10, h⟩ := ob_some h
  refine rn_callV (as := [.int x3, .int x5, .int (400 : Int32), .int x7]) (k0 := v0) (r := []) (v := none) (w1 := p9) (ft244 11 rfl) (by decide +kernel) rfl (Nat.le_of_ble_eq_true rfl) (Nat.le_of_ble_eq_true rfl) (r228 n v0 x3 x5 (400 : Int32) x7 p1 _ q10) (by decide +kernel) g11 ?_
  cases h
  exact rn_vret pr244 (ft244 12 rfl)
/-- NineWheelModel.valueOf(III)I -/
theorem ft245 : ∀ (i : Nat) {q : Nat × XI}, cd245[i]? = some q → fetch 245 q.1 = some q.2 := ft_of (by decide +kernel)
theorem pr245 : pRt 245 = some .int := rfl
def f245_J75 (n : Nat) (rec12 : Nat → Int32 → Int32 → Int32 → Int32 → Wd → Option (Int32 × Wd)) (K12 : Int32 → Wd → Option (Int32 × Wd)) (v0 : Nat) (v1 : Int32) (v2 : Int32) (v5 : Int32) (s0 : Int32) (s1 : Int32) (w : Wd) : Option (Int32 × Wd) :=
  rec12 v0 v1 v2 (s0 + s1) (v5 + (1 : Int32)) w
set_option maxRecDepth 10000 in
theorem rf245_J75 {S : Sc} (n : Nat) (rec12 : Nat → Int32 → Int32 → Int32 → Int32 → Wd → Option (Int32 × Wd)) (K12 : Int32 → Wd → Option (Int32 × Wd)) (v0 : Nat) (v1 : Int32) (v2 : Int32) (v5 : Int32) (s0 : Int32) (s1 : Int32) (w : Wd) (o : (Int32 × Wd)) (hrec12 : ∀ (y0 : Nat) (y1 : Int32) (y2 : Int32) (y4 : Int32) (y5 : Int32) (w : Wd) (o : (Int32 × Wd)), rec12 y0 y1 y2 y4 y5 w = some o → Rn S 245 20 [some (.ref y0), some (.int y1), some (.int y2), none, some (.int y4), some (.int y5)] [] w (some (.int o.1), o.2)) (hK12 : ∀ (y4 : Int32) (w : Wd) (o : (Int32 × Wd)), K12 y4 w = some o → Rn S 245 84 [none, none, none, none, some (.int y4), none] [] w (some (.int o.1), o.2)) (h : f245_J75 n rec12 K12 v0 v1 v2 v5 s0 s1 w = some o) : Rn S 245 75 [some (.ref v0), some (.int v1), some (.int v2), none, none, some (.int v5)] [.int s1, .int s0] w (some (.int o.1), o.2) := by
  unfold f245_J75 at h
  refine rn_iadd (ft245 41 rfl) ?_
  refine rn_istore (ls' := [some (.ref v0), some (.int v1), some (.int v2), none, some (.int (s0 + s1)), some (.int v5)]) (ft245 42 rfl) rfl ?_
  refine rn_iinc (u := 1) (ls' := [some (.ref v0), some (.int v1), some (.int v2), none, some (.int (s0 + s1)), some (.int (v5 + (1 : Int32)))]) (ft245 43 rfl) rfl (by decide) rfl ?_
  refine rn_goto (ft245 44 rfl) ?_
  exact rn_forget (ls := [some (.ref v0), some (.int v1), some (.int v2), none, some (.int (s0 + s1)), some (.int (v5 + (1 : Int32)))]) (And.intro rfl (And.intro rfl (And.intro rfl (And.intro rfl (And.intro rfl trivial))))) (hrec12 v0 v1 v2 (s0 + s1) (v5 + (1 : Int32)) w _ h)
def f245_J52 (n : Nat) (rec12 : Nat → Int32 → Int32 → Int32 → Int32 → Wd → Option (Int32 × Wd)) (K12 : Int32 → Wd → Option (Int32 × Wd)) (v0 : Nat) (v1 : Int32) (v2 : Int32) (v5 : Int32) (s0 : Int32) (w : Wd) : Option (Int32 × Wd) :=
  (if (wsh w v0).map (fun q => q.1) = some 11 then ob (f132 n v0 v1 w) (fun p9 => f245_J75 n rec12 K12 v0 v1 v2 v5 s0 ((-99 : Int32) * p9.1) p9.2) else none)
set_option maxRecDepth 10000 in
theorem rf245_J52 {S : Sc} (n : Nat) (rec12 : Nat → Int32 → Int32 → Int32 → Int32 → Wd → Option (Int32 × Wd)) (K12 : Int32 → Wd → Option (Int32 × Wd)) (v0 : Nat) (v1 : Int32) (v2 : Int32) (v5 : Int32) (s0 : Int32) (w : Wd) (o : (Int32 × Wd)) (hrec12 : ∀ (y0 : Nat) (y1 : Int32) (y2 : Int32) (y4 : Int32) (y5 : Int32) (w : Wd) (o : (Int32 × Wd)), rec12 y0 y1 y2 y4 y5 w = some o → Rn S 245 20 [some (.ref y0), some (.int y1), some (.int y2), none, some (.int y4), some (.int y5)] [] w (some (.int o.1), o.2)) (hK12 : ∀ (y4 : Int32) (w : Wd) (o : (Int32 × Wd)), K12 y4 w = some o → Rn S 245 84 [none, none, none, none, some (.int y4), none] [] w (some (.int o.1), o.2)) (h : f245_J52 n rec12 K12 v0 v1 v2 v5 s0 w = some o) : Rn S 245 52 [some (.ref v0), some (.int v1), some (.int v2), none, none, some (.int v5)] [.int s0] w (some (.int o.1), o.2) := by
  unfold f245_J52 at h
  refine rn_bipush (v := (-99 : Int32)) (ft245 28 rfl) (by decide) ?_
  refine rn_aload_n (ft245 29 rfl) rfl ?_
  refine rn_iload_n (ft245 30 rfl) rfl ?_
  obtain ⟨g11, h⟩ := ifg h
  obtain ⟨p9, q10, h⟩ := ob_some h
  refine rn_callV (as := [.int v1]) (k0 := v0) (r := [.int (-99 : Int32), .int s0]) (v := (some (.int p9.1))) (w1 := p9.2) (ft245 31 rfl) (by decide +kernel) rfl (Nat.le_of_ble_eq_true rfl) (Nat.le_of_ble_eq_true rfl) (r132 n v0 v1 w _ q10) (by decide +kernel) g11 ?_
  refine rn_imul (ft245 32 rfl) ?_
  refine rn_goto (ft245 33 rfl) ?_
  exact rn_forget (ls := [some (.ref v0), some (.int v1), some (.int v2), none, none, some (.int v5)]) (And.intro rfl (And.intro rfl (And.intro rfl (And.intro rfl trivial)))) (rf245_J75 n rec12 K12 v0 v1 v2 v5 s0 ((-99 : Int32) * p9.1) p9.2 _ hrec12 hK12 h)
def f245_H20 (n : Nat)  (K12 : Int32 → Wd → Option (Int32 × Wd)) : Nat → Nat → Int32 → Int32 → Int32 → Int32 → Wd → Option (Int32 × Wd)
  | 0, _, _, _, _, _, _ => none
  | k + 1, v0, v1, v2, v4, v5, w =>
    (if v2 < v5 then K12 v4 w
      else ob (getI w 11 v0 53) (fun x7 => (if x7 < v5 then f245_J52 n (fun (v0 : Nat) (v1 : Int32) (v2 : Int32) (v4 : Int32) (v5 : Int32) w => f245_H20 n  K12 k v0 v1 v2 v4 v5 w) K12 v0 v1 v2 v5 v4 w
        else ob (getR w 11 v0 2) (fun x12 => ob (getR w 11 v0 48) (fun x14 => ob (aldI w x14 v5) (fun x16 => ob (aldB w x12 x16) (fun x18 => (if x18 = 0 then ob (getR w 11 v0 48) (fun x20 => ob (aldI w x20 v5) (fun x22 => (if (wsh w v0).map (fun q => q.1) = some 11 then ob (f120 n v0 x22 v1 w) (fun p24 => f245_J75 n (fun (v0 : Nat) (v1 : Int32) (v2 : Int32) (v4 : Int32) (v5 : Int32) w => f245_H20 n  K12 k v0 v1 v2 v4 v5 w) K12 v0 v1 v2 v5 v4 p24.1 p24.2) else none)))
          else f245_J52 n (fun (v0 : Nat) (v1 : Int32) (v2 : Int32) (v4 : Int32) (v5 : Int32) w => f245_H20 n  K12 k v0 v1 v2 v4 v5 w) K12 v0 v1 v2 v5 v4 w))))))))
set_option maxRecDepth 10000 in
theorem rf245_H20 {S : Sc} (n : Nat)  (K12 : Int32 → Wd → Option (Int32 × Wd))  (hK12 : ∀ (y4 : Int32) (w : Wd) (o : (Int32 × Wd)), K12 y4 w = some o → Rn S 245 84 [none, none, none, none, some (.int y4), none] [] w (some (.int o.1), o.2)) : ∀ (k : Nat) (v0 : Nat) (v1 : Int32) (v2 : Int32) (v4 : Int32) (v5 : Int32) (w : Wd) (o : (Int32 × Wd)), f245_H20 n  K12 k v0 v1 v2 v4 v5 w = some o → Rn S 245 20 [some (.ref v0), some (.int v1), some (.int v2), none, some (.int v4), some (.int v5)] [] w (some (.int o.1), o.2) := by
  intro k
  induction k with
  | zero =>
    intro v0 v1 v2 v4 v5 w o h
    exact nomatch h
  | succ k ih =>
    intro v0 v1 v2 v4 v5 w o h
    have hrec12 : ∀ (y0 : Nat) (y1 : Int32) (y2 : Int32) (y4 : Int32) (y5 : Int32) (w : Wd) (o : (Int32 × Wd)), (fun (v0 : Nat) (v1 : Int32) (v2 : Int32) (v4 : Int32) (v5 : Int32) w => f245_H20 n  K12 k v0 v1 v2 v4 v5 w) y0 y1 y2 y4 y5 w = some o → Rn S 245 20 [some (.ref y0), some (.int y1), some (.int y2), none, some (.int y4), some (.int y5)] [] w (some (.int o.1), o.2) := fun y0 y1 y2 y4 y5 w o h => ih y0 y1 y2 y4 y5 w o h
    unfold f245_H20 at h
    refine rn_iload (ft245 12 rfl) rfl ?_
    refine rn_iload_n (ft245 13 rfl) rfl ?_
    by_cases c29 : v2 < v5
    · replace h := ifp c29 h
      refine rn_icmp_gt_t (ft245 14 rfl) c29 ?_
      exact rn_forget (ls := [none, none, none, none, some (.int v4), none]) (And.intro rfl trivial) (hK12 v4 w _ h)
    · replace h := ifn c29 h
      refine rn_icmp_gt_f (ft245 14 rfl) c29 ?_
      refine rn_iload (ft245 15 rfl) rfl ?_
      refine rn_iload (ft245 16 rfl) rfl ?_
      refine rn_aload_n (ft245 17 rfl) rfl ?_
      obtain ⟨x7, q8, h⟩ := ob_some h
      refine rn_getI (ft245 18 rfl) (by decide) (by decide) q8 ?_
      by_cases c28 : x7 < v5
      · replace h := ifp c28 h
        refine rn_icmp_gt_t (ft245 19 rfl) c28 ?_
        exact rn_forget (ls := [some (.ref v0), some (.int v1), some (.int v2), none, none, some (.int v5)]) (And.intro rfl (And.intro rfl (And.intro rfl (And.intro rfl trivial)))) (rf245_J52 n (fun (v0 : Nat) (v1 : Int32) (v2 : Int32) (v4 : Int32) (v5 : Int32) w => f245_H20 n  K12 k v0 v1 v2 v4 v5 w) K12 v0 v1 v2 v5 v4 w _ hrec12 hK12 h)
      · replace h := ifn c28 h
        refine rn_icmp_gt_f (ft245 19 rfl) c28 ?_
        refine rn_aload_n (ft245 20 rfl) rfl ?_
        obtain ⟨x12, q13, h⟩ := ob_some h
        refine rn_getR (ft245 21 rfl) q13 ?_
        refine rn_aload_n (ft245 22 rfl) rfl ?_
        obtain ⟨x14, q15, h⟩ := ob_some h
        refine rn_getR (ft245 23 rfl) q15 ?_
        refine rn_iload (ft245 24 rfl) rfl ?_
        obtain ⟨x16, q17, h⟩ := ob_some h
        refine rn_iaload (ft245 25 rfl) q17 ?_
        obtain ⟨x18, q19, h⟩ := ob_some h
        refine rn_baload (ft245 26 rfl) q19 ?_
        by_cases c27 : x18 = 0
        · replace h := ifp c27 h
          refine rn_if_eq_t (ft245 27 rfl) c27 ?_
          refine rn_aload_n (ft245 34 rfl) rfl ?_
          refine rn_aload_n (ft245 35 rfl) rfl ?_
          obtain ⟨x20, q21, h⟩ := ob_some h
          refine rn_getR (ft245 36 rfl) q21 ?_
          refine rn_iload (ft245 37 rfl) rfl ?_
          obtain ⟨x22, q23, h⟩ := ob_some h
          refine rn_iaload (ft245 38 rfl) q23 ?_
          refine rn_iload_n (ft245 39 rfl) rfl ?_
          obtain ⟨g26, h⟩ := ifg h
          obtain ⟨p24, q25, h⟩ := ob_some h
          refine rn_callV (as := [.int x22, .int v1]) (k0 := v0) (r := [.int v4]) (v := (some (.int p24.1))) (w1 := p24.2) (ft245 40 rfl) (by decide +kernel) rfl (Nat.le_of_ble_eq_true rfl) (Nat.le_of_ble_eq_true rfl) (r120 n v0 x22 v1 w _ q25) (by decide +kernel) g26 ?_
          exact rn_forget (ls := [some (.ref v0), some (.int v1), some (.int v2), none, none, some (.int v5)]) (And.intro rfl (And.intro rfl (And.intro rfl (And.intro rfl trivial)))) (rf245_J75 n (fun (v0 : Nat) (v1 : Int32) (v2 : Int32) (v4 : Int32) (v5 : Int32) w => f245_H20 n  K12 k v0 v1 v2 v4 v5 w) K12 v0 v1 v2 v5 v4 p24.1 p24.2 _ hrec12 hK12 h)
        · replace h := ifn c27 h
          refine rn_if_eq_f (ft245 27 rfl) c27 ?_
          exact rn_forget (ls := [some (.ref v0), some (.int v1), some (.int v2), none, none, some (.int v5)]) (And.intro rfl (And.intro rfl (And.intro rfl (And.intro rfl trivial)))) (rf245_J52 n (fun (v0 : Nat) (v1 : Int32) (v2 : Int32) (v4 : Int32) (v5 : Int32) w => f245_H20 n  K12 k v0 v1 v2 v4 v5 w) K12 v0 v1 v2 v5 v4 w _ hrec12 hK12 h)
def f245 (n : Nat) (v0 : Nat) (v1 : Int32) (v2 : Int32) (v3 : Int32) (w : Wd) : Option (Int32 × Wd) :=
  ob (getI w 11 v0 0) (fun x1 => ob (getI w 11 v0 1) (fun x3 => (if (wsh w v0).map (fun q => q.1) = some 11 then ob (f228 n v0 x1 x3 v2 v3 w) (fun p5 => f245_H20 n  (fun (e4_30 : Int32) (w30 : Wd) => some (e4_30, w30)) n v0 v1 v2 (0 : Int32) (1 : Int32) p5) else none)))
set_option maxRecDepth 10000 in
theorem r245 {S : Sc} (n : Nat) (v0 : Nat) (v1 : Int32) (v2 : Int32) (v3 : Int32) (w : Wd) (o : (Int32 × Wd)) (h : f245 n v0 v1 v2 v3 w = some o) : Rn S 245 0 [some (.ref v0), some (.int v1), some (.int v2), some (.int v3), none, none] [] w (some (.int o.1), o.2) := by
  unfold f245 at h
  refine rn_aload_n (ft245 0 rfl) rfl ?_
  refine rn_aload_n (ft245 1 rfl) rfl ?_
  obtain ⟨x1, q2, h⟩ := ob_some h
  refine rn_getI (ft245 2 rfl) (by decide) (by decide) q2 ?_
  refine rn_aload_n (ft245 3 rfl) rfl ?_
  obtain ⟨x3, q4, h⟩ := ob_some h
  refine rn_getI (ft245 4 rfl) (by decide) (by decide) q4 ?_
  refine rn_iload_n (ft245 5 rfl) rfl ?_
  refine rn_iload_n (ft245 6 rfl) rfl ?_
  obtain ⟨g31, h⟩ := ifg h
  obtain ⟨p5, q6, h⟩ := ob_some h
  refine rn_callV (as := [.int x1, .int x3, .int v2, .int v3]) (k0 := v0) (r := []) (v := none) (w1 := p5) (ft245 7 rfl) (by decide +kernel) rfl (Nat.le_of_ble_eq_true rfl) (Nat.le_of_ble_eq_true rfl) (r228 n v0 x1 x3 v2 v3 w _ q6) (by decide +kernel) g31 ?_
  refine rn_iconst (v := (0 : Int32)) (ft245 8 rfl) (by decide) ?_
  refine rn_istore (ls' := [some (.ref v0), some (.int v1), some (.int v2), some (.int v3), some (.int (0 : Int32)), none]) (ft245 9 rfl) rfl ?_
  refine rn_iconst (v := (1 : Int32)) (ft245 10 rfl) (by decide) ?_
  refine rn_istore (ls' := [some (.ref v0), some (.int v1), some (.int v2), some (.int v3), some (.int (0 : Int32)), some (.int (1 : Int32))]) (ft245 11 rfl) rfl ?_
  refine rn_forget (ls := [some (.ref v0), some (.int v1), some (.int v2), none, some (.int (0 : Int32)), some (.int (1 : Int32))]) (And.intro rfl (And.intro rfl (And.intro rfl (And.intro rfl (And.intro rfl trivial))))) (rf245_H20 n  _  (fun e4_30 w30 o h => ?_) n v0 v1 v2 (0 : Int32) (1 : Int32) p5 _ h)
  refine rn_iload (ft245 45 rfl) rfl ?_
  cases h
  exact rn_iretI pr245 (ft245 46 rfl)
/-- NineWheelModel.sides(III)I -/
theorem ft246 : ∀ (i : Nat) {q : Nat × XI}, cd246[i]? = some q → fetch 246 q.1 = some q.2 := ft_of (by decide +kernel)
theorem pr246 : pRt 246 = some .int := rfl
def f246_J139 (n : Nat) (rec24 : Nat → Int32 → Int32 → Int32 → Int32 → Wd → Option (Int32 × Wd)) (K24 : Int32 → Wd → Option (Int32 × Wd)) (v0 : Nat) (v2 : Int32) (v3 : Int32) (v4 : Int32) (v5 : Int32) (s0 : Int32) (w : Wd) : Option (Int32 × Wd) :=
  (if s0 = 0 then rec24 v0 v2 v3 (v4 + (0 : Int32)) (v5 + (1 : Int32)) w
    else rec24 v0 v2 v3 (v4 + (1 : Int32)) (v5 + (1 : Int32)) w)
set_option maxRecDepth 10000 in
theorem rf246_J139 {S : Sc} (n : Nat) (rec24 : Nat → Int32 → Int32 → Int32 → Int32 → Wd → Option (Int32 × Wd)) (K24 : Int32 → Wd → Option (Int32 × Wd)) (v0 : Nat) (v2 : Int32) (v3 : Int32) (v4 : Int32) (v5 : Int32) (s0 : Int32) (w : Wd) (o : (Int32 × Wd)) (hrec24 : ∀ (y0 : Nat) (y2 : Int32) (y3 : Int32) (y4 : Int32) (y5 : Int32) (w : Wd) (o : (Int32 × Wd)), rec24 y0 y2 y3 y4 y5 w = some o → Rn S 246 45 [some (.ref y0), none, some (.int y2), some (.int y3), some (.int y4), some (.int y5), none] [] w (some (.int o.1), o.2)) (hK24 : ∀ (y4 : Int32) (w : Wd) (o : (Int32 × Wd)), K24 y4 w = some o → Rn S 246 162 [none, none, none, none, some (.int y4), none, none] [] w (some (.int o.1), o.2)) (h : f246_J139 n rec24 K24 v0 v2 v3 v4 v5 s0 w = some o) : Rn S 246 139 [some (.ref v0), none, some (.int v2), some (.int v3), some (.int v4), some (.int v5), none] [.int s0] w (some (.int o.1), o.2) := by
  unfold f246_J139 at h
  refine rn_istore (ls' := [some (.ref v0), none, some (.int v2), some (.int v3), some (.int v4), some (.int v5), some (.int s0)]) (ft246 71 rfl) rfl ?_
  refine rn_iload (ft246 72 rfl) rfl ?_
  refine rn_iload (ft246 73 rfl) rfl ?_
  by_cases c19 : s0 = 0
  · replace h := ifp c19 h
    refine rn_if_eq_t (ft246 74 rfl) c19 ?_
    refine rn_iconst (v := (0 : Int32)) (ft246 77 rfl) (by decide) ?_
    refine rn_iadd (ft246 78 rfl) ?_
    refine rn_istore (ls' := [some (.ref v0), none, some (.int v2), some (.int v3), some (.int (v4 + (0 : Int32))), some (.int v5), some (.int s0)]) (ft246 79 rfl) rfl ?_
    refine rn_iinc (u := 1) (ls' := [some (.ref v0), none, some (.int v2), some (.int v3), some (.int (v4 + (0 : Int32))), some (.int (v5 + (1 : Int32))), some (.int s0)]) (ft246 80 rfl) rfl (by decide) rfl ?_
    refine rn_goto (ft246 81 rfl) ?_
    exact rn_forget (ls := [some (.ref v0), none, some (.int v2), some (.int v3), some (.int (v4 + (0 : Int32))), some (.int (v5 + (1 : Int32))), none]) (And.intro rfl (And.intro rfl (And.intro rfl (And.intro rfl (And.intro rfl trivial))))) (hrec24 v0 v2 v3 (v4 + (0 : Int32)) (v5 + (1 : Int32)) w _ h)
  · replace h := ifn c19 h
    refine rn_if_eq_f (ft246 74 rfl) c19 ?_
    refine rn_iconst (v := (1 : Int32)) (ft246 75 rfl) (by decide) ?_
    refine rn_goto (ft246 76 rfl) ?_
    refine rn_iadd (ft246 78 rfl) ?_
    refine rn_istore (ls' := [some (.ref v0), none, some (.int v2), some (.int v3), some (.int (v4 + (1 : Int32))), some (.int v5), some (.int s0)]) (ft246 79 rfl) rfl ?_
    refine rn_iinc (u := 1) (ls' := [some (.ref v0), none, some (.int v2), some (.int v3), some (.int (v4 + (1 : Int32))), some (.int (v5 + (1 : Int32))), some (.int s0)]) (ft246 80 rfl) rfl (by decide) rfl ?_
    refine rn_goto (ft246 81 rfl) ?_
    exact rn_forget (ls := [some (.ref v0), none, some (.int v2), some (.int v3), some (.int (v4 + (1 : Int32))), some (.int (v5 + (1 : Int32))), none]) (And.intro rfl (And.intro rfl (And.intro rfl (And.intro rfl (And.intro rfl trivial))))) (hrec24 v0 v2 v3 (v4 + (1 : Int32)) (v5 + (1 : Int32)) w _ h)
def f246_H45 (n : Nat)  (K24 : Int32 → Wd → Option (Int32 × Wd)) : Nat → Nat → Int32 → Int32 → Int32 → Int32 → Wd → Option (Int32 × Wd)
  | 0, _, _, _, _, _, _ => none
  | k + 1, v0, v2, v3, v4, v5, w =>
    (if (512 : Int32) ≤ v5 then K24 v4 w
      else ob (getR w 11 v0 2) (fun x9 => ob (aldB w x9 (v5 / (8 : Int32))) (fun x11 => (if ¬ x11 = 0 then (fun (v0 : Nat) (v2 : Int32) (v3 : Int32) (v4 : Int32) (v5 : Int32) w => f246_H45 n  K24 k v0 v2 v3 v4 v5 w) v0 v2 v3 v4 (v5 + (1 : Int32)) w
        else ob (getI w 11 v0 5) (fun x13 => (if (wsh w v0).map (fun q => q.1) = some 11 then ob (f228 n v0 (v5 / (8 : Int32)) (irm v5 (8 : Int32)) (400 : Int32) x13 w) (fun p15 => (if ¬ v3 = 0 then (if ¬ v3 = (1 : Int32) then (if (wsh p15 v0).map (fun q => q.1) = some 11 then ob (f59 n v0 v2 p15) (fun p17 => (if p17.1 < 0 then f246_J139 n (fun (v0 : Nat) (v2 : Int32) (v3 : Int32) (v4 : Int32) (v5 : Int32) w => f246_H45 n  K24 k v0 v2 v3 v4 v5 w) K24 v0 v2 v3 v4 v5 (0 : Int32) p17.2
              else f246_J139 n (fun (v0 : Nat) (v2 : Int32) (v3 : Int32) (v4 : Int32) (v5 : Int32) w => f246_H45 n  K24 k v0 v2 v3 v4 v5 w) K24 v0 v2 v3 v4 v5 (1 : Int32) p17.2)) else none)
            else (if (wsh p15 v0).map (fun q => q.1) = some 11 then ob (f173 n v0 p15) (fun p22 => (if p22.1 < 0 then f246_J139 n (fun (v0 : Nat) (v2 : Int32) (v3 : Int32) (v4 : Int32) (v5 : Int32) w => f246_H45 n  K24 k v0 v2 v3 v4 v5 w) K24 v0 v2 v3 v4 v5 (0 : Int32) p22.2
              else f246_J139 n (fun (v0 : Nat) (v2 : Int32) (v3 : Int32) (v4 : Int32) (v5 : Int32) w => f246_H45 n  K24 k v0 v2 v3 v4 v5 w) K24 v0 v2 v3 v4 v5 (1 : Int32) p22.2)) else none))
          else ob (getI p15 11 v0 52) (fun x27 => (if x27 < 0 then f246_J139 n (fun (v0 : Nat) (v2 : Int32) (v3 : Int32) (v4 : Int32) (v5 : Int32) w => f246_H45 n  K24 k v0 v2 v3 v4 v5 w) K24 v0 v2 v3 v4 v5 (0 : Int32) p15
            else f246_J139 n (fun (v0 : Nat) (v2 : Int32) (v3 : Int32) (v4 : Int32) (v5 : Int32) w => f246_H45 n  K24 k v0 v2 v3 v4 v5 w) K24 v0 v2 v3 v4 v5 (1 : Int32) p15)))) else none))))))
set_option maxRecDepth 10000 in
theorem rf246_H45 {S : Sc} (n : Nat)  (K24 : Int32 → Wd → Option (Int32 × Wd))  (hK24 : ∀ (y4 : Int32) (w : Wd) (o : (Int32 × Wd)), K24 y4 w = some o → Rn S 246 162 [none, none, none, none, some (.int y4), none, none] [] w (some (.int o.1), o.2)) : ∀ (k : Nat) (v0 : Nat) (v2 : Int32) (v3 : Int32) (v4 : Int32) (v5 : Int32) (w : Wd) (o : (Int32 × Wd)), f246_H45 n  K24 k v0 v2 v3 v4 v5 w = some o → Rn S 246 45 [some (.ref v0), none, some (.int v2), some (.int v3), some (.int v4), some (.int v5), none] [] w (some (.int o.1), o.2) := by
  intro k
  induction k with
  | zero =>
    intro v0 v2 v3 v4 v5 w o h
    exact nomatch h
  | succ k ih =>
    intro v0 v2 v3 v4 v5 w o h
    have hrec24 : ∀ (y0 : Nat) (y2 : Int32) (y3 : Int32) (y4 : Int32) (y5 : Int32) (w : Wd) (o : (Int32 × Wd)), (fun (v0 : Nat) (v2 : Int32) (v3 : Int32) (v4 : Int32) (v5 : Int32) w => f246_H45 n  K24 k v0 v2 v3 v4 v5 w) y0 y2 y3 y4 y5 w = some o → Rn S 246 45 [some (.ref y0), none, some (.int y2), some (.int y3), some (.int y4), some (.int y5), none] [] w (some (.int o.1), o.2) := fun y0 y2 y3 y4 y5 w o h => ih y0 y2 y3 y4 y5 w o h
    unfold f246_H45 at h
    refine rn_iload (ft246 24 rfl) rfl ?_
    refine rn_sipush (v := (512 : Int32)) (ft246 25 rfl) (by decide) ?_
    by_cases c33 : (512 : Int32) ≤ v5
    · replace h := ifp c33 h
      refine rn_icmp_ge_t (ft246 26 rfl) c33 ?_
      exact rn_forget (ls := [none, none, none, none, some (.int v4), none, none]) (And.intro rfl trivial) (hK24 v4 w _ h)
    · replace h := ifn c33 h
      refine rn_icmp_ge_f (ft246 26 rfl) c33 ?_
      refine rn_aload_n (ft246 27 rfl) rfl ?_
      obtain ⟨x9, q10, h⟩ := ob_some h
      refine rn_getR (ft246 28 rfl) q10 ?_
      refine rn_iload (ft246 29 rfl) rfl ?_
      refine rn_bipush (v := (8 : Int32)) (ft246 30 rfl) (by decide) ?_
      refine rn_idiv (ft246 31 rfl) (by decide) ?_
      obtain ⟨x11, q12, h⟩ := ob_some h
      refine rn_baload (ft246 32 rfl) q12 ?_
      by_cases c32 : ¬ x11 = 0
      · replace h := ifp c32 h
        refine rn_if_ne_t (ft246 33 rfl) c32 ?_
        refine rn_iinc (u := 1) (ls' := [some (.ref v0), none, some (.int v2), some (.int v3), some (.int v4), some (.int (v5 + (1 : Int32))), none]) (ft246 80 rfl) rfl (by decide) rfl ?_
        refine rn_goto (ft246 81 rfl) ?_
        exact rn_forget (ls := [some (.ref v0), none, some (.int v2), some (.int v3), some (.int v4), some (.int (v5 + (1 : Int32))), none]) (And.intro rfl (And.intro rfl (And.intro rfl (And.intro rfl (And.intro rfl trivial))))) (hrec24 v0 v2 v3 v4 (v5 + (1 : Int32)) w _ h)
      · replace h := ifn c32 h
        refine rn_if_ne_f (ft246 33 rfl) c32 ?_
        refine rn_aload_n (ft246 34 rfl) rfl ?_
        refine rn_iload (ft246 35 rfl) rfl ?_
        refine rn_bipush (v := (8 : Int32)) (ft246 36 rfl) (by decide) ?_
        refine rn_idiv (ft246 37 rfl) (by decide) ?_
        refine rn_iload (ft246 38 rfl) rfl ?_
        refine rn_bipush (v := (8 : Int32)) (ft246 39 rfl) (by decide) ?_
        refine rn_irem (ft246 40 rfl) (by decide) ?_
        refine rn_sipush (v := (400 : Int32)) (ft246 41 rfl) (by decide) ?_
        refine rn_aload_n (ft246 42 rfl) rfl ?_
        obtain ⟨x13, q14, h⟩ := ob_some h
        refine rn_getI (ft246 43 rfl) (by decide) (by decide) q14 ?_
        obtain ⟨g31, h⟩ := ifg h
        obtain ⟨p15, q16, h⟩ := ob_some h
        refine rn_callV (as := [.int (v5 / (8 : Int32)), .int (irm v5 (8 : Int32)), .int (400 : Int32), .int x13]) (k0 := v0) (r := []) (v := none) (w1 := p15) (ft246 44 rfl) (by decide +kernel) rfl (Nat.le_of_ble_eq_true rfl) (Nat.le_of_ble_eq_true rfl) (r228 n v0 (v5 / (8 : Int32)) (irm v5 (8 : Int32)) (400 : Int32) x13 w _ q16) (by decide +kernel) g31 ?_
        refine rn_iload_n (ft246 45 rfl) rfl ?_
        by_cases c30 : ¬ v3 = 0
        · replace h := ifp c30 h
          refine rn_if_ne_t (ft246 46 rfl) c30 ?_
          refine rn_iload_n (ft246 54 rfl) rfl ?_
          refine rn_iconst (v := (1 : Int32)) (ft246 55 rfl) (by decide) ?_
          by_cases c26 : ¬ v3 = (1 : Int32)
          · replace h := ifp c26 h
            refine rn_icmp_ne_t (ft246 56 rfl) c26 ?_
            refine rn_aload_n (ft246 64 rfl) rfl ?_
            refine rn_iload_n (ft246 65 rfl) rfl ?_
            obtain ⟨g21, h⟩ := ifg h
            obtain ⟨p17, q18, h⟩ := ob_some h
            refine rn_callV (as := [.int v2]) (k0 := v0) (r := []) (v := (some (.int p17.1))) (w1 := p17.2) (ft246 66 rfl) (by decide +kernel) rfl (Nat.le_of_ble_eq_true rfl) (Nat.le_of_ble_eq_true rfl) (r59 n v0 v2 p15 _ q18) (by decide +kernel) g21 ?_
            by_cases c20 : p17.1 < 0
            · replace h := ifp c20 h
              refine rn_if_lt_t (ft246 67 rfl) c20 ?_
              refine rn_iconst (v := (0 : Int32)) (ft246 70 rfl) (by decide) ?_
              exact rn_forget (ls := [some (.ref v0), none, some (.int v2), some (.int v3), some (.int v4), some (.int v5), none]) (And.intro rfl (And.intro rfl (And.intro rfl (And.intro rfl (And.intro rfl trivial))))) (rf246_J139 n (fun (v0 : Nat) (v2 : Int32) (v3 : Int32) (v4 : Int32) (v5 : Int32) w => f246_H45 n  K24 k v0 v2 v3 v4 v5 w) K24 v0 v2 v3 v4 v5 (0 : Int32) p17.2 _ hrec24 hK24 h)
            · replace h := ifn c20 h
              refine rn_if_lt_f (ft246 67 rfl) c20 ?_
              refine rn_iconst (v := (1 : Int32)) (ft246 68 rfl) (by decide) ?_
              refine rn_goto (ft246 69 rfl) ?_
              exact rn_forget (ls := [some (.ref v0), none, some (.int v2), some (.int v3), some (.int v4), some (.int v5), none]) (And.intro rfl (And.intro rfl (And.intro rfl (And.intro rfl (And.intro rfl trivial))))) (rf246_J139 n (fun (v0 : Nat) (v2 : Int32) (v3 : Int32) (v4 : Int32) (v5 : Int32) w => f246_H45 n  K24 k v0 v2 v3 v4 v5 w) K24 v0 v2 v3 v4 v5 (1 : Int32) p17.2 _ hrec24 hK24 h)
          · replace h := ifn c26 h
            refine rn_icmp_ne_f (ft246 56 rfl) c26 ?_
            refine rn_aload_n (ft246 57 rfl) rfl ?_
            obtain ⟨g25, h⟩ := ifg h
            obtain ⟨p22, q23, h⟩ := ob_some h
            refine rn_callV (as := []) (k0 := v0) (r := []) (v := (some (.int p22.1))) (w1 := p22.2) (ft246 58 rfl) (by decide +kernel) rfl (Nat.le_of_ble_eq_true rfl) (Nat.le_of_ble_eq_true rfl) (r173 n v0 p15 _ q23) (by decide +kernel) g25 ?_
            by_cases c24 : p22.1 < 0
            · replace h := ifp c24 h
              refine rn_if_lt_t (ft246 59 rfl) c24 ?_
              refine rn_iconst (v := (0 : Int32)) (ft246 62 rfl) (by decide) ?_
              refine rn_goto (ft246 63 rfl) ?_
              exact rn_forget (ls := [some (.ref v0), none, some (.int v2), some (.int v3), some (.int v4), some (.int v5), none]) (And.intro rfl (And.intro rfl (And.intro rfl (And.intro rfl (And.intro rfl trivial))))) (rf246_J139 n (fun (v0 : Nat) (v2 : Int32) (v3 : Int32) (v4 : Int32) (v5 : Int32) w => f246_H45 n  K24 k v0 v2 v3 v4 v5 w) K24 v0 v2 v3 v4 v5 (0 : Int32) p22.2 _ hrec24 hK24 h)
            · replace h := ifn c24 h
              refine rn_if_lt_f (ft246 59 rfl) c24 ?_
              refine rn_iconst (v := (1 : Int32)) (ft246 60 rfl) (by decide) ?_
              refine rn_goto (ft246 61 rfl) ?_
              exact rn_forget (ls := [some (.ref v0), none, some (.int v2), some (.int v3), some (.int v4), some (.int v5), none]) (And.intro rfl (And.intro rfl (And.intro rfl (And.intro rfl (And.intro rfl trivial))))) (rf246_J139 n (fun (v0 : Nat) (v2 : Int32) (v3 : Int32) (v4 : Int32) (v5 : Int32) w => f246_H45 n  K24 k v0 v2 v3 v4 v5 w) K24 v0 v2 v3 v4 v5 (1 : Int32) p22.2 _ hrec24 hK24 h)
        · replace h := ifn c30 h
          refine rn_if_ne_f (ft246 46 rfl) c30 ?_
          refine rn_aload_n (ft246 47 rfl) rfl ?_
          obtain ⟨x27, q28, h⟩ := ob_some h
          refine rn_getI (ft246 48 rfl) (by decide) (by decide) q28 ?_
          by_cases c29 : x27 < 0
          · replace h := ifp c29 h
            refine rn_if_lt_t (ft246 49 rfl) c29 ?_
            refine rn_iconst (v := (0 : Int32)) (ft246 52 rfl) (by decide) ?_
            refine rn_goto (ft246 53 rfl) ?_
            exact rn_forget (ls := [some (.ref v0), none, some (.int v2), some (.int v3), some (.int v4), some (.int v5), none]) (And.intro rfl (And.intro rfl (And.intro rfl (And.intro rfl (And.intro rfl trivial))))) (rf246_J139 n (fun (v0 : Nat) (v2 : Int32) (v3 : Int32) (v4 : Int32) (v5 : Int32) w => f246_H45 n  K24 k v0 v2 v3 v4 v5 w) K24 v0 v2 v3 v4 v5 (0 : Int32) p15 _ hrec24 hK24 h)
          · replace h := ifn c29 h
            refine rn_if_lt_f (ft246 49 rfl) c29 ?_
            refine rn_iconst (v := (1 : Int32)) (ft246 50 rfl) (by decide) ?_
            refine rn_goto (ft246 51 rfl) ?_
            exact rn_forget (ls := [some (.ref v0), none, some (.int v2), some (.int v3), some (.int v4), some (.int v5), none]) (And.intro rfl (And.intro rfl (And.intro rfl (And.intro rfl (And.intro rfl trivial))))) (rf246_J139 n (fun (v0 : Nat) (v2 : Int32) (v3 : Int32) (v4 : Int32) (v5 : Int32) w => f246_H45 n  K24 k v0 v2 v3 v4 v5 w) K24 v0 v2 v3 v4 v5 (1 : Int32) p15 _ hrec24 hK24 h)
def f246 (n : Nat) (v0 : Nat) (v1 : Int32) (v2 : Int32) (v3 : Int32) (w : Wd) : Option (Int32 × Wd) :=
  (if (wsh w v0).map (fun q => q.1) = some 11 then ob (f126 v0 v1 w) (fun p1 => (if p1.1 = 0 then some ((-1000001 : Int32), p1.2)
    else ob (f118 v2 p1.2) (fun p3 => (if ¬ p3.1 = 0 then ob (f40 (Int32.toInt64 v3) (0 : Int64) (2 : Int64) p3.2) (fun p5 => (if ¬ p5.1 = 0 then (if (wsh p5.2 v0).map (fun q => q.1) = some 11 then ob (f54 v0 v1 p5.2) (fun p7 => f246_H45 n  (fun (e4_34 : Int32) (w34 : Wd) => some (e4_34, w34)) n v0 v2 v3 (0 : Int32) (0 : Int32) p7) else none)
        else some ((-1000002 : Int32), p5.2)))
      else some ((-1000001 : Int32), p3.2))))) else none)
set_option maxRecDepth 10000 in
theorem r246 {S : Sc} (n : Nat) (v0 : Nat) (v1 : Int32) (v2 : Int32) (v3 : Int32) (w : Wd) (o : (Int32 × Wd)) (h : f246 n v0 v1 v2 v3 w = some o) : Rn S 246 0 [some (.ref v0), some (.int v1), some (.int v2), some (.int v3), none, none, none] [] w (some (.int o.1), o.2) := by
  unfold f246 at h
  refine rn_aload_n (ft246 0 rfl) rfl ?_
  refine rn_iload_n (ft246 1 rfl) rfl ?_
  obtain ⟨g39, h⟩ := ifg h
  obtain ⟨p1, q2, h⟩ := ob_some h
  refine rn_callV (as := [.int v1]) (k0 := v0) (r := []) (v := (some (.int p1.1))) (w1 := p1.2) (ft246 2 rfl) (by decide +kernel) rfl (Nat.le_of_ble_eq_true rfl) (Nat.le_of_ble_eq_true rfl) (r126 v0 v1 w _ q2) (by decide +kernel) g39 ?_
  by_cases c38 : p1.1 = 0
  · replace h := ifp c38 h
    refine rn_if_eq_t (ft246 3 rfl) c38 ?_
    refine rn_ldcw (v := (-1000001 : Int32)) (ft246 7 rfl) (by decide) ?_
    cases h
    exact rn_iretI pr246 (ft246 8 rfl)
  · replace h := ifn c38 h
    refine rn_if_eq_f (ft246 3 rfl) c38 ?_
    refine rn_iload_n (ft246 4 rfl) rfl ?_
    obtain ⟨p3, q4, h⟩ := ob_some h
    refine rn_callS (as := [.int v2]) (r := []) (v := (some (.int p3.1))) (w1 := p3.2) (ft246 5 rfl) (by decide +kernel) rfl (Nat.le_of_ble_eq_true rfl) (Nat.le_of_ble_eq_true rfl) (r118 v2 p1.2 _ q4) ?_
    by_cases c37 : ¬ p3.1 = 0
    · replace h := ifp c37 h
      refine rn_if_ne_t (ft246 6 rfl) c37 ?_
      refine rn_iload_n (ft246 9 rfl) rfl ?_
      refine rn_i2l (ft246 10 rfl) ?_
      refine rn_lconst (v := (0 : Int64)) (ft246 11 rfl) (by decide) ?_
      refine rn_ldc2 (v := (2 : Int64)) (ft246 12 rfl) (by decide) ?_
      obtain ⟨p5, q6, h⟩ := ob_some h
      refine rn_callS (as := [.long (Int32.toInt64 v3), .long (0 : Int64), .long (2 : Int64)]) (r := []) (v := (some (.int p5.1))) (w1 := p5.2) (ft246 13 rfl) (by decide +kernel) rfl (Nat.le_of_ble_eq_true rfl) (Nat.le_of_ble_eq_true rfl) (r40 (Int32.toInt64 v3) (0 : Int64) (2 : Int64) p3.2 _ q6) ?_
      by_cases c36 : ¬ p5.1 = 0
      · replace h := ifp c36 h
        refine rn_if_ne_t (ft246 14 rfl) c36 ?_
        refine rn_aload_n (ft246 17 rfl) rfl ?_
        refine rn_iload_n (ft246 18 rfl) rfl ?_
        obtain ⟨g35, h⟩ := ifg h
        obtain ⟨p7, q8, h⟩ := ob_some h
        refine rn_callV (as := [.int v1]) (k0 := v0) (r := []) (v := none) (w1 := p7) (ft246 19 rfl) (by decide +kernel) rfl (Nat.le_of_ble_eq_true rfl) (Nat.le_of_ble_eq_true rfl) (r54 v0 v1 p5.2 _ q8) (by decide +kernel) g35 ?_
        refine rn_iconst (v := (0 : Int32)) (ft246 20 rfl) (by decide) ?_
        refine rn_istore (ls' := [some (.ref v0), some (.int v1), some (.int v2), some (.int v3), some (.int (0 : Int32)), none, none]) (ft246 21 rfl) rfl ?_
        refine rn_iconst (v := (0 : Int32)) (ft246 22 rfl) (by decide) ?_
        refine rn_istore (ls' := [some (.ref v0), some (.int v1), some (.int v2), some (.int v3), some (.int (0 : Int32)), some (.int (0 : Int32)), none]) (ft246 23 rfl) rfl ?_
        refine rn_forget (ls := [some (.ref v0), none, some (.int v2), some (.int v3), some (.int (0 : Int32)), some (.int (0 : Int32)), none]) (And.intro rfl (And.intro rfl (And.intro rfl (And.intro rfl (And.intro rfl trivial))))) (rf246_H45 n  _  (fun e4_34 w34 o h => ?_) n v0 v2 v3 (0 : Int32) (0 : Int32) p7 _ h)
        refine rn_iload (ft246 82 rfl) rfl ?_
        cases h
        exact rn_iretI pr246 (ft246 83 rfl)
      · replace h := ifn c36 h
        refine rn_if_ne_f (ft246 14 rfl) c36 ?_
        refine rn_ldc (v := (-1000002 : Int32)) (ft246 15 rfl) (by decide) rfl ?_
        cases h
        exact rn_iretI pr246 (ft246 16 rfl)
    · replace h := ifn c37 h
      refine rn_if_ne_f (ft246 6 rfl) c37 ?_
      refine rn_ldcw (v := (-1000001 : Int32)) (ft246 7 rfl) (by decide) ?_
      cases h
      exact rn_iretI pr246 (ft246 8 rfl)
/-- NineWheel.sea()I -/
theorem ft247 : ∀ (i : Nat) {q : Nat × XI}, cd247[i]? = some q → fetch 247 q.1 = some q.2 := ft_of (by decide +kernel)
theorem pr247 : pRt 247 = some .int := rfl
def f247_H70 (n : Nat)  (K33 : Nat → Wd → Option (Int32 × Wd)) : Nat → Nat → Int32 → Wd → Option (Int32 × Wd)
  | 0, _, _, _ => none
  | k + 1, v0, v1, w =>
    (if (2 : Int32) ≤ v1 then K33 v0 w
      else ob (getR w 10 v0 8) (fun x31 => ob (alen w x31) (fun x33 => (if x33 ≤ v1 then K33 v0 w
        else ob (getR w 10 v0 8) (fun x35 => ob (aldR w x35 v1) (fun x37 => ob (putZ w 3 x37 5 (0 : Int32)) (fun w39 => (fun (v0 : Nat) (v1 : Int32) w => f247_H70 n  K33 k v0 v1 w) v0 (v1 + (1 : Int32)) w39)))))))
set_option maxRecDepth 10000 in
theorem rf247_H70 {S : Sc} (n : Nat)  (K33 : Nat → Wd → Option (Int32 × Wd))  (hK33 : ∀ (y0 : Nat) (w : Wd) (o : (Int32 × Wd)), K33 y0 w = some o → Rn S 247 100 [some (.ref y0), none] [] w (some (.int o.1), o.2)) : ∀ (k : Nat) (v0 : Nat) (v1 : Int32) (w : Wd) (o : (Int32 × Wd)), f247_H70 n  K33 k v0 v1 w = some o → Rn S 247 70 [some (.ref v0), some (.int v1)] [] w (some (.int o.1), o.2) := by
  intro k
  induction k with
  | zero =>
    intro v0 v1 w o h
    exact nomatch h
  | succ k ih =>
    intro v0 v1 w o h
    have hrec33 : ∀ (y0 : Nat) (y1 : Int32) (w : Wd) (o : (Int32 × Wd)), (fun (v0 : Nat) (v1 : Int32) w => f247_H70 n  K33 k v0 v1 w) y0 y1 w = some o → Rn S 247 70 [some (.ref y0), some (.int y1)] [] w (some (.int o.1), o.2) := fun y0 y1 w o h => ih y0 y1 w o h
    unfold f247_H70 at h
    refine rn_iload_n (ft247 33 rfl) rfl ?_
    refine rn_iconst (v := (2 : Int32)) (ft247 34 rfl) (by decide) ?_
    by_cases c42 : (2 : Int32) ≤ v1
    · replace h := ifp c42 h
      refine rn_icmp_ge_t (ft247 35 rfl) c42 ?_
      exact rn_forget (ls := [some (.ref v0), none]) (And.intro rfl trivial) (hK33 v0 w _ h)
    · replace h := ifn c42 h
      refine rn_icmp_ge_f (ft247 35 rfl) c42 ?_
      refine rn_iload_n (ft247 36 rfl) rfl ?_
      refine rn_aload_n (ft247 37 rfl) rfl ?_
      obtain ⟨x31, q32, h⟩ := ob_some h
      refine rn_getR (ft247 38 rfl) q32 ?_
      obtain ⟨x33, q34, h⟩ := ob_some h
      refine rn_alen (ft247 39 rfl) q34 ?_
      by_cases c41 : x33 ≤ v1
      · replace h := ifp c41 h
        refine rn_icmp_ge_t (ft247 40 rfl) c41 ?_
        exact rn_forget (ls := [some (.ref v0), none]) (And.intro rfl trivial) (hK33 v0 w _ h)
      · replace h := ifn c41 h
        refine rn_icmp_ge_f (ft247 40 rfl) c41 ?_
        refine rn_aload_n (ft247 41 rfl) rfl ?_
        obtain ⟨x35, q36, h⟩ := ob_some h
        refine rn_getR (ft247 42 rfl) q36 ?_
        refine rn_iload_n (ft247 43 rfl) rfl ?_
        obtain ⟨x37, q38, h⟩ := ob_some h
        refine rn_aaload (ft247 44 rfl) q38 ?_
        refine rn_iconst (v := (0 : Int32)) (ft247 45 rfl) (by decide) ?_
        obtain ⟨w39, q40, h⟩ := ob_some h
        refine rn_putZ (ft247 46 rfl) q40 ?_
        refine rn_iinc (u := 1) (ls' := [some (.ref v0), some (.int (v1 + (1 : Int32)))]) (ft247 47 rfl) rfl (by decide) rfl ?_
        refine rn_goto (ft247 48 rfl) ?_
        exact rn_forget (ls := [some (.ref v0), some (.int (v1 + (1 : Int32)))]) (And.intro rfl (And.intro rfl trivial)) (hrec33 v0 (v1 + (1 : Int32)) w39 _ h)
def f247_J100 (n : Nat)  (v0 : Nat) (w : Wd) : Option (Int32 × Wd) :=
  ob (getR w 10 v0 9) (fun x44 => ob (putZ w 2 x44 2 (0 : Int32)) (fun w46 => ob (getR w46 10 v0 1) (fun x48 => ob (getI w46 6 x48 5) (fun x50 => some (x50, w46)))))
set_option maxRecDepth 10000 in
theorem rf247_J100 {S : Sc} (n : Nat)  (v0 : Nat) (w : Wd) (o : (Int32 × Wd))  (h : f247_J100 n  v0 w = some o) : Rn S 247 100 [some (.ref v0), none] [] w (some (.int o.1), o.2) := by
  unfold f247_J100 at h
  refine rn_aload_n (ft247 49 rfl) rfl ?_
  obtain ⟨x44, q45, h⟩ := ob_some h
  refine rn_getR (ft247 50 rfl) q45 ?_
  refine rn_iconst (v := (0 : Int32)) (ft247 51 rfl) (by decide) ?_
  obtain ⟨w46, q47, h⟩ := ob_some h
  refine rn_putZ (ft247 52 rfl) q47 ?_
  refine rn_aload_n (ft247 53 rfl) rfl ?_
  obtain ⟨x48, q49, h⟩ := ob_some h
  refine rn_getR (ft247 54 rfl) q49 ?_
  obtain ⟨x50, q51, h⟩ := ob_some h
  refine rn_getI (ft247 55 rfl) (by decide) (by decide) q51 ?_
  cases h
  exact rn_iretI pr247 (ft247 56 rfl)
def f247 (n : Nat) (v0 : Nat) (w : Wd) : Option (Int32 × Wd) :=
  ob (getR w 10 v0 0) (fun x1 => (if (wsh w x1).map (fun q => q.1) = some 9 then ob (f2 x1 w) (fun p3 => ob (getR p3 10 v0 3) (fun x5 => (if (wsh p3 x5).map (fun q => q.1) = some 7 then ob (f232 n x5 p3) (fun p7 => ob (getR p7 10 v0 0) (fun x9 => ob (putI p7 9 x9 1 (0 : Int32)) (fun w11 => ob (getR w11 10 v0 0) (fun x13 => ob (getI w11 9 x13 4) (fun x15 => (if x15 = 0 then ob (getR w11 10 v0 2) (fun x17 => (if (wsh w11 x17).map (fun q => q.1) = some 6 then ob (f178 n x17 w11) (fun p19 => ob (getR p19 10 v0 1) (fun x21 => ob (getR p19 10 v0 2) (fun x23 => (if (wsh p19 x21).map (fun q => q.1) = some 6 then ob (f13 n x21 x23 p19) (fun p25 => ob (getR p25 10 v0 7) (fun x27 => (if (wsh p25 x27).map (fun q => q.1) = some 3 then ob (f82 n x27 p25) (fun p29 => f247_H70 n  (fun (e0_43 : Nat) (w43 : Wd) => f247_J100 n  e0_43 w43) n v0 (0 : Int32) p29) else none))) else none)))) else none))
    else ob (getR w11 10 v0 0) (fun x55 => ob (getI w11 9 x55 4) (fun x57 => some (((-10 : Int32) - x57), w11))))))))) else none))) else none))
set_option maxRecDepth 10000 in
theorem r247 {S : Sc} (n : Nat) (v0 : Nat) (w : Wd) (o : (Int32 × Wd)) (h : f247 n v0 w = some o) : Rn S 247 0 [some (.ref v0), none] [] w (some (.int o.1), o.2) := by
  unfold f247 at h
  refine rn_aload_n (ft247 0 rfl) rfl ?_
  obtain ⟨x1, q2, h⟩ := ob_some h
  refine rn_getR (ft247 1 rfl) q2 ?_
  obtain ⟨g61, h⟩ := ifg h
  obtain ⟨p3, q4, h⟩ := ob_some h
  refine rn_callV (as := []) (k0 := x1) (r := []) (v := none) (w1 := p3) (ft247 2 rfl) (by decide +kernel) rfl (Nat.le_of_ble_eq_true rfl) (Nat.le_of_ble_eq_true rfl) (r2 x1 w _ q4) (by decide +kernel) g61 ?_
  refine rn_aload_n (ft247 3 rfl) rfl ?_
  obtain ⟨x5, q6, h⟩ := ob_some h
  refine rn_getR (ft247 4 rfl) q6 ?_
  obtain ⟨g60, h⟩ := ifg h
  obtain ⟨p7, q8, h⟩ := ob_some h
  refine rn_callV (as := []) (k0 := x5) (r := []) (v := none) (w1 := p7) (ft247 5 rfl) (by decide +kernel) rfl (Nat.le_of_ble_eq_true rfl) (Nat.le_of_ble_eq_true rfl) (r232 n x5 p3 _ q8) (by decide +kernel) g60 ?_
  refine rn_aload_n (ft247 6 rfl) rfl ?_
  obtain ⟨x9, q10, h⟩ := ob_some h
  refine rn_getR (ft247 7 rfl) q10 ?_
  refine rn_iconst (v := (0 : Int32)) (ft247 8 rfl) (by decide) ?_
  obtain ⟨w11, q12, h⟩ := ob_some h
  refine rn_putI (ft247 9 rfl) q12 ?_
  refine rn_aload_n (ft247 10 rfl) rfl ?_
  obtain ⟨x13, q14, h⟩ := ob_some h
  refine rn_getR (ft247 11 rfl) q14 ?_
  obtain ⟨x15, q16, h⟩ := ob_some h
  refine rn_getI (ft247 12 rfl) (by decide) (by decide) q16 ?_
  by_cases c59 : x15 = 0
  · replace h := ifp c59 h
    refine rn_if_eq_t (ft247 13 rfl) c59 ?_
    refine rn_aload_n (ft247 20 rfl) rfl ?_
    obtain ⟨x17, q18, h⟩ := ob_some h
    refine rn_getR (ft247 21 rfl) q18 ?_
    obtain ⟨g54, h⟩ := ifg h
    obtain ⟨p19, q20, h⟩ := ob_some h
    refine rn_callV (as := []) (k0 := x17) (r := []) (v := none) (w1 := p19) (ft247 22 rfl) (by decide +kernel) rfl (Nat.le_of_ble_eq_true rfl) (Nat.le_of_ble_eq_true rfl) (r178 n x17 w11 _ q20) (by decide +kernel) g54 ?_
    refine rn_aload_n (ft247 23 rfl) rfl ?_
    obtain ⟨x21, q22, h⟩ := ob_some h
    refine rn_getR (ft247 24 rfl) q22 ?_
    refine rn_aload_n (ft247 25 rfl) rfl ?_
    obtain ⟨x23, q24, h⟩ := ob_some h
    refine rn_getR (ft247 26 rfl) q24 ?_
    obtain ⟨g53, h⟩ := ifg h
    obtain ⟨p25, q26, h⟩ := ob_some h
    refine rn_callV (as := [.ref x23]) (k0 := x21) (r := []) (v := none) (w1 := p25) (ft247 27 rfl) (by decide +kernel) rfl (Nat.le_of_ble_eq_true rfl) (Nat.le_of_ble_eq_true rfl) (r13 n x21 x23 p19 _ q26) (by decide +kernel) g53 ?_
    refine rn_aload_n (ft247 28 rfl) rfl ?_
    obtain ⟨x27, q28, h⟩ := ob_some h
    refine rn_getR (ft247 29 rfl) q28 ?_
    obtain ⟨g52, h⟩ := ifg h
    obtain ⟨p29, q30, h⟩ := ob_some h
    refine rn_callV (as := []) (k0 := x27) (r := []) (v := none) (w1 := p29) (ft247 30 rfl) (by decide +kernel) rfl (Nat.le_of_ble_eq_true rfl) (Nat.le_of_ble_eq_true rfl) (r82 n x27 p25 _ q30) (by decide +kernel) g52 ?_
    refine rn_iconst (v := (0 : Int32)) (ft247 31 rfl) (by decide) ?_
    refine rn_istore_n (ls' := [some (.ref v0), some (.int (0 : Int32))]) (ft247 32 rfl) rfl ?_
    refine rn_forget (ls := [some (.ref v0), some (.int (0 : Int32))]) (And.intro rfl (And.intro rfl trivial)) (rf247_H70 n  _  (fun e0_43 w43 o h => ?_) n v0 (0 : Int32) p29 _ h)
    exact rn_forget (ls := [some (.ref e0_43), none]) (And.intro rfl trivial) (rf247_J100 n  e0_43 w43 _  h)
  · replace h := ifn c59 h
    refine rn_if_eq_f (ft247 13 rfl) c59 ?_
    refine rn_bipush (v := (-10 : Int32)) (ft247 14 rfl) (by decide) ?_
    refine rn_aload_n (ft247 15 rfl) rfl ?_
    obtain ⟨x55, q56, h⟩ := ob_some h
    refine rn_getR (ft247 16 rfl) q56 ?_
    obtain ⟨x57, q58, h⟩ := ob_some h
    refine rn_getI (ft247 17 rfl) (by decide) (by decide) q58 ?_
    refine rn_isub (ft247 18 rfl) ?_
    obtain rfl := Option.some.inj h
    exact rn_iretI pr247 (ft247 19 rfl)
/-- NineWheelModel.run(II)I -/
theorem ft248 : ∀ (i : Nat) {q : Nat × XI}, cd248[i]? = some q → fetch 248 q.1 = some q.2 := ft_of (by decide +kernel)
theorem pr248 : pRt 248 = some .int := rfl
def f248 (n : Nat) (v0 : Nat) (v1 : Int32) (v2 : Int32) (w : Wd) : Option (Int32 × Wd) :=
  (if (wsh w v0).map (fun q => q.1) = some 11 then ob (f126 v0 v1 w) (fun p1 => (if ¬ p1.1 = 0 then ob (f40 (Int32.toInt64 v2) (0 : Int64) (2 : Int64) p1.2) (fun p3 => (if ¬ p3.1 = 0 then (if (wsh p3.2 v0).map (fun q => q.1) = some 11 then ob (f244 n v0 v1 p3.2) (fun p5 => (if (wsh p5 v0).map (fun q => q.1) = some 11 then ob (f173 n v0 p5) (fun p7 => (if ¬ v2 = 0 then (if v2 = (1 : Int32) then some (p7.1, p7.2)
          else (if 0 ≤ p7.1 then ob (getI p7.2 11 v0 55) (fun x9 => some ((p7.1 - x9), p7.2))
            else some (p7.1, p7.2)))
        else ob (getI p7.2 11 v0 52) (fun x13 => some (x13, p7.2)))) else none)) else none)
      else some ((-1000002 : Int32), p3.2)))
    else some ((-1000001 : Int32), p1.2))) else none)
set_option maxRecDepth 10000 in
theorem r248 {S : Sc} (n : Nat) (v0 : Nat) (v1 : Int32) (v2 : Int32) (w : Wd) (o : (Int32 × Wd)) (h : f248 n v0 v1 v2 w = some o) : Rn S 248 0 [some (.ref v0), some (.int v1), some (.int v2), none] [] w (some (.int o.1), o.2) := by
  unfold f248 at h
  refine rn_aload_n (ft248 0 rfl) rfl ?_
  refine rn_iload_n (ft248 1 rfl) rfl ?_
  obtain ⟨g20, h⟩ := ifg h
  obtain ⟨p1, q2, h⟩ := ob_some h
  refine rn_callV (as := [.int v1]) (k0 := v0) (r := []) (v := (some (.int p1.1))) (w1 := p1.2) (ft248 2 rfl) (by decide +kernel) rfl (Nat.le_of_ble_eq_true rfl) (Nat.le_of_ble_eq_true rfl) (r126 v0 v1 w _ q2) (by decide +kernel) g20 ?_
  by_cases c19 : ¬ p1.1 = 0
  · replace h := ifp c19 h
    refine rn_if_ne_t (ft248 3 rfl) c19 ?_
    refine rn_iload_n (ft248 6 rfl) rfl ?_
    refine rn_i2l (ft248 7 rfl) ?_
    refine rn_lconst (v := (0 : Int64)) (ft248 8 rfl) (by decide) ?_
    refine rn_ldc2 (v := (2 : Int64)) (ft248 9 rfl) (by decide) ?_
    obtain ⟨p3, q4, h⟩ := ob_some h
    refine rn_callS (as := [.long (Int32.toInt64 v2), .long (0 : Int64), .long (2 : Int64)]) (r := []) (v := (some (.int p3.1))) (w1 := p3.2) (ft248 10 rfl) (by decide +kernel) rfl (Nat.le_of_ble_eq_true rfl) (Nat.le_of_ble_eq_true rfl) (r40 (Int32.toInt64 v2) (0 : Int64) (2 : Int64) p1.2 _ q4) ?_
    by_cases c18 : ¬ p3.1 = 0
    · replace h := ifp c18 h
      refine rn_if_ne_t (ft248 11 rfl) c18 ?_
      refine rn_aload_n (ft248 14 rfl) rfl ?_
      refine rn_iload_n (ft248 15 rfl) rfl ?_
      obtain ⟨g17, h⟩ := ifg h
      obtain ⟨p5, q6, h⟩ := ob_some h
      refine rn_callV (as := [.int v1]) (k0 := v0) (r := []) (v := none) (w1 := p5) (ft248 16 rfl) (by decide +kernel) rfl (Nat.le_of_ble_eq_true rfl) (Nat.le_of_ble_eq_true rfl) (r244 n v0 v1 p3.2 _ q6) (by decide +kernel) g17 ?_
      refine rn_aload_n (ft248 17 rfl) rfl ?_
      obtain ⟨g16, h⟩ := ifg h
      obtain ⟨p7, q8, h⟩ := ob_some h
      refine rn_callV (as := []) (k0 := v0) (r := []) (v := (some (.int p7.1))) (w1 := p7.2) (ft248 18 rfl) (by decide +kernel) rfl (Nat.le_of_ble_eq_true rfl) (Nat.le_of_ble_eq_true rfl) (r173 n v0 p5 _ q8) (by decide +kernel) g16 ?_
      refine rn_istore_n (ls' := [some (.ref v0), some (.int v1), some (.int v2), some (.int p7.1)]) (ft248 19 rfl) rfl ?_
      refine rn_iload_n (ft248 20 rfl) rfl ?_
      by_cases c15 : ¬ v2 = 0
      · replace h := ifp c15 h
        refine rn_if_ne_t (ft248 21 rfl) c15 ?_
        refine rn_iload_n (ft248 25 rfl) rfl ?_
        refine rn_iconst (v := (1 : Int32)) (ft248 26 rfl) (by decide) ?_
        by_cases c12 : v2 = (1 : Int32)
        · replace h := ifp c12 h
          refine rn_icmp_eq_t (ft248 27 rfl) c12 ?_
          refine rn_iload_n (ft248 30 rfl) rfl ?_
          refine rn_goto (ft248 31 rfl) ?_
          cases h
          exact rn_iretI pr248 (ft248 36 rfl)
        · replace h := ifn c12 h
          refine rn_icmp_eq_f (ft248 27 rfl) c12 ?_
          refine rn_iload_n (ft248 28 rfl) rfl ?_
          by_cases c11 : 0 ≤ p7.1
          · replace h := ifp c11 h
            refine rn_if_ge_t (ft248 29 rfl) c11 ?_
            refine rn_iload_n (ft248 32 rfl) rfl ?_
            refine rn_aload_n (ft248 33 rfl) rfl ?_
            obtain ⟨x9, q10, h⟩ := ob_some h
            refine rn_getI (ft248 34 rfl) (by decide) (by decide) q10 ?_
            refine rn_isub (ft248 35 rfl) ?_
            cases h
            exact rn_iretI pr248 (ft248 36 rfl)
          · replace h := ifn c11 h
            refine rn_if_ge_f (ft248 29 rfl) c11 ?_
            refine rn_iload_n (ft248 30 rfl) rfl ?_
            refine rn_goto (ft248 31 rfl) ?_
            cases h
            exact rn_iretI pr248 (ft248 36 rfl)
      · replace h := ifn c15 h
        refine rn_if_ne_f (ft248 21 rfl) c15 ?_
        refine rn_aload_n (ft248 22 rfl) rfl ?_
        obtain ⟨x13, q14, h⟩ := ob_some h
        refine rn_getI (ft248 23 rfl) (by decide) (by decide) q14 ?_
        refine rn_goto (ft248 24 rfl) ?_
        cases h
        exact rn_iretI pr248 (ft248 36 rfl)
    · replace h := ifn c18 h
      refine rn_if_ne_f (ft248 11 rfl) c18 ?_
      refine rn_ldc (v := (-1000002 : Int32)) (ft248 12 rfl) (by decide) rfl ?_
      cases h
      exact rn_iretI pr248 (ft248 13 rfl)
  · replace h := ifn c19 h
    refine rn_if_ne_f (ft248 3 rfl) c19 ?_
    refine rn_ldcw (v := (-1000001 : Int32)) (ft248 4 rfl) (by decide) ?_
    cases h
    exact rn_iretI pr248 (ft248 5 rfl)
/-- NineWheelModel.at(III)I -/
theorem ft249 : ∀ (i : Nat) {q : Nat × XI}, cd249[i]? = some q → fetch 249 q.1 = some q.2 := ft_of (by decide +kernel)
theorem pr249 : pRt 249 = some .int := rfl
def f249 (n : Nat) (v0 : Nat) (v1 : Int32) (v2 : Int32) (v3 : Int32) (w : Wd) : Option (Int32 × Wd) :=
  (if (wsh w v0).map (fun q => q.1) = some 11 then ob (f126 v0 v1 w) (fun p1 => (if ¬ p1.1 = 0 then ob (f40 (Int32.toInt64 v2) (0 : Int64) (400 : Int64) p1.2) (fun p3 => (if p3.1 = 0 then some ((-1000002 : Int32), p3.2)
      else ob (f40 (Int32.toInt64 v3) (0 : Int64) (1 : Int64) p3.2) (fun p5 => (if ¬ p5.1 = 0 then (if (wsh p5.2 v0).map (fun q => q.1) = some 11 then ob (f244 n v0 v1 p5.2) (fun p7 => ob (getI p7 11 v0 53) (fun x9 => (if v2 ≤ x9 then (if ¬ v3 = 0 then ob (getR p7 11 v0 49) (fun x11 => ob (aldI p7 x11 v2) (fun x13 => some (x13, p7)))
            else ob (getR p7 11 v0 48) (fun x15 => ob (aldI p7 x15 v2) (fun x17 => some (x17, p7))))
          else some ((-1 : Int32), p7)))) else none)
        else some ((-1000002 : Int32), p5.2)))))
    else some ((-1000001 : Int32), p1.2))) else none)
set_option maxRecDepth 10000 in
theorem r249 {S : Sc} (n : Nat) (v0 : Nat) (v1 : Int32) (v2 : Int32) (v3 : Int32) (w : Wd) (o : (Int32 × Wd)) (h : f249 n v0 v1 v2 v3 w = some o) : Rn S 249 0 [some (.ref v0), some (.int v1), some (.int v2), some (.int v3)] [] w (some (.int o.1), o.2) := by
  unfold f249 at h
  refine rn_aload_n (ft249 0 rfl) rfl ?_
  refine rn_iload_n (ft249 1 rfl) rfl ?_
  obtain ⟨g25, h⟩ := ifg h
  obtain ⟨p1, q2, h⟩ := ob_some h
  refine rn_callV (as := [.int v1]) (k0 := v0) (r := []) (v := (some (.int p1.1))) (w1 := p1.2) (ft249 2 rfl) (by decide +kernel) rfl (Nat.le_of_ble_eq_true rfl) (Nat.le_of_ble_eq_true rfl) (r126 v0 v1 w _ q2) (by decide +kernel) g25 ?_
  by_cases c24 : ¬ p1.1 = 0
  · replace h := ifp c24 h
    refine rn_if_ne_t (ft249 3 rfl) c24 ?_
    refine rn_iload_n (ft249 6 rfl) rfl ?_
    refine rn_i2l (ft249 7 rfl) ?_
    refine rn_lconst (v := (0 : Int64)) (ft249 8 rfl) (by decide) ?_
    refine rn_ldc2 (v := (400 : Int64)) (ft249 9 rfl) (by decide) ?_
    obtain ⟨p3, q4, h⟩ := ob_some h
    refine rn_callS (as := [.long (Int32.toInt64 v2), .long (0 : Int64), .long (400 : Int64)]) (r := []) (v := (some (.int p3.1))) (w1 := p3.2) (ft249 10 rfl) (by decide +kernel) rfl (Nat.le_of_ble_eq_true rfl) (Nat.le_of_ble_eq_true rfl) (r40 (Int32.toInt64 v2) (0 : Int64) (400 : Int64) p1.2 _ q4) ?_
    by_cases c23 : p3.1 = 0
    · replace h := ifp c23 h
      refine rn_if_eq_t (ft249 11 rfl) c23 ?_
      refine rn_ldc (v := (-1000002 : Int32)) (ft249 18 rfl) (by decide) rfl ?_
      cases h
      exact rn_iretI pr249 (ft249 19 rfl)
    · replace h := ifn c23 h
      refine rn_if_eq_f (ft249 11 rfl) c23 ?_
      refine rn_iload_n (ft249 12 rfl) rfl ?_
      refine rn_i2l (ft249 13 rfl) ?_
      refine rn_lconst (v := (0 : Int64)) (ft249 14 rfl) (by decide) ?_
      refine rn_lconst (v := (1 : Int64)) (ft249 15 rfl) (by decide) ?_
      obtain ⟨p5, q6, h⟩ := ob_some h
      refine rn_callS (as := [.long (Int32.toInt64 v3), .long (0 : Int64), .long (1 : Int64)]) (r := []) (v := (some (.int p5.1))) (w1 := p5.2) (ft249 16 rfl) (by decide +kernel) rfl (Nat.le_of_ble_eq_true rfl) (Nat.le_of_ble_eq_true rfl) (r40 (Int32.toInt64 v3) (0 : Int64) (1 : Int64) p3.2 _ q6) ?_
      by_cases c22 : ¬ p5.1 = 0
      · replace h := ifp c22 h
        refine rn_if_ne_t (ft249 17 rfl) c22 ?_
        refine rn_aload_n (ft249 20 rfl) rfl ?_
        refine rn_iload_n (ft249 21 rfl) rfl ?_
        obtain ⟨g21, h⟩ := ifg h
        obtain ⟨p7, q8, h⟩ := ob_some h
        refine rn_callV (as := [.int v1]) (k0 := v0) (r := []) (v := none) (w1 := p7) (ft249 22 rfl) (by decide +kernel) rfl (Nat.le_of_ble_eq_true rfl) (Nat.le_of_ble_eq_true rfl) (r244 n v0 v1 p5.2 _ q8) (by decide +kernel) g21 ?_
        refine rn_iload_n (ft249 23 rfl) rfl ?_
        refine rn_aload_n (ft249 24 rfl) rfl ?_
        obtain ⟨x9, q10, h⟩ := ob_some h
        refine rn_getI (ft249 25 rfl) (by decide) (by decide) q10 ?_
        by_cases c20 : v2 ≤ x9
        · replace h := ifp c20 h
          refine rn_icmp_le_t (ft249 26 rfl) c20 ?_
          refine rn_iload_n (ft249 29 rfl) rfl ?_
          by_cases c19 : ¬ v3 = 0
          · replace h := ifp c19 h
            refine rn_if_ne_t (ft249 30 rfl) c19 ?_
            refine rn_aload_n (ft249 36 rfl) rfl ?_
            obtain ⟨x11, q12, h⟩ := ob_some h
            refine rn_getR (ft249 37 rfl) q12 ?_
            refine rn_iload_n (ft249 38 rfl) rfl ?_
            obtain ⟨x13, q14, h⟩ := ob_some h
            refine rn_iaload (ft249 39 rfl) q14 ?_
            cases h
            exact rn_iretI pr249 (ft249 40 rfl)
          · replace h := ifn c19 h
            refine rn_if_ne_f (ft249 30 rfl) c19 ?_
            refine rn_aload_n (ft249 31 rfl) rfl ?_
            obtain ⟨x15, q16, h⟩ := ob_some h
            refine rn_getR (ft249 32 rfl) q16 ?_
            refine rn_iload_n (ft249 33 rfl) rfl ?_
            obtain ⟨x17, q18, h⟩ := ob_some h
            refine rn_iaload (ft249 34 rfl) q18 ?_
            refine rn_goto (ft249 35 rfl) ?_
            cases h
            exact rn_iretI pr249 (ft249 40 rfl)
        · replace h := ifn c20 h
          refine rn_icmp_le_f (ft249 26 rfl) c20 ?_
          refine rn_iconst (v := (-1 : Int32)) (ft249 27 rfl) (by decide) ?_
          refine rn_goto (ft249 28 rfl) ?_
          cases h
          exact rn_iretI pr249 (ft249 40 rfl)
      · replace h := ifn c22 h
        refine rn_if_ne_f (ft249 17 rfl) c22 ?_
        refine rn_ldc (v := (-1000002 : Int32)) (ft249 18 rfl) (by decide) rfl ?_
        cases h
        exact rn_iretI pr249 (ft249 19 rfl)
  · replace h := ifn c24 h
    refine rn_if_ne_f (ft249 3 rfl) c24 ?_
    refine rn_ldcw (v := (-1000001 : Int32)) (ft249 4 rfl) (by decide) ?_
    cases h
    exact rn_iretI pr249 (ft249 5 rfl)
/-- NineWheelModel.comes(II)I -/
theorem ft250 : ∀ (i : Nat) {q : Nat × XI}, cd250[i]? = some q → fetch 250 q.1 = some q.2 := ft_of (by decide +kernel)
theorem pr250 : pRt 250 = some .int := rfl
def f250 (n : Nat) (v0 : Nat) (v1 : Int32) (v2 : Int32) (w : Wd) : Option (Int32 × Wd) :=
  (if (wsh w v0).map (fun q => q.1) = some 11 then ob (f126 v0 v1 w) (fun p1 => (if p1.1 = 0 then some ((-1000001 : Int32), p1.2)
    else ob (f118 v2 p1.2) (fun p3 => (if ¬ p3.1 = 0 then (if (wsh p3.2 v0).map (fun q => q.1) = some 11 then ob (f244 n v0 v1 p3.2) (fun p5 => (if (wsh p5 v0).map (fun q => q.1) = some 11 then ob (f59 n v0 v2 p5) (fun p7 => some (p7.1, p7.2)) else none)) else none)
      else some ((-1000001 : Int32), p3.2))))) else none)
set_option maxRecDepth 10000 in
theorem r250 {S : Sc} (n : Nat) (v0 : Nat) (v1 : Int32) (v2 : Int32) (w : Wd) (o : (Int32 × Wd)) (h : f250 n v0 v1 v2 w = some o) : Rn S 250 0 [some (.ref v0), some (.int v1), some (.int v2)] [] w (some (.int o.1), o.2) := by
  unfold f250 at h
  refine rn_aload_n (ft250 0 rfl) rfl ?_
  refine rn_iload_n (ft250 1 rfl) rfl ?_
  obtain ⟨g13, h⟩ := ifg h
  obtain ⟨p1, q2, h⟩ := ob_some h
  refine rn_callV (as := [.int v1]) (k0 := v0) (r := []) (v := (some (.int p1.1))) (w1 := p1.2) (ft250 2 rfl) (by decide +kernel) rfl (Nat.le_of_ble_eq_true rfl) (Nat.le_of_ble_eq_true rfl) (r126 v0 v1 w _ q2) (by decide +kernel) g13 ?_
  by_cases c12 : p1.1 = 0
  · replace h := ifp c12 h
    refine rn_if_eq_t (ft250 3 rfl) c12 ?_
    refine rn_ldcw (v := (-1000001 : Int32)) (ft250 7 rfl) (by decide) ?_
    cases h
    exact rn_iretI pr250 (ft250 8 rfl)
  · replace h := ifn c12 h
    refine rn_if_eq_f (ft250 3 rfl) c12 ?_
    refine rn_iload_n (ft250 4 rfl) rfl ?_
    obtain ⟨p3, q4, h⟩ := ob_some h
    refine rn_callS (as := [.int v2]) (r := []) (v := (some (.int p3.1))) (w1 := p3.2) (ft250 5 rfl) (by decide +kernel) rfl (Nat.le_of_ble_eq_true rfl) (Nat.le_of_ble_eq_true rfl) (r118 v2 p1.2 _ q4) ?_
    by_cases c11 : ¬ p3.1 = 0
    · replace h := ifp c11 h
      refine rn_if_ne_t (ft250 6 rfl) c11 ?_
      refine rn_aload_n (ft250 9 rfl) rfl ?_
      refine rn_iload_n (ft250 10 rfl) rfl ?_
      obtain ⟨g10, h⟩ := ifg h
      obtain ⟨p5, q6, h⟩ := ob_some h
      refine rn_callV (as := [.int v1]) (k0 := v0) (r := []) (v := none) (w1 := p5) (ft250 11 rfl) (by decide +kernel) rfl (Nat.le_of_ble_eq_true rfl) (Nat.le_of_ble_eq_true rfl) (r244 n v0 v1 p3.2 _ q6) (by decide +kernel) g10 ?_
      refine rn_aload_n (ft250 12 rfl) rfl ?_
      refine rn_iload_n (ft250 13 rfl) rfl ?_
      obtain ⟨g9, h⟩ := ifg h
      obtain ⟨p7, q8, h⟩ := ob_some h
      refine rn_callV (as := [.int v2]) (k0 := v0) (r := []) (v := (some (.int p7.1))) (w1 := p7.2) (ft250 14 rfl) (by decide +kernel) rfl (Nat.le_of_ble_eq_true rfl) (Nat.le_of_ble_eq_true rfl) (r59 n v0 v2 p5 _ q8) (by decide +kernel) g9 ?_
      cases h
      exact rn_iretI pr250 (ft250 15 rfl)
    · replace h := ifn c11 h
      refine rn_if_ne_f (ft250 6 rfl) c11 ?_
      refine rn_ldcw (v := (-1000001 : Int32)) (ft250 7 rfl) (by decide) ?_
      cases h
      exact rn_iretI pr250 (ft250 8 rfl)
