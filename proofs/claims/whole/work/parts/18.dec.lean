/-! THE METHODS AS FUNCTIONS, 1 -/
/-- NineWheel.outside(III)Z -/
theorem ft0 : ∀ (i : Nat) {q : Nat × XI}, cd0[i]? = some q → fetch 0 q.1 = some q.2 := ft_of (by decide +kernel)
theorem pr0 : pRt 0 = some .boolean := rfl
def f0 (v0 : Int32) (v1 : Int32) (v2 : Int32) (w : Wd) : Option (Int32 × Wd) :=
  (if v0 < v1 then some ((1 : Int32), w)
    else (if v0 ≤ v2 then some ((0 : Int32), w)
      else some ((1 : Int32), w)))
set_option maxRecDepth 10000 in
theorem r0 {S : Sc} (v0 : Int32) (v1 : Int32) (v2 : Int32) (w : Wd) (o : (Int32 × Wd)) (h : f0 v0 v1 v2 w = some o) : Rn S 0 0 [some (.int v0), some (.int v1), some (.int v2)] [] w (some (.int o.1), o.2) := by
  unfold f0 at h
  refine rn_iload_n (ft0 0 rfl) rfl ?_
  refine rn_iload_n (ft0 1 rfl) rfl ?_
  by_cases c2 : v0 < v1
  · replace h := ifp c2 h
    refine rn_icmp_lt_t (ft0 2 rfl) c2 ?_
    refine rn_iconst (v := (1 : Int32)) (ft0 6 rfl) (by decide) ?_
    refine rn_goto (ft0 7 rfl) ?_
    cases h
    exact rn_iretZ pr0 (by decide) (ft0 9 rfl)
  · replace h := ifn c2 h
    refine rn_icmp_lt_f (ft0 2 rfl) c2 ?_
    refine rn_iload_n (ft0 3 rfl) rfl ?_
    refine rn_iload_n (ft0 4 rfl) rfl ?_
    by_cases c1 : v0 ≤ v2
    · replace h := ifp c1 h
      refine rn_icmp_le_t (ft0 5 rfl) c1 ?_
      refine rn_iconst (v := (0 : Int32)) (ft0 8 rfl) (by decide) ?_
      cases h
      exact rn_iretZ pr0 (by decide) (ft0 9 rfl)
    · replace h := ifn c1 h
      refine rn_icmp_le_f (ft0 5 rfl) c1 ?_
      refine rn_iconst (v := (1 : Int32)) (ft0 6 rfl) (by decide) ?_
      refine rn_goto (ft0 7 rfl) ?_
      cases h
      exact rn_iretZ pr0 (by decide) (ft0 9 rfl)
/-- NineWheel$Text.append(I)V -/
theorem ft1 : ∀ (i : Nat) {q : Nat × XI}, cd1[i]? = some q → fetch 1 q.1 = some q.2 := ft_of (by decide +kernel)
theorem pr1 : pRt 1 = none := rfl
def f1 (v0 : Nat) (v1 : Int32) (w : Wd) : Option Wd :=
  ob (getI w 9 v0 1) (fun x1 => ob (getR w 9 v0 0) (fun x3 => ob (alen w x3) (fun x5 => (if x1 < x5 then ob (getR w 9 v0 0) (fun x7 => ob (getI w 9 v0 1) (fun x9 => ob (astB w x7 x9 (toB v1)) (fun w11 => ob (getI w11 9 v0 1) (fun x13 => ob (putI w11 9 v0 1 (x13 + (1 : Int32))) (fun w15 => some w15)))))
    else some w))))
set_option maxRecDepth 10000 in
theorem r1 {S : Sc} (v0 : Nat) (v1 : Int32) (w : Wd) (o : Wd) (h : f1 v0 v1 w = some o) : Rn S 1 0 [some (.ref v0), some (.int v1)] [] w (none, o) := by
  unfold f1 at h
  refine rn_aload_n (ft1 0 rfl) rfl ?_
  obtain ⟨x1, q2, h⟩ := ob_some h
  refine rn_getI (ft1 1 rfl) (by decide) (by decide) q2 ?_
  refine rn_aload_n (ft1 2 rfl) rfl ?_
  obtain ⟨x3, q4, h⟩ := ob_some h
  refine rn_getR (ft1 3 rfl) q4 ?_
  obtain ⟨x5, q6, h⟩ := ob_some h
  refine rn_alen (ft1 4 rfl) q6 ?_
  by_cases c17 : x1 < x5
  · replace h := ifp c17 h
    refine rn_icmp_lt_t (ft1 5 rfl) c17 ?_
    refine rn_aload_n (ft1 7 rfl) rfl ?_
    obtain ⟨x7, q8, h⟩ := ob_some h
    refine rn_getR (ft1 8 rfl) q8 ?_
    refine rn_aload_n (ft1 9 rfl) rfl ?_
    obtain ⟨x9, q10, h⟩ := ob_some h
    refine rn_getI (ft1 10 rfl) (by decide) (by decide) q10 ?_
    refine rn_iload_n (ft1 11 rfl) rfl ?_
    refine rn_i2b (ft1 12 rfl) ?_
    obtain ⟨w11, q12, h⟩ := ob_some h
    refine rn_bastore (ft1 13 rfl) q12 ?_
    refine rn_aload_n (ft1 14 rfl) rfl ?_
    refine rn_dup (ft1 15 rfl) rfl ?_
    obtain ⟨x13, q14, h⟩ := ob_some h
    refine rn_getI (ft1 16 rfl) (by decide) (by decide) q14 ?_
    refine rn_iconst (v := (1 : Int32)) (ft1 17 rfl) (by decide) ?_
    refine rn_iadd (ft1 18 rfl) ?_
    obtain ⟨w15, q16, h⟩ := ob_some h
    refine rn_putI (ft1 19 rfl) q16 ?_
    cases h
    exact rn_vret pr1 (ft1 20 rfl)
  · replace h := ifn c17 h
    refine rn_icmp_lt_f (ft1 5 rfl) c17 ?_
    cases h
    exact rn_vret pr1 (ft1 6 rfl)
/-- NineWheel$Text.begin()V -/
theorem ft2 : ∀ (i : Nat) {q : Nat × XI}, cd2[i]? = some q → fetch 2 q.1 = some q.2 := ft_of (by decide +kernel)
theorem pr2 : pRt 2 = none := rfl
def f2 (v0 : Nat) (w : Wd) : Option Wd :=
  ob (putI w 9 v0 2 (0 : Int32)) (fun w1 => ob (putI w1 9 v0 4 (0 : Int32)) (fun w3 => ob (putI w3 9 v0 5 (-1 : Int32)) (fun w5 => some w5)))
set_option maxRecDepth 10000 in
theorem r2 {S : Sc} (v0 : Nat) (w : Wd) (o : Wd) (h : f2 v0 w = some o) : Rn S 2 0 [some (.ref v0)] [] w (none, o) := by
  unfold f2 at h
  refine rn_aload_n (ft2 0 rfl) rfl ?_
  refine rn_iconst (v := (0 : Int32)) (ft2 1 rfl) (by decide) ?_
  obtain ⟨w1, q2, h⟩ := ob_some h
  refine rn_putI (ft2 2 rfl) q2 ?_
  refine rn_aload_n (ft2 3 rfl) rfl ?_
  refine rn_iconst (v := (0 : Int32)) (ft2 4 rfl) (by decide) ?_
  obtain ⟨w3, q4, h⟩ := ob_some h
  refine rn_putI (ft2 5 rfl) q4 ?_
  refine rn_aload_n (ft2 6 rfl) rfl ?_
  refine rn_iconst (v := (-1 : Int32)) (ft2 7 rfl) (by decide) ?_
  obtain ⟨w5, q6, h⟩ := ob_some h
  refine rn_putI (ft2 8 rfl) q6 ?_
  cases h
  exact rn_vret pr2 (ft2 9 rfl)
/-- NineWheel$Sea.empty()V -/
theorem ft3 : ∀ (i : Nat) {q : Nat × XI}, cd3[i]? = some q → fetch 3 q.1 = some q.2 := ft_of (by decide +kernel)
theorem pr3 : pRt 3 = none := rfl
def f3_H32 (n : Nat)  (K20 : Wd → Option Wd) : Nat → Nat → Int32 → Wd → Option Wd
  | 0, _, _, _ => none
  | k + 1, v0, v1, w =>
    ob (getR w 6 v0 12) (fun x13 => ob (alen w x13) (fun x15 => (if x15 ≤ v1 then K20 w
      else ob (getR w 6 v0 12) (fun x17 => ob (astB w x17 v1 (0 : Int32)) (fun w19 => (fun (v0 : Nat) (v1 : Int32) w => f3_H32 n  K20 k v0 v1 w) v0 (v1 + (1 : Int32)) w19)))))
set_option maxRecDepth 10000 in
theorem rf3_H32 {S : Sc} (n : Nat)  (K20 : Wd → Option Wd)  (hK20 : ∀  (w : Wd) (o : Wd), K20 w = some o → Rn S 3 54 [none, none] [] w (none, o)) : ∀ (k : Nat) (v0 : Nat) (v1 : Int32) (w : Wd) (o : Wd), f3_H32 n  K20 k v0 v1 w = some o → Rn S 3 32 [some (.ref v0), some (.int v1)] [] w (none, o) := by
  intro k
  induction k with
  | zero =>
    intro v0 v1 w o h
    exact nomatch h
  | succ k ih =>
    intro v0 v1 w o h
    have hrec20 : ∀ (y0 : Nat) (y1 : Int32) (w : Wd) (o : Wd), (fun (v0 : Nat) (v1 : Int32) w => f3_H32 n  K20 k v0 v1 w) y0 y1 w = some o → Rn S 3 32 [some (.ref y0), some (.int y1)] [] w (none, o) := fun y0 y1 w o h => ih y0 y1 w o h
    unfold f3_H32 at h
    refine rn_iload_n (ft3 20 rfl) rfl ?_
    refine rn_aload_n (ft3 21 rfl) rfl ?_
    obtain ⟨x13, q14, h⟩ := ob_some h
    refine rn_getR (ft3 22 rfl) q14 ?_
    obtain ⟨x15, q16, h⟩ := ob_some h
    refine rn_alen (ft3 23 rfl) q16 ?_
    by_cases c21 : x15 ≤ v1
    · replace h := ifp c21 h
      refine rn_icmp_ge_t (ft3 24 rfl) c21 ?_
      exact rn_forget (ls := [none, none]) trivial (hK20 w _ h)
    · replace h := ifn c21 h
      refine rn_icmp_ge_f (ft3 24 rfl) c21 ?_
      refine rn_aload_n (ft3 25 rfl) rfl ?_
      obtain ⟨x17, q18, h⟩ := ob_some h
      refine rn_getR (ft3 26 rfl) q18 ?_
      refine rn_iload_n (ft3 27 rfl) rfl ?_
      refine rn_iconst (v := (0 : Int32)) (ft3 28 rfl) (by decide) ?_
      obtain ⟨w19, q20, h⟩ := ob_some h
      refine rn_bastore (ft3 29 rfl) q20 ?_
      refine rn_iinc (u := 1) (ls' := [some (.ref v0), some (.int (v1 + (1 : Int32)))]) (ft3 30 rfl) rfl (by decide) rfl ?_
      refine rn_goto (ft3 31 rfl) ?_
      exact rn_forget (ls := [some (.ref v0), some (.int (v1 + (1 : Int32)))]) (And.intro rfl (And.intro rfl trivial)) (hrec20 v0 (v1 + (1 : Int32)) w19 _ h)
def f3 (n : Nat) (v0 : Nat) (w : Wd) : Option Wd :=
  ob (putI w 6 v0 0 (0 : Int32)) (fun w1 => ob (putI w1 6 v0 1 (4 : Int32)) (fun w3 => ob (putI w3 6 v0 2 (0 : Int32)) (fun w5 => ob (putI w5 6 v0 3 (0 : Int32)) (fun w7 => ob (putI w7 6 v0 4 (0 : Int32)) (fun w9 => ob (putI w9 6 v0 5 (0 : Int32)) (fun w11 => f3_H32 n  (fun  (w22 : Wd) => some w22) n v0 (0 : Int32) w11))))))
set_option maxRecDepth 10000 in
theorem r3 {S : Sc} (n : Nat) (v0 : Nat) (w : Wd) (o : Wd) (h : f3 n v0 w = some o) : Rn S 3 0 [some (.ref v0), none] [] w (none, o) := by
  unfold f3 at h
  refine rn_aload_n (ft3 0 rfl) rfl ?_
  refine rn_iconst (v := (0 : Int32)) (ft3 1 rfl) (by decide) ?_
  obtain ⟨w1, q2, h⟩ := ob_some h
  refine rn_putI (ft3 2 rfl) q2 ?_
  refine rn_aload_n (ft3 3 rfl) rfl ?_
  refine rn_iconst (v := (4 : Int32)) (ft3 4 rfl) (by decide) ?_
  obtain ⟨w3, q4, h⟩ := ob_some h
  refine rn_putI (ft3 5 rfl) q4 ?_
  refine rn_aload_n (ft3 6 rfl) rfl ?_
  refine rn_iconst (v := (0 : Int32)) (ft3 7 rfl) (by decide) ?_
  obtain ⟨w5, q6, h⟩ := ob_some h
  refine rn_putI (ft3 8 rfl) q6 ?_
  refine rn_aload_n (ft3 9 rfl) rfl ?_
  refine rn_iconst (v := (0 : Int32)) (ft3 10 rfl) (by decide) ?_
  obtain ⟨w7, q8, h⟩ := ob_some h
  refine rn_putI (ft3 11 rfl) q8 ?_
  refine rn_aload_n (ft3 12 rfl) rfl ?_
  refine rn_iconst (v := (0 : Int32)) (ft3 13 rfl) (by decide) ?_
  obtain ⟨w9, q10, h⟩ := ob_some h
  refine rn_putI (ft3 14 rfl) q10 ?_
  refine rn_aload_n (ft3 15 rfl) rfl ?_
  refine rn_iconst (v := (0 : Int32)) (ft3 16 rfl) (by decide) ?_
  obtain ⟨w11, q12, h⟩ := ob_some h
  refine rn_putI (ft3 17 rfl) q12 ?_
  refine rn_iconst (v := (0 : Int32)) (ft3 18 rfl) (by decide) ?_
  refine rn_istore_n (ls' := [some (.ref v0), some (.int (0 : Int32))]) (ft3 19 rfl) rfl ?_
  refine rn_forget (ls := [some (.ref v0), some (.int (0 : Int32))]) (And.intro rfl (And.intro rfl trivial)) (rf3_H32 n  _  (fun  w22 o h => ?_) n v0 (0 : Int32) w11 _ h)
  cases h
  exact rn_vret pr3 (ft3 32 rfl)
/-- NineWheel$Text.byteAt(I)I -/
theorem ft4 : ∀ (i : Nat) {q : Nat × XI}, cd4[i]? = some q → fetch 4 q.1 = some q.2 := ft_of (by decide +kernel)
theorem pr4 : pRt 4 = some .int := rfl
def f4 (v0 : Nat) (v1 : Int32) (w : Wd) : Option (Int32 × Wd) :=
  (if v1 < 0 then some ((-1 : Int32), w)
    else ob (getI w 9 v0 1) (fun x1 => (if x1 ≤ v1 then some ((-1 : Int32), w)
      else ob (getR w 9 v0 0) (fun x3 => ob (alen w x3) (fun x5 => (if x5 ≤ v1 then some ((-1 : Int32), w)
        else ob (getR w 9 v0 0) (fun x7 => ob (aldB w x7 v1) (fun x9 => some ((x9 &&& (255 : Int32)), w)))))))))
set_option maxRecDepth 10000 in
theorem r4 {S : Sc} (v0 : Nat) (v1 : Int32) (w : Wd) (o : (Int32 × Wd)) (h : f4 v0 v1 w = some o) : Rn S 4 0 [some (.ref v0), some (.int v1)] [] w (some (.int o.1), o.2) := by
  unfold f4 at h
  refine rn_iload_n (ft4 0 rfl) rfl ?_
  by_cases c13 : v1 < 0
  · replace h := ifp c13 h
    refine rn_if_lt_t (ft4 1 rfl) c13 ?_
    refine rn_iconst (v := (-1 : Int32)) (ft4 18 rfl) (by decide) ?_
    cases h
    exact rn_iretI pr4 (ft4 19 rfl)
  · replace h := ifn c13 h
    refine rn_if_lt_f (ft4 1 rfl) c13 ?_
    refine rn_iload_n (ft4 2 rfl) rfl ?_
    refine rn_aload_n (ft4 3 rfl) rfl ?_
    obtain ⟨x1, q2, h⟩ := ob_some h
    refine rn_getI (ft4 4 rfl) (by decide) (by decide) q2 ?_
    by_cases c12 : x1 ≤ v1
    · replace h := ifp c12 h
      refine rn_icmp_ge_t (ft4 5 rfl) c12 ?_
      refine rn_iconst (v := (-1 : Int32)) (ft4 18 rfl) (by decide) ?_
      cases h
      exact rn_iretI pr4 (ft4 19 rfl)
    · replace h := ifn c12 h
      refine rn_icmp_ge_f (ft4 5 rfl) c12 ?_
      refine rn_iload_n (ft4 6 rfl) rfl ?_
      refine rn_aload_n (ft4 7 rfl) rfl ?_
      obtain ⟨x3, q4, h⟩ := ob_some h
      refine rn_getR (ft4 8 rfl) q4 ?_
      obtain ⟨x5, q6, h⟩ := ob_some h
      refine rn_alen (ft4 9 rfl) q6 ?_
      by_cases c11 : x5 ≤ v1
      · replace h := ifp c11 h
        refine rn_icmp_ge_t (ft4 10 rfl) c11 ?_
        refine rn_iconst (v := (-1 : Int32)) (ft4 18 rfl) (by decide) ?_
        cases h
        exact rn_iretI pr4 (ft4 19 rfl)
      · replace h := ifn c11 h
        refine rn_icmp_ge_f (ft4 10 rfl) c11 ?_
        refine rn_aload_n (ft4 11 rfl) rfl ?_
        obtain ⟨x7, q8, h⟩ := ob_some h
        refine rn_getR (ft4 12 rfl) q8 ?_
        refine rn_iload_n (ft4 13 rfl) rfl ?_
        obtain ⟨x9, q10, h⟩ := ob_some h
        refine rn_baload (ft4 14 rfl) q10 ?_
        refine rn_sipush (v := (255 : Int32)) (ft4 15 rfl) (by decide) ?_
        refine rn_iand (ft4 16 rfl) ?_
        refine rn_goto (ft4 17 rfl) ?_
        cases h
        exact rn_iretI pr4 (ft4 19 rfl)
/-- java/lang/String.coder()B -/
theorem ft5 : ∀ (i : Nat) {q : Nat × XI}, cd5[i]? = some q → fetch 5 q.1 = some q.2 := ft_of (by decide +kernel)
theorem pr5 : pRt 5 = some .byte := rfl
def f5 (v0 : UInt32) (w : Wd) : Option (Int32 × Wd) :=
  (if 16 ≤ UInt32.toNat v0 ∧ UInt32.toNat v0 < 32 then some ((0 : Int32), w) else none)
set_option maxRecDepth 10000 in
theorem r5 {S : Sc} (v0 : UInt32) (w : Wd) (o : (Int32 × Wd)) (h : f5 v0 w = some o) : Rn S 5 0 [some (.float v0)] [] w (some (.int o.1), o.2) := by
  unfold f5 at h
  refine rn_gets (v := .int 1) (ft5 0 rfl) rfl ?_
  refine rn_if_eq_f (ft5 1 rfl) (by decide) ?_
  refine rn_aload_nS (ft5 2 rfl) rfl ?_
  obtain ⟨g1, h⟩ := ifg h
  refine rn_getSc (ft5 3 rfl) g1 ?_
  refine rn_goto (ft5 4 rfl) ?_
  cases h
  exact rn_iretB pr5 rfl (ft5 6 rfl)
/-- java/lang/String.isLatin1()Z -/
theorem ft6 : ∀ (i : Nat) {q : Nat × XI}, cd6[i]? = some q → fetch 6 q.1 = some q.2 := ft_of (by decide +kernel)
theorem pr6 : pRt 6 = some .boolean := rfl
def f6 (v0 : UInt32) (w : Wd) : Option (Int32 × Wd) :=
  (if 16 ≤ UInt32.toNat v0 ∧ UInt32.toNat v0 < 32 then some ((1 : Int32), w) else none)
set_option maxRecDepth 10000 in
theorem r6 {S : Sc} (v0 : UInt32) (w : Wd) (o : (Int32 × Wd)) (h : f6 v0 w = some o) : Rn S 6 0 [some (.float v0)] [] w (some (.int o.1), o.2) := by
  unfold f6 at h
  refine rn_gets (v := .int 1) (ft6 0 rfl) rfl ?_
  refine rn_if_eq_f (ft6 1 rfl) (by decide) ?_
  refine rn_aload_nS (ft6 2 rfl) rfl ?_
  obtain ⟨g1, h⟩ := ifg h
  refine rn_getSc (ft6 3 rfl) g1 ?_
  refine rn_if_ne_f (ft6 4 rfl) (by decide) ?_
  refine rn_iconst (v := (1 : Int32)) (ft6 5 rfl) (by decide) ?_
  refine rn_goto (ft6 6 rfl) ?_
  cases h
  exact rn_iretZ pr6 (by decide) (ft6 8 rfl)
/-- jdk/internal/util/Preconditions.checkIndex(IILjava/util/function/BiFunction;)I -/
theorem ft7 : ∀ (i : Nat) {q : Nat × XI}, cd7[i]? = some q → fetch 7 q.1 = some q.2 := ft_of (by decide +kernel)
theorem pr7 : pRt 7 = some .int := rfl
def f7_J9  (v0 : Int32) (v1 : Int32) (w : Wd) : Option (Int32 × Wd) :=
  none
set_option maxRecDepth 10000 in
theorem rf7_J9 {S : Sc}  (v0 : Int32) (v1 : Int32) (w : Wd) (o : (Int32 × Wd))  (h : f7_J9  v0 v1 w = some o) : Rn S 7 9 [some (.int v0), some (.int v1), some (.float 4)] [] w (some (.int o.1), o.2) := by
  unfold f7_J9 at h
  refine rn_aload_nS (ft7 5 rfl) rfl ?_
  refine rn_iload_n (ft7 6 rfl) rfl ?_
  refine rn_iload_n (ft7 7 rfl) rfl ?_
  exact nomatch h
def f7 (v0 : Int32) (v1 : Int32) (w : Wd) : Option (Int32 × Wd) :=
  (if v0 < 0 then f7_J9  v0 v1 w
    else (if v0 < v1 then some (v0, w)
      else f7_J9  v0 v1 w))
set_option maxRecDepth 10000 in
theorem r7 {S : Sc} (v0 : Int32) (v1 : Int32) (w : Wd) (o : (Int32 × Wd)) (h : f7 v0 v1 w = some o) : Rn S 7 0 [some (.int v0), some (.int v1), some (.float 4)] [] w (some (.int o.1), o.2) := by
  unfold f7 at h
  refine rn_iload_n (ft7 0 rfl) rfl ?_
  by_cases c2 : v0 < 0
  · replace h := ifp c2 h
    refine rn_if_lt_t (ft7 1 rfl) c2 ?_
    exact rn_forget (ls := [some (.int v0), some (.int v1), some (.float 4)]) (And.intro rfl (And.intro rfl (And.intro rfl trivial))) (rf7_J9  v0 v1 w _  h)
  · replace h := ifn c2 h
    refine rn_if_lt_f (ft7 1 rfl) c2 ?_
    refine rn_iload_n (ft7 2 rfl) rfl ?_
    refine rn_iload_n (ft7 3 rfl) rfl ?_
    by_cases c1 : v0 < v1
    · replace h := ifp c1 h
      refine rn_icmp_lt_t (ft7 4 rfl) c1 ?_
      refine rn_iload_n (ft7 10 rfl) rfl ?_
      cases h
      exact rn_iretI pr7 (ft7 11 rfl)
    · replace h := ifn c1 h
      refine rn_icmp_lt_f (ft7 4 rfl) c1 ?_
      exact rn_forget (ls := [some (.int v0), some (.int v1), some (.float 4)]) (And.intro rfl (And.intro rfl (And.intro rfl trivial))) (rf7_J9  v0 v1 w _  h)
/-- NineWheel$Text.fail(II)V -/
theorem ft8 : ∀ (i : Nat) {q : Nat × XI}, cd8[i]? = some q → fetch 8 q.1 = some q.2 := ft_of (by decide +kernel)
theorem pr8 : pRt 8 = none := rfl
def f8 (v0 : Nat) (v1 : Int32) (v2 : Int32) (w : Wd) : Option Wd :=
  ob (getI w 9 v0 4) (fun x1 => (if x1 = 0 then ob (putI w 9 v0 4 v1) (fun w3 => ob (putI w3 9 v0 5 v2) (fun w5 => some w5))
    else some w))
set_option maxRecDepth 10000 in
theorem r8 {S : Sc} (v0 : Nat) (v1 : Int32) (v2 : Int32) (w : Wd) (o : Wd) (h : f8 v0 v1 v2 w = some o) : Rn S 8 0 [some (.ref v0), some (.int v1), some (.int v2)] [] w (none, o) := by
  unfold f8 at h
  refine rn_aload_n (ft8 0 rfl) rfl ?_
  obtain ⟨x1, q2, h⟩ := ob_some h
  refine rn_getI (ft8 1 rfl) (by decide) (by decide) q2 ?_
  by_cases c7 : x1 = 0
  · replace h := ifp c7 h
    refine rn_if_eq_t (ft8 2 rfl) c7 ?_
    refine rn_aload_n (ft8 4 rfl) rfl ?_
    refine rn_iload_n (ft8 5 rfl) rfl ?_
    obtain ⟨w3, q4, h⟩ := ob_some h
    refine rn_putI (ft8 6 rfl) q4 ?_
    refine rn_aload_n (ft8 7 rfl) rfl ?_
    refine rn_iload_n (ft8 8 rfl) rfl ?_
    obtain ⟨w5, q6, h⟩ := ob_some h
    refine rn_putI (ft8 9 rfl) q6 ?_
    cases h
    exact rn_vret pr8 (ft8 10 rfl)
  · replace h := ifn c7 h
    refine rn_if_eq_f (ft8 2 rfl) c7 ?_
    cases h
    exact rn_vret pr8 (ft8 3 rfl)
/-- NineWheel$Sea.isRock(I)Z -/
theorem ft9 : ∀ (i : Nat) {q : Nat × XI}, cd9[i]? = some q → fetch 9 q.1 = some q.2 := ft_of (by decide +kernel)
theorem pr9 : pRt 9 = some .boolean := rfl
def f9 (v0 : Nat) (v1 : Int32) (w : Wd) : Option (Int32 × Wd) :=
  (if v1 < 0 then some ((0 : Int32), w)
    else (if (64 : Int32) ≤ v1 then some ((0 : Int32), w)
      else ob (getR w 6 v0 12) (fun x1 => ob (aldB w x1 v1) (fun x3 => (if x3 = 0 then some ((0 : Int32), w)
        else some ((1 : Int32), w))))))
set_option maxRecDepth 10000 in
theorem r9 {S : Sc} (v0 : Nat) (v1 : Int32) (w : Wd) (o : (Int32 × Wd)) (h : f9 v0 v1 w = some o) : Rn S 9 0 [some (.ref v0), some (.int v1)] [] w (some (.int o.1), o.2) := by
  unfold f9 at h
  refine rn_iload_n (ft9 0 rfl) rfl ?_
  by_cases c7 : v1 < 0
  · replace h := ifp c7 h
    refine rn_if_lt_t (ft9 1 rfl) c7 ?_
    refine rn_iconst (v := (0 : Int32)) (ft9 12 rfl) (by decide) ?_
    cases h
    exact rn_iretZ pr9 (by decide) (ft9 13 rfl)
  · replace h := ifn c7 h
    refine rn_if_lt_f (ft9 1 rfl) c7 ?_
    refine rn_iload_n (ft9 2 rfl) rfl ?_
    refine rn_bipush (v := (64 : Int32)) (ft9 3 rfl) (by decide) ?_
    by_cases c6 : (64 : Int32) ≤ v1
    · replace h := ifp c6 h
      refine rn_icmp_ge_t (ft9 4 rfl) c6 ?_
      refine rn_iconst (v := (0 : Int32)) (ft9 12 rfl) (by decide) ?_
      cases h
      exact rn_iretZ pr9 (by decide) (ft9 13 rfl)
    · replace h := ifn c6 h
      refine rn_icmp_ge_f (ft9 4 rfl) c6 ?_
      refine rn_aload_n (ft9 5 rfl) rfl ?_
      obtain ⟨x1, q2, h⟩ := ob_some h
      refine rn_getR (ft9 6 rfl) q2 ?_
      refine rn_iload_n (ft9 7 rfl) rfl ?_
      obtain ⟨x3, q4, h⟩ := ob_some h
      refine rn_baload (ft9 8 rfl) q4 ?_
      by_cases c5 : x3 = 0
      · replace h := ifp c5 h
        refine rn_if_eq_t (ft9 9 rfl) c5 ?_
        refine rn_iconst (v := (0 : Int32)) (ft9 12 rfl) (by decide) ?_
        cases h
        exact rn_iretZ pr9 (by decide) (ft9 13 rfl)
      · replace h := ifn c5 h
        refine rn_if_eq_f (ft9 9 rfl) c5 ?_
        refine rn_iconst (v := (1 : Int32)) (ft9 10 rfl) (by decide) ?_
        refine rn_goto (ft9 11 rfl) ?_
        cases h
        exact rn_iretZ pr9 (by decide) (ft9 13 rfl)
/-- NineWheel.noCell(I)Z -/
theorem ft10 : ∀ (i : Nat) {q : Nat × XI}, cd10[i]? = some q → fetch 10 q.1 = some q.2 := ft_of (by decide +kernel)
theorem pr10 : pRt 10 = some .boolean := rfl
def f10 (v0 : Int32) (w : Wd) : Option (Int32 × Wd) :=
  (if v0 < 0 then some ((1 : Int32), w)
    else (if v0 < (64 : Int32) then some ((0 : Int32), w)
      else some ((1 : Int32), w)))
set_option maxRecDepth 10000 in
theorem r10 {S : Sc} (v0 : Int32) (w : Wd) (o : (Int32 × Wd)) (h : f10 v0 w = some o) : Rn S 10 0 [some (.int v0)] [] w (some (.int o.1), o.2) := by
  unfold f10 at h
  refine rn_iload_n (ft10 0 rfl) rfl ?_
  by_cases c2 : v0 < 0
  · replace h := ifp c2 h
    refine rn_if_lt_t (ft10 1 rfl) c2 ?_
    refine rn_iconst (v := (1 : Int32)) (ft10 5 rfl) (by decide) ?_
    refine rn_goto (ft10 6 rfl) ?_
    cases h
    exact rn_iretZ pr10 (by decide) (ft10 8 rfl)
  · replace h := ifn c2 h
    refine rn_if_lt_f (ft10 1 rfl) c2 ?_
    refine rn_iload_n (ft10 2 rfl) rfl ?_
    refine rn_bipush (v := (64 : Int32)) (ft10 3 rfl) (by decide) ?_
    by_cases c1 : v0 < (64 : Int32)
    · replace h := ifp c1 h
      refine rn_icmp_lt_t (ft10 4 rfl) c1 ?_
      refine rn_iconst (v := (0 : Int32)) (ft10 7 rfl) (by decide) ?_
      cases h
      exact rn_iretZ pr10 (by decide) (ft10 8 rfl)
    · replace h := ifn c1 h
      refine rn_icmp_lt_f (ft10 4 rfl) c1 ?_
      refine rn_iconst (v := (1 : Int32)) (ft10 5 rfl) (by decide) ?_
      refine rn_goto (ft10 6 rfl) ?_
      cases h
      exact rn_iretZ pr10 (by decide) (ft10 8 rfl)
/-- NineWheel$Sea.addSort(I)I -/
theorem ft11 : ∀ (i : Nat) {q : Nat × XI}, cd11[i]? = some q → fetch 11 q.1 = some q.2 := ft_of (by decide +kernel)
theorem pr11 : pRt 11 = some .int := rfl
def f11_H33 (n : Nat)  (K20 : Nat → Wd → Option (Int32 × Wd)) : Nat → Nat → Int32 → Wd → Option (Int32 × Wd)
  | 0, _, _, _ => none
  | k + 1, v0, v2, w =>
    (if (64 : Int32) ≤ v2 then K20 v0 w
      else ob (getR w 6 v0 11) (fun x15 => ob (getI w 6 v0 5) (fun x17 => ob (aldR w x15 x17) (fun x19 => ob (astI w x19 v2 (0 : Int32)) (fun w21 => (fun (v0 : Nat) (v2 : Int32) w => f11_H33 n  K20 k v0 v2 w) v0 (v2 + (1 : Int32)) w21)))))
set_option maxRecDepth 10000 in
theorem rf11_H33 {S : Sc} (n : Nat)  (K20 : Nat → Wd → Option (Int32 × Wd))  (hK20 : ∀ (y0 : Nat) (w : Wd) (o : (Int32 × Wd)), K20 y0 w = some o → Rn S 11 57 [some (.ref y0), none, none] [] w (some (.int o.1), o.2)) : ∀ (k : Nat) (v0 : Nat) (v2 : Int32) (w : Wd) (o : (Int32 × Wd)), f11_H33 n  K20 k v0 v2 w = some o → Rn S 11 33 [some (.ref v0), none, some (.int v2)] [] w (some (.int o.1), o.2) := by
  intro k
  induction k with
  | zero =>
    intro v0 v2 w o h
    exact nomatch h
  | succ k ih =>
    intro v0 v2 w o h
    have hrec20 : ∀ (y0 : Nat) (y2 : Int32) (w : Wd) (o : (Int32 × Wd)), (fun (v0 : Nat) (v2 : Int32) w => f11_H33 n  K20 k v0 v2 w) y0 y2 w = some o → Rn S 11 33 [some (.ref y0), none, some (.int y2)] [] w (some (.int o.1), o.2) := fun y0 y2 w o h => ih y0 y2 w o h
    unfold f11_H33 at h
    refine rn_iload_n (ft11 20 rfl) rfl ?_
    refine rn_bipush (v := (64 : Int32)) (ft11 21 rfl) (by decide) ?_
    by_cases c23 : (64 : Int32) ≤ v2
    · replace h := ifp c23 h
      refine rn_icmp_ge_t (ft11 22 rfl) c23 ?_
      exact rn_forget (ls := [some (.ref v0), none, none]) (And.intro rfl trivial) (hK20 v0 w _ h)
    · replace h := ifn c23 h
      refine rn_icmp_ge_f (ft11 22 rfl) c23 ?_
      refine rn_aload_n (ft11 23 rfl) rfl ?_
      obtain ⟨x15, q16, h⟩ := ob_some h
      refine rn_getR (ft11 24 rfl) q16 ?_
      refine rn_aload_n (ft11 25 rfl) rfl ?_
      obtain ⟨x17, q18, h⟩ := ob_some h
      refine rn_getI (ft11 26 rfl) (by decide) (by decide) q18 ?_
      obtain ⟨x19, q20, h⟩ := ob_some h
      refine rn_aaload (ft11 27 rfl) q20 ?_
      refine rn_iload_n (ft11 28 rfl) rfl ?_
      refine rn_iconst (v := (0 : Int32)) (ft11 29 rfl) (by decide) ?_
      obtain ⟨w21, q22, h⟩ := ob_some h
      refine rn_iastore (ft11 30 rfl) q22 ?_
      refine rn_iinc (u := 1) (ls' := [some (.ref v0), none, some (.int (v2 + (1 : Int32)))]) (ft11 31 rfl) rfl (by decide) rfl ?_
      refine rn_goto (ft11 32 rfl) ?_
      exact rn_forget (ls := [some (.ref v0), none, some (.int (v2 + (1 : Int32)))]) (And.intro rfl (And.intro rfl trivial)) (hrec20 v0 (v2 + (1 : Int32)) w21 _ h)
def f11 (n : Nat) (v0 : Nat) (v1 : Int32) (w : Wd) : Option (Int32 × Wd) :=
  ob (getI w 6 v0 5) (fun x1 => (if x1 < (6 : Int32) then ob (getR w 6 v0 8) (fun x3 => ob (getI w 6 v0 5) (fun x5 => ob (astI w x3 x5 v1) (fun w7 => ob (getR w7 6 v0 9) (fun x9 => ob (getI w7 6 v0 5) (fun x11 => ob (astI w7 x9 x11 (0 : Int32)) (fun w13 => f11_H33 n  (fun (e0_24 : Nat) (w24 : Wd) => ob (getI w24 6 e0_24 5) (fun x25 => ob (putI w24 6 e0_24 5 (x25 + (1 : Int32))) (fun w27 => ob (getI w27 6 e0_24 5) (fun x29 => some ((x29 - (1 : Int32)), w27))))) n v0 (0 : Int32) w13))))))
    else some ((-1 : Int32), w)))
set_option maxRecDepth 10000 in
theorem r11 {S : Sc} (n : Nat) (v0 : Nat) (v1 : Int32) (w : Wd) (o : (Int32 × Wd)) (h : f11 n v0 v1 w = some o) : Rn S 11 0 [some (.ref v0), some (.int v1), none] [] w (some (.int o.1), o.2) := by
  unfold f11 at h
  refine rn_aload_n (ft11 0 rfl) rfl ?_
  obtain ⟨x1, q2, h⟩ := ob_some h
  refine rn_getI (ft11 1 rfl) (by decide) (by decide) q2 ?_
  refine rn_bipush (v := (6 : Int32)) (ft11 2 rfl) (by decide) ?_
  by_cases c31 : x1 < (6 : Int32)
  · replace h := ifp c31 h
    refine rn_icmp_lt_t (ft11 3 rfl) c31 ?_
    refine rn_aload_n (ft11 6 rfl) rfl ?_
    obtain ⟨x3, q4, h⟩ := ob_some h
    refine rn_getR (ft11 7 rfl) q4 ?_
    refine rn_aload_n (ft11 8 rfl) rfl ?_
    obtain ⟨x5, q6, h⟩ := ob_some h
    refine rn_getI (ft11 9 rfl) (by decide) (by decide) q6 ?_
    refine rn_iload_n (ft11 10 rfl) rfl ?_
    obtain ⟨w7, q8, h⟩ := ob_some h
    refine rn_iastore (ft11 11 rfl) q8 ?_
    refine rn_aload_n (ft11 12 rfl) rfl ?_
    obtain ⟨x9, q10, h⟩ := ob_some h
    refine rn_getR (ft11 13 rfl) q10 ?_
    refine rn_aload_n (ft11 14 rfl) rfl ?_
    obtain ⟨x11, q12, h⟩ := ob_some h
    refine rn_getI (ft11 15 rfl) (by decide) (by decide) q12 ?_
    refine rn_iconst (v := (0 : Int32)) (ft11 16 rfl) (by decide) ?_
    obtain ⟨w13, q14, h⟩ := ob_some h
    refine rn_iastore (ft11 17 rfl) q14 ?_
    refine rn_iconst (v := (0 : Int32)) (ft11 18 rfl) (by decide) ?_
    refine rn_istore_n (ls' := [some (.ref v0), some (.int v1), some (.int (0 : Int32))]) (ft11 19 rfl) rfl ?_
    refine rn_forget (ls := [some (.ref v0), none, some (.int (0 : Int32))]) (And.intro rfl (And.intro rfl trivial)) (rf11_H33 n  _  (fun e0_24 w24 o h => ?_) n v0 (0 : Int32) w13 _ h)
    refine rn_aload_n (ft11 33 rfl) rfl ?_
    refine rn_dup (ft11 34 rfl) rfl ?_
    obtain ⟨x25, q26, h⟩ := ob_some h
    refine rn_getI (ft11 35 rfl) (by decide) (by decide) q26 ?_
    refine rn_iconst (v := (1 : Int32)) (ft11 36 rfl) (by decide) ?_
    refine rn_iadd (ft11 37 rfl) ?_
    obtain ⟨w27, q28, h⟩ := ob_some h
    refine rn_putI (ft11 38 rfl) q28 ?_
    refine rn_aload_n (ft11 39 rfl) rfl ?_
    obtain ⟨x29, q30, h⟩ := ob_some h
    refine rn_getI (ft11 40 rfl) (by decide) (by decide) q30 ?_
    refine rn_iconst (v := (1 : Int32)) (ft11 41 rfl) (by decide) ?_
    refine rn_isub (ft11 42 rfl) ?_
    cases h
    exact rn_iretI pr11 (ft11 43 rfl)
  · replace h := ifn c31 h
    refine rn_icmp_lt_f (ft11 3 rfl) c31 ?_
    refine rn_iconst (v := (-1 : Int32)) (ft11 4 rfl) (by decide) ?_
    cases h
    exact rn_iretI pr11 (ft11 5 rfl)
/-- NineWheel$Sea.isSort(I)Z -/
theorem ft12 : ∀ (i : Nat) {q : Nat × XI}, cd12[i]? = some q → fetch 12 q.1 = some q.2 := ft_of (by decide +kernel)
theorem pr12 : pRt 12 = some .boolean := rfl
def f12 (v0 : Nat) (v1 : Int32) (w : Wd) : Option (Int32 × Wd) :=
  (if v1 < 0 then some ((0 : Int32), w)
    else ob (getI w 6 v0 5) (fun x1 => (if x1 ≤ v1 then some ((0 : Int32), w)
      else (if (6 : Int32) ≤ v1 then some ((0 : Int32), w)
        else some ((1 : Int32), w)))))
set_option maxRecDepth 10000 in
theorem r12 {S : Sc} (v0 : Nat) (v1 : Int32) (w : Wd) (o : (Int32 × Wd)) (h : f12 v0 v1 w = some o) : Rn S 12 0 [some (.ref v0), some (.int v1)] [] w (some (.int o.1), o.2) := by
  unfold f12 at h
  refine rn_iload_n (ft12 0 rfl) rfl ?_
  by_cases c5 : v1 < 0
  · replace h := ifp c5 h
    refine rn_if_lt_t (ft12 1 rfl) c5 ?_
    refine rn_iconst (v := (0 : Int32)) (ft12 11 rfl) (by decide) ?_
    cases h
    exact rn_iretZ pr12 (by decide) (ft12 12 rfl)
  · replace h := ifn c5 h
    refine rn_if_lt_f (ft12 1 rfl) c5 ?_
    refine rn_iload_n (ft12 2 rfl) rfl ?_
    refine rn_aload_n (ft12 3 rfl) rfl ?_
    obtain ⟨x1, q2, h⟩ := ob_some h
    refine rn_getI (ft12 4 rfl) (by decide) (by decide) q2 ?_
    by_cases c4 : x1 ≤ v1
    · replace h := ifp c4 h
      refine rn_icmp_ge_t (ft12 5 rfl) c4 ?_
      refine rn_iconst (v := (0 : Int32)) (ft12 11 rfl) (by decide) ?_
      cases h
      exact rn_iretZ pr12 (by decide) (ft12 12 rfl)
    · replace h := ifn c4 h
      refine rn_icmp_ge_f (ft12 5 rfl) c4 ?_
      refine rn_iload_n (ft12 6 rfl) rfl ?_
      refine rn_bipush (v := (6 : Int32)) (ft12 7 rfl) (by decide) ?_
      by_cases c3 : (6 : Int32) ≤ v1
      · replace h := ifp c3 h
        refine rn_icmp_ge_t (ft12 8 rfl) c3 ?_
        refine rn_iconst (v := (0 : Int32)) (ft12 11 rfl) (by decide) ?_
        cases h
        exact rn_iretZ pr12 (by decide) (ft12 12 rfl)
      · replace h := ifn c3 h
        refine rn_icmp_ge_f (ft12 8 rfl) c3 ?_
        refine rn_iconst (v := (1 : Int32)) (ft12 9 rfl) (by decide) ?_
        refine rn_goto (ft12 10 rfl) ?_
        cases h
        exact rn_iretZ pr12 (by decide) (ft12 12 rfl)
/-- NineWheel$Sea.become(LNineWheel$Sea;)V -/
theorem ft13 : ∀ (i : Nat) {q : Nat × XI}, cd13[i]? = some q → fetch 13 q.1 = some q.2 := ft_of (by decide +kernel)
theorem pr13 : pRt 13 = none := rfl
def f13_H66 (n : Nat)  (K34 : Nat → Nat → Wd → Option Wd) : Nat → Nat → Nat → Int32 → Wd → Option Wd
  | 0, _, _, _, _ => none
  | k + 1, v0, v1, v2, w =>
    (if (64 : Int32) ≤ v2 then K34 v0 v1 w
      else ob (getR w 6 v0 12) (fun x33 => ob (getR w 6 v1 12) (fun x35 => ob (aldB w x35 v2) (fun x37 => ob (astB w x33 v2 x37) (fun w39 => (fun (v0 : Nat) (v1 : Nat) (v2 : Int32) w => f13_H66 n  K34 k v0 v1 v2 w) v0 v1 (v2 + (1 : Int32)) w39)))))
set_option maxRecDepth 10000 in
theorem rf13_H66 {S : Sc} (n : Nat)  (K34 : Nat → Nat → Wd → Option Wd)  (hK34 : ∀ (y0 : Nat) (y1 : Nat) (w : Wd) (o : Wd), K34 y0 y1 w = some o → Rn S 13 90 [some (.ref y0), some (.ref y1), none, none] [] w (none, o)) : ∀ (k : Nat) (v0 : Nat) (v1 : Nat) (v2 : Int32) (w : Wd) (o : Wd), f13_H66 n  K34 k v0 v1 v2 w = some o → Rn S 13 66 [some (.ref v0), some (.ref v1), some (.int v2), none] [] w (none, o) := by
  intro k
  induction k with
  | zero =>
    intro v0 v1 v2 w o h
    exact nomatch h
  | succ k ih =>
    intro v0 v1 v2 w o h
    have hrec34 : ∀ (y0 : Nat) (y1 : Nat) (y2 : Int32) (w : Wd) (o : Wd), (fun (v0 : Nat) (v1 : Nat) (v2 : Int32) w => f13_H66 n  K34 k v0 v1 v2 w) y0 y1 y2 w = some o → Rn S 13 66 [some (.ref y0), some (.ref y1), some (.int y2), none] [] w (none, o) := fun y0 y1 y2 w o h => ih y0 y1 y2 w o h
    unfold f13_H66 at h
    refine rn_iload_n (ft13 34 rfl) rfl ?_
    refine rn_bipush (v := (64 : Int32)) (ft13 35 rfl) (by decide) ?_
    by_cases c41 : (64 : Int32) ≤ v2
    · replace h := ifp c41 h
      refine rn_icmp_ge_t (ft13 36 rfl) c41 ?_
      exact rn_forget (ls := [some (.ref v0), some (.ref v1), none, none]) (And.intro rfl (And.intro rfl trivial)) (hK34 v0 v1 w _ h)
    · replace h := ifn c41 h
      refine rn_icmp_ge_f (ft13 36 rfl) c41 ?_
      refine rn_aload_n (ft13 37 rfl) rfl ?_
      obtain ⟨x33, q34, h⟩ := ob_some h
      refine rn_getR (ft13 38 rfl) q34 ?_
      refine rn_iload_n (ft13 39 rfl) rfl ?_
      refine rn_aload_n (ft13 40 rfl) rfl ?_
      obtain ⟨x35, q36, h⟩ := ob_some h
      refine rn_getR (ft13 41 rfl) q36 ?_
      refine rn_iload_n (ft13 42 rfl) rfl ?_
      obtain ⟨x37, q38, h⟩ := ob_some h
      refine rn_baload (ft13 43 rfl) q38 ?_
      obtain ⟨w39, q40, h⟩ := ob_some h
      refine rn_bastore (ft13 44 rfl) q40 ?_
      refine rn_iinc (u := 1) (ls' := [some (.ref v0), some (.ref v1), some (.int (v2 + (1 : Int32))), none]) (ft13 45 rfl) rfl (by decide) rfl ?_
      refine rn_goto (ft13 46 rfl) ?_
      exact rn_forget (ls := [some (.ref v0), some (.ref v1), some (.int (v2 + (1 : Int32))), none]) (And.intro rfl (And.intro rfl (And.intro rfl trivial))) (hrec34 v0 v1 (v2 + (1 : Int32)) w39 _ h)
def f13_H136 (n : Nat) (rec49 : Nat → Nat → Int32 → Wd → Option Wd) (K49 : Wd → Option Wd) (K78 : Nat → Nat → Int32 → Wd → Option Wd) : Nat → Nat → Nat → Int32 → Int32 → Wd → Option Wd
  | 0, _, _, _, _, _ => none
  | k + 1, v0, v1, v2, v3, w =>
    (if (64 : Int32) ≤ v3 then K78 v0 v1 v2 w
      else ob (getR w 6 v0 11) (fun x67 => ob (aldR w x67 v2) (fun x69 => ob (getR w 6 v1 11) (fun x71 => ob (aldR w x71 v2) (fun x73 => ob (aldI w x73 v3) (fun x75 => ob (astI w x69 v3 x75) (fun w77 => (fun (v0 : Nat) (v1 : Nat) (v2 : Int32) (v3 : Int32) w => f13_H136 n rec49 K49 K78 k v0 v1 v2 v3 w) v0 v1 v2 (v3 + (1 : Int32)) w77)))))))
set_option maxRecDepth 10000 in
theorem rf13_H136 {S : Sc} (n : Nat) (rec49 : Nat → Nat → Int32 → Wd → Option Wd) (K49 : Wd → Option Wd) (K78 : Nat → Nat → Int32 → Wd → Option Wd) (hrec49 : ∀ (y0 : Nat) (y1 : Nat) (y2 : Int32) (w : Wd) (o : Wd), rec49 y0 y1 y2 w = some o → Rn S 13 92 [some (.ref y0), some (.ref y1), some (.int y2), none] [] w (none, o)) (hK49 : ∀  (w : Wd) (o : Wd), K49 w = some o → Rn S 13 170 [none, none, none, none] [] w (none, o)) (hK78 : ∀ (y0 : Nat) (y1 : Nat) (y2 : Int32) (w : Wd) (o : Wd), K78 y0 y1 y2 w = some o → Rn S 13 164 [some (.ref y0), some (.ref y1), some (.int y2), none] [] w (none, o)) : ∀ (k : Nat) (v0 : Nat) (v1 : Nat) (v2 : Int32) (v3 : Int32) (w : Wd) (o : Wd), f13_H136 n rec49 K49 K78 k v0 v1 v2 v3 w = some o → Rn S 13 136 [some (.ref v0), some (.ref v1), some (.int v2), some (.int v3)] [] w (none, o) := by
  intro k
  induction k with
  | zero =>
    intro v0 v1 v2 v3 w o h
    exact nomatch h
  | succ k ih =>
    intro v0 v1 v2 v3 w o h
    have hrec78 : ∀ (y0 : Nat) (y1 : Nat) (y2 : Int32) (y3 : Int32) (w : Wd) (o : Wd), (fun (v0 : Nat) (v1 : Nat) (v2 : Int32) (v3 : Int32) w => f13_H136 n rec49 K49 K78 k v0 v1 v2 v3 w) y0 y1 y2 y3 w = some o → Rn S 13 136 [some (.ref y0), some (.ref y1), some (.int y2), some (.int y3)] [] w (none, o) := fun y0 y1 y2 y3 w o h => ih y0 y1 y2 y3 w o h
    unfold f13_H136 at h
    refine rn_iload_n (ft13 78 rfl) rfl ?_
    refine rn_bipush (v := (64 : Int32)) (ft13 79 rfl) (by decide) ?_
    by_cases c79 : (64 : Int32) ≤ v3
    · replace h := ifp c79 h
      refine rn_icmp_ge_t (ft13 80 rfl) c79 ?_
      exact rn_forget (ls := [some (.ref v0), some (.ref v1), some (.int v2), none]) (And.intro rfl (And.intro rfl (And.intro rfl trivial))) (hK78 v0 v1 v2 w _ h)
    · replace h := ifn c79 h
      refine rn_icmp_ge_f (ft13 80 rfl) c79 ?_
      refine rn_aload_n (ft13 81 rfl) rfl ?_
      obtain ⟨x67, q68, h⟩ := ob_some h
      refine rn_getR (ft13 82 rfl) q68 ?_
      refine rn_iload_n (ft13 83 rfl) rfl ?_
      obtain ⟨x69, q70, h⟩ := ob_some h
      refine rn_aaload (ft13 84 rfl) q70 ?_
      refine rn_iload_n (ft13 85 rfl) rfl ?_
      refine rn_aload_n (ft13 86 rfl) rfl ?_
      obtain ⟨x71, q72, h⟩ := ob_some h
      refine rn_getR (ft13 87 rfl) q72 ?_
      refine rn_iload_n (ft13 88 rfl) rfl ?_
      obtain ⟨x73, q74, h⟩ := ob_some h
      refine rn_aaload (ft13 89 rfl) q74 ?_
      refine rn_iload_n (ft13 90 rfl) rfl ?_
      obtain ⟨x75, q76, h⟩ := ob_some h
      refine rn_iaload (ft13 91 rfl) q76 ?_
      obtain ⟨w77, q78, h⟩ := ob_some h
      refine rn_iastore (ft13 92 rfl) q78 ?_
      refine rn_iinc (u := 1) (ls' := [some (.ref v0), some (.ref v1), some (.int v2), some (.int (v3 + (1 : Int32)))]) (ft13 93 rfl) rfl (by decide) rfl ?_
      refine rn_goto (ft13 94 rfl) ?_
      exact rn_forget (ls := [some (.ref v0), some (.ref v1), some (.int v2), some (.int (v3 + (1 : Int32)))]) (And.intro rfl (And.intro rfl (And.intro rfl (And.intro rfl trivial)))) (hrec78 v0 v1 v2 (v3 + (1 : Int32)) w77 _ h)
def f13_H92 (n : Nat)  (K49 : Wd → Option Wd) : Nat → Nat → Nat → Int32 → Wd → Option Wd
  | 0, _, _, _, _ => none
  | k + 1, v0, v1, v2, w =>
    (if (6 : Int32) ≤ v2 then K49 w
      else ob (getR w 6 v0 8) (fun x43 => ob (getR w 6 v1 8) (fun x45 => ob (aldI w x45 v2) (fun x47 => ob (astI w x43 v2 x47) (fun w49 => ob (getR w49 6 v0 9) (fun x51 => ob (getR w49 6 v1 9) (fun x53 => ob (aldI w49 x53 v2) (fun x55 => ob (astI w49 x51 v2 x55) (fun w57 => ob (getR w57 6 v0 10) (fun x59 => ob (getR w57 6 v1 10) (fun x61 => ob (aldI w57 x61 v2) (fun x63 => ob (astI w57 x59 v2 x63) (fun w65 => f13_H136 n (fun (v0 : Nat) (v1 : Nat) (v2 : Int32) w => f13_H92 n  K49 k v0 v1 v2 w) K49 (fun (e0_80 : Nat) (e1_80 : Nat) (e2_80 : Int32) (w80 : Wd) => (fun (v0 : Nat) (v1 : Nat) (v2 : Int32) w => f13_H92 n  K49 k v0 v1 v2 w) e0_80 e1_80 (e2_80 + (1 : Int32)) w80) n v0 v1 v2 (0 : Int32) w65)))))))))))))
set_option maxRecDepth 10000 in
theorem rf13_H92 {S : Sc} (n : Nat)  (K49 : Wd → Option Wd)  (hK49 : ∀  (w : Wd) (o : Wd), K49 w = some o → Rn S 13 170 [none, none, none, none] [] w (none, o)) : ∀ (k : Nat) (v0 : Nat) (v1 : Nat) (v2 : Int32) (w : Wd) (o : Wd), f13_H92 n  K49 k v0 v1 v2 w = some o → Rn S 13 92 [some (.ref v0), some (.ref v1), some (.int v2), none] [] w (none, o) := by
  intro k
  induction k with
  | zero =>
    intro v0 v1 v2 w o h
    exact nomatch h
  | succ k ih =>
    intro v0 v1 v2 w o h
    have hrec49 : ∀ (y0 : Nat) (y1 : Nat) (y2 : Int32) (w : Wd) (o : Wd), (fun (v0 : Nat) (v1 : Nat) (v2 : Int32) w => f13_H92 n  K49 k v0 v1 v2 w) y0 y1 y2 w = some o → Rn S 13 92 [some (.ref y0), some (.ref y1), some (.int y2), none] [] w (none, o) := fun y0 y1 y2 w o h => ih y0 y1 y2 w o h
    unfold f13_H92 at h
    refine rn_iload_n (ft13 49 rfl) rfl ?_
    refine rn_bipush (v := (6 : Int32)) (ft13 50 rfl) (by decide) ?_
    by_cases c81 : (6 : Int32) ≤ v2
    · replace h := ifp c81 h
      refine rn_icmp_ge_t (ft13 51 rfl) c81 ?_
      exact rn_forget (ls := [none, none, none, none]) trivial (hK49 w _ h)
    · replace h := ifn c81 h
      refine rn_icmp_ge_f (ft13 51 rfl) c81 ?_
      refine rn_aload_n (ft13 52 rfl) rfl ?_
      obtain ⟨x43, q44, h⟩ := ob_some h
      refine rn_getR (ft13 53 rfl) q44 ?_
      refine rn_iload_n (ft13 54 rfl) rfl ?_
      refine rn_aload_n (ft13 55 rfl) rfl ?_
      obtain ⟨x45, q46, h⟩ := ob_some h
      refine rn_getR (ft13 56 rfl) q46 ?_
      refine rn_iload_n (ft13 57 rfl) rfl ?_
      obtain ⟨x47, q48, h⟩ := ob_some h
      refine rn_iaload (ft13 58 rfl) q48 ?_
      obtain ⟨w49, q50, h⟩ := ob_some h
      refine rn_iastore (ft13 59 rfl) q50 ?_
      refine rn_aload_n (ft13 60 rfl) rfl ?_
      obtain ⟨x51, q52, h⟩ := ob_some h
      refine rn_getR (ft13 61 rfl) q52 ?_
      refine rn_iload_n (ft13 62 rfl) rfl ?_
      refine rn_aload_n (ft13 63 rfl) rfl ?_
      obtain ⟨x53, q54, h⟩ := ob_some h
      refine rn_getR (ft13 64 rfl) q54 ?_
      refine rn_iload_n (ft13 65 rfl) rfl ?_
      obtain ⟨x55, q56, h⟩ := ob_some h
      refine rn_iaload (ft13 66 rfl) q56 ?_
      obtain ⟨w57, q58, h⟩ := ob_some h
      refine rn_iastore (ft13 67 rfl) q58 ?_
      refine rn_aload_n (ft13 68 rfl) rfl ?_
      obtain ⟨x59, q60, h⟩ := ob_some h
      refine rn_getR (ft13 69 rfl) q60 ?_
      refine rn_iload_n (ft13 70 rfl) rfl ?_
      refine rn_aload_n (ft13 71 rfl) rfl ?_
      obtain ⟨x61, q62, h⟩ := ob_some h
      refine rn_getR (ft13 72 rfl) q62 ?_
      refine rn_iload_n (ft13 73 rfl) rfl ?_
      obtain ⟨x63, q64, h⟩ := ob_some h
      refine rn_iaload (ft13 74 rfl) q64 ?_
      obtain ⟨w65, q66, h⟩ := ob_some h
      refine rn_iastore (ft13 75 rfl) q66 ?_
      refine rn_iconst (v := (0 : Int32)) (ft13 76 rfl) (by decide) ?_
      refine rn_istore_n (ls' := [some (.ref v0), some (.ref v1), some (.int v2), some (.int (0 : Int32))]) (ft13 77 rfl) rfl ?_
      refine rn_forget (ls := [some (.ref v0), some (.ref v1), some (.int v2), some (.int (0 : Int32))]) (And.intro rfl (And.intro rfl (And.intro rfl (And.intro rfl trivial)))) (rf13_H136 n (fun (v0 : Nat) (v1 : Nat) (v2 : Int32) w => f13_H92 n  K49 k v0 v1 v2 w) K49 _ hrec49 hK49 (fun e0_80 e1_80 e2_80 w80 o h => ?_) n v0 v1 v2 (0 : Int32) w65 _ h)
      refine rn_iinc (u := 1) (ls' := [some (.ref e0_80), some (.ref e1_80), some (.int (e2_80 + (1 : Int32))), none]) (ft13 95 rfl) rfl (by decide) rfl ?_
      refine rn_goto (ft13 96 rfl) ?_
      exact rn_forget (ls := [some (.ref e0_80), some (.ref e1_80), some (.int (e2_80 + (1 : Int32))), none]) (And.intro rfl (And.intro rfl (And.intro rfl trivial))) (hrec49 e0_80 e1_80 (e2_80 + (1 : Int32)) w80 _ h)
def f13 (n : Nat) (v0 : Nat) (v1 : Nat) (w : Wd) : Option Wd :=
  ob (getI w 6 v1 0) (fun x1 => ob (putI w 6 v0 0 x1) (fun w3 => ob (getI w3 6 v1 1) (fun x5 => ob (putI w3 6 v0 1 x5) (fun w7 => ob (getI w7 6 v1 2) (fun x9 => ob (putI w7 6 v0 2 x9) (fun w11 => ob (getI w11 6 v1 3) (fun x13 => ob (putI w11 6 v0 3 x13) (fun w15 => ob (getI w15 6 v1 4) (fun x17 => ob (putI w15 6 v0 4 x17) (fun w19 => ob (getI w19 6 v1 5) (fun x21 => ob (putI w19 6 v0 5 x21) (fun w23 => ob (getI w23 6 v1 6) (fun x25 => ob (putI w23 6 v0 6 x25) (fun w27 => ob (getI w27 6 v1 7) (fun x29 => ob (putI w27 6 v0 7 x29) (fun w31 => f13_H66 n  (fun (e0_42 : Nat) (e1_42 : Nat) (w42 : Wd) => f13_H92 n  (fun  (w82 : Wd) => some w82) n e0_42 e1_42 (0 : Int32) w42) n v0 v1 (0 : Int32) w31))))))))))))))))
set_option maxRecDepth 10000 in
theorem r13 {S : Sc} (n : Nat) (v0 : Nat) (v1 : Nat) (w : Wd) (o : Wd) (h : f13 n v0 v1 w = some o) : Rn S 13 0 [some (.ref v0), some (.ref v1), none, none] [] w (none, o) := by
  unfold f13 at h
  refine rn_aload_n (ft13 0 rfl) rfl ?_
  refine rn_aload_n (ft13 1 rfl) rfl ?_
  obtain ⟨x1, q2, h⟩ := ob_some h
  refine rn_getI (ft13 2 rfl) (by decide) (by decide) q2 ?_
  obtain ⟨w3, q4, h⟩ := ob_some h
  refine rn_putI (ft13 3 rfl) q4 ?_
  refine rn_aload_n (ft13 4 rfl) rfl ?_
  refine rn_aload_n (ft13 5 rfl) rfl ?_
  obtain ⟨x5, q6, h⟩ := ob_some h
  refine rn_getI (ft13 6 rfl) (by decide) (by decide) q6 ?_
  obtain ⟨w7, q8, h⟩ := ob_some h
  refine rn_putI (ft13 7 rfl) q8 ?_
  refine rn_aload_n (ft13 8 rfl) rfl ?_
  refine rn_aload_n (ft13 9 rfl) rfl ?_
  obtain ⟨x9, q10, h⟩ := ob_some h
  refine rn_getI (ft13 10 rfl) (by decide) (by decide) q10 ?_
  obtain ⟨w11, q12, h⟩ := ob_some h
  refine rn_putI (ft13 11 rfl) q12 ?_
  refine rn_aload_n (ft13 12 rfl) rfl ?_
  refine rn_aload_n (ft13 13 rfl) rfl ?_
  obtain ⟨x13, q14, h⟩ := ob_some h
  refine rn_getI (ft13 14 rfl) (by decide) (by decide) q14 ?_
  obtain ⟨w15, q16, h⟩ := ob_some h
  refine rn_putI (ft13 15 rfl) q16 ?_
  refine rn_aload_n (ft13 16 rfl) rfl ?_
  refine rn_aload_n (ft13 17 rfl) rfl ?_
  obtain ⟨x17, q18, h⟩ := ob_some h
  refine rn_getI (ft13 18 rfl) (by decide) (by decide) q18 ?_
  obtain ⟨w19, q20, h⟩ := ob_some h
  refine rn_putI (ft13 19 rfl) q20 ?_
  refine rn_aload_n (ft13 20 rfl) rfl ?_
  refine rn_aload_n (ft13 21 rfl) rfl ?_
  obtain ⟨x21, q22, h⟩ := ob_some h
  refine rn_getI (ft13 22 rfl) (by decide) (by decide) q22 ?_
  obtain ⟨w23, q24, h⟩ := ob_some h
  refine rn_putI (ft13 23 rfl) q24 ?_
  refine rn_aload_n (ft13 24 rfl) rfl ?_
  refine rn_aload_n (ft13 25 rfl) rfl ?_
  obtain ⟨x25, q26, h⟩ := ob_some h
  refine rn_getI (ft13 26 rfl) (by decide) (by decide) q26 ?_
  obtain ⟨w27, q28, h⟩ := ob_some h
  refine rn_putI (ft13 27 rfl) q28 ?_
  refine rn_aload_n (ft13 28 rfl) rfl ?_
  refine rn_aload_n (ft13 29 rfl) rfl ?_
  obtain ⟨x29, q30, h⟩ := ob_some h
  refine rn_getI (ft13 30 rfl) (by decide) (by decide) q30 ?_
  obtain ⟨w31, q32, h⟩ := ob_some h
  refine rn_putI (ft13 31 rfl) q32 ?_
  refine rn_iconst (v := (0 : Int32)) (ft13 32 rfl) (by decide) ?_
  refine rn_istore_n (ls' := [some (.ref v0), some (.ref v1), some (.int (0 : Int32)), none]) (ft13 33 rfl) rfl ?_
  refine rn_forget (ls := [some (.ref v0), some (.ref v1), some (.int (0 : Int32)), none]) (And.intro rfl (And.intro rfl (And.intro rfl trivial))) (rf13_H66 n  _  (fun e0_42 e1_42 w42 o h => ?_) n v0 v1 (0 : Int32) w31 _ h)
  refine rn_iconst (v := (0 : Int32)) (ft13 47 rfl) (by decide) ?_
  refine rn_istore_n (ls' := [some (.ref e0_42), some (.ref e1_42), some (.int (0 : Int32)), none]) (ft13 48 rfl) rfl ?_
  refine rn_forget (ls := [some (.ref e0_42), some (.ref e1_42), some (.int (0 : Int32)), none]) (And.intro rfl (And.intro rfl (And.intro rfl trivial))) (rf13_H92 n  _  (fun  w82 o h => ?_) n e0_42 e1_42 (0 : Int32) w42 _ h)
  cases h
  exact rn_vret pr13 (ft13 97 rfl)
/-- java/util/Arrays.fill([II)V -/
theorem ft14 : ∀ (i : Nat) {q : Nat × XI}, cd14[i]? = some q → fetch 14 q.1 = some q.2 := ft_of (by decide +kernel)
theorem pr14 : pRt 14 = none := rfl
def f14_H5 (n : Nat)  (K5 : Wd → Option Wd) : Nat → Nat → Int32 → Int32 → Int32 → Wd → Option Wd
  | 0, _, _, _, _, _ => none
  | k + 1, v0, v1, v2, v3, w =>
    (if v3 ≤ v2 then K5 w
      else ob (astI w v0 v2 v1) (fun w3 => (fun (v0 : Nat) (v1 : Int32) (v2 : Int32) (v3 : Int32) w => f14_H5 n  K5 k v0 v1 v2 v3 w) v0 v1 (v2 + (1 : Int32)) v3 w3))
set_option maxRecDepth 10000 in
theorem rf14_H5 {S : Sc} (n : Nat)  (K5 : Wd → Option Wd)  (hK5 : ∀  (w : Wd) (o : Wd), K5 w = some o → Rn S 14 20 [none, none, none, none] [] w (none, o)) : ∀ (k : Nat) (v0 : Nat) (v1 : Int32) (v2 : Int32) (v3 : Int32) (w : Wd) (o : Wd), f14_H5 n  K5 k v0 v1 v2 v3 w = some o → Rn S 14 5 [some (.ref v0), some (.int v1), some (.int v2), some (.int v3)] [] w (none, o) := by
  intro k
  induction k with
  | zero =>
    intro v0 v1 v2 v3 w o h
    exact nomatch h
  | succ k ih =>
    intro v0 v1 v2 v3 w o h
    have hrec5 : ∀ (y0 : Nat) (y1 : Int32) (y2 : Int32) (y3 : Int32) (w : Wd) (o : Wd), (fun (v0 : Nat) (v1 : Int32) (v2 : Int32) (v3 : Int32) w => f14_H5 n  K5 k v0 v1 v2 v3 w) y0 y1 y2 y3 w = some o → Rn S 14 5 [some (.ref y0), some (.int y1), some (.int y2), some (.int y3)] [] w (none, o) := fun y0 y1 y2 y3 w o h => ih y0 y1 y2 y3 w o h
    unfold f14_H5 at h
    refine rn_iload_n (ft14 5 rfl) rfl ?_
    refine rn_iload_n (ft14 6 rfl) rfl ?_
    by_cases c5 : v3 ≤ v2
    · replace h := ifp c5 h
      refine rn_icmp_ge_t (ft14 7 rfl) c5 ?_
      exact rn_forget (ls := [none, none, none, none]) trivial (hK5 w _ h)
    · replace h := ifn c5 h
      refine rn_icmp_ge_f (ft14 7 rfl) c5 ?_
      refine rn_aload_n (ft14 8 rfl) rfl ?_
      refine rn_iload_n (ft14 9 rfl) rfl ?_
      refine rn_iload_n (ft14 10 rfl) rfl ?_
      obtain ⟨w3, q4, h⟩ := ob_some h
      refine rn_iastore (ft14 11 rfl) q4 ?_
      refine rn_iinc (u := 1) (ls' := [some (.ref v0), some (.int v1), some (.int (v2 + (1 : Int32))), some (.int v3)]) (ft14 12 rfl) rfl (by decide) rfl ?_
      refine rn_goto (ft14 13 rfl) ?_
      exact rn_forget (ls := [some (.ref v0), some (.int v1), some (.int (v2 + (1 : Int32))), some (.int v3)]) (And.intro rfl (And.intro rfl (And.intro rfl (And.intro rfl trivial)))) (hrec5 v0 v1 (v2 + (1 : Int32)) v3 w3 _ h)
def f14 (n : Nat) (v0 : Nat) (v1 : Int32) (w : Wd) : Option Wd :=
  ob (alen w v0) (fun x1 => f14_H5 n  (fun  (w6 : Wd) => some w6) n v0 v1 (0 : Int32) x1 w)
set_option maxRecDepth 10000 in
theorem r14 {S : Sc} (n : Nat) (v0 : Nat) (v1 : Int32) (w : Wd) (o : Wd) (h : f14 n v0 v1 w = some o) : Rn S 14 0 [some (.ref v0), some (.int v1), none, none] [] w (none, o) := by
  unfold f14 at h
  refine rn_iconst (v := (0 : Int32)) (ft14 0 rfl) (by decide) ?_
  refine rn_istore_n (ls' := [some (.ref v0), some (.int v1), some (.int (0 : Int32)), none]) (ft14 1 rfl) rfl ?_
  refine rn_aload_n (ft14 2 rfl) rfl ?_
  obtain ⟨x1, q2, h⟩ := ob_some h
  refine rn_alen (ft14 3 rfl) q2 ?_
  refine rn_istore_n (ls' := [some (.ref v0), some (.int v1), some (.int (0 : Int32)), some (.int x1)]) (ft14 4 rfl) rfl ?_
  refine rn_forget (ls := [some (.ref v0), some (.int v1), some (.int (0 : Int32)), some (.int x1)]) (And.intro rfl (And.intro rfl (And.intro rfl (And.intro rfl trivial)))) (rf14_H5 n  _  (fun  w6 o h => ?_) n v0 v1 (0 : Int32) x1 w _ h)
  cases h
  exact rn_vret pr14 (ft14 14 rfl)
/-- NineWheel$Rule.become(III)V -/
theorem ft15 : ∀ (i : Nat) {q : Nat × XI}, cd15[i]? = some q → fetch 15 q.1 = some q.2 := ft_of (by decide +kernel)
theorem pr15 : pRt 15 = none := rfl
def f15_J36  (v0 : Nat) (v3 : Int32) (s0 : Nat) (s1 : Int32) (w : Wd) : Option Wd :=
  ob (putI w 5 s0 3 s1) (fun w7 => ob (putI w7 5 v0 4 ((v3 + (1 : Int32)) / (2 : Int32))) (fun w9 => some w9))
set_option maxRecDepth 10000 in
theorem rf15_J36 {S : Sc}  (v0 : Nat) (v3 : Int32) (s0 : Nat) (s1 : Int32) (w : Wd) (o : Wd)  (h : f15_J36  v0 v3 s0 s1 w = some o) : Rn S 15 36 [some (.ref v0), none, none, some (.int v3)] [.int s1, .ref s0] w (none, o) := by
  unfold f15_J36 at h
  obtain ⟨w7, q8, h⟩ := ob_some h
  refine rn_putI (ft15 22 rfl) q8 ?_
  refine rn_aload_n (ft15 23 rfl) rfl ?_
  refine rn_iload_n (ft15 24 rfl) rfl ?_
  refine rn_iconst (v := (1 : Int32)) (ft15 25 rfl) (by decide) ?_
  refine rn_iadd (ft15 26 rfl) ?_
  refine rn_iconst (v := (2 : Int32)) (ft15 27 rfl) (by decide) ?_
  refine rn_idiv (ft15 28 rfl) (by decide) ?_
  obtain ⟨w9, q10, h⟩ := ob_some h
  refine rn_putI (ft15 29 rfl) q10 ?_
  cases h
  exact rn_vret pr15 (ft15 30 rfl)
def f15 (v0 : Nat) (v1 : Int32) (v2 : Int32) (v3 : Int32) (w : Wd) : Option Wd :=
  ob (putI w 5 v0 0 v1) (fun w1 => ob (putI w1 5 v0 1 v2) (fun w3 => ob (putI w3 5 v0 2 (0 : Int32)) (fun w5 => (if ¬ v3 = 0 then (if ¬ (irm v3 (2 : Int32)) = (1 : Int32) then f15_J36  v0 v3 v0 (1 : Int32) w5
      else f15_J36  v0 v3 v0 (-1 : Int32) w5)
    else f15_J36  v0 v3 v0 (0 : Int32) w5))))
set_option maxRecDepth 10000 in
theorem r15 {S : Sc} (v0 : Nat) (v1 : Int32) (v2 : Int32) (v3 : Int32) (w : Wd) (o : Wd) (h : f15 v0 v1 v2 v3 w = some o) : Rn S 15 0 [some (.ref v0), some (.int v1), some (.int v2), some (.int v3)] [] w (none, o) := by
  unfold f15 at h
  refine rn_aload_n (ft15 0 rfl) rfl ?_
  refine rn_iload_n (ft15 1 rfl) rfl ?_
  obtain ⟨w1, q2, h⟩ := ob_some h
  refine rn_putI (ft15 2 rfl) q2 ?_
  refine rn_aload_n (ft15 3 rfl) rfl ?_
  refine rn_iload_n (ft15 4 rfl) rfl ?_
  obtain ⟨w3, q4, h⟩ := ob_some h
  refine rn_putI (ft15 5 rfl) q4 ?_
  refine rn_aload_n (ft15 6 rfl) rfl ?_
  refine rn_iconst (v := (0 : Int32)) (ft15 7 rfl) (by decide) ?_
  obtain ⟨w5, q6, h⟩ := ob_some h
  refine rn_putI (ft15 8 rfl) q6 ?_
  refine rn_aload_n (ft15 9 rfl) rfl ?_
  refine rn_iload_n (ft15 10 rfl) rfl ?_
  by_cases c12 : ¬ v3 = 0
  · replace h := ifp c12 h
    refine rn_if_ne_t (ft15 11 rfl) c12 ?_
    refine rn_iload_n (ft15 14 rfl) rfl ?_
    refine rn_iconst (v := (2 : Int32)) (ft15 15 rfl) (by decide) ?_
    refine rn_irem (ft15 16 rfl) (by decide) ?_
    refine rn_iconst (v := (1 : Int32)) (ft15 17 rfl) (by decide) ?_
    by_cases c11 : ¬ (irm v3 (2 : Int32)) = (1 : Int32)
    · replace h := ifp c11 h
      refine rn_icmp_ne_t (ft15 18 rfl) c11 ?_
      refine rn_iconst (v := (1 : Int32)) (ft15 21 rfl) (by decide) ?_
      exact rn_forget (ls := [some (.ref v0), none, none, some (.int v3)]) (And.intro rfl (And.intro rfl trivial)) (rf15_J36  v0 v3 v0 (1 : Int32) w5 _  h)
    · replace h := ifn c11 h
      refine rn_icmp_ne_f (ft15 18 rfl) c11 ?_
      refine rn_iconst (v := (-1 : Int32)) (ft15 19 rfl) (by decide) ?_
      refine rn_goto (ft15 20 rfl) ?_
      exact rn_forget (ls := [some (.ref v0), none, none, some (.int v3)]) (And.intro rfl (And.intro rfl trivial)) (rf15_J36  v0 v3 v0 (-1 : Int32) w5 _  h)
  · replace h := ifn c12 h
    refine rn_if_ne_f (ft15 11 rfl) c12 ?_
    refine rn_iconst (v := (0 : Int32)) (ft15 12 rfl) (by decide) ?_
    refine rn_goto (ft15 13 rfl) ?_
    exact rn_forget (ls := [some (.ref v0), none, none, some (.int v3)]) (And.intro rfl (And.intro rfl trivial)) (rf15_J36  v0 v3 v0 (0 : Int32) w5 _  h)
/-- NineWheel.holds(II)Z -/
theorem ft16 : ∀ (i : Nat) {q : Nat × XI}, cd16[i]? = some q → fetch 16 q.1 = some q.2 := ft_of (by decide +kernel)
theorem pr16 : pRt 16 = some .boolean := rfl
def f16 (v0 : Int32) (v1 : Int32) (w : Wd) : Option (Int32 × Wd) :=
  (if ((v0 >>> (v1 &&& 31)) &&& (1 : Int32)) = 0 then some ((0 : Int32), w)
    else some ((1 : Int32), w))
set_option maxRecDepth 10000 in
theorem r16 {S : Sc} (v0 : Int32) (v1 : Int32) (w : Wd) (o : (Int32 × Wd)) (h : f16 v0 v1 w = some o) : Rn S 16 0 [some (.int v0), some (.int v1)] [] w (some (.int o.1), o.2) := by
  unfold f16 at h
  refine rn_iload_n (ft16 0 rfl) rfl ?_
  refine rn_iload_n (ft16 1 rfl) rfl ?_
  refine rn_ishr (ft16 2 rfl) ?_
  refine rn_iconst (v := (1 : Int32)) (ft16 3 rfl) (by decide) ?_
  refine rn_iand (ft16 4 rfl) ?_
  by_cases c1 : ((v0 >>> (v1 &&& 31)) &&& (1 : Int32)) = 0
  · replace h := ifp c1 h
    refine rn_if_eq_t (ft16 5 rfl) c1 ?_
    refine rn_iconst (v := (0 : Int32)) (ft16 8 rfl) (by decide) ?_
    cases h
    exact rn_iretZ pr16 (by decide) (ft16 9 rfl)
  · replace h := ifn c1 h
    refine rn_if_eq_f (ft16 5 rfl) c1 ?_
    refine rn_iconst (v := (1 : Int32)) (ft16 6 rfl) (by decide) ?_
    refine rn_goto (ft16 7 rfl) ?_
    cases h
    exact rn_iretZ pr16 (by decide) (ft16 9 rfl)
/-- NineWheel$Rule.become(LNineWheel$Rule;)V -/
theorem ft17 : ∀ (i : Nat) {q : Nat × XI}, cd17[i]? = some q → fetch 17 q.1 = some q.2 := ft_of (by decide +kernel)
theorem pr17 : pRt 17 = none := rfl
def f17 (v0 : Nat) (v1 : Nat) (w : Wd) : Option Wd :=
  ob (getI w 5 v1 0) (fun x1 => ob (putI w 5 v0 0 x1) (fun w3 => ob (getI w3 5 v1 1) (fun x5 => ob (putI w3 5 v0 1 x5) (fun w7 => ob (getI w7 5 v1 2) (fun x9 => ob (putI w7 5 v0 2 x9) (fun w11 => ob (getI w11 5 v1 3) (fun x13 => ob (putI w11 5 v0 3 x13) (fun w15 => ob (getI w15 5 v1 4) (fun x17 => ob (putI w15 5 v0 4 x17) (fun w19 => some w19))))))))))
set_option maxRecDepth 10000 in
theorem r17 {S : Sc} (v0 : Nat) (v1 : Nat) (w : Wd) (o : Wd) (h : f17 v0 v1 w = some o) : Rn S 17 0 [some (.ref v0), some (.ref v1)] [] w (none, o) := by
  unfold f17 at h
  refine rn_aload_n (ft17 0 rfl) rfl ?_
  refine rn_aload_n (ft17 1 rfl) rfl ?_
  obtain ⟨x1, q2, h⟩ := ob_some h
  refine rn_getI (ft17 2 rfl) (by decide) (by decide) q2 ?_
  obtain ⟨w3, q4, h⟩ := ob_some h
  refine rn_putI (ft17 3 rfl) q4 ?_
  refine rn_aload_n (ft17 4 rfl) rfl ?_
  refine rn_aload_n (ft17 5 rfl) rfl ?_
  obtain ⟨x5, q6, h⟩ := ob_some h
  refine rn_getI (ft17 6 rfl) (by decide) (by decide) q6 ?_
  obtain ⟨w7, q8, h⟩ := ob_some h
  refine rn_putI (ft17 7 rfl) q8 ?_
  refine rn_aload_n (ft17 8 rfl) rfl ?_
  refine rn_aload_n (ft17 9 rfl) rfl ?_
  obtain ⟨x9, q10, h⟩ := ob_some h
  refine rn_getI (ft17 10 rfl) (by decide) (by decide) q10 ?_
  obtain ⟨w11, q12, h⟩ := ob_some h
  refine rn_putI (ft17 11 rfl) q12 ?_
  refine rn_aload_n (ft17 12 rfl) rfl ?_
  refine rn_aload_n (ft17 13 rfl) rfl ?_
  obtain ⟨x13, q14, h⟩ := ob_some h
  refine rn_getI (ft17 14 rfl) (by decide) (by decide) q14 ?_
  obtain ⟨w15, q16, h⟩ := ob_some h
  refine rn_putI (ft17 15 rfl) q16 ?_
  refine rn_aload_n (ft17 16 rfl) rfl ?_
  refine rn_aload_n (ft17 17 rfl) rfl ?_
  obtain ⟨x17, q18, h⟩ := ob_some h
  refine rn_getI (ft17 18 rfl) (by decide) (by decide) q18 ?_
  obtain ⟨w19, q20, h⟩ := ob_some h
  refine rn_putI (ft17 19 rfl) q20 ?_
  cases h
  exact rn_vret pr17 (ft17 20 rfl)
/-- NineWheel.fault()I -/
theorem ft18 : ∀ (i : Nat) {q : Nat × XI}, cd18[i]? = some q → fetch 18 q.1 = some q.2 := ft_of (by decide +kernel)
theorem pr18 : pRt 18 = some .int := rfl
def f18 (v0 : Nat) (w : Wd) : Option (Int32 × Wd) :=
  ob (getR w 10 v0 0) (fun x1 => ob (getI w 9 x1 5) (fun x3 => some (x3, w)))
set_option maxRecDepth 10000 in
theorem r18 {S : Sc} (v0 : Nat) (w : Wd) (o : (Int32 × Wd)) (h : f18 v0 w = some o) : Rn S 18 0 [some (.ref v0)] [] w (some (.int o.1), o.2) := by
  unfold f18 at h
  refine rn_aload_n (ft18 0 rfl) rfl ?_
  obtain ⟨x1, q2, h⟩ := ob_some h
  refine rn_getR (ft18 1 rfl) q2 ?_
  obtain ⟨x3, q4, h⟩ := ob_some h
  refine rn_getI (ft18 2 rfl) (by decide) (by decide) q4 ?_
  cases h
  exact rn_iretI pr18 (ft18 3 rfl)
/-- NineWheel.told(I)I -/
theorem ft19 : ∀ (i : Nat) {q : Nat × XI}, cd19[i]? = some q → fetch 19 q.1 = some q.2 := ft_of (by decide +kernel)
theorem pr19 : pRt 19 = some .int := rfl
def f19 (v0 : Nat) (v1 : Int32) (w : Wd) : Option (Int32 × Wd) :=
  (if v1 = 0 then ob (getR w 10 v0 1) (fun x39 => ob (getI w 6 x39 0) (fun x41 => some (x41, w)))
    else (if v1 = 1 then ob (getR w 10 v0 1) (fun x35 => ob (getI w 6 x35 1) (fun x37 => some (x37, w)))
      else (if v1 = 2 then ob (getR w 10 v0 1) (fun x26 => ob (getI w 6 x26 3) (fun x28 => (if x28 ≤ 0 then some ((-1 : Int32), w)
          else ob (getR w 10 v0 1) (fun x30 => ob (getI w 6 x30 2) (fun x32 => some (x32, w))))))
        else (if v1 = 3 then ob (getR w 10 v0 1) (fun x17 => ob (getI w 6 x17 3) (fun x19 => (if x19 ≤ 0 then some ((-1 : Int32), w)
            else ob (getR w 10 v0 1) (fun x21 => ob (getI w 6 x21 3) (fun x23 => some (x23, w))))))
          else (if v1 = 4 then ob (getR w 10 v0 1) (fun x13 => ob (getI w 6 x13 4) (fun x15 => some (x15, w)))
            else (if v1 = 5 then ob (getR w 10 v0 1) (fun x9 => ob (getI w 6 x9 5) (fun x11 => some (x11, w)))
              else (if v1 = 6 then ob (getR w 10 v0 1) (fun x5 => ob (getI w 6 x5 6) (fun x7 => some (x7, w)))
                else (if v1 = 7 then ob (getR w 10 v0 1) (fun x1 => ob (getI w 6 x1 7) (fun x3 => some (x3, w)))
                  else some ((-1000002 : Int32), w)))))))))
set_option maxRecDepth 10000 in
theorem r19 {S : Sc} (v0 : Nat) (v1 : Int32) (w : Wd) (o : (Int32 × Wd)) (h : f19 v0 v1 w = some o) : Rn S 19 0 [some (.ref v0), some (.int v1)] [] w (some (.int o.1), o.2) := by
  unfold f19 at h
  refine rn_iload_n (ft19 0 rfl) rfl ?_
  by_cases c43 : v1 = 0
  · replace h := ifp c43 h
    refine rn_sw_i (e := 47) (pc' := 48) (ft19 1 rfl) (by rw [c43]; decide) (by rw [c43]; rfl) (by decide) ?_
    refine rn_aload_n (ft19 2 rfl) rfl ?_
    obtain ⟨x39, q40, h⟩ := ob_some h
    refine rn_getR (ft19 3 rfl) q40 ?_
    obtain ⟨x41, q42, h⟩ := ob_some h
    refine rn_getI (ft19 4 rfl) (by decide) (by decide) q42 ?_
    cases h
    exact rn_iretI pr19 (ft19 5 rfl)
  · replace h := ifn c43 h
    by_cases c44 : v1 = 1
    · replace h := ifp c44 h
      refine rn_sw_i (e := 55) (pc' := 56) (ft19 1 rfl) (by rw [c44]; decide) (by rw [c44]; rfl) (by decide) ?_
      refine rn_aload_n (ft19 6 rfl) rfl ?_
      obtain ⟨x35, q36, h⟩ := ob_some h
      refine rn_getR (ft19 7 rfl) q36 ?_
      obtain ⟨x37, q38, h⟩ := ob_some h
      refine rn_getI (ft19 8 rfl) (by decide) (by decide) q38 ?_
      cases h
      exact rn_iretI pr19 (ft19 9 rfl)
    · replace h := ifn c44 h
      by_cases c45 : v1 = 2
      · replace h := ifp c45 h
        refine rn_sw_i (e := 63) (pc' := 64) (ft19 1 rfl) (by rw [c45]; decide) (by rw [c45]; rfl) (by decide) ?_
        refine rn_aload_n (ft19 10 rfl) rfl ?_
        obtain ⟨x26, q27, h⟩ := ob_some h
        refine rn_getR (ft19 11 rfl) q27 ?_
        obtain ⟨x28, q29, h⟩ := ob_some h
        refine rn_getI (ft19 12 rfl) (by decide) (by decide) q29 ?_
        by_cases c34 : x28 ≤ 0
        · replace h := ifp c34 h
          refine rn_if_le_t (ft19 13 rfl) c34 ?_
          refine rn_iconst (v := (-1 : Int32)) (ft19 18 rfl) (by decide) ?_
          cases h
          exact rn_iretI pr19 (ft19 19 rfl)
        · replace h := ifn c34 h
          refine rn_if_le_f (ft19 13 rfl) c34 ?_
          refine rn_aload_n (ft19 14 rfl) rfl ?_
          obtain ⟨x30, q31, h⟩ := ob_some h
          refine rn_getR (ft19 15 rfl) q31 ?_
          obtain ⟨x32, q33, h⟩ := ob_some h
          refine rn_getI (ft19 16 rfl) (by decide) (by decide) q33 ?_
          refine rn_goto (ft19 17 rfl) ?_
          cases h
          exact rn_iretI pr19 (ft19 19 rfl)
      · replace h := ifn c45 h
        by_cases c46 : v1 = 3
        · replace h := ifp c46 h
          refine rn_sw_i (e := 85) (pc' := 86) (ft19 1 rfl) (by rw [c46]; decide) (by rw [c46]; rfl) (by decide) ?_
          refine rn_aload_n (ft19 20 rfl) rfl ?_
          obtain ⟨x17, q18, h⟩ := ob_some h
          refine rn_getR (ft19 21 rfl) q18 ?_
          obtain ⟨x19, q20, h⟩ := ob_some h
          refine rn_getI (ft19 22 rfl) (by decide) (by decide) q20 ?_
          by_cases c25 : x19 ≤ 0
          · replace h := ifp c25 h
            refine rn_if_le_t (ft19 23 rfl) c25 ?_
            refine rn_iconst (v := (-1 : Int32)) (ft19 28 rfl) (by decide) ?_
            cases h
            exact rn_iretI pr19 (ft19 29 rfl)
          · replace h := ifn c25 h
            refine rn_if_le_f (ft19 23 rfl) c25 ?_
            refine rn_aload_n (ft19 24 rfl) rfl ?_
            obtain ⟨x21, q22, h⟩ := ob_some h
            refine rn_getR (ft19 25 rfl) q22 ?_
            obtain ⟨x23, q24, h⟩ := ob_some h
            refine rn_getI (ft19 26 rfl) (by decide) (by decide) q24 ?_
            refine rn_goto (ft19 27 rfl) ?_
            cases h
            exact rn_iretI pr19 (ft19 29 rfl)
        · replace h := ifn c46 h
          by_cases c47 : v1 = 4
          · replace h := ifp c47 h
            refine rn_sw_i (e := 107) (pc' := 108) (ft19 1 rfl) (by rw [c47]; decide) (by rw [c47]; rfl) (by decide) ?_
            refine rn_aload_n (ft19 30 rfl) rfl ?_
            obtain ⟨x13, q14, h⟩ := ob_some h
            refine rn_getR (ft19 31 rfl) q14 ?_
            obtain ⟨x15, q16, h⟩ := ob_some h
            refine rn_getI (ft19 32 rfl) (by decide) (by decide) q16 ?_
            cases h
            exact rn_iretI pr19 (ft19 33 rfl)
          · replace h := ifn c47 h
            by_cases c48 : v1 = 5
            · replace h := ifp c48 h
              refine rn_sw_i (e := 115) (pc' := 116) (ft19 1 rfl) (by rw [c48]; decide) (by rw [c48]; rfl) (by decide) ?_
              refine rn_aload_n (ft19 34 rfl) rfl ?_
              obtain ⟨x9, q10, h⟩ := ob_some h
              refine rn_getR (ft19 35 rfl) q10 ?_
              obtain ⟨x11, q12, h⟩ := ob_some h
              refine rn_getI (ft19 36 rfl) (by decide) (by decide) q12 ?_
              cases h
              exact rn_iretI pr19 (ft19 37 rfl)
            · replace h := ifn c48 h
              by_cases c49 : v1 = 6
              · replace h := ifp c49 h
                refine rn_sw_i (e := 123) (pc' := 124) (ft19 1 rfl) (by rw [c49]; decide) (by rw [c49]; rfl) (by decide) ?_
                refine rn_aload_n (ft19 38 rfl) rfl ?_
                obtain ⟨x5, q6, h⟩ := ob_some h
                refine rn_getR (ft19 39 rfl) q6 ?_
                obtain ⟨x7, q8, h⟩ := ob_some h
                refine rn_getI (ft19 40 rfl) (by decide) (by decide) q8 ?_
                cases h
                exact rn_iretI pr19 (ft19 41 rfl)
              · replace h := ifn c49 h
                by_cases c50 : v1 = 7
                · replace h := ifp c50 h
                  refine rn_sw_i (e := 131) (pc' := 132) (ft19 1 rfl) (by rw [c50]; decide) (by rw [c50]; rfl) (by decide) ?_
                  refine rn_aload_n (ft19 42 rfl) rfl ?_
                  obtain ⟨x1, q2, h⟩ := ob_some h
                  refine rn_getR (ft19 43 rfl) q2 ?_
                  obtain ⟨x3, q4, h⟩ := ob_some h
                  refine rn_getI (ft19 44 rfl) (by decide) (by decide) q4 ?_
                  cases h
                  exact rn_iretI pr19 (ft19 45 rfl)
                · replace h := ifn c50 h
                  have hsw := sw_out (v := v1) (N := 7) (by omega) (fun j hj => by
                    have hj2 : j = 0 ∨ j = 1 ∨ j = 2 ∨ j = 3 ∨ j = 4 ∨ j = 5 ∨ j = 6 ∨ j = 7 := by omega
                    rcases hj2 with rfl | rfl | rfl | rfl | rfl | rfl | rfl | rfl
                    · exact c43
                    · exact c44
                    · exact c45
                    · exact c46
                    · exact c47
                    · exact c48
                    · exact c49
                    · exact c50)
                  refine rn_sw_d (ft19 1 rfl) hsw (by decide) ?_
                  refine rn_ldc (v := (-1000002 : Int32)) (ft19 46 rfl) (by decide) rfl ?_
                  cases h
                  exact rn_iretI pr19 (ft19 47 rfl)
/-- NineWheel.cellOf(I)I -/
theorem ft20 : ∀ (i : Nat) {q : Nat × XI}, cd20[i]? = some q → fetch 20 q.1 = some q.2 := ft_of (by decide +kernel)
theorem pr20 : pRt 20 = some .int := rfl
def f20 (v0 : Int32) (w : Wd) : Option (Int32 × Wd) :=
  some ((v0 >>> ((3 : Int32) &&& 31)), w)
set_option maxRecDepth 10000 in
theorem r20 {S : Sc} (v0 : Int32) (w : Wd) (o : (Int32 × Wd)) (h : f20 v0 w = some o) : Rn S 20 0 [some (.int v0)] [] w (some (.int o.1), o.2) := by
  unfold f20 at h
  refine rn_iload_n (ft20 0 rfl) rfl ?_
  refine rn_iconst (v := (3 : Int32)) (ft20 1 rfl) (by decide) ?_
  refine rn_ishr (ft20 2 rfl) ?_
  cases h
  exact rn_iretI pr20 (ft20 3 rfl)
/-- NineWheel.headingOf(I)I -/
theorem ft21 : ∀ (i : Nat) {q : Nat × XI}, cd21[i]? = some q → fetch 21 q.1 = some q.2 := ft_of (by decide +kernel)
theorem pr21 : pRt 21 = some .int := rfl
def f21 (v0 : Int32) (w : Wd) : Option (Int32 × Wd) :=
  some ((v0 &&& (7 : Int32)), w)
set_option maxRecDepth 10000 in
theorem r21 {S : Sc} (v0 : Int32) (w : Wd) (o : (Int32 × Wd)) (h : f21 v0 w = some o) : Rn S 21 0 [some (.int v0)] [] w (some (.int o.1), o.2) := by
  unfold f21 at h
  refine rn_iload_n (ft21 0 rfl) rfl ?_
  refine rn_bipush (v := (7 : Int32)) (ft21 1 rfl) (by decide) ?_
  refine rn_iand (ft21 2 rfl) ?_
  cases h
  exact rn_iretI pr21 (ft21 3 rfl)
/-- NineWheel$Held.blindSorts()I -/
theorem ft22 : ∀ (i : Nat) {q : Nat × XI}, cd22[i]? = some q → fetch 22 q.1 = some q.2 := ft_of (by decide +kernel)
theorem pr22 : pRt 22 = some .int := rfl
def f22_H4 (n : Nat)  (K4 : Int32 → Wd → Option (Int32 × Wd)) : Nat → Nat → Int32 → Int32 → Wd → Option (Int32 × Wd)
  | 0, _, _, _, _ => none
  | k + 1, v0, v1, v2, w =>
    (if (6 : Int32) ≤ v2 then K4 v1 w
      else ob (getR w 3 v0 0) (fun x1 => ob (aldI w x1 v2) (fun x3 => (if ¬ x3 = (3 : Int32) then (fun (v0 : Nat) (v1 : Int32) (v2 : Int32) w => f22_H4 n  K4 k v0 v1 v2 w) v0 v1 (v2 + (1 : Int32)) w
        else (fun (v0 : Nat) (v1 : Int32) (v2 : Int32) w => f22_H4 n  K4 k v0 v1 v2 w) v0 (v1 ||| ((1 : Int32) <<< (v2 &&& 31))) (v2 + (1 : Int32)) w))))
set_option maxRecDepth 10000 in
theorem rf22_H4 {S : Sc} (n : Nat)  (K4 : Int32 → Wd → Option (Int32 × Wd))  (hK4 : ∀ (y1 : Int32) (w : Wd) (o : (Int32 × Wd)), K4 y1 w = some o → Rn S 22 32 [none, some (.int y1), none] [] w (some (.int o.1), o.2)) : ∀ (k : Nat) (v0 : Nat) (v1 : Int32) (v2 : Int32) (w : Wd) (o : (Int32 × Wd)), f22_H4 n  K4 k v0 v1 v2 w = some o → Rn S 22 4 [some (.ref v0), some (.int v1), some (.int v2)] [] w (some (.int o.1), o.2) := by
  intro k
  induction k with
  | zero =>
    intro v0 v1 v2 w o h
    exact nomatch h
  | succ k ih =>
    intro v0 v1 v2 w o h
    have hrec4 : ∀ (y0 : Nat) (y1 : Int32) (y2 : Int32) (w : Wd) (o : (Int32 × Wd)), (fun (v0 : Nat) (v1 : Int32) (v2 : Int32) w => f22_H4 n  K4 k v0 v1 v2 w) y0 y1 y2 w = some o → Rn S 22 4 [some (.ref y0), some (.int y1), some (.int y2)] [] w (some (.int o.1), o.2) := fun y0 y1 y2 w o h => ih y0 y1 y2 w o h
    unfold f22_H4 at h
    refine rn_iload_n (ft22 4 rfl) rfl ?_
    refine rn_bipush (v := (6 : Int32)) (ft22 5 rfl) (by decide) ?_
    by_cases c6 : (6 : Int32) ≤ v2
    · replace h := ifp c6 h
      refine rn_icmp_ge_t (ft22 6 rfl) c6 ?_
      exact rn_forget (ls := [none, some (.int v1), none]) (And.intro rfl trivial) (hK4 v1 w _ h)
    · replace h := ifn c6 h
      refine rn_icmp_ge_f (ft22 6 rfl) c6 ?_
      refine rn_aload_n (ft22 7 rfl) rfl ?_
      obtain ⟨x1, q2, h⟩ := ob_some h
      refine rn_getR (ft22 8 rfl) q2 ?_
      refine rn_iload_n (ft22 9 rfl) rfl ?_
      obtain ⟨x3, q4, h⟩ := ob_some h
      refine rn_iaload (ft22 10 rfl) q4 ?_
      refine rn_iconst (v := (3 : Int32)) (ft22 11 rfl) (by decide) ?_
      by_cases c5 : ¬ x3 = (3 : Int32)
      · replace h := ifp c5 h
        refine rn_icmp_ne_t (ft22 12 rfl) c5 ?_
        refine rn_iinc (u := 1) (ls' := [some (.ref v0), some (.int v1), some (.int (v2 + (1 : Int32)))]) (ft22 19 rfl) rfl (by decide) rfl ?_
        refine rn_goto (ft22 20 rfl) ?_
        exact rn_forget (ls := [some (.ref v0), some (.int v1), some (.int (v2 + (1 : Int32)))]) (And.intro rfl (And.intro rfl (And.intro rfl trivial))) (hrec4 v0 v1 (v2 + (1 : Int32)) w _ h)
      · replace h := ifn c5 h
        refine rn_icmp_ne_f (ft22 12 rfl) c5 ?_
        refine rn_iload_n (ft22 13 rfl) rfl ?_
        refine rn_iconst (v := (1 : Int32)) (ft22 14 rfl) (by decide) ?_
        refine rn_iload_n (ft22 15 rfl) rfl ?_
        refine rn_ishl (ft22 16 rfl) ?_
        refine rn_ior (ft22 17 rfl) ?_
        refine rn_istore_n (ls' := [some (.ref v0), some (.int (v1 ||| ((1 : Int32) <<< (v2 &&& 31)))), some (.int v2)]) (ft22 18 rfl) rfl ?_
        refine rn_iinc (u := 1) (ls' := [some (.ref v0), some (.int (v1 ||| ((1 : Int32) <<< (v2 &&& 31)))), some (.int (v2 + (1 : Int32)))]) (ft22 19 rfl) rfl (by decide) rfl ?_
        refine rn_goto (ft22 20 rfl) ?_
        exact rn_forget (ls := [some (.ref v0), some (.int (v1 ||| ((1 : Int32) <<< (v2 &&& 31)))), some (.int (v2 + (1 : Int32)))]) (And.intro rfl (And.intro rfl (And.intro rfl trivial))) (hrec4 v0 (v1 ||| ((1 : Int32) <<< (v2 &&& 31))) (v2 + (1 : Int32)) w _ h)
def f22 (n : Nat) (v0 : Nat) (w : Wd) : Option (Int32 × Wd) :=
  f22_H4 n  (fun (e1_7 : Int32) (w7 : Wd) => some (e1_7, w7)) n v0 (0 : Int32) (0 : Int32) w
set_option maxRecDepth 10000 in
theorem r22 {S : Sc} (n : Nat) (v0 : Nat) (w : Wd) (o : (Int32 × Wd)) (h : f22 n v0 w = some o) : Rn S 22 0 [some (.ref v0), none, none] [] w (some (.int o.1), o.2) := by
  unfold f22 at h
  refine rn_iconst (v := (0 : Int32)) (ft22 0 rfl) (by decide) ?_
  refine rn_istore_n (ls' := [some (.ref v0), some (.int (0 : Int32)), none]) (ft22 1 rfl) rfl ?_
  refine rn_iconst (v := (0 : Int32)) (ft22 2 rfl) (by decide) ?_
  refine rn_istore_n (ls' := [some (.ref v0), some (.int (0 : Int32)), some (.int (0 : Int32))]) (ft22 3 rfl) rfl ?_
  refine rn_forget (ls := [some (.ref v0), some (.int (0 : Int32)), some (.int (0 : Int32))]) (And.intro rfl (And.intro rfl (And.intro rfl trivial))) (rf22_H4 n  _  (fun e1_7 w7 o h => ?_) n v0 (0 : Int32) (0 : Int32) w _ h)
  refine rn_iload_n (ft22 21 rfl) rfl ?_
  cases h
  exact rn_iretI pr22 (ft22 22 rfl)
