/-! THE METHODS AS FUNCTIONS, 2 -/
/-- NineWheel$Tally.empty()V -/
theorem ft23 : ∀ (i : Nat) {q : Nat × XI}, cd23[i]? = some q → fetch 23 q.1 = some q.2 := ft_of (by decide +kernel)
theorem pr23 : pRt 23 = none := rfl
def f23 (v0 : Nat) (w : Wd) : Option Wd :=
  ob (putI w 8 v0 0 (0 : Int32)) (fun w1 => ob (putI w1 8 v0 1 (0 : Int32)) (fun w3 => ob (putI w3 8 v0 2 (0 : Int32)) (fun w5 => ob (putI w5 8 v0 3 (0 : Int32)) (fun w7 => ob (putI w7 8 v0 4 (0 : Int32)) (fun w9 => ob (putI w9 8 v0 5 (0 : Int32)) (fun w11 => ob (putI w11 8 v0 6 (0 : Int32)) (fun w13 => some w13)))))))
set_option maxRecDepth 10000 in
theorem r23 {S : Sc} (v0 : Nat) (w : Wd) (o : Wd) (h : f23 v0 w = some o) : Rn S 23 0 [some (.ref v0)] [] w (none, o) := by
  unfold f23 at h
  refine rn_aload_n (ft23 0 rfl) rfl ?_
  refine rn_iconst (v := (0 : Int32)) (ft23 1 rfl) (by decide) ?_
  obtain ⟨w1, q2, h⟩ := ob_some h
  refine rn_putI (ft23 2 rfl) q2 ?_
  refine rn_aload_n (ft23 3 rfl) rfl ?_
  refine rn_iconst (v := (0 : Int32)) (ft23 4 rfl) (by decide) ?_
  obtain ⟨w3, q4, h⟩ := ob_some h
  refine rn_putI (ft23 5 rfl) q4 ?_
  refine rn_aload_n (ft23 6 rfl) rfl ?_
  refine rn_iconst (v := (0 : Int32)) (ft23 7 rfl) (by decide) ?_
  obtain ⟨w5, q6, h⟩ := ob_some h
  refine rn_putI (ft23 8 rfl) q6 ?_
  refine rn_aload_n (ft23 9 rfl) rfl ?_
  refine rn_iconst (v := (0 : Int32)) (ft23 10 rfl) (by decide) ?_
  obtain ⟨w7, q8, h⟩ := ob_some h
  refine rn_putI (ft23 11 rfl) q8 ?_
  refine rn_aload_n (ft23 12 rfl) rfl ?_
  refine rn_iconst (v := (0 : Int32)) (ft23 13 rfl) (by decide) ?_
  obtain ⟨w9, q10, h⟩ := ob_some h
  refine rn_putI (ft23 14 rfl) q10 ?_
  refine rn_aload_n (ft23 15 rfl) rfl ?_
  refine rn_iconst (v := (0 : Int32)) (ft23 16 rfl) (by decide) ?_
  obtain ⟨w11, q12, h⟩ := ob_some h
  refine rn_putI (ft23 17 rfl) q12 ?_
  refine rn_aload_n (ft23 18 rfl) rfl ?_
  refine rn_iconst (v := (0 : Int32)) (ft23 19 rfl) (by decide) ?_
  obtain ⟨w13, q14, h⟩ := ob_some h
  refine rn_putI (ft23 20 rfl) q14 ?_
  cases h
  exact rn_vret pr23 (ft23 21 rfl)
/-- NineWheel$Tally.add(III)V -/
theorem ft24 : ∀ (i : Nat) {q : Nat × XI}, cd24[i]? = some q → fetch 24 q.1 = some q.2 := ft_of (by decide +kernel)
theorem pr24 : pRt 24 = none := rfl
def f24 (v0 : Nat) (v1 : Int32) (v2 : Int32) (v3 : Int32) (w : Wd) : Option Wd :=
  ob (getI w 8 v0 0) (fun x1 => ob (putI w 8 v0 0 (x1 + v3)) (fun w3 => ob (getI w3 8 v0 3) (fun x5 => ob (putI w3 8 v0 3 (x5 + (v2 * v3))) (fun w7 => (if 0 ≤ v2 then (if v2 ≤ 0 then some w7
      else ob (getI w7 8 v0 2) (fun x9 => ob (putI w7 8 v0 2 (x9 + v3)) (fun w11 => ob (getI w11 8 v0 5) (fun x13 => ob (putI w11 8 v0 5 (x13 ||| ((1 : Int32) <<< (v1 &&& 31)))) (fun w15 => some w15)))))
    else ob (getI w7 8 v0 1) (fun x18 => ob (putI w7 8 v0 1 (x18 + v3)) (fun w20 => ob (getI w20 8 v0 4) (fun x22 => ob (putI w20 8 v0 4 (x22 ||| ((1 : Int32) <<< (v1 &&& 31)))) (fun w24 => some w24)))))))))
set_option maxRecDepth 10000 in
theorem r24 {S : Sc} (v0 : Nat) (v1 : Int32) (v2 : Int32) (v3 : Int32) (w : Wd) (o : Wd) (h : f24 v0 v1 v2 v3 w = some o) : Rn S 24 0 [some (.ref v0), some (.int v1), some (.int v2), some (.int v3)] [] w (none, o) := by
  unfold f24 at h
  refine rn_aload_n (ft24 0 rfl) rfl ?_
  refine rn_dup (ft24 1 rfl) rfl ?_
  obtain ⟨x1, q2, h⟩ := ob_some h
  refine rn_getI (ft24 2 rfl) (by decide) (by decide) q2 ?_
  refine rn_iload_n (ft24 3 rfl) rfl ?_
  refine rn_iadd (ft24 4 rfl) ?_
  obtain ⟨w3, q4, h⟩ := ob_some h
  refine rn_putI (ft24 5 rfl) q4 ?_
  refine rn_aload_n (ft24 6 rfl) rfl ?_
  refine rn_dup (ft24 7 rfl) rfl ?_
  obtain ⟨x5, q6, h⟩ := ob_some h
  refine rn_getI (ft24 8 rfl) (by decide) (by decide) q6 ?_
  refine rn_iload_n (ft24 9 rfl) rfl ?_
  refine rn_iload_n (ft24 10 rfl) rfl ?_
  refine rn_imul (ft24 11 rfl) ?_
  refine rn_iadd (ft24 12 rfl) ?_
  obtain ⟨w7, q8, h⟩ := ob_some h
  refine rn_putI (ft24 13 rfl) q8 ?_
  refine rn_iload_n (ft24 14 rfl) rfl ?_
  by_cases c26 : 0 ≤ v2
  · replace h := ifp c26 h
    refine rn_if_ge_t (ft24 15 rfl) c26 ?_
    refine rn_iload_n (ft24 31 rfl) rfl ?_
    by_cases c17 : v2 ≤ 0
    · replace h := ifp c17 h
      refine rn_if_le_t (ft24 32 rfl) c17 ?_
      cases h
      exact rn_vret pr24 (ft24 47 rfl)
    · replace h := ifn c17 h
      refine rn_if_le_f (ft24 32 rfl) c17 ?_
      refine rn_aload_n (ft24 33 rfl) rfl ?_
      refine rn_dup (ft24 34 rfl) rfl ?_
      obtain ⟨x9, q10, h⟩ := ob_some h
      refine rn_getI (ft24 35 rfl) (by decide) (by decide) q10 ?_
      refine rn_iload_n (ft24 36 rfl) rfl ?_
      refine rn_iadd (ft24 37 rfl) ?_
      obtain ⟨w11, q12, h⟩ := ob_some h
      refine rn_putI (ft24 38 rfl) q12 ?_
      refine rn_aload_n (ft24 39 rfl) rfl ?_
      refine rn_dup (ft24 40 rfl) rfl ?_
      obtain ⟨x13, q14, h⟩ := ob_some h
      refine rn_getI (ft24 41 rfl) (by decide) (by decide) q14 ?_
      refine rn_iconst (v := (1 : Int32)) (ft24 42 rfl) (by decide) ?_
      refine rn_iload_n (ft24 43 rfl) rfl ?_
      refine rn_ishl (ft24 44 rfl) ?_
      refine rn_ior (ft24 45 rfl) ?_
      obtain ⟨w15, q16, h⟩ := ob_some h
      refine rn_putI (ft24 46 rfl) q16 ?_
      cases h
      exact rn_vret pr24 (ft24 47 rfl)
  · replace h := ifn c26 h
    refine rn_if_ge_f (ft24 15 rfl) c26 ?_
    refine rn_aload_n (ft24 16 rfl) rfl ?_
    refine rn_dup (ft24 17 rfl) rfl ?_
    obtain ⟨x18, q19, h⟩ := ob_some h
    refine rn_getI (ft24 18 rfl) (by decide) (by decide) q19 ?_
    refine rn_iload_n (ft24 19 rfl) rfl ?_
    refine rn_iadd (ft24 20 rfl) ?_
    obtain ⟨w20, q21, h⟩ := ob_some h
    refine rn_putI (ft24 21 rfl) q21 ?_
    refine rn_aload_n (ft24 22 rfl) rfl ?_
    refine rn_dup (ft24 23 rfl) rfl ?_
    obtain ⟨x22, q23, h⟩ := ob_some h
    refine rn_getI (ft24 24 rfl) (by decide) (by decide) q23 ?_
    refine rn_iconst (v := (1 : Int32)) (ft24 25 rfl) (by decide) ?_
    refine rn_iload_n (ft24 26 rfl) rfl ?_
    refine rn_ishl (ft24 27 rfl) ?_
    refine rn_ior (ft24 28 rfl) ?_
    obtain ⟨w24, q25, h⟩ := ob_some h
    refine rn_putI (ft24 29 rfl) q25 ?_
    refine rn_goto (ft24 30 rfl) ?_
    cases h
    exact rn_vret pr24 (ft24 47 rfl)
/-- NineWheel$Tally.most()I -/
theorem ft25 : ∀ (i : Nat) {q : Nat × XI}, cd25[i]? = some q → fetch 25 q.1 = some q.2 := ft_of (by decide +kernel)
theorem pr25 : pRt 25 = some .int := rfl
def f25_J33  (v0 : Nat) (w : Wd) : Option (Int32 × Wd) :=
  ob (getI w 8 v0 1) (fun x9 => ob (getI w 8 v0 2) (fun x11 => (if x9 < x11 then some ((1 : Int32), w)
    else some ((-1 : Int32), w))))
set_option maxRecDepth 10000 in
theorem rf25_J33 {S : Sc}  (v0 : Nat) (w : Wd) (o : (Int32 × Wd))  (h : f25_J33  v0 w = some o) : Rn S 25 33 [some (.ref v0), none] [] w (some (.int o.1), o.2) := by
  unfold f25_J33 at h
  refine rn_aload_n (ft25 19 rfl) rfl ?_
  obtain ⟨x9, q10, h⟩ := ob_some h
  refine rn_getI (ft25 20 rfl) (by decide) (by decide) q10 ?_
  refine rn_aload_n (ft25 21 rfl) rfl ?_
  obtain ⟨x11, q12, h⟩ := ob_some h
  refine rn_getI (ft25 22 rfl) (by decide) (by decide) q12 ?_
  by_cases c13 : x9 < x11
  · replace h := ifp c13 h
    refine rn_icmp_lt_t (ft25 23 rfl) c13 ?_
    refine rn_iconst (v := (1 : Int32)) (ft25 26 rfl) (by decide) ?_
    cases h
    exact rn_iretI pr25 (ft25 27 rfl)
  · replace h := ifn c13 h
    refine rn_icmp_lt_f (ft25 23 rfl) c13 ?_
    refine rn_iconst (v := (-1 : Int32)) (ft25 24 rfl) (by decide) ?_
    refine rn_goto (ft25 25 rfl) ?_
    cases h
    exact rn_iretI pr25 (ft25 27 rfl)
def f25 (v0 : Nat) (w : Wd) : Option (Int32 × Wd) :=
  ob (getI w 8 v0 0) (fun x1 => ob (getI w 8 v0 1) (fun x3 => ob (getI w 8 v0 2) (fun x5 => ob (getI w 8 v0 1) (fun x7 => (if ((x1 - x3) - x5) < x7 then f25_J33  v0 w
    else ob (getI w 8 v0 2) (fun x14 => (if ((x1 - x3) - x5) < x14 then f25_J33  v0 w
      else some ((0 : Int32), w))))))))
set_option maxRecDepth 10000 in
theorem r25 {S : Sc} (v0 : Nat) (w : Wd) (o : (Int32 × Wd)) (h : f25 v0 w = some o) : Rn S 25 0 [some (.ref v0), none] [] w (some (.int o.1), o.2) := by
  unfold f25 at h
  refine rn_aload_n (ft25 0 rfl) rfl ?_
  obtain ⟨x1, q2, h⟩ := ob_some h
  refine rn_getI (ft25 1 rfl) (by decide) (by decide) q2 ?_
  refine rn_aload_n (ft25 2 rfl) rfl ?_
  obtain ⟨x3, q4, h⟩ := ob_some h
  refine rn_getI (ft25 3 rfl) (by decide) (by decide) q4 ?_
  refine rn_isub (ft25 4 rfl) ?_
  refine rn_aload_n (ft25 5 rfl) rfl ?_
  obtain ⟨x5, q6, h⟩ := ob_some h
  refine rn_getI (ft25 6 rfl) (by decide) (by decide) q6 ?_
  refine rn_isub (ft25 7 rfl) ?_
  refine rn_istore_n (ls' := [some (.ref v0), some (.int ((x1 - x3) - x5))]) (ft25 8 rfl) rfl ?_
  refine rn_iload_n (ft25 9 rfl) rfl ?_
  refine rn_aload_n (ft25 10 rfl) rfl ?_
  obtain ⟨x7, q8, h⟩ := ob_some h
  refine rn_getI (ft25 11 rfl) (by decide) (by decide) q8 ?_
  by_cases c17 : ((x1 - x3) - x5) < x7
  · replace h := ifp c17 h
    refine rn_icmp_lt_t (ft25 12 rfl) c17 ?_
    exact rn_forget (ls := [some (.ref v0), none]) (And.intro rfl trivial) (rf25_J33  v0 w _  h)
  · replace h := ifn c17 h
    refine rn_icmp_lt_f (ft25 12 rfl) c17 ?_
    refine rn_iload_n (ft25 13 rfl) rfl ?_
    refine rn_aload_n (ft25 14 rfl) rfl ?_
    obtain ⟨x14, q15, h⟩ := ob_some h
    refine rn_getI (ft25 15 rfl) (by decide) (by decide) q15 ?_
    by_cases c16 : ((x1 - x3) - x5) < x14
    · replace h := ifp c16 h
      refine rn_icmp_lt_t (ft25 16 rfl) c16 ?_
      exact rn_forget (ls := [some (.ref v0), none]) (And.intro rfl trivial) (rf25_J33  v0 w _  h)
    · replace h := ifn c16 h
      refine rn_icmp_lt_f (ft25 16 rfl) c16 ?_
      refine rn_iconst (v := (0 : Int32)) (ft25 17 rfl) (by decide) ?_
      cases h
      exact rn_iretI pr25 (ft25 18 rfl)
/-- NineWheel$Counting.hardestFree()I -/
theorem ft26 : ∀ (i : Nat) {q : Nat × XI}, cd26[i]? = some q → fetch 26 q.1 = some q.2 := ft_of (by decide +kernel)
theorem pr26 : pRt 26 = some .int := rfl
def f26 (v0 : Nat) (w : Wd) : Option (Int32 × Wd) :=
  ob (getI w 0 v0 3) (fun x1 => (if ¬ x1 = 0 then ob (getR w 0 v0 2) (fun x3 => ob (getI w 5 x3 0) (fun x5 => (if ¬ x5 = (2 : Int32) then some ((1 : Int32), w)
      else some ((2 : Int32), w))))
    else some ((0 : Int32), w)))
set_option maxRecDepth 10000 in
theorem r26 {S : Sc} (v0 : Nat) (w : Wd) (o : (Int32 × Wd)) (h : f26 v0 w = some o) : Rn S 26 0 [some (.ref v0)] [] w (some (.int o.1), o.2) := by
  unfold f26 at h
  refine rn_aload_n (ft26 0 rfl) rfl ?_
  obtain ⟨x1, q2, h⟩ := ob_some h
  refine rn_getI (ft26 1 rfl) (by decide) (by decide) q2 ?_
  by_cases c8 : ¬ x1 = 0
  · replace h := ifp c8 h
    refine rn_if_ne_t (ft26 2 rfl) c8 ?_
    refine rn_aload_n (ft26 5 rfl) rfl ?_
    obtain ⟨x3, q4, h⟩ := ob_some h
    refine rn_getR (ft26 6 rfl) q4 ?_
    obtain ⟨x5, q6, h⟩ := ob_some h
    refine rn_getI (ft26 7 rfl) (by decide) (by decide) q6 ?_
    refine rn_iconst (v := (2 : Int32)) (ft26 8 rfl) (by decide) ?_
    by_cases c7 : ¬ x5 = (2 : Int32)
    · replace h := ifp c7 h
      refine rn_icmp_ne_t (ft26 9 rfl) c7 ?_
      refine rn_iconst (v := (1 : Int32)) (ft26 12 rfl) (by decide) ?_
      cases h
      exact rn_iretI pr26 (ft26 13 rfl)
    · replace h := ifn c7 h
      refine rn_icmp_ne_f (ft26 9 rfl) c7 ?_
      refine rn_iconst (v := (2 : Int32)) (ft26 10 rfl) (by decide) ?_
      refine rn_goto (ft26 11 rfl) ?_
      cases h
      exact rn_iretI pr26 (ft26 13 rfl)
  · replace h := ifn c8 h
    refine rn_if_ne_f (ft26 2 rfl) c8 ?_
    refine rn_iconst (v := (0 : Int32)) (ft26 3 rfl) (by decide) ?_
    cases h
    exact rn_iretI pr26 (ft26 4 rfl)
/-- NineWheel$Tally.middle()I -/
theorem ft27 : ∀ (i : Nat) {q : Nat × XI}, cd27[i]? = some q → fetch 27 q.1 = some q.2 := ft_of (by decide +kernel)
theorem pr27 : pRt 27 = some .int := rfl
def f27 (v0 : Nat) (w : Wd) : Option (Int32 × Wd) :=
  ob (getI w 8 v0 0) (fun x1 => (if 0 < x1 then ob (getI w 8 v0 0) (fun x3 => ob (getI w 8 v0 1) (fun x5 => (if x5 ≤ ((x3 - (1 : Int32)) / (2 : Int32)) then ob (getI w 8 v0 0) (fun x7 => ob (getI w 8 v0 2) (fun x9 => (if (x7 - x9) ≤ ((x3 - (1 : Int32)) / (2 : Int32)) then some ((1 : Int32), w)
        else some ((0 : Int32), w))))
      else some ((-1 : Int32), w))))
    else some ((0 : Int32), w)))
set_option maxRecDepth 10000 in
theorem r27 {S : Sc} (v0 : Nat) (w : Wd) (o : (Int32 × Wd)) (h : f27 v0 w = some o) : Rn S 27 0 [some (.ref v0), none] [] w (some (.int o.1), o.2) := by
  unfold f27 at h
  refine rn_aload_n (ft27 0 rfl) rfl ?_
  obtain ⟨x1, q2, h⟩ := ob_some h
  refine rn_getI (ft27 1 rfl) (by decide) (by decide) q2 ?_
  by_cases c13 : 0 < x1
  · replace h := ifp c13 h
    refine rn_if_gt_t (ft27 2 rfl) c13 ?_
    refine rn_aload_n (ft27 5 rfl) rfl ?_
    obtain ⟨x3, q4, h⟩ := ob_some h
    refine rn_getI (ft27 6 rfl) (by decide) (by decide) q4 ?_
    refine rn_iconst (v := (1 : Int32)) (ft27 7 rfl) (by decide) ?_
    refine rn_isub (ft27 8 rfl) ?_
    refine rn_iconst (v := (2 : Int32)) (ft27 9 rfl) (by decide) ?_
    refine rn_idiv (ft27 10 rfl) (by decide) ?_
    refine rn_istore_n (ls' := [some (.ref v0), some (.int ((x3 - (1 : Int32)) / (2 : Int32)))]) (ft27 11 rfl) rfl ?_
    refine rn_aload_n (ft27 12 rfl) rfl ?_
    obtain ⟨x5, q6, h⟩ := ob_some h
    refine rn_getI (ft27 13 rfl) (by decide) (by decide) q6 ?_
    refine rn_iload_n (ft27 14 rfl) rfl ?_
    by_cases c12 : x5 ≤ ((x3 - (1 : Int32)) / (2 : Int32))
    · replace h := ifp c12 h
      refine rn_icmp_le_t (ft27 15 rfl) c12 ?_
      refine rn_aload_n (ft27 18 rfl) rfl ?_
      obtain ⟨x7, q8, h⟩ := ob_some h
      refine rn_getI (ft27 19 rfl) (by decide) (by decide) q8 ?_
      refine rn_aload_n (ft27 20 rfl) rfl ?_
      obtain ⟨x9, q10, h⟩ := ob_some h
      refine rn_getI (ft27 21 rfl) (by decide) (by decide) q10 ?_
      refine rn_isub (ft27 22 rfl) ?_
      refine rn_iload_n (ft27 23 rfl) rfl ?_
      by_cases c11 : (x7 - x9) ≤ ((x3 - (1 : Int32)) / (2 : Int32))
      · replace h := ifp c11 h
        refine rn_icmp_le_t (ft27 24 rfl) c11 ?_
        refine rn_iconst (v := (1 : Int32)) (ft27 27 rfl) (by decide) ?_
        cases h
        exact rn_iretI pr27 (ft27 28 rfl)
      · replace h := ifn c11 h
        refine rn_icmp_le_f (ft27 24 rfl) c11 ?_
        refine rn_iconst (v := (0 : Int32)) (ft27 25 rfl) (by decide) ?_
        refine rn_goto (ft27 26 rfl) ?_
        cases h
        exact rn_iretI pr27 (ft27 28 rfl)
    · replace h := ifn c12 h
      refine rn_icmp_le_f (ft27 15 rfl) c12 ?_
      refine rn_iconst (v := (-1 : Int32)) (ft27 16 rfl) (by decide) ?_
      cases h
      exact rn_iretI pr27 (ft27 17 rfl)
  · replace h := ifn c13 h
    refine rn_if_gt_f (ft27 2 rfl) c13 ?_
    refine rn_iconst (v := (0 : Int32)) (ft27 3 rfl) (by decide) ?_
    cases h
    exact rn_iretI pr27 (ft27 4 rfl)
/-- java/lang/Integer.signum(I)I -/
theorem ft28 : ∀ (i : Nat) {q : Nat × XI}, cd28[i]? = some q → fetch 28 q.1 = some q.2 := ft_of (by decide +kernel)
theorem pr28 : pRt 28 = some .int := rfl
def f28 (v0 : Int32) (w : Wd) : Option (Int32 × Wd) :=
  some (((v0 >>> ((31 : Int32) &&& 31)) ||| (ush (-v0) (31 : Int32))), w)
set_option maxRecDepth 10000 in
theorem r28 {S : Sc} (v0 : Int32) (w : Wd) (o : (Int32 × Wd)) (h : f28 v0 w = some o) : Rn S 28 0 [some (.int v0)] [] w (some (.int o.1), o.2) := by
  unfold f28 at h
  refine rn_iload_n (ft28 0 rfl) rfl ?_
  refine rn_bipush (v := (31 : Int32)) (ft28 1 rfl) (by decide) ?_
  refine rn_ishr (ft28 2 rfl) ?_
  refine rn_iload_n (ft28 3 rfl) rfl ?_
  refine rn_ineg (ft28 4 rfl) ?_
  refine rn_bipush (v := (31 : Int32)) (ft28 5 rfl) (by decide) ?_
  refine rn_iushr (ft28 6 rfl) ?_
  refine rn_ior (ft28 7 rfl) ?_
  cases h
  exact rn_iretI pr28 (ft28 8 rfl)
/-- NineWheel.onlyTurn(I)I -/
theorem ft29 : ∀ (i : Nat) {q : Nat × XI}, cd29[i]? = some q → fetch 29 q.1 = some q.2 := ft_of (by decide +kernel)
theorem pr29 : pRt 29 = some .int := rfl
def f29 (v0 : Int32) (w : Wd) : Option (Int32 × Wd) :=
  (if ¬ v0 = (1 : Int32) then (if ¬ v0 = (4 : Int32) then some ((0 : Int32), w)
      else some ((1 : Int32), w))
    else some ((-1 : Int32), w))
set_option maxRecDepth 10000 in
theorem r29 {S : Sc} (v0 : Int32) (w : Wd) (o : (Int32 × Wd)) (h : f29 v0 w = some o) : Rn S 29 0 [some (.int v0)] [] w (some (.int o.1), o.2) := by
  unfold f29 at h
  refine rn_iload_n (ft29 0 rfl) rfl ?_
  refine rn_iconst (v := (1 : Int32)) (ft29 1 rfl) (by decide) ?_
  by_cases c2 : ¬ v0 = (1 : Int32)
  · replace h := ifp c2 h
    refine rn_icmp_ne_t (ft29 2 rfl) c2 ?_
    refine rn_iload_n (ft29 5 rfl) rfl ?_
    refine rn_iconst (v := (4 : Int32)) (ft29 6 rfl) (by decide) ?_
    by_cases c1 : ¬ v0 = (4 : Int32)
    · replace h := ifp c1 h
      refine rn_icmp_ne_t (ft29 7 rfl) c1 ?_
      refine rn_iconst (v := (0 : Int32)) (ft29 10 rfl) (by decide) ?_
      cases h
      exact rn_iretI pr29 (ft29 11 rfl)
    · replace h := ifn c1 h
      refine rn_icmp_ne_f (ft29 7 rfl) c1 ?_
      refine rn_iconst (v := (1 : Int32)) (ft29 8 rfl) (by decide) ?_
      refine rn_goto (ft29 9 rfl) ?_
      cases h
      exact rn_iretI pr29 (ft29 11 rfl)
  · replace h := ifn c2 h
    refine rn_icmp_ne_f (ft29 2 rfl) c2 ?_
    refine rn_iconst (v := (-1 : Int32)) (ft29 3 rfl) (by decide) ?_
    refine rn_goto (ft29 4 rfl) ?_
    cases h
    exact rn_iretI pr29 (ft29 11 rfl)
/-- NineWheel$Sea.start()I -/
theorem ft30 : ∀ (i : Nat) {q : Nat × XI}, cd30[i]? = some q → fetch 30 q.1 = some q.2 := ft_of (by decide +kernel)
theorem pr30 : pRt 30 = some .int := rfl
def f30 (v0 : Nat) (w : Wd) : Option (Int32 × Wd) :=
  ob (getI w 6 v0 0) (fun x1 => ob (getI w 6 v0 1) (fun x3 => some (((x1 * (8 : Int32)) + x3), w)))
set_option maxRecDepth 10000 in
theorem r30 {S : Sc} (v0 : Nat) (w : Wd) (o : (Int32 × Wd)) (h : f30 v0 w = some o) : Rn S 30 0 [some (.ref v0)] [] w (some (.int o.1), o.2) := by
  unfold f30 at h
  refine rn_aload_n (ft30 0 rfl) rfl ?_
  obtain ⟨x1, q2, h⟩ := ob_some h
  refine rn_getI (ft30 1 rfl) (by decide) (by decide) q2 ?_
  refine rn_bipush (v := (8 : Int32)) (ft30 2 rfl) (by decide) ?_
  refine rn_imul (ft30 3 rfl) ?_
  refine rn_aload_n (ft30 4 rfl) rfl ?_
  obtain ⟨x3, q4, h⟩ := ob_some h
  refine rn_getI (ft30 5 rfl) (by decide) (by decide) q4 ?_
  refine rn_iadd (ft30 6 rfl) ?_
  cases h
  exact rn_iretI pr30 (ft30 7 rfl)
/-- NineWheel$Held.draw(I)I -/
theorem ft31 : ∀ (i : Nat) {q : Nat × XI}, cd31[i]? = some q → fetch 31 q.1 = some q.2 := ft_of (by decide +kernel)
theorem pr31 : pRt 31 = some .int := rfl
def f31 (v0 : Nat) (v1 : Int32) (w : Wd) : Option (Int32 × Wd) :=
  ob (getI w 3 v0 4) (fun x1 => ob (putI w 3 v0 4 (((x1 * (1103515245 : Int32)) + (12345 : Int32)) &&& (2147483647 : Int32))) (fun w3 => (if v1 ≤ 0 then some ((0 : Int32), w3)
    else ob (getI w3 3 v0 4) (fun x5 => (if ¬ v1 = 0 then some ((irm (x5 / (65536 : Int32)) v1), w3) else none)))))
set_option maxRecDepth 10000 in
theorem r31 {S : Sc} (v0 : Nat) (v1 : Int32) (w : Wd) (o : (Int32 × Wd)) (h : f31 v0 v1 w = some o) : Rn S 31 0 [some (.ref v0), some (.int v1)] [] w (some (.int o.1), o.2) := by
  unfold f31 at h
  refine rn_aload_n (ft31 0 rfl) rfl ?_
  refine rn_aload_n (ft31 1 rfl) rfl ?_
  obtain ⟨x1, q2, h⟩ := ob_some h
  refine rn_getI (ft31 2 rfl) (by decide) (by decide) q2 ?_
  refine rn_ldc (v := (1103515245 : Int32)) (ft31 3 rfl) (by decide) rfl ?_
  refine rn_imul (ft31 4 rfl) ?_
  refine rn_sipush (v := (12345 : Int32)) (ft31 5 rfl) (by decide) ?_
  refine rn_iadd (ft31 6 rfl) ?_
  refine rn_ldc (v := (2147483647 : Int32)) (ft31 7 rfl) (by decide) rfl ?_
  refine rn_iand (ft31 8 rfl) ?_
  obtain ⟨w3, q4, h⟩ := ob_some h
  refine rn_putI (ft31 9 rfl) q4 ?_
  refine rn_iload_n (ft31 10 rfl) rfl ?_
  by_cases c8 : v1 ≤ 0
  · replace h := ifp c8 h
    refine rn_if_le_t (ft31 11 rfl) c8 ?_
    refine rn_iconst (v := (0 : Int32)) (ft31 19 rfl) (by decide) ?_
    cases h
    exact rn_iretI pr31 (ft31 20 rfl)
  · replace h := ifn c8 h
    refine rn_if_le_f (ft31 11 rfl) c8 ?_
    refine rn_aload_n (ft31 12 rfl) rfl ?_
    obtain ⟨x5, q6, h⟩ := ob_some h
    refine rn_getI (ft31 13 rfl) (by decide) (by decide) q6 ?_
    refine rn_ldc (v := (65536 : Int32)) (ft31 14 rfl) (by decide) rfl ?_
    refine rn_idiv (ft31 15 rfl) (by decide) ?_
    refine rn_iload_n (ft31 16 rfl) rfl ?_
    obtain ⟨g7, h⟩ := ifg h
    refine rn_irem (ft31 17 rfl) g7 ?_
    refine rn_goto (ft31 18 rfl) ?_
    cases h
    exact rn_iretI pr31 (ft31 20 rfl)
/-- NineWheel$Journey.delayed(II)I -/
theorem ft32 : ∀ (i : Nat) {q : Nat × XI}, cd32[i]? = some q → fetch 32 q.1 = some q.2 := ft_of (by decide +kernel)
theorem pr32 : pRt 32 = some .int := rfl
def f32 (v0 : Nat) (v1 : Int32) (v2 : Int32) (w : Wd) : Option (Int32 × Wd) :=
  ob (getR w 4 v0 0) (fun x1 => ob (getI w 6 x1 4) (fun x3 => (if 0 < x3 then ob (getI w 4 v0 9) (fun x5 => ob (getI w 4 v0 9) (fun x7 => ob (getR w 4 v0 0) (fun x9 => ob (getI w 6 x9 4) (fun x11 => ob (putI w 4 v0 9 ((x7 >>> ((2 : Int32) &&& 31)) ||| ((v1 &&& (3 : Int32)) <<< (((2 : Int32) * (x11 - (1 : Int32))) &&& 31)))) (fun w13 => (if v2 = 0 then (if ¬ (x5 &&& (3 : Int32)) = (3 : Int32) then some ((x5 &&& (3 : Int32)), w13)
        else some ((-1 : Int32), w13))
      else some (v2, w13)))))))
    else (if v2 = 0 then some (v1, w)
      else some (v2, w)))))
set_option maxRecDepth 10000 in
theorem r32 {S : Sc} (v0 : Nat) (v1 : Int32) (v2 : Int32) (w : Wd) (o : (Int32 × Wd)) (h : f32 v0 v1 v2 w = some o) : Rn S 32 0 [some (.ref v0), some (.int v1), some (.int v2), none] [] w (some (.int o.1), o.2) := by
  unfold f32 at h
  refine rn_aload_n (ft32 0 rfl) rfl ?_
  obtain ⟨x1, q2, h⟩ := ob_some h
  refine rn_getR (ft32 1 rfl) q2 ?_
  obtain ⟨x3, q4, h⟩ := ob_some h
  refine rn_getI (ft32 2 rfl) (by decide) (by decide) q4 ?_
  by_cases c18 : 0 < x3
  · replace h := ifp c18 h
    refine rn_if_gt_t (ft32 3 rfl) c18 ?_
    refine rn_aload_n (ft32 10 rfl) rfl ?_
    obtain ⟨x5, q6, h⟩ := ob_some h
    refine rn_getI (ft32 11 rfl) (by decide) (by decide) q6 ?_
    refine rn_iconst (v := (3 : Int32)) (ft32 12 rfl) (by decide) ?_
    refine rn_iand (ft32 13 rfl) ?_
    refine rn_istore_n (ls' := [some (.ref v0), some (.int v1), some (.int v2), some (.int (x5 &&& (3 : Int32)))]) (ft32 14 rfl) rfl ?_
    refine rn_aload_n (ft32 15 rfl) rfl ?_
    refine rn_aload_n (ft32 16 rfl) rfl ?_
    obtain ⟨x7, q8, h⟩ := ob_some h
    refine rn_getI (ft32 17 rfl) (by decide) (by decide) q8 ?_
    refine rn_iconst (v := (2 : Int32)) (ft32 18 rfl) (by decide) ?_
    refine rn_ishr (ft32 19 rfl) ?_
    refine rn_iload_n (ft32 20 rfl) rfl ?_
    refine rn_iconst (v := (3 : Int32)) (ft32 21 rfl) (by decide) ?_
    refine rn_iand (ft32 22 rfl) ?_
    refine rn_iconst (v := (2 : Int32)) (ft32 23 rfl) (by decide) ?_
    refine rn_aload_n (ft32 24 rfl) rfl ?_
    obtain ⟨x9, q10, h⟩ := ob_some h
    refine rn_getR (ft32 25 rfl) q10 ?_
    obtain ⟨x11, q12, h⟩ := ob_some h
    refine rn_getI (ft32 26 rfl) (by decide) (by decide) q12 ?_
    refine rn_iconst (v := (1 : Int32)) (ft32 27 rfl) (by decide) ?_
    refine rn_isub (ft32 28 rfl) ?_
    refine rn_imul (ft32 29 rfl) ?_
    refine rn_ishl (ft32 30 rfl) ?_
    refine rn_ior (ft32 31 rfl) ?_
    obtain ⟨w13, q14, h⟩ := ob_some h
    refine rn_putI (ft32 32 rfl) q14 ?_
    refine rn_iload_n (ft32 33 rfl) rfl ?_
    by_cases c16 : v2 = 0
    · replace h := ifp c16 h
      refine rn_if_eq_t (ft32 34 rfl) c16 ?_
      refine rn_iload_n (ft32 37 rfl) rfl ?_
      refine rn_iconst (v := (3 : Int32)) (ft32 38 rfl) (by decide) ?_
      by_cases c15 : ¬ (x5 &&& (3 : Int32)) = (3 : Int32)
      · replace h := ifp c15 h
        refine rn_icmp_ne_t (ft32 39 rfl) c15 ?_
        refine rn_iload_n (ft32 42 rfl) rfl ?_
        cases h
        exact rn_iretI pr32 (ft32 43 rfl)
      · replace h := ifn c15 h
        refine rn_icmp_ne_f (ft32 39 rfl) c15 ?_
        refine rn_iconst (v := (-1 : Int32)) (ft32 40 rfl) (by decide) ?_
        refine rn_goto (ft32 41 rfl) ?_
        cases h
        exact rn_iretI pr32 (ft32 43 rfl)
    · replace h := ifn c16 h
      refine rn_if_eq_f (ft32 34 rfl) c16 ?_
      refine rn_iload_n (ft32 35 rfl) rfl ?_
      cases h
      exact rn_iretI pr32 (ft32 36 rfl)
  · replace h := ifn c18 h
    refine rn_if_gt_f (ft32 3 rfl) c18 ?_
    refine rn_iload_n (ft32 4 rfl) rfl ?_
    by_cases c17 : v2 = 0
    · replace h := ifp c17 h
      refine rn_if_eq_t (ft32 5 rfl) c17 ?_
      refine rn_iload_n (ft32 8 rfl) rfl ?_
      cases h
      exact rn_iretI pr32 (ft32 9 rfl)
    · replace h := ifn c17 h
      refine rn_if_eq_f (ft32 5 rfl) c17 ?_
      refine rn_iload_n (ft32 6 rfl) rfl ?_
      refine rn_goto (ft32 7 rfl) ?_
      cases h
      exact rn_iretI pr32 (ft32 9 rfl)
/-- NineWheel.clear()I -/
theorem ft33 : ∀ (i : Nat) {q : Nat × XI}, cd33[i]? = some q → fetch 33 q.1 = some q.2 := ft_of (by decide +kernel)
theorem pr33 : pRt 33 = some .int := rfl
def f33 (v0 : Nat) (w : Wd) : Option (Int32 × Wd) :=
  ob (getR w 10 v0 7) (fun x1 => ob (getI w 3 x1 3) (fun x3 => ob (getR w 10 v0 7) (fun x5 => ob (putI w 3 x5 3 (0 : Int32)) (fun w7 => some (x3, w7)))))
set_option maxRecDepth 10000 in
theorem r33 {S : Sc} (v0 : Nat) (w : Wd) (o : (Int32 × Wd)) (h : f33 v0 w = some o) : Rn S 33 0 [some (.ref v0), none] [] w (some (.int o.1), o.2) := by
  unfold f33 at h
  refine rn_aload_n (ft33 0 rfl) rfl ?_
  obtain ⟨x1, q2, h⟩ := ob_some h
  refine rn_getR (ft33 1 rfl) q2 ?_
  obtain ⟨x3, q4, h⟩ := ob_some h
  refine rn_getI (ft33 2 rfl) (by decide) (by decide) q4 ?_
  refine rn_istore_n (ls' := [some (.ref v0), some (.int x3)]) (ft33 3 rfl) rfl ?_
  refine rn_aload_n (ft33 4 rfl) rfl ?_
  obtain ⟨x5, q6, h⟩ := ob_some h
  refine rn_getR (ft33 5 rfl) q6 ?_
  refine rn_iconst (v := (0 : Int32)) (ft33 6 rfl) (by decide) ?_
  obtain ⟨w7, q8, h⟩ := ob_some h
  refine rn_putI (ft33 7 rfl) q8 ?_
  refine rn_iload_n (ft33 8 rfl) rfl ?_
  cases h
  exact rn_iretI pr33 (ft33 9 rfl)
/-- NineWheel$Counting.beginAny()V -/
theorem ft34 : ∀ (i : Nat) {q : Nat × XI}, cd34[i]? = some q → fetch 34 q.1 = some q.2 := ft_of (by decide +kernel)
theorem pr34 : pRt 34 = none := rfl
def f34 (v0 : Nat) (w : Wd) : Option Wd :=
  ob (putZ w 0 v0 4 (1 : Int32)) (fun w1 => some w1)
set_option maxRecDepth 10000 in
theorem r34 {S : Sc} (v0 : Nat) (w : Wd) (o : Wd) (h : f34 v0 w = some o) : Rn S 34 0 [some (.ref v0)] [] w (none, o) := by
  unfold f34 at h
  refine rn_aload_n (ft34 0 rfl) rfl ?_
  refine rn_iconst (v := (1 : Int32)) (ft34 1 rfl) (by decide) ?_
  obtain ⟨w1, q2, h⟩ := ob_some h
  refine rn_putZ (ft34 2 rfl) q2 ?_
  cases h
  exact rn_vret pr34 (ft34 3 rfl)
/-- java/util/Arrays.fill([JJ)V -/
theorem ft35 : ∀ (i : Nat) {q : Nat × XI}, cd35[i]? = some q → fetch 35 q.1 = some q.2 := ft_of (by decide +kernel)
theorem pr35 : pRt 35 = none := rfl
def f35_H6 (n : Nat)  (K5 : Wd → Option Wd) : Nat → Nat → Int64 → Int32 → Int32 → Wd → Option Wd
  | 0, _, _, _, _, _ => none
  | k + 1, v0, v1, v3, v4, w =>
    (if v4 ≤ v3 then K5 w
      else ob (astL w v0 v3 v1) (fun w3 => (fun (v0 : Nat) (v1 : Int64) (v3 : Int32) (v4 : Int32) w => f35_H6 n  K5 k v0 v1 v3 v4 w) v0 v1 (v3 + (1 : Int32)) v4 w3))
set_option maxRecDepth 10000 in
theorem rf35_H6 {S : Sc} (n : Nat)  (K5 : Wd → Option Wd)  (hK5 : ∀  (w : Wd) (o : Wd), K5 w = some o → Rn S 35 22 [none, none, none, none, none] [] w (none, o)) : ∀ (k : Nat) (v0 : Nat) (v1 : Int64) (v3 : Int32) (v4 : Int32) (w : Wd) (o : Wd), f35_H6 n  K5 k v0 v1 v3 v4 w = some o → Rn S 35 6 [some (.ref v0), some (.long v1), none, some (.int v3), some (.int v4)] [] w (none, o) := by
  intro k
  induction k with
  | zero =>
    intro v0 v1 v3 v4 w o h
    exact nomatch h
  | succ k ih =>
    intro v0 v1 v3 v4 w o h
    have hrec5 : ∀ (y0 : Nat) (y1 : Int64) (y3 : Int32) (y4 : Int32) (w : Wd) (o : Wd), (fun (v0 : Nat) (v1 : Int64) (v3 : Int32) (v4 : Int32) w => f35_H6 n  K5 k v0 v1 v3 v4 w) y0 y1 y3 y4 w = some o → Rn S 35 6 [some (.ref y0), some (.long y1), none, some (.int y3), some (.int y4)] [] w (none, o) := fun y0 y1 y3 y4 w o h => ih y0 y1 y3 y4 w o h
    unfold f35_H6 at h
    refine rn_iload_n (ft35 5 rfl) rfl ?_
    refine rn_iload (ft35 6 rfl) rfl ?_
    by_cases c5 : v4 ≤ v3
    · replace h := ifp c5 h
      refine rn_icmp_ge_t (ft35 7 rfl) c5 ?_
      exact rn_forget (ls := [none, none, none, none, none]) trivial (hK5 w _ h)
    · replace h := ifn c5 h
      refine rn_icmp_ge_f (ft35 7 rfl) c5 ?_
      refine rn_aload_n (ft35 8 rfl) rfl ?_
      refine rn_iload_n (ft35 9 rfl) rfl ?_
      refine rn_lload_n (ft35 10 rfl) rfl ?_
      obtain ⟨w3, q4, h⟩ := ob_some h
      refine rn_lastore (ft35 11 rfl) q4 ?_
      refine rn_iinc (u := 1) (ls' := [some (.ref v0), some (.long v1), none, some (.int (v3 + (1 : Int32))), some (.int v4)]) (ft35 12 rfl) rfl (by decide) rfl ?_
      refine rn_goto (ft35 13 rfl) ?_
      exact rn_forget (ls := [some (.ref v0), some (.long v1), none, some (.int (v3 + (1 : Int32))), some (.int v4)]) (And.intro rfl (And.intro rfl (And.intro rfl (And.intro rfl trivial)))) (hrec5 v0 v1 (v3 + (1 : Int32)) v4 w3 _ h)
def f35 (n : Nat) (v0 : Nat) (v1 : Int64) (w : Wd) : Option Wd :=
  ob (alen w v0) (fun x1 => f35_H6 n  (fun  (w6 : Wd) => some w6) n v0 v1 (0 : Int32) x1 w)
set_option maxRecDepth 10000 in
theorem r35 {S : Sc} (n : Nat) (v0 : Nat) (v1 : Int64) (w : Wd) (o : Wd) (h : f35 n v0 v1 w = some o) : Rn S 35 0 [some (.ref v0), some (.long v1), none, none, none] [] w (none, o) := by
  unfold f35 at h
  refine rn_iconst (v := (0 : Int32)) (ft35 0 rfl) (by decide) ?_
  refine rn_istore_n (ls' := [some (.ref v0), some (.long v1), none, some (.int (0 : Int32)), none]) (ft35 1 rfl) rfl ?_
  refine rn_aload_n (ft35 2 rfl) rfl ?_
  obtain ⟨x1, q2, h⟩ := ob_some h
  refine rn_alen (ft35 3 rfl) q2 ?_
  refine rn_istore (ls' := [some (.ref v0), some (.long v1), none, some (.int (0 : Int32)), some (.int x1)]) (ft35 4 rfl) rfl ?_
  refine rn_forget (ls := [some (.ref v0), some (.long v1), none, some (.int (0 : Int32)), some (.int x1)]) (And.intro rfl (And.intro rfl (And.intro rfl (And.intro rfl trivial)))) (rf35_H6 n  _  (fun  w6 o h => ?_) n v0 v1 (0 : Int32) x1 w _ h)
  cases h
  exact rn_vret pr35 (ft35 14 rfl)
/-- java/lang/Integer.bitCount(I)I -/
theorem ft36 : ∀ (i : Nat) {q : Nat × XI}, cd36[i]? = some q → fetch 36 q.1 = some q.2 := ft_of (by decide +kernel)
theorem pr36 : pRt 36 = some .int := rfl
def f36 (v0 : Int32) (w : Wd) : Option (Int32 × Wd) :=
  some (((((((((v0 - ((ush v0 (1 : Int32)) &&& (1431655765 : Int32))) &&& (858993459 : Int32)) + ((ush (v0 - ((ush v0 (1 : Int32)) &&& (1431655765 : Int32))) (2 : Int32)) &&& (858993459 : Int32))) + (ush (((v0 - ((ush v0 (1 : Int32)) &&& (1431655765 : Int32))) &&& (858993459 : Int32)) + ((ush (v0 - ((ush v0 (1 : Int32)) &&& (1431655765 : Int32))) (2 : Int32)) &&& (858993459 : Int32))) (4 : Int32))) &&& (252645135 : Int32)) + (ush (((((v0 - ((ush v0 (1 : Int32)) &&& (1431655765 : Int32))) &&& (858993459 : Int32)) + ((ush (v0 - ((ush v0 (1 : Int32)) &&& (1431655765 : Int32))) (2 : Int32)) &&& (858993459 : Int32))) + (ush (((v0 - ((ush v0 (1 : Int32)) &&& (1431655765 : Int32))) &&& (858993459 : Int32)) + ((ush (v0 - ((ush v0 (1 : Int32)) &&& (1431655765 : Int32))) (2 : Int32)) &&& (858993459 : Int32))) (4 : Int32))) &&& (252645135 : Int32)) (8 : Int32))) + (ush ((((((v0 - ((ush v0 (1 : Int32)) &&& (1431655765 : Int32))) &&& (858993459 : Int32)) + ((ush (v0 - ((ush v0 (1 : Int32)) &&& (1431655765 : Int32))) (2 : Int32)) &&& (858993459 : Int32))) + (ush (((v0 - ((ush v0 (1 : Int32)) &&& (1431655765 : Int32))) &&& (858993459 : Int32)) + ((ush (v0 - ((ush v0 (1 : Int32)) &&& (1431655765 : Int32))) (2 : Int32)) &&& (858993459 : Int32))) (4 : Int32))) &&& (252645135 : Int32)) + (ush (((((v0 - ((ush v0 (1 : Int32)) &&& (1431655765 : Int32))) &&& (858993459 : Int32)) + ((ush (v0 - ((ush v0 (1 : Int32)) &&& (1431655765 : Int32))) (2 : Int32)) &&& (858993459 : Int32))) + (ush (((v0 - ((ush v0 (1 : Int32)) &&& (1431655765 : Int32))) &&& (858993459 : Int32)) + ((ush (v0 - ((ush v0 (1 : Int32)) &&& (1431655765 : Int32))) (2 : Int32)) &&& (858993459 : Int32))) (4 : Int32))) &&& (252645135 : Int32)) (8 : Int32))) (16 : Int32))) &&& (63 : Int32)), w)
set_option maxRecDepth 10000 in
theorem r36 {S : Sc} (v0 : Int32) (w : Wd) (o : (Int32 × Wd)) (h : f36 v0 w = some o) : Rn S 36 0 [some (.int v0)] [] w (some (.int o.1), o.2) := by
  unfold f36 at h
  refine rn_iload_n (ft36 0 rfl) rfl ?_
  refine rn_iload_n (ft36 1 rfl) rfl ?_
  refine rn_iconst (v := (1 : Int32)) (ft36 2 rfl) (by decide) ?_
  refine rn_iushr (ft36 3 rfl) ?_
  refine rn_ldcw (v := (1431655765 : Int32)) (ft36 4 rfl) (by decide) ?_
  refine rn_iand (ft36 5 rfl) ?_
  refine rn_isub (ft36 6 rfl) ?_
  refine rn_istore_n (ls' := [some (.int (v0 - ((ush v0 (1 : Int32)) &&& (1431655765 : Int32))))]) (ft36 7 rfl) rfl ?_
  refine rn_iload_n (ft36 8 rfl) rfl ?_
  refine rn_ldcw (v := (858993459 : Int32)) (ft36 9 rfl) (by decide) ?_
  refine rn_iand (ft36 10 rfl) ?_
  refine rn_iload_n (ft36 11 rfl) rfl ?_
  refine rn_iconst (v := (2 : Int32)) (ft36 12 rfl) (by decide) ?_
  refine rn_iushr (ft36 13 rfl) ?_
  refine rn_ldcw (v := (858993459 : Int32)) (ft36 14 rfl) (by decide) ?_
  refine rn_iand (ft36 15 rfl) ?_
  refine rn_iadd (ft36 16 rfl) ?_
  refine rn_istore_n (ls' := [some (.int (((v0 - ((ush v0 (1 : Int32)) &&& (1431655765 : Int32))) &&& (858993459 : Int32)) + ((ush (v0 - ((ush v0 (1 : Int32)) &&& (1431655765 : Int32))) (2 : Int32)) &&& (858993459 : Int32))))]) (ft36 17 rfl) rfl ?_
  refine rn_iload_n (ft36 18 rfl) rfl ?_
  refine rn_iload_n (ft36 19 rfl) rfl ?_
  refine rn_iconst (v := (4 : Int32)) (ft36 20 rfl) (by decide) ?_
  refine rn_iushr (ft36 21 rfl) ?_
  refine rn_iadd (ft36 22 rfl) ?_
  refine rn_ldcw (v := (252645135 : Int32)) (ft36 23 rfl) (by decide) ?_
  refine rn_iand (ft36 24 rfl) ?_
  refine rn_istore_n (ls' := [some (.int (((((v0 - ((ush v0 (1 : Int32)) &&& (1431655765 : Int32))) &&& (858993459 : Int32)) + ((ush (v0 - ((ush v0 (1 : Int32)) &&& (1431655765 : Int32))) (2 : Int32)) &&& (858993459 : Int32))) + (ush (((v0 - ((ush v0 (1 : Int32)) &&& (1431655765 : Int32))) &&& (858993459 : Int32)) + ((ush (v0 - ((ush v0 (1 : Int32)) &&& (1431655765 : Int32))) (2 : Int32)) &&& (858993459 : Int32))) (4 : Int32))) &&& (252645135 : Int32)))]) (ft36 25 rfl) rfl ?_
  refine rn_iload_n (ft36 26 rfl) rfl ?_
  refine rn_iload_n (ft36 27 rfl) rfl ?_
  refine rn_bipush (v := (8 : Int32)) (ft36 28 rfl) (by decide) ?_
  refine rn_iushr (ft36 29 rfl) ?_
  refine rn_iadd (ft36 30 rfl) ?_
  refine rn_istore_n (ls' := [some (.int ((((((v0 - ((ush v0 (1 : Int32)) &&& (1431655765 : Int32))) &&& (858993459 : Int32)) + ((ush (v0 - ((ush v0 (1 : Int32)) &&& (1431655765 : Int32))) (2 : Int32)) &&& (858993459 : Int32))) + (ush (((v0 - ((ush v0 (1 : Int32)) &&& (1431655765 : Int32))) &&& (858993459 : Int32)) + ((ush (v0 - ((ush v0 (1 : Int32)) &&& (1431655765 : Int32))) (2 : Int32)) &&& (858993459 : Int32))) (4 : Int32))) &&& (252645135 : Int32)) + (ush (((((v0 - ((ush v0 (1 : Int32)) &&& (1431655765 : Int32))) &&& (858993459 : Int32)) + ((ush (v0 - ((ush v0 (1 : Int32)) &&& (1431655765 : Int32))) (2 : Int32)) &&& (858993459 : Int32))) + (ush (((v0 - ((ush v0 (1 : Int32)) &&& (1431655765 : Int32))) &&& (858993459 : Int32)) + ((ush (v0 - ((ush v0 (1 : Int32)) &&& (1431655765 : Int32))) (2 : Int32)) &&& (858993459 : Int32))) (4 : Int32))) &&& (252645135 : Int32)) (8 : Int32))))]) (ft36 31 rfl) rfl ?_
  refine rn_iload_n (ft36 32 rfl) rfl ?_
  refine rn_iload_n (ft36 33 rfl) rfl ?_
  refine rn_bipush (v := (16 : Int32)) (ft36 34 rfl) (by decide) ?_
  refine rn_iushr (ft36 35 rfl) ?_
  refine rn_iadd (ft36 36 rfl) ?_
  refine rn_istore_n (ls' := [some (.int (((((((v0 - ((ush v0 (1 : Int32)) &&& (1431655765 : Int32))) &&& (858993459 : Int32)) + ((ush (v0 - ((ush v0 (1 : Int32)) &&& (1431655765 : Int32))) (2 : Int32)) &&& (858993459 : Int32))) + (ush (((v0 - ((ush v0 (1 : Int32)) &&& (1431655765 : Int32))) &&& (858993459 : Int32)) + ((ush (v0 - ((ush v0 (1 : Int32)) &&& (1431655765 : Int32))) (2 : Int32)) &&& (858993459 : Int32))) (4 : Int32))) &&& (252645135 : Int32)) + (ush (((((v0 - ((ush v0 (1 : Int32)) &&& (1431655765 : Int32))) &&& (858993459 : Int32)) + ((ush (v0 - ((ush v0 (1 : Int32)) &&& (1431655765 : Int32))) (2 : Int32)) &&& (858993459 : Int32))) + (ush (((v0 - ((ush v0 (1 : Int32)) &&& (1431655765 : Int32))) &&& (858993459 : Int32)) + ((ush (v0 - ((ush v0 (1 : Int32)) &&& (1431655765 : Int32))) (2 : Int32)) &&& (858993459 : Int32))) (4 : Int32))) &&& (252645135 : Int32)) (8 : Int32))) + (ush ((((((v0 - ((ush v0 (1 : Int32)) &&& (1431655765 : Int32))) &&& (858993459 : Int32)) + ((ush (v0 - ((ush v0 (1 : Int32)) &&& (1431655765 : Int32))) (2 : Int32)) &&& (858993459 : Int32))) + (ush (((v0 - ((ush v0 (1 : Int32)) &&& (1431655765 : Int32))) &&& (858993459 : Int32)) + ((ush (v0 - ((ush v0 (1 : Int32)) &&& (1431655765 : Int32))) (2 : Int32)) &&& (858993459 : Int32))) (4 : Int32))) &&& (252645135 : Int32)) + (ush (((((v0 - ((ush v0 (1 : Int32)) &&& (1431655765 : Int32))) &&& (858993459 : Int32)) + ((ush (v0 - ((ush v0 (1 : Int32)) &&& (1431655765 : Int32))) (2 : Int32)) &&& (858993459 : Int32))) + (ush (((v0 - ((ush v0 (1 : Int32)) &&& (1431655765 : Int32))) &&& (858993459 : Int32)) + ((ush (v0 - ((ush v0 (1 : Int32)) &&& (1431655765 : Int32))) (2 : Int32)) &&& (858993459 : Int32))) (4 : Int32))) &&& (252645135 : Int32)) (8 : Int32))) (16 : Int32))))]) (ft36 37 rfl) rfl ?_
  refine rn_iload_n (ft36 38 rfl) rfl ?_
  refine rn_bipush (v := (63 : Int32)) (ft36 39 rfl) (by decide) ?_
  refine rn_iand (ft36 40 rfl) ?_
  cases h
  exact rn_iretI pr36 (ft36 41 rfl)
/-- NineWheel.seed(I)I -/
theorem ft37 : ∀ (i : Nat) {q : Nat × XI}, cd37[i]? = some q → fetch 37 q.1 = some q.2 := ft_of (by decide +kernel)
theorem pr37 : pRt 37 = some .int := rfl
def f37 (v0 : Nat) (v1 : Int32) (w : Wd) : Option (Int32 × Wd) :=
  (if 0 ≤ v1 then ob (getR w 10 v0 7) (fun x1 => ob (getI w 3 x1 4) (fun x3 => ob (getR w 10 v0 7) (fun x5 => ob (putI w 3 x5 4 v1) (fun w7 => some (x3, w7)))))
    else some ((-1000002 : Int32), w))
set_option maxRecDepth 10000 in
theorem r37 {S : Sc} (v0 : Nat) (v1 : Int32) (w : Wd) (o : (Int32 × Wd)) (h : f37 v0 v1 w = some o) : Rn S 37 0 [some (.ref v0), some (.int v1), none] [] w (some (.int o.1), o.2) := by
  unfold f37 at h
  refine rn_iload_n (ft37 0 rfl) rfl ?_
  by_cases c9 : 0 ≤ v1
  · replace h := ifp c9 h
    refine rn_if_ge_t (ft37 1 rfl) c9 ?_
    refine rn_aload_n (ft37 4 rfl) rfl ?_
    obtain ⟨x1, q2, h⟩ := ob_some h
    refine rn_getR (ft37 5 rfl) q2 ?_
    obtain ⟨x3, q4, h⟩ := ob_some h
    refine rn_getI (ft37 6 rfl) (by decide) (by decide) q4 ?_
    refine rn_istore_n (ls' := [some (.ref v0), some (.int v1), some (.int x3)]) (ft37 7 rfl) rfl ?_
    refine rn_aload_n (ft37 8 rfl) rfl ?_
    obtain ⟨x5, q6, h⟩ := ob_some h
    refine rn_getR (ft37 9 rfl) q6 ?_
    refine rn_iload_n (ft37 10 rfl) rfl ?_
    obtain ⟨w7, q8, h⟩ := ob_some h
    refine rn_putI (ft37 11 rfl) q8 ?_
    refine rn_iload_n (ft37 12 rfl) rfl ?_
    cases h
    exact rn_iretI pr37 (ft37 13 rfl)
  · replace h := ifn c9 h
    refine rn_if_ge_f (ft37 1 rfl) c9 ?_
    refine rn_ldc (v := (-1000002 : Int32)) (ft37 2 rfl) (by decide) rfl ?_
    cases h
    exact rn_iretI pr37 (ft37 3 rfl)
/-- NineWheel.count(I)I -/
theorem ft38 : ∀ (i : Nat) {q : Nat × XI}, cd38[i]? = some q → fetch 38 q.1 = some q.2 := ft_of (by decide +kernel)
theorem pr38 : pRt 38 = some .int := rfl
def f38 (v0 : Nat) (v1 : Int32) (w : Wd) : Option (Int32 × Wd) :=
  (if ¬ v1 = 0 then (if ¬ v1 = (1 : Int32) then (if ¬ v1 = (2 : Int32) then some ((-1000002 : Int32), w)
        else ob (getR w 10 v0 0) (fun x1 => ob (getI w 9 x1 1) (fun x3 => some (x3, w))))
      else ob (getR w 10 v0 7) (fun x6 => ob (getI w 3 x6 3) (fun x8 => some (x8, w))))
    else ob (getI w 10 v0 6) (fun x11 => some (x11, w)))
set_option maxRecDepth 10000 in
theorem r38 {S : Sc} (v0 : Nat) (v1 : Int32) (w : Wd) (o : (Int32 × Wd)) (h : f38 v0 v1 w = some o) : Rn S 38 0 [some (.ref v0), some (.int v1)] [] w (some (.int o.1), o.2) := by
  unfold f38 at h
  refine rn_iload_n (ft38 0 rfl) rfl ?_
  by_cases c13 : ¬ v1 = 0
  · replace h := ifp c13 h
    refine rn_if_ne_t (ft38 1 rfl) c13 ?_
    refine rn_iload_n (ft38 5 rfl) rfl ?_
    refine rn_iconst (v := (1 : Int32)) (ft38 6 rfl) (by decide) ?_
    by_cases c10 : ¬ v1 = (1 : Int32)
    · replace h := ifp c10 h
      refine rn_icmp_ne_t (ft38 7 rfl) c10 ?_
      refine rn_iload_n (ft38 12 rfl) rfl ?_
      refine rn_iconst (v := (2 : Int32)) (ft38 13 rfl) (by decide) ?_
      by_cases c5 : ¬ v1 = (2 : Int32)
      · replace h := ifp c5 h
        refine rn_icmp_ne_t (ft38 14 rfl) c5 ?_
        refine rn_ldc (v := (-1000002 : Int32)) (ft38 19 rfl) (by decide) rfl ?_
        cases h
        exact rn_iretI pr38 (ft38 20 rfl)
      · replace h := ifn c5 h
        refine rn_icmp_ne_f (ft38 14 rfl) c5 ?_
        refine rn_aload_n (ft38 15 rfl) rfl ?_
        obtain ⟨x1, q2, h⟩ := ob_some h
        refine rn_getR (ft38 16 rfl) q2 ?_
        obtain ⟨x3, q4, h⟩ := ob_some h
        refine rn_getI (ft38 17 rfl) (by decide) (by decide) q4 ?_
        refine rn_goto (ft38 18 rfl) ?_
        cases h
        exact rn_iretI pr38 (ft38 20 rfl)
    · replace h := ifn c10 h
      refine rn_icmp_ne_f (ft38 7 rfl) c10 ?_
      refine rn_aload_n (ft38 8 rfl) rfl ?_
      obtain ⟨x6, q7, h⟩ := ob_some h
      refine rn_getR (ft38 9 rfl) q7 ?_
      obtain ⟨x8, q9, h⟩ := ob_some h
      refine rn_getI (ft38 10 rfl) (by decide) (by decide) q9 ?_
      cases h
      exact rn_iretI pr38 (ft38 11 rfl)
  · replace h := ifn c13 h
    refine rn_if_ne_f (ft38 1 rfl) c13 ?_
    refine rn_aload_n (ft38 2 rfl) rfl ?_
    obtain ⟨x11, q12, h⟩ := ob_some h
    refine rn_getI (ft38 3 rfl) (by decide) (by decide) q12 ?_
    cases h
    exact rn_iretI pr38 (ft38 4 rfl)
/-- NineWheel$Held.become(LNineWheel$Held;)V -/
theorem ft39 : ∀ (i : Nat) {q : Nat × XI}, cd39[i]? = some q → fetch 39 q.1 = some q.2 := ft_of (by decide +kernel)
theorem pr39 : pRt 39 = none := rfl
def f39_H2 (n : Nat)  (K2 : Nat → Nat → Wd → Option Wd) : Nat → Nat → Nat → Int32 → Wd → Option Wd
  | 0, _, _, _, _ => none
  | k + 1, v0, v1, v2, w =>
    (if (6 : Int32) ≤ v2 then K2 v0 v1 w
      else ob (getR w 3 v0 0) (fun x1 => ob (getR w 3 v1 0) (fun x3 => ob (aldI w x3 v2) (fun x5 => ob (astI w x1 v2 x5) (fun w7 => ob (getR w7 3 v0 1) (fun x9 => ob (getR w7 3 v1 1) (fun x11 => ob (aldI w7 x11 v2) (fun x13 => ob (astI w7 x9 v2 x13) (fun w15 => (fun (v0 : Nat) (v1 : Nat) (v2 : Int32) w => f39_H2 n  K2 k v0 v1 v2 w) v0 v1 (v2 + (1 : Int32)) w15)))))))))
set_option maxRecDepth 10000 in
theorem rf39_H2 {S : Sc} (n : Nat)  (K2 : Nat → Nat → Wd → Option Wd)  (hK2 : ∀ (y0 : Nat) (y1 : Nat) (w : Wd) (o : Wd), K2 y0 y1 w = some o → Rn S 39 38 [some (.ref y0), some (.ref y1), none] [] w (none, o)) : ∀ (k : Nat) (v0 : Nat) (v1 : Nat) (v2 : Int32) (w : Wd) (o : Wd), f39_H2 n  K2 k v0 v1 v2 w = some o → Rn S 39 2 [some (.ref v0), some (.ref v1), some (.int v2)] [] w (none, o) := by
  intro k
  induction k with
  | zero =>
    intro v0 v1 v2 w o h
    exact nomatch h
  | succ k ih =>
    intro v0 v1 v2 w o h
    have hrec2 : ∀ (y0 : Nat) (y1 : Nat) (y2 : Int32) (w : Wd) (o : Wd), (fun (v0 : Nat) (v1 : Nat) (v2 : Int32) w => f39_H2 n  K2 k v0 v1 v2 w) y0 y1 y2 w = some o → Rn S 39 2 [some (.ref y0), some (.ref y1), some (.int y2)] [] w (none, o) := fun y0 y1 y2 w o h => ih y0 y1 y2 w o h
    unfold f39_H2 at h
    refine rn_iload_n (ft39 2 rfl) rfl ?_
    refine rn_bipush (v := (6 : Int32)) (ft39 3 rfl) (by decide) ?_
    by_cases c17 : (6 : Int32) ≤ v2
    · replace h := ifp c17 h
      refine rn_icmp_ge_t (ft39 4 rfl) c17 ?_
      exact rn_forget (ls := [some (.ref v0), some (.ref v1), none]) (And.intro rfl (And.intro rfl trivial)) (hK2 v0 v1 w _ h)
    · replace h := ifn c17 h
      refine rn_icmp_ge_f (ft39 4 rfl) c17 ?_
      refine rn_aload_n (ft39 5 rfl) rfl ?_
      obtain ⟨x1, q2, h⟩ := ob_some h
      refine rn_getR (ft39 6 rfl) q2 ?_
      refine rn_iload_n (ft39 7 rfl) rfl ?_
      refine rn_aload_n (ft39 8 rfl) rfl ?_
      obtain ⟨x3, q4, h⟩ := ob_some h
      refine rn_getR (ft39 9 rfl) q4 ?_
      refine rn_iload_n (ft39 10 rfl) rfl ?_
      obtain ⟨x5, q6, h⟩ := ob_some h
      refine rn_iaload (ft39 11 rfl) q6 ?_
      obtain ⟨w7, q8, h⟩ := ob_some h
      refine rn_iastore (ft39 12 rfl) q8 ?_
      refine rn_aload_n (ft39 13 rfl) rfl ?_
      obtain ⟨x9, q10, h⟩ := ob_some h
      refine rn_getR (ft39 14 rfl) q10 ?_
      refine rn_iload_n (ft39 15 rfl) rfl ?_
      refine rn_aload_n (ft39 16 rfl) rfl ?_
      obtain ⟨x11, q12, h⟩ := ob_some h
      refine rn_getR (ft39 17 rfl) q12 ?_
      refine rn_iload_n (ft39 18 rfl) rfl ?_
      obtain ⟨x13, q14, h⟩ := ob_some h
      refine rn_iaload (ft39 19 rfl) q14 ?_
      obtain ⟨w15, q16, h⟩ := ob_some h
      refine rn_iastore (ft39 20 rfl) q16 ?_
      refine rn_iinc (u := 1) (ls' := [some (.ref v0), some (.ref v1), some (.int (v2 + (1 : Int32)))]) (ft39 21 rfl) rfl (by decide) rfl ?_
      refine rn_goto (ft39 22 rfl) ?_
      exact rn_forget (ls := [some (.ref v0), some (.ref v1), some (.int (v2 + (1 : Int32)))]) (And.intro rfl (And.intro rfl (And.intro rfl trivial))) (hrec2 v0 v1 (v2 + (1 : Int32)) w15 _ h)
def f39_H40 (n : Nat)  (K25 : Nat → Nat → Wd → Option Wd) : Nat → Nat → Nat → Int32 → Wd → Option Wd
  | 0, _, _, _, _ => none
  | k + 1, v0, v1, v2, w =>
    (if (40 : Int32) ≤ v2 then K25 v0 v1 w
      else ob (getR w 3 v0 2) (fun x19 => ob (getR w 3 v1 2) (fun x21 => ob (aldI w x21 v2) (fun x23 => ob (astI w x19 v2 x23) (fun w25 => (fun (v0 : Nat) (v1 : Nat) (v2 : Int32) w => f39_H40 n  K25 k v0 v1 v2 w) v0 v1 (v2 + (1 : Int32)) w25)))))
set_option maxRecDepth 10000 in
theorem rf39_H40 {S : Sc} (n : Nat)  (K25 : Nat → Nat → Wd → Option Wd)  (hK25 : ∀ (y0 : Nat) (y1 : Nat) (w : Wd) (o : Wd), K25 y0 y1 w = some o → Rn S 39 64 [some (.ref y0), some (.ref y1), none] [] w (none, o)) : ∀ (k : Nat) (v0 : Nat) (v1 : Nat) (v2 : Int32) (w : Wd) (o : Wd), f39_H40 n  K25 k v0 v1 v2 w = some o → Rn S 39 40 [some (.ref v0), some (.ref v1), some (.int v2)] [] w (none, o) := by
  intro k
  induction k with
  | zero =>
    intro v0 v1 v2 w o h
    exact nomatch h
  | succ k ih =>
    intro v0 v1 v2 w o h
    have hrec25 : ∀ (y0 : Nat) (y1 : Nat) (y2 : Int32) (w : Wd) (o : Wd), (fun (v0 : Nat) (v1 : Nat) (v2 : Int32) w => f39_H40 n  K25 k v0 v1 v2 w) y0 y1 y2 w = some o → Rn S 39 40 [some (.ref y0), some (.ref y1), some (.int y2)] [] w (none, o) := fun y0 y1 y2 w o h => ih y0 y1 y2 w o h
    unfold f39_H40 at h
    refine rn_iload_n (ft39 25 rfl) rfl ?_
    refine rn_bipush (v := (40 : Int32)) (ft39 26 rfl) (by decide) ?_
    by_cases c27 : (40 : Int32) ≤ v2
    · replace h := ifp c27 h
      refine rn_icmp_ge_t (ft39 27 rfl) c27 ?_
      exact rn_forget (ls := [some (.ref v0), some (.ref v1), none]) (And.intro rfl (And.intro rfl trivial)) (hK25 v0 v1 w _ h)
    · replace h := ifn c27 h
      refine rn_icmp_ge_f (ft39 27 rfl) c27 ?_
      refine rn_aload_n (ft39 28 rfl) rfl ?_
      obtain ⟨x19, q20, h⟩ := ob_some h
      refine rn_getR (ft39 29 rfl) q20 ?_
      refine rn_iload_n (ft39 30 rfl) rfl ?_
      refine rn_aload_n (ft39 31 rfl) rfl ?_
      obtain ⟨x21, q22, h⟩ := ob_some h
      refine rn_getR (ft39 32 rfl) q22 ?_
      refine rn_iload_n (ft39 33 rfl) rfl ?_
      obtain ⟨x23, q24, h⟩ := ob_some h
      refine rn_iaload (ft39 34 rfl) q24 ?_
      obtain ⟨w25, q26, h⟩ := ob_some h
      refine rn_iastore (ft39 35 rfl) q26 ?_
      refine rn_iinc (u := 1) (ls' := [some (.ref v0), some (.ref v1), some (.int (v2 + (1 : Int32)))]) (ft39 36 rfl) rfl (by decide) rfl ?_
      refine rn_goto (ft39 37 rfl) ?_
      exact rn_forget (ls := [some (.ref v0), some (.ref v1), some (.int (v2 + (1 : Int32)))]) (And.intro rfl (And.intro rfl (And.intro rfl trivial))) (hrec25 v0 v1 (v2 + (1 : Int32)) w25 _ h)
def f39 (n : Nat) (v0 : Nat) (v1 : Nat) (w : Wd) : Option Wd :=
  f39_H2 n  (fun (e0_18 : Nat) (e1_18 : Nat) (w18 : Wd) => f39_H40 n  (fun (e0_28 : Nat) (e1_28 : Nat) (w28 : Wd) => ob (getI w28 3 e1_28 3) (fun x29 => ob (putI w28 3 e0_28 3 x29) (fun w31 => ob (getI w31 3 e1_28 4) (fun x33 => ob (putI w31 3 e0_28 4 x33) (fun w35 => some w35))))) n e0_18 e1_18 (0 : Int32) w18) n v0 v1 (0 : Int32) w
set_option maxRecDepth 10000 in
theorem r39 {S : Sc} (n : Nat) (v0 : Nat) (v1 : Nat) (w : Wd) (o : Wd) (h : f39 n v0 v1 w = some o) : Rn S 39 0 [some (.ref v0), some (.ref v1), none] [] w (none, o) := by
  unfold f39 at h
  refine rn_iconst (v := (0 : Int32)) (ft39 0 rfl) (by decide) ?_
  refine rn_istore_n (ls' := [some (.ref v0), some (.ref v1), some (.int (0 : Int32))]) (ft39 1 rfl) rfl ?_
  refine rn_forget (ls := [some (.ref v0), some (.ref v1), some (.int (0 : Int32))]) (And.intro rfl (And.intro rfl (And.intro rfl trivial))) (rf39_H2 n  _  (fun e0_18 e1_18 w18 o h => ?_) n v0 v1 (0 : Int32) w _ h)
  refine rn_iconst (v := (0 : Int32)) (ft39 23 rfl) (by decide) ?_
  refine rn_istore_n (ls' := [some (.ref e0_18), some (.ref e1_18), some (.int (0 : Int32))]) (ft39 24 rfl) rfl ?_
  refine rn_forget (ls := [some (.ref e0_18), some (.ref e1_18), some (.int (0 : Int32))]) (And.intro rfl (And.intro rfl (And.intro rfl trivial))) (rf39_H40 n  _  (fun e0_28 e1_28 w28 o h => ?_) n e0_18 e1_18 (0 : Int32) w18 _ h)
  refine rn_aload_n (ft39 38 rfl) rfl ?_
  refine rn_aload_n (ft39 39 rfl) rfl ?_
  obtain ⟨x29, q30, h⟩ := ob_some h
  refine rn_getI (ft39 40 rfl) (by decide) (by decide) q30 ?_
  obtain ⟨w31, q32, h⟩ := ob_some h
  refine rn_putI (ft39 41 rfl) q32 ?_
  refine rn_aload_n (ft39 42 rfl) rfl ?_
  refine rn_aload_n (ft39 43 rfl) rfl ?_
  obtain ⟨x33, q34, h⟩ := ob_some h
  refine rn_getI (ft39 44 rfl) (by decide) (by decide) q34 ?_
  obtain ⟨w35, q36, h⟩ := ob_some h
  refine rn_putI (ft39 45 rfl) q36 ?_
  cases h
  exact rn_vret pr39 (ft39 46 rfl)
/-- NineWheelModel.in(JJJ)Z -/
theorem ft40 : ∀ (i : Nat) {q : Nat × XI}, cd40[i]? = some q → fetch 40 q.1 = some q.2 := ft_of (by decide +kernel)
theorem pr40 : pRt 40 = some .boolean := rfl
def f40 (v0 : Int64) (v2 : Int64) (v4 : Int64) (w : Wd) : Option (Int32 × Wd) :=
  (if (lg_cmp v0 v2) < 0 then some ((0 : Int32), w)
    else (if 0 < (lg_cmp v0 v4) then some ((0 : Int32), w)
      else some ((1 : Int32), w)))
set_option maxRecDepth 10000 in
theorem r40 {S : Sc} (v0 : Int64) (v2 : Int64) (v4 : Int64) (w : Wd) (o : (Int32 × Wd)) (h : f40 v0 v2 v4 w = some o) : Rn S 40 0 [some (.long v0), none, some (.long v2), none, some (.long v4), none] [] w (some (.int o.1), o.2) := by
  unfold f40 at h
  refine rn_lload_n (ft40 0 rfl) rfl ?_
  refine rn_lload_n (ft40 1 rfl) rfl ?_
  refine rn_lcmp (ft40 2 rfl) ?_
  by_cases c2 : (lg_cmp v0 v2) < 0
  · replace h := ifp c2 h
    refine rn_if_lt_t (ft40 3 rfl) c2 ?_
    refine rn_iconst (v := (0 : Int32)) (ft40 10 rfl) (by decide) ?_
    cases h
    exact rn_iretZ pr40 (by decide) (ft40 11 rfl)
  · replace h := ifn c2 h
    refine rn_if_lt_f (ft40 3 rfl) c2 ?_
    refine rn_lload_n (ft40 4 rfl) rfl ?_
    refine rn_lload (ft40 5 rfl) rfl ?_
    refine rn_lcmp (ft40 6 rfl) ?_
    by_cases c1 : 0 < (lg_cmp v0 v4)
    · replace h := ifp c1 h
      refine rn_if_gt_t (ft40 7 rfl) c1 ?_
      refine rn_iconst (v := (0 : Int32)) (ft40 10 rfl) (by decide) ?_
      cases h
      exact rn_iretZ pr40 (by decide) (ft40 11 rfl)
    · replace h := ifn c1 h
      refine rn_if_gt_f (ft40 7 rfl) c1 ?_
      refine rn_iconst (v := (1 : Int32)) (ft40 8 rfl) (by decide) ?_
      refine rn_goto (ft40 9 rfl) ?_
      cases h
      exact rn_iretZ pr40 (by decide) (ft40 11 rfl)
/-- NineWheelModel.bare()V -/
theorem ft41 : ∀ (i : Nat) {q : Nat × XI}, cd41[i]? = some q → fetch 41 q.1 = some q.2 := ft_of (by decide +kernel)
theorem pr41 : pRt 41 = none := rfl
def f41_H37 (n : Nat)  (K23 : Wd → Option Wd) : Nat → Nat → Int32 → Wd → Option Wd
  | 0, _, _, _ => none
  | k + 1, v0, v1, w =>
    (if (64 : Int32) ≤ v1 then K23 w
      else ob (getR w 11 v0 24) (fun x15 => ob (astB w x15 v1 (0 : Int32)) (fun w17 => (fun (v0 : Nat) (v1 : Int32) w => f41_H37 n  K23 k v0 v1 w) v0 (v1 + (1 : Int32)) w17)))
set_option maxRecDepth 10000 in
theorem rf41_H37 {S : Sc} (n : Nat)  (K23 : Wd → Option Wd)  (hK23 : ∀  (w : Wd) (o : Wd), K23 w = some o → Rn S 41 56 [none, none] [] w (none, o)) : ∀ (k : Nat) (v0 : Nat) (v1 : Int32) (w : Wd) (o : Wd), f41_H37 n  K23 k v0 v1 w = some o → Rn S 41 37 [some (.ref v0), some (.int v1)] [] w (none, o) := by
  intro k
  induction k with
  | zero =>
    intro v0 v1 w o h
    exact nomatch h
  | succ k ih =>
    intro v0 v1 w o h
    have hrec23 : ∀ (y0 : Nat) (y1 : Int32) (w : Wd) (o : Wd), (fun (v0 : Nat) (v1 : Int32) w => f41_H37 n  K23 k v0 v1 w) y0 y1 w = some o → Rn S 41 37 [some (.ref y0), some (.int y1)] [] w (none, o) := fun y0 y1 w o h => ih y0 y1 w o h
    unfold f41_H37 at h
    refine rn_iload_n (ft41 23 rfl) rfl ?_
    refine rn_bipush (v := (64 : Int32)) (ft41 24 rfl) (by decide) ?_
    by_cases c19 : (64 : Int32) ≤ v1
    · replace h := ifp c19 h
      refine rn_icmp_ge_t (ft41 25 rfl) c19 ?_
      exact rn_forget (ls := [none, none]) trivial (hK23 w _ h)
    · replace h := ifn c19 h
      refine rn_icmp_ge_f (ft41 25 rfl) c19 ?_
      refine rn_aload_n (ft41 26 rfl) rfl ?_
      obtain ⟨x15, q16, h⟩ := ob_some h
      refine rn_getR (ft41 27 rfl) q16 ?_
      refine rn_iload_n (ft41 28 rfl) rfl ?_
      refine rn_iconst (v := (0 : Int32)) (ft41 29 rfl) (by decide) ?_
      obtain ⟨w17, q18, h⟩ := ob_some h
      refine rn_bastore (ft41 30 rfl) q18 ?_
      refine rn_iinc (u := 1) (ls' := [some (.ref v0), some (.int (v1 + (1 : Int32)))]) (ft41 31 rfl) rfl (by decide) rfl ?_
      refine rn_goto (ft41 32 rfl) ?_
      exact rn_forget (ls := [some (.ref v0), some (.int (v1 + (1 : Int32)))]) (And.intro rfl (And.intro rfl trivial)) (hrec23 v0 (v1 + (1 : Int32)) w17 _ h)
def f41 (n : Nat) (v0 : Nat) (w : Wd) : Option Wd :=
  ob (putI w 11 v0 22 (0 : Int32)) (fun w1 => ob (putI w1 11 v0 23 (4 : Int32)) (fun w3 => ob (putI w3 11 v0 25 (-1 : Int32)) (fun w5 => ob (putI w5 11 v0 26 (-1 : Int32)) (fun w7 => ob (putI w7 11 v0 27 (0 : Int32)) (fun w9 => ob (putI w9 11 v0 28 (0 : Int32)) (fun w11 => ob (putI w11 11 v0 33 (0 : Int32)) (fun w13 => f41_H37 n  (fun  (w20 : Wd) => some w20) n v0 (0 : Int32) w13)))))))
set_option maxRecDepth 10000 in
theorem r41 {S : Sc} (n : Nat) (v0 : Nat) (w : Wd) (o : Wd) (h : f41 n v0 w = some o) : Rn S 41 0 [some (.ref v0), none] [] w (none, o) := by
  unfold f41 at h
  refine rn_aload_n (ft41 0 rfl) rfl ?_
  refine rn_iconst (v := (0 : Int32)) (ft41 1 rfl) (by decide) ?_
  obtain ⟨w1, q2, h⟩ := ob_some h
  refine rn_putI (ft41 2 rfl) q2 ?_
  refine rn_aload_n (ft41 3 rfl) rfl ?_
  refine rn_iconst (v := (4 : Int32)) (ft41 4 rfl) (by decide) ?_
  obtain ⟨w3, q4, h⟩ := ob_some h
  refine rn_putI (ft41 5 rfl) q4 ?_
  refine rn_aload_n (ft41 6 rfl) rfl ?_
  refine rn_iconst (v := (-1 : Int32)) (ft41 7 rfl) (by decide) ?_
  obtain ⟨w5, q6, h⟩ := ob_some h
  refine rn_putI (ft41 8 rfl) q6 ?_
  refine rn_aload_n (ft41 9 rfl) rfl ?_
  refine rn_iconst (v := (-1 : Int32)) (ft41 10 rfl) (by decide) ?_
  obtain ⟨w7, q8, h⟩ := ob_some h
  refine rn_putI (ft41 11 rfl) q8 ?_
  refine rn_aload_n (ft41 12 rfl) rfl ?_
  refine rn_iconst (v := (0 : Int32)) (ft41 13 rfl) (by decide) ?_
  obtain ⟨w9, q10, h⟩ := ob_some h
  refine rn_putI (ft41 14 rfl) q10 ?_
  refine rn_aload_n (ft41 15 rfl) rfl ?_
  refine rn_iconst (v := (0 : Int32)) (ft41 16 rfl) (by decide) ?_
  obtain ⟨w11, q12, h⟩ := ob_some h
  refine rn_putI (ft41 17 rfl) q12 ?_
  refine rn_aload_n (ft41 18 rfl) rfl ?_
  refine rn_iconst (v := (0 : Int32)) (ft41 19 rfl) (by decide) ?_
  obtain ⟨w13, q14, h⟩ := ob_some h
  refine rn_putI (ft41 20 rfl) q14 ?_
  refine rn_iconst (v := (0 : Int32)) (ft41 21 rfl) (by decide) ?_
  refine rn_istore_n (ls' := [some (.ref v0), some (.int (0 : Int32))]) (ft41 22 rfl) rfl ?_
  refine rn_forget (ls := [some (.ref v0), some (.int (0 : Int32))]) (And.intro rfl (And.intro rfl trivial)) (rf41_H37 n  _  (fun  w20 o h => ?_) n v0 (0 : Int32) w13 _ h)
  cases h
  exact rn_vret pr41 (ft41 33 rfl)
/-- NineWheelModel.here()I -/
theorem ft42 : ∀ (i : Nat) {q : Nat × XI}, cd42[i]? = some q → fetch 42 q.1 = some q.2 := ft_of (by decide +kernel)
theorem pr42 : pRt 42 = some .int := rfl
def f42_H0 (n : Nat)  (K0 : Nat → Wd → Option (Int32 × Wd)) : Nat → Nat → Wd → Option (Int32 × Wd)
  | 0, _, _ => none
  | k + 1, v0, w =>
    ob (getI w 11 v0 17) (fun x1 => ob (getI w 11 v0 15) (fun x3 => (if x3 ≤ x1 then K0 v0 w
      else ob (getR w 11 v0 14) (fun x5 => ob (getI w 11 v0 17) (fun x7 => ob (aldI w x5 x7) (fun x9 => (if ¬ x9 = (32 : Int32) then K0 v0 w
        else ob (getI w 11 v0 17) (fun x11 => ob (putI w 11 v0 17 (x11 + (1 : Int32))) (fun w13 => (fun (v0 : Nat) w => f42_H0 n  K0 k v0 w) v0 w13)))))))))
set_option maxRecDepth 10000 in
theorem rf42_H0 {S : Sc} (n : Nat)  (K0 : Nat → Wd → Option (Int32 × Wd))  (hK0 : ∀ (y0 : Nat) (w : Wd) (o : (Int32 × Wd)), K0 y0 w = some o → Rn S 42 38 [some (.ref y0)] [] w (some (.int o.1), o.2)) : ∀ (k : Nat) (v0 : Nat) (w : Wd) (o : (Int32 × Wd)), f42_H0 n  K0 k v0 w = some o → Rn S 42 0 [some (.ref v0)] [] w (some (.int o.1), o.2) := by
  intro k
  induction k with
  | zero =>
    intro v0 w o h
    exact nomatch h
  | succ k ih =>
    intro v0 w o h
    have hrec0 : ∀ (y0 : Nat) (w : Wd) (o : (Int32 × Wd)), (fun (v0 : Nat) w => f42_H0 n  K0 k v0 w) y0 w = some o → Rn S 42 0 [some (.ref y0)] [] w (some (.int o.1), o.2) := fun y0 w o h => ih y0 w o h
    unfold f42_H0 at h
    refine rn_aload_n (ft42 0 rfl) rfl ?_
    obtain ⟨x1, q2, h⟩ := ob_some h
    refine rn_getI (ft42 1 rfl) (by decide) (by decide) q2 ?_
    refine rn_aload_n (ft42 2 rfl) rfl ?_
    obtain ⟨x3, q4, h⟩ := ob_some h
    refine rn_getI (ft42 3 rfl) (by decide) (by decide) q4 ?_
    by_cases c16 : x3 ≤ x1
    · replace h := ifp c16 h
      refine rn_icmp_ge_t (ft42 4 rfl) c16 ?_
      exact rn_forget (ls := [some (.ref v0)]) (And.intro rfl trivial) (hK0 v0 w _ h)
    · replace h := ifn c16 h
      refine rn_icmp_ge_f (ft42 4 rfl) c16 ?_
      refine rn_aload_n (ft42 5 rfl) rfl ?_
      obtain ⟨x5, q6, h⟩ := ob_some h
      refine rn_getR (ft42 6 rfl) q6 ?_
      refine rn_aload_n (ft42 7 rfl) rfl ?_
      obtain ⟨x7, q8, h⟩ := ob_some h
      refine rn_getI (ft42 8 rfl) (by decide) (by decide) q8 ?_
      obtain ⟨x9, q10, h⟩ := ob_some h
      refine rn_iaload (ft42 9 rfl) q10 ?_
      refine rn_bipush (v := (32 : Int32)) (ft42 10 rfl) (by decide) ?_
      by_cases c15 : ¬ x9 = (32 : Int32)
      · replace h := ifp c15 h
        refine rn_icmp_ne_t (ft42 11 rfl) c15 ?_
        exact rn_forget (ls := [some (.ref v0)]) (And.intro rfl trivial) (hK0 v0 w _ h)
      · replace h := ifn c15 h
        refine rn_icmp_ne_f (ft42 11 rfl) c15 ?_
        refine rn_aload_n (ft42 12 rfl) rfl ?_
        refine rn_dup (ft42 13 rfl) rfl ?_
        obtain ⟨x11, q12, h⟩ := ob_some h
        refine rn_getI (ft42 14 rfl) (by decide) (by decide) q12 ?_
        refine rn_iconst (v := (1 : Int32)) (ft42 15 rfl) (by decide) ?_
        refine rn_iadd (ft42 16 rfl) ?_
        obtain ⟨w13, q14, h⟩ := ob_some h
        refine rn_putI (ft42 17 rfl) q14 ?_
        refine rn_goto (ft42 18 rfl) ?_
        exact rn_forget (ls := [some (.ref v0)]) (And.intro rfl trivial) (hrec0 v0 w13 _ h)
def f42_J38 (n : Nat)  (v0 : Nat) (w : Wd) : Option (Int32 × Wd) :=
  ob (getI w 11 v0 17) (fun x18 => ob (getI w 11 v0 15) (fun x20 => (if x20 ≤ x18 then some ((-1 : Int32), w)
    else ob (getR w 11 v0 14) (fun x22 => ob (getI w 11 v0 17) (fun x24 => ob (aldI w x22 x24) (fun x26 => some (x26, w)))))))
set_option maxRecDepth 10000 in
theorem rf42_J38 {S : Sc} (n : Nat)  (v0 : Nat) (w : Wd) (o : (Int32 × Wd))  (h : f42_J38 n  v0 w = some o) : Rn S 42 38 [some (.ref v0)] [] w (some (.int o.1), o.2) := by
  unfold f42_J38 at h
  refine rn_aload_n (ft42 19 rfl) rfl ?_
  obtain ⟨x18, q19, h⟩ := ob_some h
  refine rn_getI (ft42 20 rfl) (by decide) (by decide) q19 ?_
  refine rn_aload_n (ft42 21 rfl) rfl ?_
  obtain ⟨x20, q21, h⟩ := ob_some h
  refine rn_getI (ft42 22 rfl) (by decide) (by decide) q21 ?_
  by_cases c28 : x20 ≤ x18
  · replace h := ifp c28 h
    refine rn_icmp_ge_t (ft42 23 rfl) c28 ?_
    refine rn_iconst (v := (-1 : Int32)) (ft42 30 rfl) (by decide) ?_
    cases h
    exact rn_iretI pr42 (ft42 31 rfl)
  · replace h := ifn c28 h
    refine rn_icmp_ge_f (ft42 23 rfl) c28 ?_
    refine rn_aload_n (ft42 24 rfl) rfl ?_
    obtain ⟨x22, q23, h⟩ := ob_some h
    refine rn_getR (ft42 25 rfl) q23 ?_
    refine rn_aload_n (ft42 26 rfl) rfl ?_
    obtain ⟨x24, q25, h⟩ := ob_some h
    refine rn_getI (ft42 27 rfl) (by decide) (by decide) q25 ?_
    obtain ⟨x26, q27, h⟩ := ob_some h
    refine rn_iaload (ft42 28 rfl) q27 ?_
    refine rn_goto (ft42 29 rfl) ?_
    cases h
    exact rn_iretI pr42 (ft42 31 rfl)
def f42 (n : Nat) (v0 : Nat) (w : Wd) : Option (Int32 × Wd) :=
  f42_H0 n  (fun (e0_17 : Nat) (w17 : Wd) => f42_J38 n  e0_17 w17) n v0 w
set_option maxRecDepth 10000 in
theorem r42 {S : Sc} (n : Nat) (v0 : Nat) (w : Wd) (o : (Int32 × Wd)) (h : f42 n v0 w = some o) : Rn S 42 0 [some (.ref v0)] [] w (some (.int o.1), o.2) := by
  unfold f42 at h
  refine rn_forget (ls := [some (.ref v0)]) (And.intro rfl trivial) (rf42_H0 n  _  (fun e0_17 w17 o h => ?_) n v0 w _ h)
  exact rn_forget (ls := [some (.ref e0_17)]) (And.intro rfl trivial) (rf42_J38 n  e0_17 w17 _  h)
/-- NineWheelModel.code(IIII)J -/
theorem ft43 : ∀ (i : Nat) {q : Nat × XI}, cd43[i]? = some q → fetch 43 q.1 = some q.2 := ft_of (by decide +kernel)
theorem pr43 : pRt 43 = some .long := rfl
def f43 (v0 : Int32) (v1 : Int32) (v2 : Int32) (v3 : Int32) (w : Wd) : Option (Int64 × Wd) :=
  some (((((27 : Int64) * ((((27 : Int64) * ((((27 : Int64) * ((Int32.toInt64 v0) - (96 : Int64))) + (Int32.toInt64 v1)) - (96 : Int64))) + (Int32.toInt64 v2)) - (96 : Int64))) + (Int32.toInt64 v3)) - (96 : Int64)), w)
set_option maxRecDepth 10000 in
theorem r43 {S : Sc} (v0 : Int32) (v1 : Int32) (v2 : Int32) (v3 : Int32) (w : Wd) (o : (Int64 × Wd)) (h : f43 v0 v1 v2 v3 w = some o) : Rn S 43 0 [some (.int v0), some (.int v1), some (.int v2), some (.int v3)] [] w (some (.long o.1), o.2) := by
  unfold f43 at h
  refine rn_ldc2 (v := (27 : Int64)) (ft43 0 rfl) (by decide) ?_
  refine rn_ldc2 (v := (27 : Int64)) (ft43 1 rfl) (by decide) ?_
  refine rn_ldc2 (v := (27 : Int64)) (ft43 2 rfl) (by decide) ?_
  refine rn_iload_n (ft43 3 rfl) rfl ?_
  refine rn_i2l (ft43 4 rfl) ?_
  refine rn_ldc2 (v := (96 : Int64)) (ft43 5 rfl) (by decide) ?_
  refine rn_lsub (ft43 6 rfl) ?_
  refine rn_lmul (ft43 7 rfl) ?_
  refine rn_iload_n (ft43 8 rfl) rfl ?_
  refine rn_i2l (ft43 9 rfl) ?_
  refine rn_ladd (ft43 10 rfl) ?_
  refine rn_ldc2 (v := (96 : Int64)) (ft43 11 rfl) (by decide) ?_
  refine rn_lsub (ft43 12 rfl) ?_
  refine rn_lmul (ft43 13 rfl) ?_
  refine rn_iload_n (ft43 14 rfl) rfl ?_
  refine rn_i2l (ft43 15 rfl) ?_
  refine rn_ladd (ft43 16 rfl) ?_
  refine rn_ldc2 (v := (96 : Int64)) (ft43 17 rfl) (by decide) ?_
  refine rn_lsub (ft43 18 rfl) ?_
  refine rn_lmul (ft43 19 rfl) ?_
  refine rn_iload_n (ft43 20 rfl) rfl ?_
  refine rn_i2l (ft43 21 rfl) ?_
  refine rn_ladd (ft43 22 rfl) ?_
  refine rn_ldc2 (v := (96 : Int64)) (ft43 23 rfl) (by decide) ?_
  refine rn_lsub (ft43 24 rfl) ?_
  cases h
  exact rn_lret pr43 (ft43 25 rfl)
/-- NineWheelModel.longer(JI)J -/
theorem ft44 : ∀ (i : Nat) {q : Nat × XI}, cd44[i]? = some q → fetch 44 q.1 = some q.2 := ft_of (by decide +kernel)
theorem pr44 : pRt 44 = some .long := rfl
def f44 (v0 : Int64) (v2 : Int32) (w : Wd) : Option (Int64 × Wd) :=
  some (((((27 : Int64) * v0) + (Int32.toInt64 v2)) - (96 : Int64)), w)
set_option maxRecDepth 10000 in
theorem r44 {S : Sc} (v0 : Int64) (v2 : Int32) (w : Wd) (o : (Int64 × Wd)) (h : f44 v0 v2 w = some o) : Rn S 44 0 [some (.long v0), none, some (.int v2)] [] w (some (.long o.1), o.2) := by
  unfold f44 at h
  refine rn_ldc2 (v := (27 : Int64)) (ft44 0 rfl) (by decide) ?_
  refine rn_lload_n (ft44 1 rfl) rfl ?_
  refine rn_lmul (ft44 2 rfl) ?_
  refine rn_iload_n (ft44 3 rfl) rfl ?_
  refine rn_i2l (ft44 4 rfl) ?_
  refine rn_ladd (ft44 5 rfl) ?_
  refine rn_ldc2 (v := (96 : Int64)) (ft44 6 rfl) (by decide) ?_
  refine rn_lsub (ft44 7 rfl) ?_
  cases h
  exact rn_lret pr44 (ft44 8 rfl)
/-- NineWheelModel.has(II)Z -/
theorem ft45 : ∀ (i : Nat) {q : Nat × XI}, cd45[i]? = some q → fetch 45 q.1 = some q.2 := ft_of (by decide +kernel)
theorem pr45 : pRt 45 = some .boolean := rfl
def f45 (v0 : Int32) (v1 : Int32) (w : Wd) : Option (Int32 × Wd) :=
  (if ¬ ((v0 >>> (v1 &&& 31)) &&& (1 : Int32)) = (1 : Int32) then some ((0 : Int32), w)
    else some ((1 : Int32), w))
set_option maxRecDepth 10000 in
theorem r45 {S : Sc} (v0 : Int32) (v1 : Int32) (w : Wd) (o : (Int32 × Wd)) (h : f45 v0 v1 w = some o) : Rn S 45 0 [some (.int v0), some (.int v1)] [] w (some (.int o.1), o.2) := by
  unfold f45 at h
  refine rn_iload_n (ft45 0 rfl) rfl ?_
  refine rn_iload_n (ft45 1 rfl) rfl ?_
  refine rn_ishr (ft45 2 rfl) ?_
  refine rn_iconst (v := (1 : Int32)) (ft45 3 rfl) (by decide) ?_
  refine rn_iand (ft45 4 rfl) ?_
  refine rn_iconst (v := (1 : Int32)) (ft45 5 rfl) (by decide) ?_
  by_cases c1 : ¬ ((v0 >>> (v1 &&& 31)) &&& (1 : Int32)) = (1 : Int32)
  · replace h := ifp c1 h
    refine rn_icmp_ne_t (ft45 6 rfl) c1 ?_
    refine rn_iconst (v := (0 : Int32)) (ft45 9 rfl) (by decide) ?_
    cases h
    exact rn_iretZ pr45 (by decide) (ft45 10 rfl)
  · replace h := ifn c1 h
    refine rn_icmp_ne_f (ft45 6 rfl) c1 ?_
    refine rn_iconst (v := (1 : Int32)) (ft45 7 rfl) (by decide) ?_
    refine rn_goto (ft45 8 rfl) ?_
    cases h
    exact rn_iretZ pr45 (by decide) (ft45 10 rfl)
/-- NineWheelModel.fails(II)I -/
theorem ft46 : ∀ (i : Nat) {q : Nat × XI}, cd46[i]? = some q → fetch 46 q.1 = some q.2 := ft_of (by decide +kernel)
theorem pr46 : pRt 46 = some .int := rfl
def f46 (v0 : Nat) (v1 : Int32) (v2 : Int32) (w : Wd) : Option (Int32 × Wd) :=
  ob (putI w 11 v0 16 v2) (fun w1 => some (v1, w1))
set_option maxRecDepth 10000 in
theorem r46 {S : Sc} (v0 : Nat) (v1 : Int32) (v2 : Int32) (w : Wd) (o : (Int32 × Wd)) (h : f46 v0 v1 v2 w = some o) : Rn S 46 0 [some (.ref v0), some (.int v1), some (.int v2)] [] w (some (.int o.1), o.2) := by
  unfold f46 at h
  refine rn_aload_n (ft46 0 rfl) rfl ?_
  refine rn_iload_n (ft46 1 rfl) rfl ?_
  obtain ⟨w1, q2, h⟩ := ob_some h
  refine rn_putI (ft46 2 rfl) q2 ?_
  refine rn_iload_n (ft46 3 rfl) rfl ?_
  cases h
  exact rn_iretI pr46 (ft46 4 rfl)
/-- NineWheelModel.beginList()V -/
theorem ft47 : ∀ (i : Nat) {q : Nat × XI}, cd47[i]? = some q → fetch 47 q.1 = some q.2 := ft_of (by decide +kernel)
theorem pr47 : pRt 47 = none := rfl
def f47_H2 (n : Nat)  (K2 : Wd → Option Wd) : Nat → Nat → Int32 → Wd → Option Wd
  | 0, _, _, _ => none
  | k + 1, v0, v1, w =>
    (if (64 : Int32) ≤ v1 then K2 w
      else ob (getR w 11 v0 32) (fun x1 => ob (astB w x1 v1 (0 : Int32)) (fun w3 => (fun (v0 : Nat) (v1 : Int32) w => f47_H2 n  K2 k v0 v1 w) v0 (v1 + (1 : Int32)) w3)))
set_option maxRecDepth 10000 in
theorem rf47_H2 {S : Sc} (n : Nat)  (K2 : Wd → Option Wd)  (hK2 : ∀  (w : Wd) (o : Wd), K2 w = some o → Rn S 47 21 [none, none] [] w (none, o)) : ∀ (k : Nat) (v0 : Nat) (v1 : Int32) (w : Wd) (o : Wd), f47_H2 n  K2 k v0 v1 w = some o → Rn S 47 2 [some (.ref v0), some (.int v1)] [] w (none, o) := by
  intro k
  induction k with
  | zero =>
    intro v0 v1 w o h
    exact nomatch h
  | succ k ih =>
    intro v0 v1 w o h
    have hrec2 : ∀ (y0 : Nat) (y1 : Int32) (w : Wd) (o : Wd), (fun (v0 : Nat) (v1 : Int32) w => f47_H2 n  K2 k v0 v1 w) y0 y1 w = some o → Rn S 47 2 [some (.ref y0), some (.int y1)] [] w (none, o) := fun y0 y1 w o h => ih y0 y1 w o h
    unfold f47_H2 at h
    refine rn_iload_n (ft47 2 rfl) rfl ?_
    refine rn_bipush (v := (64 : Int32)) (ft47 3 rfl) (by decide) ?_
    by_cases c5 : (64 : Int32) ≤ v1
    · replace h := ifp c5 h
      refine rn_icmp_ge_t (ft47 4 rfl) c5 ?_
      exact rn_forget (ls := [none, none]) trivial (hK2 w _ h)
    · replace h := ifn c5 h
      refine rn_icmp_ge_f (ft47 4 rfl) c5 ?_
      refine rn_aload_n (ft47 5 rfl) rfl ?_
      obtain ⟨x1, q2, h⟩ := ob_some h
      refine rn_getR (ft47 6 rfl) q2 ?_
      refine rn_iload_n (ft47 7 rfl) rfl ?_
      refine rn_iconst (v := (0 : Int32)) (ft47 8 rfl) (by decide) ?_
      obtain ⟨w3, q4, h⟩ := ob_some h
      refine rn_bastore (ft47 9 rfl) q4 ?_
      refine rn_iinc (u := 1) (ls' := [some (.ref v0), some (.int (v1 + (1 : Int32)))]) (ft47 10 rfl) rfl (by decide) rfl ?_
      refine rn_goto (ft47 11 rfl) ?_
      exact rn_forget (ls := [some (.ref v0), some (.int (v1 + (1 : Int32)))]) (And.intro rfl (And.intro rfl trivial)) (hrec2 v0 (v1 + (1 : Int32)) w3 _ h)
def f47 (n : Nat) (v0 : Nat) (w : Wd) : Option Wd :=
  f47_H2 n  (fun  (w6 : Wd) => some w6) n v0 (0 : Int32) w
set_option maxRecDepth 10000 in
theorem r47 {S : Sc} (n : Nat) (v0 : Nat) (w : Wd) (o : Wd) (h : f47 n v0 w = some o) : Rn S 47 0 [some (.ref v0), none] [] w (none, o) := by
  unfold f47 at h
  refine rn_iconst (v := (0 : Int32)) (ft47 0 rfl) (by decide) ?_
  refine rn_istore_n (ls' := [some (.ref v0), some (.int (0 : Int32))]) (ft47 1 rfl) rfl ?_
  refine rn_forget (ls := [some (.ref v0), some (.int (0 : Int32))]) (And.intro rfl (And.intro rfl trivial)) (rf47_H2 n  _  (fun  w6 o h => ?_) n v0 (0 : Int32) w _ h)
  cases h
  exact rn_vret pr47 (ft47 12 rfl)
