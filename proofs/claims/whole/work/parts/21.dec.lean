/-! THE METHODS AS FUNCTIONS, 4 -/
/-- NineWheel$Sea.setRock(I)V -/
theorem ft77 : ∀ (i : Nat) {q : Nat × XI}, cd77[i]? = some q → fetch 77 q.1 = some q.2 := ft_of (by decide +kernel)
theorem pr77 : pRt 77 = none := rfl
def f77 (v0 : Nat) (v1 : Int32) (w : Wd) : Option Wd :=
  ob (f10 v1 w) (fun p1 => (if ¬ p1.1 = 0 then some p1.2
    else ob (getR p1.2 6 v0 12) (fun x3 => ob (astB p1.2 x3 v1 (1 : Int32)) (fun w5 => some w5))))
set_option maxRecDepth 10000 in
theorem r77 {S : Sc} (v0 : Nat) (v1 : Int32) (w : Wd) (o : Wd) (h : f77 v0 v1 w = some o) : Rn S 77 0 [some (.ref v0), some (.int v1)] [] w (none, o) := by
  unfold f77 at h
  refine rn_iload_n (ft77 0 rfl) rfl ?_
  obtain ⟨p1, q2, h⟩ := ob_some h
  refine rn_callS (as := [.int v1]) (r := []) (v := (some (.int p1.1))) (w1 := p1.2) (ft77 1 rfl) (by decide +kernel) rfl (Nat.le_of_ble_eq_true rfl) (Nat.le_of_ble_eq_true rfl) (r10 v1 w _ q2) ?_
  by_cases c7 : ¬ p1.1 = 0
  · replace h := ifp c7 h
    refine rn_if_ne_t (ft77 2 rfl) c7 ?_
    cases h
    exact rn_vret pr77 (ft77 8 rfl)
  · replace h := ifn c7 h
    refine rn_if_ne_f (ft77 2 rfl) c7 ?_
    refine rn_aload_n (ft77 3 rfl) rfl ?_
    obtain ⟨x3, q4, h⟩ := ob_some h
    refine rn_getR (ft77 4 rfl) q4 ?_
    refine rn_iload_n (ft77 5 rfl) rfl ?_
    refine rn_iconst (v := (1 : Int32)) (ft77 6 rfl) (by decide) ?_
    obtain ⟨w5, q6, h⟩ := ob_some h
    refine rn_bastore (ft77 7 rfl) q6 ?_
    cases h
    exact rn_vret pr77 (ft77 8 rfl)
/-- NineWheel$Sea.setLiking(III)V -/
theorem ft78 : ∀ (i : Nat) {q : Nat × XI}, cd78[i]? = some q → fetch 78 q.1 = some q.2 := ft_of (by decide +kernel)
theorem pr78 : pRt 78 = none := rfl
def f78 (v0 : Nat) (v1 : Int32) (v2 : Int32) (v3 : Int32) (w : Wd) : Option Wd :=
  (if (wsh w v0).map (fun q => q.1) = some 6 then ob (f12 v0 v1 w) (fun p1 => (if p1.1 = 0 then some p1.2
    else ob (f10 v2 p1.2) (fun p3 => (if ¬ p3.1 = 0 then some p3.2
      else ob (getR p3.2 6 v0 11) (fun x5 => ob (aldR p3.2 x5 v1) (fun x7 => ob (astI p3.2 x7 v2 v3) (fun w9 => some w9))))))) else none)
set_option maxRecDepth 10000 in
theorem r78 {S : Sc} (v0 : Nat) (v1 : Int32) (v2 : Int32) (v3 : Int32) (w : Wd) (o : Wd) (h : f78 v0 v1 v2 v3 w = some o) : Rn S 78 0 [some (.ref v0), some (.int v1), some (.int v2), some (.int v3)] [] w (none, o) := by
  unfold f78 at h
  refine rn_aload_n (ft78 0 rfl) rfl ?_
  refine rn_iload_n (ft78 1 rfl) rfl ?_
  obtain ⟨g13, h⟩ := ifg h
  obtain ⟨p1, q2, h⟩ := ob_some h
  refine rn_callV (as := [.int v1]) (k0 := v0) (r := []) (v := (some (.int p1.1))) (w1 := p1.2) (ft78 2 rfl) (by decide +kernel) rfl (Nat.le_of_ble_eq_true rfl) (Nat.le_of_ble_eq_true rfl) (r12 v0 v1 w _ q2) (by decide +kernel) g13 ?_
  by_cases c12 : p1.1 = 0
  · replace h := ifp c12 h
    refine rn_if_eq_t (ft78 3 rfl) c12 ?_
    cases h
    exact rn_vret pr78 (ft78 14 rfl)
  · replace h := ifn c12 h
    refine rn_if_eq_f (ft78 3 rfl) c12 ?_
    refine rn_iload_n (ft78 4 rfl) rfl ?_
    obtain ⟨p3, q4, h⟩ := ob_some h
    refine rn_callS (as := [.int v2]) (r := []) (v := (some (.int p3.1))) (w1 := p3.2) (ft78 5 rfl) (by decide +kernel) rfl (Nat.le_of_ble_eq_true rfl) (Nat.le_of_ble_eq_true rfl) (r10 v2 p1.2 _ q4) ?_
    by_cases c11 : ¬ p3.1 = 0
    · replace h := ifp c11 h
      refine rn_if_ne_t (ft78 6 rfl) c11 ?_
      cases h
      exact rn_vret pr78 (ft78 14 rfl)
    · replace h := ifn c11 h
      refine rn_if_ne_f (ft78 6 rfl) c11 ?_
      refine rn_aload_n (ft78 7 rfl) rfl ?_
      obtain ⟨x5, q6, h⟩ := ob_some h
      refine rn_getR (ft78 8 rfl) q6 ?_
      refine rn_iload_n (ft78 9 rfl) rfl ?_
      obtain ⟨x7, q8, h⟩ := ob_some h
      refine rn_aaload (ft78 10 rfl) q8 ?_
      refine rn_iload_n (ft78 11 rfl) rfl ?_
      refine rn_iload_n (ft78 12 rfl) rfl ?_
      obtain ⟨w9, q10, h⟩ := ob_some h
      refine rn_iastore (ft78 13 rfl) q10 ?_
      cases h
      exact rn_vret pr78 (ft78 14 rfl)
/-- NineWheel$Sea.setFear(II)V -/
theorem ft79 : ∀ (i : Nat) {q : Nat × XI}, cd79[i]? = some q → fetch 79 q.1 = some q.2 := ft_of (by decide +kernel)
theorem pr79 : pRt 79 = none := rfl
def f79 (v0 : Nat) (v1 : Int32) (v2 : Int32) (w : Wd) : Option Wd :=
  (if (wsh w v0).map (fun q => q.1) = some 6 then ob (f12 v0 v1 w) (fun p1 => (if p1.1 = 0 then some p1.2
    else ob (getR p1.2 6 v0 9) (fun x3 => ob (astI p1.2 x3 v1 v2) (fun w5 => some w5)))) else none)
set_option maxRecDepth 10000 in
theorem r79 {S : Sc} (v0 : Nat) (v1 : Int32) (v2 : Int32) (w : Wd) (o : Wd) (h : f79 v0 v1 v2 w = some o) : Rn S 79 0 [some (.ref v0), some (.int v1), some (.int v2)] [] w (none, o) := by
  unfold f79 at h
  refine rn_aload_n (ft79 0 rfl) rfl ?_
  refine rn_iload_n (ft79 1 rfl) rfl ?_
  obtain ⟨g8, h⟩ := ifg h
  obtain ⟨p1, q2, h⟩ := ob_some h
  refine rn_callV (as := [.int v1]) (k0 := v0) (r := []) (v := (some (.int p1.1))) (w1 := p1.2) (ft79 2 rfl) (by decide +kernel) rfl (Nat.le_of_ble_eq_true rfl) (Nat.le_of_ble_eq_true rfl) (r12 v0 v1 w _ q2) (by decide +kernel) g8 ?_
  by_cases c7 : p1.1 = 0
  · replace h := ifp c7 h
    refine rn_if_eq_t (ft79 3 rfl) c7 ?_
    cases h
    exact rn_vret pr79 (ft79 9 rfl)
  · replace h := ifn c7 h
    refine rn_if_eq_f (ft79 3 rfl) c7 ?_
    refine rn_aload_n (ft79 4 rfl) rfl ?_
    obtain ⟨x3, q4, h⟩ := ob_some h
    refine rn_getR (ft79 5 rfl) q4 ?_
    refine rn_iload_n (ft79 6 rfl) rfl ?_
    refine rn_iload_n (ft79 7 rfl) rfl ?_
    obtain ⟨w5, q6, h⟩ := ob_some h
    refine rn_iastore (ft79 8 rfl) q6 ?_
    cases h
    exact rn_vret pr79 (ft79 9 rfl)
/-- NineWheel$Sea.far(II)I -/
theorem ft80 : ∀ (i : Nat) {q : Nat × XI}, cd80[i]? = some q → fetch 80 q.1 = some q.2 := ft_of (by decide +kernel)
theorem pr80 : pRt 80 = some .int := rfl
def f80 (v0 : Int32) (v1 : Int32) (w : Wd) : Option (Int32 × Wd) :=
  some ((if (if 0 ≤ ((v0 >>> ((3 : Int32) &&& 31)) - (v1 >>> ((3 : Int32) &&& 31))) then ((v0 >>> ((3 : Int32) &&& 31)) - (v1 >>> ((3 : Int32) &&& 31))) else 0 - ((v0 >>> ((3 : Int32) &&& 31)) - (v1 >>> ((3 : Int32) &&& 31)))) < (if 0 ≤ ((v0 &&& (7 : Int32)) - (v1 &&& (7 : Int32))) then ((v0 &&& (7 : Int32)) - (v1 &&& (7 : Int32))) else 0 - ((v0 &&& (7 : Int32)) - (v1 &&& (7 : Int32)))) then (if 0 ≤ ((v0 &&& (7 : Int32)) - (v1 &&& (7 : Int32))) then ((v0 &&& (7 : Int32)) - (v1 &&& (7 : Int32))) else 0 - ((v0 &&& (7 : Int32)) - (v1 &&& (7 : Int32)))) else (if 0 ≤ ((v0 >>> ((3 : Int32) &&& 31)) - (v1 >>> ((3 : Int32) &&& 31))) then ((v0 >>> ((3 : Int32) &&& 31)) - (v1 >>> ((3 : Int32) &&& 31))) else 0 - ((v0 >>> ((3 : Int32) &&& 31)) - (v1 >>> ((3 : Int32) &&& 31))))), w)
set_option maxRecDepth 10000 in
theorem r80 {S : Sc} (v0 : Int32) (v1 : Int32) (w : Wd) (o : (Int32 × Wd)) (h : f80 v0 v1 w = some o) : Rn S 80 0 [some (.int v0), some (.int v1)] [] w (some (.int o.1), o.2) := by
  unfold f80 at h
  refine rn_iload_n (ft80 0 rfl) rfl ?_
  refine rn_iconst (v := (3 : Int32)) (ft80 1 rfl) (by decide) ?_
  refine rn_ishr (ft80 2 rfl) ?_
  refine rn_iload_n (ft80 3 rfl) rfl ?_
  refine rn_iconst (v := (3 : Int32)) (ft80 4 rfl) (by decide) ?_
  refine rn_ishr (ft80 5 rfl) ?_
  refine rn_isub (ft80 6 rfl) ?_
  refine rn_abs (ft80 7 rfl) (Nat.le_of_ble_eq_true rfl) ?_
  refine rn_iload_n (ft80 8 rfl) rfl ?_
  refine rn_bipush (v := (7 : Int32)) (ft80 9 rfl) (by decide) ?_
  refine rn_iand (ft80 10 rfl) ?_
  refine rn_iload_n (ft80 11 rfl) rfl ?_
  refine rn_bipush (v := (7 : Int32)) (ft80 12 rfl) (by decide) ?_
  refine rn_iand (ft80 13 rfl) ?_
  refine rn_isub (ft80 14 rfl) ?_
  refine rn_abs (ft80 15 rfl) (Nat.le_of_ble_eq_true rfl) ?_
  refine rn_max (ft80 16 rfl) (Nat.le_of_ble_eq_true rfl) ?_
  cases h
  exact rn_iretI pr80 (ft80 17 rfl)
/-- NineWheel$Sea.worthTo(II)I -/
theorem ft81 : ∀ (i : Nat) {q : Nat × XI}, cd81[i]? = some q → fetch 81 q.1 = some q.2 := ft_of (by decide +kernel)
theorem pr81 : pRt 81 = some .int := rfl
def f81 (v0 : Nat) (v1 : Int32) (v2 : Int32) (w : Wd) : Option (Int32 × Wd) :=
  (if (wsh w v0).map (fun q => q.1) = some 6 then ob (f12 v0 v1 w) (fun p1 => (if p1.1 = 0 then some ((0 : Int32), p1.2)
    else ob (f10 v2 p1.2) (fun p3 => (if ¬ p3.1 = 0 then some ((0 : Int32), p3.2)
      else ob (getR p3.2 6 v0 11) (fun x5 => ob (aldR p3.2 x5 v1) (fun x7 => ob (aldI p3.2 x7 v2) (fun x9 => some (x9, p3.2)))))))) else none)
set_option maxRecDepth 10000 in
theorem r81 {S : Sc} (v0 : Nat) (v1 : Int32) (v2 : Int32) (w : Wd) (o : (Int32 × Wd)) (h : f81 v0 v1 v2 w = some o) : Rn S 81 0 [some (.ref v0), some (.int v1), some (.int v2)] [] w (some (.int o.1), o.2) := by
  unfold f81 at h
  refine rn_aload_n (ft81 0 rfl) rfl ?_
  refine rn_iload_n (ft81 1 rfl) rfl ?_
  obtain ⟨g13, h⟩ := ifg h
  obtain ⟨p1, q2, h⟩ := ob_some h
  refine rn_callV (as := [.int v1]) (k0 := v0) (r := []) (v := (some (.int p1.1))) (w1 := p1.2) (ft81 2 rfl) (by decide +kernel) rfl (Nat.le_of_ble_eq_true rfl) (Nat.le_of_ble_eq_true rfl) (r12 v0 v1 w _ q2) (by decide +kernel) g13 ?_
  by_cases c12 : p1.1 = 0
  · replace h := ifp c12 h
    refine rn_if_eq_t (ft81 3 rfl) c12 ?_
    refine rn_iconst (v := (0 : Int32)) (ft81 14 rfl) (by decide) ?_
    cases h
    exact rn_iretI pr81 (ft81 15 rfl)
  · replace h := ifn c12 h
    refine rn_if_eq_f (ft81 3 rfl) c12 ?_
    refine rn_iload_n (ft81 4 rfl) rfl ?_
    obtain ⟨p3, q4, h⟩ := ob_some h
    refine rn_callS (as := [.int v2]) (r := []) (v := (some (.int p3.1))) (w1 := p3.2) (ft81 5 rfl) (by decide +kernel) rfl (Nat.le_of_ble_eq_true rfl) (Nat.le_of_ble_eq_true rfl) (r10 v2 p1.2 _ q4) ?_
    by_cases c11 : ¬ p3.1 = 0
    · replace h := ifp c11 h
      refine rn_if_ne_t (ft81 6 rfl) c11 ?_
      refine rn_iconst (v := (0 : Int32)) (ft81 14 rfl) (by decide) ?_
      cases h
      exact rn_iretI pr81 (ft81 15 rfl)
    · replace h := ifn c11 h
      refine rn_if_ne_f (ft81 6 rfl) c11 ?_
      refine rn_aload_n (ft81 7 rfl) rfl ?_
      obtain ⟨x5, q6, h⟩ := ob_some h
      refine rn_getR (ft81 8 rfl) q6 ?_
      refine rn_iload_n (ft81 9 rfl) rfl ?_
      obtain ⟨x7, q8, h⟩ := ob_some h
      refine rn_aaload (ft81 10 rfl) q8 ?_
      refine rn_iload_n (ft81 11 rfl) rfl ?_
      obtain ⟨x9, q10, h⟩ := ob_some h
      refine rn_iaload (ft81 12 rfl) q10 ?_
      refine rn_goto (ft81 13 rfl) ?_
      cases h
      exact rn_iretI pr81 (ft81 15 rfl)
/-- NineWheel$Held.allPlain()V -/
theorem ft82 : ∀ (i : Nat) {q : Nat × XI}, cd82[i]? = some q → fetch 82 q.1 = some q.2 := ft_of (by decide +kernel)
theorem pr82 : pRt 82 = none := rfl
def f82 (n : Nat) (v0 : Nat) (w : Wd) : Option Wd :=
  ob (getR w 3 v0 0) (fun x1 => ob (f14 n x1 (0 : Int32) w) (fun p3 => ob (getR p3 3 v0 1) (fun x5 => ob (f14 n x5 (0 : Int32) p3) (fun p7 => some p7))))
set_option maxRecDepth 10000 in
theorem r82 {S : Sc} (n : Nat) (v0 : Nat) (w : Wd) (o : Wd) (h : f82 n v0 w = some o) : Rn S 82 0 [some (.ref v0)] [] w (none, o) := by
  unfold f82 at h
  refine rn_aload_n (ft82 0 rfl) rfl ?_
  obtain ⟨x1, q2, h⟩ := ob_some h
  refine rn_getR (ft82 1 rfl) q2 ?_
  refine rn_iconst (v := (0 : Int32)) (ft82 2 rfl) (by decide) ?_
  obtain ⟨p3, q4, h⟩ := ob_some h
  refine rn_callS (as := [.ref x1, .int (0 : Int32)]) (r := []) (v := none) (w1 := p3) (ft82 3 rfl) (by decide +kernel) rfl (Nat.le_of_ble_eq_true rfl) (Nat.le_of_ble_eq_true rfl) (r14 n x1 (0 : Int32) w _ q4) ?_
  refine rn_aload_n (ft82 4 rfl) rfl ?_
  obtain ⟨x5, q6, h⟩ := ob_some h
  refine rn_getR (ft82 5 rfl) q6 ?_
  refine rn_iconst (v := (0 : Int32)) (ft82 6 rfl) (by decide) ?_
  obtain ⟨p7, q8, h⟩ := ob_some h
  refine rn_callS (as := [.ref x5, .int (0 : Int32)]) (r := []) (v := none) (w1 := p7) (ft82 7 rfl) (by decide +kernel) rfl (Nat.le_of_ble_eq_true rfl) (Nat.le_of_ble_eq_true rfl) (r14 n x5 (0 : Int32) p3 _ q8) ?_
  cases h
  exact rn_vret pr82 (ft82 8 rfl)
/-- NineWheel.noSet(I)Z -/
theorem ft83 : ∀ (i : Nat) {q : Nat × XI}, cd83[i]? = some q → fetch 83 q.1 = some q.2 := ft_of (by decide +kernel)
theorem pr83 : pRt 83 = some .boolean := rfl
def f83 (v0 : Nat) (v1 : Int32) (w : Wd) : Option (Int32 × Wd) :=
  ob (getR w 10 v0 1) (fun x1 => ob (getI w 6 x1 5) (fun x3 => ob (f0 v1 (0 : Int32) (((1 : Int32) <<< (x3 &&& 31)) - (1 : Int32)) w) (fun p5 => (if p5.1 = 0 ∨ p5.1 = 1 then some (p5.1, p5.2) else none))))
set_option maxRecDepth 10000 in
theorem r83 {S : Sc} (v0 : Nat) (v1 : Int32) (w : Wd) (o : (Int32 × Wd)) (h : f83 v0 v1 w = some o) : Rn S 83 0 [some (.ref v0), some (.int v1)] [] w (some (.int o.1), o.2) := by
  unfold f83 at h
  refine rn_iload_n (ft83 0 rfl) rfl ?_
  refine rn_iconst (v := (0 : Int32)) (ft83 1 rfl) (by decide) ?_
  refine rn_iconst (v := (1 : Int32)) (ft83 2 rfl) (by decide) ?_
  refine rn_aload_n (ft83 3 rfl) rfl ?_
  obtain ⟨x1, q2, h⟩ := ob_some h
  refine rn_getR (ft83 4 rfl) q2 ?_
  obtain ⟨x3, q4, h⟩ := ob_some h
  refine rn_getI (ft83 5 rfl) (by decide) (by decide) q4 ?_
  refine rn_ishl (ft83 6 rfl) ?_
  refine rn_iconst (v := (1 : Int32)) (ft83 7 rfl) (by decide) ?_
  refine rn_isub (ft83 8 rfl) ?_
  obtain ⟨p5, q6, h⟩ := ob_some h
  refine rn_callS (as := [.int v1, .int (0 : Int32), .int (((1 : Int32) <<< (x3 &&& 31)) - (1 : Int32))]) (r := []) (v := (some (.int p5.1))) (w1 := p5.2) (ft83 9 rfl) (by decide +kernel) rfl (Nat.le_of_ble_eq_true rfl) (Nat.le_of_ble_eq_true rfl) (r0 v1 (0 : Int32) (((1 : Int32) <<< (x3 &&& 31)) - (1 : Int32)) w _ q6) ?_
  obtain ⟨g7, h⟩ := ifg h
  cases h
  exact rn_iretZ pr83 g7 (ft83 10 rfl)
/-- NineWheel$Sea.personsOf(I)I -/
theorem ft84 : ∀ (i : Nat) {q : Nat × XI}, cd84[i]? = some q → fetch 84 q.1 = some q.2 := ft_of (by decide +kernel)
theorem pr84 : pRt 84 = some .int := rfl
def f84 (v0 : Nat) (v1 : Int32) (w : Wd) : Option (Int32 × Wd) :=
  (if (wsh w v0).map (fun q => q.1) = some 6 then ob (f12 v0 v1 w) (fun p1 => (if p1.1 = 0 then some ((0 : Int32), p1.2)
    else ob (getR p1.2 6 v0 8) (fun x3 => ob (aldI p1.2 x3 v1) (fun x5 => some (x5, p1.2))))) else none)
set_option maxRecDepth 10000 in
theorem r84 {S : Sc} (v0 : Nat) (v1 : Int32) (w : Wd) (o : (Int32 × Wd)) (h : f84 v0 v1 w = some o) : Rn S 84 0 [some (.ref v0), some (.int v1)] [] w (some (.int o.1), o.2) := by
  unfold f84 at h
  refine rn_aload_n (ft84 0 rfl) rfl ?_
  refine rn_iload_n (ft84 1 rfl) rfl ?_
  obtain ⟨g8, h⟩ := ifg h
  obtain ⟨p1, q2, h⟩ := ob_some h
  refine rn_callV (as := [.int v1]) (k0 := v0) (r := []) (v := (some (.int p1.1))) (w1 := p1.2) (ft84 2 rfl) (by decide +kernel) rfl (Nat.le_of_ble_eq_true rfl) (Nat.le_of_ble_eq_true rfl) (r12 v0 v1 w _ q2) (by decide +kernel) g8 ?_
  by_cases c7 : p1.1 = 0
  · replace h := ifp c7 h
    refine rn_if_eq_t (ft84 3 rfl) c7 ?_
    refine rn_iconst (v := (0 : Int32)) (ft84 9 rfl) (by decide) ?_
    cases h
    exact rn_iretI pr84 (ft84 10 rfl)
  · replace h := ifn c7 h
    refine rn_if_eq_f (ft84 3 rfl) c7 ?_
    refine rn_aload_n (ft84 4 rfl) rfl ?_
    obtain ⟨x3, q4, h⟩ := ob_some h
    refine rn_getR (ft84 5 rfl) q4 ?_
    refine rn_iload_n (ft84 6 rfl) rfl ?_
    obtain ⟨x5, q6, h⟩ := ob_some h
    refine rn_iaload (ft84 7 rfl) q6 ?_
    refine rn_goto (ft84 8 rfl) ?_
    cases h
    exact rn_iretI pr84 (ft84 10 rfl)
/-- NineWheel.noSort(I)Z -/
theorem ft85 : ∀ (i : Nat) {q : Nat × XI}, cd85[i]? = some q → fetch 85 q.1 = some q.2 := ft_of (by decide +kernel)
theorem pr85 : pRt 85 = some .boolean := rfl
def f85 (v0 : Nat) (v1 : Int32) (w : Wd) : Option (Int32 × Wd) :=
  ob (getR w 10 v0 1) (fun x1 => ob (getI w 6 x1 5) (fun x3 => ob (f0 v1 (0 : Int32) (x3 - (1 : Int32)) w) (fun p5 => (if p5.1 = 0 ∨ p5.1 = 1 then some (p5.1, p5.2) else none))))
set_option maxRecDepth 10000 in
theorem r85 {S : Sc} (v0 : Nat) (v1 : Int32) (w : Wd) (o : (Int32 × Wd)) (h : f85 v0 v1 w = some o) : Rn S 85 0 [some (.ref v0), some (.int v1)] [] w (some (.int o.1), o.2) := by
  unfold f85 at h
  refine rn_iload_n (ft85 0 rfl) rfl ?_
  refine rn_iconst (v := (0 : Int32)) (ft85 1 rfl) (by decide) ?_
  refine rn_aload_n (ft85 2 rfl) rfl ?_
  obtain ⟨x1, q2, h⟩ := ob_some h
  refine rn_getR (ft85 3 rfl) q2 ?_
  obtain ⟨x3, q4, h⟩ := ob_some h
  refine rn_getI (ft85 4 rfl) (by decide) (by decide) q4 ?_
  refine rn_iconst (v := (1 : Int32)) (ft85 5 rfl) (by decide) ?_
  refine rn_isub (ft85 6 rfl) ?_
  obtain ⟨p5, q6, h⟩ := ob_some h
  refine rn_callS (as := [.int v1, .int (0 : Int32), .int (x3 - (1 : Int32))]) (r := []) (v := (some (.int p5.1))) (w1 := p5.2) (ft85 7 rfl) (by decide +kernel) rfl (Nat.le_of_ble_eq_true rfl) (Nat.le_of_ble_eq_true rfl) (r0 v1 (0 : Int32) (x3 - (1 : Int32)) w _ q6) ?_
  obtain ⟨g7, h⟩ := ifg h
  cases h
  exact rn_iretZ pr85 g7 (ft85 8 rfl)
/-- NineWheel$Sea.fearOf(I)I -/
theorem ft86 : ∀ (i : Nat) {q : Nat × XI}, cd86[i]? = some q → fetch 86 q.1 = some q.2 := ft_of (by decide +kernel)
theorem pr86 : pRt 86 = some .int := rfl
def f86 (v0 : Nat) (v1 : Int32) (w : Wd) : Option (Int32 × Wd) :=
  (if (wsh w v0).map (fun q => q.1) = some 6 then ob (f12 v0 v1 w) (fun p1 => (if p1.1 = 0 then some ((0 : Int32), p1.2)
    else ob (getR p1.2 6 v0 9) (fun x3 => ob (aldI p1.2 x3 v1) (fun x5 => some (x5, p1.2))))) else none)
set_option maxRecDepth 10000 in
theorem r86 {S : Sc} (v0 : Nat) (v1 : Int32) (w : Wd) (o : (Int32 × Wd)) (h : f86 v0 v1 w = some o) : Rn S 86 0 [some (.ref v0), some (.int v1)] [] w (some (.int o.1), o.2) := by
  unfold f86 at h
  refine rn_aload_n (ft86 0 rfl) rfl ?_
  refine rn_iload_n (ft86 1 rfl) rfl ?_
  obtain ⟨g8, h⟩ := ifg h
  obtain ⟨p1, q2, h⟩ := ob_some h
  refine rn_callV (as := [.int v1]) (k0 := v0) (r := []) (v := (some (.int p1.1))) (w1 := p1.2) (ft86 2 rfl) (by decide +kernel) rfl (Nat.le_of_ble_eq_true rfl) (Nat.le_of_ble_eq_true rfl) (r12 v0 v1 w _ q2) (by decide +kernel) g8 ?_
  by_cases c7 : p1.1 = 0
  · replace h := ifp c7 h
    refine rn_if_eq_t (ft86 3 rfl) c7 ?_
    refine rn_iconst (v := (0 : Int32)) (ft86 9 rfl) (by decide) ?_
    cases h
    exact rn_iretI pr86 (ft86 10 rfl)
  · replace h := ifn c7 h
    refine rn_if_eq_f (ft86 3 rfl) c7 ?_
    refine rn_aload_n (ft86 4 rfl) rfl ?_
    obtain ⟨x3, q4, h⟩ := ob_some h
    refine rn_getR (ft86 5 rfl) q4 ?_
    refine rn_iload_n (ft86 6 rfl) rfl ?_
    obtain ⟨x5, q6, h⟩ := ob_some h
    refine rn_iaload (ft86 7 rfl) q6 ?_
    refine rn_goto (ft86 8 rfl) ?_
    cases h
    exact rn_iretI pr86 (ft86 10 rfl)
/-- NineWheel$Sea.goalOf(I)I -/
theorem ft87 : ∀ (i : Nat) {q : Nat × XI}, cd87[i]? = some q → fetch 87 q.1 = some q.2 := ft_of (by decide +kernel)
theorem pr87 : pRt 87 = some .int := rfl
def f87 (v0 : Nat) (v1 : Int32) (w : Wd) : Option (Int32 × Wd) :=
  (if (wsh w v0).map (fun q => q.1) = some 6 then ob (f12 v0 v1 w) (fun p1 => (if p1.1 = 0 then some ((-1 : Int32), p1.2)
    else ob (getR p1.2 6 v0 10) (fun x3 => ob (aldI p1.2 x3 v1) (fun x5 => some (x5, p1.2))))) else none)
set_option maxRecDepth 10000 in
theorem r87 {S : Sc} (v0 : Nat) (v1 : Int32) (w : Wd) (o : (Int32 × Wd)) (h : f87 v0 v1 w = some o) : Rn S 87 0 [some (.ref v0), some (.int v1)] [] w (some (.int o.1), o.2) := by
  unfold f87 at h
  refine rn_aload_n (ft87 0 rfl) rfl ?_
  refine rn_iload_n (ft87 1 rfl) rfl ?_
  obtain ⟨g8, h⟩ := ifg h
  obtain ⟨p1, q2, h⟩ := ob_some h
  refine rn_callV (as := [.int v1]) (k0 := v0) (r := []) (v := (some (.int p1.1))) (w1 := p1.2) (ft87 2 rfl) (by decide +kernel) rfl (Nat.le_of_ble_eq_true rfl) (Nat.le_of_ble_eq_true rfl) (r12 v0 v1 w _ q2) (by decide +kernel) g8 ?_
  by_cases c7 : p1.1 = 0
  · replace h := ifp c7 h
    refine rn_if_eq_t (ft87 3 rfl) c7 ?_
    refine rn_iconst (v := (-1 : Int32)) (ft87 9 rfl) (by decide) ?_
    cases h
    exact rn_iretI pr87 (ft87 10 rfl)
  · replace h := ifn c7 h
    refine rn_if_eq_f (ft87 3 rfl) c7 ?_
    refine rn_aload_n (ft87 4 rfl) rfl ?_
    obtain ⟨x3, q4, h⟩ := ob_some h
    refine rn_getR (ft87 5 rfl) q4 ?_
    refine rn_iload_n (ft87 6 rfl) rfl ?_
    obtain ⟨x5, q6, h⟩ := ob_some h
    refine rn_iaload (ft87 7 rfl) q6 ?_
    refine rn_goto (ft87 8 rfl) ?_
    cases h
    exact rn_iretI pr87 (ft87 10 rfl)
/-- NineWheel$Held.wayOf(I)I -/
theorem ft88 : ∀ (i : Nat) {q : Nat × XI}, cd88[i]? = some q → fetch 88 q.1 = some q.2 := ft_of (by decide +kernel)
theorem pr88 : pRt 88 = some .int := rfl
def f88 (v0 : Nat) (v1 : Int32) (w : Wd) : Option (Int32 × Wd) :=
  ob (f0 v1 (0 : Int32) (5 : Int32) w) (fun p1 => (if p1.1 = 0 then ob (getR p1.2 3 v0 0) (fun x3 => ob (aldI p1.2 x3 v1) (fun x5 => some (x5, p1.2)))
    else some ((0 : Int32), p1.2)))
set_option maxRecDepth 10000 in
theorem r88 {S : Sc} (v0 : Nat) (v1 : Int32) (w : Wd) (o : (Int32 × Wd)) (h : f88 v0 v1 w = some o) : Rn S 88 0 [some (.ref v0), some (.int v1)] [] w (some (.int o.1), o.2) := by
  unfold f88 at h
  refine rn_iload_n (ft88 0 rfl) rfl ?_
  refine rn_iconst (v := (0 : Int32)) (ft88 1 rfl) (by decide) ?_
  refine rn_iconst (v := (5 : Int32)) (ft88 2 rfl) (by decide) ?_
  obtain ⟨p1, q2, h⟩ := ob_some h
  refine rn_callS (as := [.int v1, .int (0 : Int32), .int (5 : Int32)]) (r := []) (v := (some (.int p1.1))) (w1 := p1.2) (ft88 3 rfl) (by decide +kernel) rfl (Nat.le_of_ble_eq_true rfl) (Nat.le_of_ble_eq_true rfl) (r0 v1 (0 : Int32) (5 : Int32) w _ q2) ?_
  by_cases c7 : p1.1 = 0
  · replace h := ifp c7 h
    refine rn_if_eq_t (ft88 4 rfl) c7 ?_
    refine rn_aload_n (ft88 7 rfl) rfl ?_
    obtain ⟨x3, q4, h⟩ := ob_some h
    refine rn_getR (ft88 8 rfl) q4 ?_
    refine rn_iload_n (ft88 9 rfl) rfl ?_
    obtain ⟨x5, q6, h⟩ := ob_some h
    refine rn_iaload (ft88 10 rfl) q6 ?_
    cases h
    exact rn_iretI pr88 (ft88 11 rfl)
  · replace h := ifn c7 h
    refine rn_if_eq_f (ft88 4 rfl) c7 ?_
    refine rn_iconst (v := (0 : Int32)) (ft88 5 rfl) (by decide) ?_
    refine rn_goto (ft88 6 rfl) ?_
    cases h
    exact rn_iretI pr88 (ft88 11 rfl)
/-- NineWheel$Held.strengthOf(I)I -/
theorem ft89 : ∀ (i : Nat) {q : Nat × XI}, cd89[i]? = some q → fetch 89 q.1 = some q.2 := ft_of (by decide +kernel)
theorem pr89 : pRt 89 = some .int := rfl
def f89 (v0 : Nat) (v1 : Int32) (w : Wd) : Option (Int32 × Wd) :=
  ob (f0 v1 (0 : Int32) (5 : Int32) w) (fun p1 => (if p1.1 = 0 then ob (getR p1.2 3 v0 1) (fun x3 => ob (aldI p1.2 x3 v1) (fun x5 => some (x5, p1.2)))
    else some ((0 : Int32), p1.2)))
set_option maxRecDepth 10000 in
theorem r89 {S : Sc} (v0 : Nat) (v1 : Int32) (w : Wd) (o : (Int32 × Wd)) (h : f89 v0 v1 w = some o) : Rn S 89 0 [some (.ref v0), some (.int v1)] [] w (some (.int o.1), o.2) := by
  unfold f89 at h
  refine rn_iload_n (ft89 0 rfl) rfl ?_
  refine rn_iconst (v := (0 : Int32)) (ft89 1 rfl) (by decide) ?_
  refine rn_iconst (v := (5 : Int32)) (ft89 2 rfl) (by decide) ?_
  obtain ⟨p1, q2, h⟩ := ob_some h
  refine rn_callS (as := [.int v1, .int (0 : Int32), .int (5 : Int32)]) (r := []) (v := (some (.int p1.1))) (w1 := p1.2) (ft89 3 rfl) (by decide +kernel) rfl (Nat.le_of_ble_eq_true rfl) (Nat.le_of_ble_eq_true rfl) (r0 v1 (0 : Int32) (5 : Int32) w _ q2) ?_
  by_cases c7 : p1.1 = 0
  · replace h := ifp c7 h
    refine rn_if_eq_t (ft89 4 rfl) c7 ?_
    refine rn_aload_n (ft89 7 rfl) rfl ?_
    obtain ⟨x3, q4, h⟩ := ob_some h
    refine rn_getR (ft89 8 rfl) q4 ?_
    refine rn_iload_n (ft89 9 rfl) rfl ?_
    obtain ⟨x5, q6, h⟩ := ob_some h
    refine rn_iaload (ft89 10 rfl) q6 ?_
    cases h
    exact rn_iretI pr89 (ft89 11 rfl)
  · replace h := ifn c7 h
    refine rn_if_eq_f (ft89 4 rfl) c7 ?_
    refine rn_iconst (v := (0 : Int32)) (ft89 5 rfl) (by decide) ?_
    refine rn_goto (ft89 6 rfl) ?_
    cases h
    exact rn_iretI pr89 (ft89 11 rfl)
/-- NineWheel.noHeading(I)Z -/
theorem ft90 : ∀ (i : Nat) {q : Nat × XI}, cd90[i]? = some q → fetch 90 q.1 = some q.2 := ft_of (by decide +kernel)
theorem pr90 : pRt 90 = some .boolean := rfl
def f90 (v0 : Int32) (w : Wd) : Option (Int32 × Wd) :=
  ob (f0 v0 (0 : Int32) (7 : Int32) w) (fun p1 => (if p1.1 = 0 ∨ p1.1 = 1 then some (p1.1, p1.2) else none))
set_option maxRecDepth 10000 in
theorem r90 {S : Sc} (v0 : Int32) (w : Wd) (o : (Int32 × Wd)) (h : f90 v0 w = some o) : Rn S 90 0 [some (.int v0)] [] w (some (.int o.1), o.2) := by
  unfold f90 at h
  refine rn_iload_n (ft90 0 rfl) rfl ?_
  refine rn_iconst (v := (0 : Int32)) (ft90 1 rfl) (by decide) ?_
  refine rn_bipush (v := (7 : Int32)) (ft90 2 rfl) (by decide) ?_
  obtain ⟨p1, q2, h⟩ := ob_some h
  refine rn_callS (as := [.int v0, .int (0 : Int32), .int (7 : Int32)]) (r := []) (v := (some (.int p1.1))) (w1 := p1.2) (ft90 3 rfl) (by decide +kernel) rfl (Nat.le_of_ble_eq_true rfl) (Nat.le_of_ble_eq_true rfl) (r0 v0 (0 : Int32) (7 : Int32) w _ q2) ?_
  obtain ⟨g3, h⟩ := ifg h
  cases h
  exact rn_iretZ pr90 g3 (ft90 4 rfl)
/-- NineWheel.noHour(I)Z -/
theorem ft91 : ∀ (i : Nat) {q : Nat × XI}, cd91[i]? = some q → fetch 91 q.1 = some q.2 := ft_of (by decide +kernel)
theorem pr91 : pRt 91 = some .boolean := rfl
def f91 (v0 : Int32) (w : Wd) : Option (Int32 × Wd) :=
  ob (f0 v0 (0 : Int32) (999 : Int32) w) (fun p1 => (if p1.1 = 0 ∨ p1.1 = 1 then some (p1.1, p1.2) else none))
set_option maxRecDepth 10000 in
theorem r91 {S : Sc} (v0 : Int32) (w : Wd) (o : (Int32 × Wd)) (h : f91 v0 w = some o) : Rn S 91 0 [some (.int v0)] [] w (some (.int o.1), o.2) := by
  unfold f91 at h
  refine rn_iload_n (ft91 0 rfl) rfl ?_
  refine rn_iconst (v := (0 : Int32)) (ft91 1 rfl) (by decide) ?_
  refine rn_sipush (v := (999 : Int32)) (ft91 2 rfl) (by decide) ?_
  obtain ⟨p1, q2, h⟩ := ob_some h
  refine rn_callS (as := [.int v0, .int (0 : Int32), .int (999 : Int32)]) (r := []) (v := (some (.int p1.1))) (w1 := p1.2) (ft91 3 rfl) (by decide +kernel) rfl (Nat.le_of_ble_eq_true rfl) (Nat.le_of_ble_eq_true rfl) (r0 v0 (0 : Int32) (999 : Int32) w _ q2) ?_
  obtain ⟨g3, h⟩ := ifg h
  cases h
  exact rn_iretZ pr91 g3 (ft91 4 rfl)
/-- NineWheel.noTurn(I)Z -/
theorem ft92 : ∀ (i : Nat) {q : Nat × XI}, cd92[i]? = some q → fetch 92 q.1 = some q.2 := ft_of (by decide +kernel)
theorem pr92 : pRt 92 = some .boolean := rfl
def f92 (v0 : Int32) (w : Wd) : Option (Int32 × Wd) :=
  ob (f0 v0 (-1 : Int32) (1 : Int32) w) (fun p1 => (if p1.1 = 0 ∨ p1.1 = 1 then some (p1.1, p1.2) else none))
set_option maxRecDepth 10000 in
theorem r92 {S : Sc} (v0 : Int32) (w : Wd) (o : (Int32 × Wd)) (h : f92 v0 w = some o) : Rn S 92 0 [some (.int v0)] [] w (some (.int o.1), o.2) := by
  unfold f92 at h
  refine rn_iload_n (ft92 0 rfl) rfl ?_
  refine rn_iconst (v := (-1 : Int32)) (ft92 1 rfl) (by decide) ?_
  refine rn_iconst (v := (1 : Int32)) (ft92 2 rfl) (by decide) ?_
  obtain ⟨p1, q2, h⟩ := ob_some h
  refine rn_callS (as := [.int v0, .int (-1 : Int32), .int (1 : Int32)]) (r := []) (v := (some (.int p1.1))) (w1 := p1.2) (ft92 3 rfl) (by decide +kernel) rfl (Nat.le_of_ble_eq_true rfl) (Nat.le_of_ble_eq_true rfl) (r0 v0 (-1 : Int32) (1 : Int32) w _ q2) ?_
  obtain ⟨g3, h⟩ := ifg h
  cases h
  exact rn_iretZ pr92 g3 (ft92 4 rfl)
/-- NineWheel$Sea.turned(II)I -/
theorem ft93 : ∀ (i : Nat) {q : Nat × XI}, cd93[i]? = some q → fetch 93 q.1 = some q.2 := ft_of (by decide +kernel)
theorem pr93 : pRt 93 = some .int := rfl
def f93_J89  (v3 : Int32) (s0 : Int32) (w : Wd) : Option (Int32 × Wd) :=
  some (((s0 * (8 : Int32)) + v3), w)
set_option maxRecDepth 10000 in
theorem rf93_J89 {S : Sc}  (v3 : Int32) (s0 : Int32) (w : Wd) (o : (Int32 × Wd))  (h : f93_J89  v3 s0 w = some o) : Rn S 93 89 [none, none, none, some (.int v3), none, none, none] [.int s0] w (some (.int o.1), o.2) := by
  unfold f93_J89 at h
  refine rn_bipush (v := (8 : Int32)) (ft93 51 rfl) (by decide) ?_
  refine rn_imul (ft93 52 rfl) ?_
  refine rn_iload_n (ft93 53 rfl) rfl ?_
  refine rn_iadd (ft93 54 rfl) ?_
  cases h
  exact rn_iretI pr93 (ft93 55 rfl)
def f93_J70  (v2 : Int32) (v3 : Int32) (v4 : Int32) (v5 : Int32) (s0 : Int32) (w : Wd) : Option (Int32 × Wd) :=
  (if s0 = 0 then f93_J89  v3 v2 w
    else f93_J89  v3 ((v4 * (8 : Int32)) + v5) w)
set_option maxRecDepth 10000 in
theorem rf93_J70 {S : Sc}  (v2 : Int32) (v3 : Int32) (v4 : Int32) (v5 : Int32) (s0 : Int32) (w : Wd) (o : (Int32 × Wd))  (h : f93_J70  v2 v3 v4 v5 s0 w = some o) : Rn S 93 70 [none, none, some (.int v2), some (.int v3), some (.int v4), some (.int v5), none] [.int s0] w (some (.int o.1), o.2) := by
  unfold f93_J70 at h
  refine rn_istore (ls' := [none, none, some (.int v2), some (.int v3), some (.int v4), some (.int v5), some (.int s0)]) (ft93 41 rfl) rfl ?_
  refine rn_iload (ft93 42 rfl) rfl ?_
  by_cases c9 : s0 = 0
  · replace h := ifp c9 h
    refine rn_if_eq_t (ft93 43 rfl) c9 ?_
    refine rn_iload_n (ft93 50 rfl) rfl ?_
    exact rn_forget (ls := [none, none, none, some (.int v3), none, none, none]) (And.intro rfl trivial) (rf93_J89  v3 v2 w _  h)
  · replace h := ifn c9 h
    refine rn_if_eq_f (ft93 43 rfl) c9 ?_
    refine rn_iload (ft93 44 rfl) rfl ?_
    refine rn_bipush (v := (8 : Int32)) (ft93 45 rfl) (by decide) ?_
    refine rn_imul (ft93 46 rfl) ?_
    refine rn_iload (ft93 47 rfl) rfl ?_
    refine rn_iadd (ft93 48 rfl) ?_
    refine rn_goto (ft93 49 rfl) ?_
    exact rn_forget (ls := [none, none, none, some (.int v3), none, none, none]) (And.intro rfl trivial) (rf93_J89  v3 ((v4 * (8 : Int32)) + v5) w _  h)
def f93 (v0 : Int32) (v1 : Int32) (w : Wd) : Option (Int32 × Wd) :=
  ob (f20 v0 w) (fun p1 => ob (f21 (v0 + v1) p1.2) (fun p3 => ob (tldI S0 1 (p3.1 &&& (7 : Int32))) (fun x5 => ob (tldI S0 2 (p3.1 &&& (7 : Int32))) (fun x7 => (if ((p1.1 >>> ((3 : Int32) &&& 31)) + x5) < 0 then f93_J70  p1.1 p3.1 ((p1.1 >>> ((3 : Int32) &&& 31)) + x5) ((p1.1 &&& (7 : Int32)) + x7) (0 : Int32) p3.2
    else (if (8 : Int32) ≤ ((p1.1 >>> ((3 : Int32) &&& 31)) + x5) then f93_J70  p1.1 p3.1 ((p1.1 >>> ((3 : Int32) &&& 31)) + x5) ((p1.1 &&& (7 : Int32)) + x7) (0 : Int32) p3.2
      else (if ((p1.1 &&& (7 : Int32)) + x7) < 0 then f93_J70  p1.1 p3.1 ((p1.1 >>> ((3 : Int32) &&& 31)) + x5) ((p1.1 &&& (7 : Int32)) + x7) (0 : Int32) p3.2
        else (if (8 : Int32) ≤ ((p1.1 &&& (7 : Int32)) + x7) then f93_J70  p1.1 p3.1 ((p1.1 >>> ((3 : Int32) &&& 31)) + x5) ((p1.1 &&& (7 : Int32)) + x7) (0 : Int32) p3.2
          else f93_J70  p1.1 p3.1 ((p1.1 >>> ((3 : Int32) &&& 31)) + x5) ((p1.1 &&& (7 : Int32)) + x7) (1 : Int32) p3.2))))))))
set_option maxRecDepth 10000 in
theorem r93 {S : Sc} (v0 : Int32) (v1 : Int32) (w : Wd) (o : (Int32 × Wd)) (h : f93 v0 v1 w = some o) : Rn S 93 0 [some (.int v0), some (.int v1), none, none, none, none, none] [] w (some (.int o.1), o.2) := by
  unfold f93 at h
  refine rn_iload_n (ft93 0 rfl) rfl ?_
  obtain ⟨p1, q2, h⟩ := ob_some h
  refine rn_callS (as := [.int v0]) (r := []) (v := (some (.int p1.1))) (w1 := p1.2) (ft93 1 rfl) (by decide +kernel) rfl (Nat.le_of_ble_eq_true rfl) (Nat.le_of_ble_eq_true rfl) (r20 v0 w _ q2) ?_
  refine rn_istore_n (ls' := [some (.int v0), some (.int v1), some (.int p1.1), none, none, none, none]) (ft93 2 rfl) rfl ?_
  refine rn_iload_n (ft93 3 rfl) rfl ?_
  refine rn_iload_n (ft93 4 rfl) rfl ?_
  refine rn_iadd (ft93 5 rfl) ?_
  obtain ⟨p3, q4, h⟩ := ob_some h
  refine rn_callS (as := [.int (v0 + v1)]) (r := []) (v := (some (.int p3.1))) (w1 := p3.2) (ft93 6 rfl) (by decide +kernel) rfl (Nat.le_of_ble_eq_true rfl) (Nat.le_of_ble_eq_true rfl) (r21 (v0 + v1) p1.2 _ q4) ?_
  refine rn_istore_n (ls' := [some (.int v0), some (.int v1), some (.int p1.1), some (.int p3.1), none, none, none]) (ft93 7 rfl) rfl ?_
  refine rn_iload_n (ft93 8 rfl) rfl ?_
  refine rn_iconst (v := (3 : Int32)) (ft93 9 rfl) (by decide) ?_
  refine rn_ishr (ft93 10 rfl) ?_
  refine rn_gets (v := .float 1) (ft93 11 rfl) rfl ?_
  refine rn_iload_n (ft93 12 rfl) rfl ?_
  refine rn_bipush (v := (7 : Int32)) (ft93 13 rfl) (by decide) ?_
  refine rn_iand (ft93 14 rfl) ?_
  obtain ⟨x5, q6, h⟩ := ob_some h
  refine rn_ialoadS (ft93 15 rfl) q6 ?_
  refine rn_iadd (ft93 16 rfl) ?_
  refine rn_istore (ls' := [some (.int v0), some (.int v1), some (.int p1.1), some (.int p3.1), some (.int ((p1.1 >>> ((3 : Int32) &&& 31)) + x5)), none, none]) (ft93 17 rfl) rfl ?_
  refine rn_iload_n (ft93 18 rfl) rfl ?_
  refine rn_bipush (v := (7 : Int32)) (ft93 19 rfl) (by decide) ?_
  refine rn_iand (ft93 20 rfl) ?_
  refine rn_gets (v := .float 2) (ft93 21 rfl) rfl ?_
  refine rn_iload_n (ft93 22 rfl) rfl ?_
  refine rn_bipush (v := (7 : Int32)) (ft93 23 rfl) (by decide) ?_
  refine rn_iand (ft93 24 rfl) ?_
  obtain ⟨x7, q8, h⟩ := ob_some h
  refine rn_ialoadS (ft93 25 rfl) q8 ?_
  refine rn_iadd (ft93 26 rfl) ?_
  refine rn_istore (ls' := [some (.int v0), some (.int v1), some (.int p1.1), some (.int p3.1), some (.int ((p1.1 >>> ((3 : Int32) &&& 31)) + x5)), some (.int ((p1.1 &&& (7 : Int32)) + x7)), none]) (ft93 27 rfl) rfl ?_
  refine rn_iload (ft93 28 rfl) rfl ?_
  by_cases c13 : ((p1.1 >>> ((3 : Int32) &&& 31)) + x5) < 0
  · replace h := ifp c13 h
    refine rn_if_lt_t (ft93 29 rfl) c13 ?_
    refine rn_iconst (v := (0 : Int32)) (ft93 40 rfl) (by decide) ?_
    exact rn_forget (ls := [none, none, some (.int p1.1), some (.int p3.1), some (.int ((p1.1 >>> ((3 : Int32) &&& 31)) + x5)), some (.int ((p1.1 &&& (7 : Int32)) + x7)), none]) (And.intro rfl (And.intro rfl (And.intro rfl (And.intro rfl trivial)))) (rf93_J70  p1.1 p3.1 ((p1.1 >>> ((3 : Int32) &&& 31)) + x5) ((p1.1 &&& (7 : Int32)) + x7) (0 : Int32) p3.2 _  h)
  · replace h := ifn c13 h
    refine rn_if_lt_f (ft93 29 rfl) c13 ?_
    refine rn_iload (ft93 30 rfl) rfl ?_
    refine rn_bipush (v := (8 : Int32)) (ft93 31 rfl) (by decide) ?_
    by_cases c12 : (8 : Int32) ≤ ((p1.1 >>> ((3 : Int32) &&& 31)) + x5)
    · replace h := ifp c12 h
      refine rn_icmp_ge_t (ft93 32 rfl) c12 ?_
      refine rn_iconst (v := (0 : Int32)) (ft93 40 rfl) (by decide) ?_
      exact rn_forget (ls := [none, none, some (.int p1.1), some (.int p3.1), some (.int ((p1.1 >>> ((3 : Int32) &&& 31)) + x5)), some (.int ((p1.1 &&& (7 : Int32)) + x7)), none]) (And.intro rfl (And.intro rfl (And.intro rfl (And.intro rfl trivial)))) (rf93_J70  p1.1 p3.1 ((p1.1 >>> ((3 : Int32) &&& 31)) + x5) ((p1.1 &&& (7 : Int32)) + x7) (0 : Int32) p3.2 _  h)
    · replace h := ifn c12 h
      refine rn_icmp_ge_f (ft93 32 rfl) c12 ?_
      refine rn_iload (ft93 33 rfl) rfl ?_
      by_cases c11 : ((p1.1 &&& (7 : Int32)) + x7) < 0
      · replace h := ifp c11 h
        refine rn_if_lt_t (ft93 34 rfl) c11 ?_
        refine rn_iconst (v := (0 : Int32)) (ft93 40 rfl) (by decide) ?_
        exact rn_forget (ls := [none, none, some (.int p1.1), some (.int p3.1), some (.int ((p1.1 >>> ((3 : Int32) &&& 31)) + x5)), some (.int ((p1.1 &&& (7 : Int32)) + x7)), none]) (And.intro rfl (And.intro rfl (And.intro rfl (And.intro rfl trivial)))) (rf93_J70  p1.1 p3.1 ((p1.1 >>> ((3 : Int32) &&& 31)) + x5) ((p1.1 &&& (7 : Int32)) + x7) (0 : Int32) p3.2 _  h)
      · replace h := ifn c11 h
        refine rn_if_lt_f (ft93 34 rfl) c11 ?_
        refine rn_iload (ft93 35 rfl) rfl ?_
        refine rn_bipush (v := (8 : Int32)) (ft93 36 rfl) (by decide) ?_
        by_cases c10 : (8 : Int32) ≤ ((p1.1 &&& (7 : Int32)) + x7)
        · replace h := ifp c10 h
          refine rn_icmp_ge_t (ft93 37 rfl) c10 ?_
          refine rn_iconst (v := (0 : Int32)) (ft93 40 rfl) (by decide) ?_
          exact rn_forget (ls := [none, none, some (.int p1.1), some (.int p3.1), some (.int ((p1.1 >>> ((3 : Int32) &&& 31)) + x5)), some (.int ((p1.1 &&& (7 : Int32)) + x7)), none]) (And.intro rfl (And.intro rfl (And.intro rfl (And.intro rfl trivial)))) (rf93_J70  p1.1 p3.1 ((p1.1 >>> ((3 : Int32) &&& 31)) + x5) ((p1.1 &&& (7 : Int32)) + x7) (0 : Int32) p3.2 _  h)
        · replace h := ifn c10 h
          refine rn_icmp_ge_f (ft93 37 rfl) c10 ?_
          refine rn_iconst (v := (1 : Int32)) (ft93 38 rfl) (by decide) ?_
          refine rn_goto (ft93 39 rfl) ?_
          exact rn_forget (ls := [none, none, some (.int p1.1), some (.int p3.1), some (.int ((p1.1 >>> ((3 : Int32) &&& 31)) + x5)), some (.int ((p1.1 &&& (7 : Int32)) + x7)), none]) (And.intro rfl (And.intro rfl (And.intro rfl (And.intro rfl trivial)))) (rf93_J70  p1.1 p3.1 ((p1.1 >>> ((3 : Int32) &&& 31)) + x5) ((p1.1 &&& (7 : Int32)) + x7) (1 : Int32) p3.2 _  h)
/-- NineWheel.noStrength(II)Z -/
theorem ft94 : ∀ (i : Nat) {q : Nat × XI}, cd94[i]? = some q → fetch 94 q.1 = some q.2 := ft_of (by decide +kernel)
theorem pr94 : pRt 94 = some .boolean := rfl
def f94 (v0 : Int32) (v1 : Int32) (w : Wd) : Option (Int32 × Wd) :=
  (if ¬ v0 = (2 : Int32) then (if ¬ v0 = (4 : Int32) then (if v1 = 0 then some ((0 : Int32), w)
        else some ((1 : Int32), w))
      else ob (f0 v1 (-2 : Int32) (2 : Int32) w) (fun p2 => (if p2.1 = 0 ∨ p2.1 = 1 then some (p2.1, p2.2) else none)))
    else ob (f0 v1 (1 : Int32) (4 : Int32) w) (fun p6 => (if p6.1 = 0 ∨ p6.1 = 1 then some (p6.1, p6.2) else none)))
set_option maxRecDepth 10000 in
theorem r94 {S : Sc} (v0 : Int32) (v1 : Int32) (w : Wd) (o : (Int32 × Wd)) (h : f94 v0 v1 w = some o) : Rn S 94 0 [some (.int v0), some (.int v1)] [] w (some (.int o.1), o.2) := by
  unfold f94 at h
  refine rn_iload_n (ft94 0 rfl) rfl ?_
  refine rn_iconst (v := (2 : Int32)) (ft94 1 rfl) (by decide) ?_
  by_cases c9 : ¬ v0 = (2 : Int32)
  · replace h := ifp c9 h
    refine rn_icmp_ne_t (ft94 2 rfl) c9 ?_
    refine rn_iload_n (ft94 8 rfl) rfl ?_
    refine rn_iconst (v := (4 : Int32)) (ft94 9 rfl) (by decide) ?_
    by_cases c5 : ¬ v0 = (4 : Int32)
    · replace h := ifp c5 h
      refine rn_icmp_ne_t (ft94 10 rfl) c5 ?_
      refine rn_iload_n (ft94 16 rfl) rfl ?_
      by_cases c1 : v1 = 0
      · replace h := ifp c1 h
        refine rn_if_eq_t (ft94 17 rfl) c1 ?_
        refine rn_iconst (v := (0 : Int32)) (ft94 20 rfl) (by decide) ?_
        cases h
        exact rn_iretZ pr94 (by decide) (ft94 21 rfl)
      · replace h := ifn c1 h
        refine rn_if_eq_f (ft94 17 rfl) c1 ?_
        refine rn_iconst (v := (1 : Int32)) (ft94 18 rfl) (by decide) ?_
        refine rn_goto (ft94 19 rfl) ?_
        cases h
        exact rn_iretZ pr94 (by decide) (ft94 21 rfl)
    · replace h := ifn c5 h
      refine rn_icmp_ne_f (ft94 10 rfl) c5 ?_
      refine rn_iload_n (ft94 11 rfl) rfl ?_
      refine rn_bipush (v := (-2 : Int32)) (ft94 12 rfl) (by decide) ?_
      refine rn_iconst (v := (2 : Int32)) (ft94 13 rfl) (by decide) ?_
      obtain ⟨p2, q3, h⟩ := ob_some h
      refine rn_callS (as := [.int v1, .int (-2 : Int32), .int (2 : Int32)]) (r := []) (v := (some (.int p2.1))) (w1 := p2.2) (ft94 14 rfl) (by decide +kernel) rfl (Nat.le_of_ble_eq_true rfl) (Nat.le_of_ble_eq_true rfl) (r0 v1 (-2 : Int32) (2 : Int32) w _ q3) ?_
      refine rn_goto (ft94 15 rfl) ?_
      obtain ⟨g4, h⟩ := ifg h
      cases h
      exact rn_iretZ pr94 g4 (ft94 21 rfl)
  · replace h := ifn c9 h
    refine rn_icmp_ne_f (ft94 2 rfl) c9 ?_
    refine rn_iload_n (ft94 3 rfl) rfl ?_
    refine rn_iconst (v := (1 : Int32)) (ft94 4 rfl) (by decide) ?_
    refine rn_iconst (v := (4 : Int32)) (ft94 5 rfl) (by decide) ?_
    obtain ⟨p6, q7, h⟩ := ob_some h
    refine rn_callS (as := [.int v1, .int (1 : Int32), .int (4 : Int32)]) (r := []) (v := (some (.int p6.1))) (w1 := p6.2) (ft94 6 rfl) (by decide +kernel) rfl (Nat.le_of_ble_eq_true rfl) (Nat.le_of_ble_eq_true rfl) (r0 v1 (1 : Int32) (4 : Int32) w _ q7) ?_
    obtain ⟨g8, h⟩ := ifg h
    cases h
    exact rn_iretZ pr94 g8 (ft94 7 rfl)
/-- NineWheel$Held.setWay(III)V -/
theorem ft95 : ∀ (i : Nat) {q : Nat × XI}, cd95[i]? = some q → fetch 95 q.1 = some q.2 := ft_of (by decide +kernel)
theorem pr95 : pRt 95 = none := rfl
def f95 (v0 : Nat) (v1 : Int32) (v2 : Int32) (v3 : Int32) (w : Wd) : Option Wd :=
  ob (f0 v1 (0 : Int32) (5 : Int32) w) (fun p1 => (if p1.1 = 0 then ob (getR p1.2 3 v0 0) (fun x3 => ob (astI p1.2 x3 v1 v2) (fun w5 => ob (getR w5 3 v0 1) (fun x7 => ob (astI w5 x7 v1 v3) (fun w9 => some w9))))
    else some p1.2))
set_option maxRecDepth 10000 in
theorem r95 {S : Sc} (v0 : Nat) (v1 : Int32) (v2 : Int32) (v3 : Int32) (w : Wd) (o : Wd) (h : f95 v0 v1 v2 v3 w = some o) : Rn S 95 0 [some (.ref v0), some (.int v1), some (.int v2), some (.int v3)] [] w (none, o) := by
  unfold f95 at h
  refine rn_iload_n (ft95 0 rfl) rfl ?_
  refine rn_iconst (v := (0 : Int32)) (ft95 1 rfl) (by decide) ?_
  refine rn_iconst (v := (5 : Int32)) (ft95 2 rfl) (by decide) ?_
  obtain ⟨p1, q2, h⟩ := ob_some h
  refine rn_callS (as := [.int v1, .int (0 : Int32), .int (5 : Int32)]) (r := []) (v := (some (.int p1.1))) (w1 := p1.2) (ft95 3 rfl) (by decide +kernel) rfl (Nat.le_of_ble_eq_true rfl) (Nat.le_of_ble_eq_true rfl) (r0 v1 (0 : Int32) (5 : Int32) w _ q2) ?_
  by_cases c11 : p1.1 = 0
  · replace h := ifp c11 h
    refine rn_if_eq_t (ft95 4 rfl) c11 ?_
    refine rn_aload_n (ft95 6 rfl) rfl ?_
    obtain ⟨x3, q4, h⟩ := ob_some h
    refine rn_getR (ft95 7 rfl) q4 ?_
    refine rn_iload_n (ft95 8 rfl) rfl ?_
    refine rn_iload_n (ft95 9 rfl) rfl ?_
    obtain ⟨w5, q6, h⟩ := ob_some h
    refine rn_iastore (ft95 10 rfl) q6 ?_
    refine rn_aload_n (ft95 11 rfl) rfl ?_
    obtain ⟨x7, q8, h⟩ := ob_some h
    refine rn_getR (ft95 12 rfl) q8 ?_
    refine rn_iload_n (ft95 13 rfl) rfl ?_
    refine rn_iload_n (ft95 14 rfl) rfl ?_
    obtain ⟨w9, q10, h⟩ := ob_some h
    refine rn_iastore (ft95 15 rfl) q10 ?_
    cases h
    exact rn_vret pr95 (ft95 16 rfl)
  · replace h := ifn c11 h
    refine rn_if_eq_f (ft95 4 rfl) c11 ?_
    cases h
    exact rn_vret pr95 (ft95 5 rfl)
/-- NineWheel$Crew.write(III)V -/
theorem ft96 : ∀ (i : Nat) {q : Nat × XI}, cd96[i]? = some q → fetch 96 q.1 = some q.2 := ft_of (by decide +kernel)
theorem pr96 : pRt 96 = none := rfl
def f96 (v0 : Nat) (v1 : Int32) (v2 : Int32) (v3 : Int32) (w : Wd) : Option Wd :=
  ob (f0 v2 (0 : Int32) (511 : Int32) w) (fun p1 => (if ¬ p1.1 = 0 then some p1.2
    else ob (getR p1.2 2 v0 3) (fun x3 => ob (aldI p1.2 x3 v2) (fun x5 => ob (astI p1.2 x3 v2 (x5 ||| ((v3 + (2 : Int32)) <<< (((3 : Int32) * v1) &&& 31)))) (fun w7 => some w7)))))
set_option maxRecDepth 10000 in
theorem r96 {S : Sc} (v0 : Nat) (v1 : Int32) (v2 : Int32) (v3 : Int32) (w : Wd) (o : Wd) (h : f96 v0 v1 v2 v3 w = some o) : Rn S 96 0 [some (.ref v0), some (.int v1), some (.int v2), some (.int v3)] [] w (none, o) := by
  unfold f96 at h
  refine rn_iload_n (ft96 0 rfl) rfl ?_
  refine rn_iconst (v := (0 : Int32)) (ft96 1 rfl) (by decide) ?_
  refine rn_sipush (v := (511 : Int32)) (ft96 2 rfl) (by decide) ?_
  obtain ⟨p1, q2, h⟩ := ob_some h
  refine rn_callS (as := [.int v2, .int (0 : Int32), .int (511 : Int32)]) (r := []) (v := (some (.int p1.1))) (w1 := p1.2) (ft96 3 rfl) (by decide +kernel) rfl (Nat.le_of_ble_eq_true rfl) (Nat.le_of_ble_eq_true rfl) (r0 v2 (0 : Int32) (511 : Int32) w _ q2) ?_
  by_cases c9 : ¬ p1.1 = 0
  · replace h := ifp c9 h
    refine rn_if_ne_t (ft96 4 rfl) c9 ?_
    cases h
    exact rn_vret pr96 (ft96 19 rfl)
  · replace h := ifn c9 h
    refine rn_if_ne_f (ft96 4 rfl) c9 ?_
    refine rn_aload_n (ft96 5 rfl) rfl ?_
    obtain ⟨x3, q4, h⟩ := ob_some h
    refine rn_getR (ft96 6 rfl) q4 ?_
    refine rn_iload_n (ft96 7 rfl) rfl ?_
    refine rn_dup2 (ft96 8 rfl) rfl rfl ?_
    obtain ⟨x5, q6, h⟩ := ob_some h
    refine rn_iaload (ft96 9 rfl) q6 ?_
    refine rn_iload_n (ft96 10 rfl) rfl ?_
    refine rn_iconst (v := (2 : Int32)) (ft96 11 rfl) (by decide) ?_
    refine rn_iadd (ft96 12 rfl) ?_
    refine rn_iconst (v := (3 : Int32)) (ft96 13 rfl) (by decide) ?_
    refine rn_iload_n (ft96 14 rfl) rfl ?_
    refine rn_imul (ft96 15 rfl) ?_
    refine rn_ishl (ft96 16 rfl) ?_
    refine rn_ior (ft96 17 rfl) ?_
    obtain ⟨w7, q8, h⟩ := ob_some h
    refine rn_iastore (ft96 18 rfl) q8 ?_
    cases h
    exact rn_vret pr96 (ft96 19 rfl)
/-- NineWheel$Crew.press(II)I -/
theorem ft97 : ∀ (i : Nat) {q : Nat × XI}, cd97[i]? = some q → fetch 97 q.1 = some q.2 := ft_of (by decide +kernel)
theorem pr97 : pRt 97 = some .int := rfl
def f97 (v0 : Nat) (v1 : Int32) (v2 : Int32) (w : Wd) : Option (Int32 × Wd) :=
  ob (f0 v2 (0 : Int32) (511 : Int32) w) (fun p1 => (if ¬ p1.1 = 0 then some ((0 : Int32), p1.2)
    else ob (getR p1.2 2 v0 0) (fun x3 => (if (wsh p1.2 x3).map (fun q => q.1) = some 6 then ob (f12 x3 v1 p1.2) (fun p5 => (if ¬ p5.1 = 0 then ob (getR p5.2 2 v0 3) (fun x7 => ob (aldI p5.2 x7 v2) (fun x9 => some ((((x9 >>> (((3 : Int32) * v1) &&& 31)) &&& (7 : Int32)) - (2 : Int32)), p5.2)))
      else some ((0 : Int32), p5.2))) else none))))
set_option maxRecDepth 10000 in
theorem r97 {S : Sc} (v0 : Nat) (v1 : Int32) (v2 : Int32) (w : Wd) (o : (Int32 × Wd)) (h : f97 v0 v1 v2 w = some o) : Rn S 97 0 [some (.ref v0), some (.int v1), some (.int v2)] [] w (some (.int o.1), o.2) := by
  unfold f97 at h
  refine rn_iload_n (ft97 0 rfl) rfl ?_
  refine rn_iconst (v := (0 : Int32)) (ft97 1 rfl) (by decide) ?_
  refine rn_sipush (v := (511 : Int32)) (ft97 2 rfl) (by decide) ?_
  obtain ⟨p1, q2, h⟩ := ob_some h
  refine rn_callS (as := [.int v2, .int (0 : Int32), .int (511 : Int32)]) (r := []) (v := (some (.int p1.1))) (w1 := p1.2) (ft97 3 rfl) (by decide +kernel) rfl (Nat.le_of_ble_eq_true rfl) (Nat.le_of_ble_eq_true rfl) (r0 v2 (0 : Int32) (511 : Int32) w _ q2) ?_
  by_cases c13 : ¬ p1.1 = 0
  · replace h := ifp c13 h
    refine rn_if_ne_t (ft97 4 rfl) c13 ?_
    refine rn_iconst (v := (0 : Int32)) (ft97 10 rfl) (by decide) ?_
    cases h
    exact rn_iretI pr97 (ft97 11 rfl)
  · replace h := ifn c13 h
    refine rn_if_ne_f (ft97 4 rfl) c13 ?_
    refine rn_aload_n (ft97 5 rfl) rfl ?_
    obtain ⟨x3, q4, h⟩ := ob_some h
    refine rn_getR (ft97 6 rfl) q4 ?_
    refine rn_iload_n (ft97 7 rfl) rfl ?_
    obtain ⟨g12, h⟩ := ifg h
    obtain ⟨p5, q6, h⟩ := ob_some h
    refine rn_callV (as := [.int v1]) (k0 := x3) (r := []) (v := (some (.int p5.1))) (w1 := p5.2) (ft97 8 rfl) (by decide +kernel) rfl (Nat.le_of_ble_eq_true rfl) (Nat.le_of_ble_eq_true rfl) (r12 x3 v1 p1.2 _ q6) (by decide +kernel) g12 ?_
    by_cases c11 : ¬ p5.1 = 0
    · replace h := ifp c11 h
      refine rn_if_ne_t (ft97 9 rfl) c11 ?_
      refine rn_aload_n (ft97 12 rfl) rfl ?_
      obtain ⟨x7, q8, h⟩ := ob_some h
      refine rn_getR (ft97 13 rfl) q8 ?_
      refine rn_iload_n (ft97 14 rfl) rfl ?_
      obtain ⟨x9, q10, h⟩ := ob_some h
      refine rn_iaload (ft97 15 rfl) q10 ?_
      refine rn_iconst (v := (3 : Int32)) (ft97 16 rfl) (by decide) ?_
      refine rn_iload_n (ft97 17 rfl) rfl ?_
      refine rn_imul (ft97 18 rfl) ?_
      refine rn_ishr (ft97 19 rfl) ?_
      refine rn_bipush (v := (7 : Int32)) (ft97 20 rfl) (by decide) ?_
      refine rn_iand (ft97 21 rfl) ?_
      refine rn_iconst (v := (2 : Int32)) (ft97 22 rfl) (by decide) ?_
      refine rn_isub (ft97 23 rfl) ?_
      cases h
      exact rn_iretI pr97 (ft97 24 rfl)
    · replace h := ifn c11 h
      refine rn_if_ne_f (ft97 9 rfl) c11 ?_
      refine rn_iconst (v := (0 : Int32)) (ft97 10 rfl) (by decide) ?_
      cases h
      exact rn_iretI pr97 (ft97 11 rfl)
/-- NineWheel.noRule(I)Z -/
theorem ft98 : ∀ (i : Nat) {q : Nat × XI}, cd98[i]? = some q → fetch 98 q.1 = some q.2 := ft_of (by decide +kernel)
theorem pr98 : pRt 98 = some .boolean := rfl
def f98 (v0 : Nat) (v1 : Int32) (w : Wd) : Option (Int32 × Wd) :=
  ob (getI w 10 v0 6) (fun x1 => ob (f0 v1 (0 : Int32) (x1 - (1 : Int32)) w) (fun p3 => (if ¬ p3.1 = 0 then some ((1 : Int32), p3.2)
    else ob (getR p3.2 10 v0 4) (fun x5 => ob (alen p3.2 x5) (fun x7 => (if v1 < x7 then some ((0 : Int32), p3.2)
      else some ((1 : Int32), p3.2)))))))
set_option maxRecDepth 10000 in
theorem r98 {S : Sc} (v0 : Nat) (v1 : Int32) (w : Wd) (o : (Int32 × Wd)) (h : f98 v0 v1 w = some o) : Rn S 98 0 [some (.ref v0), some (.int v1)] [] w (some (.int o.1), o.2) := by
  unfold f98 at h
  refine rn_iload_n (ft98 0 rfl) rfl ?_
  refine rn_iconst (v := (0 : Int32)) (ft98 1 rfl) (by decide) ?_
  refine rn_aload_n (ft98 2 rfl) rfl ?_
  obtain ⟨x1, q2, h⟩ := ob_some h
  refine rn_getI (ft98 3 rfl) (by decide) (by decide) q2 ?_
  refine rn_iconst (v := (1 : Int32)) (ft98 4 rfl) (by decide) ?_
  refine rn_isub (ft98 5 rfl) ?_
  obtain ⟨p3, q4, h⟩ := ob_some h
  refine rn_callS (as := [.int v1, .int (0 : Int32), .int (x1 - (1 : Int32))]) (r := []) (v := (some (.int p3.1))) (w1 := p3.2) (ft98 6 rfl) (by decide +kernel) rfl (Nat.le_of_ble_eq_true rfl) (Nat.le_of_ble_eq_true rfl) (r0 v1 (0 : Int32) (x1 - (1 : Int32)) w _ q4) ?_
  by_cases c10 : ¬ p3.1 = 0
  · replace h := ifp c10 h
    refine rn_if_ne_t (ft98 7 rfl) c10 ?_
    refine rn_iconst (v := (1 : Int32)) (ft98 13 rfl) (by decide) ?_
    refine rn_goto (ft98 14 rfl) ?_
    cases h
    exact rn_iretZ pr98 (by decide) (ft98 16 rfl)
  · replace h := ifn c10 h
    refine rn_if_ne_f (ft98 7 rfl) c10 ?_
    refine rn_iload_n (ft98 8 rfl) rfl ?_
    refine rn_aload_n (ft98 9 rfl) rfl ?_
    obtain ⟨x5, q6, h⟩ := ob_some h
    refine rn_getR (ft98 10 rfl) q6 ?_
    obtain ⟨x7, q8, h⟩ := ob_some h
    refine rn_alen (ft98 11 rfl) q8 ?_
    by_cases c9 : v1 < x7
    · replace h := ifp c9 h
      refine rn_icmp_lt_t (ft98 12 rfl) c9 ?_
      refine rn_iconst (v := (0 : Int32)) (ft98 15 rfl) (by decide) ?_
      cases h
      exact rn_iretZ pr98 (by decide) (ft98 16 rfl)
    · replace h := ifn c9 h
      refine rn_icmp_lt_f (ft98 12 rfl) c9 ?_
      refine rn_iconst (v := (1 : Int32)) (ft98 13 rfl) (by decide) ?_
      refine rn_goto (ft98 14 rfl) ?_
      cases h
      exact rn_iretZ pr98 (by decide) (ft98 16 rfl)
/-- NineWheel$Counting.begin(LNineWheel$Rule;I)V -/
theorem ft99 : ∀ (i : Nat) {q : Nat × XI}, cd99[i]? = some q → fetch 99 q.1 = some q.2 := ft_of (by decide +kernel)
theorem pr99 : pRt 99 = none := rfl
def f99 (n : Nat) (v0 : Nat) (v1 : Nat) (v2 : Int32) (w : Wd) : Option Wd :=
  ob (putR w 0 v0 2 v1) (fun w1 => ob (putI w1 0 v0 3 v2) (fun w3 => ob (putZ w3 0 v0 4 (0 : Int32)) (fun w5 => ob (getR w5 0 v0 5) (fun x7 => ob (f14 n x7 (0 : Int32) w5) (fun p9 => some p9)))))
set_option maxRecDepth 10000 in
theorem r99 {S : Sc} (n : Nat) (v0 : Nat) (v1 : Nat) (v2 : Int32) (w : Wd) (o : Wd) (h : f99 n v0 v1 v2 w = some o) : Rn S 99 0 [some (.ref v0), some (.ref v1), some (.int v2)] [] w (none, o) := by
  unfold f99 at h
  refine rn_aload_n (ft99 0 rfl) rfl ?_
  refine rn_aload_n (ft99 1 rfl) rfl ?_
  obtain ⟨w1, q2, h⟩ := ob_some h
  refine rn_putR (ft99 2 rfl) q2 ?_
  refine rn_aload_n (ft99 3 rfl) rfl ?_
  refine rn_iload_n (ft99 4 rfl) rfl ?_
  obtain ⟨w3, q4, h⟩ := ob_some h
  refine rn_putI (ft99 5 rfl) q4 ?_
  refine rn_aload_n (ft99 6 rfl) rfl ?_
  refine rn_iconst (v := (0 : Int32)) (ft99 7 rfl) (by decide) ?_
  obtain ⟨w5, q6, h⟩ := ob_some h
  refine rn_putZ (ft99 8 rfl) q6 ?_
  refine rn_aload_n (ft99 9 rfl) rfl ?_
  obtain ⟨x7, q8, h⟩ := ob_some h
  refine rn_getR (ft99 10 rfl) q8 ?_
  refine rn_iconst (v := (0 : Int32)) (ft99 11 rfl) (by decide) ?_
  obtain ⟨p9, q10, h⟩ := ob_some h
  refine rn_callS (as := [.ref x7, .int (0 : Int32)]) (r := []) (v := none) (w1 := p9) (ft99 12 rfl) (by decide +kernel) rfl (Nat.le_of_ble_eq_true rfl) (Nat.le_of_ble_eq_true rfl) (r14 n x7 (0 : Int32) w5 _ q10) ?_
  cases h
  exact rn_vret pr99 (ft99 13 rfl)
/-- NineWheel$Counting.pressAlike(I)V -/
theorem ft100 : ∀ (i : Nat) {q : Nat × XI}, cd100[i]? = some q → fetch 100 q.1 = some q.2 := ft_of (by decide +kernel)
theorem pr100 : pRt 100 = none := rfl
def f100_H2 (n : Nat)  (K2 : Wd → Option Wd) : Nat → Nat → Int32 → Int32 → Wd → Option Wd
  | 0, _, _, _, _ => none
  | k + 1, v0, v1, v2, w =>
    (if (6 : Int32) ≤ v2 then K2 w
      else ob (getI w 0 v0 3) (fun x1 => ob (f16 x1 v2 w) (fun p3 => (if p3.1 = 0 then (fun (v0 : Nat) (v1 : Int32) (v2 : Int32) w => f100_H2 n  K2 k v0 v1 v2 w) v0 v1 (v2 + (1 : Int32)) p3.2
        else ob (getR p3.2 0 v0 6) (fun x5 => ob (astI p3.2 x5 v2 v1) (fun w7 => (fun (v0 : Nat) (v1 : Int32) (v2 : Int32) w => f100_H2 n  K2 k v0 v1 v2 w) v0 v1 (v2 + (1 : Int32)) w7))))))
set_option maxRecDepth 10000 in
theorem rf100_H2 {S : Sc} (n : Nat)  (K2 : Wd → Option Wd)  (hK2 : ∀  (w : Wd) (o : Wd), K2 w = some o → Rn S 100 32 [none, none, none] [] w (none, o)) : ∀ (k : Nat) (v0 : Nat) (v1 : Int32) (v2 : Int32) (w : Wd) (o : Wd), f100_H2 n  K2 k v0 v1 v2 w = some o → Rn S 100 2 [some (.ref v0), some (.int v1), some (.int v2)] [] w (none, o) := by
  intro k
  induction k with
  | zero =>
    intro v0 v1 v2 w o h
    exact nomatch h
  | succ k ih =>
    intro v0 v1 v2 w o h
    have hrec2 : ∀ (y0 : Nat) (y1 : Int32) (y2 : Int32) (w : Wd) (o : Wd), (fun (v0 : Nat) (v1 : Int32) (v2 : Int32) w => f100_H2 n  K2 k v0 v1 v2 w) y0 y1 y2 w = some o → Rn S 100 2 [some (.ref y0), some (.int y1), some (.int y2)] [] w (none, o) := fun y0 y1 y2 w o h => ih y0 y1 y2 w o h
    unfold f100_H2 at h
    refine rn_iload_n (ft100 2 rfl) rfl ?_
    refine rn_bipush (v := (6 : Int32)) (ft100 3 rfl) (by decide) ?_
    by_cases c10 : (6 : Int32) ≤ v2
    · replace h := ifp c10 h
      refine rn_icmp_ge_t (ft100 4 rfl) c10 ?_
      exact rn_forget (ls := [none, none, none]) trivial (hK2 w _ h)
    · replace h := ifn c10 h
      refine rn_icmp_ge_f (ft100 4 rfl) c10 ?_
      refine rn_aload_n (ft100 5 rfl) rfl ?_
      obtain ⟨x1, q2, h⟩ := ob_some h
      refine rn_getI (ft100 6 rfl) (by decide) (by decide) q2 ?_
      refine rn_iload_n (ft100 7 rfl) rfl ?_
      obtain ⟨p3, q4, h⟩ := ob_some h
      refine rn_callS (as := [.int x1, .int v2]) (r := []) (v := (some (.int p3.1))) (w1 := p3.2) (ft100 8 rfl) (by decide +kernel) rfl (Nat.le_of_ble_eq_true rfl) (Nat.le_of_ble_eq_true rfl) (r16 x1 v2 w _ q4) ?_
      by_cases c9 : p3.1 = 0
      · replace h := ifp c9 h
        refine rn_if_eq_t (ft100 9 rfl) c9 ?_
        refine rn_iinc (u := 1) (ls' := [some (.ref v0), some (.int v1), some (.int (v2 + (1 : Int32)))]) (ft100 15 rfl) rfl (by decide) rfl ?_
        refine rn_goto (ft100 16 rfl) ?_
        exact rn_forget (ls := [some (.ref v0), some (.int v1), some (.int (v2 + (1 : Int32)))]) (And.intro rfl (And.intro rfl (And.intro rfl trivial))) (hrec2 v0 v1 (v2 + (1 : Int32)) p3.2 _ h)
      · replace h := ifn c9 h
        refine rn_if_eq_f (ft100 9 rfl) c9 ?_
        refine rn_aload_n (ft100 10 rfl) rfl ?_
        obtain ⟨x5, q6, h⟩ := ob_some h
        refine rn_getR (ft100 11 rfl) q6 ?_
        refine rn_iload_n (ft100 12 rfl) rfl ?_
        refine rn_iload_n (ft100 13 rfl) rfl ?_
        obtain ⟨w7, q8, h⟩ := ob_some h
        refine rn_iastore (ft100 14 rfl) q8 ?_
        refine rn_iinc (u := 1) (ls' := [some (.ref v0), some (.int v1), some (.int (v2 + (1 : Int32)))]) (ft100 15 rfl) rfl (by decide) rfl ?_
        refine rn_goto (ft100 16 rfl) ?_
        exact rn_forget (ls := [some (.ref v0), some (.int v1), some (.int (v2 + (1 : Int32)))]) (And.intro rfl (And.intro rfl (And.intro rfl trivial))) (hrec2 v0 v1 (v2 + (1 : Int32)) w7 _ h)
def f100 (n : Nat) (v0 : Nat) (v1 : Int32) (w : Wd) : Option Wd :=
  f100_H2 n  (fun  (w11 : Wd) => some w11) n v0 v1 (0 : Int32) w
set_option maxRecDepth 10000 in
theorem r100 {S : Sc} (n : Nat) (v0 : Nat) (v1 : Int32) (w : Wd) (o : Wd) (h : f100 n v0 v1 w = some o) : Rn S 100 0 [some (.ref v0), some (.int v1), none] [] w (none, o) := by
  unfold f100 at h
  refine rn_iconst (v := (0 : Int32)) (ft100 0 rfl) (by decide) ?_
  refine rn_istore_n (ls' := [some (.ref v0), some (.int v1), some (.int (0 : Int32))]) (ft100 1 rfl) rfl ?_
  refine rn_forget (ls := [some (.ref v0), some (.int v1), some (.int (0 : Int32))]) (And.intro rfl (And.intro rfl (And.intro rfl trivial))) (rf100_H2 n  _  (fun  w11 o h => ?_) n v0 v1 (0 : Int32) w _ h)
  cases h
  exact rn_vret pr100 (ft100 17 rfl)
/-- NineWheel$Tally.mean()I -/
theorem ft101 : ∀ (i : Nat) {q : Nat × XI}, cd101[i]? = some q → fetch 101 q.1 = some q.2 := ft_of (by decide +kernel)
theorem pr101 : pRt 101 = some .int := rfl
def f101_J45  (v1 : Int32) (s0 : Int32) (s1 : Int32) (w : Wd) : Option (Int32 × Wd) :=
  (if ¬ v1 = 0 then ob (f28 ((s0 + s1) / v1) w) (fun p11 => some (p11.1, p11.2)) else none)
set_option maxRecDepth 10000 in
theorem rf101_J45 {S : Sc}  (v1 : Int32) (s0 : Int32) (s1 : Int32) (w : Wd) (o : (Int32 × Wd))  (h : f101_J45  v1 s0 s1 w = some o) : Rn S 101 45 [none, some (.int v1)] [.int s1, .int s0] w (some (.int o.1), o.2) := by
  unfold f101_J45 at h
  refine rn_iadd (ft101 25 rfl) ?_
  refine rn_iload_n (ft101 26 rfl) rfl ?_
  obtain ⟨g13, h⟩ := ifg h
  refine rn_idiv (ft101 27 rfl) g13 ?_
  obtain ⟨p11, q12, h⟩ := ob_some h
  refine rn_callS (as := [.int ((s0 + s1) / v1)]) (r := []) (v := (some (.int p11.1))) (w1 := p11.2) (ft101 28 rfl) (by decide +kernel) rfl (Nat.le_of_ble_eq_true rfl) (Nat.le_of_ble_eq_true rfl) (r28 ((s0 + s1) / v1) w _ q12) ?_
  cases h
  exact rn_iretI pr101 (ft101 29 rfl)
def f101 (v0 : Nat) (w : Wd) : Option (Int32 × Wd) :=
  ob (getI w 8 v0 0) (fun x1 => ob (getI w 8 v0 3) (fun x3 => (if x3 = 0 then some ((0 : Int32), w)
    else (if 0 < ((2 : Int32) * x1) then ob (getI w 8 v0 3) (fun x5 => ob (getI w 8 v0 3) (fun x7 => (if x7 ≤ 0 then ob (getI w 8 v0 0) (fun x9 => f101_J45  ((2 : Int32) * x1) ((2 : Int32) * x5) (-x9) w)
        else ob (getI w 8 v0 0) (fun x14 => f101_J45  ((2 : Int32) * x1) ((2 : Int32) * x5) x14 w))))
      else some ((0 : Int32), w)))))
set_option maxRecDepth 10000 in
theorem r101 {S : Sc} (v0 : Nat) (w : Wd) (o : (Int32 × Wd)) (h : f101 v0 w = some o) : Rn S 101 0 [some (.ref v0), none] [] w (some (.int o.1), o.2) := by
  unfold f101 at h
  refine rn_iconst (v := (2 : Int32)) (ft101 0 rfl) (by decide) ?_
  refine rn_aload_n (ft101 1 rfl) rfl ?_
  obtain ⟨x1, q2, h⟩ := ob_some h
  refine rn_getI (ft101 2 rfl) (by decide) (by decide) q2 ?_
  refine rn_imul (ft101 3 rfl) ?_
  refine rn_istore_n (ls' := [some (.ref v0), some (.int ((2 : Int32) * x1))]) (ft101 4 rfl) rfl ?_
  refine rn_aload_n (ft101 5 rfl) rfl ?_
  obtain ⟨x3, q4, h⟩ := ob_some h
  refine rn_getI (ft101 6 rfl) (by decide) (by decide) q4 ?_
  by_cases c18 : x3 = 0
  · replace h := ifp c18 h
    refine rn_if_eq_t (ft101 7 rfl) c18 ?_
    refine rn_iconst (v := (0 : Int32)) (ft101 10 rfl) (by decide) ?_
    cases h
    exact rn_iretI pr101 (ft101 11 rfl)
  · replace h := ifn c18 h
    refine rn_if_eq_f (ft101 7 rfl) c18 ?_
    refine rn_iload_n (ft101 8 rfl) rfl ?_
    by_cases c17 : 0 < ((2 : Int32) * x1)
    · replace h := ifp c17 h
      refine rn_if_gt_t (ft101 9 rfl) c17 ?_
      refine rn_iconst (v := (2 : Int32)) (ft101 12 rfl) (by decide) ?_
      refine rn_aload_n (ft101 13 rfl) rfl ?_
      obtain ⟨x5, q6, h⟩ := ob_some h
      refine rn_getI (ft101 14 rfl) (by decide) (by decide) q6 ?_
      refine rn_imul (ft101 15 rfl) ?_
      refine rn_aload_n (ft101 16 rfl) rfl ?_
      obtain ⟨x7, q8, h⟩ := ob_some h
      refine rn_getI (ft101 17 rfl) (by decide) (by decide) q8 ?_
      by_cases c16 : x7 ≤ 0
      · replace h := ifp c16 h
        refine rn_if_le_t (ft101 18 rfl) c16 ?_
        refine rn_aload_n (ft101 22 rfl) rfl ?_
        obtain ⟨x9, q10, h⟩ := ob_some h
        refine rn_getI (ft101 23 rfl) (by decide) (by decide) q10 ?_
        refine rn_ineg (ft101 24 rfl) ?_
        exact rn_forget (ls := [none, some (.int ((2 : Int32) * x1))]) (And.intro rfl trivial) (rf101_J45  ((2 : Int32) * x1) ((2 : Int32) * x5) (-x9) w _  h)
      · replace h := ifn c16 h
        refine rn_if_le_f (ft101 18 rfl) c16 ?_
        refine rn_aload_n (ft101 19 rfl) rfl ?_
        obtain ⟨x14, q15, h⟩ := ob_some h
        refine rn_getI (ft101 20 rfl) (by decide) (by decide) q15 ?_
        refine rn_goto (ft101 21 rfl) ?_
        exact rn_forget (ls := [none, some (.int ((2 : Int32) * x1))]) (And.intro rfl trivial) (rf101_J45  ((2 : Int32) * x1) ((2 : Int32) * x5) x14 w _  h)
    · replace h := ifn c17 h
      refine rn_if_gt_f (ft101 9 rfl) c17 ?_
      refine rn_iconst (v := (0 : Int32)) (ft101 10 rfl) (by decide) ?_
      cases h
      exact rn_iretI pr101 (ft101 11 rfl)
/-- NineWheel$Sea.period()I -/
theorem ft102 : ∀ (i : Nat) {q : Nat × XI}, cd102[i]? = some q → fetch 102 q.1 = some q.2 := ft_of (by decide +kernel)
theorem pr102 : pRt 102 = some .int := rfl
def f102 (v0 : Nat) (w : Wd) : Option (Int32 × Wd) :=
  ob (getI w 6 v0 6) (fun x1 => ob (getI w 6 v0 3) (fun x3 => some (((if (1 : Int32) < x1 then x1 else (1 : Int32)) * (if (1 : Int32) < x3 then x3 else (1 : Int32))), w)))
set_option maxRecDepth 10000 in
theorem r102 {S : Sc} (v0 : Nat) (w : Wd) (o : (Int32 × Wd)) (h : f102 v0 w = some o) : Rn S 102 0 [some (.ref v0)] [] w (some (.int o.1), o.2) := by
  unfold f102 at h
  refine rn_iconst (v := (1 : Int32)) (ft102 0 rfl) (by decide) ?_
  refine rn_aload_n (ft102 1 rfl) rfl ?_
  obtain ⟨x1, q2, h⟩ := ob_some h
  refine rn_getI (ft102 2 rfl) (by decide) (by decide) q2 ?_
  refine rn_max (ft102 3 rfl) (Nat.le_of_ble_eq_true rfl) ?_
  refine rn_iconst (v := (1 : Int32)) (ft102 4 rfl) (by decide) ?_
  refine rn_aload_n (ft102 5 rfl) rfl ?_
  obtain ⟨x3, q4, h⟩ := ob_some h
  refine rn_getI (ft102 6 rfl) (by decide) (by decide) q4 ?_
  refine rn_max (ft102 7 rfl) (Nat.le_of_ble_eq_true rfl) ?_
  refine rn_imul (ft102 8 rfl) ?_
  cases h
  exact rn_iretI pr102 (ft102 9 rfl)
/-- NineWheel$Journey.firstRound(I)I -/
theorem ft103 : ∀ (i : Nat) {q : Nat × XI}, cd103[i]? = some q → fetch 103 q.1 = some q.2 := ft_of (by decide +kernel)
theorem pr103 : pRt 103 = some .int := rfl
def f103_H6 (n : Nat)  (K4 : Wd → Option (Int32 × Wd)) : Nat → Nat → Int32 → Int32 → Wd → Option (Int32 × Wd)
  | 0, _, _, _, _ => none
  | k + 1, v0, v1, v2, w =>
    ob (getI w 4 v0 7) (fun x1 => (if x1 < v2 then K4 w
      else (if (400 : Int32) < v2 then K4 w
        else ob (getR w 4 v0 5) (fun x3 => ob (aldI w x3 v2) (fun x5 => ob (getR w 4 v0 5) (fun x7 => ob (aldI w x7 (v2 - (if (0 : Int32) < v1 then v1 else (0 : Int32)))) (fun x9 => (if ¬ x5 = x9 then (fun (v0 : Nat) (v1 : Int32) (v2 : Int32) w => f103_H6 n  K4 k v0 v1 v2 w) v0 v1 (v2 + (1 : Int32)) w
          else some (v2, w)))))))))
set_option maxRecDepth 10000 in
theorem rf103_H6 {S : Sc} (n : Nat)  (K4 : Wd → Option (Int32 × Wd))  (hK4 : ∀  (w : Wd) (o : (Int32 × Wd)), K4 w = some o → Rn S 103 50 [none, none, none] [] w (some (.int o.1), o.2)) : ∀ (k : Nat) (v0 : Nat) (v1 : Int32) (v2 : Int32) (w : Wd) (o : (Int32 × Wd)), f103_H6 n  K4 k v0 v1 v2 w = some o → Rn S 103 6 [some (.ref v0), some (.int v1), some (.int v2)] [] w (some (.int o.1), o.2) := by
  intro k
  induction k with
  | zero =>
    intro v0 v1 v2 w o h
    exact nomatch h
  | succ k ih =>
    intro v0 v1 v2 w o h
    have hrec4 : ∀ (y0 : Nat) (y1 : Int32) (y2 : Int32) (w : Wd) (o : (Int32 × Wd)), (fun (v0 : Nat) (v1 : Int32) (v2 : Int32) w => f103_H6 n  K4 k v0 v1 v2 w) y0 y1 y2 w = some o → Rn S 103 6 [some (.ref y0), some (.int y1), some (.int y2)] [] w (some (.int o.1), o.2) := fun y0 y1 y2 w o h => ih y0 y1 y2 w o h
    unfold f103_H6 at h
    refine rn_iload_n (ft103 4 rfl) rfl ?_
    refine rn_aload_n (ft103 5 rfl) rfl ?_
    obtain ⟨x1, q2, h⟩ := ob_some h
    refine rn_getI (ft103 6 rfl) (by decide) (by decide) q2 ?_
    by_cases c13 : x1 < v2
    · replace h := ifp c13 h
      refine rn_icmp_gt_t (ft103 7 rfl) c13 ?_
      exact rn_forget (ls := [none, none, none]) trivial (hK4 w _ h)
    · replace h := ifn c13 h
      refine rn_icmp_gt_f (ft103 7 rfl) c13 ?_
      refine rn_iload_n (ft103 8 rfl) rfl ?_
      refine rn_sipush (v := (400 : Int32)) (ft103 9 rfl) (by decide) ?_
      by_cases c12 : (400 : Int32) < v2
      · replace h := ifp c12 h
        refine rn_icmp_gt_t (ft103 10 rfl) c12 ?_
        exact rn_forget (ls := [none, none, none]) trivial (hK4 w _ h)
      · replace h := ifn c12 h
        refine rn_icmp_gt_f (ft103 10 rfl) c12 ?_
        refine rn_aload_n (ft103 11 rfl) rfl ?_
        obtain ⟨x3, q4, h⟩ := ob_some h
        refine rn_getR (ft103 12 rfl) q4 ?_
        refine rn_iload_n (ft103 13 rfl) rfl ?_
        obtain ⟨x5, q6, h⟩ := ob_some h
        refine rn_iaload (ft103 14 rfl) q6 ?_
        refine rn_aload_n (ft103 15 rfl) rfl ?_
        obtain ⟨x7, q8, h⟩ := ob_some h
        refine rn_getR (ft103 16 rfl) q8 ?_
        refine rn_iload_n (ft103 17 rfl) rfl ?_
        refine rn_iconst (v := (0 : Int32)) (ft103 18 rfl) (by decide) ?_
        refine rn_iload_n (ft103 19 rfl) rfl ?_
        refine rn_max (ft103 20 rfl) (Nat.le_of_ble_eq_true rfl) ?_
        refine rn_isub (ft103 21 rfl) ?_
        obtain ⟨x9, q10, h⟩ := ob_some h
        refine rn_iaload (ft103 22 rfl) q10 ?_
        by_cases c11 : ¬ x5 = x9
        · replace h := ifp c11 h
          refine rn_icmp_ne_t (ft103 23 rfl) c11 ?_
          refine rn_iinc (u := 1) (ls' := [some (.ref v0), some (.int v1), some (.int (v2 + (1 : Int32)))]) (ft103 26 rfl) rfl (by decide) rfl ?_
          refine rn_goto (ft103 27 rfl) ?_
          exact rn_forget (ls := [some (.ref v0), some (.int v1), some (.int (v2 + (1 : Int32)))]) (And.intro rfl (And.intro rfl (And.intro rfl trivial))) (hrec4 v0 v1 (v2 + (1 : Int32)) w _ h)
        · replace h := ifn c11 h
          refine rn_icmp_ne_f (ft103 23 rfl) c11 ?_
          refine rn_iload_n (ft103 24 rfl) rfl ?_
          cases h
          exact rn_iretI pr103 (ft103 25 rfl)
def f103 (n : Nat) (v0 : Nat) (v1 : Int32) (w : Wd) : Option (Int32 × Wd) :=
  f103_H6 n  (fun  (w14 : Wd) => some ((-1 : Int32), w14)) n v0 v1 (if (0 : Int32) < v1 then v1 else (0 : Int32)) w
set_option maxRecDepth 10000 in
theorem r103 {S : Sc} (n : Nat) (v0 : Nat) (v1 : Int32) (w : Wd) (o : (Int32 × Wd)) (h : f103 n v0 v1 w = some o) : Rn S 103 0 [some (.ref v0), some (.int v1), none] [] w (some (.int o.1), o.2) := by
  unfold f103 at h
  refine rn_iconst (v := (0 : Int32)) (ft103 0 rfl) (by decide) ?_
  refine rn_iload_n (ft103 1 rfl) rfl ?_
  refine rn_max (ft103 2 rfl) (Nat.le_of_ble_eq_true rfl) ?_
  refine rn_istore_n (ls' := [some (.ref v0), some (.int v1), some (.int (if (0 : Int32) < v1 then v1 else (0 : Int32)))]) (ft103 3 rfl) rfl ?_
  refine rn_forget (ls := [some (.ref v0), some (.int v1), some (.int (if (0 : Int32) < v1 then v1 else (0 : Int32)))]) (And.intro rfl (And.intro rfl (And.intro rfl trivial))) (rf103_H6 n  _  (fun  w14 o h => ?_) n v0 v1 (if (0 : Int32) < v1 then v1 else (0 : Int32)) w _ h)
  refine rn_iconst (v := (-1 : Int32)) (ft103 28 rfl) (by decide) ?_
  cases h
  exact rn_iretI pr103 (ft103 29 rfl)
/-- NineWheel$Journey.placeAt(I)I -/
theorem ft104 : ∀ (i : Nat) {q : Nat × XI}, cd104[i]? = some q → fetch 104 q.1 = some q.2 := ft_of (by decide +kernel)
theorem pr104 : pRt 104 = some .int := rfl
def f104 (v0 : Nat) (v1 : Int32) (w : Wd) : Option (Int32 × Wd) :=
  ob (f0 v1 (0 : Int32) (400 : Int32) w) (fun p1 => (if p1.1 = 0 then ob (getR p1.2 4 v0 5) (fun x3 => ob (aldI p1.2 x3 v1) (fun x5 => some ((x5 >>> ((4 : Int32) &&& 31)), p1.2)))
    else some ((0 : Int32), p1.2)))
set_option maxRecDepth 10000 in
theorem r104 {S : Sc} (v0 : Nat) (v1 : Int32) (w : Wd) (o : (Int32 × Wd)) (h : f104 v0 v1 w = some o) : Rn S 104 0 [some (.ref v0), some (.int v1)] [] w (some (.int o.1), o.2) := by
  unfold f104 at h
  refine rn_iload_n (ft104 0 rfl) rfl ?_
  refine rn_iconst (v := (0 : Int32)) (ft104 1 rfl) (by decide) ?_
  refine rn_sipush (v := (400 : Int32)) (ft104 2 rfl) (by decide) ?_
  obtain ⟨p1, q2, h⟩ := ob_some h
  refine rn_callS (as := [.int v1, .int (0 : Int32), .int (400 : Int32)]) (r := []) (v := (some (.int p1.1))) (w1 := p1.2) (ft104 3 rfl) (by decide +kernel) rfl (Nat.le_of_ble_eq_true rfl) (Nat.le_of_ble_eq_true rfl) (r0 v1 (0 : Int32) (400 : Int32) w _ q2) ?_
  by_cases c7 : p1.1 = 0
  · replace h := ifp c7 h
    refine rn_if_eq_t (ft104 4 rfl) c7 ?_
    refine rn_aload_n (ft104 7 rfl) rfl ?_
    obtain ⟨x3, q4, h⟩ := ob_some h
    refine rn_getR (ft104 8 rfl) q4 ?_
    refine rn_iload_n (ft104 9 rfl) rfl ?_
    obtain ⟨x5, q6, h⟩ := ob_some h
    refine rn_iaload (ft104 10 rfl) q6 ?_
    refine rn_iconst (v := (4 : Int32)) (ft104 11 rfl) (by decide) ?_
    refine rn_ishr (ft104 12 rfl) ?_
    cases h
    exact rn_iretI pr104 (ft104 13 rfl)
  · replace h := ifn c7 h
    refine rn_if_eq_f (ft104 4 rfl) c7 ?_
    refine rn_iconst (v := (0 : Int32)) (ft104 5 rfl) (by decide) ?_
    refine rn_goto (ft104 6 rfl) ?_
    cases h
    exact rn_iretI pr104 (ft104 13 rfl)
/-- NineWheel$Held.write(I)V -/
theorem ft105 : ∀ (i : Nat) {q : Nat × XI}, cd105[i]? = some q → fetch 105 q.1 = some q.2 := ft_of (by decide +kernel)
theorem pr105 : pRt 105 = none := rfl
def f105 (v0 : Nat) (v1 : Int32) (w : Wd) : Option Wd :=
  ob (getI w 3 v0 3) (fun x1 => ob (f0 x1 (0 : Int32) (39 : Int32) w) (fun p3 => (if p3.1 = 0 then ob (getR p3.2 3 v0 2) (fun x5 => ob (getI p3.2 3 v0 3) (fun x7 => ob (astI p3.2 x5 x7 v1) (fun w9 => ob (getI w9 3 v0 3) (fun x11 => ob (putI w9 3 v0 3 (x11 + (1 : Int32))) (fun w13 => some w13)))))
    else some p3.2)))
set_option maxRecDepth 10000 in
theorem r105 {S : Sc} (v0 : Nat) (v1 : Int32) (w : Wd) (o : Wd) (h : f105 v0 v1 w = some o) : Rn S 105 0 [some (.ref v0), some (.int v1)] [] w (none, o) := by
  unfold f105 at h
  refine rn_aload_n (ft105 0 rfl) rfl ?_
  obtain ⟨x1, q2, h⟩ := ob_some h
  refine rn_getI (ft105 1 rfl) (by decide) (by decide) q2 ?_
  refine rn_iconst (v := (0 : Int32)) (ft105 2 rfl) (by decide) ?_
  refine rn_bipush (v := (39 : Int32)) (ft105 3 rfl) (by decide) ?_
  obtain ⟨p3, q4, h⟩ := ob_some h
  refine rn_callS (as := [.int x1, .int (0 : Int32), .int (39 : Int32)]) (r := []) (v := (some (.int p3.1))) (w1 := p3.2) (ft105 4 rfl) (by decide +kernel) rfl (Nat.le_of_ble_eq_true rfl) (Nat.le_of_ble_eq_true rfl) (r0 x1 (0 : Int32) (39 : Int32) w _ q4) ?_
  by_cases c15 : p3.1 = 0
  · replace h := ifp c15 h
    refine rn_if_eq_t (ft105 5 rfl) c15 ?_
    refine rn_aload_n (ft105 7 rfl) rfl ?_
    obtain ⟨x5, q6, h⟩ := ob_some h
    refine rn_getR (ft105 8 rfl) q6 ?_
    refine rn_aload_n (ft105 9 rfl) rfl ?_
    obtain ⟨x7, q8, h⟩ := ob_some h
    refine rn_getI (ft105 10 rfl) (by decide) (by decide) q8 ?_
    refine rn_iload_n (ft105 11 rfl) rfl ?_
    obtain ⟨w9, q10, h⟩ := ob_some h
    refine rn_iastore (ft105 12 rfl) q10 ?_
    refine rn_aload_n (ft105 13 rfl) rfl ?_
    refine rn_dup (ft105 14 rfl) rfl ?_
    obtain ⟨x11, q12, h⟩ := ob_some h
    refine rn_getI (ft105 15 rfl) (by decide) (by decide) q12 ?_
    refine rn_iconst (v := (1 : Int32)) (ft105 16 rfl) (by decide) ?_
    refine rn_iadd (ft105 17 rfl) ?_
    obtain ⟨w13, q14, h⟩ := ob_some h
    refine rn_putI (ft105 18 rfl) q14 ?_
    cases h
    exact rn_vret pr105 (ft105 19 rfl)
  · replace h := ifn c15 h
    refine rn_if_eq_f (ft105 5 rfl) c15 ?_
    cases h
    exact rn_vret pr105 (ft105 6 rfl)
