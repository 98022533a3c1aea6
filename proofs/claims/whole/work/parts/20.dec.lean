/-! THE METHODS AS FUNCTIONS, 3 -/
/-- NineWheelModel.far(II)I -/
theorem ft48 : ∀ (i : Nat) {q : Nat × XI}, cd48[i]? = some q → fetch 48 q.1 = some q.2 := ft_of (by decide +kernel)
theorem pr48 : pRt 48 = some .int := rfl
def f48_J41  (v2 : Int32) (s0 : Int32) (w : Wd) : Option (Int32 × Wd) :=
  (if v2 ≤ s0 then some (s0, w)
    else some (v2, w))
set_option maxRecDepth 10000 in
theorem rf48_J41 {S : Sc}  (v2 : Int32) (s0 : Int32) (w : Wd) (o : (Int32 × Wd))  (h : f48_J41  v2 s0 w = some o) : Rn S 48 41 [none, none, some (.int v2), none] [.int s0] w (some (.int o.1), o.2) := by
  unfold f48_J41 at h
  refine rn_istore_n (ls' := [none, none, some (.int v2), some (.int s0)]) (ft48 29 rfl) rfl ?_
  refine rn_iload_n (ft48 30 rfl) rfl ?_
  refine rn_iload_n (ft48 31 rfl) rfl ?_
  by_cases c1 : v2 ≤ s0
  · replace h := ifp c1 h
    refine rn_icmp_le_t (ft48 32 rfl) c1 ?_
    refine rn_iload_n (ft48 35 rfl) rfl ?_
    cases h
    exact rn_iretI pr48 (ft48 36 rfl)
  · replace h := ifn c1 h
    refine rn_icmp_le_f (ft48 32 rfl) c1 ?_
    refine rn_iload_n (ft48 33 rfl) rfl ?_
    refine rn_goto (ft48 34 rfl) ?_
    cases h
    exact rn_iretI pr48 (ft48 36 rfl)
def f48_J30  (v3 : Int32) (s0 : Int32) (w : Wd) : Option (Int32 × Wd) :=
  (if 0 ≤ v3 then f48_J41  s0 v3 w
    else f48_J41  s0 (-v3) w)
set_option maxRecDepth 10000 in
theorem rf48_J30 {S : Sc}  (v3 : Int32) (s0 : Int32) (w : Wd) (o : (Int32 × Wd))  (h : f48_J30  v3 s0 w = some o) : Rn S 48 30 [none, none, none, some (.int v3)] [.int s0] w (some (.int o.1), o.2) := by
  unfold f48_J30 at h
  refine rn_istore_n (ls' := [none, none, some (.int s0), some (.int v3)]) (ft48 22 rfl) rfl ?_
  refine rn_iload_n (ft48 23 rfl) rfl ?_
  by_cases c2 : 0 ≤ v3
  · replace h := ifp c2 h
    refine rn_if_ge_t (ft48 24 rfl) c2 ?_
    refine rn_iload_n (ft48 28 rfl) rfl ?_
    exact rn_forget (ls := [none, none, some (.int s0), none]) (And.intro rfl trivial) (rf48_J41  s0 v3 w _  h)
  · replace h := ifn c2 h
    refine rn_if_ge_f (ft48 24 rfl) c2 ?_
    refine rn_iload_n (ft48 25 rfl) rfl ?_
    refine rn_ineg (ft48 26 rfl) ?_
    refine rn_goto (ft48 27 rfl) ?_
    exact rn_forget (ls := [none, none, some (.int s0), none]) (And.intro rfl trivial) (rf48_J41  s0 (-v3) w _  h)
def f48 (v0 : Int32) (v1 : Int32) (w : Wd) : Option (Int32 × Wd) :=
  (if 0 ≤ ((v0 / (8 : Int32)) - (v1 / (8 : Int32))) then f48_J30  ((irm v0 (8 : Int32)) - (irm v1 (8 : Int32))) ((v0 / (8 : Int32)) - (v1 / (8 : Int32))) w
    else f48_J30  ((irm v0 (8 : Int32)) - (irm v1 (8 : Int32))) (-((v0 / (8 : Int32)) - (v1 / (8 : Int32)))) w)
set_option maxRecDepth 10000 in
theorem r48 {S : Sc} (v0 : Int32) (v1 : Int32) (w : Wd) (o : (Int32 × Wd)) (h : f48 v0 v1 w = some o) : Rn S 48 0 [some (.int v0), some (.int v1), none, none] [] w (some (.int o.1), o.2) := by
  unfold f48 at h
  refine rn_iload_n (ft48 0 rfl) rfl ?_
  refine rn_bipush (v := (8 : Int32)) (ft48 1 rfl) (by decide) ?_
  refine rn_idiv (ft48 2 rfl) (by decide) ?_
  refine rn_iload_n (ft48 3 rfl) rfl ?_
  refine rn_bipush (v := (8 : Int32)) (ft48 4 rfl) (by decide) ?_
  refine rn_idiv (ft48 5 rfl) (by decide) ?_
  refine rn_isub (ft48 6 rfl) ?_
  refine rn_istore_n (ls' := [some (.int v0), some (.int v1), some (.int ((v0 / (8 : Int32)) - (v1 / (8 : Int32)))), none]) (ft48 7 rfl) rfl ?_
  refine rn_iload_n (ft48 8 rfl) rfl ?_
  refine rn_bipush (v := (8 : Int32)) (ft48 9 rfl) (by decide) ?_
  refine rn_irem (ft48 10 rfl) (by decide) ?_
  refine rn_iload_n (ft48 11 rfl) rfl ?_
  refine rn_bipush (v := (8 : Int32)) (ft48 12 rfl) (by decide) ?_
  refine rn_irem (ft48 13 rfl) (by decide) ?_
  refine rn_isub (ft48 14 rfl) ?_
  refine rn_istore_n (ls' := [some (.int v0), some (.int v1), some (.int ((v0 / (8 : Int32)) - (v1 / (8 : Int32)))), some (.int ((irm v0 (8 : Int32)) - (irm v1 (8 : Int32))))]) (ft48 15 rfl) rfl ?_
  refine rn_iload_n (ft48 16 rfl) rfl ?_
  by_cases c3 : 0 ≤ ((v0 / (8 : Int32)) - (v1 / (8 : Int32)))
  · replace h := ifp c3 h
    refine rn_if_ge_t (ft48 17 rfl) c3 ?_
    refine rn_iload_n (ft48 21 rfl) rfl ?_
    exact rn_forget (ls := [none, none, none, some (.int ((irm v0 (8 : Int32)) - (irm v1 (8 : Int32))))]) (And.intro rfl trivial) (rf48_J30  ((irm v0 (8 : Int32)) - (irm v1 (8 : Int32))) ((v0 / (8 : Int32)) - (v1 / (8 : Int32))) w _  h)
  · replace h := ifn c3 h
    refine rn_if_ge_f (ft48 17 rfl) c3 ?_
    refine rn_iload_n (ft48 18 rfl) rfl ?_
    refine rn_ineg (ft48 19 rfl) ?_
    refine rn_goto (ft48 20 rfl) ?_
    exact rn_forget (ls := [none, none, none, some (.int ((irm v0 (8 : Int32)) - (irm v1 (8 : Int32))))]) (And.intro rfl trivial) (rf48_J30  ((irm v0 (8 : Int32)) - (irm v1 (8 : Int32))) (-((v0 / (8 : Int32)) - (v1 / (8 : Int32)))) w _  h)
/-- NineWheelModel.fault()I -/
theorem ft49 : ∀ (i : Nat) {q : Nat × XI}, cd49[i]? = some q → fetch 49 q.1 = some q.2 := ft_of (by decide +kernel)
theorem pr49 : pRt 49 = some .int := rfl
def f49 (v0 : Nat) (w : Wd) : Option (Int32 × Wd) :=
  ob (getI w 11 v0 16) (fun x1 => some (x1, w))
set_option maxRecDepth 10000 in
theorem r49 {S : Sc} (v0 : Nat) (w : Wd) (o : (Int32 × Wd)) (h : f49 v0 w = some o) : Rn S 49 0 [some (.ref v0)] [] w (some (.int o.1), o.2) := by
  unfold f49 at h
  refine rn_aload_n (ft49 0 rfl) rfl ?_
  obtain ⟨x1, q2, h⟩ := ob_some h
  refine rn_getI (ft49 1 rfl) (by decide) (by decide) q2 ?_
  cases h
  exact rn_iretI pr49 (ft49 2 rfl)
/-- NineWheelModel.allPersons()I -/
theorem ft50 : ∀ (i : Nat) {q : Nat × XI}, cd50[i]? = some q → fetch 50 q.1 = some q.2 := ft_of (by decide +kernel)
theorem pr50 : pRt 50 = some .int := rfl
def f50_H4 (n : Nat)  (K4 : Int32 → Wd → Option (Int32 × Wd)) : Nat → Nat → Int32 → Int32 → Wd → Option (Int32 × Wd)
  | 0, _, _, _, _ => none
  | k + 1, v0, v1, v2, w =>
    ob (getI w 11 v0 6) (fun x1 => (if x1 ≤ v2 then K4 v1 w
      else ob (getR w 11 v0 7) (fun x3 => ob (aldI w x3 v2) (fun x5 => (fun (v0 : Nat) (v1 : Int32) (v2 : Int32) w => f50_H4 n  K4 k v0 v1 v2 w) v0 (v1 + x5) (v2 + (1 : Int32)) w))))
set_option maxRecDepth 10000 in
theorem rf50_H4 {S : Sc} (n : Nat)  (K4 : Int32 → Wd → Option (Int32 × Wd))  (hK4 : ∀ (y1 : Int32) (w : Wd) (o : (Int32 × Wd)), K4 y1 w = some o → Rn S 50 27 [none, some (.int y1), none] [] w (some (.int o.1), o.2)) : ∀ (k : Nat) (v0 : Nat) (v1 : Int32) (v2 : Int32) (w : Wd) (o : (Int32 × Wd)), f50_H4 n  K4 k v0 v1 v2 w = some o → Rn S 50 4 [some (.ref v0), some (.int v1), some (.int v2)] [] w (some (.int o.1), o.2) := by
  intro k
  induction k with
  | zero =>
    intro v0 v1 v2 w o h
    exact nomatch h
  | succ k ih =>
    intro v0 v1 v2 w o h
    have hrec4 : ∀ (y0 : Nat) (y1 : Int32) (y2 : Int32) (w : Wd) (o : (Int32 × Wd)), (fun (v0 : Nat) (v1 : Int32) (v2 : Int32) w => f50_H4 n  K4 k v0 v1 v2 w) y0 y1 y2 w = some o → Rn S 50 4 [some (.ref y0), some (.int y1), some (.int y2)] [] w (some (.int o.1), o.2) := fun y0 y1 y2 w o h => ih y0 y1 y2 w o h
    unfold f50_H4 at h
    refine rn_iload_n (ft50 4 rfl) rfl ?_
    refine rn_aload_n (ft50 5 rfl) rfl ?_
    obtain ⟨x1, q2, h⟩ := ob_some h
    refine rn_getI (ft50 6 rfl) (by decide) (by decide) q2 ?_
    by_cases c7 : x1 ≤ v2
    · replace h := ifp c7 h
      refine rn_icmp_ge_t (ft50 7 rfl) c7 ?_
      exact rn_forget (ls := [none, some (.int v1), none]) (And.intro rfl trivial) (hK4 v1 w _ h)
    · replace h := ifn c7 h
      refine rn_icmp_ge_f (ft50 7 rfl) c7 ?_
      refine rn_iload_n (ft50 8 rfl) rfl ?_
      refine rn_aload_n (ft50 9 rfl) rfl ?_
      obtain ⟨x3, q4, h⟩ := ob_some h
      refine rn_getR (ft50 10 rfl) q4 ?_
      refine rn_iload_n (ft50 11 rfl) rfl ?_
      obtain ⟨x5, q6, h⟩ := ob_some h
      refine rn_iaload (ft50 12 rfl) q6 ?_
      refine rn_iadd (ft50 13 rfl) ?_
      refine rn_istore_n (ls' := [some (.ref v0), some (.int (v1 + x5)), some (.int v2)]) (ft50 14 rfl) rfl ?_
      refine rn_iinc (u := 1) (ls' := [some (.ref v0), some (.int (v1 + x5)), some (.int (v2 + (1 : Int32)))]) (ft50 15 rfl) rfl (by decide) rfl ?_
      refine rn_goto (ft50 16 rfl) ?_
      exact rn_forget (ls := [some (.ref v0), some (.int (v1 + x5)), some (.int (v2 + (1 : Int32)))]) (And.intro rfl (And.intro rfl (And.intro rfl trivial))) (hrec4 v0 (v1 + x5) (v2 + (1 : Int32)) w _ h)
def f50 (n : Nat) (v0 : Nat) (w : Wd) : Option (Int32 × Wd) :=
  f50_H4 n  (fun (e1_8 : Int32) (w8 : Wd) => some (e1_8, w8)) n v0 (0 : Int32) (0 : Int32) w
set_option maxRecDepth 10000 in
theorem r50 {S : Sc} (n : Nat) (v0 : Nat) (w : Wd) (o : (Int32 × Wd)) (h : f50 n v0 w = some o) : Rn S 50 0 [some (.ref v0), none, none] [] w (some (.int o.1), o.2) := by
  unfold f50 at h
  refine rn_iconst (v := (0 : Int32)) (ft50 0 rfl) (by decide) ?_
  refine rn_istore_n (ls' := [some (.ref v0), some (.int (0 : Int32)), none]) (ft50 1 rfl) rfl ?_
  refine rn_iconst (v := (0 : Int32)) (ft50 2 rfl) (by decide) ?_
  refine rn_istore_n (ls' := [some (.ref v0), some (.int (0 : Int32)), some (.int (0 : Int32))]) (ft50 3 rfl) rfl ?_
  refine rn_forget (ls := [some (.ref v0), some (.int (0 : Int32)), some (.int (0 : Int32))]) (And.intro rfl (And.intro rfl (And.intro rfl trivial))) (rf50_H4 n  _  (fun e1_8 w8 o h => ?_) n v0 (0 : Int32) (0 : Int32) w _ h)
  refine rn_iload_n (ft50 17 rfl) rfl ?_
  cases h
  exact rn_iretI pr50 (ft50 18 rfl)
/-- NineWheelModel.turned(II)I -/
theorem ft51 : ∀ (i : Nat) {q : Nat × XI}, cd51[i]? = some q → fetch 51 q.1 = some q.2 := ft_of (by decide +kernel)
theorem pr51 : pRt 51 = some .int := rfl
def f51 (v0 : Int32) (v1 : Int32) (w : Wd) : Option (Int32 × Wd) :=
  some ((irm ((v0 + v1) + (8 : Int32)) (8 : Int32)), w)
set_option maxRecDepth 10000 in
theorem r51 {S : Sc} (v0 : Int32) (v1 : Int32) (w : Wd) (o : (Int32 × Wd)) (h : f51 v0 v1 w = some o) : Rn S 51 0 [some (.int v0), some (.int v1)] [] w (some (.int o.1), o.2) := by
  unfold f51 at h
  refine rn_iload_n (ft51 0 rfl) rfl ?_
  refine rn_iload_n (ft51 1 rfl) rfl ?_
  refine rn_iadd (ft51 2 rfl) ?_
  refine rn_bipush (v := (8 : Int32)) (ft51 3 rfl) (by decide) ?_
  refine rn_iadd (ft51 4 rfl) ?_
  refine rn_bipush (v := (8 : Int32)) (ft51 5 rfl) (by decide) ?_
  refine rn_irem (ft51 6 rfl) (by decide) ?_
  cases h
  exact rn_iretI pr51 (ft51 7 rfl)
/-- NineWheelModel.turnOf(I)I -/
theorem ft52 : ∀ (i : Nat) {q : Nat × XI}, cd52[i]? = some q → fetch 52 q.1 = some q.2 := ft_of (by decide +kernel)
theorem pr52 : pRt 52 = some .int := rfl
def f52 (v0 : Int32) (w : Wd) : Option (Int32 × Wd) :=
  (if ¬ v0 = 0 then (if ¬ v0 = (1 : Int32) then some ((1 : Int32), w)
      else some ((-1 : Int32), w))
    else some ((0 : Int32), w))
set_option maxRecDepth 10000 in
theorem r52 {S : Sc} (v0 : Int32) (w : Wd) (o : (Int32 × Wd)) (h : f52 v0 w = some o) : Rn S 52 0 [some (.int v0)] [] w (some (.int o.1), o.2) := by
  unfold f52 at h
  refine rn_iload_n (ft52 0 rfl) rfl ?_
  by_cases c2 : ¬ v0 = 0
  · replace h := ifp c2 h
    refine rn_if_ne_t (ft52 1 rfl) c2 ?_
    refine rn_iload_n (ft52 4 rfl) rfl ?_
    refine rn_iconst (v := (1 : Int32)) (ft52 5 rfl) (by decide) ?_
    by_cases c1 : ¬ v0 = (1 : Int32)
    · replace h := ifp c1 h
      refine rn_icmp_ne_t (ft52 6 rfl) c1 ?_
      refine rn_iconst (v := (1 : Int32)) (ft52 9 rfl) (by decide) ?_
      cases h
      exact rn_iretI pr52 (ft52 10 rfl)
    · replace h := ifn c1 h
      refine rn_icmp_ne_f (ft52 6 rfl) c1 ?_
      refine rn_iconst (v := (-1 : Int32)) (ft52 7 rfl) (by decide) ?_
      refine rn_goto (ft52 8 rfl) ?_
      cases h
      exact rn_iretI pr52 (ft52 10 rfl)
  · replace h := ifn c2 h
    refine rn_if_ne_f (ft52 1 rfl) c2 ?_
    refine rn_iconst (v := (0 : Int32)) (ft52 2 rfl) (by decide) ?_
    refine rn_goto (ft52 3 rfl) ?_
    cases h
    exact rn_iretI pr52 (ft52 10 rfl)
/-- NineWheelModel.mostOf(III)I -/
theorem ft53 : ∀ (i : Nat) {q : Nat × XI}, cd53[i]? = some q → fetch 53 q.1 = some q.2 := ft_of (by decide +kernel)
theorem pr53 : pRt 53 = some .int := rfl
def f53_J14  (v0 : Int32) (v2 : Int32) (w : Wd) : Option (Int32 × Wd) :=
  (if v0 < v2 then some ((1 : Int32), w)
    else some ((-1 : Int32), w))
set_option maxRecDepth 10000 in
theorem rf53_J14 {S : Sc}  (v0 : Int32) (v2 : Int32) (w : Wd) (o : (Int32 × Wd))  (h : f53_J14  v0 v2 w = some o) : Rn S 53 14 [some (.int v0), none, some (.int v2)] [] w (some (.int o.1), o.2) := by
  unfold f53_J14 at h
  refine rn_iload_n (ft53 8 rfl) rfl ?_
  refine rn_iload_n (ft53 9 rfl) rfl ?_
  by_cases c1 : v0 < v2
  · replace h := ifp c1 h
    refine rn_icmp_lt_t (ft53 10 rfl) c1 ?_
    refine rn_iconst (v := (1 : Int32)) (ft53 13 rfl) (by decide) ?_
    cases h
    exact rn_iretI pr53 (ft53 14 rfl)
  · replace h := ifn c1 h
    refine rn_icmp_lt_f (ft53 10 rfl) c1 ?_
    refine rn_iconst (v := (-1 : Int32)) (ft53 11 rfl) (by decide) ?_
    refine rn_goto (ft53 12 rfl) ?_
    cases h
    exact rn_iretI pr53 (ft53 14 rfl)
def f53 (v0 : Int32) (v1 : Int32) (v2 : Int32) (w : Wd) : Option (Int32 × Wd) :=
  (if v1 < v0 then f53_J14  v0 v2 w
    else (if v1 < v2 then f53_J14  v0 v2 w
      else some ((0 : Int32), w)))
set_option maxRecDepth 10000 in
theorem r53 {S : Sc} (v0 : Int32) (v1 : Int32) (v2 : Int32) (w : Wd) (o : (Int32 × Wd)) (h : f53 v0 v1 v2 w = some o) : Rn S 53 0 [some (.int v0), some (.int v1), some (.int v2)] [] w (some (.int o.1), o.2) := by
  unfold f53 at h
  refine rn_iload_n (ft53 0 rfl) rfl ?_
  refine rn_iload_n (ft53 1 rfl) rfl ?_
  by_cases c3 : v1 < v0
  · replace h := ifp c3 h
    refine rn_icmp_lt_t (ft53 2 rfl) c3 ?_
    exact rn_forget (ls := [some (.int v0), none, some (.int v2)]) (And.intro rfl (And.intro rfl trivial)) (rf53_J14  v0 v2 w _  h)
  · replace h := ifn c3 h
    refine rn_icmp_lt_f (ft53 2 rfl) c3 ?_
    refine rn_iload_n (ft53 3 rfl) rfl ?_
    refine rn_iload_n (ft53 4 rfl) rfl ?_
    by_cases c2 : v1 < v2
    · replace h := ifp c2 h
      refine rn_icmp_lt_t (ft53 5 rfl) c2 ?_
      exact rn_forget (ls := [some (.int v0), none, some (.int v2)]) (And.intro rfl (And.intro rfl trivial)) (rf53_J14  v0 v2 w _  h)
    · replace h := ifn c2 h
      refine rn_icmp_lt_f (ft53 5 rfl) c2 ?_
      refine rn_iconst (v := (0 : Int32)) (ft53 6 rfl) (by decide) ?_
      refine rn_goto (ft53 7 rfl) ?_
      cases h
      exact rn_iretI pr53 (ft53 14 rfl)
/-- NineWheelModel.use(I)V -/
theorem ft54 : ∀ (i : Nat) {q : Nat × XI}, cd54[i]? = some q → fetch 54 q.1 = some q.2 := ft_of (by decide +kernel)
theorem pr54 : pRt 54 = none := rfl
def f54 (v0 : Nat) (v1 : Int32) (w : Wd) : Option Wd :=
  ob (getR w 11 v0 38) (fun x1 => ob (aldI w x1 ((5 : Int32) * v1)) (fun x3 => ob (putI w 11 v0 39 x3) (fun w5 => ob (getR w5 11 v0 38) (fun x7 => ob (aldI w5 x7 (((5 : Int32) * v1) + (1 : Int32))) (fun x9 => ob (putI w5 11 v0 40 x9) (fun w11 => ob (getR w11 11 v0 38) (fun x13 => ob (aldI w11 x13 (((5 : Int32) * v1) + (2 : Int32))) (fun x15 => ob (putI w11 11 v0 41 x15) (fun w17 => ob (getR w17 11 v0 38) (fun x19 => ob (aldI w17 x19 (((5 : Int32) * v1) + (3 : Int32))) (fun x21 => ob (putI w17 11 v0 42 x21) (fun w23 => ob (getR w23 11 v0 38) (fun x25 => ob (aldI w23 x25 (((5 : Int32) * v1) + (4 : Int32))) (fun x27 => ob (putI w23 11 v0 43 x27) (fun w29 => some w29)))))))))))))))
set_option maxRecDepth 10000 in
theorem r54 {S : Sc} (v0 : Nat) (v1 : Int32) (w : Wd) (o : Wd) (h : f54 v0 v1 w = some o) : Rn S 54 0 [some (.ref v0), some (.int v1)] [] w (none, o) := by
  unfold f54 at h
  refine rn_aload_n (ft54 0 rfl) rfl ?_
  refine rn_aload_n (ft54 1 rfl) rfl ?_
  obtain ⟨x1, q2, h⟩ := ob_some h
  refine rn_getR (ft54 2 rfl) q2 ?_
  refine rn_iconst (v := (5 : Int32)) (ft54 3 rfl) (by decide) ?_
  refine rn_iload_n (ft54 4 rfl) rfl ?_
  refine rn_imul (ft54 5 rfl) ?_
  obtain ⟨x3, q4, h⟩ := ob_some h
  refine rn_iaload (ft54 6 rfl) q4 ?_
  obtain ⟨w5, q6, h⟩ := ob_some h
  refine rn_putI (ft54 7 rfl) q6 ?_
  refine rn_aload_n (ft54 8 rfl) rfl ?_
  refine rn_aload_n (ft54 9 rfl) rfl ?_
  obtain ⟨x7, q8, h⟩ := ob_some h
  refine rn_getR (ft54 10 rfl) q8 ?_
  refine rn_iconst (v := (5 : Int32)) (ft54 11 rfl) (by decide) ?_
  refine rn_iload_n (ft54 12 rfl) rfl ?_
  refine rn_imul (ft54 13 rfl) ?_
  refine rn_iconst (v := (1 : Int32)) (ft54 14 rfl) (by decide) ?_
  refine rn_iadd (ft54 15 rfl) ?_
  obtain ⟨x9, q10, h⟩ := ob_some h
  refine rn_iaload (ft54 16 rfl) q10 ?_
  obtain ⟨w11, q12, h⟩ := ob_some h
  refine rn_putI (ft54 17 rfl) q12 ?_
  refine rn_aload_n (ft54 18 rfl) rfl ?_
  refine rn_aload_n (ft54 19 rfl) rfl ?_
  obtain ⟨x13, q14, h⟩ := ob_some h
  refine rn_getR (ft54 20 rfl) q14 ?_
  refine rn_iconst (v := (5 : Int32)) (ft54 21 rfl) (by decide) ?_
  refine rn_iload_n (ft54 22 rfl) rfl ?_
  refine rn_imul (ft54 23 rfl) ?_
  refine rn_iconst (v := (2 : Int32)) (ft54 24 rfl) (by decide) ?_
  refine rn_iadd (ft54 25 rfl) ?_
  obtain ⟨x15, q16, h⟩ := ob_some h
  refine rn_iaload (ft54 26 rfl) q16 ?_
  obtain ⟨w17, q18, h⟩ := ob_some h
  refine rn_putI (ft54 27 rfl) q18 ?_
  refine rn_aload_n (ft54 28 rfl) rfl ?_
  refine rn_aload_n (ft54 29 rfl) rfl ?_
  obtain ⟨x19, q20, h⟩ := ob_some h
  refine rn_getR (ft54 30 rfl) q20 ?_
  refine rn_iconst (v := (5 : Int32)) (ft54 31 rfl) (by decide) ?_
  refine rn_iload_n (ft54 32 rfl) rfl ?_
  refine rn_imul (ft54 33 rfl) ?_
  refine rn_iconst (v := (3 : Int32)) (ft54 34 rfl) (by decide) ?_
  refine rn_iadd (ft54 35 rfl) ?_
  obtain ⟨x21, q22, h⟩ := ob_some h
  refine rn_iaload (ft54 36 rfl) q22 ?_
  obtain ⟨w23, q24, h⟩ := ob_some h
  refine rn_putI (ft54 37 rfl) q24 ?_
  refine rn_aload_n (ft54 38 rfl) rfl ?_
  refine rn_aload_n (ft54 39 rfl) rfl ?_
  obtain ⟨x25, q26, h⟩ := ob_some h
  refine rn_getR (ft54 40 rfl) q26 ?_
  refine rn_iconst (v := (5 : Int32)) (ft54 41 rfl) (by decide) ?_
  refine rn_iload_n (ft54 42 rfl) rfl ?_
  refine rn_imul (ft54 43 rfl) ?_
  refine rn_iconst (v := (4 : Int32)) (ft54 44 rfl) (by decide) ?_
  refine rn_iadd (ft54 45 rfl) ?_
  obtain ⟨x27, q28, h⟩ := ob_some h
  refine rn_iaload (ft54 46 rfl) q28 ?_
  obtain ⟨w29, q30, h⟩ := ob_some h
  refine rn_putI (ft54 47 rfl) q30 ?_
  cases h
  exact rn_vret pr54 (ft54 48 rfl)
/-- NineWheelModel.beginCount()V -/
theorem ft55 : ∀ (i : Nat) {q : Nat × XI}, cd55[i]? = some q → fetch 55 q.1 = some q.2 := ft_of (by decide +kernel)
theorem pr55 : pRt 55 = none := rfl
def f55_H2 (n : Nat)  (K2 : Nat → Wd → Option Wd) : Nat → Nat → Int32 → Wd → Option Wd
  | 0, _, _, _ => none
  | k + 1, v0, v1, w =>
    (if (5 : Int32) ≤ v1 then K2 v0 w
      else ob (getR w 11 v0 44) (fun x1 => ob (astI w x1 v1 (0 : Int32)) (fun w3 => (fun (v0 : Nat) (v1 : Int32) w => f55_H2 n  K2 k v0 v1 w) v0 (v1 + (1 : Int32)) w3)))
set_option maxRecDepth 10000 in
theorem rf55_H2 {S : Sc} (n : Nat)  (K2 : Nat → Wd → Option Wd)  (hK2 : ∀ (y0 : Nat) (w : Wd) (o : Wd), K2 y0 w = some o → Rn S 55 20 [some (.ref y0), none] [] w (none, o)) : ∀ (k : Nat) (v0 : Nat) (v1 : Int32) (w : Wd) (o : Wd), f55_H2 n  K2 k v0 v1 w = some o → Rn S 55 2 [some (.ref v0), some (.int v1)] [] w (none, o) := by
  intro k
  induction k with
  | zero =>
    intro v0 v1 w o h
    exact nomatch h
  | succ k ih =>
    intro v0 v1 w o h
    have hrec2 : ∀ (y0 : Nat) (y1 : Int32) (w : Wd) (o : Wd), (fun (v0 : Nat) (v1 : Int32) w => f55_H2 n  K2 k v0 v1 w) y0 y1 w = some o → Rn S 55 2 [some (.ref y0), some (.int y1)] [] w (none, o) := fun y0 y1 w o h => ih y0 y1 w o h
    unfold f55_H2 at h
    refine rn_iload_n (ft55 2 rfl) rfl ?_
    refine rn_iconst (v := (5 : Int32)) (ft55 3 rfl) (by decide) ?_
    by_cases c5 : (5 : Int32) ≤ v1
    · replace h := ifp c5 h
      refine rn_icmp_ge_t (ft55 4 rfl) c5 ?_
      exact rn_forget (ls := [some (.ref v0), none]) (And.intro rfl trivial) (hK2 v0 w _ h)
    · replace h := ifn c5 h
      refine rn_icmp_ge_f (ft55 4 rfl) c5 ?_
      refine rn_aload_n (ft55 5 rfl) rfl ?_
      obtain ⟨x1, q2, h⟩ := ob_some h
      refine rn_getR (ft55 6 rfl) q2 ?_
      refine rn_iload_n (ft55 7 rfl) rfl ?_
      refine rn_iconst (v := (0 : Int32)) (ft55 8 rfl) (by decide) ?_
      obtain ⟨w3, q4, h⟩ := ob_some h
      refine rn_iastore (ft55 9 rfl) q4 ?_
      refine rn_iinc (u := 1) (ls' := [some (.ref v0), some (.int (v1 + (1 : Int32)))]) (ft55 10 rfl) rfl (by decide) rfl ?_
      refine rn_goto (ft55 11 rfl) ?_
      exact rn_forget (ls := [some (.ref v0), some (.int (v1 + (1 : Int32)))]) (And.intro rfl (And.intro rfl trivial)) (hrec2 v0 (v1 + (1 : Int32)) w3 _ h)
def f55 (n : Nat) (v0 : Nat) (w : Wd) : Option Wd :=
  f55_H2 n  (fun (e0_6 : Nat) (w6 : Wd) => ob (putZ w6 11 e0_6 45 (0 : Int32)) (fun w7 => ob (putZ w7 11 e0_6 46 (0 : Int32)) (fun w9 => ob (putI w9 11 e0_6 47 (0 : Int32)) (fun w11 => some w11)))) n v0 (0 : Int32) w
set_option maxRecDepth 10000 in
theorem r55 {S : Sc} (n : Nat) (v0 : Nat) (w : Wd) (o : Wd) (h : f55 n v0 w = some o) : Rn S 55 0 [some (.ref v0), none] [] w (none, o) := by
  unfold f55 at h
  refine rn_iconst (v := (0 : Int32)) (ft55 0 rfl) (by decide) ?_
  refine rn_istore_n (ls' := [some (.ref v0), some (.int (0 : Int32))]) (ft55 1 rfl) rfl ?_
  refine rn_forget (ls := [some (.ref v0), some (.int (0 : Int32))]) (And.intro rfl (And.intro rfl trivial)) (rf55_H2 n  _  (fun e0_6 w6 o h => ?_) n v0 (0 : Int32) w _ h)
  refine rn_aload_n (ft55 12 rfl) rfl ?_
  refine rn_iconst (v := (0 : Int32)) (ft55 13 rfl) (by decide) ?_
  obtain ⟨w7, q8, h⟩ := ob_some h
  refine rn_putZ (ft55 14 rfl) q8 ?_
  refine rn_aload_n (ft55 15 rfl) rfl ?_
  refine rn_iconst (v := (0 : Int32)) (ft55 16 rfl) (by decide) ?_
  obtain ⟨w9, q10, h⟩ := ob_some h
  refine rn_putZ (ft55 17 rfl) q10 ?_
  refine rn_aload_n (ft55 18 rfl) rfl ?_
  refine rn_iconst (v := (0 : Int32)) (ft55 19 rfl) (by decide) ?_
  obtain ⟨w11, q12, h⟩ := ob_some h
  refine rn_putI (ft55 20 rfl) q12 ?_
  cases h
  exact rn_vret pr55 (ft55 21 rfl)
/-- NineWheelModel.sign(I)I -/
theorem ft56 : ∀ (i : Nat) {q : Nat × XI}, cd56[i]? = some q → fetch 56 q.1 = some q.2 := ft_of (by decide +kernel)
theorem pr56 : pRt 56 = some .int := rfl
def f56 (v0 : Int32) (w : Wd) : Option (Int32 × Wd) :=
  (if 0 ≤ v0 then (if v0 ≤ 0 then some ((0 : Int32), w)
      else some ((1 : Int32), w))
    else some ((-1 : Int32), w))
set_option maxRecDepth 10000 in
theorem r56 {S : Sc} (v0 : Int32) (w : Wd) (o : (Int32 × Wd)) (h : f56 v0 w = some o) : Rn S 56 0 [some (.int v0)] [] w (some (.int o.1), o.2) := by
  unfold f56 at h
  refine rn_iload_n (ft56 0 rfl) rfl ?_
  by_cases c2 : 0 ≤ v0
  · replace h := ifp c2 h
    refine rn_if_ge_t (ft56 1 rfl) c2 ?_
    refine rn_iload_n (ft56 4 rfl) rfl ?_
    by_cases c1 : v0 ≤ 0
    · replace h := ifp c1 h
      refine rn_if_le_t (ft56 5 rfl) c1 ?_
      refine rn_iconst (v := (0 : Int32)) (ft56 8 rfl) (by decide) ?_
      cases h
      exact rn_iretI pr56 (ft56 9 rfl)
    · replace h := ifn c1 h
      refine rn_if_le_f (ft56 5 rfl) c1 ?_
      refine rn_iconst (v := (1 : Int32)) (ft56 6 rfl) (by decide) ?_
      refine rn_goto (ft56 7 rfl) ?_
      cases h
      exact rn_iretI pr56 (ft56 9 rfl)
  · replace h := ifn c2 h
    refine rn_if_ge_f (ft56 1 rfl) c2 ?_
    refine rn_iconst (v := (-1 : Int32)) (ft56 2 rfl) (by decide) ?_
    refine rn_goto (ft56 3 rfl) ?_
    cases h
    exact rn_iretI pr56 (ft56 9 rfl)
/-- NineWheelModel.begin(III)V -/
theorem ft57 : ∀ (i : Nat) {q : Nat × XI}, cd57[i]? = some q → fetch 57 q.1 = some q.2 := ft_of (by decide +kernel)
theorem pr57 : pRt 57 = none := rfl
def f57_J29  (v0 : Nat) (s0 : Nat) (s1 : Int32) (s2 : Int32) (w : Wd) : Option Wd :=
  ob (astI w s0 s1 s2) (fun w11 => ob (putI w11 11 v0 52 (-1 : Int32)) (fun w13 => ob (putI w13 11 v0 53 (0 : Int32)) (fun w15 => some w15)))
set_option maxRecDepth 10000 in
theorem rf57_J29 {S : Sc}  (v0 : Nat) (s0 : Nat) (s1 : Int32) (s2 : Int32) (w : Wd) (o : Wd)  (h : f57_J29  v0 s0 s1 s2 w = some o) : Rn S 57 29 [some (.ref v0), none, none, none] [.int s2, .int s1, .ref s0] w (none, o) := by
  unfold f57_J29 at h
  obtain ⟨w11, q12, h⟩ := ob_some h
  refine rn_iastore (ft57 19 rfl) q12 ?_
  refine rn_aload_n (ft57 20 rfl) rfl ?_
  refine rn_iconst (v := (-1 : Int32)) (ft57 21 rfl) (by decide) ?_
  obtain ⟨w13, q14, h⟩ := ob_some h
  refine rn_putI (ft57 22 rfl) q14 ?_
  refine rn_aload_n (ft57 23 rfl) rfl ?_
  refine rn_iconst (v := (0 : Int32)) (ft57 24 rfl) (by decide) ?_
  obtain ⟨w15, q16, h⟩ := ob_some h
  refine rn_putI (ft57 25 rfl) q16 ?_
  cases h
  exact rn_vret pr57 (ft57 26 rfl)
def f57 (v0 : Nat) (v1 : Int32) (v2 : Int32) (v3 : Int32) (w : Wd) : Option Wd :=
  ob (getR w 11 v0 48) (fun x1 => ob (astI w x1 (0 : Int32) v1) (fun w3 => ob (getR w3 11 v0 49) (fun x5 => ob (astI w3 x5 (0 : Int32) v2) (fun w7 => ob (getR w7 11 v0 50) (fun x9 => (if ¬ v3 = (2 : Int32) then f57_J29  v0 x9 (0 : Int32) v3 w7
    else f57_J29  v0 x9 (0 : Int32) (4 : Int32) w7))))))
set_option maxRecDepth 10000 in
theorem r57 {S : Sc} (v0 : Nat) (v1 : Int32) (v2 : Int32) (v3 : Int32) (w : Wd) (o : Wd) (h : f57 v0 v1 v2 v3 w = some o) : Rn S 57 0 [some (.ref v0), some (.int v1), some (.int v2), some (.int v3)] [] w (none, o) := by
  unfold f57 at h
  refine rn_aload_n (ft57 0 rfl) rfl ?_
  obtain ⟨x1, q2, h⟩ := ob_some h
  refine rn_getR (ft57 1 rfl) q2 ?_
  refine rn_iconst (v := (0 : Int32)) (ft57 2 rfl) (by decide) ?_
  refine rn_iload_n (ft57 3 rfl) rfl ?_
  obtain ⟨w3, q4, h⟩ := ob_some h
  refine rn_iastore (ft57 4 rfl) q4 ?_
  refine rn_aload_n (ft57 5 rfl) rfl ?_
  obtain ⟨x5, q6, h⟩ := ob_some h
  refine rn_getR (ft57 6 rfl) q6 ?_
  refine rn_iconst (v := (0 : Int32)) (ft57 7 rfl) (by decide) ?_
  refine rn_iload_n (ft57 8 rfl) rfl ?_
  obtain ⟨w7, q8, h⟩ := ob_some h
  refine rn_iastore (ft57 9 rfl) q8 ?_
  refine rn_aload_n (ft57 10 rfl) rfl ?_
  obtain ⟨x9, q10, h⟩ := ob_some h
  refine rn_getR (ft57 11 rfl) q10 ?_
  refine rn_iconst (v := (0 : Int32)) (ft57 12 rfl) (by decide) ?_
  refine rn_iload_n (ft57 13 rfl) rfl ?_
  refine rn_iconst (v := (2 : Int32)) (ft57 14 rfl) (by decide) ?_
  by_cases c17 : ¬ v3 = (2 : Int32)
  · replace h := ifp c17 h
    refine rn_icmp_ne_t (ft57 15 rfl) c17 ?_
    refine rn_iload_n (ft57 18 rfl) rfl ?_
    exact rn_forget (ls := [some (.ref v0), none, none, none]) (And.intro rfl trivial) (rf57_J29  v0 x9 (0 : Int32) v3 w7 _  h)
  · replace h := ifn c17 h
    refine rn_icmp_ne_f (ft57 15 rfl) c17 ?_
    refine rn_iconst (v := (4 : Int32)) (ft57 16 rfl) (by decide) ?_
    refine rn_goto (ft57 17 rfl) ?_
    exact rn_forget (ls := [some (.ref v0), none, none, none]) (And.intro rfl trivial) (rf57_J29  v0 x9 (0 : Int32) (4 : Int32) w7 _  h)
/-- NineWheelModel.lateNext(III)I -/
theorem ft58 : ∀ (i : Nat) {q : Nat × XI}, cd58[i]? = some q → fetch 58 q.1 = some q.2 := ft_of (by decide +kernel)
theorem pr58 : pRt 58 = some .int := rfl
def f58_J24  (v1 : Int32) (v2 : Int32) (v3 : Int32) (s0 : Nat) (s1 : Int32) (w : Wd) : Option (Int32 × Wd) :=
  ob (putI w 11 s0 54 (s1 - (1 : Int32))) (fun w1 => (if ¬ v2 = (2 : Int32) then some ((v3 + (1 : Int32)), w1)
    else some (((((irm v1 (3 : Int32)) * (3 : Int32)) + v3) + (1 : Int32)), w1)))
set_option maxRecDepth 10000 in
theorem rf58_J24 {S : Sc}  (v1 : Int32) (v2 : Int32) (v3 : Int32) (s0 : Nat) (s1 : Int32) (w : Wd) (o : (Int32 × Wd))  (h : f58_J24  v1 v2 v3 s0 s1 w = some o) : Rn S 58 24 [none, some (.int v1), some (.int v2), some (.int v3)] [.int s1, .ref s0] w (some (.int o.1), o.2) := by
  unfold f58_J24 at h
  refine rn_iconst (v := (1 : Int32)) (ft58 16 rfl) (by decide) ?_
  refine rn_isub (ft58 17 rfl) ?_
  obtain ⟨w1, q2, h⟩ := ob_some h
  refine rn_putI (ft58 18 rfl) q2 ?_
  refine rn_iload_n (ft58 19 rfl) rfl ?_
  refine rn_iconst (v := (2 : Int32)) (ft58 20 rfl) (by decide) ?_
  by_cases c3 : ¬ v2 = (2 : Int32)
  · replace h := ifp c3 h
    refine rn_icmp_ne_t (ft58 21 rfl) c3 ?_
    refine rn_iload_n (ft58 32 rfl) rfl ?_
    refine rn_iconst (v := (1 : Int32)) (ft58 33 rfl) (by decide) ?_
    refine rn_iadd (ft58 34 rfl) ?_
    cases h
    exact rn_iretI pr58 (ft58 35 rfl)
  · replace h := ifn c3 h
    refine rn_icmp_ne_f (ft58 21 rfl) c3 ?_
    refine rn_iload_n (ft58 22 rfl) rfl ?_
    refine rn_iconst (v := (3 : Int32)) (ft58 23 rfl) (by decide) ?_
    refine rn_irem (ft58 24 rfl) (by decide) ?_
    refine rn_iconst (v := (3 : Int32)) (ft58 25 rfl) (by decide) ?_
    refine rn_imul (ft58 26 rfl) ?_
    refine rn_iload_n (ft58 27 rfl) rfl ?_
    refine rn_iadd (ft58 28 rfl) ?_
    refine rn_iconst (v := (1 : Int32)) (ft58 29 rfl) (by decide) ?_
    refine rn_iadd (ft58 30 rfl) ?_
    refine rn_goto (ft58 31 rfl) ?_
    cases h
    exact rn_iretI pr58 (ft58 35 rfl)
def f58 (v0 : Nat) (v1 : Int32) (v2 : Int32) (v3 : Int32) (w : Wd) : Option (Int32 × Wd) :=
  (if ¬ v2 = 0 then (if ¬ v2 = (2 : Int32) then f58_J24  v1 v2 v3 v0 v1 w
      else f58_J24  v1 v2 v3 v0 (v1 / (3 : Int32)) w)
    else ob (putI w 11 v0 54 v3) (fun w5 => some ((0 : Int32), w5)))
set_option maxRecDepth 10000 in
theorem r58 {S : Sc} (v0 : Nat) (v1 : Int32) (v2 : Int32) (v3 : Int32) (w : Wd) (o : (Int32 × Wd)) (h : f58 v0 v1 v2 v3 w = some o) : Rn S 58 0 [some (.ref v0), some (.int v1), some (.int v2), some (.int v3)] [] w (some (.int o.1), o.2) := by
  unfold f58 at h
  refine rn_iload_n (ft58 0 rfl) rfl ?_
  by_cases c7 : ¬ v2 = 0
  · replace h := ifp c7 h
    refine rn_if_ne_t (ft58 1 rfl) c7 ?_
    refine rn_aload_n (ft58 7 rfl) rfl ?_
    refine rn_iload_n (ft58 8 rfl) rfl ?_
    refine rn_iconst (v := (2 : Int32)) (ft58 9 rfl) (by decide) ?_
    by_cases c4 : ¬ v2 = (2 : Int32)
    · replace h := ifp c4 h
      refine rn_icmp_ne_t (ft58 10 rfl) c4 ?_
      refine rn_iload_n (ft58 15 rfl) rfl ?_
      exact rn_forget (ls := [none, some (.int v1), some (.int v2), some (.int v3)]) (And.intro rfl (And.intro rfl (And.intro rfl trivial))) (rf58_J24  v1 v2 v3 v0 v1 w _  h)
    · replace h := ifn c4 h
      refine rn_icmp_ne_f (ft58 10 rfl) c4 ?_
      refine rn_iload_n (ft58 11 rfl) rfl ?_
      refine rn_iconst (v := (3 : Int32)) (ft58 12 rfl) (by decide) ?_
      refine rn_idiv (ft58 13 rfl) (by decide) ?_
      refine rn_goto (ft58 14 rfl) ?_
      exact rn_forget (ls := [none, some (.int v1), some (.int v2), some (.int v3)]) (And.intro rfl (And.intro rfl (And.intro rfl trivial))) (rf58_J24  v1 v2 v3 v0 (v1 / (3 : Int32)) w _  h)
  · replace h := ifn c7 h
    refine rn_if_ne_f (ft58 1 rfl) c7 ?_
    refine rn_aload_n (ft58 2 rfl) rfl ?_
    refine rn_iload_n (ft58 3 rfl) rfl ?_
    obtain ⟨w5, q6, h⟩ := ob_some h
    refine rn_putI (ft58 4 rfl) q6 ?_
    refine rn_iconst (v := (0 : Int32)) (ft58 5 rfl) (by decide) ?_
    cases h
    exact rn_iretI pr58 (ft58 6 rfl)
/-- NineWheelModel.comesTo(I)I -/
theorem ft59 : ∀ (i : Nat) {q : Nat × XI}, cd59[i]? = some q → fetch 59 q.1 = some q.2 := ft_of (by decide +kernel)
theorem pr59 : pRt 59 = some .int := rfl
def f59_H2 (n : Nat)  (K2 : Wd → Option (Int32 × Wd)) : Nat → Nat → Int32 → Int32 → Wd → Option (Int32 × Wd)
  | 0, _, _, _, _ => none
  | k + 1, v0, v1, v2, w =>
    ob (getI w 11 v0 53) (fun x1 => (if x1 < v2 then K2 w
      else ob (getR w 11 v0 48) (fun x3 => ob (aldI w x3 v2) (fun x5 => (if ¬ x5 = v1 then (fun (v0 : Nat) (v1 : Int32) (v2 : Int32) w => f59_H2 n  K2 k v0 v1 v2 w) v0 v1 (v2 + (1 : Int32)) w
        else some (v2, w))))))
set_option maxRecDepth 10000 in
theorem rf59_H2 {S : Sc} (n : Nat)  (K2 : Wd → Option (Int32 × Wd))  (hK2 : ∀  (w : Wd) (o : (Int32 × Wd)), K2 w = some o → Rn S 59 28 [none, none, none] [] w (some (.int o.1), o.2)) : ∀ (k : Nat) (v0 : Nat) (v1 : Int32) (v2 : Int32) (w : Wd) (o : (Int32 × Wd)), f59_H2 n  K2 k v0 v1 v2 w = some o → Rn S 59 2 [some (.ref v0), some (.int v1), some (.int v2)] [] w (some (.int o.1), o.2) := by
  intro k
  induction k with
  | zero =>
    intro v0 v1 v2 w o h
    exact nomatch h
  | succ k ih =>
    intro v0 v1 v2 w o h
    have hrec2 : ∀ (y0 : Nat) (y1 : Int32) (y2 : Int32) (w : Wd) (o : (Int32 × Wd)), (fun (v0 : Nat) (v1 : Int32) (v2 : Int32) w => f59_H2 n  K2 k v0 v1 v2 w) y0 y1 y2 w = some o → Rn S 59 2 [some (.ref y0), some (.int y1), some (.int y2)] [] w (some (.int o.1), o.2) := fun y0 y1 y2 w o h => ih y0 y1 y2 w o h
    unfold f59_H2 at h
    refine rn_iload_n (ft59 2 rfl) rfl ?_
    refine rn_aload_n (ft59 3 rfl) rfl ?_
    obtain ⟨x1, q2, h⟩ := ob_some h
    refine rn_getI (ft59 4 rfl) (by decide) (by decide) q2 ?_
    by_cases c8 : x1 < v2
    · replace h := ifp c8 h
      refine rn_icmp_gt_t (ft59 5 rfl) c8 ?_
      exact rn_forget (ls := [none, none, none]) trivial (hK2 w _ h)
    · replace h := ifn c8 h
      refine rn_icmp_gt_f (ft59 5 rfl) c8 ?_
      refine rn_aload_n (ft59 6 rfl) rfl ?_
      obtain ⟨x3, q4, h⟩ := ob_some h
      refine rn_getR (ft59 7 rfl) q4 ?_
      refine rn_iload_n (ft59 8 rfl) rfl ?_
      obtain ⟨x5, q6, h⟩ := ob_some h
      refine rn_iaload (ft59 9 rfl) q6 ?_
      refine rn_iload_n (ft59 10 rfl) rfl ?_
      by_cases c7 : ¬ x5 = v1
      · replace h := ifp c7 h
        refine rn_icmp_ne_t (ft59 11 rfl) c7 ?_
        refine rn_iinc (u := 1) (ls' := [some (.ref v0), some (.int v1), some (.int (v2 + (1 : Int32)))]) (ft59 14 rfl) rfl (by decide) rfl ?_
        refine rn_goto (ft59 15 rfl) ?_
        exact rn_forget (ls := [some (.ref v0), some (.int v1), some (.int (v2 + (1 : Int32)))]) (And.intro rfl (And.intro rfl (And.intro rfl trivial))) (hrec2 v0 v1 (v2 + (1 : Int32)) w _ h)
      · replace h := ifn c7 h
        refine rn_icmp_ne_f (ft59 11 rfl) c7 ?_
        refine rn_iload_n (ft59 12 rfl) rfl ?_
        cases h
        exact rn_iretI pr59 (ft59 13 rfl)
def f59 (n : Nat) (v0 : Nat) (v1 : Int32) (w : Wd) : Option (Int32 × Wd) :=
  f59_H2 n  (fun  (w9 : Wd) => some ((-1 : Int32), w9)) n v0 v1 (0 : Int32) w
set_option maxRecDepth 10000 in
theorem r59 {S : Sc} (n : Nat) (v0 : Nat) (v1 : Int32) (w : Wd) (o : (Int32 × Wd)) (h : f59 n v0 v1 w = some o) : Rn S 59 0 [some (.ref v0), some (.int v1), none] [] w (some (.int o.1), o.2) := by
  unfold f59 at h
  refine rn_iconst (v := (0 : Int32)) (ft59 0 rfl) (by decide) ?_
  refine rn_istore_n (ls' := [some (.ref v0), some (.int v1), some (.int (0 : Int32))]) (ft59 1 rfl) rfl ?_
  refine rn_forget (ls := [some (.ref v0), some (.int v1), some (.int (0 : Int32))]) (And.intro rfl (And.intro rfl (And.intro rfl trivial))) (rf59_H2 n  _  (fun  w9 o h => ?_) n v0 v1 (0 : Int32) w _ h)
  refine rn_iconst (v := (-1 : Int32)) (ft59 16 rfl) (by decide) ?_
  cases h
  exact rn_iretI pr59 (ft59 17 rfl)
/-- NineWheelModel.clear()I -/
theorem ft60 : ∀ (i : Nat) {q : Nat × XI}, cd60[i]? = some q → fetch 60 q.1 = some q.2 := ft_of (by decide +kernel)
theorem pr60 : pRt 60 = some .int := rfl
def f60 (v0 : Nat) (w : Wd) : Option (Int32 × Wd) :=
  ob (getI w 11 v0 56) (fun x1 => ob (putI w 11 v0 56 (0 : Int32)) (fun w3 => some (x1, w3)))
set_option maxRecDepth 10000 in
theorem r60 {S : Sc} (v0 : Nat) (w : Wd) (o : (Int32 × Wd)) (h : f60 v0 w = some o) : Rn S 60 0 [some (.ref v0), none] [] w (some (.int o.1), o.2) := by
  unfold f60 at h
  refine rn_aload_n (ft60 0 rfl) rfl ?_
  obtain ⟨x1, q2, h⟩ := ob_some h
  refine rn_getI (ft60 1 rfl) (by decide) (by decide) q2 ?_
  refine rn_istore_n (ls' := [some (.ref v0), some (.int x1)]) (ft60 2 rfl) rfl ?_
  refine rn_aload_n (ft60 3 rfl) rfl ?_
  refine rn_iconst (v := (0 : Int32)) (ft60 4 rfl) (by decide) ?_
  obtain ⟨w3, q4, h⟩ := ob_some h
  refine rn_putI (ft60 5 rfl) q4 ?_
  refine rn_iload_n (ft60 6 rfl) rfl ?_
  cases h
  exact rn_iretI pr60 (ft60 7 rfl)
/-- NineWheelModel.endBest(I)V -/
theorem ft61 : ∀ (i : Nat) {q : Nat × XI}, cd61[i]? = some q → fetch 61 q.1 = some q.2 := ft_of (by decide +kernel)
theorem pr61 : pRt 61 = none := rfl
def f61_H2 (n : Nat)  (K2 : Wd → Option Wd) : Nat → Nat → Int32 → Int32 → Wd → Option Wd
  | 0, _, _, _, _ => none
  | k + 1, v0, v1, v2, w =>
    (if (512 : Int32) ≤ v2 then K2 w
      else ob (getR w 11 v0 58) (fun x1 => ob (astI w x1 (((512 : Int32) * v1) + v2) (0 : Int32)) (fun w3 => (fun (v0 : Nat) (v1 : Int32) (v2 : Int32) w => f61_H2 n  K2 k v0 v1 v2 w) v0 v1 (v2 + (1 : Int32)) w3)))
set_option maxRecDepth 10000 in
theorem rf61_H2 {S : Sc} (n : Nat)  (K2 : Wd → Option Wd)  (hK2 : ∀  (w : Wd) (o : Wd), K2 w = some o → Rn S 61 28 [none, none, none] [] w (none, o)) : ∀ (k : Nat) (v0 : Nat) (v1 : Int32) (v2 : Int32) (w : Wd) (o : Wd), f61_H2 n  K2 k v0 v1 v2 w = some o → Rn S 61 2 [some (.ref v0), some (.int v1), some (.int v2)] [] w (none, o) := by
  intro k
  induction k with
  | zero =>
    intro v0 v1 v2 w o h
    exact nomatch h
  | succ k ih =>
    intro v0 v1 v2 w o h
    have hrec2 : ∀ (y0 : Nat) (y1 : Int32) (y2 : Int32) (w : Wd) (o : Wd), (fun (v0 : Nat) (v1 : Int32) (v2 : Int32) w => f61_H2 n  K2 k v0 v1 v2 w) y0 y1 y2 w = some o → Rn S 61 2 [some (.ref y0), some (.int y1), some (.int y2)] [] w (none, o) := fun y0 y1 y2 w o h => ih y0 y1 y2 w o h
    unfold f61_H2 at h
    refine rn_iload_n (ft61 2 rfl) rfl ?_
    refine rn_sipush (v := (512 : Int32)) (ft61 3 rfl) (by decide) ?_
    by_cases c5 : (512 : Int32) ≤ v2
    · replace h := ifp c5 h
      refine rn_icmp_ge_t (ft61 4 rfl) c5 ?_
      exact rn_forget (ls := [none, none, none]) trivial (hK2 w _ h)
    · replace h := ifn c5 h
      refine rn_icmp_ge_f (ft61 4 rfl) c5 ?_
      refine rn_aload_n (ft61 5 rfl) rfl ?_
      obtain ⟨x1, q2, h⟩ := ob_some h
      refine rn_getR (ft61 6 rfl) q2 ?_
      refine rn_sipush (v := (512 : Int32)) (ft61 7 rfl) (by decide) ?_
      refine rn_iload_n (ft61 8 rfl) rfl ?_
      refine rn_imul (ft61 9 rfl) ?_
      refine rn_iload_n (ft61 10 rfl) rfl ?_
      refine rn_iadd (ft61 11 rfl) ?_
      refine rn_iconst (v := (0 : Int32)) (ft61 12 rfl) (by decide) ?_
      obtain ⟨w3, q4, h⟩ := ob_some h
      refine rn_iastore (ft61 13 rfl) q4 ?_
      refine rn_iinc (u := 1) (ls' := [some (.ref v0), some (.int v1), some (.int (v2 + (1 : Int32)))]) (ft61 14 rfl) rfl (by decide) rfl ?_
      refine rn_goto (ft61 15 rfl) ?_
      exact rn_forget (ls := [some (.ref v0), some (.int v1), some (.int (v2 + (1 : Int32)))]) (And.intro rfl (And.intro rfl (And.intro rfl trivial))) (hrec2 v0 v1 (v2 + (1 : Int32)) w3 _ h)
def f61 (n : Nat) (v0 : Nat) (v1 : Int32) (w : Wd) : Option Wd :=
  f61_H2 n  (fun  (w6 : Wd) => some w6) n v0 v1 (0 : Int32) w
set_option maxRecDepth 10000 in
theorem r61 {S : Sc} (n : Nat) (v0 : Nat) (v1 : Int32) (w : Wd) (o : Wd) (h : f61 n v0 v1 w = some o) : Rn S 61 0 [some (.ref v0), some (.int v1), none] [] w (none, o) := by
  unfold f61 at h
  refine rn_iconst (v := (0 : Int32)) (ft61 0 rfl) (by decide) ?_
  refine rn_istore_n (ls' := [some (.ref v0), some (.int v1), some (.int (0 : Int32))]) (ft61 1 rfl) rfl ?_
  refine rn_forget (ls := [some (.ref v0), some (.int v1), some (.int (0 : Int32))]) (And.intro rfl (And.intro rfl (And.intro rfl trivial))) (rf61_H2 n  _  (fun  w6 o h => ?_) n v0 v1 (0 : Int32) w _ h)
  cases h
  exact rn_vret pr61 (ft61 16 rfl)
/-- NineWheelModel.seed(I)I -/
theorem ft62 : ∀ (i : Nat) {q : Nat × XI}, cd62[i]? = some q → fetch 62 q.1 = some q.2 := ft_of (by decide +kernel)
theorem pr62 : pRt 62 = some .int := rfl
def f62 (v0 : Nat) (v1 : Int32) (w : Wd) : Option (Int32 × Wd) :=
  (if 0 ≤ v1 then ob (getI w 11 v0 60) (fun x1 => ob (putI w 11 v0 60 v1) (fun w3 => some (x1, w3)))
    else some ((-1000002 : Int32), w))
set_option maxRecDepth 10000 in
theorem r62 {S : Sc} (v0 : Nat) (v1 : Int32) (w : Wd) (o : (Int32 × Wd)) (h : f62 v0 v1 w = some o) : Rn S 62 0 [some (.ref v0), some (.int v1), none] [] w (some (.int o.1), o.2) := by
  unfold f62 at h
  refine rn_iload_n (ft62 0 rfl) rfl ?_
  by_cases c5 : 0 ≤ v1
  · replace h := ifp c5 h
    refine rn_if_ge_t (ft62 1 rfl) c5 ?_
    refine rn_aload_n (ft62 4 rfl) rfl ?_
    obtain ⟨x1, q2, h⟩ := ob_some h
    refine rn_getI (ft62 5 rfl) (by decide) (by decide) q2 ?_
    refine rn_istore_n (ls' := [some (.ref v0), some (.int v1), some (.int x1)]) (ft62 6 rfl) rfl ?_
    refine rn_aload_n (ft62 7 rfl) rfl ?_
    refine rn_iload_n (ft62 8 rfl) rfl ?_
    obtain ⟨w3, q4, h⟩ := ob_some h
    refine rn_putI (ft62 9 rfl) q4 ?_
    refine rn_iload_n (ft62 10 rfl) rfl ?_
    cases h
    exact rn_iretI pr62 (ft62 11 rfl)
  · replace h := ifn c5 h
    refine rn_if_ge_f (ft62 1 rfl) c5 ?_
    refine rn_ldc (v := (-1000002 : Int32)) (ft62 2 rfl) (by decide) rfl ?_
    cases h
    exact rn_iretI pr62 (ft62 3 rfl)
/-- NineWheelModel.draw(I)I -/
theorem ft63 : ∀ (i : Nat) {q : Nat × XI}, cd63[i]? = some q → fetch 63 q.1 = some q.2 := ft_of (by decide +kernel)
theorem pr63 : pRt 63 = some .int := rfl
def f63 (v0 : Nat) (v1 : Int32) (w : Wd) : Option (Int32 × Wd) :=
  ob (getI w 11 v0 60) (fun x1 => ob (putI w 11 v0 60 (Int64.toInt32 (lrm (((Int32.toInt64 x1) * (1103515245 : Int64)) + (12345 : Int64)) (2147483648 : Int64)))) (fun w3 => ob (getI w3 11 v0 60) (fun x5 => (if ¬ v1 = 0 then some ((irm (x5 / (65536 : Int32)) v1), w3) else none))))
set_option maxRecDepth 10000 in
theorem r63 {S : Sc} (v0 : Nat) (v1 : Int32) (w : Wd) (o : (Int32 × Wd)) (h : f63 v0 v1 w = some o) : Rn S 63 0 [some (.ref v0), some (.int v1)] [] w (some (.int o.1), o.2) := by
  unfold f63 at h
  refine rn_aload_n (ft63 0 rfl) rfl ?_
  refine rn_aload_n (ft63 1 rfl) rfl ?_
  obtain ⟨x1, q2, h⟩ := ob_some h
  refine rn_getI (ft63 2 rfl) (by decide) (by decide) q2 ?_
  refine rn_i2l (ft63 3 rfl) ?_
  refine rn_ldc2 (v := (1103515245 : Int64)) (ft63 4 rfl) (by decide) ?_
  refine rn_lmul (ft63 5 rfl) ?_
  refine rn_ldc2 (v := (12345 : Int64)) (ft63 6 rfl) (by decide) ?_
  refine rn_ladd (ft63 7 rfl) ?_
  refine rn_ldc2 (v := (2147483648 : Int64)) (ft63 8 rfl) (by decide) ?_
  refine rn_lrem (ft63 9 rfl) (by decide) ?_
  refine rn_l2i (ft63 10 rfl) ?_
  obtain ⟨w3, q4, h⟩ := ob_some h
  refine rn_putI (ft63 11 rfl) q4 ?_
  refine rn_aload_n (ft63 12 rfl) rfl ?_
  obtain ⟨x5, q6, h⟩ := ob_some h
  refine rn_getI (ft63 13 rfl) (by decide) (by decide) q6 ?_
  refine rn_ldcw (v := (65536 : Int32)) (ft63 14 rfl) (by decide) ?_
  refine rn_idiv (ft63 15 rfl) (by decide) ?_
  refine rn_iload_n (ft63 16 rfl) rfl ?_
  obtain ⟨g7, h⟩ := ifg h
  refine rn_irem (ft63 17 rfl) g7 ?_
  cases h
  exact rn_iretI pr63 (ft63 18 rfl)
/-- NineWheelModel.count(I)I -/
theorem ft64 : ∀ (i : Nat) {q : Nat × XI}, cd64[i]? = some q → fetch 64 q.1 = some q.2 := ft_of (by decide +kernel)
theorem pr64 : pRt 64 = some .int := rfl
def f64 (v0 : Nat) (v1 : Int32) (w : Wd) : Option (Int32 × Wd) :=
  (if ¬ v1 = 0 then (if ¬ v1 = (1 : Int32) then (if ¬ v1 = (2 : Int32) then some ((-1000002 : Int32), w)
        else ob (getI w 11 v0 15) (fun x1 => some (x1, w)))
      else ob (getI w 11 v0 56) (fun x4 => some (x4, w)))
    else ob (getI w 11 v0 37) (fun x7 => some (x7, w)))
set_option maxRecDepth 10000 in
theorem r64 {S : Sc} (v0 : Nat) (v1 : Int32) (w : Wd) (o : (Int32 × Wd)) (h : f64 v0 v1 w = some o) : Rn S 64 0 [some (.ref v0), some (.int v1)] [] w (some (.int o.1), o.2) := by
  unfold f64 at h
  refine rn_iload_n (ft64 0 rfl) rfl ?_
  by_cases c9 : ¬ v1 = 0
  · replace h := ifp c9 h
    refine rn_if_ne_t (ft64 1 rfl) c9 ?_
    refine rn_iload_n (ft64 5 rfl) rfl ?_
    refine rn_iconst (v := (1 : Int32)) (ft64 6 rfl) (by decide) ?_
    by_cases c6 : ¬ v1 = (1 : Int32)
    · replace h := ifp c6 h
      refine rn_icmp_ne_t (ft64 7 rfl) c6 ?_
      refine rn_iload_n (ft64 11 rfl) rfl ?_
      refine rn_iconst (v := (2 : Int32)) (ft64 12 rfl) (by decide) ?_
      by_cases c3 : ¬ v1 = (2 : Int32)
      · replace h := ifp c3 h
        refine rn_icmp_ne_t (ft64 13 rfl) c3 ?_
        refine rn_ldc (v := (-1000002 : Int32)) (ft64 17 rfl) (by decide) rfl ?_
        cases h
        exact rn_iretI pr64 (ft64 18 rfl)
      · replace h := ifn c3 h
        refine rn_icmp_ne_f (ft64 13 rfl) c3 ?_
        refine rn_aload_n (ft64 14 rfl) rfl ?_
        obtain ⟨x1, q2, h⟩ := ob_some h
        refine rn_getI (ft64 15 rfl) (by decide) (by decide) q2 ?_
        refine rn_goto (ft64 16 rfl) ?_
        cases h
        exact rn_iretI pr64 (ft64 18 rfl)
    · replace h := ifn c6 h
      refine rn_icmp_ne_f (ft64 7 rfl) c6 ?_
      refine rn_aload_n (ft64 8 rfl) rfl ?_
      obtain ⟨x4, q5, h⟩ := ob_some h
      refine rn_getI (ft64 9 rfl) (by decide) (by decide) q5 ?_
      refine rn_goto (ft64 10 rfl) ?_
      cases h
      exact rn_iretI pr64 (ft64 18 rfl)
  · replace h := ifn c9 h
    refine rn_if_ne_f (ft64 1 rfl) c9 ?_
    refine rn_aload_n (ft64 2 rfl) rfl ?_
    obtain ⟨x7, q8, h⟩ := ob_some h
    refine rn_getI (ft64 3 rfl) (by decide) (by decide) q8 ?_
    refine rn_goto (ft64 4 rfl) ?_
    cases h
    exact rn_iretI pr64 (ft64 18 rfl)
/-- NineWheel$Text.<init>()V -/
theorem ft65 : ∀ (i : Nat) {q : Nat × XI}, cd65[i]? = some q → fetch 65 q.1 = some q.2 := ft_of (by decide +kernel)
theorem pr65 : pRt 65 = none := rfl
def f65 (v0 : Nat) (w : Wd) : Option Wd :=
  ob (putR (newC w 21 (Int32.toNatClampNeg (300 : Int32))) 9 v0 0 (wn w)) (fun w1 => ob (putI w1 9 v0 5 (-1 : Int32)) (fun w3 => some w3))
set_option maxRecDepth 10000 in
theorem r65 {S : Sc} (v0 : Nat) (w : Wd) (o : Wd) (h : f65 v0 w = some o) : Rn S 65 0 [some (.ref v0)] [] w (none, o) := by
  unfold f65 at h
  refine rn_aload_n (ft65 0 rfl) rfl ?_
  refine rn_objInit (ft65 1 rfl) (Nat.le_of_ble_eq_true rfl) ?_
  refine rn_aload_n (ft65 2 rfl) rfl ?_
  refine rn_sipush (v := (300 : Int32)) (ft65 3 rfl) (by decide) ?_
  refine rn_newA (kd := 21) (ft65 4 rfl) rfl (by decide) ?_
  obtain ⟨w1, q2, h⟩ := ob_some h
  refine rn_putR (ft65 5 rfl) q2 ?_
  refine rn_aload_n (ft65 6 rfl) rfl ?_
  refine rn_iconst (v := (-1 : Int32)) (ft65 7 rfl) (by decide) ?_
  obtain ⟨w3, q4, h⟩ := ob_some h
  refine rn_putI (ft65 8 rfl) q4 ?_
  cases h
  exact rn_vret pr65 (ft65 9 rfl)
/-- NineWheel$Sea.<init>()V -/
theorem ft66 : ∀ (i : Nat) {q : Nat × XI}, cd66[i]? = some q → fetch 66 q.1 = some q.2 := ft_of (by decide +kernel)
theorem pr66 : pRt 66 = none := rfl
def f66 (v0 : Nat) (w : Wd) : Option Wd :=
  ob (putI w 6 v0 1 (4 : Int32)) (fun w1 => ob (putR (newC w1 20 (Int32.toNatClampNeg (6 : Int32))) 6 v0 8 (wn w1)) (fun w3 => ob (putR (newC w3 20 (Int32.toNatClampNeg (6 : Int32))) 6 v0 9 (wn w3)) (fun w5 => ob (putR (newC w5 20 (Int32.toNatClampNeg (6 : Int32))) 6 v0 10 (wn w5)) (fun w7 => ob (putR (newM w7 (Int32.toNatClampNeg (6 : Int32)) (Int32.toNatClampNeg (64 : Int32))) 6 v0 11 (wn w7)) (fun w9 => ob (putR (newC w9 22 (Int32.toNatClampNeg (64 : Int32))) 6 v0 12 (wn w9)) (fun w11 => some w11))))))
set_option maxRecDepth 10000 in
theorem r66 {S : Sc} (v0 : Nat) (w : Wd) (o : Wd) (h : f66 v0 w = some o) : Rn S 66 0 [some (.ref v0)] [] w (none, o) := by
  unfold f66 at h
  refine rn_aload_n (ft66 0 rfl) rfl ?_
  refine rn_objInit (ft66 1 rfl) (Nat.le_of_ble_eq_true rfl) ?_
  refine rn_aload_n (ft66 2 rfl) rfl ?_
  refine rn_iconst (v := (4 : Int32)) (ft66 3 rfl) (by decide) ?_
  obtain ⟨w1, q2, h⟩ := ob_some h
  refine rn_putI (ft66 4 rfl) q2 ?_
  refine rn_aload_n (ft66 5 rfl) rfl ?_
  refine rn_bipush (v := (6 : Int32)) (ft66 6 rfl) (by decide) ?_
  refine rn_newA (kd := 20) (ft66 7 rfl) rfl (by decide) ?_
  obtain ⟨w3, q4, h⟩ := ob_some h
  refine rn_putR (ft66 8 rfl) q4 ?_
  refine rn_aload_n (ft66 9 rfl) rfl ?_
  refine rn_bipush (v := (6 : Int32)) (ft66 10 rfl) (by decide) ?_
  refine rn_newA (kd := 20) (ft66 11 rfl) rfl (by decide) ?_
  obtain ⟨w5, q6, h⟩ := ob_some h
  refine rn_putR (ft66 12 rfl) q6 ?_
  refine rn_aload_n (ft66 13 rfl) rfl ?_
  refine rn_bipush (v := (6 : Int32)) (ft66 14 rfl) (by decide) ?_
  refine rn_newA (kd := 20) (ft66 15 rfl) rfl (by decide) ?_
  obtain ⟨w7, q8, h⟩ := ob_some h
  refine rn_putR (ft66 16 rfl) q8 ?_
  refine rn_aload_n (ft66 17 rfl) rfl ?_
  refine rn_bipush (v := (6 : Int32)) (ft66 18 rfl) (by decide) ?_
  refine rn_bipush (v := (64 : Int32)) (ft66 19 rfl) (by decide) ?_
  refine rn_mnew (ft66 20 rfl) (by decide) ?_
  obtain ⟨w9, q10, h⟩ := ob_some h
  refine rn_putR (ft66 21 rfl) q10 ?_
  refine rn_aload_n (ft66 22 rfl) rfl ?_
  refine rn_bipush (v := (64 : Int32)) (ft66 23 rfl) (by decide) ?_
  refine rn_newA (kd := 22) (ft66 24 rfl) rfl (by decide) ?_
  obtain ⟨w11, q12, h⟩ := ob_some h
  refine rn_putR (ft66 25 rfl) q12 ?_
  cases h
  exact rn_vret pr66 (ft66 26 rfl)
/-- NineWheel$SeaReader.<init>(LNineWheel$Text;LNineWheel$Sea;)V -/
theorem ft67 : ∀ (i : Nat) {q : Nat × XI}, cd67[i]? = some q → fetch 67 q.1 = some q.2 := ft_of (by decide +kernel)
theorem pr67 : pRt 67 = none := rfl
def f67 (v0 : Nat) (v1 : Nat) (v2 : Nat) (w : Wd) : Option Wd :=
  ob (putR w 7 v0 0 v1) (fun w1 => ob (putR w1 7 v0 1 v2) (fun w3 => some w3))
set_option maxRecDepth 10000 in
theorem r67 {S : Sc} (v0 : Nat) (v1 : Nat) (v2 : Nat) (w : Wd) (o : Wd) (h : f67 v0 v1 v2 w = some o) : Rn S 67 0 [some (.ref v0), some (.ref v1), some (.ref v2)] [] w (none, o) := by
  unfold f67 at h
  refine rn_aload_n (ft67 0 rfl) rfl ?_
  refine rn_objInit (ft67 1 rfl) (Nat.le_of_ble_eq_true rfl) ?_
  refine rn_aload_n (ft67 2 rfl) rfl ?_
  refine rn_aload_n (ft67 3 rfl) rfl ?_
  obtain ⟨w1, q2, h⟩ := ob_some h
  refine rn_putR (ft67 4 rfl) q2 ?_
  refine rn_aload_n (ft67 5 rfl) rfl ?_
  refine rn_aload_n (ft67 6 rfl) rfl ?_
  obtain ⟨w3, q4, h⟩ := ob_some h
  refine rn_putR (ft67 7 rfl) q4 ?_
  cases h
  exact rn_vret pr67 (ft67 8 rfl)
/-- NineWheel$Rule.<init>()V -/
theorem ft68 : ∀ (i : Nat) {q : Nat × XI}, cd68[i]? = some q → fetch 68 q.1 = some q.2 := ft_of (by decide +kernel)
theorem pr68 : pRt 68 = none := rfl
def f68 (v0 : Nat) (w : Wd) : Option Wd :=
  some w
set_option maxRecDepth 10000 in
theorem r68 {S : Sc} (v0 : Nat) (w : Wd) (o : Wd) (h : f68 v0 w = some o) : Rn S 68 0 [some (.ref v0)] [] w (none, o) := by
  unfold f68 at h
  refine rn_aload_n (ft68 0 rfl) rfl ?_
  refine rn_objInit (ft68 1 rfl) (Nat.le_of_ble_eq_true rfl) ?_
  cases h
  exact rn_vret pr68 (ft68 2 rfl)
/-- NineWheel$Held.<init>()V -/
theorem ft69 : ∀ (i : Nat) {q : Nat × XI}, cd69[i]? = some q → fetch 69 q.1 = some q.2 := ft_of (by decide +kernel)
theorem pr69 : pRt 69 = none := rfl
def f69 (v0 : Nat) (w : Wd) : Option Wd :=
  ob (putR (newC w 20 (Int32.toNatClampNeg (6 : Int32))) 3 v0 0 (wn w)) (fun w1 => ob (putR (newC w1 20 (Int32.toNatClampNeg (6 : Int32))) 3 v0 1 (wn w1)) (fun w3 => ob (putR (newC w3 20 (Int32.toNatClampNeg (40 : Int32))) 3 v0 2 (wn w3)) (fun w5 => some w5)))
set_option maxRecDepth 10000 in
theorem r69 {S : Sc} (v0 : Nat) (w : Wd) (o : Wd) (h : f69 v0 w = some o) : Rn S 69 0 [some (.ref v0)] [] w (none, o) := by
  unfold f69 at h
  refine rn_aload_n (ft69 0 rfl) rfl ?_
  refine rn_objInit (ft69 1 rfl) (Nat.le_of_ble_eq_true rfl) ?_
  refine rn_aload_n (ft69 2 rfl) rfl ?_
  refine rn_bipush (v := (6 : Int32)) (ft69 3 rfl) (by decide) ?_
  refine rn_newA (kd := 20) (ft69 4 rfl) rfl (by decide) ?_
  obtain ⟨w1, q2, h⟩ := ob_some h
  refine rn_putR (ft69 5 rfl) q2 ?_
  refine rn_aload_n (ft69 6 rfl) rfl ?_
  refine rn_bipush (v := (6 : Int32)) (ft69 7 rfl) (by decide) ?_
  refine rn_newA (kd := 20) (ft69 8 rfl) rfl (by decide) ?_
  obtain ⟨w3, q4, h⟩ := ob_some h
  refine rn_putR (ft69 9 rfl) q4 ?_
  refine rn_aload_n (ft69 10 rfl) rfl ?_
  refine rn_bipush (v := (40 : Int32)) (ft69 11 rfl) (by decide) ?_
  refine rn_newA (kd := 20) (ft69 12 rfl) rfl (by decide) ?_
  obtain ⟨w5, q6, h⟩ := ob_some h
  refine rn_putR (ft69 13 rfl) q6 ?_
  cases h
  exact rn_vret pr69 (ft69 14 rfl)
/-- NineWheel$Tally.<init>()V -/
theorem ft70 : ∀ (i : Nat) {q : Nat × XI}, cd70[i]? = some q → fetch 70 q.1 = some q.2 := ft_of (by decide +kernel)
theorem pr70 : pRt 70 = none := rfl
def f70 (v0 : Nat) (w : Wd) : Option Wd :=
  some w
set_option maxRecDepth 10000 in
theorem r70 {S : Sc} (v0 : Nat) (w : Wd) (o : Wd) (h : f70 v0 w = some o) : Rn S 70 0 [some (.ref v0)] [] w (none, o) := by
  unfold f70 at h
  refine rn_aload_n (ft70 0 rfl) rfl ?_
  refine rn_objInit (ft70 1 rfl) (Nat.le_of_ble_eq_true rfl) ?_
  cases h
  exact rn_vret pr70 (ft70 2 rfl)
/-- NineWheel$Courses.<init>(LNineWheel$Sea;LNineWheel$Counting;)V -/
theorem ft71 : ∀ (i : Nat) {q : Nat × XI}, cd71[i]? = some q → fetch 71 q.1 = some q.2 := ft_of (by decide +kernel)
theorem pr71 : pRt 71 = none := rfl
def f71 (v0 : Nat) (v1 : Nat) (v2 : Nat) (w : Wd) : Option Wd :=
  ob (putR (newC w 20 (Int32.toNatClampNeg (64 : Int32))) 1 v0 2 (wn w)) (fun w1 => ob (putR (newC w1 20 (Int32.toNatClampNeg (512 : Int32))) 1 v0 3 (wn w1)) (fun w3 => ob (putR (newC w3 23 (Int32.toNatClampNeg (512 : Int32))) 1 v0 4 (wn w3)) (fun w5 => ob (putR (newC w5 20 (Int32.toNatClampNeg (512 : Int32))) 1 v0 5 (wn w5)) (fun w7 => ob (putR (newC w7 20 (Int32.toNatClampNeg (512 : Int32))) 1 v0 6 (wn w7)) (fun w9 => ob (putR w9 1 v0 0 v1) (fun w11 => ob (putR w11 1 v0 1 v2) (fun w13 => some w13)))))))
set_option maxRecDepth 10000 in
theorem r71 {S : Sc} (v0 : Nat) (v1 : Nat) (v2 : Nat) (w : Wd) (o : Wd) (h : f71 v0 v1 v2 w = some o) : Rn S 71 0 [some (.ref v0), some (.ref v1), some (.ref v2)] [] w (none, o) := by
  unfold f71 at h
  refine rn_aload_n (ft71 0 rfl) rfl ?_
  refine rn_objInit (ft71 1 rfl) (Nat.le_of_ble_eq_true rfl) ?_
  refine rn_aload_n (ft71 2 rfl) rfl ?_
  refine rn_bipush (v := (64 : Int32)) (ft71 3 rfl) (by decide) ?_
  refine rn_newA (kd := 20) (ft71 4 rfl) rfl (by decide) ?_
  obtain ⟨w1, q2, h⟩ := ob_some h
  refine rn_putR (ft71 5 rfl) q2 ?_
  refine rn_aload_n (ft71 6 rfl) rfl ?_
  refine rn_sipush (v := (512 : Int32)) (ft71 7 rfl) (by decide) ?_
  refine rn_newA (kd := 20) (ft71 8 rfl) rfl (by decide) ?_
  obtain ⟨w3, q4, h⟩ := ob_some h
  refine rn_putR (ft71 9 rfl) q4 ?_
  refine rn_aload_n (ft71 10 rfl) rfl ?_
  refine rn_sipush (v := (512 : Int32)) (ft71 11 rfl) (by decide) ?_
  refine rn_newA (kd := 23) (ft71 12 rfl) rfl (by decide) ?_
  obtain ⟨w5, q6, h⟩ := ob_some h
  refine rn_putR (ft71 13 rfl) q6 ?_
  refine rn_aload_n (ft71 14 rfl) rfl ?_
  refine rn_sipush (v := (512 : Int32)) (ft71 15 rfl) (by decide) ?_
  refine rn_newA (kd := 20) (ft71 16 rfl) rfl (by decide) ?_
  obtain ⟨w7, q8, h⟩ := ob_some h
  refine rn_putR (ft71 17 rfl) q8 ?_
  refine rn_aload_n (ft71 18 rfl) rfl ?_
  refine rn_sipush (v := (512 : Int32)) (ft71 19 rfl) (by decide) ?_
  refine rn_newA (kd := 20) (ft71 20 rfl) rfl (by decide) ?_
  obtain ⟨w9, q10, h⟩ := ob_some h
  refine rn_putR (ft71 21 rfl) q10 ?_
  refine rn_aload_n (ft71 22 rfl) rfl ?_
  refine rn_aload_n (ft71 23 rfl) rfl ?_
  obtain ⟨w11, q12, h⟩ := ob_some h
  refine rn_putR (ft71 24 rfl) q12 ?_
  refine rn_aload_n (ft71 25 rfl) rfl ?_
  refine rn_aload_n (ft71 26 rfl) rfl ?_
  obtain ⟨w13, q14, h⟩ := ob_some h
  refine rn_putR (ft71 27 rfl) q14 ?_
  cases h
  exact rn_vret pr71 (ft71 28 rfl)
/-- NineWheel.feed(IJ)I -/
theorem ft72 : ∀ (i : Nat) {q : Nat × XI}, cd72[i]? = some q → fetch 72 q.1 = some q.2 := ft_of (by decide +kernel)
theorem pr72 : pRt 72 = some .int := rfl
def f72_H36 (n : Nat)  (K20 : Nat → Wd → Option (Int32 × Wd)) : Nat → Nat → Int64 → Int32 → Wd → Option (Int32 × Wd)
  | 0, _, _, _, _ => none
  | k + 1, v0, v2, v4, w =>
    (if v4 < 0 then K20 v0 w
      else ob (getR w 10 v0 0) (fun x7 => (if (wsh w x7).map (fun q => q.1) = some 9 then ob (f1 x7 ((Int64.toInt32 (lush v2 ((8 : Int32) * v4))) &&& (255 : Int32)) w) (fun p9 => (fun (v0 : Nat) (v2 : Int64) (v4 : Int32) w => f72_H36 n  K20 k v0 v2 v4 w) v0 v2 (v4 + (-1 : Int32)) p9) else none)))
set_option maxRecDepth 10000 in
theorem rf72_H36 {S : Sc} (n : Nat)  (K20 : Nat → Wd → Option (Int32 × Wd))  (hK20 : ∀ (y0 : Nat) (w : Wd) (o : (Int32 × Wd)), K20 y0 w = some o → Rn S 72 66 [some (.ref y0), none, none, none, none] [] w (some (.int o.1), o.2)) : ∀ (k : Nat) (v0 : Nat) (v2 : Int64) (v4 : Int32) (w : Wd) (o : (Int32 × Wd)), f72_H36 n  K20 k v0 v2 v4 w = some o → Rn S 72 36 [some (.ref v0), none, some (.long v2), none, some (.int v4)] [] w (some (.int o.1), o.2) := by
  intro k
  induction k with
  | zero =>
    intro v0 v2 v4 w o h
    exact nomatch h
  | succ k ih =>
    intro v0 v2 v4 w o h
    have hrec20 : ∀ (y0 : Nat) (y2 : Int64) (y4 : Int32) (w : Wd) (o : (Int32 × Wd)), (fun (v0 : Nat) (v2 : Int64) (v4 : Int32) w => f72_H36 n  K20 k v0 v2 v4 w) y0 y2 y4 w = some o → Rn S 72 36 [some (.ref y0), none, some (.long y2), none, some (.int y4)] [] w (some (.int o.1), o.2) := fun y0 y2 y4 w o h => ih y0 y2 y4 w o h
    unfold f72_H36 at h
    refine rn_iload (ft72 20 rfl) rfl ?_
    by_cases c12 : v4 < 0
    · replace h := ifp c12 h
      refine rn_if_lt_t (ft72 21 rfl) c12 ?_
      exact rn_forget (ls := [some (.ref v0), none, none, none, none]) (And.intro rfl trivial) (hK20 v0 w _ h)
    · replace h := ifn c12 h
      refine rn_if_lt_f (ft72 21 rfl) c12 ?_
      refine rn_aload_n (ft72 22 rfl) rfl ?_
      obtain ⟨x7, q8, h⟩ := ob_some h
      refine rn_getR (ft72 23 rfl) q8 ?_
      refine rn_lload_n (ft72 24 rfl) rfl ?_
      refine rn_bipush (v := (8 : Int32)) (ft72 25 rfl) (by decide) ?_
      refine rn_iload (ft72 26 rfl) rfl ?_
      refine rn_imul (ft72 27 rfl) ?_
      refine rn_lushr (ft72 28 rfl) ?_
      refine rn_l2i (ft72 29 rfl) ?_
      refine rn_sipush (v := (255 : Int32)) (ft72 30 rfl) (by decide) ?_
      refine rn_iand (ft72 31 rfl) ?_
      obtain ⟨g11, h⟩ := ifg h
      obtain ⟨p9, q10, h⟩ := ob_some h
      refine rn_callV (as := [.int ((Int64.toInt32 (lush v2 ((8 : Int32) * v4))) &&& (255 : Int32))]) (k0 := x7) (r := []) (v := none) (w1 := p9) (ft72 32 rfl) (by decide +kernel) rfl (Nat.le_of_ble_eq_true rfl) (Nat.le_of_ble_eq_true rfl) (r1 x7 ((Int64.toInt32 (lush v2 ((8 : Int32) * v4))) &&& (255 : Int32)) w _ q10) (by decide +kernel) g11 ?_
      refine rn_iinc (u := (-1)) (ls' := [some (.ref v0), none, some (.long v2), none, some (.int (v4 + (-1 : Int32)))]) (ft72 33 rfl) rfl (by decide) rfl ?_
      refine rn_goto (ft72 34 rfl) ?_
      exact rn_forget (ls := [some (.ref v0), none, some (.long v2), none, some (.int (v4 + (-1 : Int32)))]) (And.intro rfl (And.intro rfl (And.intro rfl trivial))) (hrec20 v0 v2 (v4 + (-1 : Int32)) p9 _ h)
def f72 (n : Nat) (v0 : Nat) (v1 : Int32) (v2 : Int64) (w : Wd) : Option (Int32 × Wd) :=
  ob (f0 v1 (1 : Int32) (8 : Int32) w) (fun p1 => (if p1.1 = 0 then ob (getR p1.2 10 v0 0) (fun x3 => ob (getI p1.2 9 x3 1) (fun x5 => (if (x5 + v1) ≤ (300 : Int32) then f72_H36 n  (fun (e0_13 : Nat) (w13 : Wd) => ob (getR w13 10 e0_13 0) (fun x14 => ob (getI w13 9 x14 1) (fun x16 => some (x16, w13)))) n v0 v2 (v1 - (1 : Int32)) p1.2
      else some ((-1000004 : Int32), p1.2))))
    else some ((-1000002 : Int32), p1.2)))
set_option maxRecDepth 10000 in
theorem r72 {S : Sc} (n : Nat) (v0 : Nat) (v1 : Int32) (v2 : Int64) (w : Wd) (o : (Int32 × Wd)) (h : f72 n v0 v1 v2 w = some o) : Rn S 72 0 [some (.ref v0), some (.int v1), some (.long v2), none, none] [] w (some (.int o.1), o.2) := by
  unfold f72 at h
  refine rn_iload_n (ft72 0 rfl) rfl ?_
  refine rn_iconst (v := (1 : Int32)) (ft72 1 rfl) (by decide) ?_
  refine rn_bipush (v := (8 : Int32)) (ft72 2 rfl) (by decide) ?_
  obtain ⟨p1, q2, h⟩ := ob_some h
  refine rn_callS (as := [.int v1, .int (1 : Int32), .int (8 : Int32)]) (r := []) (v := (some (.int p1.1))) (w1 := p1.2) (ft72 3 rfl) (by decide +kernel) rfl (Nat.le_of_ble_eq_true rfl) (Nat.le_of_ble_eq_true rfl) (r0 v1 (1 : Int32) (8 : Int32) w _ q2) ?_
  by_cases c19 : p1.1 = 0
  · replace h := ifp c19 h
    refine rn_if_eq_t (ft72 4 rfl) c19 ?_
    refine rn_aload_n (ft72 7 rfl) rfl ?_
    obtain ⟨x3, q4, h⟩ := ob_some h
    refine rn_getR (ft72 8 rfl) q4 ?_
    obtain ⟨x5, q6, h⟩ := ob_some h
    refine rn_getI (ft72 9 rfl) (by decide) (by decide) q6 ?_
    refine rn_iload_n (ft72 10 rfl) rfl ?_
    refine rn_iadd (ft72 11 rfl) ?_
    refine rn_sipush (v := (300 : Int32)) (ft72 12 rfl) (by decide) ?_
    by_cases c18 : (x5 + v1) ≤ (300 : Int32)
    · replace h := ifp c18 h
      refine rn_icmp_le_t (ft72 13 rfl) c18 ?_
      refine rn_iload_n (ft72 16 rfl) rfl ?_
      refine rn_iconst (v := (1 : Int32)) (ft72 17 rfl) (by decide) ?_
      refine rn_isub (ft72 18 rfl) ?_
      refine rn_istore (ls' := [some (.ref v0), some (.int v1), some (.long v2), none, some (.int (v1 - (1 : Int32)))]) (ft72 19 rfl) rfl ?_
      refine rn_forget (ls := [some (.ref v0), none, some (.long v2), none, some (.int (v1 - (1 : Int32)))]) (And.intro rfl (And.intro rfl (And.intro rfl trivial))) (rf72_H36 n  _  (fun e0_13 w13 o h => ?_) n v0 v2 (v1 - (1 : Int32)) p1.2 _ h)
      refine rn_aload_n (ft72 35 rfl) rfl ?_
      obtain ⟨x14, q15, h⟩ := ob_some h
      refine rn_getR (ft72 36 rfl) q15 ?_
      obtain ⟨x16, q17, h⟩ := ob_some h
      refine rn_getI (ft72 37 rfl) (by decide) (by decide) q17 ?_
      cases h
      exact rn_iretI pr72 (ft72 38 rfl)
    · replace h := ifn c18 h
      refine rn_icmp_le_f (ft72 13 rfl) c18 ?_
      refine rn_ldc (v := (-1000004 : Int32)) (ft72 14 rfl) (by decide) rfl ?_
      cases h
      exact rn_iretI pr72 (ft72 15 rfl)
  · replace h := ifn c19 h
    refine rn_if_eq_f (ft72 4 rfl) c19 ?_
    refine rn_ldc (v := (-1000002 : Int32)) (ft72 5 rfl) (by decide) rfl ?_
    cases h
    exact rn_iretI pr72 (ft72 6 rfl)
/-- NineWheel$Text.skipBlanks()V -/
theorem ft73 : ∀ (i : Nat) {q : Nat × XI}, cd73[i]? = some q → fetch 73 q.1 = some q.2 := ft_of (by decide +kernel)
theorem pr73 : pRt 73 = none := rfl
def f73_H0 (n : Nat)  (K0 : Wd → Option Wd) : Nat → Nat → Wd → Option Wd
  | 0, _, _ => none
  | k + 1, v0, w =>
    ob (getI w 9 v0 2) (fun x1 => ob (getI w 9 v0 1) (fun x3 => (if x3 ≤ x1 then K0 w
      else ob (getI w 9 v0 2) (fun x5 => (if (wsh w v0).map (fun q => q.1) = some 9 then ob (f4 v0 x5 w) (fun p7 => (if ¬ p7.1 = (32 : Int32) then K0 p7.2
        else ob (getI p7.2 9 v0 2) (fun x9 => ob (putI p7.2 9 v0 2 (x9 + (1 : Int32))) (fun w11 => (fun (v0 : Nat) w => f73_H0 n  K0 k v0 w) v0 w11)))) else none)))))
set_option maxRecDepth 10000 in
theorem rf73_H0 {S : Sc} (n : Nat)  (K0 : Wd → Option Wd)  (hK0 : ∀  (w : Wd) (o : Wd), K0 w = some o → Rn S 73 37 [none] [] w (none, o)) : ∀ (k : Nat) (v0 : Nat) (w : Wd) (o : Wd), f73_H0 n  K0 k v0 w = some o → Rn S 73 0 [some (.ref v0)] [] w (none, o) := by
  intro k
  induction k with
  | zero =>
    intro v0 w o h
    exact nomatch h
  | succ k ih =>
    intro v0 w o h
    have hrec0 : ∀ (y0 : Nat) (w : Wd) (o : Wd), (fun (v0 : Nat) w => f73_H0 n  K0 k v0 w) y0 w = some o → Rn S 73 0 [some (.ref y0)] [] w (none, o) := fun y0 w o h => ih y0 w o h
    unfold f73_H0 at h
    refine rn_aload_n (ft73 0 rfl) rfl ?_
    obtain ⟨x1, q2, h⟩ := ob_some h
    refine rn_getI (ft73 1 rfl) (by decide) (by decide) q2 ?_
    refine rn_aload_n (ft73 2 rfl) rfl ?_
    obtain ⟨x3, q4, h⟩ := ob_some h
    refine rn_getI (ft73 3 rfl) (by decide) (by decide) q4 ?_
    by_cases c15 : x3 ≤ x1
    · replace h := ifp c15 h
      refine rn_icmp_ge_t (ft73 4 rfl) c15 ?_
      exact rn_forget (ls := [none]) trivial (hK0 w _ h)
    · replace h := ifn c15 h
      refine rn_icmp_ge_f (ft73 4 rfl) c15 ?_
      refine rn_aload_n (ft73 5 rfl) rfl ?_
      refine rn_aload_n (ft73 6 rfl) rfl ?_
      obtain ⟨x5, q6, h⟩ := ob_some h
      refine rn_getI (ft73 7 rfl) (by decide) (by decide) q6 ?_
      obtain ⟨g14, h⟩ := ifg h
      obtain ⟨p7, q8, h⟩ := ob_some h
      refine rn_callV (as := [.int x5]) (k0 := v0) (r := []) (v := (some (.int p7.1))) (w1 := p7.2) (ft73 8 rfl) (by decide +kernel) rfl (Nat.le_of_ble_eq_true rfl) (Nat.le_of_ble_eq_true rfl) (r4 v0 x5 w _ q8) (by decide +kernel) g14 ?_
      refine rn_bipush (v := (32 : Int32)) (ft73 9 rfl) (by decide) ?_
      by_cases c13 : ¬ p7.1 = (32 : Int32)
      · replace h := ifp c13 h
        refine rn_icmp_ne_t (ft73 10 rfl) c13 ?_
        exact rn_forget (ls := [none]) trivial (hK0 p7.2 _ h)
      · replace h := ifn c13 h
        refine rn_icmp_ne_f (ft73 10 rfl) c13 ?_
        refine rn_aload_n (ft73 11 rfl) rfl ?_
        refine rn_dup (ft73 12 rfl) rfl ?_
        obtain ⟨x9, q10, h⟩ := ob_some h
        refine rn_getI (ft73 13 rfl) (by decide) (by decide) q10 ?_
        refine rn_iconst (v := (1 : Int32)) (ft73 14 rfl) (by decide) ?_
        refine rn_iadd (ft73 15 rfl) ?_
        obtain ⟨w11, q12, h⟩ := ob_some h
        refine rn_putI (ft73 16 rfl) q12 ?_
        refine rn_goto (ft73 17 rfl) ?_
        exact rn_forget (ls := [some (.ref v0)]) (And.intro rfl trivial) (hrec0 v0 w11 _ h)
def f73 (n : Nat) (v0 : Nat) (w : Wd) : Option Wd :=
  f73_H0 n  (fun  (w16 : Wd) => some w16) n v0 w
set_option maxRecDepth 10000 in
theorem r73 {S : Sc} (n : Nat) (v0 : Nat) (w : Wd) (o : Wd) (h : f73 n v0 w = some o) : Rn S 73 0 [some (.ref v0)] [] w (none, o) := by
  unfold f73 at h
  refine rn_forget (ls := [some (.ref v0)]) (And.intro rfl trivial) (rf73_H0 n  _  (fun  w16 o h => ?_) n v0 w _ h)
  cases h
  exact rn_vret pr73 (ft73 18 rfl)
/-- java/lang/String.length()I -/
theorem ft74 : ∀ (i : Nat) {q : Nat × XI}, cd74[i]? = some q → fetch 74 q.1 = some q.2 := ft_of (by decide +kernel)
theorem pr74 : pRt 74 = some .int := rfl
def f74 (v0 : UInt32) (w : Wd) : Option (Int32 × Wd) :=
  (if 16 ≤ UInt32.toNat v0 ∧ UInt32.toNat v0 < 32 then ob (slen (v0 + 48)) (fun x2 => (if 16 ≤ UInt32.toNat v0 ∧ UInt32.toNat v0 < 32 then ob (f5 v0 w) (fun p4 => some ((x2 >>> (p4.1 &&& 31)), p4.2)) else none)) else none)
set_option maxRecDepth 10000 in
theorem r74 {S : Sc} (v0 : UInt32) (w : Wd) (o : (Int32 × Wd)) (h : f74 v0 w = some o) : Rn S 74 0 [some (.float v0)] [] w (some (.int o.1), o.2) := by
  unfold f74 at h
  refine rn_aload_nS (ft74 0 rfl) rfl ?_
  obtain ⟨g1, h⟩ := ifg h
  refine rn_getSv (ft74 1 rfl) g1 ?_
  obtain ⟨x2, q3, h⟩ := ob_some h
  refine rn_alenS (ft74 2 rfl) (slen_ok q3) ?_
  refine rn_aload_nS (ft74 3 rfl) rfl ?_
  obtain ⟨g6, h⟩ := ifg h
  obtain ⟨p4, q5, h⟩ := ob_some h
  refine rn_callVS (as := []) (u := v0) (r := [.int x2]) (v := (some (.int p4.1))) (w1 := p4.2) (ft74 4 rfl) (by decide +kernel) rfl (Nat.le_of_ble_eq_true rfl) (Nat.le_of_ble_eq_true rfl) (r5 v0 w _ q5) (by decide +kernel) g6 ?_
  refine rn_ishr (ft74 5 rfl) ?_
  cases h
  exact rn_iretI pr74 (ft74 6 rfl)
/-- java/lang/String.checkIndex(II)V -/
theorem ft75 : ∀ (i : Nat) {q : Nat × XI}, cd75[i]? = some q → fetch 75 q.1 = some q.2 := ft_of (by decide +kernel)
theorem pr75 : pRt 75 = none := rfl
def f75 (v0 : Int32) (v1 : Int32) (w : Wd) : Option Wd :=
  ob (f7 v0 v1 w) (fun p1 => some p1.2)
set_option maxRecDepth 10000 in
theorem r75 {S : Sc} (v0 : Int32) (v1 : Int32) (w : Wd) (o : Wd) (h : f75 v0 v1 w = some o) : Rn S 75 0 [some (.int v0), some (.int v1)] [] w (none, o) := by
  unfold f75 at h
  refine rn_iload_n (ft75 0 rfl) rfl ?_
  refine rn_iload_n (ft75 1 rfl) rfl ?_
  refine rn_gets (v := .float 4) (ft75 2 rfl) rfl ?_
  obtain ⟨p1, q2, h⟩ := ob_some h
  refine rn_callS (as := [.int v0, .int v1, .float 4]) (r := []) (v := (some (.int p1.1))) (w1 := p1.2) (ft75 3 rfl) (by decide +kernel) rfl (Nat.le_of_ble_eq_true rfl) (Nat.le_of_ble_eq_true rfl) (r7 v0 v1 w _ q2) ?_
  refine rn_pop (ft75 4 rfl) rfl ?_
  cases h
  exact rn_vret pr75 (ft75 5 rfl)
/-- NineWheel$SeaReader.once(II)V -/
theorem ft76 : ∀ (i : Nat) {q : Nat × XI}, cd76[i]? = some q → fetch 76 q.1 = some q.2 := ft_of (by decide +kernel)
theorem pr76 : pRt 76 = none := rfl
def f76_J18  (v0 : Nat) (v1 : Int32) (w : Wd) : Option Wd :=
  ob (getI w 7 v0 2) (fun x3 => ob (putI w 7 v0 2 (x3 ||| v1)) (fun w5 => some w5))
set_option maxRecDepth 10000 in
theorem rf76_J18 {S : Sc}  (v0 : Nat) (v1 : Int32) (w : Wd) (o : Wd)  (h : f76_J18  v0 v1 w = some o) : Rn S 76 18 [some (.ref v0), some (.int v1), none] [] w (none, o) := by
  unfold f76_J18 at h
  refine rn_aload_n (ft76 10 rfl) rfl ?_
  refine rn_dup (ft76 11 rfl) rfl ?_
  obtain ⟨x3, q4, h⟩ := ob_some h
  refine rn_getI (ft76 12 rfl) (by decide) (by decide) q4 ?_
  refine rn_iload_n (ft76 13 rfl) rfl ?_
  refine rn_ior (ft76 14 rfl) ?_
  obtain ⟨w5, q6, h⟩ := ob_some h
  refine rn_putI (ft76 15 rfl) q6 ?_
  cases h
  exact rn_vret pr76 (ft76 16 rfl)
def f76 (v0 : Nat) (v1 : Int32) (v2 : Int32) (w : Wd) : Option Wd :=
  ob (getI w 7 v0 2) (fun x1 => (if (x1 &&& v1) = 0 then f76_J18  v0 v1 w
    else ob (getR w 7 v0 0) (fun x7 => (if (wsh w x7).map (fun q => q.1) = some 9 then ob (f8 x7 (3 : Int32) v2 w) (fun p9 => f76_J18  v0 v1 p9) else none))))
set_option maxRecDepth 10000 in
theorem r76 {S : Sc} (v0 : Nat) (v1 : Int32) (v2 : Int32) (w : Wd) (o : Wd) (h : f76 v0 v1 v2 w = some o) : Rn S 76 0 [some (.ref v0), some (.int v1), some (.int v2)] [] w (none, o) := by
  unfold f76 at h
  refine rn_aload_n (ft76 0 rfl) rfl ?_
  obtain ⟨x1, q2, h⟩ := ob_some h
  refine rn_getI (ft76 1 rfl) (by decide) (by decide) q2 ?_
  refine rn_iload_n (ft76 2 rfl) rfl ?_
  refine rn_iand (ft76 3 rfl) ?_
  by_cases c12 : (x1 &&& v1) = 0
  · replace h := ifp c12 h
    refine rn_if_eq_t (ft76 4 rfl) c12 ?_
    exact rn_forget (ls := [some (.ref v0), some (.int v1), none]) (And.intro rfl (And.intro rfl trivial)) (rf76_J18  v0 v1 w _  h)
  · replace h := ifn c12 h
    refine rn_if_eq_f (ft76 4 rfl) c12 ?_
    refine rn_aload_n (ft76 5 rfl) rfl ?_
    obtain ⟨x7, q8, h⟩ := ob_some h
    refine rn_getR (ft76 6 rfl) q8 ?_
    refine rn_iconst (v := (3 : Int32)) (ft76 7 rfl) (by decide) ?_
    refine rn_iload_n (ft76 8 rfl) rfl ?_
    obtain ⟨g11, h⟩ := ifg h
    obtain ⟨p9, q10, h⟩ := ob_some h
    refine rn_callV (as := [.int (3 : Int32), .int v2]) (k0 := x7) (r := []) (v := none) (w1 := p9) (ft76 9 rfl) (by decide +kernel) rfl (Nat.le_of_ble_eq_true rfl) (Nat.le_of_ble_eq_true rfl) (r8 x7 (3 : Int32) v2 w _ q10) (by decide +kernel) g11 ?_
    exact rn_forget (ls := [some (.ref v0), some (.int v1), none]) (And.intro rfl (And.intro rfl trivial)) (rf76_J18  v0 v1 p9 _  h)
