/-! THE METHODS AS FUNCTIONS, 12 -/
/-- NineWheelModel.lookAhead(III)I -/
theorem ft169 : ∀ (i : Nat) {q : Nat × XI}, cd169[i]? = some q → fetch 169 q.1 = some q.2 := ft_of (by decide +kernel)
theorem pr169 : pRt 169 = some .int := rfl
def f169_H6 (n : Nat)  (K4 : Nat → Int32 → Int32 → Int32 → Int32 → Wd → Option (Int32 × Wd)) : Nat → Nat → Int32 → Int32 → Int32 → Int32 → Int32 → Wd → Option (Int32 × Wd)
  | 0, _, _, _, _, _, _, _ => none
  | k + 1, v0, v1, v2, v3, v4, v5, w =>
    ob (getR w 11 v0 11) (fun x1 => ob (aldI w x1 v1) (fun x3 => (if x3 ≤ v5 then K4 v0 v1 v2 v3 v4 w
      else (fun (v0 : Nat) (v1 : Int32) (v2 : Int32) (v3 : Int32) (v4 : Int32) (v5 : Int32) w => f169_H6 n  K4 k v0 v1 v2 v3 v4 v5 w) v0 v1 v2 v3 (v4 * (3 : Int32)) (v5 + (1 : Int32)) w)))
set_option maxRecDepth 10000 in
theorem rf169_H6 {S : Sc} (n : Nat)  (K4 : Nat → Int32 → Int32 → Int32 → Int32 → Wd → Option (Int32 × Wd))  (hK4 : ∀ (y0 : Nat) (y1 : Int32) (y2 : Int32) (y3 : Int32) (y4 : Int32) (w : Wd) (o : (Int32 × Wd)), K4 y0 y1 y2 y3 y4 w = some o → Rn S 169 29 [some (.ref y0), some (.int y1), some (.int y2), some (.int y3), some (.int y4), none, none, none, none, none, none, none, none] [] w (some (.int o.1), o.2)) : ∀ (k : Nat) (v0 : Nat) (v1 : Int32) (v2 : Int32) (v3 : Int32) (v4 : Int32) (v5 : Int32) (w : Wd) (o : (Int32 × Wd)), f169_H6 n  K4 k v0 v1 v2 v3 v4 v5 w = some o → Rn S 169 6 [some (.ref v0), some (.int v1), some (.int v2), some (.int v3), some (.int v4), some (.int v5), none, none, none, none, none, none, none] [] w (some (.int o.1), o.2) := by
  intro k
  induction k with
  | zero =>
    intro v0 v1 v2 v3 v4 v5 w o h
    exact nomatch h
  | succ k ih =>
    intro v0 v1 v2 v3 v4 v5 w o h
    have hrec4 : ∀ (y0 : Nat) (y1 : Int32) (y2 : Int32) (y3 : Int32) (y4 : Int32) (y5 : Int32) (w : Wd) (o : (Int32 × Wd)), (fun (v0 : Nat) (v1 : Int32) (v2 : Int32) (v3 : Int32) (v4 : Int32) (v5 : Int32) w => f169_H6 n  K4 k v0 v1 v2 v3 v4 v5 w) y0 y1 y2 y3 y4 y5 w = some o → Rn S 169 6 [some (.ref y0), some (.int y1), some (.int y2), some (.int y3), some (.int y4), some (.int y5), none, none, none, none, none, none, none] [] w (some (.int o.1), o.2) := fun y0 y1 y2 y3 y4 y5 w o h => ih y0 y1 y2 y3 y4 y5 w o h
    unfold f169_H6 at h
    refine rn_iload (ft169 4 rfl) rfl ?_
    refine rn_aload_n (ft169 5 rfl) rfl ?_
    obtain ⟨x1, q2, h⟩ := ob_some h
    refine rn_getR (ft169 6 rfl) q2 ?_
    refine rn_iload_n (ft169 7 rfl) rfl ?_
    obtain ⟨x3, q4, h⟩ := ob_some h
    refine rn_iaload (ft169 8 rfl) q4 ?_
    by_cases c5 : x3 ≤ v5
    · replace h := ifp c5 h
      refine rn_icmp_ge_t (ft169 9 rfl) c5 ?_
      exact rn_forget (ls := [some (.ref v0), some (.int v1), some (.int v2), some (.int v3), some (.int v4), none, none, none, none, none, none, none, none]) (And.intro rfl (And.intro rfl (And.intro rfl (And.intro rfl (And.intro rfl trivial))))) (hK4 v0 v1 v2 v3 v4 w _ h)
    · replace h := ifn c5 h
      refine rn_icmp_ge_f (ft169 9 rfl) c5 ?_
      refine rn_iload (ft169 10 rfl) rfl ?_
      refine rn_iconst (v := (3 : Int32)) (ft169 11 rfl) (by decide) ?_
      refine rn_imul (ft169 12 rfl) ?_
      refine rn_istore (ls' := [some (.ref v0), some (.int v1), some (.int v2), some (.int v3), some (.int (v4 * (3 : Int32))), some (.int v5), none, none, none, none, none, none, none]) (ft169 13 rfl) rfl ?_
      refine rn_iinc (u := 1) (ls' := [some (.ref v0), some (.int v1), some (.int v2), some (.int v3), some (.int (v4 * (3 : Int32))), some (.int (v5 + (1 : Int32))), none, none, none, none, none, none, none]) (ft169 14 rfl) rfl (by decide) rfl ?_
      refine rn_goto (ft169 15 rfl) ?_
      exact rn_forget (ls := [some (.ref v0), some (.int v1), some (.int v2), some (.int v3), some (.int (v4 * (3 : Int32))), some (.int (v5 + (1 : Int32))), none, none, none, none, none, none, none]) (And.intro rfl (And.intro rfl (And.intro rfl (And.intro rfl (And.intro rfl (And.intro rfl trivial)))))) (hrec4 v0 v1 v2 v3 (v4 * (3 : Int32)) (v5 + (1 : Int32)) w _ h)
def f169_J117 (n : Nat) (rec22 : Nat → Int32 → Int32 → Int32 → Int32 → Int32 → Int32 → Int32 → Wd → Option (Int32 × Wd)) (K22 : Int32 → Int32 → Wd → Option (Int32 × Wd)) (rec35 : Nat → Int32 → Int32 → Int32 → Int32 → Int32 → Int32 → Int32 → Int32 → Int32 → Int32 → Int32 → Int32 → Wd → Option (Int32 × Wd)) (K35 : Nat → Int32 → Int32 → Int32 → Int32 → Int32 → Int32 → Int32 → Int32 → Wd → Option (Int32 × Wd)) (v0 : Nat) (v1 : Int32) (v2 : Int32) (v3 : Int32) (v4 : Int32) (v5 : Int32) (v6 : Int32) (v7 : Int32) (v8 : Int32) (v10 : Int32) (v11 : Int32) (v12 : Int32) (s0 : Int32) (w : Wd) : Option (Int32 × Wd) :=
  ob (getR w 11 v0 12) (fun x21 => ob (aldI w x21 (((64 : Int32) * v1) + s0)) (fun x23 => rec35 v0 v1 v2 v3 v4 v5 v6 v7 v8 s0 v10 (v11 + x23) (v12 + (1 : Int32)) w))
set_option maxRecDepth 10000 in
theorem rf169_J117 {S : Sc} (n : Nat) (rec22 : Nat → Int32 → Int32 → Int32 → Int32 → Int32 → Int32 → Int32 → Wd → Option (Int32 × Wd)) (K22 : Int32 → Int32 → Wd → Option (Int32 × Wd)) (rec35 : Nat → Int32 → Int32 → Int32 → Int32 → Int32 → Int32 → Int32 → Int32 → Int32 → Int32 → Int32 → Int32 → Wd → Option (Int32 × Wd)) (K35 : Nat → Int32 → Int32 → Int32 → Int32 → Int32 → Int32 → Int32 → Int32 → Wd → Option (Int32 × Wd)) (v0 : Nat) (v1 : Int32) (v2 : Int32) (v3 : Int32) (v4 : Int32) (v5 : Int32) (v6 : Int32) (v7 : Int32) (v8 : Int32) (v10 : Int32) (v11 : Int32) (v12 : Int32) (s0 : Int32) (w : Wd) (o : (Int32 × Wd)) (hrec22 : ∀ (y0 : Nat) (y1 : Int32) (y2 : Int32) (y3 : Int32) (y4 : Int32) (y5 : Int32) (y6 : Int32) (y7 : Int32) (w : Wd) (o : (Int32 × Wd)), rec22 y0 y1 y2 y3 y4 y5 y6 y7 w = some o → Rn S 169 38 [some (.ref y0), some (.int y1), some (.int y2), some (.int y3), some (.int y4), some (.int y5), some (.int y6), some (.int y7), none, none, none, none, none] [] w (some (.int o.1), o.2)) (hK22 : ∀ (y4 : Int32) (y5 : Int32) (w : Wd) (o : (Int32 × Wd)), K22 y4 y5 w = some o → Rn S 169 190 [none, none, none, none, some (.int y4), some (.int y5), none, none, none, none, none, none, none] [] w (some (.int o.1), o.2)) (hrec35 : ∀ (y0 : Nat) (y1 : Int32) (y2 : Int32) (y3 : Int32) (y4 : Int32) (y5 : Int32) (y6 : Int32) (y7 : Int32) (y8 : Int32) (y9 : Int32) (y10 : Int32) (y11 : Int32) (y12 : Int32) (w : Wd) (o : (Int32 × Wd)), rec35 y0 y1 y2 y3 y4 y5 y6 y7 y8 y9 y10 y11 y12 w = some o → Rn S 169 61 [some (.ref y0), some (.int y1), some (.int y2), some (.int y3), some (.int y4), some (.int y5), some (.int y6), some (.int y7), some (.int y8), some (.int y9), some (.int y10), some (.int y11), some (.int y12)] [] w (some (.int o.1), o.2)) (hK35 : ∀ (y0 : Nat) (y1 : Int32) (y2 : Int32) (y3 : Int32) (y4 : Int32) (y5 : Int32) (y6 : Int32) (y7 : Int32) (y11 : Int32) (w : Wd) (o : (Int32 × Wd)), K35 y0 y1 y2 y3 y4 y5 y6 y7 y11 w = some o → Rn S 169 142 [some (.ref y0), some (.int y1), some (.int y2), some (.int y3), some (.int y4), some (.int y5), some (.int y6), some (.int y7), none, none, none, some (.int y11), none] [] w (some (.int o.1), o.2)) (h : f169_J117 n rec22 K22 rec35 K35 v0 v1 v2 v3 v4 v5 v6 v7 v8 v10 v11 v12 s0 w = some o) : Rn S 169 117 [some (.ref v0), some (.int v1), some (.int v2), some (.int v3), some (.int v4), some (.int v5), some (.int v6), some (.int v7), some (.int v8), none, some (.int v10), some (.int v11), some (.int v12)] [.int s0] w (some (.int o.1), o.2) := by
  unfold f169_J117 at h
  refine rn_istore (ls' := [some (.ref v0), some (.int v1), some (.int v2), some (.int v3), some (.int v4), some (.int v5), some (.int v6), some (.int v7), some (.int v8), some (.int s0), some (.int v10), some (.int v11), some (.int v12)]) (ft169 64 rfl) rfl ?_
  refine rn_iload (ft169 65 rfl) rfl ?_
  refine rn_aload_n (ft169 66 rfl) rfl ?_
  obtain ⟨x21, q22, h⟩ := ob_some h
  refine rn_getR (ft169 67 rfl) q22 ?_
  refine rn_bipush (v := (64 : Int32)) (ft169 68 rfl) (by decide) ?_
  refine rn_iload_n (ft169 69 rfl) rfl ?_
  refine rn_imul (ft169 70 rfl) ?_
  refine rn_iload (ft169 71 rfl) rfl ?_
  refine rn_iadd (ft169 72 rfl) ?_
  obtain ⟨x23, q24, h⟩ := ob_some h
  refine rn_iaload (ft169 73 rfl) q24 ?_
  refine rn_iadd (ft169 74 rfl) ?_
  refine rn_istore (ls' := [some (.ref v0), some (.int v1), some (.int v2), some (.int v3), some (.int v4), some (.int v5), some (.int v6), some (.int v7), some (.int v8), some (.int s0), some (.int v10), some (.int (v11 + x23)), some (.int v12)]) (ft169 75 rfl) rfl ?_
  refine rn_iinc (u := 1) (ls' := [some (.ref v0), some (.int v1), some (.int v2), some (.int v3), some (.int v4), some (.int v5), some (.int v6), some (.int v7), some (.int v8), some (.int s0), some (.int v10), some (.int (v11 + x23)), some (.int (v12 + (1 : Int32)))]) (ft169 76 rfl) rfl (by decide) rfl ?_
  refine rn_goto (ft169 77 rfl) ?_
  exact rn_forget (ls := [some (.ref v0), some (.int v1), some (.int v2), some (.int v3), some (.int v4), some (.int v5), some (.int v6), some (.int v7), some (.int v8), some (.int s0), some (.int v10), some (.int (v11 + x23)), some (.int (v12 + (1 : Int32)))]) (And.intro rfl (And.intro rfl (And.intro rfl (And.intro rfl (And.intro rfl (And.intro rfl (And.intro rfl (And.intro rfl (And.intro rfl (And.intro rfl (And.intro rfl (And.intro rfl (And.intro rfl trivial))))))))))))) (hrec35 v0 v1 v2 v3 v4 v5 v6 v7 v8 s0 v10 (v11 + x23) (v12 + (1 : Int32)) w _ h)
def f169_H61 (n : Nat) (rec22 : Nat → Int32 → Int32 → Int32 → Int32 → Int32 → Int32 → Int32 → Wd → Option (Int32 × Wd)) (K22 : Int32 → Int32 → Wd → Option (Int32 × Wd)) (K35 : Nat → Int32 → Int32 → Int32 → Int32 → Int32 → Int32 → Int32 → Int32 → Wd → Option (Int32 × Wd)) : Nat → Nat → Int32 → Int32 → Int32 → Int32 → Int32 → Int32 → Int32 → Int32 → Int32 → Int32 → Int32 → Int32 → Wd → Option (Int32 × Wd)
  | 0, _, _, _, _, _, _, _, _, _, _, _, _, _, _ => none
  | k + 1, v0, v1, v2, v3, v4, v5, v6, v7, v8, v9, v10, v11, v12, w =>
    ob (getR w 11 v0 11) (fun x7 => ob (aldI w x7 v1) (fun x9 => (if x9 ≤ v12 then K35 v0 v1 v2 v3 v4 v5 v6 v7 v11 w
      else (if ¬ (v8 / (3 : Int32)) = 0 then ob (f52 (irm (v7 / (v8 / (3 : Int32))) (3 : Int32)) w) (fun p11 => ob (f51 v10 p11.1 p11.2) (fun p13 => ob (getR p13.2 11 v0 2) (fun x15 => ob (aldB p13.2 x15 v9) (fun x17 => (if x17 = 0 then ob (f123 v9 p13.1 p13.2) (fun p19 => f169_J117 n rec22 K22 (fun (v0 : Nat) (v1 : Int32) (v2 : Int32) (v3 : Int32) (v4 : Int32) (v5 : Int32) (v6 : Int32) (v7 : Int32) (v8 : Int32) (v9 : Int32) (v10 : Int32) (v11 : Int32) (v12 : Int32) w => f169_H61 n rec22 K22 K35 k v0 v1 v2 v3 v4 v5 v6 v7 v8 v9 v10 v11 v12 w) K35 v0 v1 v2 v3 v4 v5 v6 v7 (v8 / (3 : Int32)) p13.1 v11 v12 p19.1 p19.2)
        else f169_J117 n rec22 K22 (fun (v0 : Nat) (v1 : Int32) (v2 : Int32) (v3 : Int32) (v4 : Int32) (v5 : Int32) (v6 : Int32) (v7 : Int32) (v8 : Int32) (v9 : Int32) (v10 : Int32) (v11 : Int32) (v12 : Int32) w => f169_H61 n rec22 K22 K35 k v0 v1 v2 v3 v4 v5 v6 v7 v8 v9 v10 v11 v12 w) K35 v0 v1 v2 v3 v4 v5 v6 v7 (v8 / (3 : Int32)) p13.1 v11 v12 v9 p13.2))))) else none))))
set_option maxRecDepth 10000 in
theorem rf169_H61 {S : Sc} (n : Nat) (rec22 : Nat → Int32 → Int32 → Int32 → Int32 → Int32 → Int32 → Int32 → Wd → Option (Int32 × Wd)) (K22 : Int32 → Int32 → Wd → Option (Int32 × Wd)) (K35 : Nat → Int32 → Int32 → Int32 → Int32 → Int32 → Int32 → Int32 → Int32 → Wd → Option (Int32 × Wd)) (hrec22 : ∀ (y0 : Nat) (y1 : Int32) (y2 : Int32) (y3 : Int32) (y4 : Int32) (y5 : Int32) (y6 : Int32) (y7 : Int32) (w : Wd) (o : (Int32 × Wd)), rec22 y0 y1 y2 y3 y4 y5 y6 y7 w = some o → Rn S 169 38 [some (.ref y0), some (.int y1), some (.int y2), some (.int y3), some (.int y4), some (.int y5), some (.int y6), some (.int y7), none, none, none, none, none] [] w (some (.int o.1), o.2)) (hK22 : ∀ (y4 : Int32) (y5 : Int32) (w : Wd) (o : (Int32 × Wd)), K22 y4 y5 w = some o → Rn S 169 190 [none, none, none, none, some (.int y4), some (.int y5), none, none, none, none, none, none, none] [] w (some (.int o.1), o.2)) (hK35 : ∀ (y0 : Nat) (y1 : Int32) (y2 : Int32) (y3 : Int32) (y4 : Int32) (y5 : Int32) (y6 : Int32) (y7 : Int32) (y11 : Int32) (w : Wd) (o : (Int32 × Wd)), K35 y0 y1 y2 y3 y4 y5 y6 y7 y11 w = some o → Rn S 169 142 [some (.ref y0), some (.int y1), some (.int y2), some (.int y3), some (.int y4), some (.int y5), some (.int y6), some (.int y7), none, none, none, some (.int y11), none] [] w (some (.int o.1), o.2)) : ∀ (k : Nat) (v0 : Nat) (v1 : Int32) (v2 : Int32) (v3 : Int32) (v4 : Int32) (v5 : Int32) (v6 : Int32) (v7 : Int32) (v8 : Int32) (v9 : Int32) (v10 : Int32) (v11 : Int32) (v12 : Int32) (w : Wd) (o : (Int32 × Wd)), f169_H61 n rec22 K22 K35 k v0 v1 v2 v3 v4 v5 v6 v7 v8 v9 v10 v11 v12 w = some o → Rn S 169 61 [some (.ref v0), some (.int v1), some (.int v2), some (.int v3), some (.int v4), some (.int v5), some (.int v6), some (.int v7), some (.int v8), some (.int v9), some (.int v10), some (.int v11), some (.int v12)] [] w (some (.int o.1), o.2) := by
  intro k
  induction k with
  | zero =>
    intro v0 v1 v2 v3 v4 v5 v6 v7 v8 v9 v10 v11 v12 w o h
    exact nomatch h
  | succ k ih =>
    intro v0 v1 v2 v3 v4 v5 v6 v7 v8 v9 v10 v11 v12 w o h
    have hrec35 : ∀ (y0 : Nat) (y1 : Int32) (y2 : Int32) (y3 : Int32) (y4 : Int32) (y5 : Int32) (y6 : Int32) (y7 : Int32) (y8 : Int32) (y9 : Int32) (y10 : Int32) (y11 : Int32) (y12 : Int32) (w : Wd) (o : (Int32 × Wd)), (fun (v0 : Nat) (v1 : Int32) (v2 : Int32) (v3 : Int32) (v4 : Int32) (v5 : Int32) (v6 : Int32) (v7 : Int32) (v8 : Int32) (v9 : Int32) (v10 : Int32) (v11 : Int32) (v12 : Int32) w => f169_H61 n rec22 K22 K35 k v0 v1 v2 v3 v4 v5 v6 v7 v8 v9 v10 v11 v12 w) y0 y1 y2 y3 y4 y5 y6 y7 y8 y9 y10 y11 y12 w = some o → Rn S 169 61 [some (.ref y0), some (.int y1), some (.int y2), some (.int y3), some (.int y4), some (.int y5), some (.int y6), some (.int y7), some (.int y8), some (.int y9), some (.int y10), some (.int y11), some (.int y12)] [] w (some (.int o.1), o.2) := fun y0 y1 y2 y3 y4 y5 y6 y7 y8 y9 y10 y11 y12 w o h => ih y0 y1 y2 y3 y4 y5 y6 y7 y8 y9 y10 y11 y12 w o h
    unfold f169_H61 at h
    refine rn_iload (ft169 35 rfl) rfl ?_
    refine rn_aload_n (ft169 36 rfl) rfl ?_
    obtain ⟨x7, q8, h⟩ := ob_some h
    refine rn_getR (ft169 37 rfl) q8 ?_
    refine rn_iload_n (ft169 38 rfl) rfl ?_
    obtain ⟨x9, q10, h⟩ := ob_some h
    refine rn_iaload (ft169 39 rfl) q10 ?_
    by_cases c27 : x9 ≤ v12
    · replace h := ifp c27 h
      refine rn_icmp_ge_t (ft169 40 rfl) c27 ?_
      exact rn_forget (ls := [some (.ref v0), some (.int v1), some (.int v2), some (.int v3), some (.int v4), some (.int v5), some (.int v6), some (.int v7), none, none, none, some (.int v11), none]) (And.intro rfl (And.intro rfl (And.intro rfl (And.intro rfl (And.intro rfl (And.intro rfl (And.intro rfl (And.intro rfl (And.intro rfl trivial))))))))) (hK35 v0 v1 v2 v3 v4 v5 v6 v7 v11 w _ h)
    · replace h := ifn c27 h
      refine rn_icmp_ge_f (ft169 40 rfl) c27 ?_
      refine rn_iload (ft169 41 rfl) rfl ?_
      refine rn_iconst (v := (3 : Int32)) (ft169 42 rfl) (by decide) ?_
      refine rn_idiv (ft169 43 rfl) (by decide) ?_
      refine rn_istore (ls' := [some (.ref v0), some (.int v1), some (.int v2), some (.int v3), some (.int v4), some (.int v5), some (.int v6), some (.int v7), some (.int (v8 / (3 : Int32))), some (.int v9), some (.int v10), some (.int v11), some (.int v12)]) (ft169 44 rfl) rfl ?_
      refine rn_iload (ft169 45 rfl) rfl ?_
      refine rn_iload (ft169 46 rfl) rfl ?_
      refine rn_iload (ft169 47 rfl) rfl ?_
      obtain ⟨g26, h⟩ := ifg h
      refine rn_idiv (ft169 48 rfl) g26 ?_
      refine rn_iconst (v := (3 : Int32)) (ft169 49 rfl) (by decide) ?_
      refine rn_irem (ft169 50 rfl) (by decide) ?_
      obtain ⟨p11, q12, h⟩ := ob_some h
      refine rn_callS (as := [.int (irm (v7 / (v8 / (3 : Int32))) (3 : Int32))]) (r := [.int v10]) (v := (some (.int p11.1))) (w1 := p11.2) (ft169 51 rfl) (by decide +kernel) rfl (Nat.le_of_ble_eq_true rfl) (Nat.le_of_ble_eq_true rfl) (r52 (irm (v7 / (v8 / (3 : Int32))) (3 : Int32)) w _ q12) ?_
      obtain ⟨p13, q14, h⟩ := ob_some h
      refine rn_callS (as := [.int v10, .int p11.1]) (r := []) (v := (some (.int p13.1))) (w1 := p13.2) (ft169 52 rfl) (by decide +kernel) rfl (Nat.le_of_ble_eq_true rfl) (Nat.le_of_ble_eq_true rfl) (r51 v10 p11.1 p11.2 _ q14) ?_
      refine rn_istore (ls' := [some (.ref v0), some (.int v1), some (.int v2), some (.int v3), some (.int v4), some (.int v5), some (.int v6), some (.int v7), some (.int (v8 / (3 : Int32))), some (.int v9), some (.int p13.1), some (.int v11), some (.int v12)]) (ft169 53 rfl) rfl ?_
      refine rn_aload_n (ft169 54 rfl) rfl ?_
      obtain ⟨x15, q16, h⟩ := ob_some h
      refine rn_getR (ft169 55 rfl) q16 ?_
      refine rn_iload (ft169 56 rfl) rfl ?_
      obtain ⟨x17, q18, h⟩ := ob_some h
      refine rn_baload (ft169 57 rfl) q18 ?_
      by_cases c25 : x17 = 0
      · replace h := ifp c25 h
        refine rn_if_eq_t (ft169 58 rfl) c25 ?_
        refine rn_iload (ft169 61 rfl) rfl ?_
        refine rn_iload (ft169 62 rfl) rfl ?_
        obtain ⟨p19, q20, h⟩ := ob_some h
        refine rn_callS (as := [.int v9, .int p13.1]) (r := []) (v := (some (.int p19.1))) (w1 := p19.2) (ft169 63 rfl) (by decide +kernel) rfl (Nat.le_of_ble_eq_true rfl) (Nat.le_of_ble_eq_true rfl) (r123 v9 p13.1 p13.2 _ q20) ?_
        exact rn_forget (ls := [some (.ref v0), some (.int v1), some (.int v2), some (.int v3), some (.int v4), some (.int v5), some (.int v6), some (.int v7), some (.int (v8 / (3 : Int32))), none, some (.int p13.1), some (.int v11), some (.int v12)]) (And.intro rfl (And.intro rfl (And.intro rfl (And.intro rfl (And.intro rfl (And.intro rfl (And.intro rfl (And.intro rfl (And.intro rfl (And.intro rfl (And.intro rfl (And.intro rfl trivial)))))))))))) (rf169_J117 n rec22 K22 (fun (v0 : Nat) (v1 : Int32) (v2 : Int32) (v3 : Int32) (v4 : Int32) (v5 : Int32) (v6 : Int32) (v7 : Int32) (v8 : Int32) (v9 : Int32) (v10 : Int32) (v11 : Int32) (v12 : Int32) w => f169_H61 n rec22 K22 K35 k v0 v1 v2 v3 v4 v5 v6 v7 v8 v9 v10 v11 v12 w) K35 v0 v1 v2 v3 v4 v5 v6 v7 (v8 / (3 : Int32)) p13.1 v11 v12 p19.1 p19.2 _ hrec22 hK22 hrec35 hK35 h)
      · replace h := ifn c25 h
        refine rn_if_eq_f (ft169 58 rfl) c25 ?_
        refine rn_iload (ft169 59 rfl) rfl ?_
        refine rn_goto (ft169 60 rfl) ?_
        exact rn_forget (ls := [some (.ref v0), some (.int v1), some (.int v2), some (.int v3), some (.int v4), some (.int v5), some (.int v6), some (.int v7), some (.int (v8 / (3 : Int32))), none, some (.int p13.1), some (.int v11), some (.int v12)]) (And.intro rfl (And.intro rfl (And.intro rfl (And.intro rfl (And.intro rfl (And.intro rfl (And.intro rfl (And.intro rfl (And.intro rfl (And.intro rfl (And.intro rfl (And.intro rfl trivial)))))))))))) (rf169_J117 n rec22 K22 (fun (v0 : Nat) (v1 : Int32) (v2 : Int32) (v3 : Int32) (v4 : Int32) (v5 : Int32) (v6 : Int32) (v7 : Int32) (v8 : Int32) (v9 : Int32) (v10 : Int32) (v11 : Int32) (v12 : Int32) w => f169_H61 n rec22 K22 K35 k v0 v1 v2 v3 v4 v5 v6 v7 v8 v9 v10 v11 v12 w) K35 v0 v1 v2 v3 v4 v5 v6 v7 (v8 / (3 : Int32)) p13.1 v11 v12 v9 p13.2 _ hrec22 hK22 hrec35 hK35 h)
def f169_J161 (n : Nat) (rec22 : Nat → Int32 → Int32 → Int32 → Int32 → Int32 → Int32 → Int32 → Wd → Option (Int32 × Wd)) (K22 : Int32 → Int32 → Wd → Option (Int32 × Wd)) (v0 : Nat) (v1 : Int32) (v2 : Int32) (v3 : Int32) (v4 : Int32) (v6 : Int32) (v7 : Int32) (v11 : Int32) (s0 : Int32) (w : Wd) : Option (Int32 × Wd) :=
  (if v7 = 0 then rec22 v0 v1 v2 v3 v4 s0 v11 (v7 + (1 : Int32)) w
    else (if v11 ≤ v6 then rec22 v0 v1 v2 v3 v4 s0 v6 (v7 + (1 : Int32)) w
      else rec22 v0 v1 v2 v3 v4 s0 v11 (v7 + (1 : Int32)) w))
set_option maxRecDepth 10000 in
theorem rf169_J161 {S : Sc} (n : Nat) (rec22 : Nat → Int32 → Int32 → Int32 → Int32 → Int32 → Int32 → Int32 → Wd → Option (Int32 × Wd)) (K22 : Int32 → Int32 → Wd → Option (Int32 × Wd)) (v0 : Nat) (v1 : Int32) (v2 : Int32) (v3 : Int32) (v4 : Int32) (v6 : Int32) (v7 : Int32) (v11 : Int32) (s0 : Int32) (w : Wd) (o : (Int32 × Wd)) (hrec22 : ∀ (y0 : Nat) (y1 : Int32) (y2 : Int32) (y3 : Int32) (y4 : Int32) (y5 : Int32) (y6 : Int32) (y7 : Int32) (w : Wd) (o : (Int32 × Wd)), rec22 y0 y1 y2 y3 y4 y5 y6 y7 w = some o → Rn S 169 38 [some (.ref y0), some (.int y1), some (.int y2), some (.int y3), some (.int y4), some (.int y5), some (.int y6), some (.int y7), none, none, none, none, none] [] w (some (.int o.1), o.2)) (hK22 : ∀ (y4 : Int32) (y5 : Int32) (w : Wd) (o : (Int32 × Wd)), K22 y4 y5 w = some o → Rn S 169 190 [none, none, none, none, some (.int y4), some (.int y5), none, none, none, none, none, none, none] [] w (some (.int o.1), o.2)) (h : f169_J161 n rec22 K22 v0 v1 v2 v3 v4 v6 v7 v11 s0 w = some o) : Rn S 169 161 [some (.ref v0), some (.int v1), some (.int v2), some (.int v3), some (.int v4), none, some (.int v6), some (.int v7), none, none, none, some (.int v11), none] [.int s0] w (some (.int o.1), o.2) := by
  unfold f169_J161 at h
  refine rn_istore (ls' := [some (.ref v0), some (.int v1), some (.int v2), some (.int v3), some (.int v4), some (.int s0), some (.int v6), some (.int v7), none, none, none, some (.int v11), none]) (ft169 86 rfl) rfl ?_
  refine rn_iload (ft169 87 rfl) rfl ?_
  by_cases c30 : v7 = 0
  · replace h := ifp c30 h
    refine rn_if_eq_t (ft169 88 rfl) c30 ?_
    refine rn_iload (ft169 92 rfl) rfl ?_
    refine rn_goto (ft169 93 rfl) ?_
    refine rn_istore (ls' := [some (.ref v0), some (.int v1), some (.int v2), some (.int v3), some (.int v4), some (.int s0), some (.int v11), some (.int v7), none, none, none, some (.int v11), none]) (ft169 95 rfl) rfl ?_
    refine rn_iinc (u := 1) (ls' := [some (.ref v0), some (.int v1), some (.int v2), some (.int v3), some (.int v4), some (.int s0), some (.int v11), some (.int (v7 + (1 : Int32))), none, none, none, some (.int v11), none]) (ft169 96 rfl) rfl (by decide) rfl ?_
    refine rn_goto (ft169 97 rfl) ?_
    exact rn_forget (ls := [some (.ref v0), some (.int v1), some (.int v2), some (.int v3), some (.int v4), some (.int s0), some (.int v11), some (.int (v7 + (1 : Int32))), none, none, none, none, none]) (And.intro rfl (And.intro rfl (And.intro rfl (And.intro rfl (And.intro rfl (And.intro rfl (And.intro rfl (And.intro rfl trivial)))))))) (hrec22 v0 v1 v2 v3 v4 s0 v11 (v7 + (1 : Int32)) w _ h)
  · replace h := ifn c30 h
    refine rn_if_eq_f (ft169 88 rfl) c30 ?_
    refine rn_iload (ft169 89 rfl) rfl ?_
    refine rn_iload (ft169 90 rfl) rfl ?_
    by_cases c29 : v11 ≤ v6
    · replace h := ifp c29 h
      refine rn_icmp_le_t (ft169 91 rfl) c29 ?_
      refine rn_iload (ft169 94 rfl) rfl ?_
      refine rn_istore (ls' := [some (.ref v0), some (.int v1), some (.int v2), some (.int v3), some (.int v4), some (.int s0), some (.int v6), some (.int v7), none, none, none, some (.int v11), none]) (ft169 95 rfl) rfl ?_
      refine rn_iinc (u := 1) (ls' := [some (.ref v0), some (.int v1), some (.int v2), some (.int v3), some (.int v4), some (.int s0), some (.int v6), some (.int (v7 + (1 : Int32))), none, none, none, some (.int v11), none]) (ft169 96 rfl) rfl (by decide) rfl ?_
      refine rn_goto (ft169 97 rfl) ?_
      exact rn_forget (ls := [some (.ref v0), some (.int v1), some (.int v2), some (.int v3), some (.int v4), some (.int s0), some (.int v6), some (.int (v7 + (1 : Int32))), none, none, none, none, none]) (And.intro rfl (And.intro rfl (And.intro rfl (And.intro rfl (And.intro rfl (And.intro rfl (And.intro rfl (And.intro rfl trivial)))))))) (hrec22 v0 v1 v2 v3 v4 s0 v6 (v7 + (1 : Int32)) w _ h)
    · replace h := ifn c29 h
      refine rn_icmp_le_f (ft169 91 rfl) c29 ?_
      refine rn_iload (ft169 92 rfl) rfl ?_
      refine rn_goto (ft169 93 rfl) ?_
      refine rn_istore (ls' := [some (.ref v0), some (.int v1), some (.int v2), some (.int v3), some (.int v4), some (.int s0), some (.int v11), some (.int v7), none, none, none, some (.int v11), none]) (ft169 95 rfl) rfl ?_
      refine rn_iinc (u := 1) (ls' := [some (.ref v0), some (.int v1), some (.int v2), some (.int v3), some (.int v4), some (.int s0), some (.int v11), some (.int (v7 + (1 : Int32))), none, none, none, some (.int v11), none]) (ft169 96 rfl) rfl (by decide) rfl ?_
      refine rn_goto (ft169 97 rfl) ?_
      exact rn_forget (ls := [some (.ref v0), some (.int v1), some (.int v2), some (.int v3), some (.int v4), some (.int s0), some (.int v11), some (.int (v7 + (1 : Int32))), none, none, none, none, none]) (And.intro rfl (And.intro rfl (And.intro rfl (And.intro rfl (And.intro rfl (And.intro rfl (And.intro rfl (And.intro rfl trivial)))))))) (hrec22 v0 v1 v2 v3 v4 s0 v11 (v7 + (1 : Int32)) w _ h)
def f169_H38 (n : Nat)  (K22 : Int32 → Int32 → Wd → Option (Int32 × Wd)) : Nat → Nat → Int32 → Int32 → Int32 → Int32 → Int32 → Int32 → Int32 → Wd → Option (Int32 × Wd)
  | 0, _, _, _, _, _, _, _, _, _ => none
  | k + 1, v0, v1, v2, v3, v4, v5, v6, v7, w =>
    (if v4 ≤ v7 then K22 v4 v5 w
      else f169_H61 n (fun (v0 : Nat) (v1 : Int32) (v2 : Int32) (v3 : Int32) (v4 : Int32) (v5 : Int32) (v6 : Int32) (v7 : Int32) w => f169_H38 n  K22 k v0 v1 v2 v3 v4 v5 v6 v7 w) K22 (fun (e0_28 : Nat) (e1_28 : Int32) (e2_28 : Int32) (e3_28 : Int32) (e4_28 : Int32) (e5_28 : Int32) (e6_28 : Int32) (e7_28 : Int32) (e11_28 : Int32) (w28 : Wd) => (if e7_28 = 0 then f169_J161 n (fun (v0 : Nat) (v1 : Int32) (v2 : Int32) (v3 : Int32) (v4 : Int32) (v5 : Int32) (v6 : Int32) (v7 : Int32) w => f169_H38 n  K22 k v0 v1 v2 v3 v4 v5 v6 v7 w) K22 e0_28 e1_28 e2_28 e3_28 e4_28 e6_28 e7_28 e11_28 e7_28 w28
          else (if e11_28 ≤ e6_28 then f169_J161 n (fun (v0 : Nat) (v1 : Int32) (v2 : Int32) (v3 : Int32) (v4 : Int32) (v5 : Int32) (v6 : Int32) (v7 : Int32) w => f169_H38 n  K22 k v0 v1 v2 v3 v4 v5 v6 v7 w) K22 e0_28 e1_28 e2_28 e3_28 e4_28 e6_28 e7_28 e11_28 e5_28 w28
            else f169_J161 n (fun (v0 : Nat) (v1 : Int32) (v2 : Int32) (v3 : Int32) (v4 : Int32) (v5 : Int32) (v6 : Int32) (v7 : Int32) w => f169_H38 n  K22 k v0 v1 v2 v3 v4 v5 v6 v7 w) K22 e0_28 e1_28 e2_28 e3_28 e4_28 e6_28 e7_28 e11_28 e7_28 w28))) n v0 v1 v2 v3 v4 v5 v6 v7 v4 v2 v3 (0 : Int32) (0 : Int32) w)
set_option maxRecDepth 10000 in
theorem rf169_H38 {S : Sc} (n : Nat)  (K22 : Int32 → Int32 → Wd → Option (Int32 × Wd))  (hK22 : ∀ (y4 : Int32) (y5 : Int32) (w : Wd) (o : (Int32 × Wd)), K22 y4 y5 w = some o → Rn S 169 190 [none, none, none, none, some (.int y4), some (.int y5), none, none, none, none, none, none, none] [] w (some (.int o.1), o.2)) : ∀ (k : Nat) (v0 : Nat) (v1 : Int32) (v2 : Int32) (v3 : Int32) (v4 : Int32) (v5 : Int32) (v6 : Int32) (v7 : Int32) (w : Wd) (o : (Int32 × Wd)), f169_H38 n  K22 k v0 v1 v2 v3 v4 v5 v6 v7 w = some o → Rn S 169 38 [some (.ref v0), some (.int v1), some (.int v2), some (.int v3), some (.int v4), some (.int v5), some (.int v6), some (.int v7), none, none, none, none, none] [] w (some (.int o.1), o.2) := by
  intro k
  induction k with
  | zero =>
    intro v0 v1 v2 v3 v4 v5 v6 v7 w o h
    exact nomatch h
  | succ k ih =>
    intro v0 v1 v2 v3 v4 v5 v6 v7 w o h
    have hrec22 : ∀ (y0 : Nat) (y1 : Int32) (y2 : Int32) (y3 : Int32) (y4 : Int32) (y5 : Int32) (y6 : Int32) (y7 : Int32) (w : Wd) (o : (Int32 × Wd)), (fun (v0 : Nat) (v1 : Int32) (v2 : Int32) (v3 : Int32) (v4 : Int32) (v5 : Int32) (v6 : Int32) (v7 : Int32) w => f169_H38 n  K22 k v0 v1 v2 v3 v4 v5 v6 v7 w) y0 y1 y2 y3 y4 y5 y6 y7 w = some o → Rn S 169 38 [some (.ref y0), some (.int y1), some (.int y2), some (.int y3), some (.int y4), some (.int y5), some (.int y6), some (.int y7), none, none, none, none, none] [] w (some (.int o.1), o.2) := fun y0 y1 y2 y3 y4 y5 y6 y7 w o h => ih y0 y1 y2 y3 y4 y5 y6 y7 w o h
    unfold f169_H38 at h
    refine rn_iload (ft169 22 rfl) rfl ?_
    refine rn_iload (ft169 23 rfl) rfl ?_
    by_cases c33 : v4 ≤ v7
    · replace h := ifp c33 h
      refine rn_icmp_ge_t (ft169 24 rfl) c33 ?_
      exact rn_forget (ls := [none, none, none, none, some (.int v4), some (.int v5), none, none, none, none, none, none, none]) (And.intro rfl (And.intro rfl trivial)) (hK22 v4 v5 w _ h)
    · replace h := ifn c33 h
      refine rn_icmp_ge_f (ft169 24 rfl) c33 ?_
      refine rn_iload (ft169 25 rfl) rfl ?_
      refine rn_istore (ls' := [some (.ref v0), some (.int v1), some (.int v2), some (.int v3), some (.int v4), some (.int v5), some (.int v6), some (.int v7), some (.int v4), none, none, none, none]) (ft169 26 rfl) rfl ?_
      refine rn_iload_n (ft169 27 rfl) rfl ?_
      refine rn_istore (ls' := [some (.ref v0), some (.int v1), some (.int v2), some (.int v3), some (.int v4), some (.int v5), some (.int v6), some (.int v7), some (.int v4), some (.int v2), none, none, none]) (ft169 28 rfl) rfl ?_
      refine rn_iload_n (ft169 29 rfl) rfl ?_
      refine rn_istore (ls' := [some (.ref v0), some (.int v1), some (.int v2), some (.int v3), some (.int v4), some (.int v5), some (.int v6), some (.int v7), some (.int v4), some (.int v2), some (.int v3), none, none]) (ft169 30 rfl) rfl ?_
      refine rn_iconst (v := (0 : Int32)) (ft169 31 rfl) (by decide) ?_
      refine rn_istore (ls' := [some (.ref v0), some (.int v1), some (.int v2), some (.int v3), some (.int v4), some (.int v5), some (.int v6), some (.int v7), some (.int v4), some (.int v2), some (.int v3), some (.int (0 : Int32)), none]) (ft169 32 rfl) rfl ?_
      refine rn_iconst (v := (0 : Int32)) (ft169 33 rfl) (by decide) ?_
      refine rn_istore (ls' := [some (.ref v0), some (.int v1), some (.int v2), some (.int v3), some (.int v4), some (.int v5), some (.int v6), some (.int v7), some (.int v4), some (.int v2), some (.int v3), some (.int (0 : Int32)), some (.int (0 : Int32))]) (ft169 34 rfl) rfl ?_
      refine rn_forget (ls := [some (.ref v0), some (.int v1), some (.int v2), some (.int v3), some (.int v4), some (.int v5), some (.int v6), some (.int v7), some (.int v4), some (.int v2), some (.int v3), some (.int (0 : Int32)), some (.int (0 : Int32))]) (And.intro rfl (And.intro rfl (And.intro rfl (And.intro rfl (And.intro rfl (And.intro rfl (And.intro rfl (And.intro rfl (And.intro rfl (And.intro rfl (And.intro rfl (And.intro rfl (And.intro rfl trivial))))))))))))) (rf169_H61 n (fun (v0 : Nat) (v1 : Int32) (v2 : Int32) (v3 : Int32) (v4 : Int32) (v5 : Int32) (v6 : Int32) (v7 : Int32) w => f169_H38 n  K22 k v0 v1 v2 v3 v4 v5 v6 v7 w) K22 _ hrec22 hK22 (fun e0_28 e1_28 e2_28 e3_28 e4_28 e5_28 e6_28 e7_28 e11_28 w28 o h => ?_) n v0 v1 v2 v3 v4 v5 v6 v7 v4 v2 v3 (0 : Int32) (0 : Int32) w _ h)
      refine rn_iload (ft169 78 rfl) rfl ?_
      by_cases c32 : e7_28 = 0
      · replace h := ifp c32 h
        refine rn_if_eq_t (ft169 79 rfl) c32 ?_
        refine rn_iload (ft169 83 rfl) rfl ?_
        refine rn_goto (ft169 84 rfl) ?_
        exact rn_forget (ls := [some (.ref e0_28), some (.int e1_28), some (.int e2_28), some (.int e3_28), some (.int e4_28), none, some (.int e6_28), some (.int e7_28), none, none, none, some (.int e11_28), none]) (And.intro rfl (And.intro rfl (And.intro rfl (And.intro rfl (And.intro rfl (And.intro rfl (And.intro rfl (And.intro rfl trivial)))))))) (rf169_J161 n (fun (v0 : Nat) (v1 : Int32) (v2 : Int32) (v3 : Int32) (v4 : Int32) (v5 : Int32) (v6 : Int32) (v7 : Int32) w => f169_H38 n  K22 k v0 v1 v2 v3 v4 v5 v6 v7 w) K22 e0_28 e1_28 e2_28 e3_28 e4_28 e6_28 e7_28 e11_28 e7_28 w28 _ hrec22 hK22 h)
      · replace h := ifn c32 h
        refine rn_if_eq_f (ft169 79 rfl) c32 ?_
        refine rn_iload (ft169 80 rfl) rfl ?_
        refine rn_iload (ft169 81 rfl) rfl ?_
        by_cases c31 : e11_28 ≤ e6_28
        · replace h := ifp c31 h
          refine rn_icmp_le_t (ft169 82 rfl) c31 ?_
          refine rn_iload (ft169 85 rfl) rfl ?_
          exact rn_forget (ls := [some (.ref e0_28), some (.int e1_28), some (.int e2_28), some (.int e3_28), some (.int e4_28), none, some (.int e6_28), some (.int e7_28), none, none, none, some (.int e11_28), none]) (And.intro rfl (And.intro rfl (And.intro rfl (And.intro rfl (And.intro rfl (And.intro rfl (And.intro rfl (And.intro rfl trivial)))))))) (rf169_J161 n (fun (v0 : Nat) (v1 : Int32) (v2 : Int32) (v3 : Int32) (v4 : Int32) (v5 : Int32) (v6 : Int32) (v7 : Int32) w => f169_H38 n  K22 k v0 v1 v2 v3 v4 v5 v6 v7 w) K22 e0_28 e1_28 e2_28 e3_28 e4_28 e6_28 e7_28 e11_28 e5_28 w28 _ hrec22 hK22 h)
        · replace h := ifn c31 h
          refine rn_icmp_le_f (ft169 82 rfl) c31 ?_
          refine rn_iload (ft169 83 rfl) rfl ?_
          refine rn_goto (ft169 84 rfl) ?_
          exact rn_forget (ls := [some (.ref e0_28), some (.int e1_28), some (.int e2_28), some (.int e3_28), some (.int e4_28), none, some (.int e6_28), some (.int e7_28), none, none, none, some (.int e11_28), none]) (And.intro rfl (And.intro rfl (And.intro rfl (And.intro rfl (And.intro rfl (And.intro rfl (And.intro rfl (And.intro rfl trivial)))))))) (rf169_J161 n (fun (v0 : Nat) (v1 : Int32) (v2 : Int32) (v3 : Int32) (v4 : Int32) (v5 : Int32) (v6 : Int32) (v7 : Int32) w => f169_H38 n  K22 k v0 v1 v2 v3 v4 v5 v6 v7 w) K22 e0_28 e1_28 e2_28 e3_28 e4_28 e6_28 e7_28 e11_28 e7_28 w28 _ hrec22 hK22 h)
def f169 (n : Nat) (v0 : Nat) (v1 : Int32) (v2 : Int32) (v3 : Int32) (w : Wd) : Option (Int32 × Wd) :=
  f169_H6 n  (fun (e0_6 : Nat) (e1_6 : Int32) (e2_6 : Int32) (e3_6 : Int32) (e4_6 : Int32) (w6 : Wd) => f169_H38 n  (fun (e4_34 : Int32) (e5_34 : Int32) (w34 : Wd) => (if ¬ (e4_34 / (3 : Int32)) = 0 then ob (f52 (e5_34 / (e4_34 / (3 : Int32))) w34) (fun p35 => some (p35.1, p35.2)) else none)) n e0_6 e1_6 e2_6 e3_6 e4_6 (0 : Int32) (0 : Int32) (0 : Int32) w6) n v0 v1 v2 v3 (1 : Int32) (0 : Int32) w
set_option maxRecDepth 10000 in
theorem r169 {S : Sc} (n : Nat) (v0 : Nat) (v1 : Int32) (v2 : Int32) (v3 : Int32) (w : Wd) (o : (Int32 × Wd)) (h : f169 n v0 v1 v2 v3 w = some o) : Rn S 169 0 [some (.ref v0), some (.int v1), some (.int v2), some (.int v3), none, none, none, none, none, none, none, none, none] [] w (some (.int o.1), o.2) := by
  unfold f169 at h
  refine rn_iconst (v := (1 : Int32)) (ft169 0 rfl) (by decide) ?_
  refine rn_istore (ls' := [some (.ref v0), some (.int v1), some (.int v2), some (.int v3), some (.int (1 : Int32)), none, none, none, none, none, none, none, none]) (ft169 1 rfl) rfl ?_
  refine rn_iconst (v := (0 : Int32)) (ft169 2 rfl) (by decide) ?_
  refine rn_istore (ls' := [some (.ref v0), some (.int v1), some (.int v2), some (.int v3), some (.int (1 : Int32)), some (.int (0 : Int32)), none, none, none, none, none, none, none]) (ft169 3 rfl) rfl ?_
  refine rn_forget (ls := [some (.ref v0), some (.int v1), some (.int v2), some (.int v3), some (.int (1 : Int32)), some (.int (0 : Int32)), none, none, none, none, none, none, none]) (And.intro rfl (And.intro rfl (And.intro rfl (And.intro rfl (And.intro rfl (And.intro rfl trivial)))))) (rf169_H6 n  _  (fun e0_6 e1_6 e2_6 e3_6 e4_6 w6 o h => ?_) n v0 v1 v2 v3 (1 : Int32) (0 : Int32) w _ h)
  refine rn_iconst (v := (0 : Int32)) (ft169 16 rfl) (by decide) ?_
  refine rn_istore (ls' := [some (.ref e0_6), some (.int e1_6), some (.int e2_6), some (.int e3_6), some (.int e4_6), some (.int (0 : Int32)), none, none, none, none, none, none, none]) (ft169 17 rfl) rfl ?_
  refine rn_iconst (v := (0 : Int32)) (ft169 18 rfl) (by decide) ?_
  refine rn_istore (ls' := [some (.ref e0_6), some (.int e1_6), some (.int e2_6), some (.int e3_6), some (.int e4_6), some (.int (0 : Int32)), some (.int (0 : Int32)), none, none, none, none, none, none]) (ft169 19 rfl) rfl ?_
  refine rn_iconst (v := (0 : Int32)) (ft169 20 rfl) (by decide) ?_
  refine rn_istore (ls' := [some (.ref e0_6), some (.int e1_6), some (.int e2_6), some (.int e3_6), some (.int e4_6), some (.int (0 : Int32)), some (.int (0 : Int32)), some (.int (0 : Int32)), none, none, none, none, none]) (ft169 21 rfl) rfl ?_
  refine rn_forget (ls := [some (.ref e0_6), some (.int e1_6), some (.int e2_6), some (.int e3_6), some (.int e4_6), some (.int (0 : Int32)), some (.int (0 : Int32)), some (.int (0 : Int32)), none, none, none, none, none]) (And.intro rfl (And.intro rfl (And.intro rfl (And.intro rfl (And.intro rfl (And.intro rfl (And.intro rfl (And.intro rfl trivial)))))))) (rf169_H38 n  _  (fun e4_34 e5_34 w34 o h => ?_) n e0_6 e1_6 e2_6 e3_6 e4_6 (0 : Int32) (0 : Int32) (0 : Int32) w6 _ h)
  refine rn_iload (ft169 98 rfl) rfl ?_
  refine rn_iload (ft169 99 rfl) rfl ?_
  refine rn_iconst (v := (3 : Int32)) (ft169 100 rfl) (by decide) ?_
  refine rn_idiv (ft169 101 rfl) (by decide) ?_
  obtain ⟨g37, h⟩ := ifg h
  refine rn_idiv (ft169 102 rfl) g37 ?_
  obtain ⟨p35, q36, h⟩ := ob_some h
  refine rn_callS (as := [.int (e5_34 / (e4_34 / (3 : Int32)))]) (r := []) (v := (some (.int p35.1))) (w1 := p35.2) (ft169 103 rfl) (by decide +kernel) rfl (Nat.le_of_ble_eq_true rfl) (Nat.le_of_ble_eq_true rfl) (r52 (e5_34 / (e4_34 / (3 : Int32))) w34 _ q36) ?_
  cases h
  exact rn_iretI pr169 (ft169 104 rfl)
/-- NineWheelModel.isUnless(II)Z -/
theorem ft170 : ∀ (i : Nat) {q : Nat × XI}, cd170[i]? = some q → fetch 170 q.1 = some q.2 := ft_of (by decide +kernel)
theorem pr170 : pRt 170 = some .boolean := rfl
def f170_H8 (n : Nat)  (K6 : Int32 → Wd → Option (Int32 × Wd)) : Nat → Nat → Int32 → Int32 → Int32 → Int32 → Wd → Option (Int32 × Wd)
  | 0, _, _, _, _, _, _ => none
  | k + 1, v0, v2, v3, v4, v5, w =>
    ob (getI w 11 v0 43) (fun x1 => (if x1 ≤ v5 then K6 v3 w
      else ob (getI w 11 v0 42) (fun x3 => (if x3 = 0 then K6 v3 w
        else ob (f123 v4 v2 w) (fun p5 => (if ¬ v3 = 0 then (fun (v0 : Nat) (v2 : Int32) (v3 : Int32) (v4 : Int32) (v5 : Int32) w => f170_H8 n  K6 k v0 v2 v3 v4 v5 w) v0 v2 (1 : Int32) p5.1 (v5 + (1 : Int32)) p5.2
          else ob (getR p5.2 11 v0 2) (fun x7 => ob (aldB p5.2 x7 p5.1) (fun x9 => (if x9 = 0 then (fun (v0 : Nat) (v2 : Int32) (v3 : Int32) (v4 : Int32) (v5 : Int32) w => f170_H8 n  K6 k v0 v2 v3 v4 v5 w) v0 v2 (0 : Int32) p5.1 (v5 + (1 : Int32)) p5.2
            else (fun (v0 : Nat) (v2 : Int32) (v3 : Int32) (v4 : Int32) (v5 : Int32) w => f170_H8 n  K6 k v0 v2 v3 v4 v5 w) v0 v2 (1 : Int32) p5.1 (v5 + (1 : Int32)) p5.2)))))))))
set_option maxRecDepth 10000 in
theorem rf170_H8 {S : Sc} (n : Nat)  (K6 : Int32 → Wd → Option (Int32 × Wd))  (hK6 : ∀ (y3 : Int32) (w : Wd) (o : (Int32 × Wd)), K6 y3 w = some o → Rn S 170 58 [none, none, none, some (.int y3), none, none] [] w (some (.int o.1), o.2)) : ∀ (k : Nat) (v0 : Nat) (v2 : Int32) (v3 : Int32) (v4 : Int32) (v5 : Int32) (w : Wd) (o : (Int32 × Wd)), f170_H8 n  K6 k v0 v2 v3 v4 v5 w = some o → Rn S 170 8 [some (.ref v0), none, some (.int v2), some (.int v3), some (.int v4), some (.int v5)] [] w (some (.int o.1), o.2) := by
  intro k
  induction k with
  | zero =>
    intro v0 v2 v3 v4 v5 w o h
    exact nomatch h
  | succ k ih =>
    intro v0 v2 v3 v4 v5 w o h
    have hrec6 : ∀ (y0 : Nat) (y2 : Int32) (y3 : Int32) (y4 : Int32) (y5 : Int32) (w : Wd) (o : (Int32 × Wd)), (fun (v0 : Nat) (v2 : Int32) (v3 : Int32) (v4 : Int32) (v5 : Int32) w => f170_H8 n  K6 k v0 v2 v3 v4 v5 w) y0 y2 y3 y4 y5 w = some o → Rn S 170 8 [some (.ref y0), none, some (.int y2), some (.int y3), some (.int y4), some (.int y5)] [] w (some (.int o.1), o.2) := fun y0 y2 y3 y4 y5 w o h => ih y0 y2 y3 y4 y5 w o h
    unfold f170_H8 at h
    refine rn_iload (ft170 6 rfl) rfl ?_
    refine rn_aload_n (ft170 7 rfl) rfl ?_
    obtain ⟨x1, q2, h⟩ := ob_some h
    refine rn_getI (ft170 8 rfl) (by decide) (by decide) q2 ?_
    by_cases c14 : x1 ≤ v5
    · replace h := ifp c14 h
      refine rn_icmp_ge_t (ft170 9 rfl) c14 ?_
      exact rn_forget (ls := [none, none, none, some (.int v3), none, none]) (And.intro rfl trivial) (hK6 v3 w _ h)
    · replace h := ifn c14 h
      refine rn_icmp_ge_f (ft170 9 rfl) c14 ?_
      refine rn_aload_n (ft170 10 rfl) rfl ?_
      obtain ⟨x3, q4, h⟩ := ob_some h
      refine rn_getI (ft170 11 rfl) (by decide) (by decide) q4 ?_
      by_cases c13 : x3 = 0
      · replace h := ifp c13 h
        refine rn_if_eq_t (ft170 12 rfl) c13 ?_
        exact rn_forget (ls := [none, none, none, some (.int v3), none, none]) (And.intro rfl trivial) (hK6 v3 w _ h)
      · replace h := ifn c13 h
        refine rn_if_eq_f (ft170 12 rfl) c13 ?_
        refine rn_iload (ft170 13 rfl) rfl ?_
        refine rn_iload_n (ft170 14 rfl) rfl ?_
        obtain ⟨p5, q6, h⟩ := ob_some h
        refine rn_callS (as := [.int v4, .int v2]) (r := []) (v := (some (.int p5.1))) (w1 := p5.2) (ft170 15 rfl) (by decide +kernel) rfl (Nat.le_of_ble_eq_true rfl) (Nat.le_of_ble_eq_true rfl) (r123 v4 v2 w _ q6) ?_
        refine rn_istore (ls' := [some (.ref v0), none, some (.int v2), some (.int v3), some (.int p5.1), some (.int v5)]) (ft170 16 rfl) rfl ?_
        refine rn_iload_n (ft170 17 rfl) rfl ?_
        by_cases c12 : ¬ v3 = 0
        · replace h := ifp c12 h
          refine rn_if_ne_t (ft170 18 rfl) c12 ?_
          refine rn_iconst (v := (1 : Int32)) (ft170 24 rfl) (by decide) ?_
          refine rn_goto (ft170 25 rfl) ?_
          refine rn_istore_n (ls' := [some (.ref v0), none, some (.int v2), some (.int (1 : Int32)), some (.int p5.1), some (.int v5)]) (ft170 27 rfl) rfl ?_
          refine rn_iinc (u := 1) (ls' := [some (.ref v0), none, some (.int v2), some (.int (1 : Int32)), some (.int p5.1), some (.int (v5 + (1 : Int32)))]) (ft170 28 rfl) rfl (by decide) rfl ?_
          refine rn_goto (ft170 29 rfl) ?_
          exact rn_forget (ls := [some (.ref v0), none, some (.int v2), some (.int (1 : Int32)), some (.int p5.1), some (.int (v5 + (1 : Int32)))]) (And.intro rfl (And.intro rfl (And.intro rfl (And.intro rfl (And.intro rfl trivial))))) (hrec6 v0 v2 (1 : Int32) p5.1 (v5 + (1 : Int32)) p5.2 _ h)
        · replace h := ifn c12 h
          refine rn_if_ne_f (ft170 18 rfl) c12 ?_
          refine rn_aload_n (ft170 19 rfl) rfl ?_
          obtain ⟨x7, q8, h⟩ := ob_some h
          refine rn_getR (ft170 20 rfl) q8 ?_
          refine rn_iload (ft170 21 rfl) rfl ?_
          obtain ⟨x9, q10, h⟩ := ob_some h
          refine rn_baload (ft170 22 rfl) q10 ?_
          by_cases c11 : x9 = 0
          · replace h := ifp c11 h
            refine rn_if_eq_t (ft170 23 rfl) c11 ?_
            refine rn_iconst (v := (0 : Int32)) (ft170 26 rfl) (by decide) ?_
            refine rn_istore_n (ls' := [some (.ref v0), none, some (.int v2), some (.int (0 : Int32)), some (.int p5.1), some (.int v5)]) (ft170 27 rfl) rfl ?_
            refine rn_iinc (u := 1) (ls' := [some (.ref v0), none, some (.int v2), some (.int (0 : Int32)), some (.int p5.1), some (.int (v5 + (1 : Int32)))]) (ft170 28 rfl) rfl (by decide) rfl ?_
            refine rn_goto (ft170 29 rfl) ?_
            exact rn_forget (ls := [some (.ref v0), none, some (.int v2), some (.int (0 : Int32)), some (.int p5.1), some (.int (v5 + (1 : Int32)))]) (And.intro rfl (And.intro rfl (And.intro rfl (And.intro rfl (And.intro rfl trivial))))) (hrec6 v0 v2 (0 : Int32) p5.1 (v5 + (1 : Int32)) p5.2 _ h)
          · replace h := ifn c11 h
            refine rn_if_eq_f (ft170 23 rfl) c11 ?_
            refine rn_iconst (v := (1 : Int32)) (ft170 24 rfl) (by decide) ?_
            refine rn_goto (ft170 25 rfl) ?_
            refine rn_istore_n (ls' := [some (.ref v0), none, some (.int v2), some (.int (1 : Int32)), some (.int p5.1), some (.int v5)]) (ft170 27 rfl) rfl ?_
            refine rn_iinc (u := 1) (ls' := [some (.ref v0), none, some (.int v2), some (.int (1 : Int32)), some (.int p5.1), some (.int (v5 + (1 : Int32)))]) (ft170 28 rfl) rfl (by decide) rfl ?_
            refine rn_goto (ft170 29 rfl) ?_
            exact rn_forget (ls := [some (.ref v0), none, some (.int v2), some (.int (1 : Int32)), some (.int p5.1), some (.int (v5 + (1 : Int32)))]) (And.intro rfl (And.intro rfl (And.intro rfl (And.intro rfl (And.intro rfl trivial))))) (hrec6 v0 v2 (1 : Int32) p5.1 (v5 + (1 : Int32)) p5.2 _ h)
def f170 (n : Nat) (v0 : Nat) (v1 : Int32) (v2 : Int32) (w : Wd) : Option (Int32 × Wd) :=
  f170_H8 n  (fun (e3_15 : Int32) (w15 : Wd) => (if e3_15 = 0 ∨ e3_15 = 1 then some (e3_15, w15) else none)) n v0 v2 (0 : Int32) v1 (0 : Int32) w
set_option maxRecDepth 10000 in
theorem r170 {S : Sc} (n : Nat) (v0 : Nat) (v1 : Int32) (v2 : Int32) (w : Wd) (o : (Int32 × Wd)) (h : f170 n v0 v1 v2 w = some o) : Rn S 170 0 [some (.ref v0), some (.int v1), some (.int v2), none, none, none] [] w (some (.int o.1), o.2) := by
  unfold f170 at h
  refine rn_iconst (v := (0 : Int32)) (ft170 0 rfl) (by decide) ?_
  refine rn_istore_n (ls' := [some (.ref v0), some (.int v1), some (.int v2), some (.int (0 : Int32)), none, none]) (ft170 1 rfl) rfl ?_
  refine rn_iload_n (ft170 2 rfl) rfl ?_
  refine rn_istore (ls' := [some (.ref v0), some (.int v1), some (.int v2), some (.int (0 : Int32)), some (.int v1), none]) (ft170 3 rfl) rfl ?_
  refine rn_iconst (v := (0 : Int32)) (ft170 4 rfl) (by decide) ?_
  refine rn_istore (ls' := [some (.ref v0), some (.int v1), some (.int v2), some (.int (0 : Int32)), some (.int v1), some (.int (0 : Int32))]) (ft170 5 rfl) rfl ?_
  refine rn_forget (ls := [some (.ref v0), none, some (.int v2), some (.int (0 : Int32)), some (.int v1), some (.int (0 : Int32))]) (And.intro rfl (And.intro rfl (And.intro rfl (And.intro rfl (And.intro rfl trivial))))) (rf170_H8 n  _  (fun e3_15 w15 o h => ?_) n v0 v2 (0 : Int32) v1 (0 : Int32) w _ h)
  refine rn_iload_n (ft170 30 rfl) rfl ?_
  obtain ⟨g16, h⟩ := ifg h
  cases h
  exact rn_iretZ pr170 g16 (ft170 31 rfl)
/-- NineWheelModel.countSorts(I)V -/
theorem ft171 : ∀ (i : Nat) {q : Nat × XI}, cd171[i]? = some q → fetch 171 q.1 = some q.2 := ft_of (by decide +kernel)
theorem pr171 : pRt 171 = none := rfl
def f171_J91 (n : Nat) (rec17 : Nat → Int32 → Int32 → Int32 → Wd → Option Wd) (K17 : Wd → Option Wd) (v0 : Nat) (v3 : Int32) (v4 : Int32) (v5 : Int32) (s0 : Nat) (s1 : Int32) (w : Wd) : Option Wd :=
  ob (putI w 11 s0 47 s1) (fun w19 => ob (getR w19 11 v0 7) (fun x21 => ob (aldI w19 x21 v5) (fun x23 => rec17 v0 v3 (v4 + x23) (v5 + (1 : Int32)) w19)))
set_option maxRecDepth 10000 in
theorem rf171_J91 {S : Sc} (n : Nat) (rec17 : Nat → Int32 → Int32 → Int32 → Wd → Option Wd) (K17 : Wd → Option Wd) (v0 : Nat) (v3 : Int32) (v4 : Int32) (v5 : Int32) (s0 : Nat) (s1 : Int32) (w : Wd) (o : Wd) (hrec17 : ∀ (y0 : Nat) (y3 : Int32) (y4 : Int32) (y5 : Int32) (w : Wd) (o : Wd), rec17 y0 y3 y4 y5 w = some o → Rn S 171 27 [some (.ref y0), none, none, some (.int y3), some (.int y4), some (.int y5)] [] w (none, o)) (hK17 : ∀  (w : Wd) (o : Wd), K17 w = some o → Rn S 171 112 [none, none, none, none, none, none] [] w (none, o)) (h : f171_J91 n rec17 K17 v0 v3 v4 v5 s0 s1 w = some o) : Rn S 171 91 [some (.ref v0), none, none, some (.int v3), some (.int v4), some (.int v5)] [.int s1, .ref s0] w (none, o) := by
  unfold f171_J91 at h
  obtain ⟨w19, q20, h⟩ := ob_some h
  refine rn_putI (ft171 51 rfl) q20 ?_
  refine rn_iload (ft171 52 rfl) rfl ?_
  refine rn_aload_n (ft171 53 rfl) rfl ?_
  obtain ⟨x21, q22, h⟩ := ob_some h
  refine rn_getR (ft171 54 rfl) q22 ?_
  refine rn_iload (ft171 55 rfl) rfl ?_
  obtain ⟨x23, q24, h⟩ := ob_some h
  refine rn_iaload (ft171 56 rfl) q24 ?_
  refine rn_iadd (ft171 57 rfl) ?_
  refine rn_istore (ls' := [some (.ref v0), none, none, some (.int v3), some (.int (v4 + x23)), some (.int v5)]) (ft171 58 rfl) rfl ?_
  refine rn_iinc (u := 1) (ls' := [some (.ref v0), none, none, some (.int v3), some (.int (v4 + x23)), some (.int (v5 + (1 : Int32)))]) (ft171 59 rfl) rfl (by decide) rfl ?_
  refine rn_goto (ft171 60 rfl) ?_
  exact rn_forget (ls := [some (.ref v0), none, none, some (.int v3), some (.int (v4 + x23)), some (.int (v5 + (1 : Int32)))]) (And.intro rfl (And.intro rfl (And.intro rfl (And.intro rfl trivial)))) (hrec17 v0 v3 (v4 + x23) (v5 + (1 : Int32)) w19 _ h)
def f171_H27 (n : Nat)  (K17 : Wd → Option Wd) : Nat → Nat → Int32 → Int32 → Int32 → Wd → Option Wd
  | 0, _, _, _, _, _ => none
  | k + 1, v0, v3, v4, v5, w =>
    ob (getI w 11 v0 6) (fun x5 => (if x5 ≤ v5 then K17 w
      else ob (getR w 11 v0 36) (fun x7 => ob (aldI w x7 v5) (fun x9 => ob (getR w 11 v0 7) (fun x11 => ob (aldI w x11 v5) (fun x13 => (if (wsh w v0).map (fun q => q.1) = some 11 then ob (f127 v0 x9 x13 v5 w) (fun p15 => (if v3 < v4 then ob (getI p15 11 v0 47) (fun x17 => f171_J91 n (fun (v0 : Nat) (v3 : Int32) (v4 : Int32) (v5 : Int32) w => f171_H27 n  K17 k v0 v3 v4 v5 w) K17 v0 v3 v4 v5 v0 x17 p15)
        else ob (getR p15 11 v0 7) (fun x25 => ob (aldI p15 x25 v5) (fun x27 => (if (v4 + x27) ≤ v3 then ob (getI p15 11 v0 47) (fun x29 => f171_J91 n (fun (v0 : Nat) (v3 : Int32) (v4 : Int32) (v5 : Int32) w => f171_H27 n  K17 k v0 v3 v4 v5 w) K17 v0 v3 v4 v5 v0 x29 p15)
          else ob (getR p15 11 v0 36) (fun x31 => ob (aldI p15 x31 v5) (fun x33 => f171_J91 n (fun (v0 : Nat) (v3 : Int32) (v4 : Int32) (v5 : Int32) w => f171_H27 n  K17 k v0 v3 v4 v5 w) K17 v0 v3 v4 v5 v0 x33 p15))))))) else none)))))))
set_option maxRecDepth 10000 in
theorem rf171_H27 {S : Sc} (n : Nat)  (K17 : Wd → Option Wd)  (hK17 : ∀  (w : Wd) (o : Wd), K17 w = some o → Rn S 171 112 [none, none, none, none, none, none] [] w (none, o)) : ∀ (k : Nat) (v0 : Nat) (v3 : Int32) (v4 : Int32) (v5 : Int32) (w : Wd) (o : Wd), f171_H27 n  K17 k v0 v3 v4 v5 w = some o → Rn S 171 27 [some (.ref v0), none, none, some (.int v3), some (.int v4), some (.int v5)] [] w (none, o) := by
  intro k
  induction k with
  | zero =>
    intro v0 v3 v4 v5 w o h
    exact nomatch h
  | succ k ih =>
    intro v0 v3 v4 v5 w o h
    have hrec17 : ∀ (y0 : Nat) (y3 : Int32) (y4 : Int32) (y5 : Int32) (w : Wd) (o : Wd), (fun (v0 : Nat) (v3 : Int32) (v4 : Int32) (v5 : Int32) w => f171_H27 n  K17 k v0 v3 v4 v5 w) y0 y3 y4 y5 w = some o → Rn S 171 27 [some (.ref y0), none, none, some (.int y3), some (.int y4), some (.int y5)] [] w (none, o) := fun y0 y3 y4 y5 w o h => ih y0 y3 y4 y5 w o h
    unfold f171_H27 at h
    refine rn_iload (ft171 17 rfl) rfl ?_
    refine rn_aload_n (ft171 18 rfl) rfl ?_
    obtain ⟨x5, q6, h⟩ := ob_some h
    refine rn_getI (ft171 19 rfl) (by decide) (by decide) q6 ?_
    by_cases c38 : x5 ≤ v5
    · replace h := ifp c38 h
      refine rn_icmp_ge_t (ft171 20 rfl) c38 ?_
      exact rn_forget (ls := [none, none, none, none, none, none]) trivial (hK17 w _ h)
    · replace h := ifn c38 h
      refine rn_icmp_ge_f (ft171 20 rfl) c38 ?_
      refine rn_aload_n (ft171 21 rfl) rfl ?_
      refine rn_aload_n (ft171 22 rfl) rfl ?_
      obtain ⟨x7, q8, h⟩ := ob_some h
      refine rn_getR (ft171 23 rfl) q8 ?_
      refine rn_iload (ft171 24 rfl) rfl ?_
      obtain ⟨x9, q10, h⟩ := ob_some h
      refine rn_iaload (ft171 25 rfl) q10 ?_
      refine rn_aload_n (ft171 26 rfl) rfl ?_
      obtain ⟨x11, q12, h⟩ := ob_some h
      refine rn_getR (ft171 27 rfl) q12 ?_
      refine rn_iload (ft171 28 rfl) rfl ?_
      obtain ⟨x13, q14, h⟩ := ob_some h
      refine rn_iaload (ft171 29 rfl) q14 ?_
      refine rn_iload (ft171 30 rfl) rfl ?_
      obtain ⟨g37, h⟩ := ifg h
      obtain ⟨p15, q16, h⟩ := ob_some h
      refine rn_callV (as := [.int x9, .int x13, .int v5]) (k0 := v0) (r := []) (v := none) (w1 := p15) (ft171 31 rfl) (by decide +kernel) rfl (Nat.le_of_ble_eq_true rfl) (Nat.le_of_ble_eq_true rfl) (r127 v0 x9 x13 v5 w _ q16) (by decide +kernel) g37 ?_
      refine rn_aload_n (ft171 32 rfl) rfl ?_
      refine rn_iload_n (ft171 33 rfl) rfl ?_
      refine rn_iload (ft171 34 rfl) rfl ?_
      by_cases c36 : v3 < v4
      · replace h := ifp c36 h
        refine rn_icmp_lt_t (ft171 35 rfl) c36 ?_
        refine rn_aload_n (ft171 49 rfl) rfl ?_
        obtain ⟨x17, q18, h⟩ := ob_some h
        refine rn_getI (ft171 50 rfl) (by decide) (by decide) q18 ?_
        exact rn_forget (ls := [some (.ref v0), none, none, some (.int v3), some (.int v4), some (.int v5)]) (And.intro rfl (And.intro rfl (And.intro rfl (And.intro rfl trivial)))) (rf171_J91 n (fun (v0 : Nat) (v3 : Int32) (v4 : Int32) (v5 : Int32) w => f171_H27 n  K17 k v0 v3 v4 v5 w) K17 v0 v3 v4 v5 v0 x17 p15 _ hrec17 hK17 h)
      · replace h := ifn c36 h
        refine rn_icmp_lt_f (ft171 35 rfl) c36 ?_
        refine rn_iload_n (ft171 36 rfl) rfl ?_
        refine rn_iload (ft171 37 rfl) rfl ?_
        refine rn_aload_n (ft171 38 rfl) rfl ?_
        obtain ⟨x25, q26, h⟩ := ob_some h
        refine rn_getR (ft171 39 rfl) q26 ?_
        refine rn_iload (ft171 40 rfl) rfl ?_
        obtain ⟨x27, q28, h⟩ := ob_some h
        refine rn_iaload (ft171 41 rfl) q28 ?_
        refine rn_iadd (ft171 42 rfl) ?_
        by_cases c35 : (v4 + x27) ≤ v3
        · replace h := ifp c35 h
          refine rn_icmp_ge_t (ft171 43 rfl) c35 ?_
          refine rn_aload_n (ft171 49 rfl) rfl ?_
          obtain ⟨x29, q30, h⟩ := ob_some h
          refine rn_getI (ft171 50 rfl) (by decide) (by decide) q30 ?_
          exact rn_forget (ls := [some (.ref v0), none, none, some (.int v3), some (.int v4), some (.int v5)]) (And.intro rfl (And.intro rfl (And.intro rfl (And.intro rfl trivial)))) (rf171_J91 n (fun (v0 : Nat) (v3 : Int32) (v4 : Int32) (v5 : Int32) w => f171_H27 n  K17 k v0 v3 v4 v5 w) K17 v0 v3 v4 v5 v0 x29 p15 _ hrec17 hK17 h)
        · replace h := ifn c35 h
          refine rn_icmp_ge_f (ft171 43 rfl) c35 ?_
          refine rn_aload_n (ft171 44 rfl) rfl ?_
          obtain ⟨x31, q32, h⟩ := ob_some h
          refine rn_getR (ft171 45 rfl) q32 ?_
          refine rn_iload (ft171 46 rfl) rfl ?_
          obtain ⟨x33, q34, h⟩ := ob_some h
          refine rn_iaload (ft171 47 rfl) q34 ?_
          refine rn_goto (ft171 48 rfl) ?_
          exact rn_forget (ls := [some (.ref v0), none, none, some (.int v3), some (.int v4), some (.int v5)]) (And.intro rfl (And.intro rfl (And.intro rfl (And.intro rfl trivial)))) (rf171_J91 n (fun (v0 : Nat) (v3 : Int32) (v4 : Int32) (v5 : Int32) w => f171_H27 n  K17 k v0 v3 v4 v5 w) K17 v0 v3 v4 v5 v0 x33 p15 _ hrec17 hK17 h)
def f171_J20 (n : Nat)  (v0 : Nat) (s0 : Int32) (w : Wd) : Option Wd :=
  f171_H27 n  (fun  (w39 : Wd) => some w39) n v0 s0 (0 : Int32) (0 : Int32) w
set_option maxRecDepth 10000 in
theorem rf171_J20 {S : Sc} (n : Nat)  (v0 : Nat) (s0 : Int32) (w : Wd) (o : Wd)  (h : f171_J20 n  v0 s0 w = some o) : Rn S 171 20 [some (.ref v0), none, none, none, none, none] [.int s0] w (none, o) := by
  unfold f171_J20 at h
  refine rn_istore_n (ls' := [some (.ref v0), none, none, some (.int s0), none, none]) (ft171 12 rfl) rfl ?_
  refine rn_iconst (v := (0 : Int32)) (ft171 13 rfl) (by decide) ?_
  refine rn_istore (ls' := [some (.ref v0), none, none, some (.int s0), some (.int (0 : Int32)), none]) (ft171 14 rfl) rfl ?_
  refine rn_iconst (v := (0 : Int32)) (ft171 15 rfl) (by decide) ?_
  refine rn_istore (ls' := [some (.ref v0), none, none, some (.int s0), some (.int (0 : Int32)), some (.int (0 : Int32))]) (ft171 16 rfl) rfl ?_
  refine rn_forget (ls := [some (.ref v0), none, none, some (.int s0), some (.int (0 : Int32)), some (.int (0 : Int32))]) (And.intro rfl (And.intro rfl (And.intro rfl (And.intro rfl trivial)))) (rf171_H27 n  _  (fun  w39 o h => ?_) n v0 s0 (0 : Int32) (0 : Int32) w _ h)
  cases h
  exact rn_vret pr171 (ft171 61 rfl)
def f171 (n : Nat) (v0 : Nat) (v1 : Int32) (w : Wd) : Option Wd :=
  (if (wsh w v0).map (fun q => q.1) = some 11 then ob (f55 n v0 w) (fun p1 => (if (wsh p1 v0).map (fun q => q.1) = some 11 then ob (f50 n v0 p1) (fun p3 => (if ¬ p3.1 = 0 then (if ¬ p3.1 = 0 then f171_J20 n  v0 (irm v1 p3.1) p3.2 else none)
    else f171_J20 n  v0 (0 : Int32) p3.2)) else none)) else none)
set_option maxRecDepth 10000 in
theorem r171 {S : Sc} (n : Nat) (v0 : Nat) (v1 : Int32) (w : Wd) (o : Wd) (h : f171 n v0 v1 w = some o) : Rn S 171 0 [some (.ref v0), some (.int v1), none, none, none, none] [] w (none, o) := by
  unfold f171 at h
  refine rn_aload_n (ft171 0 rfl) rfl ?_
  obtain ⟨g43, h⟩ := ifg h
  obtain ⟨p1, q2, h⟩ := ob_some h
  refine rn_callV (as := []) (k0 := v0) (r := []) (v := none) (w1 := p1) (ft171 1 rfl) (by decide +kernel) rfl (Nat.le_of_ble_eq_true rfl) (Nat.le_of_ble_eq_true rfl) (r55 n v0 w _ q2) (by decide +kernel) g43 ?_
  refine rn_aload_n (ft171 2 rfl) rfl ?_
  obtain ⟨g42, h⟩ := ifg h
  obtain ⟨p3, q4, h⟩ := ob_some h
  refine rn_callV (as := []) (k0 := v0) (r := []) (v := (some (.int p3.1))) (w1 := p3.2) (ft171 3 rfl) (by decide +kernel) rfl (Nat.le_of_ble_eq_true rfl) (Nat.le_of_ble_eq_true rfl) (r50 n v0 p1 _ q4) (by decide +kernel) g42 ?_
  refine rn_istore_n (ls' := [some (.ref v0), some (.int v1), some (.int p3.1), none, none, none]) (ft171 4 rfl) rfl ?_
  refine rn_iload_n (ft171 5 rfl) rfl ?_
  by_cases c41 : ¬ p3.1 = 0
  · replace h := ifp c41 h
    refine rn_if_ne_t (ft171 6 rfl) c41 ?_
    refine rn_iload_n (ft171 9 rfl) rfl ?_
    refine rn_iload_n (ft171 10 rfl) rfl ?_
    obtain ⟨g40, h⟩ := ifg h
    refine rn_irem (ft171 11 rfl) g40 ?_
    exact rn_forget (ls := [some (.ref v0), none, none, none, none, none]) (And.intro rfl trivial) (rf171_J20 n  v0 (irm v1 p3.1) p3.2 _  h)
  · replace h := ifn c41 h
    refine rn_if_ne_f (ft171 6 rfl) c41 ?_
    refine rn_iconst (v := (0 : Int32)) (ft171 7 rfl) (by decide) ?_
    refine rn_goto (ft171 8 rfl) ?_
    exact rn_forget (ls := [some (.ref v0), none, none, none, none, none]) (And.intro rfl trivial) (rf171_J20 n  v0 (0 : Int32) p3.2 _  h)
