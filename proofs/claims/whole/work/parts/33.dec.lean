/-! THE METHODS AS FUNCTIONS, 16 -/
/-- NineWheel$Courses.choose(IIII)I -/
theorem ft186 : ∀ (i : Nat) {q : Nat × XI}, cd186[i]? = some q → fetch 186 q.1 = some q.2 := ft_of (by decide +kernel)
theorem pr186 : pRt 186 = some .int := rfl
def f186_J123 (n : Nat) (rec11 : Nat → Int32 → Int32 → Int32 → Int32 → Int32 → Int32 → Int32 → Int32 → Wd → Option (Int32 × Wd)) (K11 : Nat → Int32 → Int32 → Int32 → Int32 → Wd → Option (Int32 × Wd)) (v0 : Nat) (v1 : Int32) (v2 : Int32) (v3 : Int32) (v4 : Int32) (v5 : Int32) (v6 : Int32) (v8 : Int32) (v9 : Int32) (v10 : Int32) (s0 : Int32) (w : Wd) : Option (Int32 × Wd) :=
  (if s0 ≤ v5 then rec11 v0 v1 v2 v3 v4 v5 v6 v8 (v9 + (1 : Int32)) w
    else rec11 v0 v1 v2 v3 v4 s0 v10 v8 (v9 + (1 : Int32)) w)
set_option maxRecDepth 10000 in
theorem rf186_J123 {S : Sc} (n : Nat) (rec11 : Nat → Int32 → Int32 → Int32 → Int32 → Int32 → Int32 → Int32 → Int32 → Wd → Option (Int32 × Wd)) (K11 : Nat → Int32 → Int32 → Int32 → Int32 → Wd → Option (Int32 × Wd)) (v0 : Nat) (v1 : Int32) (v2 : Int32) (v3 : Int32) (v4 : Int32) (v5 : Int32) (v6 : Int32) (v8 : Int32) (v9 : Int32) (v10 : Int32) (s0 : Int32) (w : Wd) (o : (Int32 × Wd)) (hrec11 : ∀ (y0 : Nat) (y1 : Int32) (y2 : Int32) (y3 : Int32) (y4 : Int32) (y5 : Int32) (y6 : Int32) (y8 : Int32) (y9 : Int32) (w : Wd) (o : (Int32 × Wd)), rec11 y0 y1 y2 y3 y4 y5 y6 y8 y9 w = some o → Rn S 186 20 [some (.ref y0), some (.int y1), some (.int y2), some (.int y3), some (.int y4), some (.int y5), some (.int y6), some (.float 0), some (.int y8), some (.int y9), none, none, none, none] [] w (some (.int o.1), o.2)) (hK11 : ∀ (y0 : Nat) (y1 : Int32) (y2 : Int32) (y5 : Int32) (y6 : Int32) (w : Wd) (o : (Int32 × Wd)), K11 y0 y1 y2 y5 y6 w = some o → Rn S 186 146 [some (.ref y0), some (.int y1), some (.int y2), none, none, some (.int y5), some (.int y6), none, none, none, none, none, none, none] [] w (some (.int o.1), o.2)) (h : f186_J123 n rec11 K11 v0 v1 v2 v3 v4 v5 v6 v8 v9 v10 s0 w = some o) : Rn S 186 123 [some (.ref v0), some (.int v1), some (.int v2), some (.int v3), some (.int v4), some (.int v5), some (.int v6), some (.float 0), some (.int v8), some (.int v9), some (.int v10), none, none, none] [.int s0] w (some (.int o.1), o.2) := by
  unfold f186_J123 at h
  refine rn_istore (ls' := [some (.ref v0), some (.int v1), some (.int v2), some (.int v3), some (.int v4), some (.int v5), some (.int v6), some (.float 0), some (.int v8), some (.int v9), some (.int v10), none, none, some (.int s0)]) (ft186 61 rfl) rfl ?_
  refine rn_iload (ft186 62 rfl) rfl ?_
  refine rn_iload (ft186 63 rfl) rfl ?_
  by_cases c25 : s0 ≤ v5
  · replace h := ifp c25 h
    refine rn_icmp_le_t (ft186 64 rfl) c25 ?_
    refine rn_iinc (u := 1) (ls' := [some (.ref v0), some (.int v1), some (.int v2), some (.int v3), some (.int v4), some (.int v5), some (.int v6), some (.float 0), some (.int v8), some (.int (v9 + (1 : Int32))), some (.int v10), none, none, some (.int s0)]) (ft186 69 rfl) rfl (by decide) rfl ?_
    refine rn_goto (ft186 70 rfl) ?_
    exact rn_forget (ls := [some (.ref v0), some (.int v1), some (.int v2), some (.int v3), some (.int v4), some (.int v5), some (.int v6), some (.float 0), some (.int v8), some (.int (v9 + (1 : Int32))), none, none, none, none]) (And.intro rfl (And.intro rfl (And.intro rfl (And.intro rfl (And.intro rfl (And.intro rfl (And.intro rfl (And.intro rfl (And.intro rfl (And.intro rfl trivial)))))))))) (hrec11 v0 v1 v2 v3 v4 v5 v6 v8 (v9 + (1 : Int32)) w _ h)
  · replace h := ifn c25 h
    refine rn_icmp_le_f (ft186 64 rfl) c25 ?_
    refine rn_iload (ft186 65 rfl) rfl ?_
    refine rn_istore (ls' := [some (.ref v0), some (.int v1), some (.int v2), some (.int v3), some (.int v4), some (.int s0), some (.int v6), some (.float 0), some (.int v8), some (.int v9), some (.int v10), none, none, some (.int s0)]) (ft186 66 rfl) rfl ?_
    refine rn_iload (ft186 67 rfl) rfl ?_
    refine rn_istore (ls' := [some (.ref v0), some (.int v1), some (.int v2), some (.int v3), some (.int v4), some (.int s0), some (.int v10), some (.float 0), some (.int v8), some (.int v9), some (.int v10), none, none, some (.int s0)]) (ft186 68 rfl) rfl ?_
    refine rn_iinc (u := 1) (ls' := [some (.ref v0), some (.int v1), some (.int v2), some (.int v3), some (.int v4), some (.int s0), some (.int v10), some (.float 0), some (.int v8), some (.int (v9 + (1 : Int32))), some (.int v10), none, none, some (.int s0)]) (ft186 69 rfl) rfl (by decide) rfl ?_
    refine rn_goto (ft186 70 rfl) ?_
    exact rn_forget (ls := [some (.ref v0), some (.int v1), some (.int v2), some (.int v3), some (.int v4), some (.int s0), some (.int v10), some (.float 0), some (.int v8), some (.int (v9 + (1 : Int32))), none, none, none, none]) (And.intro rfl (And.intro rfl (And.intro rfl (And.intro rfl (And.intro rfl (And.intro rfl (And.intro rfl (And.intro rfl (And.intro rfl (And.intro rfl trivial)))))))))) (hrec11 v0 v1 v2 v3 v4 s0 v10 v8 (v9 + (1 : Int32)) w _ h)
def f186_J94 (n : Nat) (rec11 : Nat → Int32 → Int32 → Int32 → Int32 → Int32 → Int32 → Int32 → Int32 → Wd → Option (Int32 × Wd)) (K11 : Nat → Int32 → Int32 → Int32 → Int32 → Wd → Option (Int32 × Wd)) (v0 : Nat) (v1 : Int32) (v2 : Int32) (v3 : Int32) (v4 : Int32) (v5 : Int32) (v6 : Int32) (v8 : Int32) (v9 : Int32) (v10 : Int32) (v11 : Int32) (s0 : Int32) (w : Wd) : Option (Int32 × Wd) :=
  (if s0 = 0 then ob (getR w 1 v0 2) (fun x15 => ob (f20 v11 w) (fun p17 => ob (aldI p17.2 x15 p17.1) (fun x19 => ob (getR p17.2 1 v0 6) (fun x21 => ob (aldI p17.2 x21 v11) (fun x23 => f186_J123 n rec11 K11 v0 v1 v2 v3 v4 v5 v6 v8 v9 v10 (x19 + x23) p17.2)))))
    else f186_J123 n rec11 K11 v0 v1 v2 v3 v4 v5 v6 v8 v9 v10 v3 w)
set_option maxRecDepth 10000 in
theorem rf186_J94 {S : Sc} (n : Nat) (rec11 : Nat → Int32 → Int32 → Int32 → Int32 → Int32 → Int32 → Int32 → Int32 → Wd → Option (Int32 × Wd)) (K11 : Nat → Int32 → Int32 → Int32 → Int32 → Wd → Option (Int32 × Wd)) (v0 : Nat) (v1 : Int32) (v2 : Int32) (v3 : Int32) (v4 : Int32) (v5 : Int32) (v6 : Int32) (v8 : Int32) (v9 : Int32) (v10 : Int32) (v11 : Int32) (s0 : Int32) (w : Wd) (o : (Int32 × Wd)) (hrec11 : ∀ (y0 : Nat) (y1 : Int32) (y2 : Int32) (y3 : Int32) (y4 : Int32) (y5 : Int32) (y6 : Int32) (y8 : Int32) (y9 : Int32) (w : Wd) (o : (Int32 × Wd)), rec11 y0 y1 y2 y3 y4 y5 y6 y8 y9 w = some o → Rn S 186 20 [some (.ref y0), some (.int y1), some (.int y2), some (.int y3), some (.int y4), some (.int y5), some (.int y6), some (.float 0), some (.int y8), some (.int y9), none, none, none, none] [] w (some (.int o.1), o.2)) (hK11 : ∀ (y0 : Nat) (y1 : Int32) (y2 : Int32) (y5 : Int32) (y6 : Int32) (w : Wd) (o : (Int32 × Wd)), K11 y0 y1 y2 y5 y6 w = some o → Rn S 186 146 [some (.ref y0), some (.int y1), some (.int y2), none, none, some (.int y5), some (.int y6), none, none, none, none, none, none, none] [] w (some (.int o.1), o.2)) (h : f186_J94 n rec11 K11 v0 v1 v2 v3 v4 v5 v6 v8 v9 v10 v11 s0 w = some o) : Rn S 186 94 [some (.ref v0), some (.int v1), some (.int v2), some (.int v3), some (.int v4), some (.int v5), some (.int v6), some (.float 0), some (.int v8), some (.int v9), some (.int v10), some (.int v11), none, none] [.int s0] w (some (.int o.1), o.2) := by
  unfold f186_J94 at h
  refine rn_istore (ls' := [some (.ref v0), some (.int v1), some (.int v2), some (.int v3), some (.int v4), some (.int v5), some (.int v6), some (.float 0), some (.int v8), some (.int v9), some (.int v10), some (.int v11), some (.int s0), none]) (ft186 46 rfl) rfl ?_
  refine rn_iload (ft186 47 rfl) rfl ?_
  by_cases c26 : s0 = 0
  · replace h := ifp c26 h
    refine rn_if_eq_t (ft186 48 rfl) c26 ?_
    refine rn_aload_n (ft186 51 rfl) rfl ?_
    obtain ⟨x15, q16, h⟩ := ob_some h
    refine rn_getR (ft186 52 rfl) q16 ?_
    refine rn_iload (ft186 53 rfl) rfl ?_
    obtain ⟨p17, q18, h⟩ := ob_some h
    refine rn_callS (as := [.int v11]) (r := [.ref x15]) (v := (some (.int p17.1))) (w1 := p17.2) (ft186 54 rfl) (by decide +kernel) rfl (Nat.le_of_ble_eq_true rfl) (Nat.le_of_ble_eq_true rfl) (r20 v11 w _ q18) ?_
    obtain ⟨x19, q20, h⟩ := ob_some h
    refine rn_iaload (ft186 55 rfl) q20 ?_
    refine rn_aload_n (ft186 56 rfl) rfl ?_
    obtain ⟨x21, q22, h⟩ := ob_some h
    refine rn_getR (ft186 57 rfl) q22 ?_
    refine rn_iload (ft186 58 rfl) rfl ?_
    obtain ⟨x23, q24, h⟩ := ob_some h
    refine rn_iaload (ft186 59 rfl) q24 ?_
    refine rn_iadd (ft186 60 rfl) ?_
    exact rn_forget (ls := [some (.ref v0), some (.int v1), some (.int v2), some (.int v3), some (.int v4), some (.int v5), some (.int v6), some (.float 0), some (.int v8), some (.int v9), some (.int v10), none, none, none]) (And.intro rfl (And.intro rfl (And.intro rfl (And.intro rfl (And.intro rfl (And.intro rfl (And.intro rfl (And.intro rfl (And.intro rfl (And.intro rfl (And.intro rfl trivial))))))))))) (rf186_J123 n rec11 K11 v0 v1 v2 v3 v4 v5 v6 v8 v9 v10 (x19 + x23) p17.2 _ hrec11 hK11 h)
  · replace h := ifn c26 h
    refine rn_if_eq_f (ft186 48 rfl) c26 ?_
    refine rn_iload_n (ft186 49 rfl) rfl ?_
    refine rn_goto (ft186 50 rfl) ?_
    exact rn_forget (ls := [some (.ref v0), some (.int v1), some (.int v2), some (.int v3), some (.int v4), some (.int v5), some (.int v6), some (.float 0), some (.int v8), some (.int v9), some (.int v10), none, none, none]) (And.intro rfl (And.intro rfl (And.intro rfl (And.intro rfl (And.intro rfl (And.intro rfl (And.intro rfl (And.intro rfl (And.intro rfl (And.intro rfl (And.intro rfl trivial))))))))))) (rf186_J123 n rec11 K11 v0 v1 v2 v3 v4 v5 v6 v8 v9 v10 v3 w _ hrec11 hK11 h)
def f186_H20 (n : Nat)  (K11 : Nat → Int32 → Int32 → Int32 → Int32 → Wd → Option (Int32 × Wd)) : Nat → Nat → Int32 → Int32 → Int32 → Int32 → Int32 → Int32 → Int32 → Int32 → Wd → Option (Int32 × Wd)
  | 0, _, _, _, _, _, _, _, _, _, _ => none
  | k + 1, v0, v1, v2, v3, v4, v5, v6, v8, v9, w =>
    (if v8 ≤ v9 then K11 v0 v1 v2 v5 v6 w
      else ob (tldI S0 0 v9) (fun x1 => ob (f16 v4 (x1 + (1 : Int32)) w) (fun p3 => (if ¬ p3.1 = 0 then ob (getR p3.2 1 v0 0) (fun x5 => (if (wsh p3.2 x5).map (fun q => q.1) = some 6 then ob (f145 x5 v1 x1 v2 p3.2) (fun p7 => ob (getR p7.2 1 v0 0) (fun x9 => ob (f20 p7.1 p7.2) (fun p11 => (if (wsh p11.2 x9).map (fun q => q.1) = some 6 then ob (f9 x9 p11.1 p11.2) (fun p13 => (if ¬ p13.1 = 0 then f186_J94 n (fun (v0 : Nat) (v1 : Int32) (v2 : Int32) (v3 : Int32) (v4 : Int32) (v5 : Int32) (v6 : Int32) (v8 : Int32) (v9 : Int32) w => f186_H20 n  K11 k v0 v1 v2 v3 v4 v5 v6 v8 v9 w) K11 v0 v1 v2 v3 v4 v5 v6 v8 v9 x1 p7.1 (1 : Int32) p13.2
          else ob (f0 p7.1 (0 : Int32) (511 : Int32) p13.2) (fun p27 => (if p27.1 = 0 then f186_J94 n (fun (v0 : Nat) (v1 : Int32) (v2 : Int32) (v3 : Int32) (v4 : Int32) (v5 : Int32) (v6 : Int32) (v8 : Int32) (v9 : Int32) w => f186_H20 n  K11 k v0 v1 v2 v3 v4 v5 v6 v8 v9 w) K11 v0 v1 v2 v3 v4 v5 v6 v8 v9 x1 p7.1 (0 : Int32) p27.2
            else f186_J94 n (fun (v0 : Nat) (v1 : Int32) (v2 : Int32) (v3 : Int32) (v4 : Int32) (v5 : Int32) (v6 : Int32) (v8 : Int32) (v9 : Int32) w => f186_H20 n  K11 k v0 v1 v2 v3 v4 v5 v6 v8 v9 w) K11 v0 v1 v2 v3 v4 v5 v6 v8 v9 x1 p7.1 (1 : Int32) p27.2)))) else none)))) else none))
        else (fun (v0 : Nat) (v1 : Int32) (v2 : Int32) (v3 : Int32) (v4 : Int32) (v5 : Int32) (v6 : Int32) (v8 : Int32) (v9 : Int32) w => f186_H20 n  K11 k v0 v1 v2 v3 v4 v5 v6 v8 v9 w) v0 v1 v2 v3 v4 v5 v6 v8 (v9 + (1 : Int32)) p3.2))))
set_option maxRecDepth 10000 in
theorem rf186_H20 {S : Sc} (n : Nat)  (K11 : Nat → Int32 → Int32 → Int32 → Int32 → Wd → Option (Int32 × Wd))  (hK11 : ∀ (y0 : Nat) (y1 : Int32) (y2 : Int32) (y5 : Int32) (y6 : Int32) (w : Wd) (o : (Int32 × Wd)), K11 y0 y1 y2 y5 y6 w = some o → Rn S 186 146 [some (.ref y0), some (.int y1), some (.int y2), none, none, some (.int y5), some (.int y6), none, none, none, none, none, none, none] [] w (some (.int o.1), o.2)) : ∀ (k : Nat) (v0 : Nat) (v1 : Int32) (v2 : Int32) (v3 : Int32) (v4 : Int32) (v5 : Int32) (v6 : Int32) (v8 : Int32) (v9 : Int32) (w : Wd) (o : (Int32 × Wd)), f186_H20 n  K11 k v0 v1 v2 v3 v4 v5 v6 v8 v9 w = some o → Rn S 186 20 [some (.ref v0), some (.int v1), some (.int v2), some (.int v3), some (.int v4), some (.int v5), some (.int v6), some (.float 0), some (.int v8), some (.int v9), none, none, none, none] [] w (some (.int o.1), o.2) := by
  intro k
  induction k with
  | zero =>
    intro v0 v1 v2 v3 v4 v5 v6 v8 v9 w o h
    exact nomatch h
  | succ k ih =>
    intro v0 v1 v2 v3 v4 v5 v6 v8 v9 w o h
    have hrec11 : ∀ (y0 : Nat) (y1 : Int32) (y2 : Int32) (y3 : Int32) (y4 : Int32) (y5 : Int32) (y6 : Int32) (y8 : Int32) (y9 : Int32) (w : Wd) (o : (Int32 × Wd)), (fun (v0 : Nat) (v1 : Int32) (v2 : Int32) (v3 : Int32) (v4 : Int32) (v5 : Int32) (v6 : Int32) (v8 : Int32) (v9 : Int32) w => f186_H20 n  K11 k v0 v1 v2 v3 v4 v5 v6 v8 v9 w) y0 y1 y2 y3 y4 y5 y6 y8 y9 w = some o → Rn S 186 20 [some (.ref y0), some (.int y1), some (.int y2), some (.int y3), some (.int y4), some (.int y5), some (.int y6), some (.float 0), some (.int y8), some (.int y9), none, none, none, none] [] w (some (.int o.1), o.2) := fun y0 y1 y2 y3 y4 y5 y6 y8 y9 w o h => ih y0 y1 y2 y3 y4 y5 y6 y8 y9 w o h
    unfold f186_H20 at h
    refine rn_iload (ft186 11 rfl) rfl ?_
    refine rn_iload (ft186 12 rfl) rfl ?_
    by_cases c34 : v8 ≤ v9
    · replace h := ifp c34 h
      refine rn_icmp_ge_t (ft186 13 rfl) c34 ?_
      exact rn_forget (ls := [some (.ref v0), some (.int v1), some (.int v2), none, none, some (.int v5), some (.int v6), none, none, none, none, none, none, none]) (And.intro rfl (And.intro rfl (And.intro rfl (And.intro rfl (And.intro rfl trivial))))) (hK11 v0 v1 v2 v5 v6 w _ h)
    · replace h := ifn c34 h
      refine rn_icmp_ge_f (ft186 13 rfl) c34 ?_
      refine rn_aloadS (ft186 14 rfl) rfl ?_
      refine rn_iload (ft186 15 rfl) rfl ?_
      obtain ⟨x1, q2, h⟩ := ob_some h
      refine rn_ialoadS (ft186 16 rfl) q2 ?_
      refine rn_istore (ls' := [some (.ref v0), some (.int v1), some (.int v2), some (.int v3), some (.int v4), some (.int v5), some (.int v6), some (.float 0), some (.int v8), some (.int v9), some (.int x1), none, none, none]) (ft186 17 rfl) rfl ?_
      refine rn_iload (ft186 18 rfl) rfl ?_
      refine rn_iload (ft186 19 rfl) rfl ?_
      refine rn_iconst (v := (1 : Int32)) (ft186 20 rfl) (by decide) ?_
      refine rn_iadd (ft186 21 rfl) ?_
      obtain ⟨p3, q4, h⟩ := ob_some h
      refine rn_callS (as := [.int v4, .int (x1 + (1 : Int32))]) (r := []) (v := (some (.int p3.1))) (w1 := p3.2) (ft186 22 rfl) (by decide +kernel) rfl (Nat.le_of_ble_eq_true rfl) (Nat.le_of_ble_eq_true rfl) (r16 v4 (x1 + (1 : Int32)) w _ q4) ?_
      by_cases c33 : ¬ p3.1 = 0
      · replace h := ifp c33 h
        refine rn_if_ne_t (ft186 23 rfl) c33 ?_
        refine rn_aload_n (ft186 25 rfl) rfl ?_
        obtain ⟨x5, q6, h⟩ := ob_some h
        refine rn_getR (ft186 26 rfl) q6 ?_
        refine rn_iload_n (ft186 27 rfl) rfl ?_
        refine rn_iload (ft186 28 rfl) rfl ?_
        refine rn_iload_n (ft186 29 rfl) rfl ?_
        obtain ⟨g32, h⟩ := ifg h
        obtain ⟨p7, q8, h⟩ := ob_some h
        refine rn_callV (as := [.int v1, .int x1, .int v2]) (k0 := x5) (r := []) (v := (some (.int p7.1))) (w1 := p7.2) (ft186 30 rfl) (by decide +kernel) rfl (Nat.le_of_ble_eq_true rfl) (Nat.le_of_ble_eq_true rfl) (r145 x5 v1 x1 v2 p3.2 _ q8) (by decide +kernel) g32 ?_
        refine rn_istore (ls' := [some (.ref v0), some (.int v1), some (.int v2), some (.int v3), some (.int v4), some (.int v5), some (.int v6), some (.float 0), some (.int v8), some (.int v9), some (.int x1), some (.int p7.1), none, none]) (ft186 31 rfl) rfl ?_
        refine rn_aload_n (ft186 32 rfl) rfl ?_
        obtain ⟨x9, q10, h⟩ := ob_some h
        refine rn_getR (ft186 33 rfl) q10 ?_
        refine rn_iload (ft186 34 rfl) rfl ?_
        obtain ⟨p11, q12, h⟩ := ob_some h
        refine rn_callS (as := [.int p7.1]) (r := [.ref x9]) (v := (some (.int p11.1))) (w1 := p11.2) (ft186 35 rfl) (by decide +kernel) rfl (Nat.le_of_ble_eq_true rfl) (Nat.le_of_ble_eq_true rfl) (r20 p7.1 p7.2 _ q12) ?_
        obtain ⟨g31, h⟩ := ifg h
        obtain ⟨p13, q14, h⟩ := ob_some h
        refine rn_callV (as := [.int p11.1]) (k0 := x9) (r := []) (v := (some (.int p13.1))) (w1 := p13.2) (ft186 36 rfl) (by decide +kernel) rfl (Nat.le_of_ble_eq_true rfl) (Nat.le_of_ble_eq_true rfl) (r9 x9 p11.1 p11.2 _ q14) (by decide +kernel) g31 ?_
        by_cases c30 : ¬ p13.1 = 0
        · replace h := ifp c30 h
          refine rn_if_ne_t (ft186 37 rfl) c30 ?_
          refine rn_iconst (v := (1 : Int32)) (ft186 43 rfl) (by decide) ?_
          refine rn_goto (ft186 44 rfl) ?_
          exact rn_forget (ls := [some (.ref v0), some (.int v1), some (.int v2), some (.int v3), some (.int v4), some (.int v5), some (.int v6), some (.float 0), some (.int v8), some (.int v9), some (.int x1), some (.int p7.1), none, none]) (And.intro rfl (And.intro rfl (And.intro rfl (And.intro rfl (And.intro rfl (And.intro rfl (And.intro rfl (And.intro rfl (And.intro rfl (And.intro rfl (And.intro rfl (And.intro rfl trivial)))))))))))) (rf186_J94 n (fun (v0 : Nat) (v1 : Int32) (v2 : Int32) (v3 : Int32) (v4 : Int32) (v5 : Int32) (v6 : Int32) (v8 : Int32) (v9 : Int32) w => f186_H20 n  K11 k v0 v1 v2 v3 v4 v5 v6 v8 v9 w) K11 v0 v1 v2 v3 v4 v5 v6 v8 v9 x1 p7.1 (1 : Int32) p13.2 _ hrec11 hK11 h)
        · replace h := ifn c30 h
          refine rn_if_ne_f (ft186 37 rfl) c30 ?_
          refine rn_iload (ft186 38 rfl) rfl ?_
          refine rn_iconst (v := (0 : Int32)) (ft186 39 rfl) (by decide) ?_
          refine rn_sipush (v := (511 : Int32)) (ft186 40 rfl) (by decide) ?_
          obtain ⟨p27, q28, h⟩ := ob_some h
          refine rn_callS (as := [.int p7.1, .int (0 : Int32), .int (511 : Int32)]) (r := []) (v := (some (.int p27.1))) (w1 := p27.2) (ft186 41 rfl) (by decide +kernel) rfl (Nat.le_of_ble_eq_true rfl) (Nat.le_of_ble_eq_true rfl) (r0 p7.1 (0 : Int32) (511 : Int32) p13.2 _ q28) ?_
          by_cases c29 : p27.1 = 0
          · replace h := ifp c29 h
            refine rn_if_eq_t (ft186 42 rfl) c29 ?_
            refine rn_iconst (v := (0 : Int32)) (ft186 45 rfl) (by decide) ?_
            exact rn_forget (ls := [some (.ref v0), some (.int v1), some (.int v2), some (.int v3), some (.int v4), some (.int v5), some (.int v6), some (.float 0), some (.int v8), some (.int v9), some (.int x1), some (.int p7.1), none, none]) (And.intro rfl (And.intro rfl (And.intro rfl (And.intro rfl (And.intro rfl (And.intro rfl (And.intro rfl (And.intro rfl (And.intro rfl (And.intro rfl (And.intro rfl (And.intro rfl trivial)))))))))))) (rf186_J94 n (fun (v0 : Nat) (v1 : Int32) (v2 : Int32) (v3 : Int32) (v4 : Int32) (v5 : Int32) (v6 : Int32) (v8 : Int32) (v9 : Int32) w => f186_H20 n  K11 k v0 v1 v2 v3 v4 v5 v6 v8 v9 w) K11 v0 v1 v2 v3 v4 v5 v6 v8 v9 x1 p7.1 (0 : Int32) p27.2 _ hrec11 hK11 h)
          · replace h := ifn c29 h
            refine rn_if_eq_f (ft186 42 rfl) c29 ?_
            refine rn_iconst (v := (1 : Int32)) (ft186 43 rfl) (by decide) ?_
            refine rn_goto (ft186 44 rfl) ?_
            exact rn_forget (ls := [some (.ref v0), some (.int v1), some (.int v2), some (.int v3), some (.int v4), some (.int v5), some (.int v6), some (.float 0), some (.int v8), some (.int v9), some (.int x1), some (.int p7.1), none, none]) (And.intro rfl (And.intro rfl (And.intro rfl (And.intro rfl (And.intro rfl (And.intro rfl (And.intro rfl (And.intro rfl (And.intro rfl (And.intro rfl (And.intro rfl (And.intro rfl trivial)))))))))))) (rf186_J94 n (fun (v0 : Nat) (v1 : Int32) (v2 : Int32) (v3 : Int32) (v4 : Int32) (v5 : Int32) (v6 : Int32) (v8 : Int32) (v9 : Int32) w => f186_H20 n  K11 k v0 v1 v2 v3 v4 v5 v6 v8 v9 w) K11 v0 v1 v2 v3 v4 v5 v6 v8 v9 x1 p7.1 (1 : Int32) p27.2 _ hrec11 hK11 h)
      · replace h := ifn c33 h
        refine rn_if_ne_f (ft186 23 rfl) c33 ?_
        refine rn_goto (ft186 24 rfl) ?_
        refine rn_iinc (u := 1) (ls' := [some (.ref v0), some (.int v1), some (.int v2), some (.int v3), some (.int v4), some (.int v5), some (.int v6), some (.float 0), some (.int v8), some (.int (v9 + (1 : Int32))), some (.int x1), none, none, none]) (ft186 69 rfl) rfl (by decide) rfl ?_
        refine rn_goto (ft186 70 rfl) ?_
        exact rn_forget (ls := [some (.ref v0), some (.int v1), some (.int v2), some (.int v3), some (.int v4), some (.int v5), some (.int v6), some (.float 0), some (.int v8), some (.int (v9 + (1 : Int32))), none, none, none, none]) (And.intro rfl (And.intro rfl (And.intro rfl (And.intro rfl (And.intro rfl (And.intro rfl (And.intro rfl (And.intro rfl (And.intro rfl (And.intro rfl trivial)))))))))) (hrec11 v0 v1 v2 v3 v4 v5 v6 v8 (v9 + (1 : Int32)) p3.2 _ h)
def f186 (n : Nat) (v0 : Nat) (v1 : Int32) (v2 : Int32) (v3 : Int32) (v4 : Int32) (w : Wd) : Option (Int32 × Wd) :=
  f186_H20 n  (fun (e0_35 : Nat) (e1_35 : Int32) (e2_35 : Int32) (e5_35 : Int32) (e6_35 : Int32) (w35 : Wd) => ob (f0 e1_35 (0 : Int32) (511 : Int32) w35) (fun p36 => (if ¬ p36.1 = 0 then some (e5_35, p36.2)
      else ob (getR p36.2 1 e0_35 4) (fun x38 => ob (aldL p36.2 x38 e1_35) (fun x40 => ob (astL p36.2 x38 e1_35 (x40 ||| ((Int32.toInt64 (e6_35 + (1 : Int32))) <<< (Int32.toInt64 ((2 : Int32) * e2_35) &&& 63)))) (fun w42 => some (e5_35, w42))))))) n v0 v1 v2 v3 v4 (-1000000000 : Int32) (0 : Int32) 3 (0 : Int32) w
set_option maxRecDepth 10000 in
theorem r186 {S : Sc} (n : Nat) (v0 : Nat) (v1 : Int32) (v2 : Int32) (v3 : Int32) (v4 : Int32) (w : Wd) (o : (Int32 × Wd)) (h : f186 n v0 v1 v2 v3 v4 w = some o) : Rn S 186 0 [some (.ref v0), some (.int v1), some (.int v2), some (.int v3), some (.int v4), none, none, none, none, none, none, none, none, none] [] w (some (.int o.1), o.2) := by
  unfold f186 at h
  refine rn_ldc (v := (-1000000000 : Int32)) (ft186 0 rfl) (by decide) rfl ?_
  refine rn_istore (ls' := [some (.ref v0), some (.int v1), some (.int v2), some (.int v3), some (.int v4), some (.int (-1000000000 : Int32)), none, none, none, none, none, none, none, none]) (ft186 1 rfl) rfl ?_
  refine rn_iconst (v := (0 : Int32)) (ft186 2 rfl) (by decide) ?_
  refine rn_istore (ls' := [some (.ref v0), some (.int v1), some (.int v2), some (.int v3), some (.int v4), some (.int (-1000000000 : Int32)), some (.int (0 : Int32)), none, none, none, none, none, none, none]) (ft186 3 rfl) rfl ?_
  refine rn_gets (v := .float 0) (ft186 4 rfl) rfl ?_
  refine rn_astoreS (ls' := [some (.ref v0), some (.int v1), some (.int v2), some (.int v3), some (.int v4), some (.int (-1000000000 : Int32)), some (.int (0 : Int32)), some (.float 0), none, none, none, none, none, none]) (ft186 5 rfl) rfl ?_
  refine rn_aloadS (ft186 6 rfl) rfl ?_
  refine rn_alenS (v := 3) (ft186 7 rfl) rfl ?_
  refine rn_istore (ls' := [some (.ref v0), some (.int v1), some (.int v2), some (.int v3), some (.int v4), some (.int (-1000000000 : Int32)), some (.int (0 : Int32)), some (.float 0), some (.int 3), none, none, none, none, none]) (ft186 8 rfl) rfl ?_
  refine rn_iconst (v := (0 : Int32)) (ft186 9 rfl) (by decide) ?_
  refine rn_istore (ls' := [some (.ref v0), some (.int v1), some (.int v2), some (.int v3), some (.int v4), some (.int (-1000000000 : Int32)), some (.int (0 : Int32)), some (.float 0), some (.int 3), some (.int (0 : Int32)), none, none, none, none]) (ft186 10 rfl) rfl ?_
  refine rn_forget (ls := [some (.ref v0), some (.int v1), some (.int v2), some (.int v3), some (.int v4), some (.int (-1000000000 : Int32)), some (.int (0 : Int32)), some (.float 0), some (.int 3), some (.int (0 : Int32)), none, none, none, none]) (And.intro rfl (And.intro rfl (And.intro rfl (And.intro rfl (And.intro rfl (And.intro rfl (And.intro rfl (And.intro rfl (And.intro rfl (And.intro rfl trivial)))))))))) (rf186_H20 n  _  (fun e0_35 e1_35 e2_35 e5_35 e6_35 w35 o h => ?_) n v0 v1 v2 v3 v4 (-1000000000 : Int32) (0 : Int32) 3 (0 : Int32) w _ h)
  refine rn_iload_n (ft186 71 rfl) rfl ?_
  refine rn_iconst (v := (0 : Int32)) (ft186 72 rfl) (by decide) ?_
  refine rn_sipush (v := (511 : Int32)) (ft186 73 rfl) (by decide) ?_
  obtain ⟨p36, q37, h⟩ := ob_some h
  refine rn_callS (as := [.int e1_35, .int (0 : Int32), .int (511 : Int32)]) (r := []) (v := (some (.int p36.1))) (w1 := p36.2) (ft186 74 rfl) (by decide +kernel) rfl (Nat.le_of_ble_eq_true rfl) (Nat.le_of_ble_eq_true rfl) (r0 e1_35 (0 : Int32) (511 : Int32) w35 _ q37) ?_
  by_cases c44 : ¬ p36.1 = 0
  · replace h := ifp c44 h
    refine rn_if_ne_t (ft186 75 rfl) c44 ?_
    refine rn_iload (ft186 91 rfl) rfl ?_
    cases h
    exact rn_iretI pr186 (ft186 92 rfl)
  · replace h := ifn c44 h
    refine rn_if_ne_f (ft186 75 rfl) c44 ?_
    refine rn_aload_n (ft186 76 rfl) rfl ?_
    obtain ⟨x38, q39, h⟩ := ob_some h
    refine rn_getR (ft186 77 rfl) q39 ?_
    refine rn_iload_n (ft186 78 rfl) rfl ?_
    refine rn_dup2 (ft186 79 rfl) rfl rfl ?_
    obtain ⟨x40, q41, h⟩ := ob_some h
    refine rn_laload (ft186 80 rfl) q41 ?_
    refine rn_iload (ft186 81 rfl) rfl ?_
    refine rn_iconst (v := (1 : Int32)) (ft186 82 rfl) (by decide) ?_
    refine rn_iadd (ft186 83 rfl) ?_
    refine rn_i2l (ft186 84 rfl) ?_
    refine rn_iconst (v := (2 : Int32)) (ft186 85 rfl) (by decide) ?_
    refine rn_iload_n (ft186 86 rfl) rfl ?_
    refine rn_imul (ft186 87 rfl) ?_
    refine rn_lshl (ft186 88 rfl) ?_
    refine rn_lor (ft186 89 rfl) ?_
    obtain ⟨w42, q43, h⟩ := ob_some h
    refine rn_lastore (ft186 90 rfl) q43 ?_
    refine rn_iload (ft186 91 rfl) rfl ?_
    cases h
    exact rn_iretI pr186 (ft186 92 rfl)
/-- NineWheel$Courses.turnOf(II)I -/
theorem ft187 : ∀ (i : Nat) {q : Nat × XI}, cd187[i]? = some q → fetch 187 q.1 = some q.2 := ft_of (by decide +kernel)
theorem pr187 : pRt 187 = some .int := rfl
def f187_H9 (n : Nat)  (K6 : Int32 → Wd → Option (Int32 × Wd)) : Nat → Nat → Int32 → Int32 → Int32 → Int32 → Wd → Option (Int32 × Wd)
  | 0, _, _, _, _, _, _ => none
  | k + 1, v0, v2, v3, v4, v5, w =>
    (if v2 < v5 then K6 v4 w
      else ob (getR w 1 v0 0) (fun x1 => ob (f20 v3 w) (fun p3 => (if (wsh p3.2 x1).map (fun q => q.1) = some 6 then ob (f9 x1 p3.1 p3.2) (fun p5 => (if ¬ p5.1 = 0 then some ((9 : Int32), p5.2)
        else ob (f0 v3 (0 : Int32) (511 : Int32) p5.2) (fun p7 => (if p7.1 = 0 then ob (getR p7.2 1 v0 4) (fun x9 => ob (aldL p7.2 x9 v3) (fun x11 => ob (getR p7.2 1 v0 0) (fun x13 => (if (wsh p7.2 x13).map (fun q => q.1) = some 6 then ob (f145 x13 v3 ((Int64.toInt32 ((lush x11 ((2 : Int32) * v5)) &&& (3 : Int64))) - (1 : Int32)) v5 p7.2) (fun p15 => (fun (v0 : Nat) (v2 : Int32) (v3 : Int32) (v4 : Int32) (v5 : Int32) w => f187_H9 n  K6 k v0 v2 v3 v4 v5 w) v0 v2 p15.1 ((Int64.toInt32 ((lush x11 ((2 : Int32) * v5)) &&& (3 : Int64))) - (1 : Int32)) (v5 + (1 : Int32)) p15.2) else none))))
          else some ((9 : Int32), p7.2))))) else none))))
set_option maxRecDepth 10000 in
theorem rf187_H9 {S : Sc} (n : Nat)  (K6 : Int32 → Wd → Option (Int32 × Wd))  (hK6 : ∀ (y4 : Int32) (w : Wd) (o : (Int32 × Wd)), K6 y4 w = some o → Rn S 187 82 [none, none, none, none, some (.int y4), none] [] w (some (.int o.1), o.2)) : ∀ (k : Nat) (v0 : Nat) (v2 : Int32) (v3 : Int32) (v4 : Int32) (v5 : Int32) (w : Wd) (o : (Int32 × Wd)), f187_H9 n  K6 k v0 v2 v3 v4 v5 w = some o → Rn S 187 9 [some (.ref v0), none, some (.int v2), some (.int v3), some (.int v4), some (.int v5)] [] w (some (.int o.1), o.2) := by
  intro k
  induction k with
  | zero =>
    intro v0 v2 v3 v4 v5 w o h
    exact nomatch h
  | succ k ih =>
    intro v0 v2 v3 v4 v5 w o h
    have hrec6 : ∀ (y0 : Nat) (y2 : Int32) (y3 : Int32) (y4 : Int32) (y5 : Int32) (w : Wd) (o : (Int32 × Wd)), (fun (v0 : Nat) (v2 : Int32) (v3 : Int32) (v4 : Int32) (v5 : Int32) w => f187_H9 n  K6 k v0 v2 v3 v4 v5 w) y0 y2 y3 y4 y5 w = some o → Rn S 187 9 [some (.ref y0), none, some (.int y2), some (.int y3), some (.int y4), some (.int y5)] [] w (some (.int o.1), o.2) := fun y0 y2 y3 y4 y5 w o h => ih y0 y2 y3 y4 y5 w o h
    unfold f187_H9 at h
    refine rn_iload (ft187 6 rfl) rfl ?_
    refine rn_iload_n (ft187 7 rfl) rfl ?_
    by_cases c21 : v2 < v5
    · replace h := ifp c21 h
      refine rn_icmp_gt_t (ft187 8 rfl) c21 ?_
      exact rn_forget (ls := [none, none, none, none, some (.int v4), none]) (And.intro rfl trivial) (hK6 v4 w _ h)
    · replace h := ifn c21 h
      refine rn_icmp_gt_f (ft187 8 rfl) c21 ?_
      refine rn_aload_n (ft187 9 rfl) rfl ?_
      obtain ⟨x1, q2, h⟩ := ob_some h
      refine rn_getR (ft187 10 rfl) q2 ?_
      refine rn_iload_n (ft187 11 rfl) rfl ?_
      obtain ⟨p3, q4, h⟩ := ob_some h
      refine rn_callS (as := [.int v3]) (r := [.ref x1]) (v := (some (.int p3.1))) (w1 := p3.2) (ft187 12 rfl) (by decide +kernel) rfl (Nat.le_of_ble_eq_true rfl) (Nat.le_of_ble_eq_true rfl) (r20 v3 w _ q4) ?_
      obtain ⟨g20, h⟩ := ifg h
      obtain ⟨p5, q6, h⟩ := ob_some h
      refine rn_callV (as := [.int p3.1]) (k0 := x1) (r := []) (v := (some (.int p5.1))) (w1 := p5.2) (ft187 13 rfl) (by decide +kernel) rfl (Nat.le_of_ble_eq_true rfl) (Nat.le_of_ble_eq_true rfl) (r9 x1 p3.1 p3.2 _ q6) (by decide +kernel) g20 ?_
      by_cases c19 : ¬ p5.1 = 0
      · replace h := ifp c19 h
        refine rn_if_ne_t (ft187 14 rfl) c19 ?_
        refine rn_bipush (v := (9 : Int32)) (ft187 20 rfl) (by decide) ?_
        cases h
        exact rn_iretI pr187 (ft187 21 rfl)
      · replace h := ifn c19 h
        refine rn_if_ne_f (ft187 14 rfl) c19 ?_
        refine rn_iload_n (ft187 15 rfl) rfl ?_
        refine rn_iconst (v := (0 : Int32)) (ft187 16 rfl) (by decide) ?_
        refine rn_sipush (v := (511 : Int32)) (ft187 17 rfl) (by decide) ?_
        obtain ⟨p7, q8, h⟩ := ob_some h
        refine rn_callS (as := [.int v3, .int (0 : Int32), .int (511 : Int32)]) (r := []) (v := (some (.int p7.1))) (w1 := p7.2) (ft187 18 rfl) (by decide +kernel) rfl (Nat.le_of_ble_eq_true rfl) (Nat.le_of_ble_eq_true rfl) (r0 v3 (0 : Int32) (511 : Int32) p5.2 _ q8) ?_
        by_cases c18 : p7.1 = 0
        · replace h := ifp c18 h
          refine rn_if_eq_t (ft187 19 rfl) c18 ?_
          refine rn_aload_n (ft187 22 rfl) rfl ?_
          obtain ⟨x9, q10, h⟩ := ob_some h
          refine rn_getR (ft187 23 rfl) q10 ?_
          refine rn_iload_n (ft187 24 rfl) rfl ?_
          obtain ⟨x11, q12, h⟩ := ob_some h
          refine rn_laload (ft187 25 rfl) q12 ?_
          refine rn_iconst (v := (2 : Int32)) (ft187 26 rfl) (by decide) ?_
          refine rn_iload (ft187 27 rfl) rfl ?_
          refine rn_imul (ft187 28 rfl) ?_
          refine rn_lushr (ft187 29 rfl) ?_
          refine rn_ldc2 (v := (3 : Int64)) (ft187 30 rfl) (by decide) ?_
          refine rn_land (ft187 31 rfl) ?_
          refine rn_l2i (ft187 32 rfl) ?_
          refine rn_iconst (v := (1 : Int32)) (ft187 33 rfl) (by decide) ?_
          refine rn_isub (ft187 34 rfl) ?_
          refine rn_istore (ls' := [some (.ref v0), none, some (.int v2), some (.int v3), some (.int ((Int64.toInt32 ((lush x11 ((2 : Int32) * v5)) &&& (3 : Int64))) - (1 : Int32))), some (.int v5)]) (ft187 35 rfl) rfl ?_
          refine rn_aload_n (ft187 36 rfl) rfl ?_
          obtain ⟨x13, q14, h⟩ := ob_some h
          refine rn_getR (ft187 37 rfl) q14 ?_
          refine rn_iload_n (ft187 38 rfl) rfl ?_
          refine rn_iload (ft187 39 rfl) rfl ?_
          refine rn_iload (ft187 40 rfl) rfl ?_
          obtain ⟨g17, h⟩ := ifg h
          obtain ⟨p15, q16, h⟩ := ob_some h
          refine rn_callV (as := [.int v3, .int ((Int64.toInt32 ((lush x11 ((2 : Int32) * v5)) &&& (3 : Int64))) - (1 : Int32)), .int v5]) (k0 := x13) (r := []) (v := (some (.int p15.1))) (w1 := p15.2) (ft187 41 rfl) (by decide +kernel) rfl (Nat.le_of_ble_eq_true rfl) (Nat.le_of_ble_eq_true rfl) (r145 x13 v3 ((Int64.toInt32 ((lush x11 ((2 : Int32) * v5)) &&& (3 : Int64))) - (1 : Int32)) v5 p7.2 _ q16) (by decide +kernel) g17 ?_
          refine rn_istore_n (ls' := [some (.ref v0), none, some (.int v2), some (.int p15.1), some (.int ((Int64.toInt32 ((lush x11 ((2 : Int32) * v5)) &&& (3 : Int64))) - (1 : Int32))), some (.int v5)]) (ft187 42 rfl) rfl ?_
          refine rn_iinc (u := 1) (ls' := [some (.ref v0), none, some (.int v2), some (.int p15.1), some (.int ((Int64.toInt32 ((lush x11 ((2 : Int32) * v5)) &&& (3 : Int64))) - (1 : Int32))), some (.int (v5 + (1 : Int32)))]) (ft187 43 rfl) rfl (by decide) rfl ?_
          refine rn_goto (ft187 44 rfl) ?_
          exact rn_forget (ls := [some (.ref v0), none, some (.int v2), some (.int p15.1), some (.int ((Int64.toInt32 ((lush x11 ((2 : Int32) * v5)) &&& (3 : Int64))) - (1 : Int32))), some (.int (v5 + (1 : Int32)))]) (And.intro rfl (And.intro rfl (And.intro rfl (And.intro rfl (And.intro rfl trivial))))) (hrec6 v0 v2 p15.1 ((Int64.toInt32 ((lush x11 ((2 : Int32) * v5)) &&& (3 : Int64))) - (1 : Int32)) (v5 + (1 : Int32)) p15.2 _ h)
        · replace h := ifn c18 h
          refine rn_if_eq_f (ft187 19 rfl) c18 ?_
          refine rn_bipush (v := (9 : Int32)) (ft187 20 rfl) (by decide) ?_
          cases h
          exact rn_iretI pr187 (ft187 21 rfl)
def f187 (n : Nat) (v0 : Nat) (v1 : Int32) (v2 : Int32) (w : Wd) : Option (Int32 × Wd) :=
  f187_H9 n  (fun (e4_22 : Int32) (w22 : Wd) => some (e4_22, w22)) n v0 v2 v1 (9 : Int32) (0 : Int32) w
set_option maxRecDepth 10000 in
theorem r187 {S : Sc} (n : Nat) (v0 : Nat) (v1 : Int32) (v2 : Int32) (w : Wd) (o : (Int32 × Wd)) (h : f187 n v0 v1 v2 w = some o) : Rn S 187 0 [some (.ref v0), some (.int v1), some (.int v2), none, none, none] [] w (some (.int o.1), o.2) := by
  unfold f187 at h
  refine rn_iload_n (ft187 0 rfl) rfl ?_
  refine rn_istore_n (ls' := [some (.ref v0), some (.int v1), some (.int v2), some (.int v1), none, none]) (ft187 1 rfl) rfl ?_
  refine rn_bipush (v := (9 : Int32)) (ft187 2 rfl) (by decide) ?_
  refine rn_istore (ls' := [some (.ref v0), some (.int v1), some (.int v2), some (.int v1), some (.int (9 : Int32)), none]) (ft187 3 rfl) rfl ?_
  refine rn_iconst (v := (0 : Int32)) (ft187 4 rfl) (by decide) ?_
  refine rn_istore (ls' := [some (.ref v0), some (.int v1), some (.int v2), some (.int v1), some (.int (9 : Int32)), some (.int (0 : Int32))]) (ft187 5 rfl) rfl ?_
  refine rn_forget (ls := [some (.ref v0), none, some (.int v2), some (.int v1), some (.int (9 : Int32)), some (.int (0 : Int32))]) (And.intro rfl (And.intro rfl (And.intro rfl (And.intro rfl (And.intro rfl trivial))))) (rf187_H9 n  _  (fun e4_22 w22 o h => ?_) n v0 v2 v1 (9 : Int32) (0 : Int32) w _ h)
  refine rn_iload (ft187 45 rfl) rfl ?_
  cases h
  exact rn_iretI pr187 (ft187 46 rfl)
/-- NineWheel$Journey.worthTo(II)I -/
theorem ft188 : ∀ (i : Nat) {q : Nat × XI}, cd188[i]? = some q → fetch 188 q.1 = some q.2 := ft_of (by decide +kernel)
theorem pr188 : pRt 188 = some .int := rfl
def f188_J52 (n : Nat) (rec4 : Nat → Int32 → Int32 → Int32 → Int32 → Wd → Option (Int32 × Wd)) (K4 : Int32 → Wd → Option (Int32 × Wd)) (v0 : Nat) (v1 : Int32) (v2 : Int32) (v4 : Int32) (s0 : Int32) (s1 : Int32) (w : Wd) : Option (Int32 × Wd) :=
  rec4 v0 v1 v2 (s0 + s1) (v4 + (1 : Int32)) w
set_option maxRecDepth 10000 in
theorem rf188_J52 {S : Sc} (n : Nat) (rec4 : Nat → Int32 → Int32 → Int32 → Int32 → Wd → Option (Int32 × Wd)) (K4 : Int32 → Wd → Option (Int32 × Wd)) (v0 : Nat) (v1 : Int32) (v2 : Int32) (v4 : Int32) (s0 : Int32) (s1 : Int32) (w : Wd) (o : (Int32 × Wd)) (hrec4 : ∀ (y0 : Nat) (y1 : Int32) (y2 : Int32) (y3 : Int32) (y4 : Int32) (w : Wd) (o : (Int32 × Wd)), rec4 y0 y1 y2 y3 y4 w = some o → Rn S 188 5 [some (.ref y0), some (.int y1), some (.int y2), some (.int y3), some (.int y4)] [] w (some (.int o.1), o.2)) (hK4 : ∀ (y3 : Int32) (w : Wd) (o : (Int32 × Wd)), K4 y3 w = some o → Rn S 188 60 [none, none, none, some (.int y3), none] [] w (some (.int o.1), o.2)) (h : f188_J52 n rec4 K4 v0 v1 v2 v4 s0 s1 w = some o) : Rn S 188 52 [some (.ref v0), some (.int v1), some (.int v2), none, some (.int v4)] [.int s1, .int s0] w (some (.int o.1), o.2) := by
  unfold f188_J52 at h
  refine rn_iadd (ft188 27 rfl) ?_
  refine rn_istore_n (ls' := [some (.ref v0), some (.int v1), some (.int v2), some (.int (s0 + s1)), some (.int v4)]) (ft188 28 rfl) rfl ?_
  refine rn_iinc (u := 1) (ls' := [some (.ref v0), some (.int v1), some (.int v2), some (.int (s0 + s1)), some (.int (v4 + (1 : Int32)))]) (ft188 29 rfl) rfl (by decide) rfl ?_
  refine rn_goto (ft188 30 rfl) ?_
  exact rn_forget (ls := [some (.ref v0), some (.int v1), some (.int v2), some (.int (s0 + s1)), some (.int (v4 + (1 : Int32)))]) (And.intro rfl (And.intro rfl (And.intro rfl (And.intro rfl (And.intro rfl trivial))))) (hrec4 v0 v1 v2 (s0 + s1) (v4 + (1 : Int32)) w _ h)
def f188_H5 (n : Nat)  (K4 : Int32 → Wd → Option (Int32 × Wd)) : Nat → Nat → Int32 → Int32 → Int32 → Int32 → Wd → Option (Int32 × Wd)
  | 0, _, _, _, _, _, _ => none
  | k + 1, v0, v1, v2, v3, v4, w =>
    (if v2 < v4 then K4 v3 w
      else ob (getI w 4 v0 7) (fun x1 => (if x1 < v4 then ob (getR w 4 v0 0) (fun x3 => (if (wsh w x3).map (fun q => q.1) = some 6 then ob (f158 n x3 v1 w) (fun p5 => f188_J52 n (fun (v0 : Nat) (v1 : Int32) (v2 : Int32) (v3 : Int32) (v4 : Int32) w => f188_H5 n  K4 k v0 v1 v2 v3 v4 w) K4 v0 v1 v2 v4 v3 ((-99 : Int32) * p5.1) p5.2) else none))
        else ob (getR w 4 v0 0) (fun x8 => (if (wsh w v0).map (fun q => q.1) = some 4 then ob (f104 v0 v4 w) (fun p10 => ob (f20 p10.1 p10.2) (fun p12 => (if (wsh p12.2 x8).map (fun q => q.1) = some 6 then ob (f143 n x8 p12.1 v1 p12.2) (fun p14 => f188_J52 n (fun (v0 : Nat) (v1 : Int32) (v2 : Int32) (v3 : Int32) (v4 : Int32) w => f188_H5 n  K4 k v0 v1 v2 v3 v4 w) K4 v0 v1 v2 v4 v3 p14.1 p14.2) else none))) else none)))))
set_option maxRecDepth 10000 in
theorem rf188_H5 {S : Sc} (n : Nat)  (K4 : Int32 → Wd → Option (Int32 × Wd))  (hK4 : ∀ (y3 : Int32) (w : Wd) (o : (Int32 × Wd)), K4 y3 w = some o → Rn S 188 60 [none, none, none, some (.int y3), none] [] w (some (.int o.1), o.2)) : ∀ (k : Nat) (v0 : Nat) (v1 : Int32) (v2 : Int32) (v3 : Int32) (v4 : Int32) (w : Wd) (o : (Int32 × Wd)), f188_H5 n  K4 k v0 v1 v2 v3 v4 w = some o → Rn S 188 5 [some (.ref v0), some (.int v1), some (.int v2), some (.int v3), some (.int v4)] [] w (some (.int o.1), o.2) := by
  intro k
  induction k with
  | zero =>
    intro v0 v1 v2 v3 v4 w o h
    exact nomatch h
  | succ k ih =>
    intro v0 v1 v2 v3 v4 w o h
    have hrec4 : ∀ (y0 : Nat) (y1 : Int32) (y2 : Int32) (y3 : Int32) (y4 : Int32) (w : Wd) (o : (Int32 × Wd)), (fun (v0 : Nat) (v1 : Int32) (v2 : Int32) (v3 : Int32) (v4 : Int32) w => f188_H5 n  K4 k v0 v1 v2 v3 v4 w) y0 y1 y2 y3 y4 w = some o → Rn S 188 5 [some (.ref y0), some (.int y1), some (.int y2), some (.int y3), some (.int y4)] [] w (some (.int o.1), o.2) := fun y0 y1 y2 y3 y4 w o h => ih y0 y1 y2 y3 y4 w o h
    unfold f188_H5 at h
    refine rn_iload (ft188 4 rfl) rfl ?_
    refine rn_iload_n (ft188 5 rfl) rfl ?_
    by_cases c19 : v2 < v4
    · replace h := ifp c19 h
      refine rn_icmp_gt_t (ft188 6 rfl) c19 ?_
      exact rn_forget (ls := [none, none, none, some (.int v3), none]) (And.intro rfl trivial) (hK4 v3 w _ h)
    · replace h := ifn c19 h
      refine rn_icmp_gt_f (ft188 6 rfl) c19 ?_
      refine rn_iload_n (ft188 7 rfl) rfl ?_
      refine rn_iload (ft188 8 rfl) rfl ?_
      refine rn_aload_n (ft188 9 rfl) rfl ?_
      obtain ⟨x1, q2, h⟩ := ob_some h
      refine rn_getI (ft188 10 rfl) (by decide) (by decide) q2 ?_
      by_cases c18 : x1 < v4
      · replace h := ifp c18 h
        refine rn_icmp_gt_t (ft188 11 rfl) c18 ?_
        refine rn_bipush (v := (-99 : Int32)) (ft188 21 rfl) (by decide) ?_
        refine rn_aload_n (ft188 22 rfl) rfl ?_
        obtain ⟨x3, q4, h⟩ := ob_some h
        refine rn_getR (ft188 23 rfl) q4 ?_
        refine rn_iload_n (ft188 24 rfl) rfl ?_
        obtain ⟨g7, h⟩ := ifg h
        obtain ⟨p5, q6, h⟩ := ob_some h
        refine rn_callV (as := [.int v1]) (k0 := x3) (r := [.int (-99 : Int32), .int v3]) (v := (some (.int p5.1))) (w1 := p5.2) (ft188 25 rfl) (by decide +kernel) rfl (Nat.le_of_ble_eq_true rfl) (Nat.le_of_ble_eq_true rfl) (r158 n x3 v1 w _ q6) (by decide +kernel) g7 ?_
        refine rn_imul (ft188 26 rfl) ?_
        exact rn_forget (ls := [some (.ref v0), some (.int v1), some (.int v2), none, some (.int v4)]) (And.intro rfl (And.intro rfl (And.intro rfl (And.intro rfl trivial)))) (rf188_J52 n (fun (v0 : Nat) (v1 : Int32) (v2 : Int32) (v3 : Int32) (v4 : Int32) w => f188_H5 n  K4 k v0 v1 v2 v3 v4 w) K4 v0 v1 v2 v4 v3 ((-99 : Int32) * p5.1) p5.2 _ hrec4 hK4 h)
      · replace h := ifn c18 h
        refine rn_icmp_gt_f (ft188 11 rfl) c18 ?_
        refine rn_aload_n (ft188 12 rfl) rfl ?_
        obtain ⟨x8, q9, h⟩ := ob_some h
        refine rn_getR (ft188 13 rfl) q9 ?_
        refine rn_aload_n (ft188 14 rfl) rfl ?_
        refine rn_iload (ft188 15 rfl) rfl ?_
        obtain ⟨g17, h⟩ := ifg h
        obtain ⟨p10, q11, h⟩ := ob_some h
        refine rn_callV (as := [.int v4]) (k0 := v0) (r := [.ref x8, .int v3]) (v := (some (.int p10.1))) (w1 := p10.2) (ft188 16 rfl) (by decide +kernel) rfl (Nat.le_of_ble_eq_true rfl) (Nat.le_of_ble_eq_true rfl) (r104 v0 v4 w _ q11) (by decide +kernel) g17 ?_
        obtain ⟨p12, q13, h⟩ := ob_some h
        refine rn_callS (as := [.int p10.1]) (r := [.ref x8, .int v3]) (v := (some (.int p12.1))) (w1 := p12.2) (ft188 17 rfl) (by decide +kernel) rfl (Nat.le_of_ble_eq_true rfl) (Nat.le_of_ble_eq_true rfl) (r20 p10.1 p10.2 _ q13) ?_
        refine rn_iload_n (ft188 18 rfl) rfl ?_
        obtain ⟨g16, h⟩ := ifg h
        obtain ⟨p14, q15, h⟩ := ob_some h
        refine rn_callV (as := [.int p12.1, .int v1]) (k0 := x8) (r := [.int v3]) (v := (some (.int p14.1))) (w1 := p14.2) (ft188 19 rfl) (by decide +kernel) rfl (Nat.le_of_ble_eq_true rfl) (Nat.le_of_ble_eq_true rfl) (r143 n x8 p12.1 v1 p12.2 _ q15) (by decide +kernel) g16 ?_
        refine rn_goto (ft188 20 rfl) ?_
        exact rn_forget (ls := [some (.ref v0), some (.int v1), some (.int v2), none, some (.int v4)]) (And.intro rfl (And.intro rfl (And.intro rfl (And.intro rfl trivial)))) (rf188_J52 n (fun (v0 : Nat) (v1 : Int32) (v2 : Int32) (v3 : Int32) (v4 : Int32) w => f188_H5 n  K4 k v0 v1 v2 v3 v4 w) K4 v0 v1 v2 v4 v3 p14.1 p14.2 _ hrec4 hK4 h)
def f188 (n : Nat) (v0 : Nat) (v1 : Int32) (v2 : Int32) (w : Wd) : Option (Int32 × Wd) :=
  f188_H5 n  (fun (e3_20 : Int32) (w20 : Wd) => some (e3_20, w20)) n v0 v1 v2 (0 : Int32) (1 : Int32) w
set_option maxRecDepth 10000 in
theorem r188 {S : Sc} (n : Nat) (v0 : Nat) (v1 : Int32) (v2 : Int32) (w : Wd) (o : (Int32 × Wd)) (h : f188 n v0 v1 v2 w = some o) : Rn S 188 0 [some (.ref v0), some (.int v1), some (.int v2), none, none] [] w (some (.int o.1), o.2) := by
  unfold f188 at h
  refine rn_iconst (v := (0 : Int32)) (ft188 0 rfl) (by decide) ?_
  refine rn_istore_n (ls' := [some (.ref v0), some (.int v1), some (.int v2), some (.int (0 : Int32)), none]) (ft188 1 rfl) rfl ?_
  refine rn_iconst (v := (1 : Int32)) (ft188 2 rfl) (by decide) ?_
  refine rn_istore (ls' := [some (.ref v0), some (.int v1), some (.int v2), some (.int (0 : Int32)), some (.int (1 : Int32))]) (ft188 3 rfl) rfl ?_
  refine rn_forget (ls := [some (.ref v0), some (.int v1), some (.int v2), some (.int (0 : Int32)), some (.int (1 : Int32))]) (And.intro rfl (And.intro rfl (And.intro rfl (And.intro rfl (And.intro rfl trivial))))) (rf188_H5 n  _  (fun e3_20 w20 o h => ?_) n v0 v1 v2 (0 : Int32) (1 : Int32) w _ h)
  refine rn_iload_n (ft188 31 rfl) rfl ?_
  cases h
  exact rn_iretI pr188 (ft188 32 rfl)
/-- NineWheelModel.takeCell()I -/
theorem ft189 : ∀ (i : Nat) {q : Nat × XI}, cd189[i]? = some q → fetch 189 q.1 = some q.2 := ft_of (by decide +kernel)
theorem pr189 : pRt 189 = some .int := rfl
def f189_J34 (n : Nat)  (v0 : Nat) (v1 : Int32) (w : Wd) : Option (Int32 × Wd) :=
  (if ¬ v1 = 0 then some (v1, w)
    else ob (getR w 11 v0 32) (fun x3 => ob (getI w 11 v0 20) (fun x5 => ob (astB w x3 x5 (1 : Int32)) (fun w7 => some (v1, w7)))))
set_option maxRecDepth 10000 in
theorem rf189_J34 {S : Sc} (n : Nat)  (v0 : Nat) (v1 : Int32) (w : Wd) (o : (Int32 × Wd))  (h : f189_J34 n  v0 v1 w = some o) : Rn S 189 34 [some (.ref v0), some (.int v1)] [] w (some (.int o.1), o.2) := by
  unfold f189_J34 at h
  refine rn_iload_n (ft189 19 rfl) rfl ?_
  by_cases c9 : ¬ v1 = 0
  · replace h := ifp c9 h
    refine rn_if_ne_t (ft189 20 rfl) c9 ?_
    refine rn_iload_n (ft189 27 rfl) rfl ?_
    cases h
    exact rn_iretI pr189 (ft189 28 rfl)
  · replace h := ifn c9 h
    refine rn_if_ne_f (ft189 20 rfl) c9 ?_
    refine rn_aload_n (ft189 21 rfl) rfl ?_
    obtain ⟨x3, q4, h⟩ := ob_some h
    refine rn_getR (ft189 22 rfl) q4 ?_
    refine rn_aload_n (ft189 23 rfl) rfl ?_
    obtain ⟨x5, q6, h⟩ := ob_some h
    refine rn_getI (ft189 24 rfl) (by decide) (by decide) q6 ?_
    refine rn_iconst (v := (1 : Int32)) (ft189 25 rfl) (by decide) ?_
    obtain ⟨w7, q8, h⟩ := ob_some h
    refine rn_bastore (ft189 26 rfl) q8 ?_
    refine rn_iload_n (ft189 27 rfl) rfl ?_
    cases h
    exact rn_iretI pr189 (ft189 28 rfl)
def f189 (n : Nat) (v0 : Nat) (w : Wd) : Option (Int32 × Wd) :=
  (if (wsh w v0).map (fun q => q.1) = some 11 then ob (f161 n v0 (0 : Int32) (63 : Int32) w) (fun p1 => (if ¬ p1.1 = 0 then f189_J34 n  v0 p1.1 p1.2
    else ob (getR p1.2 11 v0 32) (fun x10 => ob (getI p1.2 11 v0 20) (fun x12 => ob (aldB p1.2 x10 x12) (fun x14 => (if x14 = 0 then f189_J34 n  v0 p1.1 p1.2
      else ob (getI p1.2 11 v0 21) (fun x16 => (if (wsh p1.2 v0).map (fun q => q.1) = some 11 then ob (f46 v0 (4 : Int32) x16 p1.2) (fun p18 => f189_J34 n  v0 p18.1 p18.2) else none)))))))) else none)
set_option maxRecDepth 10000 in
theorem r189 {S : Sc} (n : Nat) (v0 : Nat) (w : Wd) (o : (Int32 × Wd)) (h : f189 n v0 w = some o) : Rn S 189 0 [some (.ref v0), none] [] w (some (.int o.1), o.2) := by
  unfold f189 at h
  refine rn_aload_n (ft189 0 rfl) rfl ?_
  refine rn_iconst (v := (0 : Int32)) (ft189 1 rfl) (by decide) ?_
  refine rn_bipush (v := (63 : Int32)) (ft189 2 rfl) (by decide) ?_
  obtain ⟨g23, h⟩ := ifg h
  obtain ⟨p1, q2, h⟩ := ob_some h
  refine rn_callV (as := [.int (0 : Int32), .int (63 : Int32)]) (k0 := v0) (r := []) (v := (some (.int p1.1))) (w1 := p1.2) (ft189 3 rfl) (by decide +kernel) rfl (Nat.le_of_ble_eq_true rfl) (Nat.le_of_ble_eq_true rfl) (r161 n v0 (0 : Int32) (63 : Int32) w _ q2) (by decide +kernel) g23 ?_
  refine rn_istore_n (ls' := [some (.ref v0), some (.int p1.1)]) (ft189 4 rfl) rfl ?_
  refine rn_iload_n (ft189 5 rfl) rfl ?_
  by_cases c22 : ¬ p1.1 = 0
  · replace h := ifp c22 h
    refine rn_if_ne_t (ft189 6 rfl) c22 ?_
    exact rn_forget (ls := [some (.ref v0), some (.int p1.1)]) (And.intro rfl (And.intro rfl trivial)) (rf189_J34 n  v0 p1.1 p1.2 _  h)
  · replace h := ifn c22 h
    refine rn_if_ne_f (ft189 6 rfl) c22 ?_
    refine rn_aload_n (ft189 7 rfl) rfl ?_
    obtain ⟨x10, q11, h⟩ := ob_some h
    refine rn_getR (ft189 8 rfl) q11 ?_
    refine rn_aload_n (ft189 9 rfl) rfl ?_
    obtain ⟨x12, q13, h⟩ := ob_some h
    refine rn_getI (ft189 10 rfl) (by decide) (by decide) q13 ?_
    obtain ⟨x14, q15, h⟩ := ob_some h
    refine rn_baload (ft189 11 rfl) q15 ?_
    by_cases c21 : x14 = 0
    · replace h := ifp c21 h
      refine rn_if_eq_t (ft189 12 rfl) c21 ?_
      exact rn_forget (ls := [some (.ref v0), some (.int p1.1)]) (And.intro rfl (And.intro rfl trivial)) (rf189_J34 n  v0 p1.1 p1.2 _  h)
    · replace h := ifn c21 h
      refine rn_if_eq_f (ft189 12 rfl) c21 ?_
      refine rn_aload_n (ft189 13 rfl) rfl ?_
      refine rn_iconst (v := (4 : Int32)) (ft189 14 rfl) (by decide) ?_
      refine rn_aload_n (ft189 15 rfl) rfl ?_
      obtain ⟨x16, q17, h⟩ := ob_some h
      refine rn_getI (ft189 16 rfl) (by decide) (by decide) q17 ?_
      obtain ⟨g20, h⟩ := ifg h
      obtain ⟨p18, q19, h⟩ := ob_some h
      refine rn_callV (as := [.int (4 : Int32), .int x16]) (k0 := v0) (r := []) (v := (some (.int p18.1))) (w1 := p18.2) (ft189 17 rfl) (by decide +kernel) rfl (Nat.le_of_ble_eq_true rfl) (Nat.le_of_ble_eq_true rfl) (r46 v0 (4 : Int32) x16 p1.2 _ q19) (by decide +kernel) g20 ?_
      refine rn_istore_n (ls' := [some (.ref v0), some (.int p18.1)]) (ft189 18 rfl) rfl ?_
      exact rn_forget (ls := [some (.ref v0), some (.int p18.1)]) (And.intro rfl (And.intro rfl trivial)) (rf189_J34 n  v0 p18.1 p18.2 _  h)
/-- NineWheelModel.turns(IIIII)I -/
theorem ft190 : ∀ (i : Nat) {q : Nat × XI}, cd190[i]? = some q → fetch 190 q.1 = some q.2 := ft_of (by decide +kernel)
theorem pr190 : pRt 190 = some .int := rfl
def f190 (v0 : Nat) (v1 : Int32) (v2 : Int32) (v3 : Int32) (v4 : Int32) (v5 : Int32) (w : Wd) : Option (Int32 × Wd) :=
  ob (f118 v1 w) (fun p1 => (if ¬ p1.1 = 0 then ob (f122 v2 p1.2) (fun p3 => (if p3.1 = 0 then some ((-1000002 : Int32), p3.2)
      else ob (f40 (Int32.toInt64 v3) (0 : Int64) (999 : Int64) p3.2) (fun p5 => (if p5.1 = 0 then some ((-1000002 : Int32), p5.2)
        else ob (f40 (Int32.toInt64 v4) (-1 : Int64) (1 : Int64) p5.2) (fun p7 => (if p7.1 = 0 then some ((-1000002 : Int32), p7.2)
          else ob (f40 (Int32.toInt64 v5) (0 : Int64) (2 : Int64) p7.2) (fun p9 => (if ¬ p9.1 = 0 then ob (getR p9.2 11 v0 2) (fun x11 => ob (aldB p9.2 x11 v1) (fun x13 => (if x13 = 0 then (if (wsh p9.2 v0).map (fun q => q.1) = some 11 then ob (f166 v0 v1 v2 v3 v4 p9.2) (fun p15 => (if ¬ v5 = 0 then (if ¬ v5 = (1 : Int32) then ob (getR p15.2 11 v0 2) (fun x17 => ob (aldB p15.2 x17 p15.1) (fun x19 => (if x19 = 0 then some ((0 : Int32), p15.2)
                    else some ((1 : Int32), p15.2))))
                  else ob (f51 v2 v4 p15.2) (fun p22 => some (p22.1, p22.2)))
                else some (p15.1, p15.2))) else none)
              else some ((-1000003 : Int32), p9.2))))
            else some ((-1000002 : Int32), p9.2)))))))))
    else some ((-1000001 : Int32), p1.2)))
set_option maxRecDepth 10000 in
theorem r190 {S : Sc} (v0 : Nat) (v1 : Int32) (v2 : Int32) (v3 : Int32) (v4 : Int32) (v5 : Int32) (w : Wd) (o : (Int32 × Wd)) (h : f190 v0 v1 v2 v3 v4 v5 w = some o) : Rn S 190 0 [some (.ref v0), some (.int v1), some (.int v2), some (.int v3), some (.int v4), some (.int v5), none] [] w (some (.int o.1), o.2) := by
  unfold f190 at h
  refine rn_iload_n (ft190 0 rfl) rfl ?_
  obtain ⟨p1, q2, h⟩ := ob_some h
  refine rn_callS (as := [.int v1]) (r := []) (v := (some (.int p1.1))) (w1 := p1.2) (ft190 1 rfl) (by decide +kernel) rfl (Nat.le_of_ble_eq_true rfl) (Nat.le_of_ble_eq_true rfl) (r118 v1 w _ q2) ?_
  by_cases c32 : ¬ p1.1 = 0
  · replace h := ifp c32 h
    refine rn_if_ne_t (ft190 2 rfl) c32 ?_
    refine rn_iload_n (ft190 5 rfl) rfl ?_
    obtain ⟨p3, q4, h⟩ := ob_some h
    refine rn_callS (as := [.int v2]) (r := []) (v := (some (.int p3.1))) (w1 := p3.2) (ft190 6 rfl) (by decide +kernel) rfl (Nat.le_of_ble_eq_true rfl) (Nat.le_of_ble_eq_true rfl) (r122 v2 p1.2 _ q4) ?_
    by_cases c31 : p3.1 = 0
    · replace h := ifp c31 h
      refine rn_if_eq_t (ft190 7 rfl) c31 ?_
      refine rn_ldc (v := (-1000002 : Int32)) (ft190 26 rfl) (by decide) rfl ?_
      cases h
      exact rn_iretI pr190 (ft190 27 rfl)
    · replace h := ifn c31 h
      refine rn_if_eq_f (ft190 7 rfl) c31 ?_
      refine rn_iload_n (ft190 8 rfl) rfl ?_
      refine rn_i2l (ft190 9 rfl) ?_
      refine rn_lconst (v := (0 : Int64)) (ft190 10 rfl) (by decide) ?_
      refine rn_ldc2 (v := (999 : Int64)) (ft190 11 rfl) (by decide) ?_
      obtain ⟨p5, q6, h⟩ := ob_some h
      refine rn_callS (as := [.long (Int32.toInt64 v3), .long (0 : Int64), .long (999 : Int64)]) (r := []) (v := (some (.int p5.1))) (w1 := p5.2) (ft190 12 rfl) (by decide +kernel) rfl (Nat.le_of_ble_eq_true rfl) (Nat.le_of_ble_eq_true rfl) (r40 (Int32.toInt64 v3) (0 : Int64) (999 : Int64) p3.2 _ q6) ?_
      by_cases c30 : p5.1 = 0
      · replace h := ifp c30 h
        refine rn_if_eq_t (ft190 13 rfl) c30 ?_
        refine rn_ldc (v := (-1000002 : Int32)) (ft190 26 rfl) (by decide) rfl ?_
        cases h
        exact rn_iretI pr190 (ft190 27 rfl)
      · replace h := ifn c30 h
        refine rn_if_eq_f (ft190 13 rfl) c30 ?_
        refine rn_iload (ft190 14 rfl) rfl ?_
        refine rn_i2l (ft190 15 rfl) ?_
        refine rn_ldc2 (v := (-1 : Int64)) (ft190 16 rfl) (by decide) ?_
        refine rn_lconst (v := (1 : Int64)) (ft190 17 rfl) (by decide) ?_
        obtain ⟨p7, q8, h⟩ := ob_some h
        refine rn_callS (as := [.long (Int32.toInt64 v4), .long (-1 : Int64), .long (1 : Int64)]) (r := []) (v := (some (.int p7.1))) (w1 := p7.2) (ft190 18 rfl) (by decide +kernel) rfl (Nat.le_of_ble_eq_true rfl) (Nat.le_of_ble_eq_true rfl) (r40 (Int32.toInt64 v4) (-1 : Int64) (1 : Int64) p5.2 _ q8) ?_
        by_cases c29 : p7.1 = 0
        · replace h := ifp c29 h
          refine rn_if_eq_t (ft190 19 rfl) c29 ?_
          refine rn_ldc (v := (-1000002 : Int32)) (ft190 26 rfl) (by decide) rfl ?_
          cases h
          exact rn_iretI pr190 (ft190 27 rfl)
        · replace h := ifn c29 h
          refine rn_if_eq_f (ft190 19 rfl) c29 ?_
          refine rn_iload (ft190 20 rfl) rfl ?_
          refine rn_i2l (ft190 21 rfl) ?_
          refine rn_lconst (v := (0 : Int64)) (ft190 22 rfl) (by decide) ?_
          refine rn_ldc2 (v := (2 : Int64)) (ft190 23 rfl) (by decide) ?_
          obtain ⟨p9, q10, h⟩ := ob_some h
          refine rn_callS (as := [.long (Int32.toInt64 v5), .long (0 : Int64), .long (2 : Int64)]) (r := []) (v := (some (.int p9.1))) (w1 := p9.2) (ft190 24 rfl) (by decide +kernel) rfl (Nat.le_of_ble_eq_true rfl) (Nat.le_of_ble_eq_true rfl) (r40 (Int32.toInt64 v5) (0 : Int64) (2 : Int64) p7.2 _ q10) ?_
          by_cases c28 : ¬ p9.1 = 0
          · replace h := ifp c28 h
            refine rn_if_ne_t (ft190 25 rfl) c28 ?_
            refine rn_aload_n (ft190 28 rfl) rfl ?_
            obtain ⟨x11, q12, h⟩ := ob_some h
            refine rn_getR (ft190 29 rfl) q12 ?_
            refine rn_iload_n (ft190 30 rfl) rfl ?_
            obtain ⟨x13, q14, h⟩ := ob_some h
            refine rn_baload (ft190 31 rfl) q14 ?_
            by_cases c27 : x13 = 0
            · replace h := ifp c27 h
              refine rn_if_eq_t (ft190 32 rfl) c27 ?_
              refine rn_aload_n (ft190 35 rfl) rfl ?_
              refine rn_iload_n (ft190 36 rfl) rfl ?_
              refine rn_iload_n (ft190 37 rfl) rfl ?_
              refine rn_iload_n (ft190 38 rfl) rfl ?_
              refine rn_iload (ft190 39 rfl) rfl ?_
              obtain ⟨g26, h⟩ := ifg h
              obtain ⟨p15, q16, h⟩ := ob_some h
              refine rn_callV (as := [.int v1, .int v2, .int v3, .int v4]) (k0 := v0) (r := []) (v := (some (.int p15.1))) (w1 := p15.2) (ft190 40 rfl) (by decide +kernel) rfl (Nat.le_of_ble_eq_true rfl) (Nat.le_of_ble_eq_true rfl) (r166 v0 v1 v2 v3 v4 p9.2 _ q16) (by decide +kernel) g26 ?_
              refine rn_istore (ls' := [some (.ref v0), some (.int v1), some (.int v2), some (.int v3), some (.int v4), some (.int v5), some (.int p15.1)]) (ft190 41 rfl) rfl ?_
              refine rn_iload (ft190 42 rfl) rfl ?_
              by_cases c25 : ¬ v5 = 0
              · replace h := ifp c25 h
                refine rn_if_ne_t (ft190 43 rfl) c25 ?_
                refine rn_iload (ft190 46 rfl) rfl ?_
                refine rn_iconst (v := (1 : Int32)) (ft190 47 rfl) (by decide) ?_
                by_cases c24 : ¬ v5 = (1 : Int32)
                · replace h := ifp c24 h
                  refine rn_icmp_ne_t (ft190 48 rfl) c24 ?_
                  refine rn_aload_n (ft190 53 rfl) rfl ?_
                  obtain ⟨x17, q18, h⟩ := ob_some h
                  refine rn_getR (ft190 54 rfl) q18 ?_
                  refine rn_iload (ft190 55 rfl) rfl ?_
                  obtain ⟨x19, q20, h⟩ := ob_some h
                  refine rn_baload (ft190 56 rfl) q20 ?_
                  by_cases c21 : x19 = 0
                  · replace h := ifp c21 h
                    refine rn_if_eq_t (ft190 57 rfl) c21 ?_
                    refine rn_iconst (v := (0 : Int32)) (ft190 60 rfl) (by decide) ?_
                    cases h
                    exact rn_iretI pr190 (ft190 61 rfl)
                  · replace h := ifn c21 h
                    refine rn_if_eq_f (ft190 57 rfl) c21 ?_
                    refine rn_iconst (v := (1 : Int32)) (ft190 58 rfl) (by decide) ?_
                    refine rn_goto (ft190 59 rfl) ?_
                    cases h
                    exact rn_iretI pr190 (ft190 61 rfl)
                · replace h := ifn c24 h
                  refine rn_icmp_ne_f (ft190 48 rfl) c24 ?_
                  refine rn_iload_n (ft190 49 rfl) rfl ?_
                  refine rn_iload (ft190 50 rfl) rfl ?_
                  obtain ⟨p22, q23, h⟩ := ob_some h
                  refine rn_callS (as := [.int v2, .int v4]) (r := []) (v := (some (.int p22.1))) (w1 := p22.2) (ft190 51 rfl) (by decide +kernel) rfl (Nat.le_of_ble_eq_true rfl) (Nat.le_of_ble_eq_true rfl) (r51 v2 v4 p15.2 _ q23) ?_
                  refine rn_goto (ft190 52 rfl) ?_
                  cases h
                  exact rn_iretI pr190 (ft190 61 rfl)
              · replace h := ifn c25 h
                refine rn_if_ne_f (ft190 43 rfl) c25 ?_
                refine rn_iload (ft190 44 rfl) rfl ?_
                refine rn_goto (ft190 45 rfl) ?_
                cases h
                exact rn_iretI pr190 (ft190 61 rfl)
            · replace h := ifn c27 h
              refine rn_if_eq_f (ft190 32 rfl) c27 ?_
              refine rn_ldcw (v := (-1000003 : Int32)) (ft190 33 rfl) (by decide) ?_
              cases h
              exact rn_iretI pr190 (ft190 34 rfl)
          · replace h := ifn c28 h
            refine rn_if_ne_f (ft190 25 rfl) c28 ?_
            refine rn_ldc (v := (-1000002 : Int32)) (ft190 26 rfl) (by decide) rfl ?_
            cases h
            exact rn_iretI pr190 (ft190 27 rfl)
  · replace h := ifn c32 h
    refine rn_if_ne_f (ft190 2 rfl) c32 ?_
    refine rn_ldcw (v := (-1000001 : Int32)) (ft190 3 rfl) (by decide) ?_
    cases h
    exact rn_iretI pr190 (ft190 4 rfl)
