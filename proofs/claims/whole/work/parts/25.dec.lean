/-! THE METHODS AS FUNCTIONS, 8 -/
/-- NineWheel$Counting.<init>(LNineWheel$Sea;LNineWheel$Crew;LNineWheel$Rule;)V -/
theorem ft136 : ∀ (i : Nat) {q : Nat × XI}, cd136[i]? = some q → fetch 136 q.1 = some q.2 := ft_of (by decide +kernel)
theorem pr136 : pRt 136 = none := rfl
def f136 (v0 : Nat) (v1 : Nat) (v2 : Nat) (v3 : Nat) (w : Wd) : Option Wd :=
  ob (putR (newC w 20 (Int32.toNatClampNeg (512 : Int32))) 0 v0 5 (wn w)) (fun w1 => ob (putR (newC w1 20 (Int32.toNatClampNeg (6 : Int32))) 0 v0 6 (wn w1)) (fun w3 => ob (f70 (wn w3) (newC w3 8 (NF 8))) (fun p5 => ob (putR p5 0 v0 7 (wn w3)) (fun w7 => ob (putR w7 0 v0 0 v1) (fun w9 => ob (putR w9 0 v0 1 v2) (fun w11 => ob (putR w11 0 v0 2 v3) (fun w13 => some w13)))))))
set_option maxRecDepth 10000 in
theorem r136 {S : Sc} (v0 : Nat) (v1 : Nat) (v2 : Nat) (v3 : Nat) (w : Wd) (o : Wd) (h : f136 v0 v1 v2 v3 w = some o) : Rn S 136 0 [some (.ref v0), some (.ref v1), some (.ref v2), some (.ref v3)] [] w (none, o) := by
  unfold f136 at h
  refine rn_aload_n (ft136 0 rfl) rfl ?_
  refine rn_objInit (ft136 1 rfl) (Nat.le_of_ble_eq_true rfl) ?_
  refine rn_aload_n (ft136 2 rfl) rfl ?_
  refine rn_sipush (v := (512 : Int32)) (ft136 3 rfl) (by decide) ?_
  refine rn_newA (kd := 20) (ft136 4 rfl) rfl (by decide) ?_
  obtain ⟨w1, q2, h⟩ := ob_some h
  refine rn_putR (ft136 5 rfl) q2 ?_
  refine rn_aload_n (ft136 6 rfl) rfl ?_
  refine rn_bipush (v := (6 : Int32)) (ft136 7 rfl) (by decide) ?_
  refine rn_newA (kd := 20) (ft136 8 rfl) rfl (by decide) ?_
  obtain ⟨w3, q4, h⟩ := ob_some h
  refine rn_putR (ft136 9 rfl) q4 ?_
  refine rn_aload_n (ft136 10 rfl) rfl ?_
  refine rn_new (ft136 11 rfl) ?_
  refine rn_dup (ft136 12 rfl) rfl ?_
  obtain ⟨p5, q6, h⟩ := ob_some h
  refine rn_callI (as := []) (k0 := (wn w3)) (r := [.ref (wn w3), .ref v0]) (v := none) (w1 := p5) (ft136 13 rfl) (by decide +kernel) rfl (Nat.le_of_ble_eq_true rfl) (Nat.le_of_ble_eq_true rfl) (r70 (wn w3) (newC w3 8 (NF 8)) _ q6) ?_
  obtain ⟨w7, q8, h⟩ := ob_some h
  refine rn_putR (ft136 14 rfl) q8 ?_
  refine rn_aload_n (ft136 15 rfl) rfl ?_
  refine rn_aload_n (ft136 16 rfl) rfl ?_
  obtain ⟨w9, q10, h⟩ := ob_some h
  refine rn_putR (ft136 17 rfl) q10 ?_
  refine rn_aload_n (ft136 18 rfl) rfl ?_
  refine rn_aload_n (ft136 19 rfl) rfl ?_
  obtain ⟨w11, q12, h⟩ := ob_some h
  refine rn_putR (ft136 20 rfl) q12 ?_
  refine rn_aload_n (ft136 21 rfl) rfl ?_
  refine rn_aload_n (ft136 22 rfl) rfl ?_
  obtain ⟨w13, q14, h⟩ := ob_some h
  refine rn_putR (ft136 23 rfl) q14 ?_
  cases h
  exact rn_vret pr136 (ft136 24 rfl)
/-- NineWheel$Journey.<init>(LNineWheel$Sea;LNineWheel$Crew;LNineWheel$Counting;LNineWheel$Held;)V -/
theorem ft137 : ∀ (i : Nat) {q : Nat × XI}, cd137[i]? = some q → fetch 137 q.1 = some q.2 := ft_of (by decide +kernel)
theorem pr137 : pRt 137 = none := rfl
def f137 (v0 : Nat) (v1 : Nat) (v2 : Nat) (v3 : Nat) (v4 : Nat) (w : Wd) : Option Wd :=
  ob (f70 (wn w) (newC w 8 (NF 8))) (fun p1 => ob (putR p1 4 v0 4 (wn w)) (fun w3 => ob (putR (newC w3 20 (Int32.toNatClampNeg (401 : Int32))) 4 v0 5 (wn w3)) (fun w5 => ob (putR (newC w5 20 (Int32.toNatClampNeg (400 : Int32))) 4 v0 6 (wn w5)) (fun w7 => ob (putR w7 4 v0 0 v1) (fun w9 => ob (putR w9 4 v0 1 v2) (fun w11 => ob (putR w11 4 v0 2 v3) (fun w13 => ob (putR w13 4 v0 3 v4) (fun w15 => some w15))))))))
set_option maxRecDepth 10000 in
theorem r137 {S : Sc} (v0 : Nat) (v1 : Nat) (v2 : Nat) (v3 : Nat) (v4 : Nat) (w : Wd) (o : Wd) (h : f137 v0 v1 v2 v3 v4 w = some o) : Rn S 137 0 [some (.ref v0), some (.ref v1), some (.ref v2), some (.ref v3), some (.ref v4)] [] w (none, o) := by
  unfold f137 at h
  refine rn_aload_n (ft137 0 rfl) rfl ?_
  refine rn_objInit (ft137 1 rfl) (Nat.le_of_ble_eq_true rfl) ?_
  refine rn_aload_n (ft137 2 rfl) rfl ?_
  refine rn_new (ft137 3 rfl) ?_
  refine rn_dup (ft137 4 rfl) rfl ?_
  obtain ⟨p1, q2, h⟩ := ob_some h
  refine rn_callI (as := []) (k0 := (wn w)) (r := [.ref (wn w), .ref v0]) (v := none) (w1 := p1) (ft137 5 rfl) (by decide +kernel) rfl (Nat.le_of_ble_eq_true rfl) (Nat.le_of_ble_eq_true rfl) (r70 (wn w) (newC w 8 (NF 8)) _ q2) ?_
  obtain ⟨w3, q4, h⟩ := ob_some h
  refine rn_putR (ft137 6 rfl) q4 ?_
  refine rn_aload_n (ft137 7 rfl) rfl ?_
  refine rn_sipush (v := (401 : Int32)) (ft137 8 rfl) (by decide) ?_
  refine rn_newA (kd := 20) (ft137 9 rfl) rfl (by decide) ?_
  obtain ⟨w5, q6, h⟩ := ob_some h
  refine rn_putR (ft137 10 rfl) q6 ?_
  refine rn_aload_n (ft137 11 rfl) rfl ?_
  refine rn_sipush (v := (400 : Int32)) (ft137 12 rfl) (by decide) ?_
  refine rn_newA (kd := 20) (ft137 13 rfl) rfl (by decide) ?_
  obtain ⟨w7, q8, h⟩ := ob_some h
  refine rn_putR (ft137 14 rfl) q8 ?_
  refine rn_aload_n (ft137 15 rfl) rfl ?_
  refine rn_aload_n (ft137 16 rfl) rfl ?_
  obtain ⟨w9, q10, h⟩ := ob_some h
  refine rn_putR (ft137 17 rfl) q10 ?_
  refine rn_aload_n (ft137 18 rfl) rfl ?_
  refine rn_aload_n (ft137 19 rfl) rfl ?_
  obtain ⟨w11, q12, h⟩ := ob_some h
  refine rn_putR (ft137 20 rfl) q12 ?_
  refine rn_aload_n (ft137 21 rfl) rfl ?_
  refine rn_aload_n (ft137 22 rfl) rfl ?_
  obtain ⟨w13, q14, h⟩ := ob_some h
  refine rn_putR (ft137 23 rfl) q14 ?_
  refine rn_aload_n (ft137 24 rfl) rfl ?_
  refine rn_aload (ft137 25 rfl) rfl ?_
  obtain ⟨w15, q16, h⟩ := ob_some h
  refine rn_putR (ft137 26 rfl) q16 ?_
  cases h
  exact rn_vret pr137 (ft137 27 rfl)
/-- NineWheel$Text.ended()Z -/
theorem ft138 : ∀ (i : Nat) {q : Nat × XI}, cd138[i]? = some q → fetch 138 q.1 = some q.2 := ft_of (by decide +kernel)
theorem pr138 : pRt 138 = some .boolean := rfl
def f138 (n : Nat) (v0 : Nat) (w : Wd) : Option (Int32 × Wd) :=
  (if (wsh w v0).map (fun q => q.1) = some 9 then ob (f73 n v0 w) (fun p1 => ob (getI p1 9 v0 2) (fun x3 => ob (getI p1 9 v0 1) (fun x5 => (if x3 < x5 then some ((0 : Int32), p1)
    else some ((1 : Int32), p1))))) else none)
set_option maxRecDepth 10000 in
theorem r138 {S : Sc} (n : Nat) (v0 : Nat) (w : Wd) (o : (Int32 × Wd)) (h : f138 n v0 w = some o) : Rn S 138 0 [some (.ref v0)] [] w (some (.int o.1), o.2) := by
  unfold f138 at h
  refine rn_aload_n (ft138 0 rfl) rfl ?_
  obtain ⟨g8, h⟩ := ifg h
  obtain ⟨p1, q2, h⟩ := ob_some h
  refine rn_callV (as := []) (k0 := v0) (r := []) (v := none) (w1 := p1) (ft138 1 rfl) (by decide +kernel) rfl (Nat.le_of_ble_eq_true rfl) (Nat.le_of_ble_eq_true rfl) (r73 n v0 w _ q2) (by decide +kernel) g8 ?_
  refine rn_aload_n (ft138 2 rfl) rfl ?_
  obtain ⟨x3, q4, h⟩ := ob_some h
  refine rn_getI (ft138 3 rfl) (by decide) (by decide) q4 ?_
  refine rn_aload_n (ft138 4 rfl) rfl ?_
  obtain ⟨x5, q6, h⟩ := ob_some h
  refine rn_getI (ft138 5 rfl) (by decide) (by decide) q6 ?_
  by_cases c7 : x3 < x5
  · replace h := ifp c7 h
    refine rn_icmp_lt_t (ft138 6 rfl) c7 ?_
    refine rn_iconst (v := (0 : Int32)) (ft138 9 rfl) (by decide) ?_
    cases h
    exact rn_iretZ pr138 (by decide) (ft138 10 rfl)
  · replace h := ifn c7 h
    refine rn_icmp_lt_f (ft138 6 rfl) c7 ?_
    refine rn_iconst (v := (1 : Int32)) (ft138 7 rfl) (by decide) ?_
    refine rn_goto (ft138 8 rfl) ?_
    cases h
    exact rn_iretZ pr138 (by decide) (ft138 10 rfl)
/-- java/lang/StringLatin1.charAt([BI)C -/
theorem ft139 : ∀ (i : Nat) {q : Nat × XI}, cd139[i]? = some q → fetch 139 q.1 = some q.2 := ft_of (by decide +kernel)
theorem pr139 : pRt 139 = some .char := rfl
def f139 (v0 : UInt32) (v1 : Int32) (w : Wd) : Option (Int32 × Wd) :=
  ob (slen v0) (fun x1 => ob (f75 v1 x1 w) (fun p3 => ob (tldB stx v0 v1) (fun x5 => (if ((toC (x5 &&& (255 : Int32)))).toUInt32.toUInt16.toUInt32.toInt32 = (toC (x5 &&& (255 : Int32))) then some ((toC (x5 &&& (255 : Int32))), p3) else none))))
set_option maxRecDepth 10000 in
theorem r139 {S : Sc} (v0 : UInt32) (v1 : Int32) (w : Wd) (o : (Int32 × Wd)) (h : f139 v0 v1 w = some o) : Rn S 139 0 [some (.float v0), some (.int v1)] [] w (some (.int o.1), o.2) := by
  unfold f139 at h
  refine rn_iload_n (ft139 0 rfl) rfl ?_
  refine rn_aload_nS (ft139 1 rfl) rfl ?_
  obtain ⟨x1, q2, h⟩ := ob_some h
  refine rn_alenS (ft139 2 rfl) (slen_ok q2) ?_
  obtain ⟨p3, q4, h⟩ := ob_some h
  refine rn_callS (as := [.int v1, .int x1]) (r := []) (v := none) (w1 := p3) (ft139 3 rfl) (by decide +kernel) rfl (Nat.le_of_ble_eq_true rfl) (Nat.le_of_ble_eq_true rfl) (r75 v1 x1 w _ q4) ?_
  refine rn_aload_nS (ft139 4 rfl) rfl ?_
  refine rn_iload_n (ft139 5 rfl) rfl ?_
  obtain ⟨x5, q6, h⟩ := ob_some h
  refine rn_baloadS (ft139 6 rfl) q6 ?_
  refine rn_sipush (v := (255 : Int32)) (ft139 7 rfl) (by decide) ?_
  refine rn_iand (ft139 8 rfl) ?_
  refine rn_i2c (ft139 9 rfl) ?_
  obtain ⟨g7, h⟩ := ifg h
  cases h
  exact rn_iretC pr139 g7 (ft139 10 rfl)
/-- NineWheel$Text.number(II)I -/
theorem ft140 : ∀ (i : Nat) {q : Nat × XI}, cd140[i]? = some q → fetch 140 q.1 = some q.2 := ft_of (by decide +kernel)
theorem pr140 : pRt 140 = some .int := rfl
def f140_J134 (n : Nat) (rec36 : Nat → Int32 → Int32 → Int32 → Int32 → Int32 → Wd → Option (Int32 × Wd)) (K36 : Nat → Int32 → Int32 → Int32 → Int32 → Int32 → Wd → Option (Int32 × Wd)) (v0 : Nat) (v1 : Int32) (v2 : Int32) (v3 : Int32) (v4 : Int32) (v5 : Int32) (w : Wd) : Option (Int32 × Wd) :=
  ob (getI w 9 v0 2) (fun x25 => ob (putI w 9 v0 2 (x25 + (1 : Int32))) (fun w27 => rec36 v0 v1 v2 v3 v4 v5 w27))
set_option maxRecDepth 10000 in
theorem rf140_J134 {S : Sc} (n : Nat) (rec36 : Nat → Int32 → Int32 → Int32 → Int32 → Int32 → Wd → Option (Int32 × Wd)) (K36 : Nat → Int32 → Int32 → Int32 → Int32 → Int32 → Wd → Option (Int32 × Wd)) (v0 : Nat) (v1 : Int32) (v2 : Int32) (v3 : Int32) (v4 : Int32) (v5 : Int32) (w : Wd) (o : (Int32 × Wd)) (hrec36 : ∀ (y0 : Nat) (y1 : Int32) (y2 : Int32) (y3 : Int32) (y4 : Int32) (y5 : Int32) (w : Wd) (o : (Int32 × Wd)), rec36 y0 y1 y2 y3 y4 y5 w = some o → Rn S 140 67 [some (.ref y0), some (.int y1), some (.int y2), some (.int y3), some (.int y4), some (.int y5)] [] w (some (.int o.1), o.2)) (hK36 : ∀ (y0 : Nat) (y1 : Int32) (y2 : Int32) (y3 : Int32) (y4 : Int32) (y5 : Int32) (w : Wd) (o : (Int32 × Wd)), K36 y0 y1 y2 y3 y4 y5 w = some o → Rn S 140 147 [some (.ref y0), some (.int y1), some (.int y2), some (.int y3), some (.int y4), some (.int y5)] [] w (some (.int o.1), o.2)) (h : f140_J134 n rec36 K36 v0 v1 v2 v3 v4 v5 w = some o) : Rn S 140 134 [some (.ref v0), some (.int v1), some (.int v2), some (.int v3), some (.int v4), some (.int v5)] [] w (some (.int o.1), o.2) := by
  unfold f140_J134 at h
  refine rn_aload_n (ft140 70 rfl) rfl ?_
  refine rn_dup (ft140 71 rfl) rfl ?_
  obtain ⟨x25, q26, h⟩ := ob_some h
  refine rn_getI (ft140 72 rfl) (by decide) (by decide) q26 ?_
  refine rn_iconst (v := (1 : Int32)) (ft140 73 rfl) (by decide) ?_
  refine rn_iadd (ft140 74 rfl) ?_
  obtain ⟨w27, q28, h⟩ := ob_some h
  refine rn_putI (ft140 75 rfl) q28 ?_
  refine rn_goto (ft140 76 rfl) ?_
  exact rn_forget (ls := [some (.ref v0), some (.int v1), some (.int v2), some (.int v3), some (.int v4), some (.int v5)]) (And.intro rfl (And.intro rfl (And.intro rfl (And.intro rfl (And.intro rfl (And.intro rfl trivial)))))) (hrec36 v0 v1 v2 v3 v4 v5 w27 _ h)
def f140_H67 (n : Nat)  (K36 : Nat → Int32 → Int32 → Int32 → Int32 → Int32 → Wd → Option (Int32 × Wd)) : Nat → Nat → Int32 → Int32 → Int32 → Int32 → Int32 → Wd → Option (Int32 × Wd)
  | 0, _, _, _, _, _, _, _ => none
  | k + 1, v0, v1, v2, v3, v4, v5, w =>
    ob (getI w 9 v0 2) (fun x11 => ob (getI w 9 v0 1) (fun x13 => (if x13 ≤ x11 then K36 v0 v1 v2 v3 v4 v5 w
      else ob (getI w 9 v0 2) (fun x15 => (if (wsh w v0).map (fun q => q.1) = some 9 then ob (f4 v0 x15 w) (fun p17 => (if p17.1 < (48 : Int32) then K36 v0 v1 v2 v3 v4 v5 p17.2
        else ob (getI p17.2 9 v0 2) (fun x19 => (if (wsh p17.2 v0).map (fun q => q.1) = some 9 then ob (f4 v0 x19 p17.2) (fun p21 => (if (57 : Int32) < p21.1 then K36 v0 v1 v2 v3 v4 v5 p21.2
          else ob (getI p21.2 9 v0 2) (fun x23 => (if (2 : Int32) ≤ (x23 - v4) then f140_J134 n (fun (v0 : Nat) (v1 : Int32) (v2 : Int32) (v3 : Int32) (v4 : Int32) (v5 : Int32) w => f140_H67 n  K36 k v0 v1 v2 v3 v4 v5 w) K36 v0 v1 v2 v3 v4 v5 p21.2
            else ob (getI p21.2 9 v0 2) (fun x29 => (if (wsh p21.2 v0).map (fun q => q.1) = some 9 then ob (f4 v0 x29 p21.2) (fun p31 => f140_J134 n (fun (v0 : Nat) (v1 : Int32) (v2 : Int32) (v3 : Int32) (v4 : Int32) (v5 : Int32) w => f140_H67 n  K36 k v0 v1 v2 v3 v4 v5 w) K36 v0 v1 v2 v3 v4 ((((10 : Int32) * v5) + p31.1) - (48 : Int32)) p31.2) else none)))))) else none)))) else none)))))
set_option maxRecDepth 10000 in
theorem rf140_H67 {S : Sc} (n : Nat)  (K36 : Nat → Int32 → Int32 → Int32 → Int32 → Int32 → Wd → Option (Int32 × Wd))  (hK36 : ∀ (y0 : Nat) (y1 : Int32) (y2 : Int32) (y3 : Int32) (y4 : Int32) (y5 : Int32) (w : Wd) (o : (Int32 × Wd)), K36 y0 y1 y2 y3 y4 y5 w = some o → Rn S 140 147 [some (.ref y0), some (.int y1), some (.int y2), some (.int y3), some (.int y4), some (.int y5)] [] w (some (.int o.1), o.2)) : ∀ (k : Nat) (v0 : Nat) (v1 : Int32) (v2 : Int32) (v3 : Int32) (v4 : Int32) (v5 : Int32) (w : Wd) (o : (Int32 × Wd)), f140_H67 n  K36 k v0 v1 v2 v3 v4 v5 w = some o → Rn S 140 67 [some (.ref v0), some (.int v1), some (.int v2), some (.int v3), some (.int v4), some (.int v5)] [] w (some (.int o.1), o.2) := by
  intro k
  induction k with
  | zero =>
    intro v0 v1 v2 v3 v4 v5 w o h
    exact nomatch h
  | succ k ih =>
    intro v0 v1 v2 v3 v4 v5 w o h
    have hrec36 : ∀ (y0 : Nat) (y1 : Int32) (y2 : Int32) (y3 : Int32) (y4 : Int32) (y5 : Int32) (w : Wd) (o : (Int32 × Wd)), (fun (v0 : Nat) (v1 : Int32) (v2 : Int32) (v3 : Int32) (v4 : Int32) (v5 : Int32) w => f140_H67 n  K36 k v0 v1 v2 v3 v4 v5 w) y0 y1 y2 y3 y4 y5 w = some o → Rn S 140 67 [some (.ref y0), some (.int y1), some (.int y2), some (.int y3), some (.int y4), some (.int y5)] [] w (some (.int o.1), o.2) := fun y0 y1 y2 y3 y4 y5 w o h => ih y0 y1 y2 y3 y4 y5 w o h
    unfold f140_H67 at h
    refine rn_aload_n (ft140 36 rfl) rfl ?_
    obtain ⟨x11, q12, h⟩ := ob_some h
    refine rn_getI (ft140 37 rfl) (by decide) (by decide) q12 ?_
    refine rn_aload_n (ft140 38 rfl) rfl ?_
    obtain ⟨x13, q14, h⟩ := ob_some h
    refine rn_getI (ft140 39 rfl) (by decide) (by decide) q14 ?_
    by_cases c39 : x13 ≤ x11
    · replace h := ifp c39 h
      refine rn_icmp_ge_t (ft140 40 rfl) c39 ?_
      exact rn_forget (ls := [some (.ref v0), some (.int v1), some (.int v2), some (.int v3), some (.int v4), some (.int v5)]) (And.intro rfl (And.intro rfl (And.intro rfl (And.intro rfl (And.intro rfl (And.intro rfl trivial)))))) (hK36 v0 v1 v2 v3 v4 v5 w _ h)
    · replace h := ifn c39 h
      refine rn_icmp_ge_f (ft140 40 rfl) c39 ?_
      refine rn_aload_n (ft140 41 rfl) rfl ?_
      refine rn_aload_n (ft140 42 rfl) rfl ?_
      obtain ⟨x15, q16, h⟩ := ob_some h
      refine rn_getI (ft140 43 rfl) (by decide) (by decide) q16 ?_
      obtain ⟨g38, h⟩ := ifg h
      obtain ⟨p17, q18, h⟩ := ob_some h
      refine rn_callV (as := [.int x15]) (k0 := v0) (r := []) (v := (some (.int p17.1))) (w1 := p17.2) (ft140 44 rfl) (by decide +kernel) rfl (Nat.le_of_ble_eq_true rfl) (Nat.le_of_ble_eq_true rfl) (r4 v0 x15 w _ q18) (by decide +kernel) g38 ?_
      refine rn_bipush (v := (48 : Int32)) (ft140 45 rfl) (by decide) ?_
      by_cases c37 : p17.1 < (48 : Int32)
      · replace h := ifp c37 h
        refine rn_icmp_lt_t (ft140 46 rfl) c37 ?_
        exact rn_forget (ls := [some (.ref v0), some (.int v1), some (.int v2), some (.int v3), some (.int v4), some (.int v5)]) (And.intro rfl (And.intro rfl (And.intro rfl (And.intro rfl (And.intro rfl (And.intro rfl trivial)))))) (hK36 v0 v1 v2 v3 v4 v5 p17.2 _ h)
      · replace h := ifn c37 h
        refine rn_icmp_lt_f (ft140 46 rfl) c37 ?_
        refine rn_aload_n (ft140 47 rfl) rfl ?_
        refine rn_aload_n (ft140 48 rfl) rfl ?_
        obtain ⟨x19, q20, h⟩ := ob_some h
        refine rn_getI (ft140 49 rfl) (by decide) (by decide) q20 ?_
        obtain ⟨g36, h⟩ := ifg h
        obtain ⟨p21, q22, h⟩ := ob_some h
        refine rn_callV (as := [.int x19]) (k0 := v0) (r := []) (v := (some (.int p21.1))) (w1 := p21.2) (ft140 50 rfl) (by decide +kernel) rfl (Nat.le_of_ble_eq_true rfl) (Nat.le_of_ble_eq_true rfl) (r4 v0 x19 p17.2 _ q22) (by decide +kernel) g36 ?_
        refine rn_bipush (v := (57 : Int32)) (ft140 51 rfl) (by decide) ?_
        by_cases c35 : (57 : Int32) < p21.1
        · replace h := ifp c35 h
          refine rn_icmp_gt_t (ft140 52 rfl) c35 ?_
          exact rn_forget (ls := [some (.ref v0), some (.int v1), some (.int v2), some (.int v3), some (.int v4), some (.int v5)]) (And.intro rfl (And.intro rfl (And.intro rfl (And.intro rfl (And.intro rfl (And.intro rfl trivial)))))) (hK36 v0 v1 v2 v3 v4 v5 p21.2 _ h)
        · replace h := ifn c35 h
          refine rn_icmp_gt_f (ft140 52 rfl) c35 ?_
          refine rn_aload_n (ft140 53 rfl) rfl ?_
          obtain ⟨x23, q24, h⟩ := ob_some h
          refine rn_getI (ft140 54 rfl) (by decide) (by decide) q24 ?_
          refine rn_iload (ft140 55 rfl) rfl ?_
          refine rn_isub (ft140 56 rfl) ?_
          refine rn_iconst (v := (2 : Int32)) (ft140 57 rfl) (by decide) ?_
          by_cases c34 : (2 : Int32) ≤ (x23 - v4)
          · replace h := ifp c34 h
            refine rn_icmp_ge_t (ft140 58 rfl) c34 ?_
            exact rn_forget (ls := [some (.ref v0), some (.int v1), some (.int v2), some (.int v3), some (.int v4), some (.int v5)]) (And.intro rfl (And.intro rfl (And.intro rfl (And.intro rfl (And.intro rfl (And.intro rfl trivial)))))) (rf140_J134 n (fun (v0 : Nat) (v1 : Int32) (v2 : Int32) (v3 : Int32) (v4 : Int32) (v5 : Int32) w => f140_H67 n  K36 k v0 v1 v2 v3 v4 v5 w) K36 v0 v1 v2 v3 v4 v5 p21.2 _ hrec36 hK36 h)
          · replace h := ifn c34 h
            refine rn_icmp_ge_f (ft140 58 rfl) c34 ?_
            refine rn_bipush (v := (10 : Int32)) (ft140 59 rfl) (by decide) ?_
            refine rn_iload (ft140 60 rfl) rfl ?_
            refine rn_imul (ft140 61 rfl) ?_
            refine rn_aload_n (ft140 62 rfl) rfl ?_
            refine rn_aload_n (ft140 63 rfl) rfl ?_
            obtain ⟨x29, q30, h⟩ := ob_some h
            refine rn_getI (ft140 64 rfl) (by decide) (by decide) q30 ?_
            obtain ⟨g33, h⟩ := ifg h
            obtain ⟨p31, q32, h⟩ := ob_some h
            refine rn_callV (as := [.int x29]) (k0 := v0) (r := [.int ((10 : Int32) * v5)]) (v := (some (.int p31.1))) (w1 := p31.2) (ft140 65 rfl) (by decide +kernel) rfl (Nat.le_of_ble_eq_true rfl) (Nat.le_of_ble_eq_true rfl) (r4 v0 x29 p21.2 _ q32) (by decide +kernel) g33 ?_
            refine rn_iadd (ft140 66 rfl) ?_
            refine rn_bipush (v := (48 : Int32)) (ft140 67 rfl) (by decide) ?_
            refine rn_isub (ft140 68 rfl) ?_
            refine rn_istore (ls' := [some (.ref v0), some (.int v1), some (.int v2), some (.int v3), some (.int v4), some (.int ((((10 : Int32) * v5) + p31.1) - (48 : Int32)))]) (ft140 69 rfl) rfl ?_
            exact rn_forget (ls := [some (.ref v0), some (.int v1), some (.int v2), some (.int v3), some (.int v4), some (.int ((((10 : Int32) * v5) + p31.1) - (48 : Int32)))]) (And.intro rfl (And.intro rfl (And.intro rfl (And.intro rfl (And.intro rfl (And.intro rfl trivial)))))) (rf140_J134 n (fun (v0 : Nat) (v1 : Int32) (v2 : Int32) (v3 : Int32) (v4 : Int32) (v5 : Int32) w => f140_H67 n  K36 k v0 v1 v2 v3 v4 v5 w) K36 v0 v1 v2 v3 v4 ((((10 : Int32) * v5) + p31.1) - (48 : Int32)) p31.2 _ hrec36 hK36 h)
def f140_J207 (n : Nat)  (v0 : Nat) (v5 : Int32) (w : Wd) : Option (Int32 × Wd) :=
  ob (getI w 9 v0 4) (fun x49 => (if x49 = 0 then some (v5, w)
    else some ((0 : Int32), w)))
set_option maxRecDepth 10000 in
theorem rf140_J207 {S : Sc} (n : Nat)  (v0 : Nat) (v5 : Int32) (w : Wd) (o : (Int32 × Wd))  (h : f140_J207 n  v0 v5 w = some o) : Rn S 140 207 [some (.ref v0), none, none, none, none, some (.int v5)] [] w (some (.int o.1), o.2) := by
  unfold f140_J207 at h
  refine rn_aload_n (ft140 108 rfl) rfl ?_
  obtain ⟨x49, q50, h⟩ := ob_some h
  refine rn_getI (ft140 109 rfl) (by decide) (by decide) q50 ?_
  by_cases c51 : x49 = 0
  · replace h := ifp c51 h
    refine rn_if_eq_t (ft140 110 rfl) c51 ?_
    refine rn_iload (ft140 113 rfl) rfl ?_
    cases h
    exact rn_iretI pr140 (ft140 114 rfl)
  · replace h := ifn c51 h
    refine rn_if_eq_f (ft140 110 rfl) c51 ?_
    refine rn_iconst (v := (0 : Int32)) (ft140 111 rfl) (by decide) ?_
    refine rn_goto (ft140 112 rfl) ?_
    cases h
    exact rn_iretI pr140 (ft140 114 rfl)
def f140_J198 (n : Nat)  (v0 : Nat) (v5 : Int32) (w : Wd) : Option (Int32 × Wd) :=
  ob (getI w 9 v0 3) (fun x45 => (if (wsh w v0).map (fun q => q.1) = some 9 then ob (f8 v0 (2 : Int32) x45 w) (fun p47 => f140_J207 n  v0 v5 p47) else none))
set_option maxRecDepth 10000 in
theorem rf140_J198 {S : Sc} (n : Nat)  (v0 : Nat) (v5 : Int32) (w : Wd) (o : (Int32 × Wd))  (h : f140_J198 n  v0 v5 w = some o) : Rn S 140 198 [some (.ref v0), none, none, none, none, some (.int v5)] [] w (some (.int o.1), o.2) := by
  unfold f140_J198 at h
  refine rn_aload_n (ft140 103 rfl) rfl ?_
  refine rn_iconst (v := (2 : Int32)) (ft140 104 rfl) (by decide) ?_
  refine rn_aload_n (ft140 105 rfl) rfl ?_
  obtain ⟨x45, q46, h⟩ := ob_some h
  refine rn_getI (ft140 106 rfl) (by decide) (by decide) q46 ?_
  obtain ⟨g52, h⟩ := ifg h
  obtain ⟨p47, q48, h⟩ := ob_some h
  refine rn_callV (as := [.int (2 : Int32), .int x45]) (k0 := v0) (r := []) (v := none) (w1 := p47) (ft140 107 rfl) (by decide +kernel) rfl (Nat.le_of_ble_eq_true rfl) (Nat.le_of_ble_eq_true rfl) (r8 v0 (2 : Int32) x45 w _ q48) (by decide +kernel) g52 ?_
  exact rn_forget (ls := [some (.ref v0), none, none, none, none, some (.int v5)]) (And.intro rfl (And.intro rfl trivial)) (rf140_J207 n  v0 v5 p47 _  h)
def f140_J156 (n : Nat)  (v0 : Nat) (v1 : Int32) (v2 : Int32) (v4 : Int32) (v5 : Int32) (w : Wd) : Option (Int32 × Wd) :=
  ob (getI w 9 v0 2) (fun x41 => (if ¬ x41 = v4 then ob (getI w 9 v0 2) (fun x43 => (if (2 : Int32) < (x43 - v4) then f140_J198 n  v0 v5 w
      else ob (f0 v5 v1 v2 w) (fun p53 => (if p53.1 = 0 then f140_J207 n  v0 v5 p53.2
        else f140_J198 n  v0 v5 p53.2))))
    else ob (getI w 9 v0 2) (fun x57 => (if (wsh w v0).map (fun q => q.1) = some 9 then ob (f8 v0 (1 : Int32) x57 w) (fun p59 => f140_J207 n  v0 v5 p59) else none))))
set_option maxRecDepth 10000 in
theorem rf140_J156 {S : Sc} (n : Nat)  (v0 : Nat) (v1 : Int32) (v2 : Int32) (v4 : Int32) (v5 : Int32) (w : Wd) (o : (Int32 × Wd))  (h : f140_J156 n  v0 v1 v2 v4 v5 w = some o) : Rn S 140 156 [some (.ref v0), some (.int v1), some (.int v2), none, some (.int v4), some (.int v5)] [] w (some (.int o.1), o.2) := by
  unfold f140_J156 at h
  refine rn_aload_n (ft140 82 rfl) rfl ?_
  obtain ⟨x41, q42, h⟩ := ob_some h
  refine rn_getI (ft140 83 rfl) (by decide) (by decide) q42 ?_
  refine rn_iload (ft140 84 rfl) rfl ?_
  by_cases c62 : ¬ x41 = v4
  · replace h := ifp c62 h
    refine rn_icmp_ne_t (ft140 85 rfl) c62 ?_
    refine rn_aload_n (ft140 92 rfl) rfl ?_
    obtain ⟨x43, q44, h⟩ := ob_some h
    refine rn_getI (ft140 93 rfl) (by decide) (by decide) q44 ?_
    refine rn_iload (ft140 94 rfl) rfl ?_
    refine rn_isub (ft140 95 rfl) ?_
    refine rn_iconst (v := (2 : Int32)) (ft140 96 rfl) (by decide) ?_
    by_cases c56 : (2 : Int32) < (x43 - v4)
    · replace h := ifp c56 h
      refine rn_icmp_gt_t (ft140 97 rfl) c56 ?_
      exact rn_forget (ls := [some (.ref v0), none, none, none, none, some (.int v5)]) (And.intro rfl (And.intro rfl trivial)) (rf140_J198 n  v0 v5 w _  h)
    · replace h := ifn c56 h
      refine rn_icmp_gt_f (ft140 97 rfl) c56 ?_
      refine rn_iload (ft140 98 rfl) rfl ?_
      refine rn_iload_n (ft140 99 rfl) rfl ?_
      refine rn_iload_n (ft140 100 rfl) rfl ?_
      obtain ⟨p53, q54, h⟩ := ob_some h
      refine rn_callS (as := [.int v5, .int v1, .int v2]) (r := []) (v := (some (.int p53.1))) (w1 := p53.2) (ft140 101 rfl) (by decide +kernel) rfl (Nat.le_of_ble_eq_true rfl) (Nat.le_of_ble_eq_true rfl) (r0 v5 v1 v2 w _ q54) ?_
      by_cases c55 : p53.1 = 0
      · replace h := ifp c55 h
        refine rn_if_eq_t (ft140 102 rfl) c55 ?_
        exact rn_forget (ls := [some (.ref v0), none, none, none, none, some (.int v5)]) (And.intro rfl (And.intro rfl trivial)) (rf140_J207 n  v0 v5 p53.2 _  h)
      · replace h := ifn c55 h
        refine rn_if_eq_f (ft140 102 rfl) c55 ?_
        exact rn_forget (ls := [some (.ref v0), none, none, none, none, some (.int v5)]) (And.intro rfl (And.intro rfl trivial)) (rf140_J198 n  v0 v5 p53.2 _  h)
  · replace h := ifn c62 h
    refine rn_icmp_ne_f (ft140 85 rfl) c62 ?_
    refine rn_aload_n (ft140 86 rfl) rfl ?_
    refine rn_iconst (v := (1 : Int32)) (ft140 87 rfl) (by decide) ?_
    refine rn_aload_n (ft140 88 rfl) rfl ?_
    obtain ⟨x57, q58, h⟩ := ob_some h
    refine rn_getI (ft140 89 rfl) (by decide) (by decide) q58 ?_
    obtain ⟨g61, h⟩ := ifg h
    obtain ⟨p59, q60, h⟩ := ob_some h
    refine rn_callV (as := [.int (1 : Int32), .int x57]) (k0 := v0) (r := []) (v := none) (w1 := p59) (ft140 90 rfl) (by decide +kernel) rfl (Nat.le_of_ble_eq_true rfl) (Nat.le_of_ble_eq_true rfl) (r8 v0 (1 : Int32) x57 w _ q60) (by decide +kernel) g61 ?_
    refine rn_goto (ft140 91 rfl) ?_
    exact rn_forget (ls := [some (.ref v0), none, none, none, none, some (.int v5)]) (And.intro rfl (And.intro rfl trivial)) (rf140_J207 n  v0 v5 p59 _  h)
def f140_J147 (n : Nat)  (v0 : Nat) (v1 : Int32) (v2 : Int32) (v3 : Int32) (v4 : Int32) (v5 : Int32) (w : Wd) : Option (Int32 × Wd) :=
  (if v3 = 0 then f140_J156 n  v0 v1 v2 v4 v5 w
    else f140_J156 n  v0 v1 v2 v4 (-v5) w)
set_option maxRecDepth 10000 in
theorem rf140_J147 {S : Sc} (n : Nat)  (v0 : Nat) (v1 : Int32) (v2 : Int32) (v3 : Int32) (v4 : Int32) (v5 : Int32) (w : Wd) (o : (Int32 × Wd))  (h : f140_J147 n  v0 v1 v2 v3 v4 v5 w = some o) : Rn S 140 147 [some (.ref v0), some (.int v1), some (.int v2), some (.int v3), some (.int v4), some (.int v5)] [] w (some (.int o.1), o.2) := by
  unfold f140_J147 at h
  refine rn_iload_n (ft140 77 rfl) rfl ?_
  by_cases c63 : v3 = 0
  · replace h := ifp c63 h
    refine rn_if_eq_t (ft140 78 rfl) c63 ?_
    exact rn_forget (ls := [some (.ref v0), some (.int v1), some (.int v2), none, some (.int v4), some (.int v5)]) (And.intro rfl (And.intro rfl (And.intro rfl (And.intro rfl (And.intro rfl trivial))))) (rf140_J156 n  v0 v1 v2 v4 v5 w _  h)
  · replace h := ifn c63 h
    refine rn_if_eq_f (ft140 78 rfl) c63 ?_
    refine rn_iload (ft140 79 rfl) rfl ?_
    refine rn_ineg (ft140 80 rfl) ?_
    refine rn_istore (ls' := [some (.ref v0), some (.int v1), some (.int v2), some (.int v3), some (.int v4), some (.int (-v5))]) (ft140 81 rfl) rfl ?_
    exact rn_forget (ls := [some (.ref v0), some (.int v1), some (.int v2), none, some (.int v4), some (.int (-v5))]) (And.intro rfl (And.intro rfl (And.intro rfl (And.intro rfl (And.intro rfl trivial))))) (rf140_J156 n  v0 v1 v2 v4 (-v5) w _  h)
def f140_J58 (n : Nat)  (v0 : Nat) (v1 : Int32) (v2 : Int32) (v3 : Int32) (w : Wd) : Option (Int32 × Wd) :=
  ob (getI w 9 v0 2) (fun x9 => f140_H67 n  (fun (e0_40 : Nat) (e1_40 : Int32) (e2_40 : Int32) (e3_40 : Int32) (e4_40 : Int32) (e5_40 : Int32) (w40 : Wd) => f140_J147 n  e0_40 e1_40 e2_40 e3_40 e4_40 e5_40 w40) n v0 v1 v2 v3 x9 (0 : Int32) w)
set_option maxRecDepth 10000 in
theorem rf140_J58 {S : Sc} (n : Nat)  (v0 : Nat) (v1 : Int32) (v2 : Int32) (v3 : Int32) (w : Wd) (o : (Int32 × Wd))  (h : f140_J58 n  v0 v1 v2 v3 w = some o) : Rn S 140 58 [some (.ref v0), some (.int v1), some (.int v2), some (.int v3), none, none] [] w (some (.int o.1), o.2) := by
  unfold f140_J58 at h
  refine rn_aload_n (ft140 31 rfl) rfl ?_
  obtain ⟨x9, q10, h⟩ := ob_some h
  refine rn_getI (ft140 32 rfl) (by decide) (by decide) q10 ?_
  refine rn_istore (ls' := [some (.ref v0), some (.int v1), some (.int v2), some (.int v3), some (.int x9), none]) (ft140 33 rfl) rfl ?_
  refine rn_iconst (v := (0 : Int32)) (ft140 34 rfl) (by decide) ?_
  refine rn_istore (ls' := [some (.ref v0), some (.int v1), some (.int v2), some (.int v3), some (.int x9), some (.int (0 : Int32))]) (ft140 35 rfl) rfl ?_
  refine rn_forget (ls := [some (.ref v0), some (.int v1), some (.int v2), some (.int v3), some (.int x9), some (.int (0 : Int32))]) (And.intro rfl (And.intro rfl (And.intro rfl (And.intro rfl (And.intro rfl (And.intro rfl trivial)))))) (rf140_H67 n  _  (fun e0_40 e1_40 e2_40 e3_40 e4_40 e5_40 w40 o h => ?_) n v0 v1 v2 v3 x9 (0 : Int32) w _ h)
  exact rn_forget (ls := [some (.ref e0_40), some (.int e1_40), some (.int e2_40), some (.int e3_40), some (.int e4_40), some (.int e5_40)]) (And.intro rfl (And.intro rfl (And.intro rfl (And.intro rfl (And.intro rfl (And.intro rfl trivial)))))) (rf140_J147 n  e0_40 e1_40 e2_40 e3_40 e4_40 e5_40 w40 _  h)
def f140_J43 (n : Nat)  (v0 : Nat) (v1 : Int32) (v2 : Int32) (s0 : Int32) (w : Wd) : Option (Int32 × Wd) :=
  (if s0 = 0 then f140_J58 n  v0 v1 v2 s0 w
    else ob (getI w 9 v0 2) (fun x64 => ob (putI w 9 v0 2 (x64 + (1 : Int32))) (fun w66 => f140_J58 n  v0 v1 v2 s0 w66)))
set_option maxRecDepth 10000 in
theorem rf140_J43 {S : Sc} (n : Nat)  (v0 : Nat) (v1 : Int32) (v2 : Int32) (s0 : Int32) (w : Wd) (o : (Int32 × Wd))  (h : f140_J43 n  v0 v1 v2 s0 w = some o) : Rn S 140 43 [some (.ref v0), some (.int v1), some (.int v2), none, none, none] [.int s0] w (some (.int o.1), o.2) := by
  unfold f140_J43 at h
  refine rn_istore_n (ls' := [some (.ref v0), some (.int v1), some (.int v2), some (.int s0), none, none]) (ft140 22 rfl) rfl ?_
  refine rn_iload_n (ft140 23 rfl) rfl ?_
  by_cases c68 : s0 = 0
  · replace h := ifp c68 h
    refine rn_if_eq_t (ft140 24 rfl) c68 ?_
    exact rn_forget (ls := [some (.ref v0), some (.int v1), some (.int v2), some (.int s0), none, none]) (And.intro rfl (And.intro rfl (And.intro rfl (And.intro rfl trivial)))) (rf140_J58 n  v0 v1 v2 s0 w _  h)
  · replace h := ifn c68 h
    refine rn_if_eq_f (ft140 24 rfl) c68 ?_
    refine rn_aload_n (ft140 25 rfl) rfl ?_
    refine rn_dup (ft140 26 rfl) rfl ?_
    obtain ⟨x64, q65, h⟩ := ob_some h
    refine rn_getI (ft140 27 rfl) (by decide) (by decide) q65 ?_
    refine rn_iconst (v := (1 : Int32)) (ft140 28 rfl) (by decide) ?_
    refine rn_iadd (ft140 29 rfl) ?_
    obtain ⟨w66, q67, h⟩ := ob_some h
    refine rn_putI (ft140 30 rfl) q67 ?_
    exact rn_forget (ls := [some (.ref v0), some (.int v1), some (.int v2), some (.int s0), none, none]) (And.intro rfl (And.intro rfl (And.intro rfl (And.intro rfl trivial)))) (rf140_J58 n  v0 v1 v2 s0 w66 _  h)
def f140 (n : Nat) (v0 : Nat) (v1 : Int32) (v2 : Int32) (w : Wd) : Option (Int32 × Wd) :=
  (if (wsh w v0).map (fun q => q.1) = some 9 then ob (f73 n v0 w) (fun p1 => ob (getI p1 9 v0 4) (fun x3 => (if x3 = 0 then ob (getI p1 9 v0 2) (fun x5 => ob (putI p1 9 v0 3 x5) (fun w7 => (if 0 ≤ v1 then f140_J43 n  v0 v1 v2 (0 : Int32) w7
      else ob (getI w7 9 v0 2) (fun x69 => (if (wsh w7 v0).map (fun q => q.1) = some 9 then ob (f4 v0 x69 w7) (fun p71 => (if ¬ p71.1 = (45 : Int32) then f140_J43 n  v0 v1 v2 (0 : Int32) p71.2
        else f140_J43 n  v0 v1 v2 (1 : Int32) p71.2)) else none)))))
    else some ((0 : Int32), p1)))) else none)
set_option maxRecDepth 10000 in
theorem r140 {S : Sc} (n : Nat) (v0 : Nat) (v1 : Int32) (v2 : Int32) (w : Wd) (o : (Int32 × Wd)) (h : f140 n v0 v1 v2 w = some o) : Rn S 140 0 [some (.ref v0), some (.int v1), some (.int v2), none, none, none] [] w (some (.int o.1), o.2) := by
  unfold f140 at h
  refine rn_aload_n (ft140 0 rfl) rfl ?_
  obtain ⟨g77, h⟩ := ifg h
  obtain ⟨p1, q2, h⟩ := ob_some h
  refine rn_callV (as := []) (k0 := v0) (r := []) (v := none) (w1 := p1) (ft140 1 rfl) (by decide +kernel) rfl (Nat.le_of_ble_eq_true rfl) (Nat.le_of_ble_eq_true rfl) (r73 n v0 w _ q2) (by decide +kernel) g77 ?_
  refine rn_aload_n (ft140 2 rfl) rfl ?_
  obtain ⟨x3, q4, h⟩ := ob_some h
  refine rn_getI (ft140 3 rfl) (by decide) (by decide) q4 ?_
  by_cases c76 : x3 = 0
  · replace h := ifp c76 h
    refine rn_if_eq_t (ft140 4 rfl) c76 ?_
    refine rn_aload_n (ft140 7 rfl) rfl ?_
    refine rn_aload_n (ft140 8 rfl) rfl ?_
    obtain ⟨x5, q6, h⟩ := ob_some h
    refine rn_getI (ft140 9 rfl) (by decide) (by decide) q6 ?_
    obtain ⟨w7, q8, h⟩ := ob_some h
    refine rn_putI (ft140 10 rfl) q8 ?_
    refine rn_iload_n (ft140 11 rfl) rfl ?_
    by_cases c75 : 0 ≤ v1
    · replace h := ifp c75 h
      refine rn_if_ge_t (ft140 12 rfl) c75 ?_
      refine rn_iconst (v := (0 : Int32)) (ft140 21 rfl) (by decide) ?_
      exact rn_forget (ls := [some (.ref v0), some (.int v1), some (.int v2), none, none, none]) (And.intro rfl (And.intro rfl (And.intro rfl trivial))) (rf140_J43 n  v0 v1 v2 (0 : Int32) w7 _  h)
    · replace h := ifn c75 h
      refine rn_if_ge_f (ft140 12 rfl) c75 ?_
      refine rn_aload_n (ft140 13 rfl) rfl ?_
      refine rn_aload_n (ft140 14 rfl) rfl ?_
      obtain ⟨x69, q70, h⟩ := ob_some h
      refine rn_getI (ft140 15 rfl) (by decide) (by decide) q70 ?_
      obtain ⟨g74, h⟩ := ifg h
      obtain ⟨p71, q72, h⟩ := ob_some h
      refine rn_callV (as := [.int x69]) (k0 := v0) (r := []) (v := (some (.int p71.1))) (w1 := p71.2) (ft140 16 rfl) (by decide +kernel) rfl (Nat.le_of_ble_eq_true rfl) (Nat.le_of_ble_eq_true rfl) (r4 v0 x69 w7 _ q72) (by decide +kernel) g74 ?_
      refine rn_bipush (v := (45 : Int32)) (ft140 17 rfl) (by decide) ?_
      by_cases c73 : ¬ p71.1 = (45 : Int32)
      · replace h := ifp c73 h
        refine rn_icmp_ne_t (ft140 18 rfl) c73 ?_
        refine rn_iconst (v := (0 : Int32)) (ft140 21 rfl) (by decide) ?_
        exact rn_forget (ls := [some (.ref v0), some (.int v1), some (.int v2), none, none, none]) (And.intro rfl (And.intro rfl (And.intro rfl trivial))) (rf140_J43 n  v0 v1 v2 (0 : Int32) p71.2 _  h)
      · replace h := ifn c73 h
        refine rn_icmp_ne_f (ft140 18 rfl) c73 ?_
        refine rn_iconst (v := (1 : Int32)) (ft140 19 rfl) (by decide) ?_
        refine rn_goto (ft140 20 rfl) ?_
        exact rn_forget (ls := [some (.ref v0), some (.int v1), some (.int v2), none, none, none]) (And.intro rfl (And.intro rfl (And.intro rfl trivial))) (rf140_J43 n  v0 v1 v2 (1 : Int32) p71.2 _  h)
  · replace h := ifn c76 h
    refine rn_if_eq_f (ft140 4 rfl) c76 ?_
    refine rn_iconst (v := (0 : Int32)) (ft140 5 rfl) (by decide) ?_
    cases h
    exact rn_iretI pr140 (ft140 6 rfl)
/-- NineWheel$Text.takes(C)Z -/
theorem ft141 : ∀ (i : Nat) {q : Nat × XI}, cd141[i]? = some q → fetch 141 q.1 = some q.2 := ft_of (by decide +kernel)
theorem pr141 : pRt 141 = some .boolean := rfl
def f141 (n : Nat) (v0 : Nat) (v1 : Int32) (w : Wd) : Option (Int32 × Wd) :=
  (if (wsh w v0).map (fun q => q.1) = some 9 then ob (f73 n v0 w) (fun p1 => ob (getI p1 9 v0 4) (fun x3 => (if ¬ x3 = 0 then some ((0 : Int32), p1)
    else ob (getI p1 9 v0 2) (fun x5 => (if (wsh p1 v0).map (fun q => q.1) = some 9 then ob (f4 v0 x5 p1) (fun p7 => (if p7.1 = v1 then ob (getI p7.2 9 v0 2) (fun x9 => ob (putI p7.2 9 v0 2 (x9 + (1 : Int32))) (fun w11 => some ((1 : Int32), w11)))
      else some ((0 : Int32), p7.2))) else none))))) else none)
set_option maxRecDepth 10000 in
theorem r141 {S : Sc} (n : Nat) (v0 : Nat) (v1 : Int32) (w : Wd) (o : (Int32 × Wd)) (h : f141 n v0 v1 w = some o) : Rn S 141 0 [some (.ref v0), some (.int v1)] [] w (some (.int o.1), o.2) := by
  unfold f141 at h
  refine rn_aload_n (ft141 0 rfl) rfl ?_
  obtain ⟨g16, h⟩ := ifg h
  obtain ⟨p1, q2, h⟩ := ob_some h
  refine rn_callV (as := []) (k0 := v0) (r := []) (v := none) (w1 := p1) (ft141 1 rfl) (by decide +kernel) rfl (Nat.le_of_ble_eq_true rfl) (Nat.le_of_ble_eq_true rfl) (r73 n v0 w _ q2) (by decide +kernel) g16 ?_
  refine rn_aload_n (ft141 2 rfl) rfl ?_
  obtain ⟨x3, q4, h⟩ := ob_some h
  refine rn_getI (ft141 3 rfl) (by decide) (by decide) q4 ?_
  by_cases c15 : ¬ x3 = 0
  · replace h := ifp c15 h
    refine rn_if_ne_t (ft141 4 rfl) c15 ?_
    refine rn_iconst (v := (0 : Int32)) (ft141 11 rfl) (by decide) ?_
    cases h
    exact rn_iretZ pr141 (by decide) (ft141 12 rfl)
  · replace h := ifn c15 h
    refine rn_if_ne_f (ft141 4 rfl) c15 ?_
    refine rn_aload_n (ft141 5 rfl) rfl ?_
    refine rn_aload_n (ft141 6 rfl) rfl ?_
    obtain ⟨x5, q6, h⟩ := ob_some h
    refine rn_getI (ft141 7 rfl) (by decide) (by decide) q6 ?_
    obtain ⟨g14, h⟩ := ifg h
    obtain ⟨p7, q8, h⟩ := ob_some h
    refine rn_callV (as := [.int x5]) (k0 := v0) (r := []) (v := (some (.int p7.1))) (w1 := p7.2) (ft141 8 rfl) (by decide +kernel) rfl (Nat.le_of_ble_eq_true rfl) (Nat.le_of_ble_eq_true rfl) (r4 v0 x5 p1 _ q8) (by decide +kernel) g14 ?_
    refine rn_iload_n (ft141 9 rfl) rfl ?_
    by_cases c13 : p7.1 = v1
    · replace h := ifp c13 h
      refine rn_icmp_eq_t (ft141 10 rfl) c13 ?_
      refine rn_aload_n (ft141 13 rfl) rfl ?_
      refine rn_dup (ft141 14 rfl) rfl ?_
      obtain ⟨x9, q10, h⟩ := ob_some h
      refine rn_getI (ft141 15 rfl) (by decide) (by decide) q10 ?_
      refine rn_iconst (v := (1 : Int32)) (ft141 16 rfl) (by decide) ?_
      refine rn_iadd (ft141 17 rfl) ?_
      obtain ⟨w11, q12, h⟩ := ob_some h
      refine rn_putI (ft141 18 rfl) q12 ?_
      refine rn_iconst (v := (1 : Int32)) (ft141 19 rfl) (by decide) ?_
      cases h
      exact rn_iretZ pr141 (by decide) (ft141 20 rfl)
    · replace h := ifn c13 h
      refine rn_icmp_eq_f (ft141 10 rfl) c13 ?_
      refine rn_iconst (v := (0 : Int32)) (ft141 11 rfl) (by decide) ?_
      cases h
      exact rn_iretZ pr141 (by decide) (ft141 12 rfl)
/-- NineWheel$Sea.rocksNear(I)I -/
theorem ft142 : ∀ (i : Nat) {q : Nat × XI}, cd142[i]? = some q → fetch 142 q.1 = some q.2 := ft_of (by decide +kernel)
theorem pr142 : pRt 142 = some .int := rfl
def f142_H4 (n : Nat)  (K4 : Int32 → Wd → Option (Int32 × Wd)) : Nat → Nat → Int32 → Int32 → Int32 → Wd → Option (Int32 × Wd)
  | 0, _, _, _, _, _ => none
  | k + 1, v0, v1, v2, v3, w =>
    (if (64 : Int32) ≤ v3 then K4 v2 w
      else (if (wsh w v0).map (fun q => q.1) = some 6 then ob (f9 v0 v3 w) (fun p1 => (if p1.1 = 0 then (fun (v0 : Nat) (v1 : Int32) (v2 : Int32) (v3 : Int32) w => f142_H4 n  K4 k v0 v1 v2 v3 w) v0 v1 v2 (v3 + (1 : Int32)) p1.2
        else ob (f80 v3 v1 p1.2) (fun p3 => (if (1 : Int32) < p3.1 then (fun (v0 : Nat) (v1 : Int32) (v2 : Int32) (v3 : Int32) w => f142_H4 n  K4 k v0 v1 v2 v3 w) v0 v1 v2 (v3 + (1 : Int32)) p3.2
          else (fun (v0 : Nat) (v1 : Int32) (v2 : Int32) (v3 : Int32) w => f142_H4 n  K4 k v0 v1 v2 v3 w) v0 v1 (v2 + (1 : Int32)) (v3 + (1 : Int32)) p3.2)))) else none))
set_option maxRecDepth 10000 in
theorem rf142_H4 {S : Sc} (n : Nat)  (K4 : Int32 → Wd → Option (Int32 × Wd))  (hK4 : ∀ (y2 : Int32) (w : Wd) (o : (Int32 × Wd)), K4 y2 w = some o → Rn S 142 36 [none, none, some (.int y2), none] [] w (some (.int o.1), o.2)) : ∀ (k : Nat) (v0 : Nat) (v1 : Int32) (v2 : Int32) (v3 : Int32) (w : Wd) (o : (Int32 × Wd)), f142_H4 n  K4 k v0 v1 v2 v3 w = some o → Rn S 142 4 [some (.ref v0), some (.int v1), some (.int v2), some (.int v3)] [] w (some (.int o.1), o.2) := by
  intro k
  induction k with
  | zero =>
    intro v0 v1 v2 v3 w o h
    exact nomatch h
  | succ k ih =>
    intro v0 v1 v2 v3 w o h
    have hrec4 : ∀ (y0 : Nat) (y1 : Int32) (y2 : Int32) (y3 : Int32) (w : Wd) (o : (Int32 × Wd)), (fun (v0 : Nat) (v1 : Int32) (v2 : Int32) (v3 : Int32) w => f142_H4 n  K4 k v0 v1 v2 v3 w) y0 y1 y2 y3 w = some o → Rn S 142 4 [some (.ref y0), some (.int y1), some (.int y2), some (.int y3)] [] w (some (.int o.1), o.2) := fun y0 y1 y2 y3 w o h => ih y0 y1 y2 y3 w o h
    unfold f142_H4 at h
    refine rn_iload_n (ft142 4 rfl) rfl ?_
    refine rn_bipush (v := (64 : Int32)) (ft142 5 rfl) (by decide) ?_
    by_cases c8 : (64 : Int32) ≤ v3
    · replace h := ifp c8 h
      refine rn_icmp_ge_t (ft142 6 rfl) c8 ?_
      exact rn_forget (ls := [none, none, some (.int v2), none]) (And.intro rfl trivial) (hK4 v2 w _ h)
    · replace h := ifn c8 h
      refine rn_icmp_ge_f (ft142 6 rfl) c8 ?_
      refine rn_aload_n (ft142 7 rfl) rfl ?_
      refine rn_iload_n (ft142 8 rfl) rfl ?_
      obtain ⟨g7, h⟩ := ifg h
      obtain ⟨p1, q2, h⟩ := ob_some h
      refine rn_callV (as := [.int v3]) (k0 := v0) (r := []) (v := (some (.int p1.1))) (w1 := p1.2) (ft142 9 rfl) (by decide +kernel) rfl (Nat.le_of_ble_eq_true rfl) (Nat.le_of_ble_eq_true rfl) (r9 v0 v3 w _ q2) (by decide +kernel) g7 ?_
      by_cases c6 : p1.1 = 0
      · replace h := ifp c6 h
        refine rn_if_eq_t (ft142 10 rfl) c6 ?_
        refine rn_iinc (u := 1) (ls' := [some (.ref v0), some (.int v1), some (.int v2), some (.int (v3 + (1 : Int32)))]) (ft142 17 rfl) rfl (by decide) rfl ?_
        refine rn_goto (ft142 18 rfl) ?_
        exact rn_forget (ls := [some (.ref v0), some (.int v1), some (.int v2), some (.int (v3 + (1 : Int32)))]) (And.intro rfl (And.intro rfl (And.intro rfl (And.intro rfl trivial)))) (hrec4 v0 v1 v2 (v3 + (1 : Int32)) p1.2 _ h)
      · replace h := ifn c6 h
        refine rn_if_eq_f (ft142 10 rfl) c6 ?_
        refine rn_iload_n (ft142 11 rfl) rfl ?_
        refine rn_iload_n (ft142 12 rfl) rfl ?_
        obtain ⟨p3, q4, h⟩ := ob_some h
        refine rn_callS (as := [.int v3, .int v1]) (r := []) (v := (some (.int p3.1))) (w1 := p3.2) (ft142 13 rfl) (by decide +kernel) rfl (Nat.le_of_ble_eq_true rfl) (Nat.le_of_ble_eq_true rfl) (r80 v3 v1 p1.2 _ q4) ?_
        refine rn_iconst (v := (1 : Int32)) (ft142 14 rfl) (by decide) ?_
        by_cases c5 : (1 : Int32) < p3.1
        · replace h := ifp c5 h
          refine rn_icmp_gt_t (ft142 15 rfl) c5 ?_
          refine rn_iinc (u := 1) (ls' := [some (.ref v0), some (.int v1), some (.int v2), some (.int (v3 + (1 : Int32)))]) (ft142 17 rfl) rfl (by decide) rfl ?_
          refine rn_goto (ft142 18 rfl) ?_
          exact rn_forget (ls := [some (.ref v0), some (.int v1), some (.int v2), some (.int (v3 + (1 : Int32)))]) (And.intro rfl (And.intro rfl (And.intro rfl (And.intro rfl trivial)))) (hrec4 v0 v1 v2 (v3 + (1 : Int32)) p3.2 _ h)
        · replace h := ifn c5 h
          refine rn_icmp_gt_f (ft142 15 rfl) c5 ?_
          refine rn_iinc (u := 1) (ls' := [some (.ref v0), some (.int v1), some (.int (v2 + (1 : Int32))), some (.int v3)]) (ft142 16 rfl) rfl (by decide) rfl ?_
          refine rn_iinc (u := 1) (ls' := [some (.ref v0), some (.int v1), some (.int (v2 + (1 : Int32))), some (.int (v3 + (1 : Int32)))]) (ft142 17 rfl) rfl (by decide) rfl ?_
          refine rn_goto (ft142 18 rfl) ?_
          exact rn_forget (ls := [some (.ref v0), some (.int v1), some (.int (v2 + (1 : Int32))), some (.int (v3 + (1 : Int32)))]) (And.intro rfl (And.intro rfl (And.intro rfl (And.intro rfl trivial)))) (hrec4 v0 v1 (v2 + (1 : Int32)) (v3 + (1 : Int32)) p3.2 _ h)
def f142 (n : Nat) (v0 : Nat) (v1 : Int32) (w : Wd) : Option (Int32 × Wd) :=
  f142_H4 n  (fun (e2_9 : Int32) (w9 : Wd) => some (e2_9, w9)) n v0 v1 (0 : Int32) (0 : Int32) w
set_option maxRecDepth 10000 in
theorem r142 {S : Sc} (n : Nat) (v0 : Nat) (v1 : Int32) (w : Wd) (o : (Int32 × Wd)) (h : f142 n v0 v1 w = some o) : Rn S 142 0 [some (.ref v0), some (.int v1), none, none] [] w (some (.int o.1), o.2) := by
  unfold f142 at h
  refine rn_iconst (v := (0 : Int32)) (ft142 0 rfl) (by decide) ?_
  refine rn_istore_n (ls' := [some (.ref v0), some (.int v1), some (.int (0 : Int32)), none]) (ft142 1 rfl) rfl ?_
  refine rn_iconst (v := (0 : Int32)) (ft142 2 rfl) (by decide) ?_
  refine rn_istore_n (ls' := [some (.ref v0), some (.int v1), some (.int (0 : Int32)), some (.int (0 : Int32))]) (ft142 3 rfl) rfl ?_
  refine rn_forget (ls := [some (.ref v0), some (.int v1), some (.int (0 : Int32)), some (.int (0 : Int32))]) (And.intro rfl (And.intro rfl (And.intro rfl (And.intro rfl trivial)))) (rf142_H4 n  _  (fun e2_9 w9 o h => ?_) n v0 v1 (0 : Int32) (0 : Int32) w _ h)
  refine rn_iload_n (ft142 19 rfl) rfl ?_
  cases h
  exact rn_iretI pr142 (ft142 20 rfl)
/-- NineWheel$Sea.worthToSet(II)I -/
theorem ft143 : ∀ (i : Nat) {q : Nat × XI}, cd143[i]? = some q → fetch 143 q.1 = some q.2 := ft_of (by decide +kernel)
theorem pr143 : pRt 143 = some .int := rfl
def f143_H5 (n : Nat)  (K4 : Int32 → Wd → Option (Int32 × Wd)) : Nat → Nat → Int32 → Int32 → Int32 → Int32 → Wd → Option (Int32 × Wd)
  | 0, _, _, _, _, _, _ => none
  | k + 1, v0, v1, v2, v3, v4, w =>
    ob (getI w 6 v0 5) (fun x1 => (if x1 ≤ v4 then K4 v3 w
      else ob (f16 v2 v4 w) (fun p3 => (if p3.1 = 0 then (fun (v0 : Nat) (v1 : Int32) (v2 : Int32) (v3 : Int32) (v4 : Int32) w => f143_H5 n  K4 k v0 v1 v2 v3 v4 w) v0 v1 v2 v3 (v4 + (1 : Int32)) p3.2
        else (if (wsh p3.2 v0).map (fun q => q.1) = some 6 then ob (f84 v0 v4 p3.2) (fun p5 => (if (wsh p5.2 v0).map (fun q => q.1) = some 6 then ob (f81 v0 v4 v1 p5.2) (fun p7 => (fun (v0 : Nat) (v1 : Int32) (v2 : Int32) (v3 : Int32) (v4 : Int32) w => f143_H5 n  K4 k v0 v1 v2 v3 v4 w) v0 v1 v2 (v3 + (p5.1 * p7.1)) (v4 + (1 : Int32)) p7.2) else none)) else none)))))
set_option maxRecDepth 10000 in
theorem rf143_H5 {S : Sc} (n : Nat)  (K4 : Int32 → Wd → Option (Int32 × Wd))  (hK4 : ∀ (y3 : Int32) (w : Wd) (o : (Int32 × Wd)), K4 y3 w = some o → Rn S 143 46 [none, none, none, some (.int y3), none] [] w (some (.int o.1), o.2)) : ∀ (k : Nat) (v0 : Nat) (v1 : Int32) (v2 : Int32) (v3 : Int32) (v4 : Int32) (w : Wd) (o : (Int32 × Wd)), f143_H5 n  K4 k v0 v1 v2 v3 v4 w = some o → Rn S 143 5 [some (.ref v0), some (.int v1), some (.int v2), some (.int v3), some (.int v4)] [] w (some (.int o.1), o.2) := by
  intro k
  induction k with
  | zero =>
    intro v0 v1 v2 v3 v4 w o h
    exact nomatch h
  | succ k ih =>
    intro v0 v1 v2 v3 v4 w o h
    have hrec4 : ∀ (y0 : Nat) (y1 : Int32) (y2 : Int32) (y3 : Int32) (y4 : Int32) (w : Wd) (o : (Int32 × Wd)), (fun (v0 : Nat) (v1 : Int32) (v2 : Int32) (v3 : Int32) (v4 : Int32) w => f143_H5 n  K4 k v0 v1 v2 v3 v4 w) y0 y1 y2 y3 y4 w = some o → Rn S 143 5 [some (.ref y0), some (.int y1), some (.int y2), some (.int y3), some (.int y4)] [] w (some (.int o.1), o.2) := fun y0 y1 y2 y3 y4 w o h => ih y0 y1 y2 y3 y4 w o h
    unfold f143_H5 at h
    refine rn_iload (ft143 4 rfl) rfl ?_
    refine rn_aload_n (ft143 5 rfl) rfl ?_
    obtain ⟨x1, q2, h⟩ := ob_some h
    refine rn_getI (ft143 6 rfl) (by decide) (by decide) q2 ?_
    by_cases c12 : x1 ≤ v4
    · replace h := ifp c12 h
      refine rn_icmp_ge_t (ft143 7 rfl) c12 ?_
      exact rn_forget (ls := [none, none, none, some (.int v3), none]) (And.intro rfl trivial) (hK4 v3 w _ h)
    · replace h := ifn c12 h
      refine rn_icmp_ge_f (ft143 7 rfl) c12 ?_
      refine rn_iload_n (ft143 8 rfl) rfl ?_
      refine rn_iload (ft143 9 rfl) rfl ?_
      obtain ⟨p3, q4, h⟩ := ob_some h
      refine rn_callS (as := [.int v2, .int v4]) (r := []) (v := (some (.int p3.1))) (w1 := p3.2) (ft143 10 rfl) (by decide +kernel) rfl (Nat.le_of_ble_eq_true rfl) (Nat.le_of_ble_eq_true rfl) (r16 v2 v4 w _ q4) ?_
      by_cases c11 : p3.1 = 0
      · replace h := ifp c11 h
        refine rn_if_eq_t (ft143 11 rfl) c11 ?_
        refine rn_iinc (u := 1) (ls' := [some (.ref v0), some (.int v1), some (.int v2), some (.int v3), some (.int (v4 + (1 : Int32)))]) (ft143 23 rfl) rfl (by decide) rfl ?_
        refine rn_goto (ft143 24 rfl) ?_
        exact rn_forget (ls := [some (.ref v0), some (.int v1), some (.int v2), some (.int v3), some (.int (v4 + (1 : Int32)))]) (And.intro rfl (And.intro rfl (And.intro rfl (And.intro rfl (And.intro rfl trivial))))) (hrec4 v0 v1 v2 v3 (v4 + (1 : Int32)) p3.2 _ h)
      · replace h := ifn c11 h
        refine rn_if_eq_f (ft143 11 rfl) c11 ?_
        refine rn_iload_n (ft143 12 rfl) rfl ?_
        refine rn_aload_n (ft143 13 rfl) rfl ?_
        refine rn_iload (ft143 14 rfl) rfl ?_
        obtain ⟨g10, h⟩ := ifg h
        obtain ⟨p5, q6, h⟩ := ob_some h
        refine rn_callV (as := [.int v4]) (k0 := v0) (r := [.int v3]) (v := (some (.int p5.1))) (w1 := p5.2) (ft143 15 rfl) (by decide +kernel) rfl (Nat.le_of_ble_eq_true rfl) (Nat.le_of_ble_eq_true rfl) (r84 v0 v4 p3.2 _ q6) (by decide +kernel) g10 ?_
        refine rn_aload_n (ft143 16 rfl) rfl ?_
        refine rn_iload (ft143 17 rfl) rfl ?_
        refine rn_iload_n (ft143 18 rfl) rfl ?_
        obtain ⟨g9, h⟩ := ifg h
        obtain ⟨p7, q8, h⟩ := ob_some h
        refine rn_callV (as := [.int v4, .int v1]) (k0 := v0) (r := [.int p5.1, .int v3]) (v := (some (.int p7.1))) (w1 := p7.2) (ft143 19 rfl) (by decide +kernel) rfl (Nat.le_of_ble_eq_true rfl) (Nat.le_of_ble_eq_true rfl) (r81 v0 v4 v1 p5.2 _ q8) (by decide +kernel) g9 ?_
        refine rn_imul (ft143 20 rfl) ?_
        refine rn_iadd (ft143 21 rfl) ?_
        refine rn_istore_n (ls' := [some (.ref v0), some (.int v1), some (.int v2), some (.int (v3 + (p5.1 * p7.1))), some (.int v4)]) (ft143 22 rfl) rfl ?_
        refine rn_iinc (u := 1) (ls' := [some (.ref v0), some (.int v1), some (.int v2), some (.int (v3 + (p5.1 * p7.1))), some (.int (v4 + (1 : Int32)))]) (ft143 23 rfl) rfl (by decide) rfl ?_
        refine rn_goto (ft143 24 rfl) ?_
        exact rn_forget (ls := [some (.ref v0), some (.int v1), some (.int v2), some (.int (v3 + (p5.1 * p7.1))), some (.int (v4 + (1 : Int32)))]) (And.intro rfl (And.intro rfl (And.intro rfl (And.intro rfl (And.intro rfl trivial))))) (hrec4 v0 v1 v2 (v3 + (p5.1 * p7.1)) (v4 + (1 : Int32)) p7.2 _ h)
def f143 (n : Nat) (v0 : Nat) (v1 : Int32) (v2 : Int32) (w : Wd) : Option (Int32 × Wd) :=
  f143_H5 n  (fun (e3_13 : Int32) (w13 : Wd) => some (e3_13, w13)) n v0 v1 v2 (0 : Int32) (0 : Int32) w
set_option maxRecDepth 10000 in
theorem r143 {S : Sc} (n : Nat) (v0 : Nat) (v1 : Int32) (v2 : Int32) (w : Wd) (o : (Int32 × Wd)) (h : f143 n v0 v1 v2 w = some o) : Rn S 143 0 [some (.ref v0), some (.int v1), some (.int v2), none, none] [] w (some (.int o.1), o.2) := by
  unfold f143 at h
  refine rn_iconst (v := (0 : Int32)) (ft143 0 rfl) (by decide) ?_
  refine rn_istore_n (ls' := [some (.ref v0), some (.int v1), some (.int v2), some (.int (0 : Int32)), none]) (ft143 1 rfl) rfl ?_
  refine rn_iconst (v := (0 : Int32)) (ft143 2 rfl) (by decide) ?_
  refine rn_istore (ls' := [some (.ref v0), some (.int v1), some (.int v2), some (.int (0 : Int32)), some (.int (0 : Int32))]) (ft143 3 rfl) rfl ?_
  refine rn_forget (ls := [some (.ref v0), some (.int v1), some (.int v2), some (.int (0 : Int32)), some (.int (0 : Int32))]) (And.intro rfl (And.intro rfl (And.intro rfl (And.intro rfl (And.intro rfl trivial))))) (rf143_H5 n  _  (fun e3_13 w13 o h => ?_) n v0 v1 v2 (0 : Int32) (0 : Int32) w _ h)
  refine rn_iload_n (ft143 25 rfl) rfl ?_
  cases h
  exact rn_iretI pr143 (ft143 26 rfl)
/-- NineWheel.sort(II)I -/
theorem ft144 : ∀ (i : Nat) {q : Nat × XI}, cd144[i]? = some q → fetch 144 q.1 = some q.2 := ft_of (by decide +kernel)
theorem pr144 : pRt 144 = some .int := rfl
def f144 (v0 : Nat) (v1 : Int32) (v2 : Int32) (w : Wd) : Option (Int32 × Wd) :=
  (if (wsh w v0).map (fun q => q.1) = some 10 then ob (f85 v0 v1 w) (fun p1 => (if p1.1 = 0 then (if v2 = 0 then ob (getR p1.2 10 v0 1) (fun x23 => (if (wsh p1.2 x23).map (fun q => q.1) = some 6 then ob (f84 x23 v1 p1.2) (fun p25 => some (p25.1, p25.2)) else none))
      else (if v2 = 1 then ob (getR p1.2 10 v0 1) (fun x18 => (if (wsh p1.2 x18).map (fun q => q.1) = some 6 then ob (f86 x18 v1 p1.2) (fun p20 => some (p20.1, p20.2)) else none))
        else (if v2 = 2 then ob (getR p1.2 10 v0 1) (fun x13 => (if (wsh p1.2 x13).map (fun q => q.1) = some 6 then ob (f87 x13 v1 p1.2) (fun p15 => some (p15.1, p15.2)) else none))
          else (if v2 = 3 then ob (getR p1.2 10 v0 7) (fun x8 => (if (wsh p1.2 x8).map (fun q => q.1) = some 3 then ob (f88 x8 v1 p1.2) (fun p10 => some (p10.1, p10.2)) else none))
            else (if v2 = 4 then ob (getR p1.2 10 v0 7) (fun x3 => (if (wsh p1.2 x3).map (fun q => q.1) = some 3 then ob (f89 x3 v1 p1.2) (fun p5 => some (p5.1, p5.2)) else none))
              else some ((-1000002 : Int32), p1.2))))))
    else some ((-1000001 : Int32), p1.2))) else none)
set_option maxRecDepth 10000 in
theorem r144 {S : Sc} (v0 : Nat) (v1 : Int32) (v2 : Int32) (w : Wd) (o : (Int32 × Wd)) (h : f144 v0 v1 v2 w = some o) : Rn S 144 0 [some (.ref v0), some (.int v1), some (.int v2)] [] w (some (.int o.1), o.2) := by
  unfold f144 at h
  refine rn_aload_n (ft144 0 rfl) rfl ?_
  refine rn_iload_n (ft144 1 rfl) rfl ?_
  obtain ⟨g35, h⟩ := ifg h
  obtain ⟨p1, q2, h⟩ := ob_some h
  refine rn_callV (as := [.int v1]) (k0 := v0) (r := []) (v := (some (.int p1.1))) (w1 := p1.2) (ft144 2 rfl) (by decide +kernel) rfl (Nat.le_of_ble_eq_true rfl) (Nat.le_of_ble_eq_true rfl) (r85 v0 v1 w _ q2) (by decide +kernel) g35 ?_
  by_cases c34 : p1.1 = 0
  · replace h := ifp c34 h
    refine rn_if_eq_t (ft144 3 rfl) c34 ?_
    refine rn_iload_n (ft144 6 rfl) rfl ?_
    by_cases c28 : v2 = 0
    · replace h := ifp c28 h
      refine rn_sw_i (e := 36) (pc' := 48) (ft144 7 rfl) (by rw [c28]; decide) (by rw [c28]; rfl) (by decide) ?_
      refine rn_aload_n (ft144 8 rfl) rfl ?_
      obtain ⟨x23, q24, h⟩ := ob_some h
      refine rn_getR (ft144 9 rfl) q24 ?_
      refine rn_iload_n (ft144 10 rfl) rfl ?_
      obtain ⟨g27, h⟩ := ifg h
      obtain ⟨p25, q26, h⟩ := ob_some h
      refine rn_callV (as := [.int v1]) (k0 := x23) (r := []) (v := (some (.int p25.1))) (w1 := p25.2) (ft144 11 rfl) (by decide +kernel) rfl (Nat.le_of_ble_eq_true rfl) (Nat.le_of_ble_eq_true rfl) (r84 x23 v1 p1.2 _ q26) (by decide +kernel) g27 ?_
      cases h
      exact rn_iretI pr144 (ft144 12 rfl)
    · replace h := ifn c28 h
      by_cases c29 : v2 = 1
      · replace h := ifp c29 h
        refine rn_sw_i (e := 45) (pc' := 57) (ft144 7 rfl) (by rw [c29]; decide) (by rw [c29]; rfl) (by decide) ?_
        refine rn_aload_n (ft144 13 rfl) rfl ?_
        obtain ⟨x18, q19, h⟩ := ob_some h
        refine rn_getR (ft144 14 rfl) q19 ?_
        refine rn_iload_n (ft144 15 rfl) rfl ?_
        obtain ⟨g22, h⟩ := ifg h
        obtain ⟨p20, q21, h⟩ := ob_some h
        refine rn_callV (as := [.int v1]) (k0 := x18) (r := []) (v := (some (.int p20.1))) (w1 := p20.2) (ft144 16 rfl) (by decide +kernel) rfl (Nat.le_of_ble_eq_true rfl) (Nat.le_of_ble_eq_true rfl) (r86 x18 v1 p1.2 _ q21) (by decide +kernel) g22 ?_
        cases h
        exact rn_iretI pr144 (ft144 17 rfl)
      · replace h := ifn c29 h
        by_cases c30 : v2 = 2
        · replace h := ifp c30 h
          refine rn_sw_i (e := 54) (pc' := 66) (ft144 7 rfl) (by rw [c30]; decide) (by rw [c30]; rfl) (by decide) ?_
          refine rn_aload_n (ft144 18 rfl) rfl ?_
          obtain ⟨x13, q14, h⟩ := ob_some h
          refine rn_getR (ft144 19 rfl) q14 ?_
          refine rn_iload_n (ft144 20 rfl) rfl ?_
          obtain ⟨g17, h⟩ := ifg h
          obtain ⟨p15, q16, h⟩ := ob_some h
          refine rn_callV (as := [.int v1]) (k0 := x13) (r := []) (v := (some (.int p15.1))) (w1 := p15.2) (ft144 21 rfl) (by decide +kernel) rfl (Nat.le_of_ble_eq_true rfl) (Nat.le_of_ble_eq_true rfl) (r87 x13 v1 p1.2 _ q16) (by decide +kernel) g17 ?_
          cases h
          exact rn_iretI pr144 (ft144 22 rfl)
        · replace h := ifn c30 h
          by_cases c31 : v2 = 3
          · replace h := ifp c31 h
            refine rn_sw_i (e := 63) (pc' := 75) (ft144 7 rfl) (by rw [c31]; decide) (by rw [c31]; rfl) (by decide) ?_
            refine rn_aload_n (ft144 23 rfl) rfl ?_
            obtain ⟨x8, q9, h⟩ := ob_some h
            refine rn_getR (ft144 24 rfl) q9 ?_
            refine rn_iload_n (ft144 25 rfl) rfl ?_
            obtain ⟨g12, h⟩ := ifg h
            obtain ⟨p10, q11, h⟩ := ob_some h
            refine rn_callV (as := [.int v1]) (k0 := x8) (r := []) (v := (some (.int p10.1))) (w1 := p10.2) (ft144 26 rfl) (by decide +kernel) rfl (Nat.le_of_ble_eq_true rfl) (Nat.le_of_ble_eq_true rfl) (r88 x8 v1 p1.2 _ q11) (by decide +kernel) g12 ?_
            cases h
            exact rn_iretI pr144 (ft144 27 rfl)
          · replace h := ifn c31 h
            by_cases c32 : v2 = 4
            · replace h := ifp c32 h
              refine rn_sw_i (e := 72) (pc' := 84) (ft144 7 rfl) (by rw [c32]; decide) (by rw [c32]; rfl) (by decide) ?_
              refine rn_aload_n (ft144 28 rfl) rfl ?_
              obtain ⟨x3, q4, h⟩ := ob_some h
              refine rn_getR (ft144 29 rfl) q4 ?_
              refine rn_iload_n (ft144 30 rfl) rfl ?_
              obtain ⟨g7, h⟩ := ifg h
              obtain ⟨p5, q6, h⟩ := ob_some h
              refine rn_callV (as := [.int v1]) (k0 := x3) (r := []) (v := (some (.int p5.1))) (w1 := p5.2) (ft144 31 rfl) (by decide +kernel) rfl (Nat.le_of_ble_eq_true rfl) (Nat.le_of_ble_eq_true rfl) (r89 x3 v1 p1.2 _ q6) (by decide +kernel) g7 ?_
              cases h
              exact rn_iretI pr144 (ft144 32 rfl)
            · replace h := ifn c32 h
              have hsw := sw_out (v := v2) (N := 4) (by omega) (fun j hj => by
                have hj2 : j = 0 ∨ j = 1 ∨ j = 2 ∨ j = 3 ∨ j = 4 := by omega
                rcases hj2 with rfl | rfl | rfl | rfl | rfl
                · exact c28
                · exact c29
                · exact c30
                · exact c31
                · exact c32)
              refine rn_sw_d (ft144 7 rfl) hsw (by decide) ?_
              refine rn_ldc (v := (-1000002 : Int32)) (ft144 33 rfl) (by decide) rfl ?_
              cases h
              exact rn_iretI pr144 (ft144 34 rfl)
  · replace h := ifn c34 h
    refine rn_if_eq_f (ft144 3 rfl) c34 ?_
    refine rn_ldc (v := (-1000001 : Int32)) (ft144 4 rfl) (by decide) rfl ?_
    cases h
    exact rn_iretI pr144 (ft144 5 rfl)
/-- NineWheel$Sea.moved(III)I -/
theorem ft145 : ∀ (i : Nat) {q : Nat × XI}, cd145[i]? = some q → fetch 145 q.1 = some q.2 := ft_of (by decide +kernel)
theorem pr145 : pRt 145 = some .int := rfl
def f145 (v0 : Nat) (v1 : Int32) (v2 : Int32) (v3 : Int32) (w : Wd) : Option (Int32 × Wd) :=
  ob (f93 v1 v2 w) (fun p1 => ob (f20 p1.1 p1.2) (fun p3 => (if (wsh p3.2 v0).map (fun q => q.1) = some 6 then ob (f9 v0 p3.1 p3.2) (fun p5 => (if ¬ p5.1 = 0 then some (p1.1, p5.2)
    else ob (getI p5.2 6 v0 3) (fun x7 => (if x7 ≤ 0 then some (p1.1, p5.2)
      else ob (getI p5.2 6 v0 3) (fun x9 => (if ¬ x9 = 0 then (if (irm (v3 + (1 : Int32)) x9) = 0 then ob (f20 p1.1 p5.2) (fun p11 => ob (getI p11.2 6 v0 2) (fun x13 => ob (f93 ((p11.1 * (8 : Int32)) + x13) (0 : Int32) p11.2) (fun p15 => ob (f20 p15.1 p15.2) (fun p17 => ob (f21 p1.1 p17.2) (fun p19 => some (((p17.1 * (8 : Int32)) + p19.1), p19.2))))))
        else some (p1.1, p5.2)) else none)))))) else none)))
set_option maxRecDepth 10000 in
theorem r145 {S : Sc} (v0 : Nat) (v1 : Int32) (v2 : Int32) (v3 : Int32) (w : Wd) (o : (Int32 × Wd)) (h : f145 v0 v1 v2 v3 w = some o) : Rn S 145 0 [some (.ref v0), some (.int v1), some (.int v2), some (.int v3), none, none] [] w (some (.int o.1), o.2) := by
  unfold f145 at h
  refine rn_iload_n (ft145 0 rfl) rfl ?_
  refine rn_iload_n (ft145 1 rfl) rfl ?_
  obtain ⟨p1, q2, h⟩ := ob_some h
  refine rn_callS (as := [.int v1, .int v2]) (r := []) (v := (some (.int p1.1))) (w1 := p1.2) (ft145 2 rfl) (by decide +kernel) rfl (Nat.le_of_ble_eq_true rfl) (Nat.le_of_ble_eq_true rfl) (r93 v1 v2 w _ q2) ?_
  refine rn_istore (ls' := [some (.ref v0), some (.int v1), some (.int v2), some (.int v3), some (.int p1.1), none]) (ft145 3 rfl) rfl ?_
  refine rn_aload_n (ft145 4 rfl) rfl ?_
  refine rn_iload (ft145 5 rfl) rfl ?_
  obtain ⟨p3, q4, h⟩ := ob_some h
  refine rn_callS (as := [.int p1.1]) (r := [.ref v0]) (v := (some (.int p3.1))) (w1 := p3.2) (ft145 6 rfl) (by decide +kernel) rfl (Nat.le_of_ble_eq_true rfl) (Nat.le_of_ble_eq_true rfl) (r20 p1.1 p1.2 _ q4) ?_
  obtain ⟨g25, h⟩ := ifg h
  obtain ⟨p5, q6, h⟩ := ob_some h
  refine rn_callV (as := [.int p3.1]) (k0 := v0) (r := []) (v := (some (.int p5.1))) (w1 := p5.2) (ft145 7 rfl) (by decide +kernel) rfl (Nat.le_of_ble_eq_true rfl) (Nat.le_of_ble_eq_true rfl) (r9 v0 p3.1 p3.2 _ q6) (by decide +kernel) g25 ?_
  by_cases c24 : ¬ p5.1 = 0
  · replace h := ifp c24 h
    refine rn_if_ne_t (ft145 8 rfl) c24 ?_
    refine rn_iload (ft145 19 rfl) rfl ?_
    cases h
    exact rn_iretI pr145 (ft145 20 rfl)
  · replace h := ifn c24 h
    refine rn_if_ne_f (ft145 8 rfl) c24 ?_
    refine rn_aload_n (ft145 9 rfl) rfl ?_
    obtain ⟨x7, q8, h⟩ := ob_some h
    refine rn_getI (ft145 10 rfl) (by decide) (by decide) q8 ?_
    by_cases c23 : x7 ≤ 0
    · replace h := ifp c23 h
      refine rn_if_le_t (ft145 11 rfl) c23 ?_
      refine rn_iload (ft145 19 rfl) rfl ?_
      cases h
      exact rn_iretI pr145 (ft145 20 rfl)
    · replace h := ifn c23 h
      refine rn_if_le_f (ft145 11 rfl) c23 ?_
      refine rn_iload_n (ft145 12 rfl) rfl ?_
      refine rn_iconst (v := (1 : Int32)) (ft145 13 rfl) (by decide) ?_
      refine rn_iadd (ft145 14 rfl) ?_
      refine rn_aload_n (ft145 15 rfl) rfl ?_
      obtain ⟨x9, q10, h⟩ := ob_some h
      refine rn_getI (ft145 16 rfl) (by decide) (by decide) q10 ?_
      obtain ⟨g22, h⟩ := ifg h
      refine rn_irem (ft145 17 rfl) g22 ?_
      by_cases c21 : (irm (v3 + (1 : Int32)) x9) = 0
      · replace h := ifp c21 h
        refine rn_if_eq_t (ft145 18 rfl) c21 ?_
        refine rn_iload (ft145 21 rfl) rfl ?_
        obtain ⟨p11, q12, h⟩ := ob_some h
        refine rn_callS (as := [.int p1.1]) (r := []) (v := (some (.int p11.1))) (w1 := p11.2) (ft145 22 rfl) (by decide +kernel) rfl (Nat.le_of_ble_eq_true rfl) (Nat.le_of_ble_eq_true rfl) (r20 p1.1 p5.2 _ q12) ?_
        refine rn_bipush (v := (8 : Int32)) (ft145 23 rfl) (by decide) ?_
        refine rn_imul (ft145 24 rfl) ?_
        refine rn_aload_n (ft145 25 rfl) rfl ?_
        obtain ⟨x13, q14, h⟩ := ob_some h
        refine rn_getI (ft145 26 rfl) (by decide) (by decide) q14 ?_
        refine rn_iadd (ft145 27 rfl) ?_
        refine rn_iconst (v := (0 : Int32)) (ft145 28 rfl) (by decide) ?_
        obtain ⟨p15, q16, h⟩ := ob_some h
        refine rn_callS (as := [.int ((p11.1 * (8 : Int32)) + x13), .int (0 : Int32)]) (r := []) (v := (some (.int p15.1))) (w1 := p15.2) (ft145 29 rfl) (by decide +kernel) rfl (Nat.le_of_ble_eq_true rfl) (Nat.le_of_ble_eq_true rfl) (r93 ((p11.1 * (8 : Int32)) + x13) (0 : Int32) p11.2 _ q16) ?_
        refine rn_istore (ls' := [some (.ref v0), some (.int v1), some (.int v2), some (.int v3), some (.int p1.1), some (.int p15.1)]) (ft145 30 rfl) rfl ?_
        refine rn_iload (ft145 31 rfl) rfl ?_
        obtain ⟨p17, q18, h⟩ := ob_some h
        refine rn_callS (as := [.int p15.1]) (r := []) (v := (some (.int p17.1))) (w1 := p17.2) (ft145 32 rfl) (by decide +kernel) rfl (Nat.le_of_ble_eq_true rfl) (Nat.le_of_ble_eq_true rfl) (r20 p15.1 p15.2 _ q18) ?_
        refine rn_bipush (v := (8 : Int32)) (ft145 33 rfl) (by decide) ?_
        refine rn_imul (ft145 34 rfl) ?_
        refine rn_iload (ft145 35 rfl) rfl ?_
        obtain ⟨p19, q20, h⟩ := ob_some h
        refine rn_callS (as := [.int p1.1]) (r := [.int (p17.1 * (8 : Int32))]) (v := (some (.int p19.1))) (w1 := p19.2) (ft145 36 rfl) (by decide +kernel) rfl (Nat.le_of_ble_eq_true rfl) (Nat.le_of_ble_eq_true rfl) (r21 p1.1 p17.2 _ q20) ?_
        refine rn_iadd (ft145 37 rfl) ?_
        cases h
        exact rn_iretI pr145 (ft145 38 rfl)
      · replace h := ifn c21 h
        refine rn_if_eq_f (ft145 18 rfl) c21 ?_
        refine rn_iload (ft145 19 rfl) rfl ?_
        cases h
        exact rn_iretI pr145 (ft145 20 rfl)
/-- NineWheel.way(III)I -/
theorem ft146 : ∀ (i : Nat) {q : Nat × XI}, cd146[i]? = some q → fetch 146 q.1 = some q.2 := ft_of (by decide +kernel)
theorem pr146 : pRt 146 = some .int := rfl
def f146 (v0 : Nat) (v1 : Int32) (v2 : Int32) (v3 : Int32) (w : Wd) : Option (Int32 × Wd) :=
  (if (wsh w v0).map (fun q => q.1) = some 10 then ob (f85 v0 v1 w) (fun p1 => (if p1.1 = 0 then ob (f0 v2 (0 : Int32) (4 : Int32) p1.2) (fun p3 => (if ¬ p3.1 = 0 then some ((-1000002 : Int32), p3.2)
      else ob (f94 v2 v3 p3.2) (fun p5 => (if p5.1 = 0 then ob (getR p5.2 10 v0 7) (fun x7 => (if (wsh p5.2 x7).map (fun q => q.1) = some 3 then ob (f88 x7 v1 p5.2) (fun p9 => ob (getR p9.2 10 v0 7) (fun x11 => (if (wsh p9.2 x11).map (fun q => q.1) = some 3 then ob (f95 x11 v1 v2 v3 p9.2) (fun p13 => ob (getR p13 10 v0 9) (fun x15 => ob (putZ p13 2 x15 2 (0 : Int32)) (fun w17 => some (p9.1, w17)))) else none))) else none))
        else some ((-1000002 : Int32), p5.2)))))
    else some ((-1000001 : Int32), p1.2))) else none)
set_option maxRecDepth 10000 in
theorem r146 {S : Sc} (v0 : Nat) (v1 : Int32) (v2 : Int32) (v3 : Int32) (w : Wd) (o : (Int32 × Wd)) (h : f146 v0 v1 v2 v3 w = some o) : Rn S 146 0 [some (.ref v0), some (.int v1), some (.int v2), some (.int v3), none] [] w (some (.int o.1), o.2) := by
  unfold f146 at h
  refine rn_aload_n (ft146 0 rfl) rfl ?_
  refine rn_iload_n (ft146 1 rfl) rfl ?_
  obtain ⟨g24, h⟩ := ifg h
  obtain ⟨p1, q2, h⟩ := ob_some h
  refine rn_callV (as := [.int v1]) (k0 := v0) (r := []) (v := (some (.int p1.1))) (w1 := p1.2) (ft146 2 rfl) (by decide +kernel) rfl (Nat.le_of_ble_eq_true rfl) (Nat.le_of_ble_eq_true rfl) (r85 v0 v1 w _ q2) (by decide +kernel) g24 ?_
  by_cases c23 : p1.1 = 0
  · replace h := ifp c23 h
    refine rn_if_eq_t (ft146 3 rfl) c23 ?_
    refine rn_iload_n (ft146 6 rfl) rfl ?_
    refine rn_iconst (v := (0 : Int32)) (ft146 7 rfl) (by decide) ?_
    refine rn_iconst (v := (4 : Int32)) (ft146 8 rfl) (by decide) ?_
    obtain ⟨p3, q4, h⟩ := ob_some h
    refine rn_callS (as := [.int v2, .int (0 : Int32), .int (4 : Int32)]) (r := []) (v := (some (.int p3.1))) (w1 := p3.2) (ft146 9 rfl) (by decide +kernel) rfl (Nat.le_of_ble_eq_true rfl) (Nat.le_of_ble_eq_true rfl) (r0 v2 (0 : Int32) (4 : Int32) p1.2 _ q4) ?_
    by_cases c22 : ¬ p3.1 = 0
    · replace h := ifp c22 h
      refine rn_if_ne_t (ft146 10 rfl) c22 ?_
      refine rn_ldc (v := (-1000002 : Int32)) (ft146 15 rfl) (by decide) rfl ?_
      cases h
      exact rn_iretI pr146 (ft146 16 rfl)
    · replace h := ifn c22 h
      refine rn_if_ne_f (ft146 10 rfl) c22 ?_
      refine rn_iload_n (ft146 11 rfl) rfl ?_
      refine rn_iload_n (ft146 12 rfl) rfl ?_
      obtain ⟨p5, q6, h⟩ := ob_some h
      refine rn_callS (as := [.int v2, .int v3]) (r := []) (v := (some (.int p5.1))) (w1 := p5.2) (ft146 13 rfl) (by decide +kernel) rfl (Nat.le_of_ble_eq_true rfl) (Nat.le_of_ble_eq_true rfl) (r94 v2 v3 p3.2 _ q6) ?_
      by_cases c21 : p5.1 = 0
      · replace h := ifp c21 h
        refine rn_if_eq_t (ft146 14 rfl) c21 ?_
        refine rn_aload_n (ft146 17 rfl) rfl ?_
        obtain ⟨x7, q8, h⟩ := ob_some h
        refine rn_getR (ft146 18 rfl) q8 ?_
        refine rn_iload_n (ft146 19 rfl) rfl ?_
        obtain ⟨g20, h⟩ := ifg h
        obtain ⟨p9, q10, h⟩ := ob_some h
        refine rn_callV (as := [.int v1]) (k0 := x7) (r := []) (v := (some (.int p9.1))) (w1 := p9.2) (ft146 20 rfl) (by decide +kernel) rfl (Nat.le_of_ble_eq_true rfl) (Nat.le_of_ble_eq_true rfl) (r88 x7 v1 p5.2 _ q10) (by decide +kernel) g20 ?_
        refine rn_istore (ls' := [some (.ref v0), some (.int v1), some (.int v2), some (.int v3), some (.int p9.1)]) (ft146 21 rfl) rfl ?_
        refine rn_aload_n (ft146 22 rfl) rfl ?_
        obtain ⟨x11, q12, h⟩ := ob_some h
        refine rn_getR (ft146 23 rfl) q12 ?_
        refine rn_iload_n (ft146 24 rfl) rfl ?_
        refine rn_iload_n (ft146 25 rfl) rfl ?_
        refine rn_iload_n (ft146 26 rfl) rfl ?_
        obtain ⟨g19, h⟩ := ifg h
        obtain ⟨p13, q14, h⟩ := ob_some h
        refine rn_callV (as := [.int v1, .int v2, .int v3]) (k0 := x11) (r := []) (v := none) (w1 := p13) (ft146 27 rfl) (by decide +kernel) rfl (Nat.le_of_ble_eq_true rfl) (Nat.le_of_ble_eq_true rfl) (r95 x11 v1 v2 v3 p9.2 _ q14) (by decide +kernel) g19 ?_
        refine rn_aload_n (ft146 28 rfl) rfl ?_
        obtain ⟨x15, q16, h⟩ := ob_some h
        refine rn_getR (ft146 29 rfl) q16 ?_
        refine rn_iconst (v := (0 : Int32)) (ft146 30 rfl) (by decide) ?_
        obtain ⟨w17, q18, h⟩ := ob_some h
        refine rn_putZ (ft146 31 rfl) q18 ?_
        refine rn_iload (ft146 32 rfl) rfl ?_
        cases h
        exact rn_iretI pr146 (ft146 33 rfl)
      · replace h := ifn c21 h
        refine rn_if_eq_f (ft146 14 rfl) c21 ?_
        refine rn_ldc (v := (-1000002 : Int32)) (ft146 15 rfl) (by decide) rfl ?_
        cases h
        exact rn_iretI pr146 (ft146 16 rfl)
  · replace h := ifn c23 h
    refine rn_if_eq_f (ft146 3 rfl) c23 ?_
    refine rn_ldc (v := (-1000001 : Int32)) (ft146 4 rfl) (by decide) rfl ?_
    cases h
    exact rn_iretI pr146 (ft146 5 rfl)
