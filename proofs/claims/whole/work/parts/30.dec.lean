/-! THE METHODS AS FUNCTIONS, 13 -/
/-- NineWheelModel.decided()I -/
theorem ft172 : ∀ (i : Nat) {q : Nat × XI}, cd172[i]? = some q → fetch 172 q.1 = some q.2 := ft_of (by decide +kernel)
theorem pr172 : pRt 172 = some .int := rfl
def f172_J220 (n : Nat)  (v5 : Int32) (s0 : Int32) (w : Wd) : Option (Int32 × Wd) :=
  (if s0 = 0 then some (v5, w)
    else some ((0 : Int32), w))
set_option maxRecDepth 10000 in
theorem rf172_J220 {S : Sc} (n : Nat)  (v5 : Int32) (s0 : Int32) (w : Wd) (o : (Int32 × Wd))  (h : f172_J220 n  v5 s0 w = some o) : Rn S 172 220 [none, none, none, none, none, some (.int v5), none] [.int s0] w (some (.int o.1), o.2) := by
  unfold f172_J220 at h
  refine rn_istore (ls' := [none, none, none, none, none, some (.int v5), some (.int s0)]) (ft172 129 rfl) rfl ?_
  refine rn_iload (ft172 130 rfl) rfl ?_
  by_cases c45 : s0 = 0
  · replace h := ifp c45 h
    refine rn_if_eq_t (ft172 131 rfl) c45 ?_
    refine rn_iload (ft172 134 rfl) rfl ?_
    cases h
    exact rn_iretI pr172 (ft172 135 rfl)
  · replace h := ifn c45 h
    refine rn_if_eq_f (ft172 131 rfl) c45 ?_
    refine rn_iconst (v := (0 : Int32)) (ft172 132 rfl) (by decide) ?_
    refine rn_goto (ft172 133 rfl) ?_
    cases h
    exact rn_iretI pr172 (ft172 135 rfl)
def f172_J165 (n : Nat)  (v0 : Nat) (v1 : Int32) (v2 : Int32) (s0 : Int32) (w : Wd) : Option (Int32 × Wd) :=
  (if 0 ≤ s0 then (if s0 ≤ 0 then f172_J220 n  s0 (0 : Int32) w
      else ob (getI w 11 v0 40) (fun x46 => (if v2 < x46 then f172_J220 n  s0 (1 : Int32) w
        else ob (getI w 11 v0 45) (fun x48 => (if x48 = 0 then f172_J220 n  s0 (0 : Int32) w
          else f172_J220 n  s0 (1 : Int32) w)))))
    else ob (getI w 11 v0 40) (fun x53 => (if v1 < x53 then f172_J220 n  s0 (1 : Int32) w
      else ob (getI w 11 v0 46) (fun x55 => (if x55 = 0 then f172_J220 n  s0 (0 : Int32) w
        else f172_J220 n  s0 (1 : Int32) w)))))
set_option maxRecDepth 10000 in
theorem rf172_J165 {S : Sc} (n : Nat)  (v0 : Nat) (v1 : Int32) (v2 : Int32) (s0 : Int32) (w : Wd) (o : (Int32 × Wd))  (h : f172_J165 n  v0 v1 v2 s0 w = some o) : Rn S 172 165 [some (.ref v0), some (.int v1), some (.int v2), none, none, none, none] [.int s0] w (some (.int o.1), o.2) := by
  unfold f172_J165 at h
  refine rn_istore (ls' := [some (.ref v0), some (.int v1), some (.int v2), none, none, some (.int s0), none]) (ft172 103 rfl) rfl ?_
  refine rn_iload (ft172 104 rfl) rfl ?_
  by_cases c59 : 0 ≤ s0
  · replace h := ifp c59 h
    refine rn_if_ge_t (ft172 105 rfl) c59 ?_
    refine rn_iload (ft172 117 rfl) rfl ?_
    by_cases c52 : s0 ≤ 0
    · replace h := ifp c52 h
      refine rn_if_le_t (ft172 118 rfl) c52 ?_
      refine rn_iconst (v := (0 : Int32)) (ft172 128 rfl) (by decide) ?_
      exact rn_forget (ls := [none, none, none, none, none, some (.int s0), none]) (And.intro rfl trivial) (rf172_J220 n  s0 (0 : Int32) w _  h)
    · replace h := ifn c52 h
      refine rn_if_le_f (ft172 118 rfl) c52 ?_
      refine rn_iload_n (ft172 119 rfl) rfl ?_
      refine rn_aload_n (ft172 120 rfl) rfl ?_
      obtain ⟨x46, q47, h⟩ := ob_some h
      refine rn_getI (ft172 121 rfl) (by decide) (by decide) q47 ?_
      by_cases c51 : v2 < x46
      · replace h := ifp c51 h
        refine rn_icmp_lt_t (ft172 122 rfl) c51 ?_
        refine rn_iconst (v := (1 : Int32)) (ft172 126 rfl) (by decide) ?_
        refine rn_goto (ft172 127 rfl) ?_
        exact rn_forget (ls := [none, none, none, none, none, some (.int s0), none]) (And.intro rfl trivial) (rf172_J220 n  s0 (1 : Int32) w _  h)
      · replace h := ifn c51 h
        refine rn_icmp_lt_f (ft172 122 rfl) c51 ?_
        refine rn_aload_n (ft172 123 rfl) rfl ?_
        obtain ⟨x48, q49, h⟩ := ob_some h
        refine rn_getI (ft172 124 rfl) (by decide) (by decide) q49 ?_
        by_cases c50 : x48 = 0
        · replace h := ifp c50 h
          refine rn_if_eq_t (ft172 125 rfl) c50 ?_
          refine rn_iconst (v := (0 : Int32)) (ft172 128 rfl) (by decide) ?_
          exact rn_forget (ls := [none, none, none, none, none, some (.int s0), none]) (And.intro rfl trivial) (rf172_J220 n  s0 (0 : Int32) w _  h)
        · replace h := ifn c50 h
          refine rn_if_eq_f (ft172 125 rfl) c50 ?_
          refine rn_iconst (v := (1 : Int32)) (ft172 126 rfl) (by decide) ?_
          refine rn_goto (ft172 127 rfl) ?_
          exact rn_forget (ls := [none, none, none, none, none, some (.int s0), none]) (And.intro rfl trivial) (rf172_J220 n  s0 (1 : Int32) w _  h)
  · replace h := ifn c59 h
    refine rn_if_ge_f (ft172 105 rfl) c59 ?_
    refine rn_iload_n (ft172 106 rfl) rfl ?_
    refine rn_aload_n (ft172 107 rfl) rfl ?_
    obtain ⟨x53, q54, h⟩ := ob_some h
    refine rn_getI (ft172 108 rfl) (by decide) (by decide) q54 ?_
    by_cases c58 : v1 < x53
    · replace h := ifp c58 h
      refine rn_icmp_lt_t (ft172 109 rfl) c58 ?_
      refine rn_iconst (v := (1 : Int32)) (ft172 113 rfl) (by decide) ?_
      refine rn_goto (ft172 114 rfl) ?_
      exact rn_forget (ls := [none, none, none, none, none, some (.int s0), none]) (And.intro rfl trivial) (rf172_J220 n  s0 (1 : Int32) w _  h)
    · replace h := ifn c58 h
      refine rn_icmp_lt_f (ft172 109 rfl) c58 ?_
      refine rn_aload_n (ft172 110 rfl) rfl ?_
      obtain ⟨x55, q56, h⟩ := ob_some h
      refine rn_getI (ft172 111 rfl) (by decide) (by decide) q56 ?_
      by_cases c57 : x55 = 0
      · replace h := ifp c57 h
        refine rn_if_eq_t (ft172 112 rfl) c57 ?_
        refine rn_iconst (v := (0 : Int32)) (ft172 115 rfl) (by decide) ?_
        refine rn_goto (ft172 116 rfl) ?_
        exact rn_forget (ls := [none, none, none, none, none, some (.int s0), none]) (And.intro rfl trivial) (rf172_J220 n  s0 (0 : Int32) w _  h)
      · replace h := ifn c57 h
        refine rn_if_eq_f (ft172 112 rfl) c57 ?_
        refine rn_iconst (v := (1 : Int32)) (ft172 113 rfl) (by decide) ?_
        refine rn_goto (ft172 114 rfl) ?_
        exact rn_forget (ls := [none, none, none, none, none, some (.int s0), none]) (And.intro rfl trivial) (rf172_J220 n  s0 (1 : Int32) w _  h)
def f172_J157 (n : Nat)  (v0 : Nat) (v1 : Int32) (v2 : Int32) (v3 : Int32) (s0 : Int32) (s1 : Int32) (w : Wd) : Option (Int32 × Wd) :=
  (if ¬ ((2 : Int32) * v3) = 0 then ob (f56 ((s0 + s1) / ((2 : Int32) * v3)) w) (fun p43 => f172_J165 n  v0 v1 v2 p43.1 p43.2) else none)
set_option maxRecDepth 10000 in
theorem rf172_J157 {S : Sc} (n : Nat)  (v0 : Nat) (v1 : Int32) (v2 : Int32) (v3 : Int32) (s0 : Int32) (s1 : Int32) (w : Wd) (o : (Int32 × Wd))  (h : f172_J157 n  v0 v1 v2 v3 s0 s1 w = some o) : Rn S 172 157 [some (.ref v0), some (.int v1), some (.int v2), some (.int v3), none, none, none] [.int s1, .int s0] w (some (.int o.1), o.2) := by
  unfold f172_J157 at h
  refine rn_iadd (ft172 97 rfl) ?_
  refine rn_iconst (v := (2 : Int32)) (ft172 98 rfl) (by decide) ?_
  refine rn_iload_n (ft172 99 rfl) rfl ?_
  refine rn_imul (ft172 100 rfl) ?_
  obtain ⟨g60, h⟩ := ifg h
  refine rn_idiv (ft172 101 rfl) g60 ?_
  obtain ⟨p43, q44, h⟩ := ob_some h
  refine rn_callS (as := [.int ((s0 + s1) / ((2 : Int32) * v3))]) (r := []) (v := (some (.int p43.1))) (w1 := p43.2) (ft172 102 rfl) (by decide +kernel) rfl (Nat.le_of_ble_eq_true rfl) (Nat.le_of_ble_eq_true rfl) (r56 ((s0 + s1) / ((2 : Int32) * v3)) w _ q44) ?_
  exact rn_forget (ls := [some (.ref v0), some (.int v1), some (.int v2), none, none, none, none]) (And.intro rfl (And.intro rfl (And.intro rfl trivial))) (rf172_J165 n  v0 v1 v2 p43.1 p43.2 _  h)
def f172 (n : Nat) (v0 : Nat) (w : Wd) : Option (Int32 × Wd) :=
  ob (getR w 11 v0 44) (fun x1 => ob (aldI w x1 (0 : Int32)) (fun x3 => ob (getR w 11 v0 44) (fun x5 => ob (aldI w x5 (1 : Int32)) (fun x7 => ob (getR w 11 v0 44) (fun x9 => ob (aldI w x9 (3 : Int32)) (fun x11 => ob (getR w 11 v0 44) (fun x13 => ob (aldI w x13 (4 : Int32)) (fun x15 => ob (getR w 11 v0 44) (fun x17 => ob (aldI w x17 (2 : Int32)) (fun x19 => ob (getR w 11 v0 44) (fun x21 => ob (aldI w x21 (4 : Int32)) (fun x23 => ob (getR w 11 v0 44) (fun x25 => ob (aldI w x25 (3 : Int32)) (fun x27 => ob (getR w 11 v0 44) (fun x29 => ob (aldI w x29 (1 : Int32)) (fun x31 => ob (getR w 11 v0 44) (fun x33 => ob (aldI w x33 (0 : Int32)) (fun x35 => (if ¬ (((x3 + x7) + x19) + (x11 + x15)) = 0 then ob (getI w 11 v0 39) (fun x37 => (if ¬ x37 = 0 then ob (getI w 11 v0 39) (fun x39 => (if ¬ x39 = (1 : Int32) then ob (getI w 11 v0 39) (fun x41 => (if ¬ x41 = (3 : Int32) then (if ¬ (((((2 : Int32) * x23) + x27) - x31) - ((2 : Int32) * x35)) = 0 then (if (((((2 : Int32) * x23) + x27) - x31) - ((2 : Int32) * x35)) ≤ 0 then f172_J157 n  v0 (x3 + x7) (x11 + x15) (((x3 + x7) + x19) + (x11 + x15)) ((2 : Int32) * (((((2 : Int32) * x23) + x27) - x31) - ((2 : Int32) * x35))) (-(((x3 + x7) + x19) + (x11 + x15))) w
              else f172_J157 n  v0 (x3 + x7) (x11 + x15) (((x3 + x7) + x19) + (x11 + x15)) ((2 : Int32) * (((((2 : Int32) * x23) + x27) - x31) - ((2 : Int32) * x35))) (((x3 + x7) + x19) + (x11 + x15)) w)
            else f172_J165 n  v0 (x3 + x7) (x11 + x15) (0 : Int32) w)
          else ob (getI w 11 v0 47) (fun x63 => ob (f56 x63 w) (fun p65 => f172_J165 n  v0 (x3 + x7) (x11 + x15) p65.1 p65.2))))
        else (if (wsh w v0).map (fun q => q.1) = some 11 then ob (f128 n v0 (((x3 + x7) + x19) + (x11 + x15)) w) (fun p68 => f172_J165 n  v0 (x3 + x7) (x11 + x15) p68.1 p68.2) else none)))
      else ob (getR w 11 v0 44) (fun x72 => ob (aldI w x72 (2 : Int32)) (fun x74 => ob (f53 (x3 + x7) x74 (x11 + x15) w) (fun p76 => f172_J165 n  v0 (x3 + x7) (x11 + x15) p76.1 p76.2)))))
    else some ((0 : Int32), w))))))))))))))))))))
set_option maxRecDepth 10000 in
theorem r172 {S : Sc} (n : Nat) (v0 : Nat) (w : Wd) (o : (Int32 × Wd)) (h : f172 n v0 w = some o) : Rn S 172 0 [some (.ref v0), none, none, none, none, none, none] [] w (some (.int o.1), o.2) := by
  unfold f172 at h
  refine rn_aload_n (ft172 0 rfl) rfl ?_
  obtain ⟨x1, q2, h⟩ := ob_some h
  refine rn_getR (ft172 1 rfl) q2 ?_
  refine rn_iconst (v := (0 : Int32)) (ft172 2 rfl) (by decide) ?_
  obtain ⟨x3, q4, h⟩ := ob_some h
  refine rn_iaload (ft172 3 rfl) q4 ?_
  refine rn_aload_n (ft172 4 rfl) rfl ?_
  obtain ⟨x5, q6, h⟩ := ob_some h
  refine rn_getR (ft172 5 rfl) q6 ?_
  refine rn_iconst (v := (1 : Int32)) (ft172 6 rfl) (by decide) ?_
  obtain ⟨x7, q8, h⟩ := ob_some h
  refine rn_iaload (ft172 7 rfl) q8 ?_
  refine rn_iadd (ft172 8 rfl) ?_
  refine rn_istore_n (ls' := [some (.ref v0), some (.int (x3 + x7)), none, none, none, none, none]) (ft172 9 rfl) rfl ?_
  refine rn_aload_n (ft172 10 rfl) rfl ?_
  obtain ⟨x9, q10, h⟩ := ob_some h
  refine rn_getR (ft172 11 rfl) q10 ?_
  refine rn_iconst (v := (3 : Int32)) (ft172 12 rfl) (by decide) ?_
  obtain ⟨x11, q12, h⟩ := ob_some h
  refine rn_iaload (ft172 13 rfl) q12 ?_
  refine rn_aload_n (ft172 14 rfl) rfl ?_
  obtain ⟨x13, q14, h⟩ := ob_some h
  refine rn_getR (ft172 15 rfl) q14 ?_
  refine rn_iconst (v := (4 : Int32)) (ft172 16 rfl) (by decide) ?_
  obtain ⟨x15, q16, h⟩ := ob_some h
  refine rn_iaload (ft172 17 rfl) q16 ?_
  refine rn_iadd (ft172 18 rfl) ?_
  refine rn_istore_n (ls' := [some (.ref v0), some (.int (x3 + x7)), some (.int (x11 + x15)), none, none, none, none]) (ft172 19 rfl) rfl ?_
  refine rn_iload_n (ft172 20 rfl) rfl ?_
  refine rn_aload_n (ft172 21 rfl) rfl ?_
  obtain ⟨x17, q18, h⟩ := ob_some h
  refine rn_getR (ft172 22 rfl) q18 ?_
  refine rn_iconst (v := (2 : Int32)) (ft172 23 rfl) (by decide) ?_
  obtain ⟨x19, q20, h⟩ := ob_some h
  refine rn_iaload (ft172 24 rfl) q20 ?_
  refine rn_iadd (ft172 25 rfl) ?_
  refine rn_iload_n (ft172 26 rfl) rfl ?_
  refine rn_iadd (ft172 27 rfl) ?_
  refine rn_istore_n (ls' := [some (.ref v0), some (.int (x3 + x7)), some (.int (x11 + x15)), some (.int (((x3 + x7) + x19) + (x11 + x15))), none, none, none]) (ft172 28 rfl) rfl ?_
  refine rn_iconst (v := (2 : Int32)) (ft172 29 rfl) (by decide) ?_
  refine rn_aload_n (ft172 30 rfl) rfl ?_
  obtain ⟨x21, q22, h⟩ := ob_some h
  refine rn_getR (ft172 31 rfl) q22 ?_
  refine rn_iconst (v := (4 : Int32)) (ft172 32 rfl) (by decide) ?_
  obtain ⟨x23, q24, h⟩ := ob_some h
  refine rn_iaload (ft172 33 rfl) q24 ?_
  refine rn_imul (ft172 34 rfl) ?_
  refine rn_aload_n (ft172 35 rfl) rfl ?_
  obtain ⟨x25, q26, h⟩ := ob_some h
  refine rn_getR (ft172 36 rfl) q26 ?_
  refine rn_iconst (v := (3 : Int32)) (ft172 37 rfl) (by decide) ?_
  obtain ⟨x27, q28, h⟩ := ob_some h
  refine rn_iaload (ft172 38 rfl) q28 ?_
  refine rn_iadd (ft172 39 rfl) ?_
  refine rn_aload_n (ft172 40 rfl) rfl ?_
  obtain ⟨x29, q30, h⟩ := ob_some h
  refine rn_getR (ft172 41 rfl) q30 ?_
  refine rn_iconst (v := (1 : Int32)) (ft172 42 rfl) (by decide) ?_
  obtain ⟨x31, q32, h⟩ := ob_some h
  refine rn_iaload (ft172 43 rfl) q32 ?_
  refine rn_isub (ft172 44 rfl) ?_
  refine rn_iconst (v := (2 : Int32)) (ft172 45 rfl) (by decide) ?_
  refine rn_aload_n (ft172 46 rfl) rfl ?_
  obtain ⟨x33, q34, h⟩ := ob_some h
  refine rn_getR (ft172 47 rfl) q34 ?_
  refine rn_iconst (v := (0 : Int32)) (ft172 48 rfl) (by decide) ?_
  obtain ⟨x35, q36, h⟩ := ob_some h
  refine rn_iaload (ft172 49 rfl) q36 ?_
  refine rn_imul (ft172 50 rfl) ?_
  refine rn_isub (ft172 51 rfl) ?_
  refine rn_istore (ls' := [some (.ref v0), some (.int (x3 + x7)), some (.int (x11 + x15)), some (.int (((x3 + x7) + x19) + (x11 + x15))), some (.int (((((2 : Int32) * x23) + x27) - x31) - ((2 : Int32) * x35))), none, none]) (ft172 52 rfl) rfl ?_
  refine rn_iload_n (ft172 53 rfl) rfl ?_
  by_cases c79 : ¬ (((x3 + x7) + x19) + (x11 + x15)) = 0
  · replace h := ifp c79 h
    refine rn_if_ne_t (ft172 54 rfl) c79 ?_
    refine rn_aload_n (ft172 57 rfl) rfl ?_
    obtain ⟨x37, q38, h⟩ := ob_some h
    refine rn_getI (ft172 58 rfl) (by decide) (by decide) q38 ?_
    by_cases c78 : ¬ x37 = 0
    · replace h := ifp c78 h
      refine rn_if_ne_t (ft172 59 rfl) c78 ?_
      refine rn_aload_n (ft172 68 rfl) rfl ?_
      obtain ⟨x39, q40, h⟩ := ob_some h
      refine rn_getI (ft172 69 rfl) (by decide) (by decide) q40 ?_
      refine rn_iconst (v := (1 : Int32)) (ft172 70 rfl) (by decide) ?_
      by_cases c71 : ¬ x39 = (1 : Int32)
      · replace h := ifp c71 h
        refine rn_icmp_ne_t (ft172 71 rfl) c71 ?_
        refine rn_aload_n (ft172 76 rfl) rfl ?_
        obtain ⟨x41, q42, h⟩ := ob_some h
        refine rn_getI (ft172 77 rfl) (by decide) (by decide) q42 ?_
        refine rn_iconst (v := (3 : Int32)) (ft172 78 rfl) (by decide) ?_
        by_cases c67 : ¬ x41 = (3 : Int32)
        · replace h := ifp c67 h
          refine rn_icmp_ne_t (ft172 79 rfl) c67 ?_
          refine rn_iload (ft172 84 rfl) rfl ?_
          by_cases c62 : ¬ (((((2 : Int32) * x23) + x27) - x31) - ((2 : Int32) * x35)) = 0
          · replace h := ifp c62 h
            refine rn_if_ne_t (ft172 85 rfl) c62 ?_
            refine rn_iconst (v := (2 : Int32)) (ft172 88 rfl) (by decide) ?_
            refine rn_iload (ft172 89 rfl) rfl ?_
            refine rn_imul (ft172 90 rfl) ?_
            refine rn_iload (ft172 91 rfl) rfl ?_
            by_cases c61 : (((((2 : Int32) * x23) + x27) - x31) - ((2 : Int32) * x35)) ≤ 0
            · replace h := ifp c61 h
              refine rn_if_le_t (ft172 92 rfl) c61 ?_
              refine rn_iload_n (ft172 95 rfl) rfl ?_
              refine rn_ineg (ft172 96 rfl) ?_
              exact rn_forget (ls := [some (.ref v0), some (.int (x3 + x7)), some (.int (x11 + x15)), some (.int (((x3 + x7) + x19) + (x11 + x15))), none, none, none]) (And.intro rfl (And.intro rfl (And.intro rfl (And.intro rfl trivial)))) (rf172_J157 n  v0 (x3 + x7) (x11 + x15) (((x3 + x7) + x19) + (x11 + x15)) ((2 : Int32) * (((((2 : Int32) * x23) + x27) - x31) - ((2 : Int32) * x35))) (-(((x3 + x7) + x19) + (x11 + x15))) w _  h)
            · replace h := ifn c61 h
              refine rn_if_le_f (ft172 92 rfl) c61 ?_
              refine rn_iload_n (ft172 93 rfl) rfl ?_
              refine rn_goto (ft172 94 rfl) ?_
              exact rn_forget (ls := [some (.ref v0), some (.int (x3 + x7)), some (.int (x11 + x15)), some (.int (((x3 + x7) + x19) + (x11 + x15))), none, none, none]) (And.intro rfl (And.intro rfl (And.intro rfl (And.intro rfl trivial)))) (rf172_J157 n  v0 (x3 + x7) (x11 + x15) (((x3 + x7) + x19) + (x11 + x15)) ((2 : Int32) * (((((2 : Int32) * x23) + x27) - x31) - ((2 : Int32) * x35))) (((x3 + x7) + x19) + (x11 + x15)) w _  h)
          · replace h := ifn c62 h
            refine rn_if_ne_f (ft172 85 rfl) c62 ?_
            refine rn_iconst (v := (0 : Int32)) (ft172 86 rfl) (by decide) ?_
            refine rn_goto (ft172 87 rfl) ?_
            exact rn_forget (ls := [some (.ref v0), some (.int (x3 + x7)), some (.int (x11 + x15)), none, none, none, none]) (And.intro rfl (And.intro rfl (And.intro rfl trivial))) (rf172_J165 n  v0 (x3 + x7) (x11 + x15) (0 : Int32) w _  h)
        · replace h := ifn c67 h
          refine rn_icmp_ne_f (ft172 79 rfl) c67 ?_
          refine rn_aload_n (ft172 80 rfl) rfl ?_
          obtain ⟨x63, q64, h⟩ := ob_some h
          refine rn_getI (ft172 81 rfl) (by decide) (by decide) q64 ?_
          obtain ⟨p65, q66, h⟩ := ob_some h
          refine rn_callS (as := [.int x63]) (r := []) (v := (some (.int p65.1))) (w1 := p65.2) (ft172 82 rfl) (by decide +kernel) rfl (Nat.le_of_ble_eq_true rfl) (Nat.le_of_ble_eq_true rfl) (r56 x63 w _ q66) ?_
          refine rn_goto (ft172 83 rfl) ?_
          exact rn_forget (ls := [some (.ref v0), some (.int (x3 + x7)), some (.int (x11 + x15)), none, none, none, none]) (And.intro rfl (And.intro rfl (And.intro rfl trivial))) (rf172_J165 n  v0 (x3 + x7) (x11 + x15) p65.1 p65.2 _  h)
      · replace h := ifn c71 h
        refine rn_icmp_ne_f (ft172 71 rfl) c71 ?_
        refine rn_aload_n (ft172 72 rfl) rfl ?_
        refine rn_iload_n (ft172 73 rfl) rfl ?_
        obtain ⟨g70, h⟩ := ifg h
        obtain ⟨p68, q69, h⟩ := ob_some h
        refine rn_callV (as := [.int (((x3 + x7) + x19) + (x11 + x15))]) (k0 := v0) (r := []) (v := (some (.int p68.1))) (w1 := p68.2) (ft172 74 rfl) (by decide +kernel) rfl (Nat.le_of_ble_eq_true rfl) (Nat.le_of_ble_eq_true rfl) (r128 n v0 (((x3 + x7) + x19) + (x11 + x15)) w _ q69) (by decide +kernel) g70 ?_
        refine rn_goto (ft172 75 rfl) ?_
        exact rn_forget (ls := [some (.ref v0), some (.int (x3 + x7)), some (.int (x11 + x15)), none, none, none, none]) (And.intro rfl (And.intro rfl (And.intro rfl trivial))) (rf172_J165 n  v0 (x3 + x7) (x11 + x15) p68.1 p68.2 _  h)
    · replace h := ifn c78 h
      refine rn_if_ne_f (ft172 59 rfl) c78 ?_
      refine rn_iload_n (ft172 60 rfl) rfl ?_
      refine rn_aload_n (ft172 61 rfl) rfl ?_
      obtain ⟨x72, q73, h⟩ := ob_some h
      refine rn_getR (ft172 62 rfl) q73 ?_
      refine rn_iconst (v := (2 : Int32)) (ft172 63 rfl) (by decide) ?_
      obtain ⟨x74, q75, h⟩ := ob_some h
      refine rn_iaload (ft172 64 rfl) q75 ?_
      refine rn_iload_n (ft172 65 rfl) rfl ?_
      obtain ⟨p76, q77, h⟩ := ob_some h
      refine rn_callS (as := [.int (x3 + x7), .int x74, .int (x11 + x15)]) (r := []) (v := (some (.int p76.1))) (w1 := p76.2) (ft172 66 rfl) (by decide +kernel) rfl (Nat.le_of_ble_eq_true rfl) (Nat.le_of_ble_eq_true rfl) (r53 (x3 + x7) x74 (x11 + x15) w _ q77) ?_
      refine rn_goto (ft172 67 rfl) ?_
      exact rn_forget (ls := [some (.ref v0), some (.int (x3 + x7)), some (.int (x11 + x15)), none, none, none, none]) (And.intro rfl (And.intro rfl (And.intro rfl trivial))) (rf172_J165 n  v0 (x3 + x7) (x11 + x15) p76.1 p76.2 _  h)
  · replace h := ifn c79 h
    refine rn_if_ne_f (ft172 54 rfl) c79 ?_
    refine rn_iconst (v := (0 : Int32)) (ft172 55 rfl) (by decide) ?_
    cases h
    exact rn_iretI pr172 (ft172 56 rfl)
/-- NineWheelModel.roundAt()I -/
theorem ft173 : ∀ (i : Nat) {q : Nat × XI}, cd173[i]? = some q → fetch 173 q.1 = some q.2 := ft_of (by decide +kernel)
theorem pr173 : pRt 173 = some .int := rfl
def f173_J82 (n : Nat) (rec5 : Nat → Int32 → Int32 → Wd → Option (Int32 × Wd)) (K5 : Wd → Option (Int32 × Wd)) (rec16 : Nat → Int32 → Int32 → Int32 → Wd → Option (Int32 × Wd)) (K16 : Nat → Int32 → Int32 → Wd → Option (Int32 × Wd)) (v0 : Nat) (v1 : Int32) (v2 : Int32) (v3 : Int32) (w : Wd) : Option (Int32 × Wd) :=
  rec16 v0 v1 v2 (v3 - v1) w
set_option maxRecDepth 10000 in
theorem rf173_J82 {S : Sc} (n : Nat) (rec5 : Nat → Int32 → Int32 → Wd → Option (Int32 × Wd)) (K5 : Wd → Option (Int32 × Wd)) (rec16 : Nat → Int32 → Int32 → Int32 → Wd → Option (Int32 × Wd)) (K16 : Nat → Int32 → Int32 → Wd → Option (Int32 × Wd)) (v0 : Nat) (v1 : Int32) (v2 : Int32) (v3 : Int32) (w : Wd) (o : (Int32 × Wd)) (hrec5 : ∀ (y0 : Nat) (y1 : Int32) (y2 : Int32) (w : Wd) (o : (Int32 × Wd)), rec5 y0 y1 y2 w = some o → Rn S 173 7 [some (.ref y0), some (.int y1), some (.int y2), none] [] w (some (.int o.1), o.2)) (hK5 : ∀  (w : Wd) (o : (Int32 × Wd)), K5 w = some o → Rn S 173 95 [none, none, none, none] [] w (some (.int o.1), o.2)) (hrec16 : ∀ (y0 : Nat) (y1 : Int32) (y2 : Int32) (y3 : Int32) (w : Wd) (o : (Int32 × Wd)), rec16 y0 y1 y2 y3 w = some o → Rn S 173 26 [some (.ref y0), some (.int y1), some (.int y2), some (.int y3)] [] w (some (.int o.1), o.2)) (hK16 : ∀ (y0 : Nat) (y1 : Int32) (y2 : Int32) (w : Wd) (o : (Int32 × Wd)), K16 y0 y1 y2 w = some o → Rn S 173 89 [some (.ref y0), some (.int y1), some (.int y2), none] [] w (some (.int o.1), o.2)) (h : f173_J82 n rec5 K5 rec16 K16 v0 v1 v2 v3 w = some o) : Rn S 173 82 [some (.ref v0), some (.int v1), some (.int v2), some (.int v3)] [] w (some (.int o.1), o.2) := by
  unfold f173_J82 at h
  refine rn_iload_n (ft173 50 rfl) rfl ?_
  refine rn_iload_n (ft173 51 rfl) rfl ?_
  refine rn_isub (ft173 52 rfl) ?_
  refine rn_istore_n (ls' := [some (.ref v0), some (.int v1), some (.int v2), some (.int (v3 - v1))]) (ft173 53 rfl) rfl ?_
  refine rn_goto (ft173 54 rfl) ?_
  exact rn_forget (ls := [some (.ref v0), some (.int v1), some (.int v2), some (.int (v3 - v1))]) (And.intro rfl (And.intro rfl (And.intro rfl (And.intro rfl trivial)))) (hrec16 v0 v1 v2 (v3 - v1) w _ h)
def f173_H26 (n : Nat) (rec5 : Nat → Int32 → Int32 → Wd → Option (Int32 × Wd)) (K5 : Wd → Option (Int32 × Wd)) (K16 : Nat → Int32 → Int32 → Wd → Option (Int32 × Wd)) : Nat → Nat → Int32 → Int32 → Int32 → Wd → Option (Int32 × Wd)
  | 0, _, _, _, _, _ => none
  | k + 1, v0, v1, v2, v3, w =>
    (if v3 < 0 then K16 v0 v1 v2 w
      else ob (getR w 11 v0 48) (fun x7 => ob (aldI w x7 v3) (fun x9 => ob (getR w 11 v0 48) (fun x11 => ob (aldI w x11 v2) (fun x13 => (if ¬ x9 = x13 then f173_J82 n rec5 K5 (fun (v0 : Nat) (v1 : Int32) (v2 : Int32) (v3 : Int32) w => f173_H26 n rec5 K5 K16 k v0 v1 v2 v3 w) K16 v0 v1 v2 v3 w
        else ob (getR w 11 v0 49) (fun x15 => ob (aldI w x15 v3) (fun x17 => ob (getR w 11 v0 49) (fun x19 => ob (aldI w x19 v2) (fun x21 => (if ¬ x17 = x21 then f173_J82 n rec5 K5 (fun (v0 : Nat) (v1 : Int32) (v2 : Int32) (v3 : Int32) w => f173_H26 n rec5 K5 K16 k v0 v1 v2 v3 w) K16 v0 v1 v2 v3 w
          else ob (getR w 11 v0 50) (fun x23 => ob (aldI w x23 v3) (fun x25 => ob (getR w 11 v0 50) (fun x27 => ob (aldI w x27 v2) (fun x29 => (if ¬ x25 = x29 then f173_J82 n rec5 K5 (fun (v0 : Nat) (v1 : Int32) (v2 : Int32) (v3 : Int32) w => f173_H26 n rec5 K5 K16 k v0 v1 v2 v3 w) K16 v0 v1 v2 v3 w
            else ob (putI w 11 v0 55 v3) (fun w31 => some (v2, w31))))))))))))))))))
set_option maxRecDepth 10000 in
theorem rf173_H26 {S : Sc} (n : Nat) (rec5 : Nat → Int32 → Int32 → Wd → Option (Int32 × Wd)) (K5 : Wd → Option (Int32 × Wd)) (K16 : Nat → Int32 → Int32 → Wd → Option (Int32 × Wd)) (hrec5 : ∀ (y0 : Nat) (y1 : Int32) (y2 : Int32) (w : Wd) (o : (Int32 × Wd)), rec5 y0 y1 y2 w = some o → Rn S 173 7 [some (.ref y0), some (.int y1), some (.int y2), none] [] w (some (.int o.1), o.2)) (hK5 : ∀  (w : Wd) (o : (Int32 × Wd)), K5 w = some o → Rn S 173 95 [none, none, none, none] [] w (some (.int o.1), o.2)) (hK16 : ∀ (y0 : Nat) (y1 : Int32) (y2 : Int32) (w : Wd) (o : (Int32 × Wd)), K16 y0 y1 y2 w = some o → Rn S 173 89 [some (.ref y0), some (.int y1), some (.int y2), none] [] w (some (.int o.1), o.2)) : ∀ (k : Nat) (v0 : Nat) (v1 : Int32) (v2 : Int32) (v3 : Int32) (w : Wd) (o : (Int32 × Wd)), f173_H26 n rec5 K5 K16 k v0 v1 v2 v3 w = some o → Rn S 173 26 [some (.ref v0), some (.int v1), some (.int v2), some (.int v3)] [] w (some (.int o.1), o.2) := by
  intro k
  induction k with
  | zero =>
    intro v0 v1 v2 v3 w o h
    exact nomatch h
  | succ k ih =>
    intro v0 v1 v2 v3 w o h
    have hrec16 : ∀ (y0 : Nat) (y1 : Int32) (y2 : Int32) (y3 : Int32) (w : Wd) (o : (Int32 × Wd)), (fun (v0 : Nat) (v1 : Int32) (v2 : Int32) (v3 : Int32) w => f173_H26 n rec5 K5 K16 k v0 v1 v2 v3 w) y0 y1 y2 y3 w = some o → Rn S 173 26 [some (.ref y0), some (.int y1), some (.int y2), some (.int y3)] [] w (some (.int o.1), o.2) := fun y0 y1 y2 y3 w o h => ih y0 y1 y2 y3 w o h
    unfold f173_H26 at h
    refine rn_iload_n (ft173 16 rfl) rfl ?_
    by_cases c36 : v3 < 0
    · replace h := ifp c36 h
      refine rn_if_lt_t (ft173 17 rfl) c36 ?_
      exact rn_forget (ls := [some (.ref v0), some (.int v1), some (.int v2), none]) (And.intro rfl (And.intro rfl (And.intro rfl trivial))) (hK16 v0 v1 v2 w _ h)
    · replace h := ifn c36 h
      refine rn_if_lt_f (ft173 17 rfl) c36 ?_
      refine rn_aload_n (ft173 18 rfl) rfl ?_
      obtain ⟨x7, q8, h⟩ := ob_some h
      refine rn_getR (ft173 19 rfl) q8 ?_
      refine rn_iload_n (ft173 20 rfl) rfl ?_
      obtain ⟨x9, q10, h⟩ := ob_some h
      refine rn_iaload (ft173 21 rfl) q10 ?_
      refine rn_aload_n (ft173 22 rfl) rfl ?_
      obtain ⟨x11, q12, h⟩ := ob_some h
      refine rn_getR (ft173 23 rfl) q12 ?_
      refine rn_iload_n (ft173 24 rfl) rfl ?_
      obtain ⟨x13, q14, h⟩ := ob_some h
      refine rn_iaload (ft173 25 rfl) q14 ?_
      by_cases c35 : ¬ x9 = x13
      · replace h := ifp c35 h
        refine rn_icmp_ne_t (ft173 26 rfl) c35 ?_
        exact rn_forget (ls := [some (.ref v0), some (.int v1), some (.int v2), some (.int v3)]) (And.intro rfl (And.intro rfl (And.intro rfl (And.intro rfl trivial)))) (rf173_J82 n rec5 K5 (fun (v0 : Nat) (v1 : Int32) (v2 : Int32) (v3 : Int32) w => f173_H26 n rec5 K5 K16 k v0 v1 v2 v3 w) K16 v0 v1 v2 v3 w _ hrec5 hK5 hrec16 hK16 h)
      · replace h := ifn c35 h
        refine rn_icmp_ne_f (ft173 26 rfl) c35 ?_
        refine rn_aload_n (ft173 27 rfl) rfl ?_
        obtain ⟨x15, q16, h⟩ := ob_some h
        refine rn_getR (ft173 28 rfl) q16 ?_
        refine rn_iload_n (ft173 29 rfl) rfl ?_
        obtain ⟨x17, q18, h⟩ := ob_some h
        refine rn_iaload (ft173 30 rfl) q18 ?_
        refine rn_aload_n (ft173 31 rfl) rfl ?_
        obtain ⟨x19, q20, h⟩ := ob_some h
        refine rn_getR (ft173 32 rfl) q20 ?_
        refine rn_iload_n (ft173 33 rfl) rfl ?_
        obtain ⟨x21, q22, h⟩ := ob_some h
        refine rn_iaload (ft173 34 rfl) q22 ?_
        by_cases c34 : ¬ x17 = x21
        · replace h := ifp c34 h
          refine rn_icmp_ne_t (ft173 35 rfl) c34 ?_
          exact rn_forget (ls := [some (.ref v0), some (.int v1), some (.int v2), some (.int v3)]) (And.intro rfl (And.intro rfl (And.intro rfl (And.intro rfl trivial)))) (rf173_J82 n rec5 K5 (fun (v0 : Nat) (v1 : Int32) (v2 : Int32) (v3 : Int32) w => f173_H26 n rec5 K5 K16 k v0 v1 v2 v3 w) K16 v0 v1 v2 v3 w _ hrec5 hK5 hrec16 hK16 h)
        · replace h := ifn c34 h
          refine rn_icmp_ne_f (ft173 35 rfl) c34 ?_
          refine rn_aload_n (ft173 36 rfl) rfl ?_
          obtain ⟨x23, q24, h⟩ := ob_some h
          refine rn_getR (ft173 37 rfl) q24 ?_
          refine rn_iload_n (ft173 38 rfl) rfl ?_
          obtain ⟨x25, q26, h⟩ := ob_some h
          refine rn_iaload (ft173 39 rfl) q26 ?_
          refine rn_aload_n (ft173 40 rfl) rfl ?_
          obtain ⟨x27, q28, h⟩ := ob_some h
          refine rn_getR (ft173 41 rfl) q28 ?_
          refine rn_iload_n (ft173 42 rfl) rfl ?_
          obtain ⟨x29, q30, h⟩ := ob_some h
          refine rn_iaload (ft173 43 rfl) q30 ?_
          by_cases c33 : ¬ x25 = x29
          · replace h := ifp c33 h
            refine rn_icmp_ne_t (ft173 44 rfl) c33 ?_
            exact rn_forget (ls := [some (.ref v0), some (.int v1), some (.int v2), some (.int v3)]) (And.intro rfl (And.intro rfl (And.intro rfl (And.intro rfl trivial)))) (rf173_J82 n rec5 K5 (fun (v0 : Nat) (v1 : Int32) (v2 : Int32) (v3 : Int32) w => f173_H26 n rec5 K5 K16 k v0 v1 v2 v3 w) K16 v0 v1 v2 v3 w _ hrec5 hK5 hrec16 hK16 h)
          · replace h := ifn c33 h
            refine rn_icmp_ne_f (ft173 44 rfl) c33 ?_
            refine rn_aload_n (ft173 45 rfl) rfl ?_
            refine rn_iload_n (ft173 46 rfl) rfl ?_
            obtain ⟨w31, q32, h⟩ := ob_some h
            refine rn_putI (ft173 47 rfl) q32 ?_
            refine rn_iload_n (ft173 48 rfl) rfl ?_
            cases h
            exact rn_iretI pr173 (ft173 49 rfl)
def f173_H7 (n : Nat)  (K5 : Wd → Option (Int32 × Wd)) : Nat → Nat → Int32 → Int32 → Wd → Option (Int32 × Wd)
  | 0, _, _, _, _ => none
  | k + 1, v0, v1, v2, w =>
    ob (getI w 11 v0 53) (fun x3 => (if x3 < v2 then K5 w
      else ob (getI w 11 v0 52) (fun x5 => (if 0 ≤ x5 then K5 w
        else f173_H26 n (fun (v0 : Nat) (v1 : Int32) (v2 : Int32) w => f173_H7 n  K5 k v0 v1 v2 w) K5 (fun (e0_37 : Nat) (e1_37 : Int32) (e2_37 : Int32) (w37 : Wd) => (fun (v0 : Nat) (v1 : Int32) (v2 : Int32) w => f173_H7 n  K5 k v0 v1 v2 w) e0_37 e1_37 (e2_37 + (1 : Int32)) w37) n v0 v1 v2 (v2 - v1) w))))
set_option maxRecDepth 10000 in
theorem rf173_H7 {S : Sc} (n : Nat)  (K5 : Wd → Option (Int32 × Wd))  (hK5 : ∀  (w : Wd) (o : (Int32 × Wd)), K5 w = some o → Rn S 173 95 [none, none, none, none] [] w (some (.int o.1), o.2)) : ∀ (k : Nat) (v0 : Nat) (v1 : Int32) (v2 : Int32) (w : Wd) (o : (Int32 × Wd)), f173_H7 n  K5 k v0 v1 v2 w = some o → Rn S 173 7 [some (.ref v0), some (.int v1), some (.int v2), none] [] w (some (.int o.1), o.2) := by
  intro k
  induction k with
  | zero =>
    intro v0 v1 v2 w o h
    exact nomatch h
  | succ k ih =>
    intro v0 v1 v2 w o h
    have hrec5 : ∀ (y0 : Nat) (y1 : Int32) (y2 : Int32) (w : Wd) (o : (Int32 × Wd)), (fun (v0 : Nat) (v1 : Int32) (v2 : Int32) w => f173_H7 n  K5 k v0 v1 v2 w) y0 y1 y2 w = some o → Rn S 173 7 [some (.ref y0), some (.int y1), some (.int y2), none] [] w (some (.int o.1), o.2) := fun y0 y1 y2 w o h => ih y0 y1 y2 w o h
    unfold f173_H7 at h
    refine rn_iload_n (ft173 5 rfl) rfl ?_
    refine rn_aload_n (ft173 6 rfl) rfl ?_
    obtain ⟨x3, q4, h⟩ := ob_some h
    refine rn_getI (ft173 7 rfl) (by decide) (by decide) q4 ?_
    by_cases c39 : x3 < v2
    · replace h := ifp c39 h
      refine rn_icmp_gt_t (ft173 8 rfl) c39 ?_
      exact rn_forget (ls := [none, none, none, none]) trivial (hK5 w _ h)
    · replace h := ifn c39 h
      refine rn_icmp_gt_f (ft173 8 rfl) c39 ?_
      refine rn_aload_n (ft173 9 rfl) rfl ?_
      obtain ⟨x5, q6, h⟩ := ob_some h
      refine rn_getI (ft173 10 rfl) (by decide) (by decide) q6 ?_
      by_cases c38 : 0 ≤ x5
      · replace h := ifp c38 h
        refine rn_if_ge_t (ft173 11 rfl) c38 ?_
        exact rn_forget (ls := [none, none, none, none]) trivial (hK5 w _ h)
      · replace h := ifn c38 h
        refine rn_if_ge_f (ft173 11 rfl) c38 ?_
        refine rn_iload_n (ft173 12 rfl) rfl ?_
        refine rn_iload_n (ft173 13 rfl) rfl ?_
        refine rn_isub (ft173 14 rfl) ?_
        refine rn_istore_n (ls' := [some (.ref v0), some (.int v1), some (.int v2), some (.int (v2 - v1))]) (ft173 15 rfl) rfl ?_
        refine rn_forget (ls := [some (.ref v0), some (.int v1), some (.int v2), some (.int (v2 - v1))]) (And.intro rfl (And.intro rfl (And.intro rfl (And.intro rfl trivial)))) (rf173_H26 n (fun (v0 : Nat) (v1 : Int32) (v2 : Int32) w => f173_H7 n  K5 k v0 v1 v2 w) K5 _ hrec5 hK5 (fun e0_37 e1_37 e2_37 w37 o h => ?_) n v0 v1 v2 (v2 - v1) w _ h)
        refine rn_iinc (u := 1) (ls' := [some (.ref e0_37), some (.int e1_37), some (.int (e2_37 + (1 : Int32))), none]) (ft173 55 rfl) rfl (by decide) rfl ?_
        refine rn_goto (ft173 56 rfl) ?_
        exact rn_forget (ls := [some (.ref e0_37), some (.int e1_37), some (.int (e2_37 + (1 : Int32))), none]) (And.intro rfl (And.intro rfl (And.intro rfl trivial))) (hrec5 e0_37 e1_37 (e2_37 + (1 : Int32)) w37 _ h)
def f173 (n : Nat) (v0 : Nat) (w : Wd) : Option (Int32 × Wd) :=
  (if (wsh w v0).map (fun q => q.1) = some 11 then ob (f129 n v0 w) (fun p1 => f173_H7 n  (fun  (w40 : Wd) => some ((-1 : Int32), w40)) n v0 p1.1 (1 : Int32) p1.2) else none)
set_option maxRecDepth 10000 in
theorem r173 {S : Sc} (n : Nat) (v0 : Nat) (w : Wd) (o : (Int32 × Wd)) (h : f173 n v0 w = some o) : Rn S 173 0 [some (.ref v0), none, none, none] [] w (some (.int o.1), o.2) := by
  unfold f173 at h
  refine rn_aload_n (ft173 0 rfl) rfl ?_
  obtain ⟨g41, h⟩ := ifg h
  obtain ⟨p1, q2, h⟩ := ob_some h
  refine rn_callV (as := []) (k0 := v0) (r := []) (v := (some (.int p1.1))) (w1 := p1.2) (ft173 1 rfl) (by decide +kernel) rfl (Nat.le_of_ble_eq_true rfl) (Nat.le_of_ble_eq_true rfl) (r129 n v0 w _ q2) (by decide +kernel) g41 ?_
  refine rn_istore_n (ls' := [some (.ref v0), some (.int p1.1), none, none]) (ft173 2 rfl) rfl ?_
  refine rn_iconst (v := (1 : Int32)) (ft173 3 rfl) (by decide) ?_
  refine rn_istore_n (ls' := [some (.ref v0), some (.int p1.1), some (.int (1 : Int32)), none]) (ft173 4 rfl) rfl ?_
  refine rn_forget (ls := [some (.ref v0), some (.int p1.1), some (.int (1 : Int32)), none]) (And.intro rfl (And.intro rfl (And.intro rfl trivial))) (rf173_H7 n  _  (fun  w40 o h => ?_) n v0 p1.1 (1 : Int32) p1.2 _ h)
  refine rn_iconst (v := (-1 : Int32)) (ft173 57 rfl) (by decide) ?_
  cases h
  exact rn_iretI pr173 (ft173 58 rfl)
/-- NineWheel.<init>()V -/
theorem ft174 : ∀ (i : Nat) {q : Nat × XI}, cd174[i]? = some q → fetch 174 q.1 = some q.2 := ft_of (by decide +kernel)
theorem pr174 : pRt 174 = none := rfl
def f174 (v0 : Nat) (w : Wd) : Option Wd :=
  ob (f65 (wn w) (newC w 9 (NF 9))) (fun p1 => ob (putR p1 10 v0 0 (wn w)) (fun w3 => ob (f66 (wn w3) (newC w3 6 (NF 6))) (fun p5 => ob (putR p5 10 v0 1 (wn w3)) (fun w7 => ob (f66 (wn w7) (newC w7 6 (NF 6))) (fun p9 => ob (putR p9 10 v0 2 (wn w7)) (fun w11 => ob (getR (newC w11 7 (NF 7)) 10 v0 0) (fun x13 => ob (getR (newC w11 7 (NF 7)) 10 v0 2) (fun x15 => ob (f67 (wn w11) x13 x15 (newC w11 7 (NF 7))) (fun p17 => ob (putR p17 10 v0 3 (wn w11)) (fun w19 => ob (f68 (wn (newC w19 24 (Int32.toNatClampNeg (4 : Int32)))) (newC (newC w19 24 (Int32.toNatClampNeg (4 : Int32))) 5 (NF 5))) (fun p21 => ob (astR p21 (wn w19) (0 : Int32) (wn (newC w19 24 (Int32.toNatClampNeg (4 : Int32))))) (fun w23 => ob (f68 (wn w23) (newC w23 5 (NF 5))) (fun p25 => ob (astR p25 (wn w19) (1 : Int32) (wn w23)) (fun w27 => ob (f68 (wn w27) (newC w27 5 (NF 5))) (fun p29 => ob (astR p29 (wn w19) (2 : Int32) (wn w27)) (fun w31 => ob (f68 (wn w31) (newC w31 5 (NF 5))) (fun p33 => ob (astR p33 (wn w19) (3 : Int32) (wn w31)) (fun w35 => ob (putR w35 10 v0 4 (wn w19)) (fun w37 => ob (f68 (wn w37) (newC w37 5 (NF 5))) (fun p39 => ob (putR p39 10 v0 5 (wn w37)) (fun w41 => ob (f69 (wn w41) (newC w41 3 (NF 3))) (fun p43 => ob (putR p43 10 v0 7 (wn w41)) (fun w45 => ob (f69 (wn (newC w45 25 (Int32.toNatClampNeg (2 : Int32)))) (newC (newC w45 25 (Int32.toNatClampNeg (2 : Int32))) 3 (NF 3))) (fun p47 => ob (astR p47 (wn w45) (0 : Int32) (wn (newC w45 25 (Int32.toNatClampNeg (2 : Int32))))) (fun w49 => ob (f69 (wn w49) (newC w49 3 (NF 3))) (fun p51 => ob (astR p51 (wn w45) (1 : Int32) (wn w49)) (fun w53 => ob (putR w53 10 v0 8 (wn w45)) (fun w55 => ob (getR (newC w55 2 (NF 2)) 10 v0 1) (fun x57 => ob (getR (newC w55 2 (NF 2)) 10 v0 7) (fun x59 => ob (f135 (wn w55) x57 x59 (newC w55 2 (NF 2))) (fun p61 => ob (putR p61 10 v0 9 (wn w55)) (fun w63 => ob (getR (newC w63 0 (NF 0)) 10 v0 1) (fun x65 => ob (getR (newC w63 0 (NF 0)) 10 v0 9) (fun x67 => ob (getR (newC w63 0 (NF 0)) 10 v0 5) (fun x69 => ob (f136 (wn w63) x65 x67 x69 (newC w63 0 (NF 0))) (fun p71 => ob (putR p71 10 v0 10 (wn w63)) (fun w73 => ob (getR (newC w73 4 (NF 4)) 10 v0 1) (fun x75 => ob (getR (newC w73 4 (NF 4)) 10 v0 9) (fun x77 => ob (getR (newC w73 4 (NF 4)) 10 v0 10) (fun x79 => ob (getR (newC w73 4 (NF 4)) 10 v0 7) (fun x81 => ob (f137 (wn w73) x75 x77 x79 x81 (newC w73 4 (NF 4))) (fun p83 => ob (putR p83 10 v0 11 (wn w73)) (fun w85 => ob (getR (newC w85 1 (NF 1)) 10 v0 1) (fun x87 => ob (getR (newC w85 1 (NF 1)) 10 v0 10) (fun x89 => ob (f71 (wn w85) x87 x89 (newC w85 1 (NF 1))) (fun p91 => ob (putR p91 10 v0 12 (wn w85)) (fun w93 => ob (putR (newC w93 20 (Int32.toNatClampNeg (6 : Int32))) 10 v0 13 (wn w93)) (fun w95 => some w95))))))))))))))))))))))))))))))))))))))))))))))))
set_option maxRecDepth 10000 in
theorem r174 {S : Sc} (v0 : Nat) (w : Wd) (o : Wd) (h : f174 v0 w = some o) : Rn S 174 0 [some (.ref v0)] [] w (none, o) := by
  unfold f174 at h
  refine rn_aload_n (ft174 0 rfl) rfl ?_
  refine rn_objInit (ft174 1 rfl) (Nat.le_of_ble_eq_true rfl) ?_
  refine rn_aload_n (ft174 2 rfl) rfl ?_
  refine rn_new (ft174 3 rfl) ?_
  refine rn_dup (ft174 4 rfl) rfl ?_
  obtain ⟨p1, q2, h⟩ := ob_some h
  refine rn_callI (as := []) (k0 := (wn w)) (r := [.ref (wn w), .ref v0]) (v := none) (w1 := p1) (ft174 5 rfl) (by decide +kernel) rfl (Nat.le_of_ble_eq_true rfl) (Nat.le_of_ble_eq_true rfl) (r65 (wn w) (newC w 9 (NF 9)) _ q2) ?_
  obtain ⟨w3, q4, h⟩ := ob_some h
  refine rn_putR (ft174 6 rfl) q4 ?_
  refine rn_aload_n (ft174 7 rfl) rfl ?_
  refine rn_new (ft174 8 rfl) ?_
  refine rn_dup (ft174 9 rfl) rfl ?_
  obtain ⟨p5, q6, h⟩ := ob_some h
  refine rn_callI (as := []) (k0 := (wn w3)) (r := [.ref (wn w3), .ref v0]) (v := none) (w1 := p5) (ft174 10 rfl) (by decide +kernel) rfl (Nat.le_of_ble_eq_true rfl) (Nat.le_of_ble_eq_true rfl) (r66 (wn w3) (newC w3 6 (NF 6)) _ q6) ?_
  obtain ⟨w7, q8, h⟩ := ob_some h
  refine rn_putR (ft174 11 rfl) q8 ?_
  refine rn_aload_n (ft174 12 rfl) rfl ?_
  refine rn_new (ft174 13 rfl) ?_
  refine rn_dup (ft174 14 rfl) rfl ?_
  obtain ⟨p9, q10, h⟩ := ob_some h
  refine rn_callI (as := []) (k0 := (wn w7)) (r := [.ref (wn w7), .ref v0]) (v := none) (w1 := p9) (ft174 15 rfl) (by decide +kernel) rfl (Nat.le_of_ble_eq_true rfl) (Nat.le_of_ble_eq_true rfl) (r66 (wn w7) (newC w7 6 (NF 6)) _ q10) ?_
  obtain ⟨w11, q12, h⟩ := ob_some h
  refine rn_putR (ft174 16 rfl) q12 ?_
  refine rn_aload_n (ft174 17 rfl) rfl ?_
  refine rn_new (ft174 18 rfl) ?_
  refine rn_dup (ft174 19 rfl) rfl ?_
  refine rn_aload_n (ft174 20 rfl) rfl ?_
  obtain ⟨x13, q14, h⟩ := ob_some h
  refine rn_getR (ft174 21 rfl) q14 ?_
  refine rn_aload_n (ft174 22 rfl) rfl ?_
  obtain ⟨x15, q16, h⟩ := ob_some h
  refine rn_getR (ft174 23 rfl) q16 ?_
  obtain ⟨p17, q18, h⟩ := ob_some h
  refine rn_callI (as := [.ref x13, .ref x15]) (k0 := (wn w11)) (r := [.ref (wn w11), .ref v0]) (v := none) (w1 := p17) (ft174 24 rfl) (by decide +kernel) rfl (Nat.le_of_ble_eq_true rfl) (Nat.le_of_ble_eq_true rfl) (r67 (wn w11) x13 x15 (newC w11 7 (NF 7)) _ q18) ?_
  obtain ⟨w19, q20, h⟩ := ob_some h
  refine rn_putR (ft174 25 rfl) q20 ?_
  refine rn_aload_n (ft174 26 rfl) rfl ?_
  refine rn_iconst (v := (4 : Int32)) (ft174 27 rfl) (by decide) ?_
  refine rn_anew (ft174 28 rfl) (by decide) ?_
  refine rn_dup (ft174 29 rfl) rfl ?_
  refine rn_iconst (v := (0 : Int32)) (ft174 30 rfl) (by decide) ?_
  refine rn_new (ft174 31 rfl) ?_
  refine rn_dup (ft174 32 rfl) rfl ?_
  obtain ⟨p21, q22, h⟩ := ob_some h
  refine rn_callI (as := []) (k0 := (wn (newC w19 24 (Int32.toNatClampNeg (4 : Int32))))) (r := [.ref (wn (newC w19 24 (Int32.toNatClampNeg (4 : Int32)))), .int (0 : Int32), .ref (wn w19), .ref (wn w19), .ref v0]) (v := none) (w1 := p21) (ft174 33 rfl) (by decide +kernel) rfl (Nat.le_of_ble_eq_true rfl) (Nat.le_of_ble_eq_true rfl) (r68 (wn (newC w19 24 (Int32.toNatClampNeg (4 : Int32)))) (newC (newC w19 24 (Int32.toNatClampNeg (4 : Int32))) 5 (NF 5)) _ q22) ?_
  obtain ⟨w23, q24, h⟩ := ob_some h
  refine rn_aastore (ft174 34 rfl) q24 ?_
  refine rn_dup (ft174 35 rfl) rfl ?_
  refine rn_iconst (v := (1 : Int32)) (ft174 36 rfl) (by decide) ?_
  refine rn_new (ft174 37 rfl) ?_
  refine rn_dup (ft174 38 rfl) rfl ?_
  obtain ⟨p25, q26, h⟩ := ob_some h
  refine rn_callI (as := []) (k0 := (wn w23)) (r := [.ref (wn w23), .int (1 : Int32), .ref (wn w19), .ref (wn w19), .ref v0]) (v := none) (w1 := p25) (ft174 39 rfl) (by decide +kernel) rfl (Nat.le_of_ble_eq_true rfl) (Nat.le_of_ble_eq_true rfl) (r68 (wn w23) (newC w23 5 (NF 5)) _ q26) ?_
  obtain ⟨w27, q28, h⟩ := ob_some h
  refine rn_aastore (ft174 40 rfl) q28 ?_
  refine rn_dup (ft174 41 rfl) rfl ?_
  refine rn_iconst (v := (2 : Int32)) (ft174 42 rfl) (by decide) ?_
  refine rn_new (ft174 43 rfl) ?_
  refine rn_dup (ft174 44 rfl) rfl ?_
  obtain ⟨p29, q30, h⟩ := ob_some h
  refine rn_callI (as := []) (k0 := (wn w27)) (r := [.ref (wn w27), .int (2 : Int32), .ref (wn w19), .ref (wn w19), .ref v0]) (v := none) (w1 := p29) (ft174 45 rfl) (by decide +kernel) rfl (Nat.le_of_ble_eq_true rfl) (Nat.le_of_ble_eq_true rfl) (r68 (wn w27) (newC w27 5 (NF 5)) _ q30) ?_
  obtain ⟨w31, q32, h⟩ := ob_some h
  refine rn_aastore (ft174 46 rfl) q32 ?_
  refine rn_dup (ft174 47 rfl) rfl ?_
  refine rn_iconst (v := (3 : Int32)) (ft174 48 rfl) (by decide) ?_
  refine rn_new (ft174 49 rfl) ?_
  refine rn_dup (ft174 50 rfl) rfl ?_
  obtain ⟨p33, q34, h⟩ := ob_some h
  refine rn_callI (as := []) (k0 := (wn w31)) (r := [.ref (wn w31), .int (3 : Int32), .ref (wn w19), .ref (wn w19), .ref v0]) (v := none) (w1 := p33) (ft174 51 rfl) (by decide +kernel) rfl (Nat.le_of_ble_eq_true rfl) (Nat.le_of_ble_eq_true rfl) (r68 (wn w31) (newC w31 5 (NF 5)) _ q34) ?_
  obtain ⟨w35, q36, h⟩ := ob_some h
  refine rn_aastore (ft174 52 rfl) q36 ?_
  obtain ⟨w37, q38, h⟩ := ob_some h
  refine rn_putR (ft174 53 rfl) q38 ?_
  refine rn_aload_n (ft174 54 rfl) rfl ?_
  refine rn_new (ft174 55 rfl) ?_
  refine rn_dup (ft174 56 rfl) rfl ?_
  obtain ⟨p39, q40, h⟩ := ob_some h
  refine rn_callI (as := []) (k0 := (wn w37)) (r := [.ref (wn w37), .ref v0]) (v := none) (w1 := p39) (ft174 57 rfl) (by decide +kernel) rfl (Nat.le_of_ble_eq_true rfl) (Nat.le_of_ble_eq_true rfl) (r68 (wn w37) (newC w37 5 (NF 5)) _ q40) ?_
  obtain ⟨w41, q42, h⟩ := ob_some h
  refine rn_putR (ft174 58 rfl) q42 ?_
  refine rn_aload_n (ft174 59 rfl) rfl ?_
  refine rn_new (ft174 60 rfl) ?_
  refine rn_dup (ft174 61 rfl) rfl ?_
  obtain ⟨p43, q44, h⟩ := ob_some h
  refine rn_callI (as := []) (k0 := (wn w41)) (r := [.ref (wn w41), .ref v0]) (v := none) (w1 := p43) (ft174 62 rfl) (by decide +kernel) rfl (Nat.le_of_ble_eq_true rfl) (Nat.le_of_ble_eq_true rfl) (r69 (wn w41) (newC w41 3 (NF 3)) _ q44) ?_
  obtain ⟨w45, q46, h⟩ := ob_some h
  refine rn_putR (ft174 63 rfl) q46 ?_
  refine rn_aload_n (ft174 64 rfl) rfl ?_
  refine rn_iconst (v := (2 : Int32)) (ft174 65 rfl) (by decide) ?_
  refine rn_anew (ft174 66 rfl) (by decide) ?_
  refine rn_dup (ft174 67 rfl) rfl ?_
  refine rn_iconst (v := (0 : Int32)) (ft174 68 rfl) (by decide) ?_
  refine rn_new (ft174 69 rfl) ?_
  refine rn_dup (ft174 70 rfl) rfl ?_
  obtain ⟨p47, q48, h⟩ := ob_some h
  refine rn_callI (as := []) (k0 := (wn (newC w45 25 (Int32.toNatClampNeg (2 : Int32))))) (r := [.ref (wn (newC w45 25 (Int32.toNatClampNeg (2 : Int32)))), .int (0 : Int32), .ref (wn w45), .ref (wn w45), .ref v0]) (v := none) (w1 := p47) (ft174 71 rfl) (by decide +kernel) rfl (Nat.le_of_ble_eq_true rfl) (Nat.le_of_ble_eq_true rfl) (r69 (wn (newC w45 25 (Int32.toNatClampNeg (2 : Int32)))) (newC (newC w45 25 (Int32.toNatClampNeg (2 : Int32))) 3 (NF 3)) _ q48) ?_
  obtain ⟨w49, q50, h⟩ := ob_some h
  refine rn_aastore (ft174 72 rfl) q50 ?_
  refine rn_dup (ft174 73 rfl) rfl ?_
  refine rn_iconst (v := (1 : Int32)) (ft174 74 rfl) (by decide) ?_
  refine rn_new (ft174 75 rfl) ?_
  refine rn_dup (ft174 76 rfl) rfl ?_
  obtain ⟨p51, q52, h⟩ := ob_some h
  refine rn_callI (as := []) (k0 := (wn w49)) (r := [.ref (wn w49), .int (1 : Int32), .ref (wn w45), .ref (wn w45), .ref v0]) (v := none) (w1 := p51) (ft174 77 rfl) (by decide +kernel) rfl (Nat.le_of_ble_eq_true rfl) (Nat.le_of_ble_eq_true rfl) (r69 (wn w49) (newC w49 3 (NF 3)) _ q52) ?_
  obtain ⟨w53, q54, h⟩ := ob_some h
  refine rn_aastore (ft174 78 rfl) q54 ?_
  obtain ⟨w55, q56, h⟩ := ob_some h
  refine rn_putR (ft174 79 rfl) q56 ?_
  refine rn_aload_n (ft174 80 rfl) rfl ?_
  refine rn_new (ft174 81 rfl) ?_
  refine rn_dup (ft174 82 rfl) rfl ?_
  refine rn_aload_n (ft174 83 rfl) rfl ?_
  obtain ⟨x57, q58, h⟩ := ob_some h
  refine rn_getR (ft174 84 rfl) q58 ?_
  refine rn_aload_n (ft174 85 rfl) rfl ?_
  obtain ⟨x59, q60, h⟩ := ob_some h
  refine rn_getR (ft174 86 rfl) q60 ?_
  obtain ⟨p61, q62, h⟩ := ob_some h
  refine rn_callI (as := [.ref x57, .ref x59]) (k0 := (wn w55)) (r := [.ref (wn w55), .ref v0]) (v := none) (w1 := p61) (ft174 87 rfl) (by decide +kernel) rfl (Nat.le_of_ble_eq_true rfl) (Nat.le_of_ble_eq_true rfl) (r135 (wn w55) x57 x59 (newC w55 2 (NF 2)) _ q62) ?_
  obtain ⟨w63, q64, h⟩ := ob_some h
  refine rn_putR (ft174 88 rfl) q64 ?_
  refine rn_aload_n (ft174 89 rfl) rfl ?_
  refine rn_new (ft174 90 rfl) ?_
  refine rn_dup (ft174 91 rfl) rfl ?_
  refine rn_aload_n (ft174 92 rfl) rfl ?_
  obtain ⟨x65, q66, h⟩ := ob_some h
  refine rn_getR (ft174 93 rfl) q66 ?_
  refine rn_aload_n (ft174 94 rfl) rfl ?_
  obtain ⟨x67, q68, h⟩ := ob_some h
  refine rn_getR (ft174 95 rfl) q68 ?_
  refine rn_aload_n (ft174 96 rfl) rfl ?_
  obtain ⟨x69, q70, h⟩ := ob_some h
  refine rn_getR (ft174 97 rfl) q70 ?_
  obtain ⟨p71, q72, h⟩ := ob_some h
  refine rn_callI (as := [.ref x65, .ref x67, .ref x69]) (k0 := (wn w63)) (r := [.ref (wn w63), .ref v0]) (v := none) (w1 := p71) (ft174 98 rfl) (by decide +kernel) rfl (Nat.le_of_ble_eq_true rfl) (Nat.le_of_ble_eq_true rfl) (r136 (wn w63) x65 x67 x69 (newC w63 0 (NF 0)) _ q72) ?_
  obtain ⟨w73, q74, h⟩ := ob_some h
  refine rn_putR (ft174 99 rfl) q74 ?_
  refine rn_aload_n (ft174 100 rfl) rfl ?_
  refine rn_new (ft174 101 rfl) ?_
  refine rn_dup (ft174 102 rfl) rfl ?_
  refine rn_aload_n (ft174 103 rfl) rfl ?_
  obtain ⟨x75, q76, h⟩ := ob_some h
  refine rn_getR (ft174 104 rfl) q76 ?_
  refine rn_aload_n (ft174 105 rfl) rfl ?_
  obtain ⟨x77, q78, h⟩ := ob_some h
  refine rn_getR (ft174 106 rfl) q78 ?_
  refine rn_aload_n (ft174 107 rfl) rfl ?_
  obtain ⟨x79, q80, h⟩ := ob_some h
  refine rn_getR (ft174 108 rfl) q80 ?_
  refine rn_aload_n (ft174 109 rfl) rfl ?_
  obtain ⟨x81, q82, h⟩ := ob_some h
  refine rn_getR (ft174 110 rfl) q82 ?_
  obtain ⟨p83, q84, h⟩ := ob_some h
  refine rn_callI (as := [.ref x75, .ref x77, .ref x79, .ref x81]) (k0 := (wn w73)) (r := [.ref (wn w73), .ref v0]) (v := none) (w1 := p83) (ft174 111 rfl) (by decide +kernel) rfl (Nat.le_of_ble_eq_true rfl) (Nat.le_of_ble_eq_true rfl) (r137 (wn w73) x75 x77 x79 x81 (newC w73 4 (NF 4)) _ q84) ?_
  obtain ⟨w85, q86, h⟩ := ob_some h
  refine rn_putR (ft174 112 rfl) q86 ?_
  refine rn_aload_n (ft174 113 rfl) rfl ?_
  refine rn_new (ft174 114 rfl) ?_
  refine rn_dup (ft174 115 rfl) rfl ?_
  refine rn_aload_n (ft174 116 rfl) rfl ?_
  obtain ⟨x87, q88, h⟩ := ob_some h
  refine rn_getR (ft174 117 rfl) q88 ?_
  refine rn_aload_n (ft174 118 rfl) rfl ?_
  obtain ⟨x89, q90, h⟩ := ob_some h
  refine rn_getR (ft174 119 rfl) q90 ?_
  obtain ⟨p91, q92, h⟩ := ob_some h
  refine rn_callI (as := [.ref x87, .ref x89]) (k0 := (wn w85)) (r := [.ref (wn w85), .ref v0]) (v := none) (w1 := p91) (ft174 120 rfl) (by decide +kernel) rfl (Nat.le_of_ble_eq_true rfl) (Nat.le_of_ble_eq_true rfl) (r71 (wn w85) x87 x89 (newC w85 1 (NF 1)) _ q92) ?_
  obtain ⟨w93, q94, h⟩ := ob_some h
  refine rn_putR (ft174 121 rfl) q94 ?_
  refine rn_aload_n (ft174 122 rfl) rfl ?_
  refine rn_bipush (v := (6 : Int32)) (ft174 123 rfl) (by decide) ?_
  refine rn_newA (kd := 20) (ft174 124 rfl) rfl (by decide) ?_
  obtain ⟨w95, q96, h⟩ := ob_some h
  refine rn_putR (ft174 125 rfl) q96 ?_
  cases h
  exact rn_vret pr174 (ft174 126 rfl)
/-- java/lang/String.charAt(I)C -/
theorem ft175 : ∀ (i : Nat) {q : Nat × XI}, cd175[i]? = some q → fetch 175 q.1 = some q.2 := ft_of (by decide +kernel)
theorem pr175 : pRt 175 = some .char := rfl
def f175 (v0 : UInt32) (v1 : Int32) (w : Wd) : Option (Int32 × Wd) :=
  (if 16 ≤ UInt32.toNat v0 ∧ UInt32.toNat v0 < 32 then ob (f6 v0 w) (fun p1 => (if p1.1 = 0 then (if 16 ≤ UInt32.toNat v0 ∧ UInt32.toNat v0 < 32 then none else none)
    else (if 16 ≤ UInt32.toNat v0 ∧ UInt32.toNat v0 < 32 then ob (f139 (v0 + 48) v1 p1.2) (fun p5 => (if (p5.1).toUInt32.toUInt16.toUInt32.toInt32 = p5.1 then some (p5.1, p5.2) else none)) else none))) else none)
set_option maxRecDepth 10000 in
theorem r175 {S : Sc} (v0 : UInt32) (v1 : Int32) (w : Wd) (o : (Int32 × Wd)) (h : f175 v0 v1 w = some o) : Rn S 175 0 [some (.float v0), some (.int v1)] [] w (some (.int o.1), o.2) := by
  unfold f175 at h
  refine rn_aload_nS (ft175 0 rfl) rfl ?_
  obtain ⟨g9, h⟩ := ifg h
  obtain ⟨p1, q2, h⟩ := ob_some h
  refine rn_callVS (as := []) (u := v0) (r := []) (v := (some (.int p1.1))) (w1 := p1.2) (ft175 1 rfl) (by decide +kernel) rfl (Nat.le_of_ble_eq_true rfl) (Nat.le_of_ble_eq_true rfl) (r6 v0 w _ q2) (by decide +kernel) g9 ?_
  by_cases c8 : p1.1 = 0
  · replace h := ifp c8 h
    refine rn_if_eq_t (ft175 2 rfl) c8 ?_
    refine rn_aload_nS (ft175 8 rfl) rfl ?_
    obtain ⟨g3, h⟩ := ifg h
    refine rn_getSv (ft175 9 rfl) g3 ?_
    refine rn_iload_n (ft175 10 rfl) rfl ?_
    exact nomatch h
  · replace h := ifn c8 h
    refine rn_if_eq_f (ft175 2 rfl) c8 ?_
    refine rn_aload_nS (ft175 3 rfl) rfl ?_
    obtain ⟨g4, h⟩ := ifg h
    refine rn_getSv (ft175 4 rfl) g4 ?_
    refine rn_iload_n (ft175 5 rfl) rfl ?_
    obtain ⟨p5, q6, h⟩ := ob_some h
    refine rn_callS (as := [.float (v0 + 48), .int v1]) (r := []) (v := (some (.int p5.1))) (w1 := p5.2) (ft175 6 rfl) (by decide +kernel) rfl (Nat.le_of_ble_eq_true rfl) (Nat.le_of_ble_eq_true rfl) (r139 (v0 + 48) v1 p1.2 _ q6) ?_
    obtain ⟨g7, h⟩ := ifg h
    cases h
    exact rn_iretC pr175 g7 (ft175 7 rfl)
/-- NineWheel$SeaReader.rocks()V -/
theorem ft176 : ∀ (i : Nat) {q : Nat × XI}, cd176[i]? = some q → fetch 176 q.1 = some q.2 := ft_of (by decide +kernel)
theorem pr176 : pRt 176 = none := rfl
def f176_J69 (n : Nat) (rec4 : Nat → Int32 → Int32 → Wd → Option Wd) (K4 : Wd → Option Wd) (v0 : Nat) (v2 : Int32) (w : Wd) : Option Wd :=
  ob (getR w 7 v0 0) (fun x13 => (if (wsh w x13).map (fun q => q.1) = some 9 then ob (f141 n x13 (44 : Int32) w) (fun p15 => rec4 v0 p15.1 (v2 + (1 : Int32)) p15.2) else none))
set_option maxRecDepth 10000 in
theorem rf176_J69 {S : Sc} (n : Nat) (rec4 : Nat → Int32 → Int32 → Wd → Option Wd) (K4 : Wd → Option Wd) (v0 : Nat) (v2 : Int32) (w : Wd) (o : Wd) (hrec4 : ∀ (y0 : Nat) (y1 : Int32) (y2 : Int32) (w : Wd) (o : Wd), rec4 y0 y1 y2 w = some o → Rn S 176 4 [some (.ref y0), some (.int y1), some (.int y2), none] [] w (none, o)) (hK4 : ∀  (w : Wd) (o : Wd), K4 w = some o → Rn S 176 85 [none, none, none, none] [] w (none, o)) (h : f176_J69 n rec4 K4 v0 v2 w = some o) : Rn S 176 69 [some (.ref v0), none, some (.int v2), none] [] w (none, o) := by
  unfold f176_J69 at h
  refine rn_aload_n (ft176 35 rfl) rfl ?_
  obtain ⟨x13, q14, h⟩ := ob_some h
  refine rn_getR (ft176 36 rfl) q14 ?_
  refine rn_bipush (v := (44 : Int32)) (ft176 37 rfl) (by decide) ?_
  obtain ⟨g17, h⟩ := ifg h
  obtain ⟨p15, q16, h⟩ := ob_some h
  refine rn_callV (as := [.int (44 : Int32)]) (k0 := x13) (r := []) (v := (some (.int p15.1))) (w1 := p15.2) (ft176 38 rfl) (by decide +kernel) rfl (Nat.le_of_ble_eq_true rfl) (Nat.le_of_ble_eq_true rfl) (r141 n x13 (44 : Int32) w _ q16) (by decide +kernel) g17 ?_
  refine rn_istore_n (ls' := [some (.ref v0), some (.int p15.1), some (.int v2), none]) (ft176 39 rfl) rfl ?_
  refine rn_iinc (u := 1) (ls' := [some (.ref v0), some (.int p15.1), some (.int (v2 + (1 : Int32))), none]) (ft176 40 rfl) rfl (by decide) rfl ?_
  refine rn_goto (ft176 41 rfl) ?_
  exact rn_forget (ls := [some (.ref v0), some (.int p15.1), some (.int (v2 + (1 : Int32))), none]) (And.intro rfl (And.intro rfl (And.intro rfl trivial))) (hrec4 v0 p15.1 (v2 + (1 : Int32)) p15.2 _ h)
def f176_J51 (n : Nat) (rec4 : Nat → Int32 → Int32 → Wd → Option Wd) (K4 : Wd → Option Wd) (v0 : Nat) (v2 : Int32) (v3 : Int32) (w : Wd) : Option Wd :=
  ob (getR w 7 v0 0) (fun x9 => ob (getI w 9 x9 4) (fun x11 => (if ¬ x11 = 0 then f176_J69 n rec4 K4 v0 v2 w
    else ob (getR w 7 v0 1) (fun x18 => (if (wsh w x18).map (fun q => q.1) = some 6 then ob (f77 x18 v3 w) (fun p20 => f176_J69 n rec4 K4 v0 v2 p20) else none)))))
set_option maxRecDepth 10000 in
theorem rf176_J51 {S : Sc} (n : Nat) (rec4 : Nat → Int32 → Int32 → Wd → Option Wd) (K4 : Wd → Option Wd) (v0 : Nat) (v2 : Int32) (v3 : Int32) (w : Wd) (o : Wd) (hrec4 : ∀ (y0 : Nat) (y1 : Int32) (y2 : Int32) (w : Wd) (o : Wd), rec4 y0 y1 y2 w = some o → Rn S 176 4 [some (.ref y0), some (.int y1), some (.int y2), none] [] w (none, o)) (hK4 : ∀  (w : Wd) (o : Wd), K4 w = some o → Rn S 176 85 [none, none, none, none] [] w (none, o)) (h : f176_J51 n rec4 K4 v0 v2 v3 w = some o) : Rn S 176 51 [some (.ref v0), none, some (.int v2), some (.int v3)] [] w (none, o) := by
  unfold f176_J51 at h
  refine rn_aload_n (ft176 27 rfl) rfl ?_
  obtain ⟨x9, q10, h⟩ := ob_some h
  refine rn_getR (ft176 28 rfl) q10 ?_
  obtain ⟨x11, q12, h⟩ := ob_some h
  refine rn_getI (ft176 29 rfl) (by decide) (by decide) q12 ?_
  by_cases c23 : ¬ x11 = 0
  · replace h := ifp c23 h
    refine rn_if_ne_t (ft176 30 rfl) c23 ?_
    exact rn_forget (ls := [some (.ref v0), none, some (.int v2), none]) (And.intro rfl (And.intro rfl trivial)) (rf176_J69 n rec4 K4 v0 v2 w _ hrec4 hK4 h)
  · replace h := ifn c23 h
    refine rn_if_ne_f (ft176 30 rfl) c23 ?_
    refine rn_aload_n (ft176 31 rfl) rfl ?_
    obtain ⟨x18, q19, h⟩ := ob_some h
    refine rn_getR (ft176 32 rfl) q19 ?_
    refine rn_iload_n (ft176 33 rfl) rfl ?_
    obtain ⟨g22, h⟩ := ifg h
    obtain ⟨p20, q21, h⟩ := ob_some h
    refine rn_callV (as := [.int v3]) (k0 := x18) (r := []) (v := none) (w1 := p20) (ft176 34 rfl) (by decide +kernel) rfl (Nat.le_of_ble_eq_true rfl) (Nat.le_of_ble_eq_true rfl) (r77 x18 v3 w _ q21) (by decide +kernel) g22 ?_
    exact rn_forget (ls := [some (.ref v0), none, some (.int v2), none]) (And.intro rfl (And.intro rfl trivial)) (rf176_J69 n rec4 K4 v0 v2 p20 _ hrec4 hK4 h)
def f176_H4 (n : Nat)  (K4 : Wd → Option Wd) : Nat → Nat → Int32 → Int32 → Wd → Option Wd
  | 0, _, _, _, _ => none
  | k + 1, v0, v1, v2, w =>
    (if (64 : Int32) < v2 then K4 w
      else (if v1 = 0 then K4 w
        else ob (getR w 7 v0 0) (fun x1 => (if (wsh w x1).map (fun q => q.1) = some 9 then ob (f140 n x1 (0 : Int32) (63 : Int32) w) (fun p3 => ob (getR p3.2 7 v0 1) (fun x5 => (if (wsh p3.2 x5).map (fun q => q.1) = some 6 then ob (f9 x5 p3.1 p3.2) (fun p7 => (if p7.1 = 0 then f176_J51 n (fun (v0 : Nat) (v1 : Int32) (v2 : Int32) w => f176_H4 n  K4 k v0 v1 v2 w) K4 v0 v2 p3.1 p7.2
          else ob (getR p7.2 7 v0 0) (fun x24 => ob (getR p7.2 7 v0 0) (fun x26 => ob (getI p7.2 9 x26 3) (fun x28 => (if (wsh p7.2 x24).map (fun q => q.1) = some 9 then ob (f8 x24 (4 : Int32) x28 p7.2) (fun p30 => f176_J51 n (fun (v0 : Nat) (v1 : Int32) (v2 : Int32) w => f176_H4 n  K4 k v0 v1 v2 w) K4 v0 v2 p3.1 p30) else none)))))) else none))) else none))))
set_option maxRecDepth 10000 in
theorem rf176_H4 {S : Sc} (n : Nat)  (K4 : Wd → Option Wd)  (hK4 : ∀  (w : Wd) (o : Wd), K4 w = some o → Rn S 176 85 [none, none, none, none] [] w (none, o)) : ∀ (k : Nat) (v0 : Nat) (v1 : Int32) (v2 : Int32) (w : Wd) (o : Wd), f176_H4 n  K4 k v0 v1 v2 w = some o → Rn S 176 4 [some (.ref v0), some (.int v1), some (.int v2), none] [] w (none, o) := by
  intro k
  induction k with
  | zero =>
    intro v0 v1 v2 w o h
    exact nomatch h
  | succ k ih =>
    intro v0 v1 v2 w o h
    have hrec4 : ∀ (y0 : Nat) (y1 : Int32) (y2 : Int32) (w : Wd) (o : Wd), (fun (v0 : Nat) (v1 : Int32) (v2 : Int32) w => f176_H4 n  K4 k v0 v1 v2 w) y0 y1 y2 w = some o → Rn S 176 4 [some (.ref y0), some (.int y1), some (.int y2), none] [] w (none, o) := fun y0 y1 y2 w o h => ih y0 y1 y2 w o h
    unfold f176_H4 at h
    refine rn_iload_n (ft176 4 rfl) rfl ?_
    refine rn_bipush (v := (64 : Int32)) (ft176 5 rfl) (by decide) ?_
    by_cases c37 : (64 : Int32) < v2
    · replace h := ifp c37 h
      refine rn_icmp_gt_t (ft176 6 rfl) c37 ?_
      exact rn_forget (ls := [none, none, none, none]) trivial (hK4 w _ h)
    · replace h := ifn c37 h
      refine rn_icmp_gt_f (ft176 6 rfl) c37 ?_
      refine rn_iload_n (ft176 7 rfl) rfl ?_
      by_cases c36 : v1 = 0
      · replace h := ifp c36 h
        refine rn_if_eq_t (ft176 8 rfl) c36 ?_
        exact rn_forget (ls := [none, none, none, none]) trivial (hK4 w _ h)
      · replace h := ifn c36 h
        refine rn_if_eq_f (ft176 8 rfl) c36 ?_
        refine rn_aload_n (ft176 9 rfl) rfl ?_
        obtain ⟨x1, q2, h⟩ := ob_some h
        refine rn_getR (ft176 10 rfl) q2 ?_
        refine rn_iconst (v := (0 : Int32)) (ft176 11 rfl) (by decide) ?_
        refine rn_bipush (v := (63 : Int32)) (ft176 12 rfl) (by decide) ?_
        obtain ⟨g35, h⟩ := ifg h
        obtain ⟨p3, q4, h⟩ := ob_some h
        refine rn_callV (as := [.int (0 : Int32), .int (63 : Int32)]) (k0 := x1) (r := []) (v := (some (.int p3.1))) (w1 := p3.2) (ft176 13 rfl) (by decide +kernel) rfl (Nat.le_of_ble_eq_true rfl) (Nat.le_of_ble_eq_true rfl) (r140 n x1 (0 : Int32) (63 : Int32) w _ q4) (by decide +kernel) g35 ?_
        refine rn_istore_n (ls' := [some (.ref v0), some (.int v1), some (.int v2), some (.int p3.1)]) (ft176 14 rfl) rfl ?_
        refine rn_aload_n (ft176 15 rfl) rfl ?_
        obtain ⟨x5, q6, h⟩ := ob_some h
        refine rn_getR (ft176 16 rfl) q6 ?_
        refine rn_iload_n (ft176 17 rfl) rfl ?_
        obtain ⟨g34, h⟩ := ifg h
        obtain ⟨p7, q8, h⟩ := ob_some h
        refine rn_callV (as := [.int p3.1]) (k0 := x5) (r := []) (v := (some (.int p7.1))) (w1 := p7.2) (ft176 18 rfl) (by decide +kernel) rfl (Nat.le_of_ble_eq_true rfl) (Nat.le_of_ble_eq_true rfl) (r9 x5 p3.1 p3.2 _ q8) (by decide +kernel) g34 ?_
        by_cases c33 : p7.1 = 0
        · replace h := ifp c33 h
          refine rn_if_eq_t (ft176 19 rfl) c33 ?_
          exact rn_forget (ls := [some (.ref v0), none, some (.int v2), some (.int p3.1)]) (And.intro rfl (And.intro rfl (And.intro rfl trivial))) (rf176_J51 n (fun (v0 : Nat) (v1 : Int32) (v2 : Int32) w => f176_H4 n  K4 k v0 v1 v2 w) K4 v0 v2 p3.1 p7.2 _ hrec4 hK4 h)
        · replace h := ifn c33 h
          refine rn_if_eq_f (ft176 19 rfl) c33 ?_
          refine rn_aload_n (ft176 20 rfl) rfl ?_
          obtain ⟨x24, q25, h⟩ := ob_some h
          refine rn_getR (ft176 21 rfl) q25 ?_
          refine rn_iconst (v := (4 : Int32)) (ft176 22 rfl) (by decide) ?_
          refine rn_aload_n (ft176 23 rfl) rfl ?_
          obtain ⟨x26, q27, h⟩ := ob_some h
          refine rn_getR (ft176 24 rfl) q27 ?_
          obtain ⟨x28, q29, h⟩ := ob_some h
          refine rn_getI (ft176 25 rfl) (by decide) (by decide) q29 ?_
          obtain ⟨g32, h⟩ := ifg h
          obtain ⟨p30, q31, h⟩ := ob_some h
          refine rn_callV (as := [.int (4 : Int32), .int x28]) (k0 := x24) (r := []) (v := none) (w1 := p30) (ft176 26 rfl) (by decide +kernel) rfl (Nat.le_of_ble_eq_true rfl) (Nat.le_of_ble_eq_true rfl) (r8 x24 (4 : Int32) x28 p7.2 _ q31) (by decide +kernel) g32 ?_
          exact rn_forget (ls := [some (.ref v0), none, some (.int v2), some (.int p3.1)]) (And.intro rfl (And.intro rfl (And.intro rfl trivial))) (rf176_J51 n (fun (v0 : Nat) (v1 : Int32) (v2 : Int32) w => f176_H4 n  K4 k v0 v1 v2 w) K4 v0 v2 p3.1 p30 _ hrec4 hK4 h)
def f176 (n : Nat) (v0 : Nat) (w : Wd) : Option Wd :=
  f176_H4 n  (fun  (w38 : Wd) => some w38) n v0 (1 : Int32) (0 : Int32) w
set_option maxRecDepth 10000 in
theorem r176 {S : Sc} (n : Nat) (v0 : Nat) (w : Wd) (o : Wd) (h : f176 n v0 w = some o) : Rn S 176 0 [some (.ref v0), none, none, none] [] w (none, o) := by
  unfold f176 at h
  refine rn_iconst (v := (1 : Int32)) (ft176 0 rfl) (by decide) ?_
  refine rn_istore_n (ls' := [some (.ref v0), some (.int (1 : Int32)), none, none]) (ft176 1 rfl) rfl ?_
  refine rn_iconst (v := (0 : Int32)) (ft176 2 rfl) (by decide) ?_
  refine rn_istore_n (ls' := [some (.ref v0), some (.int (1 : Int32)), some (.int (0 : Int32)), none]) (ft176 3 rfl) rfl ?_
  refine rn_forget (ls := [some (.ref v0), some (.int (1 : Int32)), some (.int (0 : Int32)), none]) (And.intro rfl (And.intro rfl (And.intro rfl trivial))) (rf176_H4 n  _  (fun  w38 o h => ?_) n v0 (1 : Int32) (0 : Int32) w _ h)
  cases h
  exact rn_vret pr176 (ft176 42 rfl)
