/-! THE METHODS AS FUNCTIONS, 11 -/
/-- NineWheelModel.sort(II)I -/
theorem ft165 : ∀ (i : Nat) {q : Nat × XI}, cd165[i]? = some q → fetch 165 q.1 = some q.2 := ft_of (by decide +kernel)
theorem pr165 : pRt 165 = some .int := rfl
def f165 (v0 : Nat) (v1 : Int32) (v2 : Int32) (w : Wd) : Option (Int32 × Wd) :=
  (if (wsh w v0).map (fun q => q.1) = some 11 then ob (f121 v0 v1 w) (fun p1 => (if ¬ p1.1 = 0 then (if v2 = 0 then ob (getR p1.2 11 v0 7) (fun x19 => ob (aldI p1.2 x19 v1) (fun x21 => some (x21, p1.2)))
      else (if v2 = 1 then ob (getR p1.2 11 v0 8) (fun x15 => ob (aldI p1.2 x15 v1) (fun x17 => some (x17, p1.2)))
        else (if v2 = 2 then ob (getR p1.2 11 v0 13) (fun x11 => ob (aldI p1.2 x11 v1) (fun x13 => some (x13, p1.2)))
          else (if v2 = 3 then ob (getR p1.2 11 v0 10) (fun x7 => ob (aldI p1.2 x7 v1) (fun x9 => some (x9, p1.2)))
            else (if v2 = 4 then ob (getR p1.2 11 v0 11) (fun x3 => ob (aldI p1.2 x3 v1) (fun x5 => some (x5, p1.2)))
              else some ((-1000002 : Int32), p1.2))))))
    else some ((-1000001 : Int32), p1.2))) else none)
set_option maxRecDepth 10000 in
theorem r165 {S : Sc} (v0 : Nat) (v1 : Int32) (v2 : Int32) (w : Wd) (o : (Int32 × Wd)) (h : f165 v0 v1 v2 w = some o) : Rn S 165 0 [some (.ref v0), some (.int v1), some (.int v2)] [] w (some (.int o.1), o.2) := by
  unfold f165 at h
  refine rn_aload_n (ft165 0 rfl) rfl ?_
  refine rn_iload_n (ft165 1 rfl) rfl ?_
  obtain ⟨g30, h⟩ := ifg h
  obtain ⟨p1, q2, h⟩ := ob_some h
  refine rn_callV (as := [.int v1]) (k0 := v0) (r := []) (v := (some (.int p1.1))) (w1 := p1.2) (ft165 2 rfl) (by decide +kernel) rfl (Nat.le_of_ble_eq_true rfl) (Nat.le_of_ble_eq_true rfl) (r121 v0 v1 w _ q2) (by decide +kernel) g30 ?_
  by_cases c29 : ¬ p1.1 = 0
  · replace h := ifp c29 h
    refine rn_if_ne_t (ft165 3 rfl) c29 ?_
    refine rn_iload_n (ft165 6 rfl) rfl ?_
    by_cases c23 : v2 = 0
    · replace h := ifp c23 h
      refine rn_sw_i (e := 35) (pc' := 48) (ft165 7 rfl) (by rw [c23]; decide) (by rw [c23]; rfl) (by decide) ?_
      refine rn_aload_n (ft165 8 rfl) rfl ?_
      obtain ⟨x19, q20, h⟩ := ob_some h
      refine rn_getR (ft165 9 rfl) q20 ?_
      refine rn_iload_n (ft165 10 rfl) rfl ?_
      obtain ⟨x21, q22, h⟩ := ob_some h
      refine rn_iaload (ft165 11 rfl) q22 ?_
      cases h
      exact rn_iretI pr165 (ft165 12 rfl)
    · replace h := ifn c23 h
      by_cases c24 : v2 = 1
      · replace h := ifp c24 h
        refine rn_sw_i (e := 42) (pc' := 55) (ft165 7 rfl) (by rw [c24]; decide) (by rw [c24]; rfl) (by decide) ?_
        refine rn_aload_n (ft165 13 rfl) rfl ?_
        obtain ⟨x15, q16, h⟩ := ob_some h
        refine rn_getR (ft165 14 rfl) q16 ?_
        refine rn_iload_n (ft165 15 rfl) rfl ?_
        obtain ⟨x17, q18, h⟩ := ob_some h
        refine rn_iaload (ft165 16 rfl) q18 ?_
        cases h
        exact rn_iretI pr165 (ft165 17 rfl)
      · replace h := ifn c24 h
        by_cases c25 : v2 = 2
        · replace h := ifp c25 h
          refine rn_sw_i (e := 49) (pc' := 62) (ft165 7 rfl) (by rw [c25]; decide) (by rw [c25]; rfl) (by decide) ?_
          refine rn_aload_n (ft165 18 rfl) rfl ?_
          obtain ⟨x11, q12, h⟩ := ob_some h
          refine rn_getR (ft165 19 rfl) q12 ?_
          refine rn_iload_n (ft165 20 rfl) rfl ?_
          obtain ⟨x13, q14, h⟩ := ob_some h
          refine rn_iaload (ft165 21 rfl) q14 ?_
          cases h
          exact rn_iretI pr165 (ft165 22 rfl)
        · replace h := ifn c25 h
          by_cases c26 : v2 = 3
          · replace h := ifp c26 h
            refine rn_sw_i (e := 56) (pc' := 69) (ft165 7 rfl) (by rw [c26]; decide) (by rw [c26]; rfl) (by decide) ?_
            refine rn_aload_n (ft165 23 rfl) rfl ?_
            obtain ⟨x7, q8, h⟩ := ob_some h
            refine rn_getR (ft165 24 rfl) q8 ?_
            refine rn_iload_n (ft165 25 rfl) rfl ?_
            obtain ⟨x9, q10, h⟩ := ob_some h
            refine rn_iaload (ft165 26 rfl) q10 ?_
            cases h
            exact rn_iretI pr165 (ft165 27 rfl)
          · replace h := ifn c26 h
            by_cases c27 : v2 = 4
            · replace h := ifp c27 h
              refine rn_sw_i (e := 63) (pc' := 76) (ft165 7 rfl) (by rw [c27]; decide) (by rw [c27]; rfl) (by decide) ?_
              refine rn_aload_n (ft165 28 rfl) rfl ?_
              obtain ⟨x3, q4, h⟩ := ob_some h
              refine rn_getR (ft165 29 rfl) q4 ?_
              refine rn_iload_n (ft165 30 rfl) rfl ?_
              obtain ⟨x5, q6, h⟩ := ob_some h
              refine rn_iaload (ft165 31 rfl) q6 ?_
              cases h
              exact rn_iretI pr165 (ft165 32 rfl)
            · replace h := ifn c27 h
              have hsw := sw_out (v := v2) (N := 4) (by omega) (fun j hj => by
                have hj2 : j = 0 ∨ j = 1 ∨ j = 2 ∨ j = 3 ∨ j = 4 := by omega
                rcases hj2 with rfl | rfl | rfl | rfl | rfl
                · exact c23
                · exact c24
                · exact c25
                · exact c26
                · exact c27)
              refine rn_sw_d (ft165 7 rfl) hsw (by decide) ?_
              refine rn_ldc (v := (-1000002 : Int32)) (ft165 33 rfl) (by decide) rfl ?_
              cases h
              exact rn_iretI pr165 (ft165 34 rfl)
  · replace h := ifn c29 h
    refine rn_if_ne_f (ft165 3 rfl) c29 ?_
    refine rn_ldcw (v := (-1000001 : Int32)) (ft165 4 rfl) (by decide) ?_
    cases h
    exact rn_iretI pr165 (ft165 5 rfl)
/-- NineWheelModel.stepTo(IIII)I -/
theorem ft166 : ∀ (i : Nat) {q : Nat × XI}, cd166[i]? = some q → fetch 166 q.1 = some q.2 := ft_of (by decide +kernel)
theorem pr166 : pRt 166 = some .int := rfl
def f166_J35  (v0 : Nat) (v5 : Int32) (s0 : Int32) (w : Wd) : Option (Int32 × Wd) :=
  (if s0 = 0 then some (v5, w)
    else ob (getR w 11 v0 2) (fun x7 => ob (aldB w x7 v5) (fun x9 => (if ¬ x9 = 0 then some (v5, w)
      else ob (getI w 11 v0 3) (fun x11 => ob (f123 v5 x11 w) (fun p13 => some (p13.1, p13.2)))))))
set_option maxRecDepth 10000 in
theorem rf166_J35 {S : Sc}  (v0 : Nat) (v5 : Int32) (s0 : Int32) (w : Wd) (o : (Int32 × Wd))  (h : f166_J35  v0 v5 s0 w = some o) : Rn S 166 35 [some (.ref v0), none, none, none, none, some (.int v5), none] [.int s0] w (some (.int o.1), o.2) := by
  unfold f166_J35 at h
  refine rn_istore (ls' := [some (.ref v0), none, none, none, none, some (.int v5), some (.int s0)]) (ft166 19 rfl) rfl ?_
  refine rn_iload (ft166 20 rfl) rfl ?_
  by_cases c16 : s0 = 0
  · replace h := ifp c16 h
    refine rn_if_eq_t (ft166 21 rfl) c16 ?_
    refine rn_iload (ft166 32 rfl) rfl ?_
    cases h
    exact rn_iretI pr166 (ft166 33 rfl)
  · replace h := ifn c16 h
    refine rn_if_eq_f (ft166 21 rfl) c16 ?_
    refine rn_aload_n (ft166 22 rfl) rfl ?_
    obtain ⟨x7, q8, h⟩ := ob_some h
    refine rn_getR (ft166 23 rfl) q8 ?_
    refine rn_iload (ft166 24 rfl) rfl ?_
    obtain ⟨x9, q10, h⟩ := ob_some h
    refine rn_baload (ft166 25 rfl) q10 ?_
    by_cases c15 : ¬ x9 = 0
    · replace h := ifp c15 h
      refine rn_if_ne_t (ft166 26 rfl) c15 ?_
      refine rn_iload (ft166 32 rfl) rfl ?_
      cases h
      exact rn_iretI pr166 (ft166 33 rfl)
    · replace h := ifn c15 h
      refine rn_if_ne_f (ft166 26 rfl) c15 ?_
      refine rn_iload (ft166 27 rfl) rfl ?_
      refine rn_aload_n (ft166 28 rfl) rfl ?_
      obtain ⟨x11, q12, h⟩ := ob_some h
      refine rn_getI (ft166 29 rfl) (by decide) (by decide) q12 ?_
      obtain ⟨p13, q14, h⟩ := ob_some h
      refine rn_callS (as := [.int v5, .int x11]) (r := []) (v := (some (.int p13.1))) (w1 := p13.2) (ft166 30 rfl) (by decide +kernel) rfl (Nat.le_of_ble_eq_true rfl) (Nat.le_of_ble_eq_true rfl) (r123 v5 x11 w _ q14) ?_
      refine rn_goto (ft166 31 rfl) ?_
      cases h
      exact rn_iretI pr166 (ft166 33 rfl)
def f166 (v0 : Nat) (v1 : Int32) (v2 : Int32) (v3 : Int32) (v4 : Int32) (w : Wd) : Option (Int32 × Wd) :=
  ob (f51 v2 v4 w) (fun p1 => ob (f123 v1 p1.1 p1.2) (fun p3 => ob (getI p3.2 11 v0 4) (fun x5 => (if x5 ≤ 0 then f166_J35  v0 p3.1 (0 : Int32) p3.2
    else ob (getI p3.2 11 v0 4) (fun x17 => (if ¬ x17 = 0 then (if ¬ (irm (v3 + (1 : Int32)) x17) = 0 then f166_J35  v0 p3.1 (0 : Int32) p3.2
      else f166_J35  v0 p3.1 (1 : Int32) p3.2) else none))))))
set_option maxRecDepth 10000 in
theorem r166 {S : Sc} (v0 : Nat) (v1 : Int32) (v2 : Int32) (v3 : Int32) (v4 : Int32) (w : Wd) (o : (Int32 × Wd)) (h : f166 v0 v1 v2 v3 v4 w = some o) : Rn S 166 0 [some (.ref v0), some (.int v1), some (.int v2), some (.int v3), some (.int v4), none, none] [] w (some (.int o.1), o.2) := by
  unfold f166 at h
  refine rn_iload_n (ft166 0 rfl) rfl ?_
  refine rn_iload_n (ft166 1 rfl) rfl ?_
  refine rn_iload (ft166 2 rfl) rfl ?_
  obtain ⟨p1, q2, h⟩ := ob_some h
  refine rn_callS (as := [.int v2, .int v4]) (r := [.int v1]) (v := (some (.int p1.1))) (w1 := p1.2) (ft166 3 rfl) (by decide +kernel) rfl (Nat.le_of_ble_eq_true rfl) (Nat.le_of_ble_eq_true rfl) (r51 v2 v4 w _ q2) ?_
  obtain ⟨p3, q4, h⟩ := ob_some h
  refine rn_callS (as := [.int v1, .int p1.1]) (r := []) (v := (some (.int p3.1))) (w1 := p3.2) (ft166 4 rfl) (by decide +kernel) rfl (Nat.le_of_ble_eq_true rfl) (Nat.le_of_ble_eq_true rfl) (r123 v1 p1.1 p1.2 _ q4) ?_
  refine rn_istore (ls' := [some (.ref v0), some (.int v1), some (.int v2), some (.int v3), some (.int v4), some (.int p3.1), none]) (ft166 5 rfl) rfl ?_
  refine rn_aload_n (ft166 6 rfl) rfl ?_
  obtain ⟨x5, q6, h⟩ := ob_some h
  refine rn_getI (ft166 7 rfl) (by decide) (by decide) q6 ?_
  by_cases c21 : x5 ≤ 0
  · replace h := ifp c21 h
    refine rn_if_le_t (ft166 8 rfl) c21 ?_
    refine rn_iconst (v := (0 : Int32)) (ft166 18 rfl) (by decide) ?_
    exact rn_forget (ls := [some (.ref v0), none, none, none, none, some (.int p3.1), none]) (And.intro rfl (And.intro rfl trivial)) (rf166_J35  v0 p3.1 (0 : Int32) p3.2 _  h)
  · replace h := ifn c21 h
    refine rn_if_le_f (ft166 8 rfl) c21 ?_
    refine rn_iload_n (ft166 9 rfl) rfl ?_
    refine rn_iconst (v := (1 : Int32)) (ft166 10 rfl) (by decide) ?_
    refine rn_iadd (ft166 11 rfl) ?_
    refine rn_aload_n (ft166 12 rfl) rfl ?_
    obtain ⟨x17, q18, h⟩ := ob_some h
    refine rn_getI (ft166 13 rfl) (by decide) (by decide) q18 ?_
    obtain ⟨g20, h⟩ := ifg h
    refine rn_irem (ft166 14 rfl) g20 ?_
    by_cases c19 : ¬ (irm (v3 + (1 : Int32)) x17) = 0
    · replace h := ifp c19 h
      refine rn_if_ne_t (ft166 15 rfl) c19 ?_
      refine rn_iconst (v := (0 : Int32)) (ft166 18 rfl) (by decide) ?_
      exact rn_forget (ls := [some (.ref v0), none, none, none, none, some (.int p3.1), none]) (And.intro rfl (And.intro rfl trivial)) (rf166_J35  v0 p3.1 (0 : Int32) p3.2 _  h)
    · replace h := ifn c19 h
      refine rn_if_ne_f (ft166 15 rfl) c19 ?_
      refine rn_iconst (v := (1 : Int32)) (ft166 16 rfl) (by decide) ?_
      refine rn_goto (ft166 17 rfl) ?_
      exact rn_forget (ls := [some (.ref v0), none, none, none, none, some (.int p3.1), none]) (And.intro rfl (And.intro rfl trivial)) (rf166_J35  v0 p3.1 (1 : Int32) p3.2 _  h)
/-- NineWheelModel.way(III)I -/
theorem ft167 : ∀ (i : Nat) {q : Nat × XI}, cd167[i]? = some q → fetch 167 q.1 = some q.2 := ft_of (by decide +kernel)
theorem pr167 : pRt 167 = some .int := rfl
def f167_J57  (v0 : Nat) (v1 : Int32) (v2 : Int32) (v3 : Int32) (s0 : Int32) (w : Wd) : Option (Int32 × Wd) :=
  ob (f40 (Int32.toInt64 v2) (0 : Int64) (4 : Int64) w) (fun p3 => (if p3.1 = 0 then some ((-1000002 : Int32), p3.2)
    else (if ¬ s0 = 0 then ob (getR p3.2 11 v0 10) (fun x5 => ob (aldI p3.2 x5 v1) (fun x7 => ob (getR p3.2 11 v0 10) (fun x9 => ob (astI p3.2 x9 v1 v2) (fun w11 => ob (getR w11 11 v0 11) (fun x13 => ob (astI w11 x13 v1 v3) (fun w15 => ob (putZ w15 11 v0 34 (0 : Int32)) (fun w17 => some (x7, w17))))))))
      else some ((-1000002 : Int32), p3.2))))
set_option maxRecDepth 10000 in
theorem rf167_J57 {S : Sc}  (v0 : Nat) (v1 : Int32) (v2 : Int32) (v3 : Int32) (s0 : Int32) (w : Wd) (o : (Int32 × Wd))  (h : f167_J57  v0 v1 v2 v3 s0 w = some o) : Rn S 167 57 [some (.ref v0), some (.int v1), some (.int v2), some (.int v3), none, none] [.int s0] w (some (.int o.1), o.2) := by
  unfold f167_J57 at h
  refine rn_istore (ls' := [some (.ref v0), some (.int v1), some (.int v2), some (.int v3), some (.int s0), none]) (ft167 29 rfl) rfl ?_
  refine rn_iload_n (ft167 30 rfl) rfl ?_
  refine rn_i2l (ft167 31 rfl) ?_
  refine rn_lconst (v := (0 : Int64)) (ft167 32 rfl) (by decide) ?_
  refine rn_ldc2 (v := (4 : Int64)) (ft167 33 rfl) (by decide) ?_
  obtain ⟨p3, q4, h⟩ := ob_some h
  refine rn_callS (as := [.long (Int32.toInt64 v2), .long (0 : Int64), .long (4 : Int64)]) (r := []) (v := (some (.int p3.1))) (w1 := p3.2) (ft167 34 rfl) (by decide +kernel) rfl (Nat.le_of_ble_eq_true rfl) (Nat.le_of_ble_eq_true rfl) (r40 (Int32.toInt64 v2) (0 : Int64) (4 : Int64) w _ q4) ?_
  by_cases c20 : p3.1 = 0
  · replace h := ifp c20 h
    refine rn_if_eq_t (ft167 35 rfl) c20 ?_
    refine rn_ldc (v := (-1000002 : Int32)) (ft167 38 rfl) (by decide) rfl ?_
    cases h
    exact rn_iretI pr167 (ft167 39 rfl)
  · replace h := ifn c20 h
    refine rn_if_eq_f (ft167 35 rfl) c20 ?_
    refine rn_iload (ft167 36 rfl) rfl ?_
    by_cases c19 : ¬ s0 = 0
    · replace h := ifp c19 h
      refine rn_if_ne_t (ft167 37 rfl) c19 ?_
      refine rn_aload_n (ft167 40 rfl) rfl ?_
      obtain ⟨x5, q6, h⟩ := ob_some h
      refine rn_getR (ft167 41 rfl) q6 ?_
      refine rn_iload_n (ft167 42 rfl) rfl ?_
      obtain ⟨x7, q8, h⟩ := ob_some h
      refine rn_iaload (ft167 43 rfl) q8 ?_
      refine rn_istore (ls' := [some (.ref v0), some (.int v1), some (.int v2), some (.int v3), some (.int s0), some (.int x7)]) (ft167 44 rfl) rfl ?_
      refine rn_aload_n (ft167 45 rfl) rfl ?_
      obtain ⟨x9, q10, h⟩ := ob_some h
      refine rn_getR (ft167 46 rfl) q10 ?_
      refine rn_iload_n (ft167 47 rfl) rfl ?_
      refine rn_iload_n (ft167 48 rfl) rfl ?_
      obtain ⟨w11, q12, h⟩ := ob_some h
      refine rn_iastore (ft167 49 rfl) q12 ?_
      refine rn_aload_n (ft167 50 rfl) rfl ?_
      obtain ⟨x13, q14, h⟩ := ob_some h
      refine rn_getR (ft167 51 rfl) q14 ?_
      refine rn_iload_n (ft167 52 rfl) rfl ?_
      refine rn_iload_n (ft167 53 rfl) rfl ?_
      obtain ⟨w15, q16, h⟩ := ob_some h
      refine rn_iastore (ft167 54 rfl) q16 ?_
      refine rn_aload_n (ft167 55 rfl) rfl ?_
      refine rn_iconst (v := (0 : Int32)) (ft167 56 rfl) (by decide) ?_
      obtain ⟨w17, q18, h⟩ := ob_some h
      refine rn_putZ (ft167 57 rfl) q18 ?_
      refine rn_iload (ft167 58 rfl) rfl ?_
      cases h
      exact rn_iretI pr167 (ft167 59 rfl)
    · replace h := ifn c19 h
      refine rn_if_ne_f (ft167 37 rfl) c19 ?_
      refine rn_ldc (v := (-1000002 : Int32)) (ft167 38 rfl) (by decide) rfl ?_
      cases h
      exact rn_iretI pr167 (ft167 39 rfl)
def f167 (v0 : Nat) (v1 : Int32) (v2 : Int32) (v3 : Int32) (w : Wd) : Option (Int32 × Wd) :=
  (if (wsh w v0).map (fun q => q.1) = some 11 then ob (f121 v0 v1 w) (fun p1 => (if ¬ p1.1 = 0 then (if ¬ v2 = (2 : Int32) then (if ¬ v2 = (4 : Int32) then (if ¬ v3 = 0 then f167_J57  v0 v1 v2 v3 (0 : Int32) p1.2
          else f167_J57  v0 v1 v2 v3 (1 : Int32) p1.2)
        else ob (f40 (Int32.toInt64 v3) (-2 : Int64) (2 : Int64) p1.2) (fun p22 => f167_J57  v0 v1 v2 v3 p22.1 p22.2))
      else ob (f40 (Int32.toInt64 v3) (1 : Int64) (4 : Int64) p1.2) (fun p25 => f167_J57  v0 v1 v2 v3 p25.1 p25.2))
    else some ((-1000001 : Int32), p1.2))) else none)
set_option maxRecDepth 10000 in
theorem r167 {S : Sc} (v0 : Nat) (v1 : Int32) (v2 : Int32) (v3 : Int32) (w : Wd) (o : (Int32 × Wd)) (h : f167 v0 v1 v2 v3 w = some o) : Rn S 167 0 [some (.ref v0), some (.int v1), some (.int v2), some (.int v3), none, none] [] w (some (.int o.1), o.2) := by
  unfold f167 at h
  refine rn_aload_n (ft167 0 rfl) rfl ?_
  refine rn_iload_n (ft167 1 rfl) rfl ?_
  obtain ⟨g29, h⟩ := ifg h
  obtain ⟨p1, q2, h⟩ := ob_some h
  refine rn_callV (as := [.int v1]) (k0 := v0) (r := []) (v := (some (.int p1.1))) (w1 := p1.2) (ft167 2 rfl) (by decide +kernel) rfl (Nat.le_of_ble_eq_true rfl) (Nat.le_of_ble_eq_true rfl) (r121 v0 v1 w _ q2) (by decide +kernel) g29 ?_
  by_cases c28 : ¬ p1.1 = 0
  · replace h := ifp c28 h
    refine rn_if_ne_t (ft167 3 rfl) c28 ?_
    refine rn_iload_n (ft167 6 rfl) rfl ?_
    refine rn_iconst (v := (2 : Int32)) (ft167 7 rfl) (by decide) ?_
    by_cases c27 : ¬ v2 = (2 : Int32)
    · replace h := ifp c27 h
      refine rn_icmp_ne_t (ft167 8 rfl) c27 ?_
      refine rn_iload_n (ft167 15 rfl) rfl ?_
      refine rn_iconst (v := (4 : Int32)) (ft167 16 rfl) (by decide) ?_
      by_cases c24 : ¬ v2 = (4 : Int32)
      · replace h := ifp c24 h
        refine rn_icmp_ne_t (ft167 17 rfl) c24 ?_
        refine rn_iload_n (ft167 24 rfl) rfl ?_
        by_cases c21 : ¬ v3 = 0
        · replace h := ifp c21 h
          refine rn_if_ne_t (ft167 25 rfl) c21 ?_
          refine rn_iconst (v := (0 : Int32)) (ft167 28 rfl) (by decide) ?_
          exact rn_forget (ls := [some (.ref v0), some (.int v1), some (.int v2), some (.int v3), none, none]) (And.intro rfl (And.intro rfl (And.intro rfl (And.intro rfl trivial)))) (rf167_J57  v0 v1 v2 v3 (0 : Int32) p1.2 _  h)
        · replace h := ifn c21 h
          refine rn_if_ne_f (ft167 25 rfl) c21 ?_
          refine rn_iconst (v := (1 : Int32)) (ft167 26 rfl) (by decide) ?_
          refine rn_goto (ft167 27 rfl) ?_
          exact rn_forget (ls := [some (.ref v0), some (.int v1), some (.int v2), some (.int v3), none, none]) (And.intro rfl (And.intro rfl (And.intro rfl (And.intro rfl trivial)))) (rf167_J57  v0 v1 v2 v3 (1 : Int32) p1.2 _  h)
      · replace h := ifn c24 h
        refine rn_icmp_ne_f (ft167 17 rfl) c24 ?_
        refine rn_iload_n (ft167 18 rfl) rfl ?_
        refine rn_i2l (ft167 19 rfl) ?_
        refine rn_ldc2 (v := (-2 : Int64)) (ft167 20 rfl) (by decide) ?_
        refine rn_ldc2 (v := (2 : Int64)) (ft167 21 rfl) (by decide) ?_
        obtain ⟨p22, q23, h⟩ := ob_some h
        refine rn_callS (as := [.long (Int32.toInt64 v3), .long (-2 : Int64), .long (2 : Int64)]) (r := []) (v := (some (.int p22.1))) (w1 := p22.2) (ft167 22 rfl) (by decide +kernel) rfl (Nat.le_of_ble_eq_true rfl) (Nat.le_of_ble_eq_true rfl) (r40 (Int32.toInt64 v3) (-2 : Int64) (2 : Int64) p1.2 _ q23) ?_
        refine rn_goto (ft167 23 rfl) ?_
        exact rn_forget (ls := [some (.ref v0), some (.int v1), some (.int v2), some (.int v3), none, none]) (And.intro rfl (And.intro rfl (And.intro rfl (And.intro rfl trivial)))) (rf167_J57  v0 v1 v2 v3 p22.1 p22.2 _  h)
    · replace h := ifn c27 h
      refine rn_icmp_ne_f (ft167 8 rfl) c27 ?_
      refine rn_iload_n (ft167 9 rfl) rfl ?_
      refine rn_i2l (ft167 10 rfl) ?_
      refine rn_lconst (v := (1 : Int64)) (ft167 11 rfl) (by decide) ?_
      refine rn_ldc2 (v := (4 : Int64)) (ft167 12 rfl) (by decide) ?_
      obtain ⟨p25, q26, h⟩ := ob_some h
      refine rn_callS (as := [.long (Int32.toInt64 v3), .long (1 : Int64), .long (4 : Int64)]) (r := []) (v := (some (.int p25.1))) (w1 := p25.2) (ft167 13 rfl) (by decide +kernel) rfl (Nat.le_of_ble_eq_true rfl) (Nat.le_of_ble_eq_true rfl) (r40 (Int32.toInt64 v3) (1 : Int64) (4 : Int64) p1.2 _ q26) ?_
      refine rn_goto (ft167 14 rfl) ?_
      exact rn_forget (ls := [some (.ref v0), some (.int v1), some (.int v2), some (.int v3), none, none]) (And.intro rfl (And.intro rfl (And.intro rfl (And.intro rfl trivial)))) (rf167_J57  v0 v1 v2 v3 p25.1 p25.2 _  h)
  · replace h := ifn c28 h
    refine rn_if_ne_f (ft167 3 rfl) c28 ?_
    refine rn_ldcw (v := (-1000001 : Int32)) (ft167 4 rfl) (by decide) ?_
    cases h
    exact rn_iretI pr167 (ft167 5 rfl)
/-- NineWheelModel.plain(III)I -/
theorem ft168 : ∀ (i : Nat) {q : Nat × XI}, cd168[i]? = some q → fetch 168 q.1 = some q.2 := ft_of (by decide +kernel)
theorem pr168 : pRt 168 = some .int := rfl
def f168_J89 (n : Nat) (rec6 : Nat → Int32 → Int32 → Int32 → Int32 → Int32 → Int32 → Wd → Option (Int32 × Wd)) (K6 : Int32 → Wd → Option (Int32 × Wd)) (v0 : Nat) (v1 : Int32) (v2 : Int32) (v3 : Int32) (v5 : Int32) (v6 : Int32) (v8 : Int32) (s0 : Int32) (w : Wd) : Option (Int32 × Wd) :=
  (if v6 = 0 then rec6 v0 v1 v2 v3 s0 v8 (v6 + (1 : Int32)) w
    else (if v5 ≤ v8 then rec6 v0 v1 v2 v3 s0 v5 (v6 + (1 : Int32)) w
      else rec6 v0 v1 v2 v3 s0 v8 (v6 + (1 : Int32)) w))
set_option maxRecDepth 10000 in
theorem rf168_J89 {S : Sc} (n : Nat) (rec6 : Nat → Int32 → Int32 → Int32 → Int32 → Int32 → Int32 → Wd → Option (Int32 × Wd)) (K6 : Int32 → Wd → Option (Int32 × Wd)) (v0 : Nat) (v1 : Int32) (v2 : Int32) (v3 : Int32) (v5 : Int32) (v6 : Int32) (v8 : Int32) (s0 : Int32) (w : Wd) (o : (Int32 × Wd)) (hrec6 : ∀ (y0 : Nat) (y1 : Int32) (y2 : Int32) (y3 : Int32) (y4 : Int32) (y5 : Int32) (y6 : Int32) (w : Wd) (o : (Int32 × Wd)), rec6 y0 y1 y2 y3 y4 y5 y6 w = some o → Rn S 168 9 [some (.ref y0), some (.int y1), some (.int y2), some (.int y3), some (.int y4), some (.int y5), some (.int y6), none, none] [] w (some (.int o.1), o.2)) (hK6 : ∀ (y4 : Int32) (w : Wd) (o : (Int32 × Wd)), K6 y4 w = some o → Rn S 168 118 [none, none, none, none, some (.int y4), none, none, none, none] [] w (some (.int o.1), o.2)) (h : f168_J89 n rec6 K6 v0 v1 v2 v3 v5 v6 v8 s0 w = some o) : Rn S 168 89 [some (.ref v0), some (.int v1), some (.int v2), some (.int v3), none, some (.int v5), some (.int v6), none, some (.int v8)] [.int s0] w (some (.int o.1), o.2) := by
  unfold f168_J89 at h
  refine rn_istore (ls' := [some (.ref v0), some (.int v1), some (.int v2), some (.int v3), some (.int s0), some (.int v5), some (.int v6), none, some (.int v8)]) (ft168 44 rfl) rfl ?_
  refine rn_iload (ft168 45 rfl) rfl ?_
  by_cases c24 : v6 = 0
  · replace h := ifp c24 h
    refine rn_if_eq_t (ft168 46 rfl) c24 ?_
    refine rn_iload (ft168 50 rfl) rfl ?_
    refine rn_goto (ft168 51 rfl) ?_
    refine rn_istore (ls' := [some (.ref v0), some (.int v1), some (.int v2), some (.int v3), some (.int s0), some (.int v8), some (.int v6), none, some (.int v8)]) (ft168 53 rfl) rfl ?_
    refine rn_iinc (u := 1) (ls' := [some (.ref v0), some (.int v1), some (.int v2), some (.int v3), some (.int s0), some (.int v8), some (.int (v6 + (1 : Int32))), none, some (.int v8)]) (ft168 54 rfl) rfl (by decide) rfl ?_
    refine rn_goto (ft168 55 rfl) ?_
    exact rn_forget (ls := [some (.ref v0), some (.int v1), some (.int v2), some (.int v3), some (.int s0), some (.int v8), some (.int (v6 + (1 : Int32))), none, none]) (And.intro rfl (And.intro rfl (And.intro rfl (And.intro rfl (And.intro rfl (And.intro rfl (And.intro rfl trivial))))))) (hrec6 v0 v1 v2 v3 s0 v8 (v6 + (1 : Int32)) w _ h)
  · replace h := ifn c24 h
    refine rn_if_eq_f (ft168 46 rfl) c24 ?_
    refine rn_iload (ft168 47 rfl) rfl ?_
    refine rn_iload (ft168 48 rfl) rfl ?_
    by_cases c23 : v5 ≤ v8
    · replace h := ifp c23 h
      refine rn_icmp_ge_t (ft168 49 rfl) c23 ?_
      refine rn_iload (ft168 52 rfl) rfl ?_
      refine rn_istore (ls' := [some (.ref v0), some (.int v1), some (.int v2), some (.int v3), some (.int s0), some (.int v5), some (.int v6), none, some (.int v8)]) (ft168 53 rfl) rfl ?_
      refine rn_iinc (u := 1) (ls' := [some (.ref v0), some (.int v1), some (.int v2), some (.int v3), some (.int s0), some (.int v5), some (.int (v6 + (1 : Int32))), none, some (.int v8)]) (ft168 54 rfl) rfl (by decide) rfl ?_
      refine rn_goto (ft168 55 rfl) ?_
      exact rn_forget (ls := [some (.ref v0), some (.int v1), some (.int v2), some (.int v3), some (.int s0), some (.int v5), some (.int (v6 + (1 : Int32))), none, none]) (And.intro rfl (And.intro rfl (And.intro rfl (And.intro rfl (And.intro rfl (And.intro rfl (And.intro rfl trivial))))))) (hrec6 v0 v1 v2 v3 s0 v5 (v6 + (1 : Int32)) w _ h)
    · replace h := ifn c23 h
      refine rn_icmp_ge_f (ft168 49 rfl) c23 ?_
      refine rn_iload (ft168 50 rfl) rfl ?_
      refine rn_goto (ft168 51 rfl) ?_
      refine rn_istore (ls' := [some (.ref v0), some (.int v1), some (.int v2), some (.int v3), some (.int s0), some (.int v8), some (.int v6), none, some (.int v8)]) (ft168 53 rfl) rfl ?_
      refine rn_iinc (u := 1) (ls' := [some (.ref v0), some (.int v1), some (.int v2), some (.int v3), some (.int s0), some (.int v8), some (.int (v6 + (1 : Int32))), none, some (.int v8)]) (ft168 54 rfl) rfl (by decide) rfl ?_
      refine rn_goto (ft168 55 rfl) ?_
      exact rn_forget (ls := [some (.ref v0), some (.int v1), some (.int v2), some (.int v3), some (.int s0), some (.int v8), some (.int (v6 + (1 : Int32))), none, none]) (And.intro rfl (And.intro rfl (And.intro rfl (And.intro rfl (And.intro rfl (And.intro rfl (And.intro rfl trivial))))))) (hrec6 v0 v1 v2 v3 s0 v8 (v6 + (1 : Int32)) w _ h)
def f168_J79 (n : Nat) (rec6 : Nat → Int32 → Int32 → Int32 → Int32 → Int32 → Int32 → Wd → Option (Int32 × Wd)) (K6 : Int32 → Wd → Option (Int32 × Wd)) (v0 : Nat) (v1 : Int32) (v2 : Int32) (v3 : Int32) (v5 : Int32) (v6 : Int32) (v8 : Int32) (w : Wd) : Option (Int32 × Wd) :=
  ob (f52 v6 w) (fun p21 => f168_J89 n rec6 K6 v0 v1 v2 v3 v5 v6 v8 p21.1 p21.2)
set_option maxRecDepth 10000 in
theorem rf168_J79 {S : Sc} (n : Nat) (rec6 : Nat → Int32 → Int32 → Int32 → Int32 → Int32 → Int32 → Wd → Option (Int32 × Wd)) (K6 : Int32 → Wd → Option (Int32 × Wd)) (v0 : Nat) (v1 : Int32) (v2 : Int32) (v3 : Int32) (v5 : Int32) (v6 : Int32) (v8 : Int32) (w : Wd) (o : (Int32 × Wd)) (hrec6 : ∀ (y0 : Nat) (y1 : Int32) (y2 : Int32) (y3 : Int32) (y4 : Int32) (y5 : Int32) (y6 : Int32) (w : Wd) (o : (Int32 × Wd)), rec6 y0 y1 y2 y3 y4 y5 y6 w = some o → Rn S 168 9 [some (.ref y0), some (.int y1), some (.int y2), some (.int y3), some (.int y4), some (.int y5), some (.int y6), none, none] [] w (some (.int o.1), o.2)) (hK6 : ∀ (y4 : Int32) (w : Wd) (o : (Int32 × Wd)), K6 y4 w = some o → Rn S 168 118 [none, none, none, none, some (.int y4), none, none, none, none] [] w (some (.int o.1), o.2)) (h : f168_J79 n rec6 K6 v0 v1 v2 v3 v5 v6 v8 w = some o) : Rn S 168 79 [some (.ref v0), some (.int v1), some (.int v2), some (.int v3), none, some (.int v5), some (.int v6), none, some (.int v8)] [] w (some (.int o.1), o.2) := by
  unfold f168_J79 at h
  refine rn_iload (ft168 40 rfl) rfl ?_
  obtain ⟨p21, q22, h⟩ := ob_some h
  refine rn_callS (as := [.int v6]) (r := []) (v := (some (.int p21.1))) (w1 := p21.2) (ft168 41 rfl) (by decide +kernel) rfl (Nat.le_of_ble_eq_true rfl) (Nat.le_of_ble_eq_true rfl) (r52 v6 w _ q22) ?_
  refine rn_goto (ft168 42 rfl) ?_
  exact rn_forget (ls := [some (.ref v0), some (.int v1), some (.int v2), some (.int v3), none, some (.int v5), some (.int v6), none, some (.int v8)]) (And.intro rfl (And.intro rfl (And.intro rfl (And.intro rfl (And.intro rfl (And.intro rfl (And.intro rfl trivial))))))) (rf168_J89 n rec6 K6 v0 v1 v2 v3 v5 v6 v8 p21.1 p21.2 _ hrec6 hK6 h)
def f168_J65 (n : Nat) (rec6 : Nat → Int32 → Int32 → Int32 → Int32 → Int32 → Int32 → Wd → Option (Int32 × Wd)) (K6 : Int32 → Wd → Option (Int32 × Wd)) (v0 : Nat) (v1 : Int32) (v2 : Int32) (v3 : Int32) (v4 : Int32) (v5 : Int32) (v6 : Int32) (s0 : Int32) (w : Wd) : Option (Int32 × Wd) :=
  (if v6 = 0 then f168_J79 n rec6 K6 v0 v1 v2 v3 v5 v6 s0 w
    else (if v5 ≤ s0 then f168_J89 n rec6 K6 v0 v1 v2 v3 v5 v6 s0 v4 w
      else f168_J79 n rec6 K6 v0 v1 v2 v3 v5 v6 s0 w))
set_option maxRecDepth 10000 in
theorem rf168_J65 {S : Sc} (n : Nat) (rec6 : Nat → Int32 → Int32 → Int32 → Int32 → Int32 → Int32 → Wd → Option (Int32 × Wd)) (K6 : Int32 → Wd → Option (Int32 × Wd)) (v0 : Nat) (v1 : Int32) (v2 : Int32) (v3 : Int32) (v4 : Int32) (v5 : Int32) (v6 : Int32) (s0 : Int32) (w : Wd) (o : (Int32 × Wd)) (hrec6 : ∀ (y0 : Nat) (y1 : Int32) (y2 : Int32) (y3 : Int32) (y4 : Int32) (y5 : Int32) (y6 : Int32) (w : Wd) (o : (Int32 × Wd)), rec6 y0 y1 y2 y3 y4 y5 y6 w = some o → Rn S 168 9 [some (.ref y0), some (.int y1), some (.int y2), some (.int y3), some (.int y4), some (.int y5), some (.int y6), none, none] [] w (some (.int o.1), o.2)) (hK6 : ∀ (y4 : Int32) (w : Wd) (o : (Int32 × Wd)), K6 y4 w = some o → Rn S 168 118 [none, none, none, none, some (.int y4), none, none, none, none] [] w (some (.int o.1), o.2)) (h : f168_J65 n rec6 K6 v0 v1 v2 v3 v4 v5 v6 s0 w = some o) : Rn S 168 65 [some (.ref v0), some (.int v1), some (.int v2), some (.int v3), some (.int v4), some (.int v5), some (.int v6), none, none] [.int s0] w (some (.int o.1), o.2) := by
  unfold f168_J65 at h
  refine rn_istore (ls' := [some (.ref v0), some (.int v1), some (.int v2), some (.int v3), some (.int v4), some (.int v5), some (.int v6), none, some (.int s0)]) (ft168 34 rfl) rfl ?_
  refine rn_iload (ft168 35 rfl) rfl ?_
  by_cases c26 : v6 = 0
  · replace h := ifp c26 h
    refine rn_if_eq_t (ft168 36 rfl) c26 ?_
    exact rn_forget (ls := [some (.ref v0), some (.int v1), some (.int v2), some (.int v3), none, some (.int v5), some (.int v6), none, some (.int s0)]) (And.intro rfl (And.intro rfl (And.intro rfl (And.intro rfl (And.intro rfl (And.intro rfl (And.intro rfl trivial))))))) (rf168_J79 n rec6 K6 v0 v1 v2 v3 v5 v6 s0 w _ hrec6 hK6 h)
  · replace h := ifn c26 h
    refine rn_if_eq_f (ft168 36 rfl) c26 ?_
    refine rn_iload (ft168 37 rfl) rfl ?_
    refine rn_iload (ft168 38 rfl) rfl ?_
    by_cases c25 : v5 ≤ s0
    · replace h := ifp c25 h
      refine rn_icmp_ge_t (ft168 39 rfl) c25 ?_
      refine rn_iload (ft168 43 rfl) rfl ?_
      exact rn_forget (ls := [some (.ref v0), some (.int v1), some (.int v2), some (.int v3), none, some (.int v5), some (.int v6), none, some (.int s0)]) (And.intro rfl (And.intro rfl (And.intro rfl (And.intro rfl (And.intro rfl (And.intro rfl (And.intro rfl trivial))))))) (rf168_J89 n rec6 K6 v0 v1 v2 v3 v5 v6 s0 v4 w _ hrec6 hK6 h)
    · replace h := ifn c25 h
      refine rn_icmp_ge_f (ft168 39 rfl) c25 ?_
      exact rn_forget (ls := [some (.ref v0), some (.int v1), some (.int v2), some (.int v3), none, some (.int v5), some (.int v6), none, some (.int s0)]) (And.intro rfl (And.intro rfl (And.intro rfl (And.intro rfl (And.intro rfl (And.intro rfl (And.intro rfl trivial))))))) (rf168_J79 n rec6 K6 v0 v1 v2 v3 v5 v6 s0 w _ hrec6 hK6 h)
def f168_H9 (n : Nat)  (K6 : Int32 → Wd → Option (Int32 × Wd)) : Nat → Nat → Int32 → Int32 → Int32 → Int32 → Int32 → Int32 → Wd → Option (Int32 × Wd)
  | 0, _, _, _, _, _, _, _, _ => none
  | k + 1, v0, v1, v2, v3, v4, v5, v6, w =>
    (if (3 : Int32) ≤ v6 then K6 v4 w
      else ob (getR w 11 v0 13) (fun x1 => ob (aldI w x1 v1) (fun x3 => (if x3 < 0 then K6 v4 w
        else ob (f52 v6 w) (fun p5 => ob (f51 v3 p5.1 p5.2) (fun p7 => ob (f123 v2 p7.1 p7.2) (fun p9 => ob (getR p9.2 11 v0 2) (fun x11 => ob (aldB p9.2 x11 p9.1) (fun x13 => (if x13 = 0 then ob (getR p9.2 11 v0 13) (fun x15 => ob (aldI p9.2 x15 v1) (fun x17 => ob (f48 p9.1 x17 p9.2) (fun p19 => f168_J65 n (fun (v0 : Nat) (v1 : Int32) (v2 : Int32) (v3 : Int32) (v4 : Int32) (v5 : Int32) (v6 : Int32) w => f168_H9 n  K6 k v0 v1 v2 v3 v4 v5 v6 w) K6 v0 v1 v2 v3 v4 v5 v6 p19.1 p19.2)))
          else f168_J65 n (fun (v0 : Nat) (v1 : Int32) (v2 : Int32) (v3 : Int32) (v4 : Int32) (v5 : Int32) (v6 : Int32) w => f168_H9 n  K6 k v0 v1 v2 v3 v4 v5 v6 w) K6 v0 v1 v2 v3 v4 v5 v6 (99 : Int32) p9.2))))))))))
set_option maxRecDepth 10000 in
theorem rf168_H9 {S : Sc} (n : Nat)  (K6 : Int32 → Wd → Option (Int32 × Wd))  (hK6 : ∀ (y4 : Int32) (w : Wd) (o : (Int32 × Wd)), K6 y4 w = some o → Rn S 168 118 [none, none, none, none, some (.int y4), none, none, none, none] [] w (some (.int o.1), o.2)) : ∀ (k : Nat) (v0 : Nat) (v1 : Int32) (v2 : Int32) (v3 : Int32) (v4 : Int32) (v5 : Int32) (v6 : Int32) (w : Wd) (o : (Int32 × Wd)), f168_H9 n  K6 k v0 v1 v2 v3 v4 v5 v6 w = some o → Rn S 168 9 [some (.ref v0), some (.int v1), some (.int v2), some (.int v3), some (.int v4), some (.int v5), some (.int v6), none, none] [] w (some (.int o.1), o.2) := by
  intro k
  induction k with
  | zero =>
    intro v0 v1 v2 v3 v4 v5 v6 w o h
    exact nomatch h
  | succ k ih =>
    intro v0 v1 v2 v3 v4 v5 v6 w o h
    have hrec6 : ∀ (y0 : Nat) (y1 : Int32) (y2 : Int32) (y3 : Int32) (y4 : Int32) (y5 : Int32) (y6 : Int32) (w : Wd) (o : (Int32 × Wd)), (fun (v0 : Nat) (v1 : Int32) (v2 : Int32) (v3 : Int32) (v4 : Int32) (v5 : Int32) (v6 : Int32) w => f168_H9 n  K6 k v0 v1 v2 v3 v4 v5 v6 w) y0 y1 y2 y3 y4 y5 y6 w = some o → Rn S 168 9 [some (.ref y0), some (.int y1), some (.int y2), some (.int y3), some (.int y4), some (.int y5), some (.int y6), none, none] [] w (some (.int o.1), o.2) := fun y0 y1 y2 y3 y4 y5 y6 w o h => ih y0 y1 y2 y3 y4 y5 y6 w o h
    unfold f168_H9 at h
    refine rn_iload (ft168 6 rfl) rfl ?_
    refine rn_iconst (v := (3 : Int32)) (ft168 7 rfl) (by decide) ?_
    by_cases c29 : (3 : Int32) ≤ v6
    · replace h := ifp c29 h
      refine rn_icmp_ge_t (ft168 8 rfl) c29 ?_
      exact rn_forget (ls := [none, none, none, none, some (.int v4), none, none, none, none]) (And.intro rfl trivial) (hK6 v4 w _ h)
    · replace h := ifn c29 h
      refine rn_icmp_ge_f (ft168 8 rfl) c29 ?_
      refine rn_aload_n (ft168 9 rfl) rfl ?_
      obtain ⟨x1, q2, h⟩ := ob_some h
      refine rn_getR (ft168 10 rfl) q2 ?_
      refine rn_iload_n (ft168 11 rfl) rfl ?_
      obtain ⟨x3, q4, h⟩ := ob_some h
      refine rn_iaload (ft168 12 rfl) q4 ?_
      by_cases c28 : x3 < 0
      · replace h := ifp c28 h
        refine rn_if_lt_t (ft168 13 rfl) c28 ?_
        exact rn_forget (ls := [none, none, none, none, some (.int v4), none, none, none, none]) (And.intro rfl trivial) (hK6 v4 w _ h)
      · replace h := ifn c28 h
        refine rn_if_lt_f (ft168 13 rfl) c28 ?_
        refine rn_iload_n (ft168 14 rfl) rfl ?_
        refine rn_iload_n (ft168 15 rfl) rfl ?_
        refine rn_iload (ft168 16 rfl) rfl ?_
        obtain ⟨p5, q6, h⟩ := ob_some h
        refine rn_callS (as := [.int v6]) (r := [.int v3, .int v2]) (v := (some (.int p5.1))) (w1 := p5.2) (ft168 17 rfl) (by decide +kernel) rfl (Nat.le_of_ble_eq_true rfl) (Nat.le_of_ble_eq_true rfl) (r52 v6 w _ q6) ?_
        obtain ⟨p7, q8, h⟩ := ob_some h
        refine rn_callS (as := [.int v3, .int p5.1]) (r := [.int v2]) (v := (some (.int p7.1))) (w1 := p7.2) (ft168 18 rfl) (by decide +kernel) rfl (Nat.le_of_ble_eq_true rfl) (Nat.le_of_ble_eq_true rfl) (r51 v3 p5.1 p5.2 _ q8) ?_
        obtain ⟨p9, q10, h⟩ := ob_some h
        refine rn_callS (as := [.int v2, .int p7.1]) (r := []) (v := (some (.int p9.1))) (w1 := p9.2) (ft168 19 rfl) (by decide +kernel) rfl (Nat.le_of_ble_eq_true rfl) (Nat.le_of_ble_eq_true rfl) (r123 v2 p7.1 p7.2 _ q10) ?_
        refine rn_istore (ls' := [some (.ref v0), some (.int v1), some (.int v2), some (.int v3), some (.int v4), some (.int v5), some (.int v6), some (.int p9.1), none]) (ft168 20 rfl) rfl ?_
        refine rn_aload_n (ft168 21 rfl) rfl ?_
        obtain ⟨x11, q12, h⟩ := ob_some h
        refine rn_getR (ft168 22 rfl) q12 ?_
        refine rn_iload (ft168 23 rfl) rfl ?_
        obtain ⟨x13, q14, h⟩ := ob_some h
        refine rn_baload (ft168 24 rfl) q14 ?_
        by_cases c27 : x13 = 0
        · replace h := ifp c27 h
          refine rn_if_eq_t (ft168 25 rfl) c27 ?_
          refine rn_iload (ft168 28 rfl) rfl ?_
          refine rn_aload_n (ft168 29 rfl) rfl ?_
          obtain ⟨x15, q16, h⟩ := ob_some h
          refine rn_getR (ft168 30 rfl) q16 ?_
          refine rn_iload_n (ft168 31 rfl) rfl ?_
          obtain ⟨x17, q18, h⟩ := ob_some h
          refine rn_iaload (ft168 32 rfl) q18 ?_
          obtain ⟨p19, q20, h⟩ := ob_some h
          refine rn_callS (as := [.int p9.1, .int x17]) (r := []) (v := (some (.int p19.1))) (w1 := p19.2) (ft168 33 rfl) (by decide +kernel) rfl (Nat.le_of_ble_eq_true rfl) (Nat.le_of_ble_eq_true rfl) (r48 p9.1 x17 p9.2 _ q20) ?_
          exact rn_forget (ls := [some (.ref v0), some (.int v1), some (.int v2), some (.int v3), some (.int v4), some (.int v5), some (.int v6), none, none]) (And.intro rfl (And.intro rfl (And.intro rfl (And.intro rfl (And.intro rfl (And.intro rfl (And.intro rfl trivial))))))) (rf168_J65 n (fun (v0 : Nat) (v1 : Int32) (v2 : Int32) (v3 : Int32) (v4 : Int32) (v5 : Int32) (v6 : Int32) w => f168_H9 n  K6 k v0 v1 v2 v3 v4 v5 v6 w) K6 v0 v1 v2 v3 v4 v5 v6 p19.1 p19.2 _ hrec6 hK6 h)
        · replace h := ifn c27 h
          refine rn_if_eq_f (ft168 25 rfl) c27 ?_
          refine rn_bipush (v := (99 : Int32)) (ft168 26 rfl) (by decide) ?_
          refine rn_goto (ft168 27 rfl) ?_
          exact rn_forget (ls := [some (.ref v0), some (.int v1), some (.int v2), some (.int v3), some (.int v4), some (.int v5), some (.int v6), none, none]) (And.intro rfl (And.intro rfl (And.intro rfl (And.intro rfl (And.intro rfl (And.intro rfl (And.intro rfl trivial))))))) (rf168_J65 n (fun (v0 : Nat) (v1 : Int32) (v2 : Int32) (v3 : Int32) (v4 : Int32) (v5 : Int32) (v6 : Int32) w => f168_H9 n  K6 k v0 v1 v2 v3 v4 v5 v6 w) K6 v0 v1 v2 v3 v4 v5 v6 (99 : Int32) p9.2 _ hrec6 hK6 h)
def f168 (n : Nat) (v0 : Nat) (v1 : Int32) (v2 : Int32) (v3 : Int32) (w : Wd) : Option (Int32 × Wd) :=
  f168_H9 n  (fun (e4_30 : Int32) (w30 : Wd) => some (e4_30, w30)) n v0 v1 v2 v3 (0 : Int32) (0 : Int32) (0 : Int32) w
set_option maxRecDepth 10000 in
theorem r168 {S : Sc} (n : Nat) (v0 : Nat) (v1 : Int32) (v2 : Int32) (v3 : Int32) (w : Wd) (o : (Int32 × Wd)) (h : f168 n v0 v1 v2 v3 w = some o) : Rn S 168 0 [some (.ref v0), some (.int v1), some (.int v2), some (.int v3), none, none, none, none, none] [] w (some (.int o.1), o.2) := by
  unfold f168 at h
  refine rn_iconst (v := (0 : Int32)) (ft168 0 rfl) (by decide) ?_
  refine rn_istore (ls' := [some (.ref v0), some (.int v1), some (.int v2), some (.int v3), some (.int (0 : Int32)), none, none, none, none]) (ft168 1 rfl) rfl ?_
  refine rn_iconst (v := (0 : Int32)) (ft168 2 rfl) (by decide) ?_
  refine rn_istore (ls' := [some (.ref v0), some (.int v1), some (.int v2), some (.int v3), some (.int (0 : Int32)), some (.int (0 : Int32)), none, none, none]) (ft168 3 rfl) rfl ?_
  refine rn_iconst (v := (0 : Int32)) (ft168 4 rfl) (by decide) ?_
  refine rn_istore (ls' := [some (.ref v0), some (.int v1), some (.int v2), some (.int v3), some (.int (0 : Int32)), some (.int (0 : Int32)), some (.int (0 : Int32)), none, none]) (ft168 5 rfl) rfl ?_
  refine rn_forget (ls := [some (.ref v0), some (.int v1), some (.int v2), some (.int v3), some (.int (0 : Int32)), some (.int (0 : Int32)), some (.int (0 : Int32)), none, none]) (And.intro rfl (And.intro rfl (And.intro rfl (And.intro rfl (And.intro rfl (And.intro rfl (And.intro rfl trivial))))))) (rf168_H9 n  _  (fun e4_30 w30 o h => ?_) n v0 v1 v2 v3 (0 : Int32) (0 : Int32) (0 : Int32) w _ h)
  refine rn_iload (ft168 56 rfl) rfl ?_
  cases h
  exact rn_iretI pr168 (ft168 57 rfl)
