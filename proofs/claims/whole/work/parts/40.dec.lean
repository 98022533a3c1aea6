/-! THE METHODS AS FUNCTIONS, 23 -/
/-- NineWheel$SeaReader.clause(I)V -/
theorem ft217 : ∀ (i : Nat) {q : Nat × XI}, cd217[i]? = some q → fetch 217 q.1 = some q.2 := ft_of (by decide +kernel)
theorem pr217 : pRt 217 = none := rfl
def f217_J206 (n : Nat)  (v0 : Nat) (w : Wd) : Option Wd :=
  (if (wsh w v0).map (fun q => q.1) = some 7 then ob (f206 n v0 w) (fun p30 => some p30) else none)
set_option maxRecDepth 10000 in
theorem rf217_J206 {S : Sc} (n : Nat)  (v0 : Nat) (w : Wd) (o : Wd)  (h : f217_J206 n  v0 w = some o) : Rn S 217 206 [some (.ref v0), none] [] w (none, o) := by
  unfold f217_J206 at h
  refine rn_aload_n (ft217 97 rfl) rfl ?_
  obtain ⟨g32, h⟩ := ifg h
  obtain ⟨p30, q31, h⟩ := ob_some h
  refine rn_callV (as := []) (k0 := v0) (r := []) (v := none) (w1 := p30) (ft217 98 rfl) (by decide +kernel) rfl (Nat.le_of_ble_eq_true rfl) (Nat.le_of_ble_eq_true rfl) (r206 n v0 w _ q31) (by decide +kernel) g32 ?_
  refine rn_goto (ft217 99 rfl) ?_
  cases h
  exact rn_vret pr217 (ft217 105 rfl)
def f217 (n : Nat) (v0 : Nat) (v1 : Int32) (w : Wd) : Option Wd :=
  ob (getR w 7 v0 0) (fun x1 => (if (wsh w x1).map (fun q => q.1) = some 9 then ob (f197 n x1 16 w) (fun p3 => (if p3.1 = 0 then ob (getR p3.2 7 v0 0) (fun x5 => (if (wsh p3.2 x5).map (fun q => q.1) = some 9 then ob (f197 n x5 17 p3.2) (fun p7 => (if p7.1 = 0 then ob (getR p7.2 7 v0 0) (fun x9 => (if (wsh p7.2 x9).map (fun q => q.1) = some 9 then ob (f197 n x9 18 p7.2) (fun p11 => (if p11.1 = 0 then ob (getR p11.2 7 v0 0) (fun x13 => (if (wsh p11.2 x13).map (fun q => q.1) = some 9 then ob (f197 n x13 19 p11.2) (fun p15 => (if p15.1 = 0 then ob (getR p15.2 7 v0 0) (fun x17 => (if (wsh p15.2 x17).map (fun q => q.1) = some 9 then ob (f197 n x17 20 p15.2) (fun p19 => (if p19.1 = 0 then ob (getR p19.2 7 v0 0) (fun x21 => (if (wsh p19.2 x21).map (fun q => q.1) = some 9 then ob (f8 x21 (1 : Int32) v1 p19.2) (fun p23 => some p23) else none))
            else ob (getR p19.2 7 v0 1) (fun x26 => ob (getI p19.2 6 x26 5) (fun x28 => (if x28 < (6 : Int32) then f217_J206 n  v0 p19.2
              else ob (getR p19.2 7 v0 0) (fun x33 => (if (wsh p19.2 x33).map (fun q => q.1) = some 9 then ob (f8 x33 (3 : Int32) v1 p19.2) (fun p35 => f217_J206 n  v0 p35) else none))))))) else none))
          else (if (wsh p15.2 v0).map (fun q => q.1) = some 7 then ob (f76 v0 (8 : Int32) v1 p15.2) (fun p41 => ob (getR p41 7 v0 1) (fun x43 => ob (getR p41 7 v0 0) (fun x45 => (if (wsh p41 x45).map (fun q => q.1) = some 9 then ob (f140 n x45 (0 : Int32) (2 : Int32) p41) (fun p47 => ob (putI p47.2 6 x43 4 p47.1) (fun w49 => some w49)) else none)))) else none))) else none))
        else (if (wsh p11.2 v0).map (fun q => q.1) = some 7 then ob (f76 v0 (4 : Int32) v1 p11.2) (fun p55 => ob (getR p55 7 v0 1) (fun x57 => ob (getR p55 7 v0 0) (fun x59 => (if (wsh p55 x59).map (fun q => q.1) = some 9 then ob (f140 n x59 (0 : Int32) (7 : Int32) p55) (fun p61 => ob (putI p61.2 6 x57 2 p61.1) (fun w63 => ob (getR w63 7 v0 1) (fun x65 => ob (getR w63 7 v0 0) (fun x67 => (if (wsh w63 x67).map (fun q => q.1) = some 9 then ob (f140 n x67 (1 : Int32) (9 : Int32) w63) (fun p69 => ob (putI p69.2 6 x65 3 p69.1) (fun w71 => some w71)) else none))))) else none)))) else none))) else none))
      else (if (wsh p7.2 v0).map (fun q => q.1) = some 7 then ob (f76 v0 (2 : Int32) v1 p7.2) (fun p78 => (if (wsh p78 v0).map (fun q => q.1) = some 7 then ob (f176 n v0 p78) (fun p80 => some p80) else none)) else none))) else none))
    else (if (wsh p3.2 v0).map (fun q => q.1) = some 7 then ob (f76 v0 (1 : Int32) v1 p3.2) (fun p86 => ob (getR p86 7 v0 1) (fun x88 => ob (getR p86 7 v0 0) (fun x90 => (if (wsh p86 x90).map (fun q => q.1) = some 9 then ob (f140 n x90 (0 : Int32) (63 : Int32) p86) (fun p92 => ob (putI p92.2 6 x88 0 p92.1) (fun w94 => ob (getR w94 7 v0 1) (fun x96 => ob (getR w94 7 v0 0) (fun x98 => (if (wsh w94 x98).map (fun q => q.1) = some 9 then ob (f140 n x98 (0 : Int32) (7 : Int32) w94) (fun p100 => ob (putI p100.2 6 x96 1 p100.1) (fun w102 => some w102)) else none))))) else none)))) else none))) else none))
set_option maxRecDepth 10000 in
theorem r217 {S : Sc} (n : Nat) (v0 : Nat) (v1 : Int32) (w : Wd) (o : Wd) (h : f217 n v0 v1 w = some o) : Rn S 217 0 [some (.ref v0), some (.int v1)] [] w (none, o) := by
  unfold f217 at h
  refine rn_aload_n (ft217 0 rfl) rfl ?_
  obtain ⟨x1, q2, h⟩ := ob_some h
  refine rn_getR (ft217 1 rfl) q2 ?_
  refine rn_ldcS (v := 16) (ft217 2 rfl) (by decide) ?_
  obtain ⟨g108, h⟩ := ifg h
  obtain ⟨p3, q4, h⟩ := ob_some h
  refine rn_callV (as := [.float 16]) (k0 := x1) (r := []) (v := (some (.int p3.1))) (w1 := p3.2) (ft217 3 rfl) (by decide +kernel) rfl (Nat.le_of_ble_eq_true rfl) (Nat.le_of_ble_eq_true rfl) (r197 n x1 16 w _ q4) (by decide +kernel) g108 ?_
  by_cases c107 : p3.1 = 0
  · replace h := ifp c107 h
    refine rn_if_eq_t (ft217 4 rfl) c107 ?_
    refine rn_aload_n (ft217 26 rfl) rfl ?_
    obtain ⟨x5, q6, h⟩ := ob_some h
    refine rn_getR (ft217 27 rfl) q6 ?_
    refine rn_ldcS (v := 17) (ft217 28 rfl) (by decide) ?_
    obtain ⟨g85, h⟩ := ifg h
    obtain ⟨p7, q8, h⟩ := ob_some h
    refine rn_callV (as := [.float 17]) (k0 := x5) (r := []) (v := (some (.int p7.1))) (w1 := p7.2) (ft217 29 rfl) (by decide +kernel) rfl (Nat.le_of_ble_eq_true rfl) (Nat.le_of_ble_eq_true rfl) (r197 n x5 17 p3.2 _ q8) (by decide +kernel) g85 ?_
    by_cases c84 : p7.1 = 0
    · replace h := ifp c84 h
      refine rn_if_eq_t (ft217 30 rfl) c84 ?_
      refine rn_aload_n (ft217 38 rfl) rfl ?_
      obtain ⟨x9, q10, h⟩ := ob_some h
      refine rn_getR (ft217 39 rfl) q10 ?_
      refine rn_ldcS (v := 18) (ft217 40 rfl) (by decide) ?_
      obtain ⟨g77, h⟩ := ifg h
      obtain ⟨p11, q12, h⟩ := ob_some h
      refine rn_callV (as := [.float 18]) (k0 := x9) (r := []) (v := (some (.int p11.1))) (w1 := p11.2) (ft217 41 rfl) (by decide +kernel) rfl (Nat.le_of_ble_eq_true rfl) (Nat.le_of_ble_eq_true rfl) (r197 n x9 18 p7.2 _ q12) (by decide +kernel) g77 ?_
      by_cases c76 : p11.1 = 0
      · replace h := ifp c76 h
        refine rn_if_eq_t (ft217 42 rfl) c76 ?_
        refine rn_aload_n (ft217 64 rfl) rfl ?_
        obtain ⟨x13, q14, h⟩ := ob_some h
        refine rn_getR (ft217 65 rfl) q14 ?_
        refine rn_ldcS (v := 19) (ft217 66 rfl) (by decide) ?_
        obtain ⟨g54, h⟩ := ifg h
        obtain ⟨p15, q16, h⟩ := ob_some h
        refine rn_callV (as := [.float 19]) (k0 := x13) (r := []) (v := (some (.int p15.1))) (w1 := p15.2) (ft217 67 rfl) (by decide +kernel) rfl (Nat.le_of_ble_eq_true rfl) (Nat.le_of_ble_eq_true rfl) (r197 n x13 19 p11.2 _ q16) (by decide +kernel) g54 ?_
        by_cases c53 : p15.1 = 0
        · replace h := ifp c53 h
          refine rn_if_eq_t (ft217 68 rfl) c53 ?_
          refine rn_aload_n (ft217 82 rfl) rfl ?_
          obtain ⟨x17, q18, h⟩ := ob_some h
          refine rn_getR (ft217 83 rfl) q18 ?_
          refine rn_ldcS (v := 20) (ft217 84 rfl) (by decide) ?_
          obtain ⟨g40, h⟩ := ifg h
          obtain ⟨p19, q20, h⟩ := ob_some h
          refine rn_callV (as := [.float 20]) (k0 := x17) (r := []) (v := (some (.int p19.1))) (w1 := p19.2) (ft217 85 rfl) (by decide +kernel) rfl (Nat.le_of_ble_eq_true rfl) (Nat.le_of_ble_eq_true rfl) (r197 n x17 20 p15.2 _ q20) (by decide +kernel) g40 ?_
          by_cases c39 : p19.1 = 0
          · replace h := ifp c39 h
            refine rn_if_eq_t (ft217 86 rfl) c39 ?_
            refine rn_aload_n (ft217 100 rfl) rfl ?_
            obtain ⟨x21, q22, h⟩ := ob_some h
            refine rn_getR (ft217 101 rfl) q22 ?_
            refine rn_iconst (v := (1 : Int32)) (ft217 102 rfl) (by decide) ?_
            refine rn_iload_n (ft217 103 rfl) rfl ?_
            obtain ⟨g25, h⟩ := ifg h
            obtain ⟨p23, q24, h⟩ := ob_some h
            refine rn_callV (as := [.int (1 : Int32), .int v1]) (k0 := x21) (r := []) (v := none) (w1 := p23) (ft217 104 rfl) (by decide +kernel) rfl (Nat.le_of_ble_eq_true rfl) (Nat.le_of_ble_eq_true rfl) (r8 x21 (1 : Int32) v1 p19.2 _ q24) (by decide +kernel) g25 ?_
            cases h
            exact rn_vret pr217 (ft217 105 rfl)
          · replace h := ifn c39 h
            refine rn_if_eq_f (ft217 86 rfl) c39 ?_
            refine rn_aload_n (ft217 87 rfl) rfl ?_
            obtain ⟨x26, q27, h⟩ := ob_some h
            refine rn_getR (ft217 88 rfl) q27 ?_
            obtain ⟨x28, q29, h⟩ := ob_some h
            refine rn_getI (ft217 89 rfl) (by decide) (by decide) q29 ?_
            refine rn_bipush (v := (6 : Int32)) (ft217 90 rfl) (by decide) ?_
            by_cases c38 : x28 < (6 : Int32)
            · replace h := ifp c38 h
              refine rn_icmp_lt_t (ft217 91 rfl) c38 ?_
              exact rn_forget (ls := [some (.ref v0), none]) (And.intro rfl trivial) (rf217_J206 n  v0 p19.2 _  h)
            · replace h := ifn c38 h
              refine rn_icmp_lt_f (ft217 91 rfl) c38 ?_
              refine rn_aload_n (ft217 92 rfl) rfl ?_
              obtain ⟨x33, q34, h⟩ := ob_some h
              refine rn_getR (ft217 93 rfl) q34 ?_
              refine rn_iconst (v := (3 : Int32)) (ft217 94 rfl) (by decide) ?_
              refine rn_iload_n (ft217 95 rfl) rfl ?_
              obtain ⟨g37, h⟩ := ifg h
              obtain ⟨p35, q36, h⟩ := ob_some h
              refine rn_callV (as := [.int (3 : Int32), .int v1]) (k0 := x33) (r := []) (v := none) (w1 := p35) (ft217 96 rfl) (by decide +kernel) rfl (Nat.le_of_ble_eq_true rfl) (Nat.le_of_ble_eq_true rfl) (r8 x33 (3 : Int32) v1 p19.2 _ q36) (by decide +kernel) g37 ?_
              exact rn_forget (ls := [some (.ref v0), none]) (And.intro rfl trivial) (rf217_J206 n  v0 p35 _  h)
        · replace h := ifn c53 h
          refine rn_if_eq_f (ft217 68 rfl) c53 ?_
          refine rn_aload_n (ft217 69 rfl) rfl ?_
          refine rn_bipush (v := (8 : Int32)) (ft217 70 rfl) (by decide) ?_
          refine rn_iload_n (ft217 71 rfl) rfl ?_
          obtain ⟨g52, h⟩ := ifg h
          obtain ⟨p41, q42, h⟩ := ob_some h
          refine rn_callV (as := [.int (8 : Int32), .int v1]) (k0 := v0) (r := []) (v := none) (w1 := p41) (ft217 72 rfl) (by decide +kernel) rfl (Nat.le_of_ble_eq_true rfl) (Nat.le_of_ble_eq_true rfl) (r76 v0 (8 : Int32) v1 p15.2 _ q42) (by decide +kernel) g52 ?_
          refine rn_aload_n (ft217 73 rfl) rfl ?_
          obtain ⟨x43, q44, h⟩ := ob_some h
          refine rn_getR (ft217 74 rfl) q44 ?_
          refine rn_aload_n (ft217 75 rfl) rfl ?_
          obtain ⟨x45, q46, h⟩ := ob_some h
          refine rn_getR (ft217 76 rfl) q46 ?_
          refine rn_iconst (v := (0 : Int32)) (ft217 77 rfl) (by decide) ?_
          refine rn_iconst (v := (2 : Int32)) (ft217 78 rfl) (by decide) ?_
          obtain ⟨g51, h⟩ := ifg h
          obtain ⟨p47, q48, h⟩ := ob_some h
          refine rn_callV (as := [.int (0 : Int32), .int (2 : Int32)]) (k0 := x45) (r := [.ref x43]) (v := (some (.int p47.1))) (w1 := p47.2) (ft217 79 rfl) (by decide +kernel) rfl (Nat.le_of_ble_eq_true rfl) (Nat.le_of_ble_eq_true rfl) (r140 n x45 (0 : Int32) (2 : Int32) p41 _ q48) (by decide +kernel) g51 ?_
          obtain ⟨w49, q50, h⟩ := ob_some h
          refine rn_putI (ft217 80 rfl) q50 ?_
          refine rn_goto (ft217 81 rfl) ?_
          cases h
          exact rn_vret pr217 (ft217 105 rfl)
      · replace h := ifn c76 h
        refine rn_if_eq_f (ft217 42 rfl) c76 ?_
        refine rn_aload_n (ft217 43 rfl) rfl ?_
        refine rn_iconst (v := (4 : Int32)) (ft217 44 rfl) (by decide) ?_
        refine rn_iload_n (ft217 45 rfl) rfl ?_
        obtain ⟨g75, h⟩ := ifg h
        obtain ⟨p55, q56, h⟩ := ob_some h
        refine rn_callV (as := [.int (4 : Int32), .int v1]) (k0 := v0) (r := []) (v := none) (w1 := p55) (ft217 46 rfl) (by decide +kernel) rfl (Nat.le_of_ble_eq_true rfl) (Nat.le_of_ble_eq_true rfl) (r76 v0 (4 : Int32) v1 p11.2 _ q56) (by decide +kernel) g75 ?_
        refine rn_aload_n (ft217 47 rfl) rfl ?_
        obtain ⟨x57, q58, h⟩ := ob_some h
        refine rn_getR (ft217 48 rfl) q58 ?_
        refine rn_aload_n (ft217 49 rfl) rfl ?_
        obtain ⟨x59, q60, h⟩ := ob_some h
        refine rn_getR (ft217 50 rfl) q60 ?_
        refine rn_iconst (v := (0 : Int32)) (ft217 51 rfl) (by decide) ?_
        refine rn_bipush (v := (7 : Int32)) (ft217 52 rfl) (by decide) ?_
        obtain ⟨g74, h⟩ := ifg h
        obtain ⟨p61, q62, h⟩ := ob_some h
        refine rn_callV (as := [.int (0 : Int32), .int (7 : Int32)]) (k0 := x59) (r := [.ref x57]) (v := (some (.int p61.1))) (w1 := p61.2) (ft217 53 rfl) (by decide +kernel) rfl (Nat.le_of_ble_eq_true rfl) (Nat.le_of_ble_eq_true rfl) (r140 n x59 (0 : Int32) (7 : Int32) p55 _ q62) (by decide +kernel) g74 ?_
        obtain ⟨w63, q64, h⟩ := ob_some h
        refine rn_putI (ft217 54 rfl) q64 ?_
        refine rn_aload_n (ft217 55 rfl) rfl ?_
        obtain ⟨x65, q66, h⟩ := ob_some h
        refine rn_getR (ft217 56 rfl) q66 ?_
        refine rn_aload_n (ft217 57 rfl) rfl ?_
        obtain ⟨x67, q68, h⟩ := ob_some h
        refine rn_getR (ft217 58 rfl) q68 ?_
        refine rn_iconst (v := (1 : Int32)) (ft217 59 rfl) (by decide) ?_
        refine rn_bipush (v := (9 : Int32)) (ft217 60 rfl) (by decide) ?_
        obtain ⟨g73, h⟩ := ifg h
        obtain ⟨p69, q70, h⟩ := ob_some h
        refine rn_callV (as := [.int (1 : Int32), .int (9 : Int32)]) (k0 := x67) (r := [.ref x65]) (v := (some (.int p69.1))) (w1 := p69.2) (ft217 61 rfl) (by decide +kernel) rfl (Nat.le_of_ble_eq_true rfl) (Nat.le_of_ble_eq_true rfl) (r140 n x67 (1 : Int32) (9 : Int32) w63 _ q70) (by decide +kernel) g73 ?_
        obtain ⟨w71, q72, h⟩ := ob_some h
        refine rn_putI (ft217 62 rfl) q72 ?_
        refine rn_goto (ft217 63 rfl) ?_
        cases h
        exact rn_vret pr217 (ft217 105 rfl)
    · replace h := ifn c84 h
      refine rn_if_eq_f (ft217 30 rfl) c84 ?_
      refine rn_aload_n (ft217 31 rfl) rfl ?_
      refine rn_iconst (v := (2 : Int32)) (ft217 32 rfl) (by decide) ?_
      refine rn_iload_n (ft217 33 rfl) rfl ?_
      obtain ⟨g83, h⟩ := ifg h
      obtain ⟨p78, q79, h⟩ := ob_some h
      refine rn_callV (as := [.int (2 : Int32), .int v1]) (k0 := v0) (r := []) (v := none) (w1 := p78) (ft217 34 rfl) (by decide +kernel) rfl (Nat.le_of_ble_eq_true rfl) (Nat.le_of_ble_eq_true rfl) (r76 v0 (2 : Int32) v1 p7.2 _ q79) (by decide +kernel) g83 ?_
      refine rn_aload_n (ft217 35 rfl) rfl ?_
      obtain ⟨g82, h⟩ := ifg h
      obtain ⟨p80, q81, h⟩ := ob_some h
      refine rn_callV (as := []) (k0 := v0) (r := []) (v := none) (w1 := p80) (ft217 36 rfl) (by decide +kernel) rfl (Nat.le_of_ble_eq_true rfl) (Nat.le_of_ble_eq_true rfl) (r176 n v0 p78 _ q81) (by decide +kernel) g82 ?_
      refine rn_goto (ft217 37 rfl) ?_
      cases h
      exact rn_vret pr217 (ft217 105 rfl)
  · replace h := ifn c107 h
    refine rn_if_eq_f (ft217 4 rfl) c107 ?_
    refine rn_aload_n (ft217 5 rfl) rfl ?_
    refine rn_iconst (v := (1 : Int32)) (ft217 6 rfl) (by decide) ?_
    refine rn_iload_n (ft217 7 rfl) rfl ?_
    obtain ⟨g106, h⟩ := ifg h
    obtain ⟨p86, q87, h⟩ := ob_some h
    refine rn_callV (as := [.int (1 : Int32), .int v1]) (k0 := v0) (r := []) (v := none) (w1 := p86) (ft217 8 rfl) (by decide +kernel) rfl (Nat.le_of_ble_eq_true rfl) (Nat.le_of_ble_eq_true rfl) (r76 v0 (1 : Int32) v1 p3.2 _ q87) (by decide +kernel) g106 ?_
    refine rn_aload_n (ft217 9 rfl) rfl ?_
    obtain ⟨x88, q89, h⟩ := ob_some h
    refine rn_getR (ft217 10 rfl) q89 ?_
    refine rn_aload_n (ft217 11 rfl) rfl ?_
    obtain ⟨x90, q91, h⟩ := ob_some h
    refine rn_getR (ft217 12 rfl) q91 ?_
    refine rn_iconst (v := (0 : Int32)) (ft217 13 rfl) (by decide) ?_
    refine rn_bipush (v := (63 : Int32)) (ft217 14 rfl) (by decide) ?_
    obtain ⟨g105, h⟩ := ifg h
    obtain ⟨p92, q93, h⟩ := ob_some h
    refine rn_callV (as := [.int (0 : Int32), .int (63 : Int32)]) (k0 := x90) (r := [.ref x88]) (v := (some (.int p92.1))) (w1 := p92.2) (ft217 15 rfl) (by decide +kernel) rfl (Nat.le_of_ble_eq_true rfl) (Nat.le_of_ble_eq_true rfl) (r140 n x90 (0 : Int32) (63 : Int32) p86 _ q93) (by decide +kernel) g105 ?_
    obtain ⟨w94, q95, h⟩ := ob_some h
    refine rn_putI (ft217 16 rfl) q95 ?_
    refine rn_aload_n (ft217 17 rfl) rfl ?_
    obtain ⟨x96, q97, h⟩ := ob_some h
    refine rn_getR (ft217 18 rfl) q97 ?_
    refine rn_aload_n (ft217 19 rfl) rfl ?_
    obtain ⟨x98, q99, h⟩ := ob_some h
    refine rn_getR (ft217 20 rfl) q99 ?_
    refine rn_iconst (v := (0 : Int32)) (ft217 21 rfl) (by decide) ?_
    refine rn_bipush (v := (7 : Int32)) (ft217 22 rfl) (by decide) ?_
    obtain ⟨g104, h⟩ := ifg h
    obtain ⟨p100, q101, h⟩ := ob_some h
    refine rn_callV (as := [.int (0 : Int32), .int (7 : Int32)]) (k0 := x98) (r := [.ref x96]) (v := (some (.int p100.1))) (w1 := p100.2) (ft217 23 rfl) (by decide +kernel) rfl (Nat.le_of_ble_eq_true rfl) (Nat.le_of_ble_eq_true rfl) (r140 n x98 (0 : Int32) (7 : Int32) w94 _ q101) (by decide +kernel) g104 ?_
    obtain ⟨w102, q103, h⟩ := ob_some h
    refine rn_putI (ft217 24 rfl) q103 ?_
    refine rn_goto (ft217 25 rfl) ?_
    cases h
    exact rn_vret pr217 (ft217 105 rfl)
/-- NineWheel$Rule.read(LNineWheel$Text;)V -/
theorem ft218 : ∀ (i : Nat) {q : Nat × XI}, cd218[i]? = some q → fetch 218 q.1 = some q.2 := ft_of (by decide +kernel)
theorem pr218 : pRt 218 = none := rfl
def f218_J132 (n : Nat)  (v1 : Nat) (w : Wd) : Option Wd :=
  (if (wsh w v1).map (fun q => q.1) = some 9 then ob (f138 n v1 w) (fun p21 => (if ¬ p21.1 = 0 then some p21.2
    else ob (getI p21.2 9 v1 2) (fun x23 => (if (wsh p21.2 v1).map (fun q => q.1) = some 9 then ob (f8 v1 (1 : Int32) x23 p21.2) (fun p25 => some p25) else none)))) else none)
set_option maxRecDepth 10000 in
theorem rf218_J132 {S : Sc} (n : Nat)  (v1 : Nat) (w : Wd) (o : Wd)  (h : f218_J132 n  v1 w = some o) : Rn S 218 132 [none, some (.ref v1)] [] w (none, o) := by
  unfold f218_J132 at h
  refine rn_aload_n (ft218 66 rfl) rfl ?_
  obtain ⟨g29, h⟩ := ifg h
  obtain ⟨p21, q22, h⟩ := ob_some h
  refine rn_callV (as := []) (k0 := v1) (r := []) (v := (some (.int p21.1))) (w1 := p21.2) (ft218 67 rfl) (by decide +kernel) rfl (Nat.le_of_ble_eq_true rfl) (Nat.le_of_ble_eq_true rfl) (r138 n v1 w _ q22) (by decide +kernel) g29 ?_
  by_cases c28 : ¬ p21.1 = 0
  · replace h := ifp c28 h
    refine rn_if_ne_t (ft218 68 rfl) c28 ?_
    cases h
    exact rn_vret pr218 (ft218 74 rfl)
  · replace h := ifn c28 h
    refine rn_if_ne_f (ft218 68 rfl) c28 ?_
    refine rn_aload_n (ft218 69 rfl) rfl ?_
    refine rn_iconst (v := (1 : Int32)) (ft218 70 rfl) (by decide) ?_
    refine rn_aload_n (ft218 71 rfl) rfl ?_
    obtain ⟨x23, q24, h⟩ := ob_some h
    refine rn_getI (ft218 72 rfl) (by decide) (by decide) q24 ?_
    obtain ⟨g27, h⟩ := ifg h
    obtain ⟨p25, q26, h⟩ := ob_some h
    refine rn_callV (as := [.int (1 : Int32), .int x23]) (k0 := v1) (r := []) (v := none) (w1 := p25) (ft218 73 rfl) (by decide +kernel) rfl (Nat.le_of_ble_eq_true rfl) (Nat.le_of_ble_eq_true rfl) (r8 v1 (1 : Int32) x23 p21.2 _ q26) (by decide +kernel) g27 ?_
    cases h
    exact rn_vret pr218 (ft218 74 rfl)
def f218_J118 (n : Nat)  (v0 : Nat) (v1 : Nat) (w : Wd) : Option Wd :=
  (if (wsh w v1).map (fun q => q.1) = some 9 then ob (f197 n v1 29 w) (fun p19 => (if p19.1 = 0 then f218_J132 n  v1 p19.2
    else (if (wsh p19.2 v0).map (fun q => q.1) = some 5 then ob (f207 n v0 v1 p19.2) (fun p30 => f218_J132 n  v1 p30) else none))) else none)
set_option maxRecDepth 10000 in
theorem rf218_J118 {S : Sc} (n : Nat)  (v0 : Nat) (v1 : Nat) (w : Wd) (o : Wd)  (h : f218_J118 n  v0 v1 w = some o) : Rn S 218 118 [some (.ref v0), some (.ref v1)] [] w (none, o) := by
  unfold f218_J118 at h
  refine rn_aload_n (ft218 59 rfl) rfl ?_
  refine rn_ldcS (v := 29) (ft218 60 rfl) (by decide) ?_
  obtain ⟨g34, h⟩ := ifg h
  obtain ⟨p19, q20, h⟩ := ob_some h
  refine rn_callV (as := [.float 29]) (k0 := v1) (r := []) (v := (some (.int p19.1))) (w1 := p19.2) (ft218 61 rfl) (by decide +kernel) rfl (Nat.le_of_ble_eq_true rfl) (Nat.le_of_ble_eq_true rfl) (r197 n v1 29 w _ q20) (by decide +kernel) g34 ?_
  by_cases c33 : p19.1 = 0
  · replace h := ifp c33 h
    refine rn_if_eq_t (ft218 62 rfl) c33 ?_
    exact rn_forget (ls := [none, some (.ref v1)]) (And.intro rfl trivial) (rf218_J132 n  v1 p19.2 _  h)
  · replace h := ifn c33 h
    refine rn_if_eq_f (ft218 62 rfl) c33 ?_
    refine rn_aload_n (ft218 63 rfl) rfl ?_
    refine rn_aload_n (ft218 64 rfl) rfl ?_
    obtain ⟨g32, h⟩ := ifg h
    obtain ⟨p30, q31, h⟩ := ob_some h
    refine rn_callV (as := [.ref v1]) (k0 := v0) (r := []) (v := none) (w1 := p30) (ft218 65 rfl) (by decide +kernel) rfl (Nat.le_of_ble_eq_true rfl) (Nat.le_of_ble_eq_true rfl) (r207 n v0 v1 p19.2 _ q31) (by decide +kernel) g32 ?_
    exact rn_forget (ls := [none, some (.ref v1)]) (And.intro rfl trivial) (rf218_J132 n  v1 p30 _  h)
def f218_J104 (n : Nat)  (v0 : Nat) (v1 : Nat) (w : Wd) : Option Wd :=
  (if (wsh w v1).map (fun q => q.1) = some 9 then ob (f197 n v1 28 w) (fun p17 => (if p17.1 = 0 then f218_J118 n  v0 v1 p17.2
    else (if (wsh p17.2 v0).map (fun q => q.1) = some 5 then ob (f179 n v0 v1 p17.2) (fun p35 => f218_J118 n  v0 v1 p35) else none))) else none)
set_option maxRecDepth 10000 in
theorem rf218_J104 {S : Sc} (n : Nat)  (v0 : Nat) (v1 : Nat) (w : Wd) (o : Wd)  (h : f218_J104 n  v0 v1 w = some o) : Rn S 218 104 [some (.ref v0), some (.ref v1)] [] w (none, o) := by
  unfold f218_J104 at h
  refine rn_aload_n (ft218 52 rfl) rfl ?_
  refine rn_ldcS (v := 28) (ft218 53 rfl) (by decide) ?_
  obtain ⟨g39, h⟩ := ifg h
  obtain ⟨p17, q18, h⟩ := ob_some h
  refine rn_callV (as := [.float 28]) (k0 := v1) (r := []) (v := (some (.int p17.1))) (w1 := p17.2) (ft218 54 rfl) (by decide +kernel) rfl (Nat.le_of_ble_eq_true rfl) (Nat.le_of_ble_eq_true rfl) (r197 n v1 28 w _ q18) (by decide +kernel) g39 ?_
  by_cases c38 : p17.1 = 0
  · replace h := ifp c38 h
    refine rn_if_eq_t (ft218 55 rfl) c38 ?_
    exact rn_forget (ls := [some (.ref v0), some (.ref v1)]) (And.intro rfl (And.intro rfl trivial)) (rf218_J118 n  v0 v1 p17.2 _  h)
  · replace h := ifn c38 h
    refine rn_if_eq_f (ft218 55 rfl) c38 ?_
    refine rn_aload_n (ft218 56 rfl) rfl ?_
    refine rn_aload_n (ft218 57 rfl) rfl ?_
    obtain ⟨g37, h⟩ := ifg h
    obtain ⟨p35, q36, h⟩ := ob_some h
    refine rn_callV (as := [.ref v1]) (k0 := v0) (r := []) (v := none) (w1 := p35) (ft218 58 rfl) (by decide +kernel) rfl (Nat.le_of_ble_eq_true rfl) (Nat.le_of_ble_eq_true rfl) (r179 n v0 v1 p17.2 _ q36) (by decide +kernel) g37 ?_
    exact rn_forget (ls := [some (.ref v0), some (.ref v1)]) (And.intro rfl (And.intro rfl trivial)) (rf218_J118 n  v0 v1 p35 _  h)
def f218_J84 (n : Nat)  (v0 : Nat) (v1 : Nat) (w : Wd) : Option Wd :=
  (if (wsh w v1).map (fun q => q.1) = some 9 then ob (f197 n v1 27 w) (fun p15 => (if p15.1 = 0 then f218_J104 n  v0 v1 p15.2
    else (if (wsh p15.2 v1).map (fun q => q.1) = some 9 then ob (f140 n v1 (0 : Int32) (54 : Int32) p15.2) (fun p40 => ob (putI p40.2 5 v0 1 p40.1) (fun w42 => f218_J104 n  v0 v1 w42)) else none))) else none)
set_option maxRecDepth 10000 in
theorem rf218_J84 {S : Sc} (n : Nat)  (v0 : Nat) (v1 : Nat) (w : Wd) (o : Wd)  (h : f218_J84 n  v0 v1 w = some o) : Rn S 218 84 [some (.ref v0), some (.ref v1)] [] w (none, o) := by
  unfold f218_J84 at h
  refine rn_aload_n (ft218 42 rfl) rfl ?_
  refine rn_ldcS (v := 27) (ft218 43 rfl) (by decide) ?_
  obtain ⟨g46, h⟩ := ifg h
  obtain ⟨p15, q16, h⟩ := ob_some h
  refine rn_callV (as := [.float 27]) (k0 := v1) (r := []) (v := (some (.int p15.1))) (w1 := p15.2) (ft218 44 rfl) (by decide +kernel) rfl (Nat.le_of_ble_eq_true rfl) (Nat.le_of_ble_eq_true rfl) (r197 n v1 27 w _ q16) (by decide +kernel) g46 ?_
  by_cases c45 : p15.1 = 0
  · replace h := ifp c45 h
    refine rn_if_eq_t (ft218 45 rfl) c45 ?_
    exact rn_forget (ls := [some (.ref v0), some (.ref v1)]) (And.intro rfl (And.intro rfl trivial)) (rf218_J104 n  v0 v1 p15.2 _  h)
  · replace h := ifn c45 h
    refine rn_if_eq_f (ft218 45 rfl) c45 ?_
    refine rn_aload_n (ft218 46 rfl) rfl ?_
    refine rn_aload_n (ft218 47 rfl) rfl ?_
    refine rn_iconst (v := (0 : Int32)) (ft218 48 rfl) (by decide) ?_
    refine rn_bipush (v := (54 : Int32)) (ft218 49 rfl) (by decide) ?_
    obtain ⟨g44, h⟩ := ifg h
    obtain ⟨p40, q41, h⟩ := ob_some h
    refine rn_callV (as := [.int (0 : Int32), .int (54 : Int32)]) (k0 := v1) (r := [.ref v0]) (v := (some (.int p40.1))) (w1 := p40.2) (ft218 50 rfl) (by decide +kernel) rfl (Nat.le_of_ble_eq_true rfl) (Nat.le_of_ble_eq_true rfl) (r140 n v1 (0 : Int32) (54 : Int32) p15.2 _ q41) (by decide +kernel) g44 ?_
    obtain ⟨w42, q43, h⟩ := ob_some h
    refine rn_putI (ft218 51 rfl) q43 ?_
    exact rn_forget (ls := [some (.ref v0), some (.ref v1)]) (And.intro rfl (And.intro rfl trivial)) (rf218_J104 n  v0 v1 w42 _  h)
def f218 (n : Nat) (v0 : Nat) (v1 : Nat) (w : Wd) : Option Wd :=
  (if (wsh w v0).map (fun q => q.1) = some 5 then ob (f15 v0 (0 : Int32) (0 : Int32) (0 : Int32) w) (fun p1 => (if (wsh p1 v1).map (fun q => q.1) = some 9 then ob (f197 n v1 23 p1) (fun p3 => (if p3.1 = 0 then (if (wsh p3.2 v1).map (fun q => q.1) = some 9 then ob (f197 n v1 24 p3.2) (fun p5 => (if p5.1 = 0 then (if (wsh p5.2 v1).map (fun q => q.1) = some 9 then ob (f197 n v1 25 p5.2) (fun p7 => (if p7.1 = 0 then (if (wsh p7.2 v1).map (fun q => q.1) = some 9 then ob (f197 n v1 26 p7.2) (fun p9 => (if p9.1 = 0 then ob (getI p9.2 9 v1 2) (fun x11 => (if (wsh p9.2 v1).map (fun q => q.1) = some 9 then ob (f8 v1 (1 : Int32) x11 p9.2) (fun p13 => f218_J84 n  v0 v1 p13) else none))
          else ob (putI p9.2 5 v0 0 (3 : Int32)) (fun w48 => f218_J84 n  v0 v1 w48))) else none)
        else ob (putI p7.2 5 v0 0 (2 : Int32)) (fun w52 => f218_J84 n  v0 v1 w52))) else none)
      else ob (putI p5.2 5 v0 0 (1 : Int32)) (fun w56 => f218_J84 n  v0 v1 w56))) else none)
    else ob (putI p3.2 5 v0 0 (0 : Int32)) (fun w60 => f218_J84 n  v0 v1 w60))) else none)) else none)
set_option maxRecDepth 10000 in
theorem r218 {S : Sc} (n : Nat) (v0 : Nat) (v1 : Nat) (w : Wd) (o : Wd) (h : f218 n v0 v1 w = some o) : Rn S 218 0 [some (.ref v0), some (.ref v1)] [] w (none, o) := by
  unfold f218 at h
  refine rn_aload_n (ft218 0 rfl) rfl ?_
  refine rn_iconst (v := (0 : Int32)) (ft218 1 rfl) (by decide) ?_
  refine rn_iconst (v := (0 : Int32)) (ft218 2 rfl) (by decide) ?_
  refine rn_iconst (v := (0 : Int32)) (ft218 3 rfl) (by decide) ?_
  obtain ⟨g64, h⟩ := ifg h
  obtain ⟨p1, q2, h⟩ := ob_some h
  refine rn_callV (as := [.int (0 : Int32), .int (0 : Int32), .int (0 : Int32)]) (k0 := v0) (r := []) (v := none) (w1 := p1) (ft218 4 rfl) (by decide +kernel) rfl (Nat.le_of_ble_eq_true rfl) (Nat.le_of_ble_eq_true rfl) (r15 v0 (0 : Int32) (0 : Int32) (0 : Int32) w _ q2) (by decide +kernel) g64 ?_
  refine rn_aload_n (ft218 5 rfl) rfl ?_
  refine rn_ldcS (v := 23) (ft218 6 rfl) (by decide) ?_
  obtain ⟨g63, h⟩ := ifg h
  obtain ⟨p3, q4, h⟩ := ob_some h
  refine rn_callV (as := [.float 23]) (k0 := v1) (r := []) (v := (some (.int p3.1))) (w1 := p3.2) (ft218 7 rfl) (by decide +kernel) rfl (Nat.le_of_ble_eq_true rfl) (Nat.le_of_ble_eq_true rfl) (r197 n v1 23 p1 _ q4) (by decide +kernel) g63 ?_
  by_cases c62 : p3.1 = 0
  · replace h := ifp c62 h
    refine rn_if_eq_t (ft218 8 rfl) c62 ?_
    refine rn_aload_n (ft218 13 rfl) rfl ?_
    refine rn_ldcS (v := 24) (ft218 14 rfl) (by decide) ?_
    obtain ⟨g59, h⟩ := ifg h
    obtain ⟨p5, q6, h⟩ := ob_some h
    refine rn_callV (as := [.float 24]) (k0 := v1) (r := []) (v := (some (.int p5.1))) (w1 := p5.2) (ft218 15 rfl) (by decide +kernel) rfl (Nat.le_of_ble_eq_true rfl) (Nat.le_of_ble_eq_true rfl) (r197 n v1 24 p3.2 _ q6) (by decide +kernel) g59 ?_
    by_cases c58 : p5.1 = 0
    · replace h := ifp c58 h
      refine rn_if_eq_t (ft218 16 rfl) c58 ?_
      refine rn_aload_n (ft218 21 rfl) rfl ?_
      refine rn_ldcS (v := 25) (ft218 22 rfl) (by decide) ?_
      obtain ⟨g55, h⟩ := ifg h
      obtain ⟨p7, q8, h⟩ := ob_some h
      refine rn_callV (as := [.float 25]) (k0 := v1) (r := []) (v := (some (.int p7.1))) (w1 := p7.2) (ft218 23 rfl) (by decide +kernel) rfl (Nat.le_of_ble_eq_true rfl) (Nat.le_of_ble_eq_true rfl) (r197 n v1 25 p5.2 _ q8) (by decide +kernel) g55 ?_
      by_cases c54 : p7.1 = 0
      · replace h := ifp c54 h
        refine rn_if_eq_t (ft218 24 rfl) c54 ?_
        refine rn_aload_n (ft218 29 rfl) rfl ?_
        refine rn_ldcS (v := 26) (ft218 30 rfl) (by decide) ?_
        obtain ⟨g51, h⟩ := ifg h
        obtain ⟨p9, q10, h⟩ := ob_some h
        refine rn_callV (as := [.float 26]) (k0 := v1) (r := []) (v := (some (.int p9.1))) (w1 := p9.2) (ft218 31 rfl) (by decide +kernel) rfl (Nat.le_of_ble_eq_true rfl) (Nat.le_of_ble_eq_true rfl) (r197 n v1 26 p7.2 _ q10) (by decide +kernel) g51 ?_
        by_cases c50 : p9.1 = 0
        · replace h := ifp c50 h
          refine rn_if_eq_t (ft218 32 rfl) c50 ?_
          refine rn_aload_n (ft218 37 rfl) rfl ?_
          refine rn_iconst (v := (1 : Int32)) (ft218 38 rfl) (by decide) ?_
          refine rn_aload_n (ft218 39 rfl) rfl ?_
          obtain ⟨x11, q12, h⟩ := ob_some h
          refine rn_getI (ft218 40 rfl) (by decide) (by decide) q12 ?_
          obtain ⟨g47, h⟩ := ifg h
          obtain ⟨p13, q14, h⟩ := ob_some h
          refine rn_callV (as := [.int (1 : Int32), .int x11]) (k0 := v1) (r := []) (v := none) (w1 := p13) (ft218 41 rfl) (by decide +kernel) rfl (Nat.le_of_ble_eq_true rfl) (Nat.le_of_ble_eq_true rfl) (r8 v1 (1 : Int32) x11 p9.2 _ q14) (by decide +kernel) g47 ?_
          exact rn_forget (ls := [some (.ref v0), some (.ref v1)]) (And.intro rfl (And.intro rfl trivial)) (rf218_J84 n  v0 v1 p13 _  h)
        · replace h := ifn c50 h
          refine rn_if_eq_f (ft218 32 rfl) c50 ?_
          refine rn_aload_n (ft218 33 rfl) rfl ?_
          refine rn_iconst (v := (3 : Int32)) (ft218 34 rfl) (by decide) ?_
          obtain ⟨w48, q49, h⟩ := ob_some h
          refine rn_putI (ft218 35 rfl) q49 ?_
          refine rn_goto (ft218 36 rfl) ?_
          exact rn_forget (ls := [some (.ref v0), some (.ref v1)]) (And.intro rfl (And.intro rfl trivial)) (rf218_J84 n  v0 v1 w48 _  h)
      · replace h := ifn c54 h
        refine rn_if_eq_f (ft218 24 rfl) c54 ?_
        refine rn_aload_n (ft218 25 rfl) rfl ?_
        refine rn_iconst (v := (2 : Int32)) (ft218 26 rfl) (by decide) ?_
        obtain ⟨w52, q53, h⟩ := ob_some h
        refine rn_putI (ft218 27 rfl) q53 ?_
        refine rn_goto (ft218 28 rfl) ?_
        exact rn_forget (ls := [some (.ref v0), some (.ref v1)]) (And.intro rfl (And.intro rfl trivial)) (rf218_J84 n  v0 v1 w52 _  h)
    · replace h := ifn c58 h
      refine rn_if_eq_f (ft218 16 rfl) c58 ?_
      refine rn_aload_n (ft218 17 rfl) rfl ?_
      refine rn_iconst (v := (1 : Int32)) (ft218 18 rfl) (by decide) ?_
      obtain ⟨w56, q57, h⟩ := ob_some h
      refine rn_putI (ft218 19 rfl) q57 ?_
      refine rn_goto (ft218 20 rfl) ?_
      exact rn_forget (ls := [some (.ref v0), some (.ref v1)]) (And.intro rfl (And.intro rfl trivial)) (rf218_J84 n  v0 v1 w56 _  h)
  · replace h := ifn c62 h
    refine rn_if_eq_f (ft218 8 rfl) c62 ?_
    refine rn_aload_n (ft218 9 rfl) rfl ?_
    refine rn_iconst (v := (0 : Int32)) (ft218 10 rfl) (by decide) ?_
    obtain ⟨w60, q61, h⟩ := ob_some h
    refine rn_putI (ft218 11 rfl) q61 ?_
    refine rn_goto (ft218 12 rfl) ?_
    exact rn_forget (ls := [some (.ref v0), some (.ref v1)]) (And.intro rfl (And.intro rfl trivial)) (rf218_J84 n  v0 v1 w60 _  h)
/-- NineWheel.presses(III)I -/
theorem ft219 : ∀ (i : Nat) {q : Nat × XI}, cd219[i]? = some q → fetch 219 q.1 = some q.2 := ft_of (by decide +kernel)
theorem pr219 : pRt 219 = some .int := rfl
def f219 (n : Nat) (v0 : Nat) (v1 : Int32) (v2 : Int32) (v3 : Int32) (w : Wd) : Option (Int32 × Wd) :=
  (if (wsh w v0).map (fun q => q.1) = some 10 then ob (f85 v0 v1 w) (fun p1 => (if ¬ p1.1 = 0 then some ((-1000001 : Int32), p1.2)
    else ob (f10 v2 p1.2) (fun p3 => (if p3.1 = 0 then ob (f90 v3 p3.2) (fun p5 => (if p5.1 = 0 then ob (getR p5.2 10 v0 1) (fun x7 => (if (wsh p5.2 x7).map (fun q => q.1) = some 6 then ob (f9 x7 v2 p5.2) (fun p9 => (if p9.1 = 0 then ob (getR p9.2 10 v0 9) (fun x11 => (if (wsh p9.2 x11).map (fun q => q.1) = some 2 then ob (f208 n x11 p9.2) (fun p13 => ob (getR p13 10 v0 9) (fun x15 => (if (wsh p13 x15).map (fun q => q.1) = some 2 then ob (f97 x15 v1 ((v2 * (8 : Int32)) + v3) p13) (fun p17 => some (p17.1, p17.2)) else none))) else none))
          else some ((-1000003 : Int32), p9.2))) else none))
        else some ((-1000002 : Int32), p5.2)))
      else some ((-1000001 : Int32), p3.2))))) else none)
set_option maxRecDepth 10000 in
theorem r219 {S : Sc} (n : Nat) (v0 : Nat) (v1 : Int32) (v2 : Int32) (v3 : Int32) (w : Wd) (o : (Int32 × Wd)) (h : f219 n v0 v1 v2 v3 w = some o) : Rn S 219 0 [some (.ref v0), some (.int v1), some (.int v2), some (.int v3)] [] w (some (.int o.1), o.2) := by
  unfold f219 at h
  refine rn_aload_n (ft219 0 rfl) rfl ?_
  refine rn_iload_n (ft219 1 rfl) rfl ?_
  obtain ⟨g26, h⟩ := ifg h
  obtain ⟨p1, q2, h⟩ := ob_some h
  refine rn_callV (as := [.int v1]) (k0 := v0) (r := []) (v := (some (.int p1.1))) (w1 := p1.2) (ft219 2 rfl) (by decide +kernel) rfl (Nat.le_of_ble_eq_true rfl) (Nat.le_of_ble_eq_true rfl) (r85 v0 v1 w _ q2) (by decide +kernel) g26 ?_
  by_cases c25 : ¬ p1.1 = 0
  · replace h := ifp c25 h
    refine rn_if_ne_t (ft219 3 rfl) c25 ?_
    refine rn_ldc (v := (-1000001 : Int32)) (ft219 7 rfl) (by decide) rfl ?_
    cases h
    exact rn_iretI pr219 (ft219 8 rfl)
  · replace h := ifn c25 h
    refine rn_if_ne_f (ft219 3 rfl) c25 ?_
    refine rn_iload_n (ft219 4 rfl) rfl ?_
    obtain ⟨p3, q4, h⟩ := ob_some h
    refine rn_callS (as := [.int v2]) (r := []) (v := (some (.int p3.1))) (w1 := p3.2) (ft219 5 rfl) (by decide +kernel) rfl (Nat.le_of_ble_eq_true rfl) (Nat.le_of_ble_eq_true rfl) (r10 v2 p1.2 _ q4) ?_
    by_cases c24 : p3.1 = 0
    · replace h := ifp c24 h
      refine rn_if_eq_t (ft219 6 rfl) c24 ?_
      refine rn_iload_n (ft219 9 rfl) rfl ?_
      obtain ⟨p5, q6, h⟩ := ob_some h
      refine rn_callS (as := [.int v3]) (r := []) (v := (some (.int p5.1))) (w1 := p5.2) (ft219 10 rfl) (by decide +kernel) rfl (Nat.le_of_ble_eq_true rfl) (Nat.le_of_ble_eq_true rfl) (r90 v3 p3.2 _ q6) ?_
      by_cases c23 : p5.1 = 0
      · replace h := ifp c23 h
        refine rn_if_eq_t (ft219 11 rfl) c23 ?_
        refine rn_aload_n (ft219 14 rfl) rfl ?_
        obtain ⟨x7, q8, h⟩ := ob_some h
        refine rn_getR (ft219 15 rfl) q8 ?_
        refine rn_iload_n (ft219 16 rfl) rfl ?_
        obtain ⟨g22, h⟩ := ifg h
        obtain ⟨p9, q10, h⟩ := ob_some h
        refine rn_callV (as := [.int v2]) (k0 := x7) (r := []) (v := (some (.int p9.1))) (w1 := p9.2) (ft219 17 rfl) (by decide +kernel) rfl (Nat.le_of_ble_eq_true rfl) (Nat.le_of_ble_eq_true rfl) (r9 x7 v2 p5.2 _ q10) (by decide +kernel) g22 ?_
        by_cases c21 : p9.1 = 0
        · replace h := ifp c21 h
          refine rn_if_eq_t (ft219 18 rfl) c21 ?_
          refine rn_aload_n (ft219 21 rfl) rfl ?_
          obtain ⟨x11, q12, h⟩ := ob_some h
          refine rn_getR (ft219 22 rfl) q12 ?_
          obtain ⟨g20, h⟩ := ifg h
          obtain ⟨p13, q14, h⟩ := ob_some h
          refine rn_callV (as := []) (k0 := x11) (r := []) (v := none) (w1 := p13) (ft219 23 rfl) (by decide +kernel) rfl (Nat.le_of_ble_eq_true rfl) (Nat.le_of_ble_eq_true rfl) (r208 n x11 p9.2 _ q14) (by decide +kernel) g20 ?_
          refine rn_aload_n (ft219 24 rfl) rfl ?_
          obtain ⟨x15, q16, h⟩ := ob_some h
          refine rn_getR (ft219 25 rfl) q16 ?_
          refine rn_iload_n (ft219 26 rfl) rfl ?_
          refine rn_iload_n (ft219 27 rfl) rfl ?_
          refine rn_bipush (v := (8 : Int32)) (ft219 28 rfl) (by decide) ?_
          refine rn_imul (ft219 29 rfl) ?_
          refine rn_iload_n (ft219 30 rfl) rfl ?_
          refine rn_iadd (ft219 31 rfl) ?_
          obtain ⟨g19, h⟩ := ifg h
          obtain ⟨p17, q18, h⟩ := ob_some h
          refine rn_callV (as := [.int v1, .int ((v2 * (8 : Int32)) + v3)]) (k0 := x15) (r := []) (v := (some (.int p17.1))) (w1 := p17.2) (ft219 32 rfl) (by decide +kernel) rfl (Nat.le_of_ble_eq_true rfl) (Nat.le_of_ble_eq_true rfl) (r97 x15 v1 ((v2 * (8 : Int32)) + v3) p13 _ q18) (by decide +kernel) g19 ?_
          cases h
          exact rn_iretI pr219 (ft219 33 rfl)
        · replace h := ifn c21 h
          refine rn_if_eq_f (ft219 18 rfl) c21 ?_
          refine rn_ldc (v := (-1000003 : Int32)) (ft219 19 rfl) (by decide) rfl ?_
          cases h
          exact rn_iretI pr219 (ft219 20 rfl)
      · replace h := ifn c23 h
        refine rn_if_eq_f (ft219 11 rfl) c23 ?_
        refine rn_ldc (v := (-1000002 : Int32)) (ft219 12 rfl) (by decide) rfl ?_
        cases h
        exact rn_iretI pr219 (ft219 13 rfl)
    · replace h := ifn c24 h
      refine rn_if_eq_f (ft219 6 rfl) c24 ?_
      refine rn_ldc (v := (-1000001 : Int32)) (ft219 7 rfl) (by decide) rfl ?_
      cases h
      exact rn_iretI pr219 (ft219 8 rfl)
/-- NineWheel.counted(IIII)I -/
theorem ft220 : ∀ (i : Nat) {q : Nat × XI}, cd220[i]? = some q → fetch 220 q.1 = some q.2 := ft_of (by decide +kernel)
theorem pr220 : pRt 220 = some .int := rfl
def f220 (n : Nat) (v0 : Nat) (v1 : Int32) (v2 : Int32) (v3 : Int32) (v4 : Int32) (w : Wd) : Option (Int32 × Wd) :=
  (if (wsh w v0).map (fun q => q.1) = some 10 then ob (f98 v0 v1 w) (fun p1 => (if ¬ p1.1 = 0 then some ((-1000001 : Int32), p1.2)
    else ob (f10 v2 p1.2) (fun p3 => (if p3.1 = 0 then ob (f90 v3 p3.2) (fun p5 => (if ¬ p5.1 = 0 then some ((-1000002 : Int32), p5.2)
        else ob (f91 v4 p5.2) (fun p7 => (if p7.1 = 0 then ob (getR p7.2 10 v0 1) (fun x9 => (if (wsh p7.2 x9).map (fun q => q.1) = some 6 then ob (f9 x9 v2 p7.2) (fun p11 => (if p11.1 = 0 then ob (getR p11.2 10 v0 9) (fun x13 => (if (wsh p11.2 x13).map (fun q => q.1) = some 2 then ob (f208 n x13 p11.2) (fun p15 => ob (getR p15 10 v0 10) (fun x17 => ob (getR p15 10 v0 4) (fun x19 => ob (aldR p15 x19 v1) (fun x21 => (if (wsh p15 x17).map (fun q => q.1) = some 0 then ob (f99 n x17 x21 (0 : Int32) p15) (fun p23 => ob (getR p23 10 v0 10) (fun x25 => (if (wsh p23 x25).map (fun q => q.1) = some 0 then ob (f200 n x25 ((v2 * (8 : Int32)) + v3) v4 p23) (fun p27 => ob (f29 p27.1 p27.2) (fun p29 => some (p29.1, p29.2))) else none))) else none))))) else none))
            else some ((-1000003 : Int32), p11.2))) else none))
          else some ((-1000002 : Int32), p7.2)))))
      else some ((-1000001 : Int32), p3.2))))) else none)
set_option maxRecDepth 10000 in
theorem r220 {S : Sc} (n : Nat) (v0 : Nat) (v1 : Int32) (v2 : Int32) (v3 : Int32) (v4 : Int32) (w : Wd) (o : (Int32 × Wd)) (h : f220 n v0 v1 v2 v3 v4 w = some o) : Rn S 220 0 [some (.ref v0), some (.int v1), some (.int v2), some (.int v3), some (.int v4)] [] w (some (.int o.1), o.2) := by
  unfold f220 at h
  refine rn_aload_n (ft220 0 rfl) rfl ?_
  refine rn_iload_n (ft220 1 rfl) rfl ?_
  obtain ⟨g40, h⟩ := ifg h
  obtain ⟨p1, q2, h⟩ := ob_some h
  refine rn_callV (as := [.int v1]) (k0 := v0) (r := []) (v := (some (.int p1.1))) (w1 := p1.2) (ft220 2 rfl) (by decide +kernel) rfl (Nat.le_of_ble_eq_true rfl) (Nat.le_of_ble_eq_true rfl) (r98 v0 v1 w _ q2) (by decide +kernel) g40 ?_
  by_cases c39 : ¬ p1.1 = 0
  · replace h := ifp c39 h
    refine rn_if_ne_t (ft220 3 rfl) c39 ?_
    refine rn_ldc (v := (-1000001 : Int32)) (ft220 7 rfl) (by decide) rfl ?_
    cases h
    exact rn_iretI pr220 (ft220 8 rfl)
  · replace h := ifn c39 h
    refine rn_if_ne_f (ft220 3 rfl) c39 ?_
    refine rn_iload_n (ft220 4 rfl) rfl ?_
    obtain ⟨p3, q4, h⟩ := ob_some h
    refine rn_callS (as := [.int v2]) (r := []) (v := (some (.int p3.1))) (w1 := p3.2) (ft220 5 rfl) (by decide +kernel) rfl (Nat.le_of_ble_eq_true rfl) (Nat.le_of_ble_eq_true rfl) (r10 v2 p1.2 _ q4) ?_
    by_cases c38 : p3.1 = 0
    · replace h := ifp c38 h
      refine rn_if_eq_t (ft220 6 rfl) c38 ?_
      refine rn_iload_n (ft220 9 rfl) rfl ?_
      obtain ⟨p5, q6, h⟩ := ob_some h
      refine rn_callS (as := [.int v3]) (r := []) (v := (some (.int p5.1))) (w1 := p5.2) (ft220 10 rfl) (by decide +kernel) rfl (Nat.le_of_ble_eq_true rfl) (Nat.le_of_ble_eq_true rfl) (r90 v3 p3.2 _ q6) ?_
      by_cases c37 : ¬ p5.1 = 0
      · replace h := ifp c37 h
        refine rn_if_ne_t (ft220 11 rfl) c37 ?_
        refine rn_ldc (v := (-1000002 : Int32)) (ft220 15 rfl) (by decide) rfl ?_
        cases h
        exact rn_iretI pr220 (ft220 16 rfl)
      · replace h := ifn c37 h
        refine rn_if_ne_f (ft220 11 rfl) c37 ?_
        refine rn_iload (ft220 12 rfl) rfl ?_
        obtain ⟨p7, q8, h⟩ := ob_some h
        refine rn_callS (as := [.int v4]) (r := []) (v := (some (.int p7.1))) (w1 := p7.2) (ft220 13 rfl) (by decide +kernel) rfl (Nat.le_of_ble_eq_true rfl) (Nat.le_of_ble_eq_true rfl) (r91 v4 p5.2 _ q8) ?_
        by_cases c36 : p7.1 = 0
        · replace h := ifp c36 h
          refine rn_if_eq_t (ft220 14 rfl) c36 ?_
          refine rn_aload_n (ft220 17 rfl) rfl ?_
          obtain ⟨x9, q10, h⟩ := ob_some h
          refine rn_getR (ft220 18 rfl) q10 ?_
          refine rn_iload_n (ft220 19 rfl) rfl ?_
          obtain ⟨g35, h⟩ := ifg h
          obtain ⟨p11, q12, h⟩ := ob_some h
          refine rn_callV (as := [.int v2]) (k0 := x9) (r := []) (v := (some (.int p11.1))) (w1 := p11.2) (ft220 20 rfl) (by decide +kernel) rfl (Nat.le_of_ble_eq_true rfl) (Nat.le_of_ble_eq_true rfl) (r9 x9 v2 p7.2 _ q12) (by decide +kernel) g35 ?_
          by_cases c34 : p11.1 = 0
          · replace h := ifp c34 h
            refine rn_if_eq_t (ft220 21 rfl) c34 ?_
            refine rn_aload_n (ft220 24 rfl) rfl ?_
            obtain ⟨x13, q14, h⟩ := ob_some h
            refine rn_getR (ft220 25 rfl) q14 ?_
            obtain ⟨g33, h⟩ := ifg h
            obtain ⟨p15, q16, h⟩ := ob_some h
            refine rn_callV (as := []) (k0 := x13) (r := []) (v := none) (w1 := p15) (ft220 26 rfl) (by decide +kernel) rfl (Nat.le_of_ble_eq_true rfl) (Nat.le_of_ble_eq_true rfl) (r208 n x13 p11.2 _ q16) (by decide +kernel) g33 ?_
            refine rn_aload_n (ft220 27 rfl) rfl ?_
            obtain ⟨x17, q18, h⟩ := ob_some h
            refine rn_getR (ft220 28 rfl) q18 ?_
            refine rn_aload_n (ft220 29 rfl) rfl ?_
            obtain ⟨x19, q20, h⟩ := ob_some h
            refine rn_getR (ft220 30 rfl) q20 ?_
            refine rn_iload_n (ft220 31 rfl) rfl ?_
            obtain ⟨x21, q22, h⟩ := ob_some h
            refine rn_aaload (ft220 32 rfl) q22 ?_
            refine rn_iconst (v := (0 : Int32)) (ft220 33 rfl) (by decide) ?_
            obtain ⟨g32, h⟩ := ifg h
            obtain ⟨p23, q24, h⟩ := ob_some h
            refine rn_callV (as := [.ref x21, .int (0 : Int32)]) (k0 := x17) (r := []) (v := none) (w1 := p23) (ft220 34 rfl) (by decide +kernel) rfl (Nat.le_of_ble_eq_true rfl) (Nat.le_of_ble_eq_true rfl) (r99 n x17 x21 (0 : Int32) p15 _ q24) (by decide +kernel) g32 ?_
            refine rn_aload_n (ft220 35 rfl) rfl ?_
            obtain ⟨x25, q26, h⟩ := ob_some h
            refine rn_getR (ft220 36 rfl) q26 ?_
            refine rn_iload_n (ft220 37 rfl) rfl ?_
            refine rn_bipush (v := (8 : Int32)) (ft220 38 rfl) (by decide) ?_
            refine rn_imul (ft220 39 rfl) ?_
            refine rn_iload_n (ft220 40 rfl) rfl ?_
            refine rn_iadd (ft220 41 rfl) ?_
            refine rn_iload (ft220 42 rfl) rfl ?_
            obtain ⟨g31, h⟩ := ifg h
            obtain ⟨p27, q28, h⟩ := ob_some h
            refine rn_callV (as := [.int ((v2 * (8 : Int32)) + v3), .int v4]) (k0 := x25) (r := []) (v := (some (.int p27.1))) (w1 := p27.2) (ft220 43 rfl) (by decide +kernel) rfl (Nat.le_of_ble_eq_true rfl) (Nat.le_of_ble_eq_true rfl) (r200 n x25 ((v2 * (8 : Int32)) + v3) v4 p23 _ q28) (by decide +kernel) g31 ?_
            obtain ⟨p29, q30, h⟩ := ob_some h
            refine rn_callS (as := [.int p27.1]) (r := []) (v := (some (.int p29.1))) (w1 := p29.2) (ft220 44 rfl) (by decide +kernel) rfl (Nat.le_of_ble_eq_true rfl) (Nat.le_of_ble_eq_true rfl) (r29 p27.1 p27.2 _ q30) ?_
            cases h
            exact rn_iretI pr220 (ft220 45 rfl)
          · replace h := ifn c34 h
            refine rn_if_eq_f (ft220 21 rfl) c34 ?_
            refine rn_ldc (v := (-1000003 : Int32)) (ft220 22 rfl) (by decide) rfl ?_
            cases h
            exact rn_iretI pr220 (ft220 23 rfl)
        · replace h := ifn c36 h
          refine rn_if_eq_f (ft220 14 rfl) c36 ?_
          refine rn_ldc (v := (-1000002 : Int32)) (ft220 15 rfl) (by decide) rfl ?_
          cases h
          exact rn_iretI pr220 (ft220 16 rfl)
    · replace h := ifn c38 h
      refine rn_if_eq_f (ft220 6 rfl) c38 ?_
      refine rn_ldc (v := (-1000001 : Int32)) (ft220 7 rfl) (by decide) rfl ?_
      cases h
      exact rn_iretI pr220 (ft220 8 rfl)
/-- NineWheel.sail(LNineWheel$Rule;II)V -/
theorem ft221 : ∀ (i : Nat) {q : Nat × XI}, cd221[i]? = some q → fetch 221 q.1 = some q.2 := ft_of (by decide +kernel)
theorem pr221 : pRt 221 = none := rfl
def f221 (n : Nat) (v0 : Nat) (v1 : Nat) (v2 : Int32) (v3 : Int32) (w : Wd) : Option Wd :=
  ob (getR w 10 v0 9) (fun x1 => (if (wsh w x1).map (fun q => q.1) = some 2 then ob (f208 n x1 w) (fun p3 => ob (getR p3 10 v0 10) (fun x5 => (if (wsh p3 x5).map (fun q => q.1) = some 0 then ob (f99 n x5 v1 (0 : Int32) p3) (fun p7 => ob (getR p7 10 v0 11) (fun x9 => ob (getR p7 10 v0 1) (fun x11 => (if (wsh p7 x11).map (fun q => q.1) = some 6 then ob (f30 x11 p7) (fun p13 => (if (wsh p13.2 x9).map (fun q => q.1) = some 4 then ob (f209 n x9 v1 p13.1 v2 v3 p13.2) (fun p15 => some p15) else none)) else none)))) else none))) else none))
set_option maxRecDepth 10000 in
theorem r221 {S : Sc} (n : Nat) (v0 : Nat) (v1 : Nat) (v2 : Int32) (v3 : Int32) (w : Wd) (o : Wd) (h : f221 n v0 v1 v2 v3 w = some o) : Rn S 221 0 [some (.ref v0), some (.ref v1), some (.int v2), some (.int v3)] [] w (none, o) := by
  unfold f221 at h
  refine rn_aload_n (ft221 0 rfl) rfl ?_
  obtain ⟨x1, q2, h⟩ := ob_some h
  refine rn_getR (ft221 1 rfl) q2 ?_
  obtain ⟨g20, h⟩ := ifg h
  obtain ⟨p3, q4, h⟩ := ob_some h
  refine rn_callV (as := []) (k0 := x1) (r := []) (v := none) (w1 := p3) (ft221 2 rfl) (by decide +kernel) rfl (Nat.le_of_ble_eq_true rfl) (Nat.le_of_ble_eq_true rfl) (r208 n x1 w _ q4) (by decide +kernel) g20 ?_
  refine rn_aload_n (ft221 3 rfl) rfl ?_
  obtain ⟨x5, q6, h⟩ := ob_some h
  refine rn_getR (ft221 4 rfl) q6 ?_
  refine rn_aload_n (ft221 5 rfl) rfl ?_
  refine rn_iconst (v := (0 : Int32)) (ft221 6 rfl) (by decide) ?_
  obtain ⟨g19, h⟩ := ifg h
  obtain ⟨p7, q8, h⟩ := ob_some h
  refine rn_callV (as := [.ref v1, .int (0 : Int32)]) (k0 := x5) (r := []) (v := none) (w1 := p7) (ft221 7 rfl) (by decide +kernel) rfl (Nat.le_of_ble_eq_true rfl) (Nat.le_of_ble_eq_true rfl) (r99 n x5 v1 (0 : Int32) p3 _ q8) (by decide +kernel) g19 ?_
  refine rn_aload_n (ft221 8 rfl) rfl ?_
  obtain ⟨x9, q10, h⟩ := ob_some h
  refine rn_getR (ft221 9 rfl) q10 ?_
  refine rn_aload_n (ft221 10 rfl) rfl ?_
  refine rn_aload_n (ft221 11 rfl) rfl ?_
  obtain ⟨x11, q12, h⟩ := ob_some h
  refine rn_getR (ft221 12 rfl) q12 ?_
  obtain ⟨g18, h⟩ := ifg h
  obtain ⟨p13, q14, h⟩ := ob_some h
  refine rn_callV (as := []) (k0 := x11) (r := [.ref v1, .ref x9]) (v := (some (.int p13.1))) (w1 := p13.2) (ft221 13 rfl) (by decide +kernel) rfl (Nat.le_of_ble_eq_true rfl) (Nat.le_of_ble_eq_true rfl) (r30 x11 p7 _ q14) (by decide +kernel) g18 ?_
  refine rn_iload_n (ft221 14 rfl) rfl ?_
  refine rn_iload_n (ft221 15 rfl) rfl ?_
  obtain ⟨g17, h⟩ := ifg h
  obtain ⟨p15, q16, h⟩ := ob_some h
  refine rn_callV (as := [.ref v1, .int p13.1, .int v2, .int v3]) (k0 := x9) (r := []) (v := none) (w1 := p15) (ft221 16 rfl) (by decide +kernel) rfl (Nat.le_of_ble_eq_true rfl) (Nat.le_of_ble_eq_true rfl) (r209 n x9 v1 p13.1 v2 v3 p13.2 _ q16) (by decide +kernel) g17 ?_
  cases h
  exact rn_vret pr221 (ft221 17 rfl)
/-- NineWheel.best(IIII)I -/
theorem ft222 : ∀ (i : Nat) {q : Nat × XI}, cd222[i]? = some q → fetch 222 q.1 = some q.2 := ft_of (by decide +kernel)
theorem pr222 : pRt 222 = some .int := rfl
def f222 (n : Nat) (v0 : Nat) (v1 : Int32) (v2 : Int32) (v3 : Int32) (v4 : Int32) (w : Wd) : Option (Int32 × Wd) :=
  (if (wsh w v0).map (fun q => q.1) = some 10 then ob (f83 v0 v1 w) (fun p1 => (if ¬ p1.1 = 0 then some ((-1000001 : Int32), p1.2)
    else ob (f10 v2 p1.2) (fun p3 => (if p3.1 = 0 then ob (f90 v3 p3.2) (fun p5 => (if ¬ p5.1 = 0 then some ((-1000002 : Int32), p5.2)
        else ob (f0 v4 (1 : Int32) (24 : Int32) p5.2) (fun p7 => (if p7.1 = 0 then ob (getR p7.2 10 v0 1) (fun x9 => (if (wsh p7.2 x9).map (fun q => q.1) = some 6 then ob (f9 x9 v2 p7.2) (fun p11 => (if p11.1 = 0 then ob (getR p11.2 10 v0 10) (fun x13 => (if (wsh p11.2 x13).map (fun q => q.1) = some 0 then ob (f34 x13 p11.2) (fun p15 => ob (getR p15 10 v0 12) (fun x17 => (if (wsh p15 x17).map (fun q => q.1) = some 1 then ob (f210 n x17 v1 ((v2 * (8 : Int32)) + v3) v4 p15) (fun p19 => some (p19.1, p19.2)) else none))) else none))
            else some ((-1000003 : Int32), p11.2))) else none))
          else some ((-1000002 : Int32), p7.2)))))
      else some ((-1000001 : Int32), p3.2))))) else none)
set_option maxRecDepth 10000 in
theorem r222 {S : Sc} (n : Nat) (v0 : Nat) (v1 : Int32) (v2 : Int32) (v3 : Int32) (v4 : Int32) (w : Wd) (o : (Int32 × Wd)) (h : f222 n v0 v1 v2 v3 v4 w = some o) : Rn S 222 0 [some (.ref v0), some (.int v1), some (.int v2), some (.int v3), some (.int v4)] [] w (some (.int o.1), o.2) := by
  unfold f222 at h
  refine rn_aload_n (ft222 0 rfl) rfl ?_
  refine rn_iload_n (ft222 1 rfl) rfl ?_
  obtain ⟨g29, h⟩ := ifg h
  obtain ⟨p1, q2, h⟩ := ob_some h
  refine rn_callV (as := [.int v1]) (k0 := v0) (r := []) (v := (some (.int p1.1))) (w1 := p1.2) (ft222 2 rfl) (by decide +kernel) rfl (Nat.le_of_ble_eq_true rfl) (Nat.le_of_ble_eq_true rfl) (r83 v0 v1 w _ q2) (by decide +kernel) g29 ?_
  by_cases c28 : ¬ p1.1 = 0
  · replace h := ifp c28 h
    refine rn_if_ne_t (ft222 3 rfl) c28 ?_
    refine rn_ldc (v := (-1000001 : Int32)) (ft222 7 rfl) (by decide) rfl ?_
    cases h
    exact rn_iretI pr222 (ft222 8 rfl)
  · replace h := ifn c28 h
    refine rn_if_ne_f (ft222 3 rfl) c28 ?_
    refine rn_iload_n (ft222 4 rfl) rfl ?_
    obtain ⟨p3, q4, h⟩ := ob_some h
    refine rn_callS (as := [.int v2]) (r := []) (v := (some (.int p3.1))) (w1 := p3.2) (ft222 5 rfl) (by decide +kernel) rfl (Nat.le_of_ble_eq_true rfl) (Nat.le_of_ble_eq_true rfl) (r10 v2 p1.2 _ q4) ?_
    by_cases c27 : p3.1 = 0
    · replace h := ifp c27 h
      refine rn_if_eq_t (ft222 6 rfl) c27 ?_
      refine rn_iload_n (ft222 9 rfl) rfl ?_
      obtain ⟨p5, q6, h⟩ := ob_some h
      refine rn_callS (as := [.int v3]) (r := []) (v := (some (.int p5.1))) (w1 := p5.2) (ft222 10 rfl) (by decide +kernel) rfl (Nat.le_of_ble_eq_true rfl) (Nat.le_of_ble_eq_true rfl) (r90 v3 p3.2 _ q6) ?_
      by_cases c26 : ¬ p5.1 = 0
      · replace h := ifp c26 h
        refine rn_if_ne_t (ft222 11 rfl) c26 ?_
        refine rn_ldc (v := (-1000002 : Int32)) (ft222 17 rfl) (by decide) rfl ?_
        cases h
        exact rn_iretI pr222 (ft222 18 rfl)
      · replace h := ifn c26 h
        refine rn_if_ne_f (ft222 11 rfl) c26 ?_
        refine rn_iload (ft222 12 rfl) rfl ?_
        refine rn_iconst (v := (1 : Int32)) (ft222 13 rfl) (by decide) ?_
        refine rn_bipush (v := (24 : Int32)) (ft222 14 rfl) (by decide) ?_
        obtain ⟨p7, q8, h⟩ := ob_some h
        refine rn_callS (as := [.int v4, .int (1 : Int32), .int (24 : Int32)]) (r := []) (v := (some (.int p7.1))) (w1 := p7.2) (ft222 15 rfl) (by decide +kernel) rfl (Nat.le_of_ble_eq_true rfl) (Nat.le_of_ble_eq_true rfl) (r0 v4 (1 : Int32) (24 : Int32) p5.2 _ q8) ?_
        by_cases c25 : p7.1 = 0
        · replace h := ifp c25 h
          refine rn_if_eq_t (ft222 16 rfl) c25 ?_
          refine rn_aload_n (ft222 19 rfl) rfl ?_
          obtain ⟨x9, q10, h⟩ := ob_some h
          refine rn_getR (ft222 20 rfl) q10 ?_
          refine rn_iload_n (ft222 21 rfl) rfl ?_
          obtain ⟨g24, h⟩ := ifg h
          obtain ⟨p11, q12, h⟩ := ob_some h
          refine rn_callV (as := [.int v2]) (k0 := x9) (r := []) (v := (some (.int p11.1))) (w1 := p11.2) (ft222 22 rfl) (by decide +kernel) rfl (Nat.le_of_ble_eq_true rfl) (Nat.le_of_ble_eq_true rfl) (r9 x9 v2 p7.2 _ q12) (by decide +kernel) g24 ?_
          by_cases c23 : p11.1 = 0
          · replace h := ifp c23 h
            refine rn_if_eq_t (ft222 23 rfl) c23 ?_
            refine rn_aload_n (ft222 26 rfl) rfl ?_
            obtain ⟨x13, q14, h⟩ := ob_some h
            refine rn_getR (ft222 27 rfl) q14 ?_
            obtain ⟨g22, h⟩ := ifg h
            obtain ⟨p15, q16, h⟩ := ob_some h
            refine rn_callV (as := []) (k0 := x13) (r := []) (v := none) (w1 := p15) (ft222 28 rfl) (by decide +kernel) rfl (Nat.le_of_ble_eq_true rfl) (Nat.le_of_ble_eq_true rfl) (r34 x13 p11.2 _ q16) (by decide +kernel) g22 ?_
            refine rn_aload_n (ft222 29 rfl) rfl ?_
            obtain ⟨x17, q18, h⟩ := ob_some h
            refine rn_getR (ft222 30 rfl) q18 ?_
            refine rn_iload_n (ft222 31 rfl) rfl ?_
            refine rn_iload_n (ft222 32 rfl) rfl ?_
            refine rn_bipush (v := (8 : Int32)) (ft222 33 rfl) (by decide) ?_
            refine rn_imul (ft222 34 rfl) ?_
            refine rn_iload_n (ft222 35 rfl) rfl ?_
            refine rn_iadd (ft222 36 rfl) ?_
            refine rn_iload (ft222 37 rfl) rfl ?_
            obtain ⟨g21, h⟩ := ifg h
            obtain ⟨p19, q20, h⟩ := ob_some h
            refine rn_callV (as := [.int v1, .int ((v2 * (8 : Int32)) + v3), .int v4]) (k0 := x17) (r := []) (v := (some (.int p19.1))) (w1 := p19.2) (ft222 38 rfl) (by decide +kernel) rfl (Nat.le_of_ble_eq_true rfl) (Nat.le_of_ble_eq_true rfl) (r210 n x17 v1 ((v2 * (8 : Int32)) + v3) v4 p15 _ q20) (by decide +kernel) g21 ?_
            cases h
            exact rn_iretI pr222 (ft222 39 rfl)
          · replace h := ifn c23 h
            refine rn_if_eq_f (ft222 23 rfl) c23 ?_
            refine rn_ldc (v := (-1000003 : Int32)) (ft222 24 rfl) (by decide) rfl ?_
            cases h
            exact rn_iretI pr222 (ft222 25 rfl)
        · replace h := ifn c25 h
          refine rn_if_eq_f (ft222 16 rfl) c25 ?_
          refine rn_ldc (v := (-1000002 : Int32)) (ft222 17 rfl) (by decide) rfl ?_
          cases h
          exact rn_iretI pr222 (ft222 18 rfl)
    · replace h := ifn c27 h
      refine rn_if_eq_f (ft222 6 rfl) c27 ?_
      refine rn_ldc (v := (-1000001 : Int32)) (ft222 7 rfl) (by decide) rfl ?_
      cases h
      exact rn_iretI pr222 (ft222 8 rfl)
/-- NineWheel.course(III)I -/
theorem ft223 : ∀ (i : Nat) {q : Nat × XI}, cd223[i]? = some q → fetch 223 q.1 = some q.2 := ft_of (by decide +kernel)
theorem pr223 : pRt 223 = some .int := rfl
def f223 (n : Nat) (v0 : Nat) (v1 : Int32) (v2 : Int32) (v3 : Int32) (w : Wd) : Option (Int32 × Wd) :=
  (if (wsh w v0).map (fun q => q.1) = some 10 then ob (f83 v0 v1 w) (fun p1 => (if p1.1 = 0 then ob (f0 v2 (1 : Int32) (24 : Int32) p1.2) (fun p3 => (if p3.1 = 0 then ob (f0 v3 (0 : Int32) (v2 - (1 : Int32)) p3.2) (fun p5 => (if p5.1 = 0 then ob (getR p5.2 10 v0 10) (fun x7 => (if (wsh p5.2 x7).map (fun q => q.1) = some 0 then ob (f34 x7 p5.2) (fun p9 => ob (getR p9 10 v0 12) (fun x11 => ob (getR p9 10 v0 1) (fun x13 => (if (wsh p9 x13).map (fun q => q.1) = some 6 then ob (f30 x13 p9) (fun p15 => (if (wsh p15.2 x11).map (fun q => q.1) = some 1 then ob (f210 n x11 v1 p15.1 v2 p15.2) (fun p17 => ob (getR p17.2 10 v0 12) (fun x19 => ob (getR p17.2 10 v0 1) (fun x21 => (if (wsh p17.2 x21).map (fun q => q.1) = some 6 then ob (f30 x21 p17.2) (fun p23 => (if (wsh p23.2 x19).map (fun q => q.1) = some 1 then ob (f187 n x19 p23.1 v3 p23.2) (fun p25 => some (p25.1, p25.2)) else none)) else none)))) else none)) else none)))) else none))
        else some ((9 : Int32), p5.2)))
      else some ((-1000002 : Int32), p3.2)))
    else some ((-1000001 : Int32), p1.2))) else none)
set_option maxRecDepth 10000 in
theorem r223 {S : Sc} (n : Nat) (v0 : Nat) (v1 : Int32) (v2 : Int32) (v3 : Int32) (w : Wd) (o : (Int32 × Wd)) (h : f223 n v0 v1 v2 v3 w = some o) : Rn S 223 0 [some (.ref v0), some (.int v1), some (.int v2), some (.int v3)] [] w (some (.int o.1), o.2) := by
  unfold f223 at h
  refine rn_aload_n (ft223 0 rfl) rfl ?_
  refine rn_iload_n (ft223 1 rfl) rfl ?_
  obtain ⟨g35, h⟩ := ifg h
  obtain ⟨p1, q2, h⟩ := ob_some h
  refine rn_callV (as := [.int v1]) (k0 := v0) (r := []) (v := (some (.int p1.1))) (w1 := p1.2) (ft223 2 rfl) (by decide +kernel) rfl (Nat.le_of_ble_eq_true rfl) (Nat.le_of_ble_eq_true rfl) (r83 v0 v1 w _ q2) (by decide +kernel) g35 ?_
  by_cases c34 : p1.1 = 0
  · replace h := ifp c34 h
    refine rn_if_eq_t (ft223 3 rfl) c34 ?_
    refine rn_iload_n (ft223 6 rfl) rfl ?_
    refine rn_iconst (v := (1 : Int32)) (ft223 7 rfl) (by decide) ?_
    refine rn_bipush (v := (24 : Int32)) (ft223 8 rfl) (by decide) ?_
    obtain ⟨p3, q4, h⟩ := ob_some h
    refine rn_callS (as := [.int v2, .int (1 : Int32), .int (24 : Int32)]) (r := []) (v := (some (.int p3.1))) (w1 := p3.2) (ft223 9 rfl) (by decide +kernel) rfl (Nat.le_of_ble_eq_true rfl) (Nat.le_of_ble_eq_true rfl) (r0 v2 (1 : Int32) (24 : Int32) p1.2 _ q4) ?_
    by_cases c33 : p3.1 = 0
    · replace h := ifp c33 h
      refine rn_if_eq_t (ft223 10 rfl) c33 ?_
      refine rn_iload_n (ft223 13 rfl) rfl ?_
      refine rn_iconst (v := (0 : Int32)) (ft223 14 rfl) (by decide) ?_
      refine rn_iload_n (ft223 15 rfl) rfl ?_
      refine rn_iconst (v := (1 : Int32)) (ft223 16 rfl) (by decide) ?_
      refine rn_isub (ft223 17 rfl) ?_
      obtain ⟨p5, q6, h⟩ := ob_some h
      refine rn_callS (as := [.int v3, .int (0 : Int32), .int (v2 - (1 : Int32))]) (r := []) (v := (some (.int p5.1))) (w1 := p5.2) (ft223 18 rfl) (by decide +kernel) rfl (Nat.le_of_ble_eq_true rfl) (Nat.le_of_ble_eq_true rfl) (r0 v3 (0 : Int32) (v2 - (1 : Int32)) p3.2 _ q6) ?_
      by_cases c32 : p5.1 = 0
      · replace h := ifp c32 h
        refine rn_if_eq_t (ft223 19 rfl) c32 ?_
        refine rn_aload_n (ft223 22 rfl) rfl ?_
        obtain ⟨x7, q8, h⟩ := ob_some h
        refine rn_getR (ft223 23 rfl) q8 ?_
        obtain ⟨g31, h⟩ := ifg h
        obtain ⟨p9, q10, h⟩ := ob_some h
        refine rn_callV (as := []) (k0 := x7) (r := []) (v := none) (w1 := p9) (ft223 24 rfl) (by decide +kernel) rfl (Nat.le_of_ble_eq_true rfl) (Nat.le_of_ble_eq_true rfl) (r34 x7 p5.2 _ q10) (by decide +kernel) g31 ?_
        refine rn_aload_n (ft223 25 rfl) rfl ?_
        obtain ⟨x11, q12, h⟩ := ob_some h
        refine rn_getR (ft223 26 rfl) q12 ?_
        refine rn_iload_n (ft223 27 rfl) rfl ?_
        refine rn_aload_n (ft223 28 rfl) rfl ?_
        obtain ⟨x13, q14, h⟩ := ob_some h
        refine rn_getR (ft223 29 rfl) q14 ?_
        obtain ⟨g30, h⟩ := ifg h
        obtain ⟨p15, q16, h⟩ := ob_some h
        refine rn_callV (as := []) (k0 := x13) (r := [.int v1, .ref x11]) (v := (some (.int p15.1))) (w1 := p15.2) (ft223 30 rfl) (by decide +kernel) rfl (Nat.le_of_ble_eq_true rfl) (Nat.le_of_ble_eq_true rfl) (r30 x13 p9 _ q16) (by decide +kernel) g30 ?_
        refine rn_iload_n (ft223 31 rfl) rfl ?_
        obtain ⟨g29, h⟩ := ifg h
        obtain ⟨p17, q18, h⟩ := ob_some h
        refine rn_callV (as := [.int v1, .int p15.1, .int v2]) (k0 := x11) (r := []) (v := (some (.int p17.1))) (w1 := p17.2) (ft223 32 rfl) (by decide +kernel) rfl (Nat.le_of_ble_eq_true rfl) (Nat.le_of_ble_eq_true rfl) (r210 n x11 v1 p15.1 v2 p15.2 _ q18) (by decide +kernel) g29 ?_
        refine rn_pop (ft223 33 rfl) rfl ?_
        refine rn_aload_n (ft223 34 rfl) rfl ?_
        obtain ⟨x19, q20, h⟩ := ob_some h
        refine rn_getR (ft223 35 rfl) q20 ?_
        refine rn_aload_n (ft223 36 rfl) rfl ?_
        obtain ⟨x21, q22, h⟩ := ob_some h
        refine rn_getR (ft223 37 rfl) q22 ?_
        obtain ⟨g28, h⟩ := ifg h
        obtain ⟨p23, q24, h⟩ := ob_some h
        refine rn_callV (as := []) (k0 := x21) (r := [.ref x19]) (v := (some (.int p23.1))) (w1 := p23.2) (ft223 38 rfl) (by decide +kernel) rfl (Nat.le_of_ble_eq_true rfl) (Nat.le_of_ble_eq_true rfl) (r30 x21 p17.2 _ q24) (by decide +kernel) g28 ?_
        refine rn_iload_n (ft223 39 rfl) rfl ?_
        obtain ⟨g27, h⟩ := ifg h
        obtain ⟨p25, q26, h⟩ := ob_some h
        refine rn_callV (as := [.int p23.1, .int v3]) (k0 := x19) (r := []) (v := (some (.int p25.1))) (w1 := p25.2) (ft223 40 rfl) (by decide +kernel) rfl (Nat.le_of_ble_eq_true rfl) (Nat.le_of_ble_eq_true rfl) (r187 n x19 p23.1 v3 p23.2 _ q26) (by decide +kernel) g27 ?_
        cases h
        exact rn_iretI pr223 (ft223 41 rfl)
      · replace h := ifn c32 h
        refine rn_if_eq_f (ft223 19 rfl) c32 ?_
        refine rn_bipush (v := (9 : Int32)) (ft223 20 rfl) (by decide) ?_
        cases h
        exact rn_iretI pr223 (ft223 21 rfl)
    · replace h := ifn c33 h
      refine rn_if_eq_f (ft223 10 rfl) c33 ?_
      refine rn_ldc (v := (-1000002 : Int32)) (ft223 11 rfl) (by decide) rfl ?_
      cases h
      exact rn_iretI pr223 (ft223 12 rfl)
  · replace h := ifn c34 h
    refine rn_if_eq_f (ft223 3 rfl) c34 ?_
    refine rn_ldc (v := (-1000001 : Int32)) (ft223 4 rfl) (by decide) rfl ?_
    cases h
    exact rn_iretI pr223 (ft223 5 rfl)
/-- NineWheel.gained(LNineWheel$Rule;II)I -/
theorem ft224 : ∀ (i : Nat) {q : Nat × XI}, cd224[i]? = some q → fetch 224 q.1 = some q.2 := ft_of (by decide +kernel)
theorem pr224 : pRt 224 = some .int := rfl
def f224 (n : Nat) (v0 : Nat) (v1 : Nat) (v2 : Int32) (v3 : Int32) (w : Wd) : Option (Int32 × Wd) :=
  ob (getR w 10 v0 9) (fun x1 => (if (wsh w x1).map (fun q => q.1) = some 2 then ob (f208 n x1 w) (fun p3 => ob (getR p3 10 v0 10) (fun x5 => (if (wsh p3 x5).map (fun q => q.1) = some 0 then ob (f99 n x5 v1 v2 p3) (fun p7 => ob (getR p7 10 v0 12) (fun x9 => ob (getR p7 10 v0 1) (fun x11 => (if (wsh p7 x11).map (fun q => q.1) = some 6 then ob (f30 x11 p7) (fun p13 => (if (wsh p13.2 x9).map (fun q => q.1) = some 1 then ob (f210 n x9 v2 p13.1 v3 p13.2) (fun p15 => ob (getR p15.2 10 v0 10) (fun x17 => (if (wsh p15.2 x17).map (fun q => q.1) = some 0 then ob (f99 n x17 v1 (0 : Int32) p15.2) (fun p19 => ob (getR p19 10 v0 12) (fun x21 => ob (getR p19 10 v0 1) (fun x23 => (if (wsh p19 x23).map (fun q => q.1) = some 6 then ob (f30 x23 p19) (fun p25 => (if (wsh p25.2 x21).map (fun q => q.1) = some 1 then ob (f210 n x21 v2 p25.1 v3 p25.2) (fun p27 => some ((p15.1 - p27.1), p27.2)) else none)) else none)))) else none))) else none)) else none)))) else none))) else none))
set_option maxRecDepth 10000 in
theorem r224 {S : Sc} (n : Nat) (v0 : Nat) (v1 : Nat) (v2 : Int32) (v3 : Int32) (w : Wd) (o : (Int32 × Wd)) (h : f224 n v0 v1 v2 v3 w = some o) : Rn S 224 0 [some (.ref v0), some (.ref v1), some (.int v2), some (.int v3), none] [] w (some (.int o.1), o.2) := by
  unfold f224 at h
  refine rn_aload_n (ft224 0 rfl) rfl ?_
  obtain ⟨x1, q2, h⟩ := ob_some h
  refine rn_getR (ft224 1 rfl) q2 ?_
  obtain ⟨g35, h⟩ := ifg h
  obtain ⟨p3, q4, h⟩ := ob_some h
  refine rn_callV (as := []) (k0 := x1) (r := []) (v := none) (w1 := p3) (ft224 2 rfl) (by decide +kernel) rfl (Nat.le_of_ble_eq_true rfl) (Nat.le_of_ble_eq_true rfl) (r208 n x1 w _ q4) (by decide +kernel) g35 ?_
  refine rn_aload_n (ft224 3 rfl) rfl ?_
  obtain ⟨x5, q6, h⟩ := ob_some h
  refine rn_getR (ft224 4 rfl) q6 ?_
  refine rn_aload_n (ft224 5 rfl) rfl ?_
  refine rn_iload_n (ft224 6 rfl) rfl ?_
  obtain ⟨g34, h⟩ := ifg h
  obtain ⟨p7, q8, h⟩ := ob_some h
  refine rn_callV (as := [.ref v1, .int v2]) (k0 := x5) (r := []) (v := none) (w1 := p7) (ft224 7 rfl) (by decide +kernel) rfl (Nat.le_of_ble_eq_true rfl) (Nat.le_of_ble_eq_true rfl) (r99 n x5 v1 v2 p3 _ q8) (by decide +kernel) g34 ?_
  refine rn_aload_n (ft224 8 rfl) rfl ?_
  obtain ⟨x9, q10, h⟩ := ob_some h
  refine rn_getR (ft224 9 rfl) q10 ?_
  refine rn_iload_n (ft224 10 rfl) rfl ?_
  refine rn_aload_n (ft224 11 rfl) rfl ?_
  obtain ⟨x11, q12, h⟩ := ob_some h
  refine rn_getR (ft224 12 rfl) q12 ?_
  obtain ⟨g33, h⟩ := ifg h
  obtain ⟨p13, q14, h⟩ := ob_some h
  refine rn_callV (as := []) (k0 := x11) (r := [.int v2, .ref x9]) (v := (some (.int p13.1))) (w1 := p13.2) (ft224 13 rfl) (by decide +kernel) rfl (Nat.le_of_ble_eq_true rfl) (Nat.le_of_ble_eq_true rfl) (r30 x11 p7 _ q14) (by decide +kernel) g33 ?_
  refine rn_iload_n (ft224 14 rfl) rfl ?_
  obtain ⟨g32, h⟩ := ifg h
  obtain ⟨p15, q16, h⟩ := ob_some h
  refine rn_callV (as := [.int v2, .int p13.1, .int v3]) (k0 := x9) (r := []) (v := (some (.int p15.1))) (w1 := p15.2) (ft224 15 rfl) (by decide +kernel) rfl (Nat.le_of_ble_eq_true rfl) (Nat.le_of_ble_eq_true rfl) (r210 n x9 v2 p13.1 v3 p13.2 _ q16) (by decide +kernel) g32 ?_
  refine rn_istore (ls' := [some (.ref v0), some (.ref v1), some (.int v2), some (.int v3), some (.int p15.1)]) (ft224 16 rfl) rfl ?_
  refine rn_aload_n (ft224 17 rfl) rfl ?_
  obtain ⟨x17, q18, h⟩ := ob_some h
  refine rn_getR (ft224 18 rfl) q18 ?_
  refine rn_aload_n (ft224 19 rfl) rfl ?_
  refine rn_iconst (v := (0 : Int32)) (ft224 20 rfl) (by decide) ?_
  obtain ⟨g31, h⟩ := ifg h
  obtain ⟨p19, q20, h⟩ := ob_some h
  refine rn_callV (as := [.ref v1, .int (0 : Int32)]) (k0 := x17) (r := []) (v := none) (w1 := p19) (ft224 21 rfl) (by decide +kernel) rfl (Nat.le_of_ble_eq_true rfl) (Nat.le_of_ble_eq_true rfl) (r99 n x17 v1 (0 : Int32) p15.2 _ q20) (by decide +kernel) g31 ?_
  refine rn_iload (ft224 22 rfl) rfl ?_
  refine rn_aload_n (ft224 23 rfl) rfl ?_
  obtain ⟨x21, q22, h⟩ := ob_some h
  refine rn_getR (ft224 24 rfl) q22 ?_
  refine rn_iload_n (ft224 25 rfl) rfl ?_
  refine rn_aload_n (ft224 26 rfl) rfl ?_
  obtain ⟨x23, q24, h⟩ := ob_some h
  refine rn_getR (ft224 27 rfl) q24 ?_
  obtain ⟨g30, h⟩ := ifg h
  obtain ⟨p25, q26, h⟩ := ob_some h
  refine rn_callV (as := []) (k0 := x23) (r := [.int v2, .ref x21, .int p15.1]) (v := (some (.int p25.1))) (w1 := p25.2) (ft224 28 rfl) (by decide +kernel) rfl (Nat.le_of_ble_eq_true rfl) (Nat.le_of_ble_eq_true rfl) (r30 x23 p19 _ q26) (by decide +kernel) g30 ?_
  refine rn_iload_n (ft224 29 rfl) rfl ?_
  obtain ⟨g29, h⟩ := ifg h
  obtain ⟨p27, q28, h⟩ := ob_some h
  refine rn_callV (as := [.int v2, .int p25.1, .int v3]) (k0 := x21) (r := [.int p15.1]) (v := (some (.int p27.1))) (w1 := p27.2) (ft224 30 rfl) (by decide +kernel) rfl (Nat.le_of_ble_eq_true rfl) (Nat.le_of_ble_eq_true rfl) (r210 n x21 v2 p25.1 v3 p25.2 _ q28) (by decide +kernel) g29 ?_
  refine rn_isub (ft224 31 rfl) ?_
  cases h
  exact rn_iretI pr224 (ft224 32 rfl)
