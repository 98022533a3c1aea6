/-! THE METHODS AS FUNCTIONS, 20 -/
/-- NineWheel$Crew.ready()V -/
theorem ft208 : ∀ (i : Nat) {q : Nat × XI}, cd208[i]? = some q → fetch 208 q.1 = some q.2 := ft_of (by decide +kernel)
theorem pr208 : pRt 208 = none := rfl
def f208_J62 (n : Nat) (rec14 : Nat → Int32 → Int32 → Wd → Option Wd) (K14 : Nat → Int32 → Wd → Option Wd) (v0 : Nat) (v1 : Int32) (v2 : Int32) (w : Wd) : Option Wd :=
  ob (f16 v1 v2 w) (fun p19 => (if ¬ p19.1 = 0 then rec14 v0 v1 (v2 + (1 : Int32)) p19.2
    else (if (wsh p19.2 v0).map (fun q => q.1) = some 2 then ob (f199 n v0 v2 p19.2) (fun p21 => rec14 v0 v1 (v2 + (1 : Int32)) p21) else none)))
set_option maxRecDepth 10000 in
theorem rf208_J62 {S : Sc} (n : Nat) (rec14 : Nat → Int32 → Int32 → Wd → Option Wd) (K14 : Nat → Int32 → Wd → Option Wd) (v0 : Nat) (v1 : Int32) (v2 : Int32) (w : Wd) (o : Wd) (hrec14 : ∀ (y0 : Nat) (y1 : Int32) (y2 : Int32) (w : Wd) (o : Wd), rec14 y0 y1 y2 w = some o → Rn S 208 26 [some (.ref y0), some (.int y1), some (.int y2), none, none] [] w (none, o)) (hK14 : ∀ (y0 : Nat) (y1 : Int32) (w : Wd) (o : Wd), K14 y0 y1 w = some o → Rn S 208 81 [some (.ref y0), some (.int y1), none, none, none] [] w (none, o)) (h : f208_J62 n rec14 K14 v0 v1 v2 w = some o) : Rn S 208 62 [some (.ref v0), some (.int v1), some (.int v2), none, none] [] w (none, o) := by
  unfold f208_J62 at h
  refine rn_iload_n (ft208 32 rfl) rfl ?_
  refine rn_iload_n (ft208 33 rfl) rfl ?_
  obtain ⟨p19, q20, h⟩ := ob_some h
  refine rn_callS (as := [.int v1, .int v2]) (r := []) (v := (some (.int p19.1))) (w1 := p19.2) (ft208 34 rfl) (by decide +kernel) rfl (Nat.le_of_ble_eq_true rfl) (Nat.le_of_ble_eq_true rfl) (r16 v1 v2 w _ q20) ?_
  by_cases c24 : ¬ p19.1 = 0
  · replace h := ifp c24 h
    refine rn_if_ne_t (ft208 35 rfl) c24 ?_
    refine rn_iinc (u := 1) (ls' := [some (.ref v0), some (.int v1), some (.int (v2 + (1 : Int32))), none, none]) (ft208 39 rfl) rfl (by decide) rfl ?_
    refine rn_goto (ft208 40 rfl) ?_
    exact rn_forget (ls := [some (.ref v0), some (.int v1), some (.int (v2 + (1 : Int32))), none, none]) (And.intro rfl (And.intro rfl (And.intro rfl trivial))) (hrec14 v0 v1 (v2 + (1 : Int32)) p19.2 _ h)
  · replace h := ifn c24 h
    refine rn_if_ne_f (ft208 35 rfl) c24 ?_
    refine rn_aload_n (ft208 36 rfl) rfl ?_
    refine rn_iload_n (ft208 37 rfl) rfl ?_
    obtain ⟨g23, h⟩ := ifg h
    obtain ⟨p21, q22, h⟩ := ob_some h
    refine rn_callV (as := [.int v2]) (k0 := v0) (r := []) (v := none) (w1 := p21) (ft208 38 rfl) (by decide +kernel) rfl (Nat.le_of_ble_eq_true rfl) (Nat.le_of_ble_eq_true rfl) (r199 n v0 v2 p19.2 _ q22) (by decide +kernel) g23 ?_
    refine rn_iinc (u := 1) (ls' := [some (.ref v0), some (.int v1), some (.int (v2 + (1 : Int32))), none, none]) (ft208 39 rfl) rfl (by decide) rfl ?_
    refine rn_goto (ft208 40 rfl) ?_
    exact rn_forget (ls := [some (.ref v0), some (.int v1), some (.int (v2 + (1 : Int32))), none, none]) (And.intro rfl (And.intro rfl (And.intro rfl trivial))) (hrec14 v0 v1 (v2 + (1 : Int32)) p21 _ h)
def f208_H26 (n : Nat)  (K14 : Nat → Int32 → Wd → Option Wd) : Nat → Nat → Int32 → Int32 → Wd → Option Wd
  | 0, _, _, _, _ => none
  | k + 1, v0, v1, v2, w =>
    ob (getR w 2 v0 0) (fun x11 => ob (getI w 6 x11 5) (fun x13 => (if x13 ≤ v2 then K14 v0 v1 w
      else ob (getR w 2 v0 1) (fun x15 => (if (wsh w x15).map (fun q => q.1) = some 3 then ob (f88 x15 v2 w) (fun p17 => (if ¬ p17.1 = (2 : Int32) then f208_J62 n (fun (v0 : Nat) (v1 : Int32) (v2 : Int32) w => f208_H26 n  K14 k v0 v1 v2 w) K14 v0 v1 v2 p17.2
        else ob (getR p17.2 2 v0 1) (fun x25 => (if (wsh p17.2 x25).map (fun q => q.1) = some 3 then ob (f89 x25 v2 p17.2) (fun p27 => (if (wsh p27.2 v0).map (fun q => q.1) = some 2 then ob (f198 n v0 v2 p27.1 p27.2) (fun p29 => f208_J62 n (fun (v0 : Nat) (v1 : Int32) (v2 : Int32) w => f208_H26 n  K14 k v0 v1 v2 w) K14 v0 v1 v2 p29) else none)) else none)))) else none)))))
set_option maxRecDepth 10000 in
theorem rf208_H26 {S : Sc} (n : Nat)  (K14 : Nat → Int32 → Wd → Option Wd)  (hK14 : ∀ (y0 : Nat) (y1 : Int32) (w : Wd) (o : Wd), K14 y0 y1 w = some o → Rn S 208 81 [some (.ref y0), some (.int y1), none, none, none] [] w (none, o)) : ∀ (k : Nat) (v0 : Nat) (v1 : Int32) (v2 : Int32) (w : Wd) (o : Wd), f208_H26 n  K14 k v0 v1 v2 w = some o → Rn S 208 26 [some (.ref v0), some (.int v1), some (.int v2), none, none] [] w (none, o) := by
  intro k
  induction k with
  | zero =>
    intro v0 v1 v2 w o h
    exact nomatch h
  | succ k ih =>
    intro v0 v1 v2 w o h
    have hrec14 : ∀ (y0 : Nat) (y1 : Int32) (y2 : Int32) (w : Wd) (o : Wd), (fun (v0 : Nat) (v1 : Int32) (v2 : Int32) w => f208_H26 n  K14 k v0 v1 v2 w) y0 y1 y2 w = some o → Rn S 208 26 [some (.ref y0), some (.int y1), some (.int y2), none, none] [] w (none, o) := fun y0 y1 y2 w o h => ih y0 y1 y2 w o h
    unfold f208_H26 at h
    refine rn_iload_n (ft208 14 rfl) rfl ?_
    refine rn_aload_n (ft208 15 rfl) rfl ?_
    obtain ⟨x11, q12, h⟩ := ob_some h
    refine rn_getR (ft208 16 rfl) q12 ?_
    obtain ⟨x13, q14, h⟩ := ob_some h
    refine rn_getI (ft208 17 rfl) (by decide) (by decide) q14 ?_
    by_cases c35 : x13 ≤ v2
    · replace h := ifp c35 h
      refine rn_icmp_ge_t (ft208 18 rfl) c35 ?_
      exact rn_forget (ls := [some (.ref v0), some (.int v1), none, none, none]) (And.intro rfl (And.intro rfl trivial)) (hK14 v0 v1 w _ h)
    · replace h := ifn c35 h
      refine rn_icmp_ge_f (ft208 18 rfl) c35 ?_
      refine rn_aload_n (ft208 19 rfl) rfl ?_
      obtain ⟨x15, q16, h⟩ := ob_some h
      refine rn_getR (ft208 20 rfl) q16 ?_
      refine rn_iload_n (ft208 21 rfl) rfl ?_
      obtain ⟨g34, h⟩ := ifg h
      obtain ⟨p17, q18, h⟩ := ob_some h
      refine rn_callV (as := [.int v2]) (k0 := x15) (r := []) (v := (some (.int p17.1))) (w1 := p17.2) (ft208 22 rfl) (by decide +kernel) rfl (Nat.le_of_ble_eq_true rfl) (Nat.le_of_ble_eq_true rfl) (r88 x15 v2 w _ q18) (by decide +kernel) g34 ?_
      refine rn_iconst (v := (2 : Int32)) (ft208 23 rfl) (by decide) ?_
      by_cases c33 : ¬ p17.1 = (2 : Int32)
      · replace h := ifp c33 h
        refine rn_icmp_ne_t (ft208 24 rfl) c33 ?_
        exact rn_forget (ls := [some (.ref v0), some (.int v1), some (.int v2), none, none]) (And.intro rfl (And.intro rfl (And.intro rfl trivial))) (rf208_J62 n (fun (v0 : Nat) (v1 : Int32) (v2 : Int32) w => f208_H26 n  K14 k v0 v1 v2 w) K14 v0 v1 v2 p17.2 _ hrec14 hK14 h)
      · replace h := ifn c33 h
        refine rn_icmp_ne_f (ft208 24 rfl) c33 ?_
        refine rn_aload_n (ft208 25 rfl) rfl ?_
        refine rn_iload_n (ft208 26 rfl) rfl ?_
        refine rn_aload_n (ft208 27 rfl) rfl ?_
        obtain ⟨x25, q26, h⟩ := ob_some h
        refine rn_getR (ft208 28 rfl) q26 ?_
        refine rn_iload_n (ft208 29 rfl) rfl ?_
        obtain ⟨g32, h⟩ := ifg h
        obtain ⟨p27, q28, h⟩ := ob_some h
        refine rn_callV (as := [.int v2]) (k0 := x25) (r := [.int v2, .ref v0]) (v := (some (.int p27.1))) (w1 := p27.2) (ft208 30 rfl) (by decide +kernel) rfl (Nat.le_of_ble_eq_true rfl) (Nat.le_of_ble_eq_true rfl) (r89 x25 v2 p17.2 _ q28) (by decide +kernel) g32 ?_
        obtain ⟨g31, h⟩ := ifg h
        obtain ⟨p29, q30, h⟩ := ob_some h
        refine rn_callV (as := [.int v2, .int p27.1]) (k0 := v0) (r := []) (v := none) (w1 := p29) (ft208 31 rfl) (by decide +kernel) rfl (Nat.le_of_ble_eq_true rfl) (Nat.le_of_ble_eq_true rfl) (r198 n v0 v2 p27.1 p27.2 _ q30) (by decide +kernel) g31 ?_
        exact rn_forget (ls := [some (.ref v0), some (.int v1), some (.int v2), none, none]) (And.intro rfl (And.intro rfl (And.intro rfl trivial))) (rf208_J62 n (fun (v0 : Nat) (v1 : Int32) (v2 : Int32) w => f208_H26 n  K14 k v0 v1 v2 w) K14 v0 v1 v2 p29 _ hrec14 hK14 h)
def f208_H100 (n : Nat) (rec43 : Nat → Int32 → Int32 → Wd → Option Wd) (K43 : Nat → Wd → Option Wd) (K53 : Nat → Int32 → Int32 → Wd → Option Wd) : Nat → Nat → Int32 → Int32 → Int32 → Int32 → Wd → Option Wd
  | 0, _, _, _, _, _, _ => none
  | k + 1, v0, v1, v2, v3, v4, w =>
    ob (getR w 2 v0 0) (fun x39 => ob (getI w 6 x39 5) (fun x41 => (if x41 ≤ v4 then K53 v0 v1 v2 w
      else ob (f16 v1 v4 w) (fun p43 => (if p43.1 = 0 then (fun (v0 : Nat) (v1 : Int32) (v2 : Int32) (v3 : Int32) (v4 : Int32) w => f208_H100 n rec43 K43 K53 k v0 v1 v2 v3 v4 w) v0 v1 v2 v3 (v4 + (1 : Int32)) p43.2
        else (if (wsh p43.2 v0).map (fun q => q.1) = some 2 then ob (f96 v0 v4 v2 v3 p43.2) (fun p45 => (fun (v0 : Nat) (v1 : Int32) (v2 : Int32) (v3 : Int32) (v4 : Int32) w => f208_H100 n rec43 K43 K53 k v0 v1 v2 v3 v4 w) v0 v1 v2 v3 (v4 + (1 : Int32)) p45) else none))))))
set_option maxRecDepth 10000 in
theorem rf208_H100 {S : Sc} (n : Nat) (rec43 : Nat → Int32 → Int32 → Wd → Option Wd) (K43 : Nat → Wd → Option Wd) (K53 : Nat → Int32 → Int32 → Wd → Option Wd) (hrec43 : ∀ (y0 : Nat) (y1 : Int32) (y2 : Int32) (w : Wd) (o : Wd), rec43 y0 y1 y2 w = some o → Rn S 208 83 [some (.ref y0), some (.int y1), some (.int y2), none, none] [] w (none, o)) (hK43 : ∀ (y0 : Nat) (w : Wd) (o : Wd), K43 y0 w = some o → Rn S 208 141 [some (.ref y0), none, none, none, none] [] w (none, o)) (hK53 : ∀ (y0 : Nat) (y1 : Int32) (y2 : Int32) (w : Wd) (o : Wd), K53 y0 y1 y2 w = some o → Rn S 208 135 [some (.ref y0), some (.int y1), some (.int y2), none, none] [] w (none, o)) : ∀ (k : Nat) (v0 : Nat) (v1 : Int32) (v2 : Int32) (v3 : Int32) (v4 : Int32) (w : Wd) (o : Wd), f208_H100 n rec43 K43 K53 k v0 v1 v2 v3 v4 w = some o → Rn S 208 100 [some (.ref v0), some (.int v1), some (.int v2), some (.int v3), some (.int v4)] [] w (none, o) := by
  intro k
  induction k with
  | zero =>
    intro v0 v1 v2 v3 v4 w o h
    exact nomatch h
  | succ k ih =>
    intro v0 v1 v2 v3 v4 w o h
    have hrec53 : ∀ (y0 : Nat) (y1 : Int32) (y2 : Int32) (y3 : Int32) (y4 : Int32) (w : Wd) (o : Wd), (fun (v0 : Nat) (v1 : Int32) (v2 : Int32) (v3 : Int32) (v4 : Int32) w => f208_H100 n rec43 K43 K53 k v0 v1 v2 v3 v4 w) y0 y1 y2 y3 y4 w = some o → Rn S 208 100 [some (.ref y0), some (.int y1), some (.int y2), some (.int y3), some (.int y4)] [] w (none, o) := fun y0 y1 y2 y3 y4 w o h => ih y0 y1 y2 y3 y4 w o h
    unfold f208_H100 at h
    refine rn_iload (ft208 53 rfl) rfl ?_
    refine rn_aload_n (ft208 54 rfl) rfl ?_
    obtain ⟨x39, q40, h⟩ := ob_some h
    refine rn_getR (ft208 55 rfl) q40 ?_
    obtain ⟨x41, q42, h⟩ := ob_some h
    refine rn_getI (ft208 56 rfl) (by decide) (by decide) q42 ?_
    by_cases c49 : x41 ≤ v4
    · replace h := ifp c49 h
      refine rn_icmp_ge_t (ft208 57 rfl) c49 ?_
      exact rn_forget (ls := [some (.ref v0), some (.int v1), some (.int v2), none, none]) (And.intro rfl (And.intro rfl (And.intro rfl trivial))) (hK53 v0 v1 v2 w _ h)
    · replace h := ifn c49 h
      refine rn_icmp_ge_f (ft208 57 rfl) c49 ?_
      refine rn_iload_n (ft208 58 rfl) rfl ?_
      refine rn_iload (ft208 59 rfl) rfl ?_
      obtain ⟨p43, q44, h⟩ := ob_some h
      refine rn_callS (as := [.int v1, .int v4]) (r := []) (v := (some (.int p43.1))) (w1 := p43.2) (ft208 60 rfl) (by decide +kernel) rfl (Nat.le_of_ble_eq_true rfl) (Nat.le_of_ble_eq_true rfl) (r16 v1 v4 w _ q44) ?_
      by_cases c48 : p43.1 = 0
      · replace h := ifp c48 h
        refine rn_if_eq_t (ft208 61 rfl) c48 ?_
        refine rn_iinc (u := 1) (ls' := [some (.ref v0), some (.int v1), some (.int v2), some (.int v3), some (.int (v4 + (1 : Int32)))]) (ft208 67 rfl) rfl (by decide) rfl ?_
        refine rn_goto (ft208 68 rfl) ?_
        exact rn_forget (ls := [some (.ref v0), some (.int v1), some (.int v2), some (.int v3), some (.int (v4 + (1 : Int32)))]) (And.intro rfl (And.intro rfl (And.intro rfl (And.intro rfl (And.intro rfl trivial))))) (hrec53 v0 v1 v2 v3 (v4 + (1 : Int32)) p43.2 _ h)
      · replace h := ifn c48 h
        refine rn_if_eq_f (ft208 61 rfl) c48 ?_
        refine rn_aload_n (ft208 62 rfl) rfl ?_
        refine rn_iload (ft208 63 rfl) rfl ?_
        refine rn_iload_n (ft208 64 rfl) rfl ?_
        refine rn_iload_n (ft208 65 rfl) rfl ?_
        obtain ⟨g47, h⟩ := ifg h
        obtain ⟨p45, q46, h⟩ := ob_some h
        refine rn_callV (as := [.int v4, .int v2, .int v3]) (k0 := v0) (r := []) (v := none) (w1 := p45) (ft208 66 rfl) (by decide +kernel) rfl (Nat.le_of_ble_eq_true rfl) (Nat.le_of_ble_eq_true rfl) (r96 v0 v4 v2 v3 p43.2 _ q46) (by decide +kernel) g47 ?_
        refine rn_iinc (u := 1) (ls' := [some (.ref v0), some (.int v1), some (.int v2), some (.int v3), some (.int (v4 + (1 : Int32)))]) (ft208 67 rfl) rfl (by decide) rfl ?_
        refine rn_goto (ft208 68 rfl) ?_
        exact rn_forget (ls := [some (.ref v0), some (.int v1), some (.int v2), some (.int v3), some (.int (v4 + (1 : Int32)))]) (And.intro rfl (And.intro rfl (And.intro rfl (And.intro rfl (And.intro rfl trivial))))) (hrec53 v0 v1 v2 v3 (v4 + (1 : Int32)) p45 _ h)
def f208_H83 (n : Nat)  (K43 : Nat → Wd → Option Wd) : Nat → Nat → Int32 → Int32 → Wd → Option Wd
  | 0, _, _, _, _ => none
  | k + 1, v0, v1, v2, w =>
    (if (512 : Int32) ≤ v2 then K43 v0 w
      else (if (wsh w v0).map (fun q => q.1) = some 2 then ob (f149 n v0 v2 v1 w) (fun p37 => f208_H100 n (fun (v0 : Nat) (v1 : Int32) (v2 : Int32) w => f208_H83 n  K43 k v0 v1 v2 w) K43 (fun (e0_50 : Nat) (e1_50 : Int32) (e2_50 : Int32) (w50 : Wd) => (fun (v0 : Nat) (v1 : Int32) (v2 : Int32) w => f208_H83 n  K43 k v0 v1 v2 w) e0_50 e1_50 (e2_50 + (1 : Int32)) w50) n v0 v1 v2 p37.1 (0 : Int32) p37.2) else none))
set_option maxRecDepth 10000 in
theorem rf208_H83 {S : Sc} (n : Nat)  (K43 : Nat → Wd → Option Wd)  (hK43 : ∀ (y0 : Nat) (w : Wd) (o : Wd), K43 y0 w = some o → Rn S 208 141 [some (.ref y0), none, none, none, none] [] w (none, o)) : ∀ (k : Nat) (v0 : Nat) (v1 : Int32) (v2 : Int32) (w : Wd) (o : Wd), f208_H83 n  K43 k v0 v1 v2 w = some o → Rn S 208 83 [some (.ref v0), some (.int v1), some (.int v2), none, none] [] w (none, o) := by
  intro k
  induction k with
  | zero =>
    intro v0 v1 v2 w o h
    exact nomatch h
  | succ k ih =>
    intro v0 v1 v2 w o h
    have hrec43 : ∀ (y0 : Nat) (y1 : Int32) (y2 : Int32) (w : Wd) (o : Wd), (fun (v0 : Nat) (v1 : Int32) (v2 : Int32) w => f208_H83 n  K43 k v0 v1 v2 w) y0 y1 y2 w = some o → Rn S 208 83 [some (.ref y0), some (.int y1), some (.int y2), none, none] [] w (none, o) := fun y0 y1 y2 w o h => ih y0 y1 y2 w o h
    unfold f208_H83 at h
    refine rn_iload_n (ft208 43 rfl) rfl ?_
    refine rn_sipush (v := (512 : Int32)) (ft208 44 rfl) (by decide) ?_
    by_cases c52 : (512 : Int32) ≤ v2
    · replace h := ifp c52 h
      refine rn_icmp_ge_t (ft208 45 rfl) c52 ?_
      exact rn_forget (ls := [some (.ref v0), none, none, none, none]) (And.intro rfl trivial) (hK43 v0 w _ h)
    · replace h := ifn c52 h
      refine rn_icmp_ge_f (ft208 45 rfl) c52 ?_
      refine rn_aload_n (ft208 46 rfl) rfl ?_
      refine rn_iload_n (ft208 47 rfl) rfl ?_
      refine rn_iload_n (ft208 48 rfl) rfl ?_
      obtain ⟨g51, h⟩ := ifg h
      obtain ⟨p37, q38, h⟩ := ob_some h
      refine rn_callV (as := [.int v2, .int v1]) (k0 := v0) (r := []) (v := (some (.int p37.1))) (w1 := p37.2) (ft208 49 rfl) (by decide +kernel) rfl (Nat.le_of_ble_eq_true rfl) (Nat.le_of_ble_eq_true rfl) (r149 n v0 v2 v1 w _ q38) (by decide +kernel) g51 ?_
      refine rn_istore_n (ls' := [some (.ref v0), some (.int v1), some (.int v2), some (.int p37.1), none]) (ft208 50 rfl) rfl ?_
      refine rn_iconst (v := (0 : Int32)) (ft208 51 rfl) (by decide) ?_
      refine rn_istore (ls' := [some (.ref v0), some (.int v1), some (.int v2), some (.int p37.1), some (.int (0 : Int32))]) (ft208 52 rfl) rfl ?_
      refine rn_forget (ls := [some (.ref v0), some (.int v1), some (.int v2), some (.int p37.1), some (.int (0 : Int32))]) (And.intro rfl (And.intro rfl (And.intro rfl (And.intro rfl (And.intro rfl trivial))))) (rf208_H100 n (fun (v0 : Nat) (v1 : Int32) (v2 : Int32) w => f208_H83 n  K43 k v0 v1 v2 w) K43 _ hrec43 hK43 (fun e0_50 e1_50 e2_50 w50 o h => ?_) n v0 v1 v2 p37.1 (0 : Int32) p37.2 _ h)
      refine rn_iinc (u := 1) (ls' := [some (.ref e0_50), some (.int e1_50), some (.int (e2_50 + (1 : Int32))), none, none]) (ft208 69 rfl) rfl (by decide) rfl ?_
      refine rn_goto (ft208 70 rfl) ?_
      exact rn_forget (ls := [some (.ref e0_50), some (.int e1_50), some (.int (e2_50 + (1 : Int32))), none, none]) (And.intro rfl (And.intro rfl (And.intro rfl trivial))) (hrec43 e0_50 e1_50 (e2_50 + (1 : Int32)) w50 _ h)
def f208 (n : Nat) (v0 : Nat) (w : Wd) : Option Wd :=
  ob (getI w 2 v0 2) (fun x1 => (if x1 = 0 then ob (getR w 2 v0 3) (fun x3 => ob (f14 n x3 (0 : Int32) w) (fun p5 => ob (getR p5 2 v0 1) (fun x7 => (if (wsh p5 x7).map (fun q => q.1) = some 3 then ob (f22 n x7 p5) (fun p9 => f208_H26 n  (fun (e0_36 : Nat) (e1_36 : Int32) (w36 : Wd) => f208_H83 n  (fun (e0_53 : Nat) (w53 : Wd) => ob (putZ w53 2 e0_53 2 (1 : Int32)) (fun w54 => some w54)) n e0_36 e1_36 (0 : Int32) w36) n v0 p9.1 (0 : Int32) p9.2) else none))))
    else some w))
set_option maxRecDepth 10000 in
theorem r208 {S : Sc} (n : Nat) (v0 : Nat) (w : Wd) (o : Wd) (h : f208 n v0 w = some o) : Rn S 208 0 [some (.ref v0), none, none, none, none] [] w (none, o) := by
  unfold f208 at h
  refine rn_aload_n (ft208 0 rfl) rfl ?_
  obtain ⟨x1, q2, h⟩ := ob_some h
  refine rn_getI (ft208 1 rfl) (by decide) (by decide) q2 ?_
  by_cases c57 : x1 = 0
  · replace h := ifp c57 h
    refine rn_if_eq_t (ft208 2 rfl) c57 ?_
    refine rn_aload_n (ft208 4 rfl) rfl ?_
    obtain ⟨x3, q4, h⟩ := ob_some h
    refine rn_getR (ft208 5 rfl) q4 ?_
    refine rn_iconst (v := (0 : Int32)) (ft208 6 rfl) (by decide) ?_
    obtain ⟨p5, q6, h⟩ := ob_some h
    refine rn_callS (as := [.ref x3, .int (0 : Int32)]) (r := []) (v := none) (w1 := p5) (ft208 7 rfl) (by decide +kernel) rfl (Nat.le_of_ble_eq_true rfl) (Nat.le_of_ble_eq_true rfl) (r14 n x3 (0 : Int32) w _ q6) ?_
    refine rn_aload_n (ft208 8 rfl) rfl ?_
    obtain ⟨x7, q8, h⟩ := ob_some h
    refine rn_getR (ft208 9 rfl) q8 ?_
    obtain ⟨g56, h⟩ := ifg h
    obtain ⟨p9, q10, h⟩ := ob_some h
    refine rn_callV (as := []) (k0 := x7) (r := []) (v := (some (.int p9.1))) (w1 := p9.2) (ft208 10 rfl) (by decide +kernel) rfl (Nat.le_of_ble_eq_true rfl) (Nat.le_of_ble_eq_true rfl) (r22 n x7 p5 _ q10) (by decide +kernel) g56 ?_
    refine rn_istore_n (ls' := [some (.ref v0), some (.int p9.1), none, none, none]) (ft208 11 rfl) rfl ?_
    refine rn_iconst (v := (0 : Int32)) (ft208 12 rfl) (by decide) ?_
    refine rn_istore_n (ls' := [some (.ref v0), some (.int p9.1), some (.int (0 : Int32)), none, none]) (ft208 13 rfl) rfl ?_
    refine rn_forget (ls := [some (.ref v0), some (.int p9.1), some (.int (0 : Int32)), none, none]) (And.intro rfl (And.intro rfl (And.intro rfl trivial))) (rf208_H26 n  _  (fun e0_36 e1_36 w36 o h => ?_) n v0 p9.1 (0 : Int32) p9.2 _ h)
    refine rn_iconst (v := (0 : Int32)) (ft208 41 rfl) (by decide) ?_
    refine rn_istore_n (ls' := [some (.ref e0_36), some (.int e1_36), some (.int (0 : Int32)), none, none]) (ft208 42 rfl) rfl ?_
    refine rn_forget (ls := [some (.ref e0_36), some (.int e1_36), some (.int (0 : Int32)), none, none]) (And.intro rfl (And.intro rfl (And.intro rfl trivial))) (rf208_H83 n  _  (fun e0_53 w53 o h => ?_) n e0_36 e1_36 (0 : Int32) w36 _ h)
    refine rn_aload_n (ft208 71 rfl) rfl ?_
    refine rn_iconst (v := (1 : Int32)) (ft208 72 rfl) (by decide) ?_
    obtain ⟨w54, q55, h⟩ := ob_some h
    refine rn_putZ (ft208 73 rfl) q55 ?_
    cases h
    exact rn_vret pr208 (ft208 74 rfl)
  · replace h := ifn c57 h
    refine rn_if_eq_f (ft208 2 rfl) c57 ?_
    cases h
    exact rn_vret pr208 (ft208 3 rfl)
/-- NineWheel$Journey.sail(LNineWheel$Rule;III)V -/
theorem ft209 : ∀ (i : Nat) {q : Nat × XI}, cd209[i]? = some q → fetch 209 q.1 = some q.2 := ft_of (by decide +kernel)
theorem pr209 : pRt 209 = none := rfl
def f209_J128 (n : Nat) (rec20 : Nat → Nat → Int32 → Int32 → Int32 → Int32 → Wd → Option Wd) (K20 : Wd → Option Wd) (v0 : Nat) (v1 : Nat) (v3 : Int32) (v4 : Int32) (v5 : Int32) (v6 : Int32) (s0 : Nat) (s1 : Int32) (s2 : Int32) (w : Wd) : Option Wd :=
  ob (astI w s0 s1 s2) (fun w23 => ob (getR w23 4 v0 0) (fun x25 => ob (getR w23 4 v0 6) (fun x27 => ob (aldI w23 x27 v6) (fun x29 => (if (wsh w23 x25).map (fun q => q.1) = some 6 then ob (f145 x25 v5 x29 v6 w23) (fun p31 => ob (putI p31.2 4 v0 7 (v6 + (1 : Int32))) (fun w33 => ob (getR w33 4 v0 5) (fun x35 => ob (getI w33 4 v0 7) (fun x37 => ob (getI w33 4 v0 9) (fun x39 => ob (astI w33 x35 x37 ((p31.1 <<< ((4 : Int32) &&& 31)) ||| x39)) (fun w41 => ob (getR w41 4 v0 0) (fun x43 => ob (f20 p31.1 w41) (fun p45 => (if (wsh p45.2 x43).map (fun q => q.1) = some 6 then ob (f9 x43 p45.1 p45.2) (fun p47 => ob (putZ p47.2 4 v0 8 p47.1) (fun w49 => rec20 v0 v1 v3 v4 p31.1 (v6 + (1 : Int32)) w49)) else none))))))))) else none)))))
set_option maxRecDepth 10000 in
theorem rf209_J128 {S : Sc} (n : Nat) (rec20 : Nat → Nat → Int32 → Int32 → Int32 → Int32 → Wd → Option Wd) (K20 : Wd → Option Wd) (v0 : Nat) (v1 : Nat) (v3 : Int32) (v4 : Int32) (v5 : Int32) (v6 : Int32) (s0 : Nat) (s1 : Int32) (s2 : Int32) (w : Wd) (o : Wd) (hrec20 : ∀ (y0 : Nat) (y1 : Nat) (y3 : Int32) (y4 : Int32) (y5 : Int32) (y6 : Int32) (w : Wd) (o : Wd), rec20 y0 y1 y3 y4 y5 y6 w = some o → Rn S 209 31 [some (.ref y0), some (.ref y1), none, some (.int y3), some (.int y4), some (.int y5), some (.int y6), none, none] [] w (none, o)) (hK20 : ∀  (w : Wd) (o : Wd), K20 w = some o → Rn S 209 197 [none, none, none, none, none, none, none, none, none] [] w (none, o)) (h : f209_J128 n rec20 K20 v0 v1 v3 v4 v5 v6 s0 s1 s2 w = some o) : Rn S 209 128 [some (.ref v0), some (.ref v1), none, some (.int v3), some (.int v4), some (.int v5), some (.int v6), none, none] [.int s2, .int s1, .ref s0] w (none, o) := by
  unfold f209_J128 at h
  obtain ⟨w23, q24, h⟩ := ob_some h
  refine rn_iastore (ft209 66 rfl) q24 ?_
  refine rn_aload_n (ft209 67 rfl) rfl ?_
  obtain ⟨x25, q26, h⟩ := ob_some h
  refine rn_getR (ft209 68 rfl) q26 ?_
  refine rn_iload (ft209 69 rfl) rfl ?_
  refine rn_aload_n (ft209 70 rfl) rfl ?_
  obtain ⟨x27, q28, h⟩ := ob_some h
  refine rn_getR (ft209 71 rfl) q28 ?_
  refine rn_iload (ft209 72 rfl) rfl ?_
  obtain ⟨x29, q30, h⟩ := ob_some h
  refine rn_iaload (ft209 73 rfl) q30 ?_
  refine rn_iload (ft209 74 rfl) rfl ?_
  obtain ⟨g52, h⟩ := ifg h
  obtain ⟨p31, q32, h⟩ := ob_some h
  refine rn_callV (as := [.int v5, .int x29, .int v6]) (k0 := x25) (r := []) (v := (some (.int p31.1))) (w1 := p31.2) (ft209 75 rfl) (by decide +kernel) rfl (Nat.le_of_ble_eq_true rfl) (Nat.le_of_ble_eq_true rfl) (r145 x25 v5 x29 v6 w23 _ q32) (by decide +kernel) g52 ?_
  refine rn_istore (ls' := [some (.ref v0), some (.ref v1), none, some (.int v3), some (.int v4), some (.int p31.1), some (.int v6), none, none]) (ft209 76 rfl) rfl ?_
  refine rn_aload_n (ft209 77 rfl) rfl ?_
  refine rn_iload (ft209 78 rfl) rfl ?_
  refine rn_iconst (v := (1 : Int32)) (ft209 79 rfl) (by decide) ?_
  refine rn_iadd (ft209 80 rfl) ?_
  obtain ⟨w33, q34, h⟩ := ob_some h
  refine rn_putI (ft209 81 rfl) q34 ?_
  refine rn_aload_n (ft209 82 rfl) rfl ?_
  obtain ⟨x35, q36, h⟩ := ob_some h
  refine rn_getR (ft209 83 rfl) q36 ?_
  refine rn_aload_n (ft209 84 rfl) rfl ?_
  obtain ⟨x37, q38, h⟩ := ob_some h
  refine rn_getI (ft209 85 rfl) (by decide) (by decide) q38 ?_
  refine rn_iload (ft209 86 rfl) rfl ?_
  refine rn_iconst (v := (4 : Int32)) (ft209 87 rfl) (by decide) ?_
  refine rn_ishl (ft209 88 rfl) ?_
  refine rn_aload_n (ft209 89 rfl) rfl ?_
  obtain ⟨x39, q40, h⟩ := ob_some h
  refine rn_getI (ft209 90 rfl) (by decide) (by decide) q40 ?_
  refine rn_ior (ft209 91 rfl) ?_
  obtain ⟨w41, q42, h⟩ := ob_some h
  refine rn_iastore (ft209 92 rfl) q42 ?_
  refine rn_aload_n (ft209 93 rfl) rfl ?_
  refine rn_aload_n (ft209 94 rfl) rfl ?_
  obtain ⟨x43, q44, h⟩ := ob_some h
  refine rn_getR (ft209 95 rfl) q44 ?_
  refine rn_iload (ft209 96 rfl) rfl ?_
  obtain ⟨p45, q46, h⟩ := ob_some h
  refine rn_callS (as := [.int p31.1]) (r := [.ref x43, .ref v0]) (v := (some (.int p45.1))) (w1 := p45.2) (ft209 97 rfl) (by decide +kernel) rfl (Nat.le_of_ble_eq_true rfl) (Nat.le_of_ble_eq_true rfl) (r20 p31.1 w41 _ q46) ?_
  obtain ⟨g51, h⟩ := ifg h
  obtain ⟨p47, q48, h⟩ := ob_some h
  refine rn_callV (as := [.int p45.1]) (k0 := x43) (r := [.ref v0]) (v := (some (.int p47.1))) (w1 := p47.2) (ft209 98 rfl) (by decide +kernel) rfl (Nat.le_of_ble_eq_true rfl) (Nat.le_of_ble_eq_true rfl) (r9 x43 p45.1 p45.2 _ q48) (by decide +kernel) g51 ?_
  obtain ⟨w49, q50, h⟩ := ob_some h
  refine rn_putZ (ft209 99 rfl) q50 ?_
  refine rn_iinc (u := 1) (ls' := [some (.ref v0), some (.ref v1), none, some (.int v3), some (.int v4), some (.int p31.1), some (.int (v6 + (1 : Int32))), none, none]) (ft209 100 rfl) rfl (by decide) rfl ?_
  refine rn_goto (ft209 101 rfl) ?_
  exact rn_forget (ls := [some (.ref v0), some (.ref v1), none, some (.int v3), some (.int v4), some (.int p31.1), some (.int (v6 + (1 : Int32))), none, none]) (And.intro rfl (And.intro rfl (And.intro rfl (And.intro rfl (And.intro rfl (And.intro rfl trivial)))))) (hrec20 v0 v1 v3 v4 p31.1 (v6 + (1 : Int32)) w49 _ h)
def f209_J98 (n : Nat) (rec20 : Nat → Nat → Int32 → Int32 → Int32 → Int32 → Wd → Option Wd) (K20 : Wd → Option Wd) (v0 : Nat) (v1 : Nat) (v3 : Int32) (v4 : Int32) (v5 : Int32) (v6 : Int32) (v7 : Int32) (s0 : Int32) (w : Wd) : Option Wd :=
  ob (getR w 4 v0 6) (fun x19 => (if v7 = 0 then (if (wsh w v0).map (fun q => q.1) = some 4 then ob (f32 v0 s0 (0 : Int32) w) (fun p21 => f209_J128 n rec20 K20 v0 v1 v3 v4 v5 v6 x19 v6 p21.1 p21.2) else none)
    else (if (wsh w v0).map (fun q => q.1) = some 4 then ob (f32 v0 (0 : Int32) v7 w) (fun p54 => f209_J128 n rec20 K20 v0 v1 v3 v4 v5 v6 x19 v6 p54.1 p54.2) else none)))
set_option maxRecDepth 10000 in
theorem rf209_J98 {S : Sc} (n : Nat) (rec20 : Nat → Nat → Int32 → Int32 → Int32 → Int32 → Wd → Option Wd) (K20 : Wd → Option Wd) (v0 : Nat) (v1 : Nat) (v3 : Int32) (v4 : Int32) (v5 : Int32) (v6 : Int32) (v7 : Int32) (s0 : Int32) (w : Wd) (o : Wd) (hrec20 : ∀ (y0 : Nat) (y1 : Nat) (y3 : Int32) (y4 : Int32) (y5 : Int32) (y6 : Int32) (w : Wd) (o : Wd), rec20 y0 y1 y3 y4 y5 y6 w = some o → Rn S 209 31 [some (.ref y0), some (.ref y1), none, some (.int y3), some (.int y4), some (.int y5), some (.int y6), none, none] [] w (none, o)) (hK20 : ∀  (w : Wd) (o : Wd), K20 w = some o → Rn S 209 197 [none, none, none, none, none, none, none, none, none] [] w (none, o)) (h : f209_J98 n rec20 K20 v0 v1 v3 v4 v5 v6 v7 s0 w = some o) : Rn S 209 98 [some (.ref v0), some (.ref v1), none, some (.int v3), some (.int v4), some (.int v5), some (.int v6), some (.int v7), none] [.int s0] w (none, o) := by
  unfold f209_J98 at h
  refine rn_istore (ls' := [some (.ref v0), some (.ref v1), none, some (.int v3), some (.int v4), some (.int v5), some (.int v6), some (.int v7), some (.int s0)]) (ft209 51 rfl) rfl ?_
  refine rn_aload_n (ft209 52 rfl) rfl ?_
  obtain ⟨x19, q20, h⟩ := ob_some h
  refine rn_getR (ft209 53 rfl) q20 ?_
  refine rn_iload (ft209 54 rfl) rfl ?_
  refine rn_iload (ft209 55 rfl) rfl ?_
  by_cases c57 : v7 = 0
  · replace h := ifp c57 h
    refine rn_if_eq_t (ft209 56 rfl) c57 ?_
    refine rn_aload_n (ft209 62 rfl) rfl ?_
    refine rn_iload (ft209 63 rfl) rfl ?_
    refine rn_iconst (v := (0 : Int32)) (ft209 64 rfl) (by decide) ?_
    obtain ⟨g53, h⟩ := ifg h
    obtain ⟨p21, q22, h⟩ := ob_some h
    refine rn_callV (as := [.int s0, .int (0 : Int32)]) (k0 := v0) (r := [.int v6, .ref x19]) (v := (some (.int p21.1))) (w1 := p21.2) (ft209 65 rfl) (by decide +kernel) rfl (Nat.le_of_ble_eq_true rfl) (Nat.le_of_ble_eq_true rfl) (r32 v0 s0 (0 : Int32) w _ q22) (by decide +kernel) g53 ?_
    exact rn_forget (ls := [some (.ref v0), some (.ref v1), none, some (.int v3), some (.int v4), some (.int v5), some (.int v6), none, none]) (And.intro rfl (And.intro rfl (And.intro rfl (And.intro rfl (And.intro rfl (And.intro rfl trivial)))))) (rf209_J128 n rec20 K20 v0 v1 v3 v4 v5 v6 x19 v6 p21.1 p21.2 _ hrec20 hK20 h)
  · replace h := ifn c57 h
    refine rn_if_eq_f (ft209 56 rfl) c57 ?_
    refine rn_aload_n (ft209 57 rfl) rfl ?_
    refine rn_iconst (v := (0 : Int32)) (ft209 58 rfl) (by decide) ?_
    refine rn_iload (ft209 59 rfl) rfl ?_
    obtain ⟨g56, h⟩ := ifg h
    obtain ⟨p54, q55, h⟩ := ob_some h
    refine rn_callV (as := [.int (0 : Int32), .int v7]) (k0 := v0) (r := [.int v6, .ref x19]) (v := (some (.int p54.1))) (w1 := p54.2) (ft209 60 rfl) (by decide +kernel) rfl (Nat.le_of_ble_eq_true rfl) (Nat.le_of_ble_eq_true rfl) (r32 v0 (0 : Int32) v7 w _ q55) (by decide +kernel) g56 ?_
    refine rn_goto (ft209 61 rfl) ?_
    exact rn_forget (ls := [some (.ref v0), some (.ref v1), none, some (.int v3), some (.int v4), some (.int v5), some (.int v6), none, none]) (And.intro rfl (And.intro rfl (And.intro rfl (And.intro rfl (And.intro rfl (And.intro rfl trivial)))))) (rf209_J128 n rec20 K20 v0 v1 v3 v4 v5 v6 x19 v6 p54.1 p54.2 _ hrec20 hK20 h)
def f209_H31 (n : Nat)  (K20 : Wd → Option Wd) : Nat → Nat → Nat → Int32 → Int32 → Int32 → Int32 → Wd → Option Wd
  | 0, _, _, _, _, _, _, _ => none
  | k + 1, v0, v1, v3, v4, v5, v6, w =>
    (if v3 ≤ v6 then K20 w
      else (if (400 : Int32) ≤ v6 then K20 w
        else ob (getI w 4 v0 8) (fun x11 => (if ¬ x11 = 0 then K20 w
          else ob (getR w 4 v0 0) (fun x13 => (if (wsh w v1).map (fun q => q.1) = some 5 then ob (f151 n v1 x13 v5 w) (fun p15 => (if ¬ v4 = (-1 : Int32) then (if (wsh p15.2 v0).map (fun q => q.1) = some 4 then ob (f184 n v0 v1 v5 v6 v4 p15.2) (fun p17 => f209_J98 n (fun (v0 : Nat) (v1 : Nat) (v3 : Int32) (v4 : Int32) (v5 : Int32) (v6 : Int32) w => f209_H31 n  K20 k v0 v1 v3 v4 v5 v6 w) K20 v0 v1 v3 v4 v5 v6 p15.1 p17.1 p17.2) else none)
            else ob (getR p15.2 4 v0 2) (fun x59 => (if (wsh p15.2 x59).map (fun q => q.1) = some 0 then ob (f200 n x59 v5 v6 p15.2) (fun p61 => ob (f29 p61.1 p61.2) (fun p63 => f209_J98 n (fun (v0 : Nat) (v1 : Nat) (v3 : Int32) (v4 : Int32) (v5 : Int32) (v6 : Int32) w => f209_H31 n  K20 k v0 v1 v3 v4 v5 v6 w) K20 v0 v1 v3 v4 v5 v6 p15.1 p63.1 p63.2)) else none)))) else none))))))
set_option maxRecDepth 10000 in
theorem rf209_H31 {S : Sc} (n : Nat)  (K20 : Wd → Option Wd)  (hK20 : ∀  (w : Wd) (o : Wd), K20 w = some o → Rn S 209 197 [none, none, none, none, none, none, none, none, none] [] w (none, o)) : ∀ (k : Nat) (v0 : Nat) (v1 : Nat) (v3 : Int32) (v4 : Int32) (v5 : Int32) (v6 : Int32) (w : Wd) (o : Wd), f209_H31 n  K20 k v0 v1 v3 v4 v5 v6 w = some o → Rn S 209 31 [some (.ref v0), some (.ref v1), none, some (.int v3), some (.int v4), some (.int v5), some (.int v6), none, none] [] w (none, o) := by
  intro k
  induction k with
  | zero =>
    intro v0 v1 v3 v4 v5 v6 w o h
    exact nomatch h
  | succ k ih =>
    intro v0 v1 v3 v4 v5 v6 w o h
    have hrec20 : ∀ (y0 : Nat) (y1 : Nat) (y3 : Int32) (y4 : Int32) (y5 : Int32) (y6 : Int32) (w : Wd) (o : Wd), (fun (v0 : Nat) (v1 : Nat) (v3 : Int32) (v4 : Int32) (v5 : Int32) (v6 : Int32) w => f209_H31 n  K20 k v0 v1 v3 v4 v5 v6 w) y0 y1 y3 y4 y5 y6 w = some o → Rn S 209 31 [some (.ref y0), some (.ref y1), none, some (.int y3), some (.int y4), some (.int y5), some (.int y6), none, none] [] w (none, o) := fun y0 y1 y3 y4 y5 y6 w o h => ih y0 y1 y3 y4 y5 y6 w o h
    unfold f209_H31 at h
    refine rn_iload (ft209 20 rfl) rfl ?_
    refine rn_iload_n (ft209 21 rfl) rfl ?_
    by_cases c70 : v3 ≤ v6
    · replace h := ifp c70 h
      refine rn_icmp_ge_t (ft209 22 rfl) c70 ?_
      exact rn_forget (ls := [none, none, none, none, none, none, none, none, none]) trivial (hK20 w _ h)
    · replace h := ifn c70 h
      refine rn_icmp_ge_f (ft209 22 rfl) c70 ?_
      refine rn_iload (ft209 23 rfl) rfl ?_
      refine rn_sipush (v := (400 : Int32)) (ft209 24 rfl) (by decide) ?_
      by_cases c69 : (400 : Int32) ≤ v6
      · replace h := ifp c69 h
        refine rn_icmp_ge_t (ft209 25 rfl) c69 ?_
        exact rn_forget (ls := [none, none, none, none, none, none, none, none, none]) trivial (hK20 w _ h)
      · replace h := ifn c69 h
        refine rn_icmp_ge_f (ft209 25 rfl) c69 ?_
        refine rn_aload_n (ft209 26 rfl) rfl ?_
        obtain ⟨x11, q12, h⟩ := ob_some h
        refine rn_getI (ft209 27 rfl) (by decide) (by decide) q12 ?_
        by_cases c68 : ¬ x11 = 0
        · replace h := ifp c68 h
          refine rn_if_ne_t (ft209 28 rfl) c68 ?_
          exact rn_forget (ls := [none, none, none, none, none, none, none, none, none]) trivial (hK20 w _ h)
        · replace h := ifn c68 h
          refine rn_if_ne_f (ft209 28 rfl) c68 ?_
          refine rn_aload_n (ft209 29 rfl) rfl ?_
          refine rn_aload_n (ft209 30 rfl) rfl ?_
          obtain ⟨x13, q14, h⟩ := ob_some h
          refine rn_getR (ft209 31 rfl) q14 ?_
          refine rn_iload (ft209 32 rfl) rfl ?_
          obtain ⟨g67, h⟩ := ifg h
          obtain ⟨p15, q16, h⟩ := ob_some h
          refine rn_callV (as := [.ref x13, .int v5]) (k0 := v1) (r := []) (v := (some (.int p15.1))) (w1 := p15.2) (ft209 33 rfl) (by decide +kernel) rfl (Nat.le_of_ble_eq_true rfl) (Nat.le_of_ble_eq_true rfl) (r151 n v1 x13 v5 w _ q16) (by decide +kernel) g67 ?_
          refine rn_istore (ls' := [some (.ref v0), some (.ref v1), none, some (.int v3), some (.int v4), some (.int v5), some (.int v6), some (.int p15.1), none]) (ft209 34 rfl) rfl ?_
          refine rn_iload (ft209 35 rfl) rfl ?_
          refine rn_iconst (v := (-1 : Int32)) (ft209 36 rfl) (by decide) ?_
          by_cases c66 : ¬ v4 = (-1 : Int32)
          · replace h := ifp c66 h
            refine rn_icmp_ne_t (ft209 37 rfl) c66 ?_
            refine rn_aload_n (ft209 45 rfl) rfl ?_
            refine rn_aload_n (ft209 46 rfl) rfl ?_
            refine rn_iload (ft209 47 rfl) rfl ?_
            refine rn_iload (ft209 48 rfl) rfl ?_
            refine rn_iload (ft209 49 rfl) rfl ?_
            obtain ⟨g58, h⟩ := ifg h
            obtain ⟨p17, q18, h⟩ := ob_some h
            refine rn_callV (as := [.ref v1, .int v5, .int v6, .int v4]) (k0 := v0) (r := []) (v := (some (.int p17.1))) (w1 := p17.2) (ft209 50 rfl) (by decide +kernel) rfl (Nat.le_of_ble_eq_true rfl) (Nat.le_of_ble_eq_true rfl) (r184 n v0 v1 v5 v6 v4 p15.2 _ q18) (by decide +kernel) g58 ?_
            exact rn_forget (ls := [some (.ref v0), some (.ref v1), none, some (.int v3), some (.int v4), some (.int v5), some (.int v6), some (.int p15.1), none]) (And.intro rfl (And.intro rfl (And.intro rfl (And.intro rfl (And.intro rfl (And.intro rfl (And.intro rfl trivial))))))) (rf209_J98 n (fun (v0 : Nat) (v1 : Nat) (v3 : Int32) (v4 : Int32) (v5 : Int32) (v6 : Int32) w => f209_H31 n  K20 k v0 v1 v3 v4 v5 v6 w) K20 v0 v1 v3 v4 v5 v6 p15.1 p17.1 p17.2 _ hrec20 hK20 h)
          · replace h := ifn c66 h
            refine rn_icmp_ne_f (ft209 37 rfl) c66 ?_
            refine rn_aload_n (ft209 38 rfl) rfl ?_
            obtain ⟨x59, q60, h⟩ := ob_some h
            refine rn_getR (ft209 39 rfl) q60 ?_
            refine rn_iload (ft209 40 rfl) rfl ?_
            refine rn_iload (ft209 41 rfl) rfl ?_
            obtain ⟨g65, h⟩ := ifg h
            obtain ⟨p61, q62, h⟩ := ob_some h
            refine rn_callV (as := [.int v5, .int v6]) (k0 := x59) (r := []) (v := (some (.int p61.1))) (w1 := p61.2) (ft209 42 rfl) (by decide +kernel) rfl (Nat.le_of_ble_eq_true rfl) (Nat.le_of_ble_eq_true rfl) (r200 n x59 v5 v6 p15.2 _ q62) (by decide +kernel) g65 ?_
            obtain ⟨p63, q64, h⟩ := ob_some h
            refine rn_callS (as := [.int p61.1]) (r := []) (v := (some (.int p63.1))) (w1 := p63.2) (ft209 43 rfl) (by decide +kernel) rfl (Nat.le_of_ble_eq_true rfl) (Nat.le_of_ble_eq_true rfl) (r29 p61.1 p61.2 _ q64) ?_
            refine rn_goto (ft209 44 rfl) ?_
            exact rn_forget (ls := [some (.ref v0), some (.ref v1), none, some (.int v3), some (.int v4), some (.int v5), some (.int v6), some (.int p15.1), none]) (And.intro rfl (And.intro rfl (And.intro rfl (And.intro rfl (And.intro rfl (And.intro rfl (And.intro rfl trivial))))))) (rf209_J98 n (fun (v0 : Nat) (v1 : Nat) (v3 : Int32) (v4 : Int32) (v5 : Int32) (v6 : Int32) w => f209_H31 n  K20 k v0 v1 v3 v4 v5 v6 w) K20 v0 v1 v3 v4 v5 v6 p15.1 p63.1 p63.2 _ hrec20 hK20 h)
def f209 (n : Nat) (v0 : Nat) (v1 : Nat) (v2 : Int32) (v3 : Int32) (v4 : Int32) (w : Wd) : Option Wd :=
  ob (putI w 4 v0 9 (0 : Int32)) (fun w1 => ob (putI w1 4 v0 7 (0 : Int32)) (fun w3 => ob (putZ w3 4 v0 8 (0 : Int32)) (fun w5 => ob (getR w5 4 v0 5) (fun x7 => ob (astI w5 x7 (0 : Int32) (v2 <<< ((4 : Int32) &&& 31))) (fun w9 => f209_H31 n  (fun  (w71 : Wd) => some w71) n v0 v1 v3 v4 v2 (0 : Int32) w9)))))
set_option maxRecDepth 10000 in
theorem r209 {S : Sc} (n : Nat) (v0 : Nat) (v1 : Nat) (v2 : Int32) (v3 : Int32) (v4 : Int32) (w : Wd) (o : Wd) (h : f209 n v0 v1 v2 v3 v4 w = some o) : Rn S 209 0 [some (.ref v0), some (.ref v1), some (.int v2), some (.int v3), some (.int v4), none, none, none, none] [] w (none, o) := by
  unfold f209 at h
  refine rn_iload_n (ft209 0 rfl) rfl ?_
  refine rn_istore (ls' := [some (.ref v0), some (.ref v1), some (.int v2), some (.int v3), some (.int v4), some (.int v2), none, none, none]) (ft209 1 rfl) rfl ?_
  refine rn_aload_n (ft209 2 rfl) rfl ?_
  refine rn_iconst (v := (0 : Int32)) (ft209 3 rfl) (by decide) ?_
  obtain ⟨w1, q2, h⟩ := ob_some h
  refine rn_putI (ft209 4 rfl) q2 ?_
  refine rn_aload_n (ft209 5 rfl) rfl ?_
  refine rn_iconst (v := (0 : Int32)) (ft209 6 rfl) (by decide) ?_
  obtain ⟨w3, q4, h⟩ := ob_some h
  refine rn_putI (ft209 7 rfl) q4 ?_
  refine rn_aload_n (ft209 8 rfl) rfl ?_
  refine rn_iconst (v := (0 : Int32)) (ft209 9 rfl) (by decide) ?_
  obtain ⟨w5, q6, h⟩ := ob_some h
  refine rn_putZ (ft209 10 rfl) q6 ?_
  refine rn_aload_n (ft209 11 rfl) rfl ?_
  obtain ⟨x7, q8, h⟩ := ob_some h
  refine rn_getR (ft209 12 rfl) q8 ?_
  refine rn_iconst (v := (0 : Int32)) (ft209 13 rfl) (by decide) ?_
  refine rn_iload (ft209 14 rfl) rfl ?_
  refine rn_iconst (v := (4 : Int32)) (ft209 15 rfl) (by decide) ?_
  refine rn_ishl (ft209 16 rfl) ?_
  obtain ⟨w9, q10, h⟩ := ob_some h
  refine rn_iastore (ft209 17 rfl) q10 ?_
  refine rn_iconst (v := (0 : Int32)) (ft209 18 rfl) (by decide) ?_
  refine rn_istore (ls' := [some (.ref v0), some (.ref v1), some (.int v2), some (.int v3), some (.int v4), some (.int v2), some (.int (0 : Int32)), none, none]) (ft209 19 rfl) rfl ?_
  refine rn_forget (ls := [some (.ref v0), some (.ref v1), none, some (.int v3), some (.int v4), some (.int v2), some (.int (0 : Int32)), none, none]) (And.intro rfl (And.intro rfl (And.intro rfl (And.intro rfl (And.intro rfl (And.intro rfl trivial)))))) (rf209_H31 n  _  (fun  w71 o h => ?_) n v0 v1 v3 v4 v2 (0 : Int32) w9 _ h)
  cases h
  exact rn_vret pr209 (ft209 102 rfl)
