/-! THE METHODS AS FUNCTIONS, 17 -/
/-- NineWheelModel.findPressed()V -/
theorem ft191 : ∀ (i : Nat) {q : Nat × XI}, cd191[i]? = some q → fetch 191 q.1 = some q.2 := ft_of (by decide +kernel)
theorem pr191 : pRt 191 = none := rfl
def f191_J92 (n : Nat) (rec2 : Nat → Int32 → Wd → Option Wd) (K2 : Nat → Wd → Option Wd) (rec11 : Nat → Int32 → Int32 → Wd → Option Wd) (K11 : Nat → Int32 → Wd → Option Wd) (rec16 : Nat → Int32 → Int32 → Int32 → Wd → Option Wd) (K16 : Nat → Int32 → Int32 → Wd → Option Wd) (v0 : Nat) (v1 : Int32) (v2 : Int32) (v3 : Int32) (s0 : Int32) (w : Wd) : Option Wd :=
  ob (getR w 11 v0 35) (fun x15 => ob (getR w 11 v0 10) (fun x17 => ob (aldI w x17 v1) (fun x19 => (if ¬ x19 = (1 : Int32) then ob (getR w 11 v0 10) (fun x21 => ob (aldI w x21 v1) (fun x23 => (if ¬ x23 = (4 : Int32) then ob (astI w x15 ((((512 : Int32) * v1) + ((8 : Int32) * v2)) + v3) s0) (fun w25 => rec16 v0 v1 v2 (v3 + (1 : Int32)) w25)
      else ob (getR w 11 v0 11) (fun x27 => ob (aldI w x27 v1) (fun x29 => ob (astI w x15 ((((512 : Int32) * v1) + ((8 : Int32) * v2)) + v3) x29) (fun w31 => rec16 v0 v1 v2 (v3 + (1 : Int32)) w31))))))
    else ob (astI w x15 ((((512 : Int32) * v1) + ((8 : Int32) * v2)) + v3) ((2 : Int32) * s0)) (fun w34 => rec16 v0 v1 v2 (v3 + (1 : Int32)) w34)))))
set_option maxRecDepth 10000 in
theorem rf191_J92 {S : Sc} (n : Nat) (rec2 : Nat → Int32 → Wd → Option Wd) (K2 : Nat → Wd → Option Wd) (rec11 : Nat → Int32 → Int32 → Wd → Option Wd) (K11 : Nat → Int32 → Wd → Option Wd) (rec16 : Nat → Int32 → Int32 → Int32 → Wd → Option Wd) (K16 : Nat → Int32 → Int32 → Wd → Option Wd) (v0 : Nat) (v1 : Int32) (v2 : Int32) (v3 : Int32) (s0 : Int32) (w : Wd) (o : Wd) (hrec2 : ∀ (y0 : Nat) (y1 : Int32) (w : Wd) (o : Wd), rec2 y0 y1 w = some o → Rn S 191 2 [some (.ref y0), some (.int y1), none, none, none] [] w (none, o)) (hK2 : ∀ (y0 : Nat) (w : Wd) (o : Wd), K2 y0 w = some o → Rn S 191 167 [some (.ref y0), none, none, none, none] [] w (none, o)) (hrec11 : ∀ (y0 : Nat) (y1 : Int32) (y2 : Int32) (w : Wd) (o : Wd), rec11 y0 y1 y2 w = some o → Rn S 191 19 [some (.ref y0), some (.int y1), some (.int y2), none, none] [] w (none, o)) (hK11 : ∀ (y0 : Nat) (y1 : Int32) (w : Wd) (o : Wd), K11 y0 y1 w = some o → Rn S 191 161 [some (.ref y0), some (.int y1), none, none, none] [] w (none, o)) (hrec16 : ∀ (y0 : Nat) (y1 : Int32) (y2 : Int32) (y3 : Int32) (w : Wd) (o : Wd), rec16 y0 y1 y2 y3 w = some o → Rn S 191 27 [some (.ref y0), some (.int y1), some (.int y2), some (.int y3), none] [] w (none, o)) (hK16 : ∀ (y0 : Nat) (y1 : Int32) (y2 : Int32) (w : Wd) (o : Wd), K16 y0 y1 y2 w = some o → Rn S 191 155 [some (.ref y0), some (.int y1), some (.int y2), none, none] [] w (none, o)) (h : f191_J92 n rec2 K2 rec11 K11 rec16 K16 v0 v1 v2 v3 s0 w = some o) : Rn S 191 92 [some (.ref v0), some (.int v1), some (.int v2), some (.int v3), none] [.int s0] w (none, o) := by
  unfold f191_J92 at h
  refine rn_istore (ls' := [some (.ref v0), some (.int v1), some (.int v2), some (.int v3), some (.int s0)]) (ft191 54 rfl) rfl ?_
  refine rn_aload_n (ft191 55 rfl) rfl ?_
  obtain ⟨x15, q16, h⟩ := ob_some h
  refine rn_getR (ft191 56 rfl) q16 ?_
  refine rn_sipush (v := (512 : Int32)) (ft191 57 rfl) (by decide) ?_
  refine rn_iload_n (ft191 58 rfl) rfl ?_
  refine rn_imul (ft191 59 rfl) ?_
  refine rn_bipush (v := (8 : Int32)) (ft191 60 rfl) (by decide) ?_
  refine rn_iload_n (ft191 61 rfl) rfl ?_
  refine rn_imul (ft191 62 rfl) ?_
  refine rn_iadd (ft191 63 rfl) ?_
  refine rn_iload_n (ft191 64 rfl) rfl ?_
  refine rn_iadd (ft191 65 rfl) ?_
  refine rn_aload_n (ft191 66 rfl) rfl ?_
  obtain ⟨x17, q18, h⟩ := ob_some h
  refine rn_getR (ft191 67 rfl) q18 ?_
  refine rn_iload_n (ft191 68 rfl) rfl ?_
  obtain ⟨x19, q20, h⟩ := ob_some h
  refine rn_iaload (ft191 69 rfl) q20 ?_
  refine rn_iconst (v := (1 : Int32)) (ft191 70 rfl) (by decide) ?_
  by_cases c36 : ¬ x19 = (1 : Int32)
  · replace h := ifp c36 h
    refine rn_icmp_ne_t (ft191 71 rfl) c36 ?_
    refine rn_aload_n (ft191 76 rfl) rfl ?_
    obtain ⟨x21, q22, h⟩ := ob_some h
    refine rn_getR (ft191 77 rfl) q22 ?_
    refine rn_iload_n (ft191 78 rfl) rfl ?_
    obtain ⟨x23, q24, h⟩ := ob_some h
    refine rn_iaload (ft191 79 rfl) q24 ?_
    refine rn_iconst (v := (4 : Int32)) (ft191 80 rfl) (by decide) ?_
    by_cases c33 : ¬ x23 = (4 : Int32)
    · replace h := ifp c33 h
      refine rn_icmp_ne_t (ft191 81 rfl) c33 ?_
      refine rn_iload (ft191 87 rfl) rfl ?_
      obtain ⟨w25, q26, h⟩ := ob_some h
      refine rn_iastore (ft191 88 rfl) q26 ?_
      refine rn_iinc (u := 1) (ls' := [some (.ref v0), some (.int v1), some (.int v2), some (.int (v3 + (1 : Int32))), some (.int s0)]) (ft191 89 rfl) rfl (by decide) rfl ?_
      refine rn_goto (ft191 90 rfl) ?_
      exact rn_forget (ls := [some (.ref v0), some (.int v1), some (.int v2), some (.int (v3 + (1 : Int32))), none]) (And.intro rfl (And.intro rfl (And.intro rfl (And.intro rfl trivial)))) (hrec16 v0 v1 v2 (v3 + (1 : Int32)) w25 _ h)
    · replace h := ifn c33 h
      refine rn_icmp_ne_f (ft191 81 rfl) c33 ?_
      refine rn_aload_n (ft191 82 rfl) rfl ?_
      obtain ⟨x27, q28, h⟩ := ob_some h
      refine rn_getR (ft191 83 rfl) q28 ?_
      refine rn_iload_n (ft191 84 rfl) rfl ?_
      obtain ⟨x29, q30, h⟩ := ob_some h
      refine rn_iaload (ft191 85 rfl) q30 ?_
      refine rn_goto (ft191 86 rfl) ?_
      obtain ⟨w31, q32, h⟩ := ob_some h
      refine rn_iastore (ft191 88 rfl) q32 ?_
      refine rn_iinc (u := 1) (ls' := [some (.ref v0), some (.int v1), some (.int v2), some (.int (v3 + (1 : Int32))), some (.int s0)]) (ft191 89 rfl) rfl (by decide) rfl ?_
      refine rn_goto (ft191 90 rfl) ?_
      exact rn_forget (ls := [some (.ref v0), some (.int v1), some (.int v2), some (.int (v3 + (1 : Int32))), none]) (And.intro rfl (And.intro rfl (And.intro rfl (And.intro rfl trivial)))) (hrec16 v0 v1 v2 (v3 + (1 : Int32)) w31 _ h)
  · replace h := ifn c36 h
    refine rn_icmp_ne_f (ft191 71 rfl) c36 ?_
    refine rn_iconst (v := (2 : Int32)) (ft191 72 rfl) (by decide) ?_
    refine rn_iload (ft191 73 rfl) rfl ?_
    refine rn_imul (ft191 74 rfl) ?_
    refine rn_goto (ft191 75 rfl) ?_
    obtain ⟨w34, q35, h⟩ := ob_some h
    refine rn_iastore (ft191 88 rfl) q35 ?_
    refine rn_iinc (u := 1) (ls' := [some (.ref v0), some (.int v1), some (.int v2), some (.int (v3 + (1 : Int32))), some (.int s0)]) (ft191 89 rfl) rfl (by decide) rfl ?_
    refine rn_goto (ft191 90 rfl) ?_
    exact rn_forget (ls := [some (.ref v0), some (.int v1), some (.int v2), some (.int (v3 + (1 : Int32))), none]) (And.intro rfl (And.intro rfl (And.intro rfl (And.intro rfl trivial)))) (hrec16 v0 v1 v2 (v3 + (1 : Int32)) w34 _ h)
def f191_J61 (n : Nat) (rec2 : Nat → Int32 → Wd → Option Wd) (K2 : Nat → Wd → Option Wd) (rec11 : Nat → Int32 → Int32 → Wd → Option Wd) (K11 : Nat → Int32 → Wd → Option Wd) (rec16 : Nat → Int32 → Int32 → Int32 → Wd → Option Wd) (K16 : Nat → Int32 → Int32 → Wd → Option Wd) (v0 : Nat) (v1 : Int32) (v2 : Int32) (v3 : Int32) (w : Wd) : Option Wd :=
  (if (wsh w v0).map (fun q => q.1) = some 11 then ob (f168 n v0 v1 v2 v3 w) (fun p13 => f191_J92 n rec2 K2 rec11 K11 rec16 K16 v0 v1 v2 v3 p13.1 p13.2) else none)
set_option maxRecDepth 10000 in
theorem rf191_J61 {S : Sc} (n : Nat) (rec2 : Nat → Int32 → Wd → Option Wd) (K2 : Nat → Wd → Option Wd) (rec11 : Nat → Int32 → Int32 → Wd → Option Wd) (K11 : Nat → Int32 → Wd → Option Wd) (rec16 : Nat → Int32 → Int32 → Int32 → Wd → Option Wd) (K16 : Nat → Int32 → Int32 → Wd → Option Wd) (v0 : Nat) (v1 : Int32) (v2 : Int32) (v3 : Int32) (w : Wd) (o : Wd) (hrec2 : ∀ (y0 : Nat) (y1 : Int32) (w : Wd) (o : Wd), rec2 y0 y1 w = some o → Rn S 191 2 [some (.ref y0), some (.int y1), none, none, none] [] w (none, o)) (hK2 : ∀ (y0 : Nat) (w : Wd) (o : Wd), K2 y0 w = some o → Rn S 191 167 [some (.ref y0), none, none, none, none] [] w (none, o)) (hrec11 : ∀ (y0 : Nat) (y1 : Int32) (y2 : Int32) (w : Wd) (o : Wd), rec11 y0 y1 y2 w = some o → Rn S 191 19 [some (.ref y0), some (.int y1), some (.int y2), none, none] [] w (none, o)) (hK11 : ∀ (y0 : Nat) (y1 : Int32) (w : Wd) (o : Wd), K11 y0 y1 w = some o → Rn S 191 161 [some (.ref y0), some (.int y1), none, none, none] [] w (none, o)) (hrec16 : ∀ (y0 : Nat) (y1 : Int32) (y2 : Int32) (y3 : Int32) (w : Wd) (o : Wd), rec16 y0 y1 y2 y3 w = some o → Rn S 191 27 [some (.ref y0), some (.int y1), some (.int y2), some (.int y3), none] [] w (none, o)) (hK16 : ∀ (y0 : Nat) (y1 : Int32) (y2 : Int32) (w : Wd) (o : Wd), K16 y0 y1 y2 w = some o → Rn S 191 155 [some (.ref y0), some (.int y1), some (.int y2), none, none] [] w (none, o)) (h : f191_J61 n rec2 K2 rec11 K11 rec16 K16 v0 v1 v2 v3 w = some o) : Rn S 191 61 [some (.ref v0), some (.int v1), some (.int v2), some (.int v3), none] [] w (none, o) := by
  unfold f191_J61 at h
  refine rn_aload_n (ft191 35 rfl) rfl ?_
  refine rn_iload_n (ft191 36 rfl) rfl ?_
  refine rn_iload_n (ft191 37 rfl) rfl ?_
  refine rn_iload_n (ft191 38 rfl) rfl ?_
  obtain ⟨g37, h⟩ := ifg h
  obtain ⟨p13, q14, h⟩ := ob_some h
  refine rn_callV (as := [.int v1, .int v2, .int v3]) (k0 := v0) (r := []) (v := (some (.int p13.1))) (w1 := p13.2) (ft191 39 rfl) (by decide +kernel) rfl (Nat.le_of_ble_eq_true rfl) (Nat.le_of_ble_eq_true rfl) (r168 n v0 v1 v2 v3 w _ q14) (by decide +kernel) g37 ?_
  refine rn_goto (ft191 40 rfl) ?_
  exact rn_forget (ls := [some (.ref v0), some (.int v1), some (.int v2), some (.int v3), none]) (And.intro rfl (And.intro rfl (And.intro rfl (And.intro rfl trivial)))) (rf191_J92 n rec2 K2 rec11 K11 rec16 K16 v0 v1 v2 v3 p13.1 p13.2 _ hrec2 hK2 hrec11 hK11 hrec16 hK16 h)
def f191_H27 (n : Nat) (rec2 : Nat → Int32 → Wd → Option Wd) (K2 : Nat → Wd → Option Wd) (rec11 : Nat → Int32 → Int32 → Wd → Option Wd) (K11 : Nat → Int32 → Wd → Option Wd) (K16 : Nat → Int32 → Int32 → Wd → Option Wd) : Nat → Nat → Int32 → Int32 → Int32 → Wd → Option Wd
  | 0, _, _, _, _, _ => none
  | k + 1, v0, v1, v2, v3, w =>
    (if (8 : Int32) ≤ v3 then K16 v0 v1 v2 w
      else ob (getR w 11 v0 2) (fun x5 => ob (aldB w x5 v2) (fun x7 => (if ¬ x7 = 0 then K16 v0 v1 v2 w
        else ob (getR w 11 v0 10) (fun x9 => ob (aldI w x9 v1) (fun x11 => (if x11 = 0 then f191_J61 n rec2 K2 rec11 K11 (fun (v0 : Nat) (v1 : Int32) (v2 : Int32) (v3 : Int32) w => f191_H27 n rec2 K2 rec11 K11 K16 k v0 v1 v2 v3 w) K16 v0 v1 v2 v3 w
          else ob (getR w 11 v0 10) (fun x38 => ob (aldI w x38 v1) (fun x40 => (if ¬ x40 = (1 : Int32) then ob (getR w 11 v0 10) (fun x42 => ob (aldI w x42 v1) (fun x44 => (if ¬ x44 = (2 : Int32) then f191_J92 n rec2 K2 rec11 K11 (fun (v0 : Nat) (v1 : Int32) (v2 : Int32) (v3 : Int32) w => f191_H27 n rec2 K2 rec11 K11 K16 k v0 v1 v2 v3 w) K16 v0 v1 v2 v3 (0 : Int32) w
              else (if (wsh w v0).map (fun q => q.1) = some 11 then ob (f169 n v0 v1 v2 v3 w) (fun p46 => f191_J92 n rec2 K2 rec11 K11 (fun (v0 : Nat) (v1 : Int32) (v2 : Int32) (v3 : Int32) w => f191_H27 n rec2 K2 rec11 K11 K16 k v0 v1 v2 v3 w) K16 v0 v1 v2 v3 p46.1 p46.2) else none))))
            else f191_J61 n rec2 K2 rec11 K11 (fun (v0 : Nat) (v1 : Int32) (v2 : Int32) (v3 : Int32) w => f191_H27 n rec2 K2 rec11 K11 K16 k v0 v1 v2 v3 w) K16 v0 v1 v2 v3 w))))))))))
set_option maxRecDepth 10000 in
theorem rf191_H27 {S : Sc} (n : Nat) (rec2 : Nat → Int32 → Wd → Option Wd) (K2 : Nat → Wd → Option Wd) (rec11 : Nat → Int32 → Int32 → Wd → Option Wd) (K11 : Nat → Int32 → Wd → Option Wd) (K16 : Nat → Int32 → Int32 → Wd → Option Wd) (hrec2 : ∀ (y0 : Nat) (y1 : Int32) (w : Wd) (o : Wd), rec2 y0 y1 w = some o → Rn S 191 2 [some (.ref y0), some (.int y1), none, none, none] [] w (none, o)) (hK2 : ∀ (y0 : Nat) (w : Wd) (o : Wd), K2 y0 w = some o → Rn S 191 167 [some (.ref y0), none, none, none, none] [] w (none, o)) (hrec11 : ∀ (y0 : Nat) (y1 : Int32) (y2 : Int32) (w : Wd) (o : Wd), rec11 y0 y1 y2 w = some o → Rn S 191 19 [some (.ref y0), some (.int y1), some (.int y2), none, none] [] w (none, o)) (hK11 : ∀ (y0 : Nat) (y1 : Int32) (w : Wd) (o : Wd), K11 y0 y1 w = some o → Rn S 191 161 [some (.ref y0), some (.int y1), none, none, none] [] w (none, o)) (hK16 : ∀ (y0 : Nat) (y1 : Int32) (y2 : Int32) (w : Wd) (o : Wd), K16 y0 y1 y2 w = some o → Rn S 191 155 [some (.ref y0), some (.int y1), some (.int y2), none, none] [] w (none, o)) : ∀ (k : Nat) (v0 : Nat) (v1 : Int32) (v2 : Int32) (v3 : Int32) (w : Wd) (o : Wd), f191_H27 n rec2 K2 rec11 K11 K16 k v0 v1 v2 v3 w = some o → Rn S 191 27 [some (.ref v0), some (.int v1), some (.int v2), some (.int v3), none] [] w (none, o) := by
  intro k
  induction k with
  | zero =>
    intro v0 v1 v2 v3 w o h
    exact nomatch h
  | succ k ih =>
    intro v0 v1 v2 v3 w o h
    have hrec16 : ∀ (y0 : Nat) (y1 : Int32) (y2 : Int32) (y3 : Int32) (w : Wd) (o : Wd), (fun (v0 : Nat) (v1 : Int32) (v2 : Int32) (v3 : Int32) w => f191_H27 n rec2 K2 rec11 K11 K16 k v0 v1 v2 v3 w) y0 y1 y2 y3 w = some o → Rn S 191 27 [some (.ref y0), some (.int y1), some (.int y2), some (.int y3), none] [] w (none, o) := fun y0 y1 y2 y3 w o h => ih y0 y1 y2 y3 w o h
    unfold f191_H27 at h
    refine rn_iload_n (ft191 16 rfl) rfl ?_
    refine rn_bipush (v := (8 : Int32)) (ft191 17 rfl) (by decide) ?_
    by_cases c53 : (8 : Int32) ≤ v3
    · replace h := ifp c53 h
      refine rn_icmp_ge_t (ft191 18 rfl) c53 ?_
      exact rn_forget (ls := [some (.ref v0), some (.int v1), some (.int v2), none, none]) (And.intro rfl (And.intro rfl (And.intro rfl trivial))) (hK16 v0 v1 v2 w _ h)
    · replace h := ifn c53 h
      refine rn_icmp_ge_f (ft191 18 rfl) c53 ?_
      refine rn_aload_n (ft191 19 rfl) rfl ?_
      obtain ⟨x5, q6, h⟩ := ob_some h
      refine rn_getR (ft191 20 rfl) q6 ?_
      refine rn_iload_n (ft191 21 rfl) rfl ?_
      obtain ⟨x7, q8, h⟩ := ob_some h
      refine rn_baload (ft191 22 rfl) q8 ?_
      by_cases c52 : ¬ x7 = 0
      · replace h := ifp c52 h
        refine rn_if_ne_t (ft191 23 rfl) c52 ?_
        exact rn_forget (ls := [some (.ref v0), some (.int v1), some (.int v2), none, none]) (And.intro rfl (And.intro rfl (And.intro rfl trivial))) (hK16 v0 v1 v2 w _ h)
      · replace h := ifn c52 h
        refine rn_if_ne_f (ft191 23 rfl) c52 ?_
        refine rn_aload_n (ft191 24 rfl) rfl ?_
        obtain ⟨x9, q10, h⟩ := ob_some h
        refine rn_getR (ft191 25 rfl) q10 ?_
        refine rn_iload_n (ft191 26 rfl) rfl ?_
        obtain ⟨x11, q12, h⟩ := ob_some h
        refine rn_iaload (ft191 27 rfl) q12 ?_
        by_cases c51 : x11 = 0
        · replace h := ifp c51 h
          refine rn_if_eq_t (ft191 28 rfl) c51 ?_
          exact rn_forget (ls := [some (.ref v0), some (.int v1), some (.int v2), some (.int v3), none]) (And.intro rfl (And.intro rfl (And.intro rfl (And.intro rfl trivial)))) (rf191_J61 n rec2 K2 rec11 K11 (fun (v0 : Nat) (v1 : Int32) (v2 : Int32) (v3 : Int32) w => f191_H27 n rec2 K2 rec11 K11 K16 k v0 v1 v2 v3 w) K16 v0 v1 v2 v3 w _ hrec2 hK2 hrec11 hK11 hrec16 hK16 h)
        · replace h := ifn c51 h
          refine rn_if_eq_f (ft191 28 rfl) c51 ?_
          refine rn_aload_n (ft191 29 rfl) rfl ?_
          obtain ⟨x38, q39, h⟩ := ob_some h
          refine rn_getR (ft191 30 rfl) q39 ?_
          refine rn_iload_n (ft191 31 rfl) rfl ?_
          obtain ⟨x40, q41, h⟩ := ob_some h
          refine rn_iaload (ft191 32 rfl) q41 ?_
          refine rn_iconst (v := (1 : Int32)) (ft191 33 rfl) (by decide) ?_
          by_cases c50 : ¬ x40 = (1 : Int32)
          · replace h := ifp c50 h
            refine rn_icmp_ne_t (ft191 34 rfl) c50 ?_
            refine rn_aload_n (ft191 41 rfl) rfl ?_
            obtain ⟨x42, q43, h⟩ := ob_some h
            refine rn_getR (ft191 42 rfl) q43 ?_
            refine rn_iload_n (ft191 43 rfl) rfl ?_
            obtain ⟨x44, q45, h⟩ := ob_some h
            refine rn_iaload (ft191 44 rfl) q45 ?_
            refine rn_iconst (v := (2 : Int32)) (ft191 45 rfl) (by decide) ?_
            by_cases c49 : ¬ x44 = (2 : Int32)
            · replace h := ifp c49 h
              refine rn_icmp_ne_t (ft191 46 rfl) c49 ?_
              refine rn_iconst (v := (0 : Int32)) (ft191 53 rfl) (by decide) ?_
              exact rn_forget (ls := [some (.ref v0), some (.int v1), some (.int v2), some (.int v3), none]) (And.intro rfl (And.intro rfl (And.intro rfl (And.intro rfl trivial)))) (rf191_J92 n rec2 K2 rec11 K11 (fun (v0 : Nat) (v1 : Int32) (v2 : Int32) (v3 : Int32) w => f191_H27 n rec2 K2 rec11 K11 K16 k v0 v1 v2 v3 w) K16 v0 v1 v2 v3 (0 : Int32) w _ hrec2 hK2 hrec11 hK11 hrec16 hK16 h)
            · replace h := ifn c49 h
              refine rn_icmp_ne_f (ft191 46 rfl) c49 ?_
              refine rn_aload_n (ft191 47 rfl) rfl ?_
              refine rn_iload_n (ft191 48 rfl) rfl ?_
              refine rn_iload_n (ft191 49 rfl) rfl ?_
              refine rn_iload_n (ft191 50 rfl) rfl ?_
              obtain ⟨g48, h⟩ := ifg h
              obtain ⟨p46, q47, h⟩ := ob_some h
              refine rn_callV (as := [.int v1, .int v2, .int v3]) (k0 := v0) (r := []) (v := (some (.int p46.1))) (w1 := p46.2) (ft191 51 rfl) (by decide +kernel) rfl (Nat.le_of_ble_eq_true rfl) (Nat.le_of_ble_eq_true rfl) (r169 n v0 v1 v2 v3 w _ q47) (by decide +kernel) g48 ?_
              refine rn_goto (ft191 52 rfl) ?_
              exact rn_forget (ls := [some (.ref v0), some (.int v1), some (.int v2), some (.int v3), none]) (And.intro rfl (And.intro rfl (And.intro rfl (And.intro rfl trivial)))) (rf191_J92 n rec2 K2 rec11 K11 (fun (v0 : Nat) (v1 : Int32) (v2 : Int32) (v3 : Int32) w => f191_H27 n rec2 K2 rec11 K11 K16 k v0 v1 v2 v3 w) K16 v0 v1 v2 v3 p46.1 p46.2 _ hrec2 hK2 hrec11 hK11 hrec16 hK16 h)
          · replace h := ifn c50 h
            refine rn_icmp_ne_f (ft191 34 rfl) c50 ?_
            exact rn_forget (ls := [some (.ref v0), some (.int v1), some (.int v2), some (.int v3), none]) (And.intro rfl (And.intro rfl (And.intro rfl (And.intro rfl trivial)))) (rf191_J61 n rec2 K2 rec11 K11 (fun (v0 : Nat) (v1 : Int32) (v2 : Int32) (v3 : Int32) w => f191_H27 n rec2 K2 rec11 K11 K16 k v0 v1 v2 v3 w) K16 v0 v1 v2 v3 w _ hrec2 hK2 hrec11 hK11 hrec16 hK16 h)
def f191_H19 (n : Nat) (rec2 : Nat → Int32 → Wd → Option Wd) (K2 : Nat → Wd → Option Wd) (K11 : Nat → Int32 → Wd → Option Wd) : Nat → Nat → Int32 → Int32 → Wd → Option Wd
  | 0, _, _, _, _ => none
  | k + 1, v0, v1, v2, w =>
    (if (64 : Int32) ≤ v2 then K11 v0 v1 w
      else f191_H27 n rec2 K2 (fun (v0 : Nat) (v1 : Int32) (v2 : Int32) w => f191_H19 n rec2 K2 K11 k v0 v1 v2 w) K11 (fun (e0_54 : Nat) (e1_54 : Int32) (e2_54 : Int32) (w54 : Wd) => (fun (v0 : Nat) (v1 : Int32) (v2 : Int32) w => f191_H19 n rec2 K2 K11 k v0 v1 v2 w) e0_54 e1_54 (e2_54 + (1 : Int32)) w54) n v0 v1 v2 (0 : Int32) w)
set_option maxRecDepth 10000 in
theorem rf191_H19 {S : Sc} (n : Nat) (rec2 : Nat → Int32 → Wd → Option Wd) (K2 : Nat → Wd → Option Wd) (K11 : Nat → Int32 → Wd → Option Wd) (hrec2 : ∀ (y0 : Nat) (y1 : Int32) (w : Wd) (o : Wd), rec2 y0 y1 w = some o → Rn S 191 2 [some (.ref y0), some (.int y1), none, none, none] [] w (none, o)) (hK2 : ∀ (y0 : Nat) (w : Wd) (o : Wd), K2 y0 w = some o → Rn S 191 167 [some (.ref y0), none, none, none, none] [] w (none, o)) (hK11 : ∀ (y0 : Nat) (y1 : Int32) (w : Wd) (o : Wd), K11 y0 y1 w = some o → Rn S 191 161 [some (.ref y0), some (.int y1), none, none, none] [] w (none, o)) : ∀ (k : Nat) (v0 : Nat) (v1 : Int32) (v2 : Int32) (w : Wd) (o : Wd), f191_H19 n rec2 K2 K11 k v0 v1 v2 w = some o → Rn S 191 19 [some (.ref v0), some (.int v1), some (.int v2), none, none] [] w (none, o) := by
  intro k
  induction k with
  | zero =>
    intro v0 v1 v2 w o h
    exact nomatch h
  | succ k ih =>
    intro v0 v1 v2 w o h
    have hrec11 : ∀ (y0 : Nat) (y1 : Int32) (y2 : Int32) (w : Wd) (o : Wd), (fun (v0 : Nat) (v1 : Int32) (v2 : Int32) w => f191_H19 n rec2 K2 K11 k v0 v1 v2 w) y0 y1 y2 w = some o → Rn S 191 19 [some (.ref y0), some (.int y1), some (.int y2), none, none] [] w (none, o) := fun y0 y1 y2 w o h => ih y0 y1 y2 w o h
    unfold f191_H19 at h
    refine rn_iload_n (ft191 11 rfl) rfl ?_
    refine rn_bipush (v := (64 : Int32)) (ft191 12 rfl) (by decide) ?_
    by_cases c55 : (64 : Int32) ≤ v2
    · replace h := ifp c55 h
      refine rn_icmp_ge_t (ft191 13 rfl) c55 ?_
      exact rn_forget (ls := [some (.ref v0), some (.int v1), none, none, none]) (And.intro rfl (And.intro rfl trivial)) (hK11 v0 v1 w _ h)
    · replace h := ifn c55 h
      refine rn_icmp_ge_f (ft191 13 rfl) c55 ?_
      refine rn_iconst (v := (0 : Int32)) (ft191 14 rfl) (by decide) ?_
      refine rn_istore_n (ls' := [some (.ref v0), some (.int v1), some (.int v2), some (.int (0 : Int32)), none]) (ft191 15 rfl) rfl ?_
      refine rn_forget (ls := [some (.ref v0), some (.int v1), some (.int v2), some (.int (0 : Int32)), none]) (And.intro rfl (And.intro rfl (And.intro rfl (And.intro rfl trivial)))) (rf191_H27 n rec2 K2 (fun (v0 : Nat) (v1 : Int32) (v2 : Int32) w => f191_H19 n rec2 K2 K11 k v0 v1 v2 w) K11 _ hrec2 hK2 hrec11 hK11 (fun e0_54 e1_54 e2_54 w54 o h => ?_) n v0 v1 v2 (0 : Int32) w _ h)
      refine rn_iinc (u := 1) (ls' := [some (.ref e0_54), some (.int e1_54), some (.int (e2_54 + (1 : Int32))), none, none]) (ft191 91 rfl) rfl (by decide) rfl ?_
      refine rn_goto (ft191 92 rfl) ?_
      exact rn_forget (ls := [some (.ref e0_54), some (.int e1_54), some (.int (e2_54 + (1 : Int32))), none, none]) (And.intro rfl (And.intro rfl (And.intro rfl trivial))) (hrec11 e0_54 e1_54 (e2_54 + (1 : Int32)) w54 _ h)
def f191_H2 (n : Nat)  (K2 : Nat → Wd → Option Wd) : Nat → Nat → Int32 → Wd → Option Wd
  | 0, _, _, _ => none
  | k + 1, v0, v1, w =>
    ob (getI w 11 v0 6) (fun x1 => (if x1 ≤ v1 then K2 v0 w
      else ob (getI w 11 v0 34) (fun x3 => (if ¬ x3 = 0 then K2 v0 w
        else f191_H19 n (fun (v0 : Nat) (v1 : Int32) w => f191_H2 n  K2 k v0 v1 w) K2 (fun (e0_56 : Nat) (e1_56 : Int32) (w56 : Wd) => (fun (v0 : Nat) (v1 : Int32) w => f191_H2 n  K2 k v0 v1 w) e0_56 (e1_56 + (1 : Int32)) w56) n v0 v1 (0 : Int32) w))))
set_option maxRecDepth 10000 in
theorem rf191_H2 {S : Sc} (n : Nat)  (K2 : Nat → Wd → Option Wd)  (hK2 : ∀ (y0 : Nat) (w : Wd) (o : Wd), K2 y0 w = some o → Rn S 191 167 [some (.ref y0), none, none, none, none] [] w (none, o)) : ∀ (k : Nat) (v0 : Nat) (v1 : Int32) (w : Wd) (o : Wd), f191_H2 n  K2 k v0 v1 w = some o → Rn S 191 2 [some (.ref v0), some (.int v1), none, none, none] [] w (none, o) := by
  intro k
  induction k with
  | zero =>
    intro v0 v1 w o h
    exact nomatch h
  | succ k ih =>
    intro v0 v1 w o h
    have hrec2 : ∀ (y0 : Nat) (y1 : Int32) (w : Wd) (o : Wd), (fun (v0 : Nat) (v1 : Int32) w => f191_H2 n  K2 k v0 v1 w) y0 y1 w = some o → Rn S 191 2 [some (.ref y0), some (.int y1), none, none, none] [] w (none, o) := fun y0 y1 w o h => ih y0 y1 w o h
    unfold f191_H2 at h
    refine rn_iload_n (ft191 2 rfl) rfl ?_
    refine rn_aload_n (ft191 3 rfl) rfl ?_
    obtain ⟨x1, q2, h⟩ := ob_some h
    refine rn_getI (ft191 4 rfl) (by decide) (by decide) q2 ?_
    by_cases c58 : x1 ≤ v1
    · replace h := ifp c58 h
      refine rn_icmp_ge_t (ft191 5 rfl) c58 ?_
      exact rn_forget (ls := [some (.ref v0), none, none, none, none]) (And.intro rfl trivial) (hK2 v0 w _ h)
    · replace h := ifn c58 h
      refine rn_icmp_ge_f (ft191 5 rfl) c58 ?_
      refine rn_aload_n (ft191 6 rfl) rfl ?_
      obtain ⟨x3, q4, h⟩ := ob_some h
      refine rn_getI (ft191 7 rfl) (by decide) (by decide) q4 ?_
      by_cases c57 : ¬ x3 = 0
      · replace h := ifp c57 h
        refine rn_if_ne_t (ft191 8 rfl) c57 ?_
        exact rn_forget (ls := [some (.ref v0), none, none, none, none]) (And.intro rfl trivial) (hK2 v0 w _ h)
      · replace h := ifn c57 h
        refine rn_if_ne_f (ft191 8 rfl) c57 ?_
        refine rn_iconst (v := (0 : Int32)) (ft191 9 rfl) (by decide) ?_
        refine rn_istore_n (ls' := [some (.ref v0), some (.int v1), some (.int (0 : Int32)), none, none]) (ft191 10 rfl) rfl ?_
        refine rn_forget (ls := [some (.ref v0), some (.int v1), some (.int (0 : Int32)), none, none]) (And.intro rfl (And.intro rfl (And.intro rfl trivial))) (rf191_H19 n (fun (v0 : Nat) (v1 : Int32) w => f191_H2 n  K2 k v0 v1 w) K2 _ hrec2 hK2 (fun e0_56 e1_56 w56 o h => ?_) n v0 v1 (0 : Int32) w _ h)
        refine rn_iinc (u := 1) (ls' := [some (.ref e0_56), some (.int (e1_56 + (1 : Int32))), none, none, none]) (ft191 93 rfl) rfl (by decide) rfl ?_
        refine rn_goto (ft191 94 rfl) ?_
        exact rn_forget (ls := [some (.ref e0_56), some (.int (e1_56 + (1 : Int32))), none, none, none]) (And.intro rfl (And.intro rfl trivial)) (hrec2 e0_56 (e1_56 + (1 : Int32)) w56 _ h)
def f191_J167 (n : Nat)  (v0 : Nat) (w : Wd) : Option Wd :=
  ob (putZ w 11 v0 34 (1 : Int32)) (fun w60 => some w60)
set_option maxRecDepth 10000 in
theorem rf191_J167 {S : Sc} (n : Nat)  (v0 : Nat) (w : Wd) (o : Wd)  (h : f191_J167 n  v0 w = some o) : Rn S 191 167 [some (.ref v0), none, none, none, none] [] w (none, o) := by
  unfold f191_J167 at h
  refine rn_aload_n (ft191 95 rfl) rfl ?_
  refine rn_iconst (v := (1 : Int32)) (ft191 96 rfl) (by decide) ?_
  obtain ⟨w60, q61, h⟩ := ob_some h
  refine rn_putZ (ft191 97 rfl) q61 ?_
  cases h
  exact rn_vret pr191 (ft191 98 rfl)
def f191 (n : Nat) (v0 : Nat) (w : Wd) : Option Wd :=
  f191_H2 n  (fun (e0_59 : Nat) (w59 : Wd) => f191_J167 n  e0_59 w59) n v0 (0 : Int32) w
set_option maxRecDepth 10000 in
theorem r191 {S : Sc} (n : Nat) (v0 : Nat) (w : Wd) (o : Wd) (h : f191 n v0 w = some o) : Rn S 191 0 [some (.ref v0), none, none, none, none] [] w (none, o) := by
  unfold f191 at h
  refine rn_iconst (v := (0 : Int32)) (ft191 0 rfl) (by decide) ?_
  refine rn_istore_n (ls' := [some (.ref v0), some (.int (0 : Int32)), none, none, none]) (ft191 1 rfl) rfl ?_
  refine rn_forget (ls := [some (.ref v0), some (.int (0 : Int32)), none, none, none]) (And.intro rfl (And.intro rfl trivial)) (rf191_H2 n  _  (fun e0_59 w59 o h => ?_) n v0 (0 : Int32) w _ h)
  exact rn_forget (ls := [some (.ref e0_59), none, none, none, none]) (And.intro rfl trivial) (rf191_J167 n  e0_59 w59 _  h)
/-- NineWheelModel.takeBar(I)I -/
theorem ft192 : ∀ (i : Nat) {q : Nat × XI}, cd192[i]? = some q → fetch 192 q.1 = some q.2 := ft_of (by decide +kernel)
theorem pr192 : pRt 192 = some .int := rfl
def f192_J46 (n : Nat) (rec4 : Nat → Int32 → Int32 → Int32 → Wd → Option (Int32 × Wd)) (K4 : Nat → Int32 → Int32 → Wd → Option (Int32 × Wd)) (v0 : Nat) (v1 : Int32) (v2 : Int32) (s0 : Int32) (w : Wd) : Option (Int32 × Wd) :=
  (if s0 ≤ 0 then ob (getI w 11 v0 20) (fun x3 => (if (wsh w v0).map (fun q => q.1) = some 11 then ob (f114 n v0 w) (fun p5 => rec4 v0 v1 (v2 ||| ((1 : Int32) <<< (x3 &&& 31))) p5.1 p5.2) else none))
    else some (s0, w))
set_option maxRecDepth 10000 in
theorem rf192_J46 {S : Sc} (n : Nat) (rec4 : Nat → Int32 → Int32 → Int32 → Wd → Option (Int32 × Wd)) (K4 : Nat → Int32 → Int32 → Wd → Option (Int32 × Wd)) (v0 : Nat) (v1 : Int32) (v2 : Int32) (s0 : Int32) (w : Wd) (o : (Int32 × Wd)) (hrec4 : ∀ (y0 : Nat) (y1 : Int32) (y2 : Int32) (y3 : Int32) (w : Wd) (o : (Int32 × Wd)), rec4 y0 y1 y2 y3 w = some o → Rn S 192 4 [some (.ref y0), some (.int y1), some (.int y2), some (.int y3), none] [] w (some (.int o.1), o.2)) (hK4 : ∀ (y0 : Nat) (y1 : Int32) (y2 : Int32) (w : Wd) (o : (Int32 × Wd)), K4 y0 y1 y2 w = some o → Rn S 192 73 [some (.ref y0), some (.int y1), some (.int y2), none, none] [] w (some (.int o.1), o.2)) (h : f192_J46 n rec4 K4 v0 v1 v2 s0 w = some o) : Rn S 192 46 [some (.ref v0), some (.int v1), some (.int v2), none, none] [.int s0] w (some (.int o.1), o.2) := by
  unfold f192_J46 at h
  refine rn_istore (ls' := [some (.ref v0), some (.int v1), some (.int v2), none, some (.int s0)]) (ft192 25 rfl) rfl ?_
  refine rn_iload (ft192 26 rfl) rfl ?_
  by_cases c8 : s0 ≤ 0
  · replace h := ifp c8 h
    refine rn_if_le_t (ft192 27 rfl) c8 ?_
    refine rn_iload_n (ft192 30 rfl) rfl ?_
    refine rn_iconst (v := (1 : Int32)) (ft192 31 rfl) (by decide) ?_
    refine rn_aload_n (ft192 32 rfl) rfl ?_
    obtain ⟨x3, q4, h⟩ := ob_some h
    refine rn_getI (ft192 33 rfl) (by decide) (by decide) q4 ?_
    refine rn_ishl (ft192 34 rfl) ?_
    refine rn_ior (ft192 35 rfl) ?_
    refine rn_istore_n (ls' := [some (.ref v0), some (.int v1), some (.int (v2 ||| ((1 : Int32) <<< (x3 &&& 31)))), none, some (.int s0)]) (ft192 36 rfl) rfl ?_
    refine rn_aload_n (ft192 37 rfl) rfl ?_
    obtain ⟨g7, h⟩ := ifg h
    obtain ⟨p5, q6, h⟩ := ob_some h
    refine rn_callV (as := []) (k0 := v0) (r := []) (v := (some (.int p5.1))) (w1 := p5.2) (ft192 38 rfl) (by decide +kernel) rfl (Nat.le_of_ble_eq_true rfl) (Nat.le_of_ble_eq_true rfl) (r114 n v0 w _ q6) (by decide +kernel) g7 ?_
    refine rn_istore_n (ls' := [some (.ref v0), some (.int v1), some (.int (v2 ||| ((1 : Int32) <<< (x3 &&& 31)))), some (.int p5.1), some (.int s0)]) (ft192 39 rfl) rfl ?_
    refine rn_goto (ft192 40 rfl) ?_
    exact rn_forget (ls := [some (.ref v0), some (.int v1), some (.int (v2 ||| ((1 : Int32) <<< (x3 &&& 31)))), some (.int p5.1), none]) (And.intro rfl (And.intro rfl (And.intro rfl (And.intro rfl trivial)))) (hrec4 v0 v1 (v2 ||| ((1 : Int32) <<< (x3 &&& 31))) p5.1 p5.2 _ h)
  · replace h := ifn c8 h
    refine rn_if_le_f (ft192 27 rfl) c8 ?_
    refine rn_iload (ft192 28 rfl) rfl ?_
    cases h
    exact rn_iretI pr192 (ft192 29 rfl)
def f192_H4 (n : Nat)  (K4 : Nat → Int32 → Int32 → Wd → Option (Int32 × Wd)) : Nat → Nat → Int32 → Int32 → Int32 → Wd → Option (Int32 × Wd)
  | 0, _, _, _, _, _ => none
  | k + 1, v0, v1, v2, v3, w =>
    (if v3 = 0 then K4 v0 v1 v2 w
      else (if (wsh w v0).map (fun q => q.1) = some 11 then ob (f161 n v0 (0 : Int32) (5 : Int32) w) (fun p1 => (if ¬ p1.1 = 0 then f192_J46 n (fun (v0 : Nat) (v1 : Int32) (v2 : Int32) (v3 : Int32) w => f192_H4 n  K4 k v0 v1 v2 v3 w) K4 v0 v1 v2 p1.1 p1.2
        else ob (getI p1.2 11 v0 20) (fun x9 => ob (f45 v2 x9 p1.2) (fun p11 => (if p11.1 = 0 then f192_J46 n (fun (v0 : Nat) (v1 : Int32) (v2 : Int32) (v3 : Int32) w => f192_H4 n  K4 k v0 v1 v2 v3 w) K4 v0 v1 v2 p1.1 p11.2
          else ob (getI p11.2 11 v0 21) (fun x13 => (if (wsh p11.2 v0).map (fun q => q.1) = some 11 then ob (f46 v0 (4 : Int32) x13 p11.2) (fun p15 => f192_J46 n (fun (v0 : Nat) (v1 : Int32) (v2 : Int32) (v3 : Int32) w => f192_H4 n  K4 k v0 v1 v2 v3 w) K4 v0 v1 v2 p15.1 p15.2) else none))))))) else none))
set_option maxRecDepth 10000 in
theorem rf192_H4 {S : Sc} (n : Nat)  (K4 : Nat → Int32 → Int32 → Wd → Option (Int32 × Wd))  (hK4 : ∀ (y0 : Nat) (y1 : Int32) (y2 : Int32) (w : Wd) (o : (Int32 × Wd)), K4 y0 y1 y2 w = some o → Rn S 192 73 [some (.ref y0), some (.int y1), some (.int y2), none, none] [] w (some (.int o.1), o.2)) : ∀ (k : Nat) (v0 : Nat) (v1 : Int32) (v2 : Int32) (v3 : Int32) (w : Wd) (o : (Int32 × Wd)), f192_H4 n  K4 k v0 v1 v2 v3 w = some o → Rn S 192 4 [some (.ref v0), some (.int v1), some (.int v2), some (.int v3), none] [] w (some (.int o.1), o.2) := by
  intro k
  induction k with
  | zero =>
    intro v0 v1 v2 v3 w o h
    exact nomatch h
  | succ k ih =>
    intro v0 v1 v2 v3 w o h
    have hrec4 : ∀ (y0 : Nat) (y1 : Int32) (y2 : Int32) (y3 : Int32) (w : Wd) (o : (Int32 × Wd)), (fun (v0 : Nat) (v1 : Int32) (v2 : Int32) (v3 : Int32) w => f192_H4 n  K4 k v0 v1 v2 v3 w) y0 y1 y2 y3 w = some o → Rn S 192 4 [some (.ref y0), some (.int y1), some (.int y2), some (.int y3), none] [] w (some (.int o.1), o.2) := fun y0 y1 y2 y3 w o h => ih y0 y1 y2 y3 w o h
    unfold f192_H4 at h
    refine rn_iload_n (ft192 4 rfl) rfl ?_
    by_cases c21 : v3 = 0
    · replace h := ifp c21 h
      refine rn_if_eq_t (ft192 5 rfl) c21 ?_
      exact rn_forget (ls := [some (.ref v0), some (.int v1), some (.int v2), none, none]) (And.intro rfl (And.intro rfl (And.intro rfl trivial))) (hK4 v0 v1 v2 w _ h)
    · replace h := ifn c21 h
      refine rn_if_eq_f (ft192 5 rfl) c21 ?_
      refine rn_aload_n (ft192 6 rfl) rfl ?_
      refine rn_iconst (v := (0 : Int32)) (ft192 7 rfl) (by decide) ?_
      refine rn_iconst (v := (5 : Int32)) (ft192 8 rfl) (by decide) ?_
      obtain ⟨g20, h⟩ := ifg h
      obtain ⟨p1, q2, h⟩ := ob_some h
      refine rn_callV (as := [.int (0 : Int32), .int (5 : Int32)]) (k0 := v0) (r := []) (v := (some (.int p1.1))) (w1 := p1.2) (ft192 9 rfl) (by decide +kernel) rfl (Nat.le_of_ble_eq_true rfl) (Nat.le_of_ble_eq_true rfl) (r161 n v0 (0 : Int32) (5 : Int32) w _ q2) (by decide +kernel) g20 ?_
      refine rn_istore (ls' := [some (.ref v0), some (.int v1), some (.int v2), some (.int v3), some (.int p1.1)]) (ft192 10 rfl) rfl ?_
      refine rn_iload (ft192 11 rfl) rfl ?_
      by_cases c19 : ¬ p1.1 = 0
      · replace h := ifp c19 h
        refine rn_if_ne_t (ft192 12 rfl) c19 ?_
        refine rn_iload (ft192 24 rfl) rfl ?_
        exact rn_forget (ls := [some (.ref v0), some (.int v1), some (.int v2), none, none]) (And.intro rfl (And.intro rfl (And.intro rfl trivial))) (rf192_J46 n (fun (v0 : Nat) (v1 : Int32) (v2 : Int32) (v3 : Int32) w => f192_H4 n  K4 k v0 v1 v2 v3 w) K4 v0 v1 v2 p1.1 p1.2 _ hrec4 hK4 h)
      · replace h := ifn c19 h
        refine rn_if_ne_f (ft192 12 rfl) c19 ?_
        refine rn_iload_n (ft192 13 rfl) rfl ?_
        refine rn_aload_n (ft192 14 rfl) rfl ?_
        obtain ⟨x9, q10, h⟩ := ob_some h
        refine rn_getI (ft192 15 rfl) (by decide) (by decide) q10 ?_
        obtain ⟨p11, q12, h⟩ := ob_some h
        refine rn_callS (as := [.int v2, .int x9]) (r := []) (v := (some (.int p11.1))) (w1 := p11.2) (ft192 16 rfl) (by decide +kernel) rfl (Nat.le_of_ble_eq_true rfl) (Nat.le_of_ble_eq_true rfl) (r45 v2 x9 p1.2 _ q12) ?_
        by_cases c18 : p11.1 = 0
        · replace h := ifp c18 h
          refine rn_if_eq_t (ft192 17 rfl) c18 ?_
          refine rn_iload (ft192 24 rfl) rfl ?_
          exact rn_forget (ls := [some (.ref v0), some (.int v1), some (.int v2), none, none]) (And.intro rfl (And.intro rfl (And.intro rfl trivial))) (rf192_J46 n (fun (v0 : Nat) (v1 : Int32) (v2 : Int32) (v3 : Int32) w => f192_H4 n  K4 k v0 v1 v2 v3 w) K4 v0 v1 v2 p1.1 p11.2 _ hrec4 hK4 h)
        · replace h := ifn c18 h
          refine rn_if_eq_f (ft192 17 rfl) c18 ?_
          refine rn_aload_n (ft192 18 rfl) rfl ?_
          refine rn_iconst (v := (4 : Int32)) (ft192 19 rfl) (by decide) ?_
          refine rn_aload_n (ft192 20 rfl) rfl ?_
          obtain ⟨x13, q14, h⟩ := ob_some h
          refine rn_getI (ft192 21 rfl) (by decide) (by decide) q14 ?_
          obtain ⟨g17, h⟩ := ifg h
          obtain ⟨p15, q16, h⟩ := ob_some h
          refine rn_callV (as := [.int (4 : Int32), .int x13]) (k0 := v0) (r := []) (v := (some (.int p15.1))) (w1 := p15.2) (ft192 22 rfl) (by decide +kernel) rfl (Nat.le_of_ble_eq_true rfl) (Nat.le_of_ble_eq_true rfl) (r46 v0 (4 : Int32) x13 p11.2 _ q16) (by decide +kernel) g17 ?_
          refine rn_goto (ft192 23 rfl) ?_
          exact rn_forget (ls := [some (.ref v0), some (.int v1), some (.int v2), none, none]) (And.intro rfl (And.intro rfl (And.intro rfl trivial))) (rf192_J46 n (fun (v0 : Nat) (v1 : Int32) (v2 : Int32) (v3 : Int32) w => f192_H4 n  K4 k v0 v1 v2 v3 w) K4 v0 v1 v2 p15.1 p15.2 _ hrec4 hK4 h)
def f192 (n : Nat) (v0 : Nat) (v1 : Int32) (w : Wd) : Option (Int32 × Wd) :=
  f192_H4 n  (fun (e0_22 : Nat) (e1_22 : Int32) (e2_22 : Int32) (w22 : Wd) => ob (getR w22 11 e0_22 38) (fun x23 => ob (astI w22 x23 (e1_22 + (2 : Int32)) e2_22) (fun w25 => some ((0 : Int32), w25)))) n v0 v1 (0 : Int32) (1 : Int32) w
set_option maxRecDepth 10000 in
theorem r192 {S : Sc} (n : Nat) (v0 : Nat) (v1 : Int32) (w : Wd) (o : (Int32 × Wd)) (h : f192 n v0 v1 w = some o) : Rn S 192 0 [some (.ref v0), some (.int v1), none, none, none] [] w (some (.int o.1), o.2) := by
  unfold f192 at h
  refine rn_iconst (v := (0 : Int32)) (ft192 0 rfl) (by decide) ?_
  refine rn_istore_n (ls' := [some (.ref v0), some (.int v1), some (.int (0 : Int32)), none, none]) (ft192 1 rfl) rfl ?_
  refine rn_iconst (v := (1 : Int32)) (ft192 2 rfl) (by decide) ?_
  refine rn_istore_n (ls' := [some (.ref v0), some (.int v1), some (.int (0 : Int32)), some (.int (1 : Int32)), none]) (ft192 3 rfl) rfl ?_
  refine rn_forget (ls := [some (.ref v0), some (.int v1), some (.int (0 : Int32)), some (.int (1 : Int32)), none]) (And.intro rfl (And.intro rfl (And.intro rfl (And.intro rfl trivial)))) (rf192_H4 n  _  (fun e0_22 e1_22 e2_22 w22 o h => ?_) n v0 v1 (0 : Int32) (1 : Int32) w _ h)
  refine rn_aload_n (ft192 41 rfl) rfl ?_
  obtain ⟨x23, q24, h⟩ := ob_some h
  refine rn_getR (ft192 42 rfl) q24 ?_
  refine rn_iload_n (ft192 43 rfl) rfl ?_
  refine rn_iconst (v := (2 : Int32)) (ft192 44 rfl) (by decide) ?_
  refine rn_iadd (ft192 45 rfl) ?_
  refine rn_iload_n (ft192 46 rfl) rfl ?_
  obtain ⟨w25, q26, h⟩ := ob_some h
  refine rn_iastore (ft192 47 rfl) q26 ?_
  refine rn_iconst (v := (0 : Int32)) (ft192 48 rfl) (by decide) ?_
  cases h
  exact rn_iretI pr192 (ft192 49 rfl)
/-- NineWheelModel.takeUnless(I)I -/
theorem ft193 : ∀ (i : Nat) {q : Nat × XI}, cd193[i]? = some q → fetch 193 q.1 = some q.2 := ft_of (by decide +kernel)
theorem pr193 : pRt 193 = some .int := rfl
def f193_J91 (n : Nat)  (v0 : Nat) (v1 : Int32) (s0 : Nat) (s1 : Int32) (s2 : Int32) (w : Wd) : Option (Int32 × Wd) :=
  ob (astI w s0 s1 s2) (fun w13 => (if (wsh w13 v0).map (fun q => q.1) = some 11 then ob (f161 n v0 (1 : Int32) (7 : Int32) w13) (fun p15 => ob (getR p15.2 11 v0 38) (fun x17 => ob (getI p15.2 11 v0 20) (fun x19 => ob (astI p15.2 x17 (v1 + (4 : Int32)) x19) (fun w21 => some (p15.1, w21))))) else none))
set_option maxRecDepth 10000 in
theorem rf193_J91 {S : Sc} (n : Nat)  (v0 : Nat) (v1 : Int32) (s0 : Nat) (s1 : Int32) (s2 : Int32) (w : Wd) (o : (Int32 × Wd))  (h : f193_J91 n  v0 v1 s0 s1 s2 w = some o) : Rn S 193 91 [some (.ref v0), some (.int v1), none, none] [.int s2, .int s1, .ref s0] w (some (.int o.1), o.2) := by
  unfold f193_J91 at h
  obtain ⟨w13, q14, h⟩ := ob_some h
  refine rn_iastore (ft193 48 rfl) q14 ?_
  refine rn_aload_n (ft193 49 rfl) rfl ?_
  refine rn_iconst (v := (1 : Int32)) (ft193 50 rfl) (by decide) ?_
  refine rn_bipush (v := (7 : Int32)) (ft193 51 rfl) (by decide) ?_
  obtain ⟨g23, h⟩ := ifg h
  obtain ⟨p15, q16, h⟩ := ob_some h
  refine rn_callV (as := [.int (1 : Int32), .int (7 : Int32)]) (k0 := v0) (r := []) (v := (some (.int p15.1))) (w1 := p15.2) (ft193 52 rfl) (by decide +kernel) rfl (Nat.le_of_ble_eq_true rfl) (Nat.le_of_ble_eq_true rfl) (r161 n v0 (1 : Int32) (7 : Int32) w13 _ q16) (by decide +kernel) g23 ?_
  refine rn_istore_n (ls' := [some (.ref v0), some (.int v1), none, some (.int p15.1)]) (ft193 53 rfl) rfl ?_
  refine rn_aload_n (ft193 54 rfl) rfl ?_
  obtain ⟨x17, q18, h⟩ := ob_some h
  refine rn_getR (ft193 55 rfl) q18 ?_
  refine rn_iload_n (ft193 56 rfl) rfl ?_
  refine rn_iconst (v := (4 : Int32)) (ft193 57 rfl) (by decide) ?_
  refine rn_iadd (ft193 58 rfl) ?_
  refine rn_aload_n (ft193 59 rfl) rfl ?_
  obtain ⟨x19, q20, h⟩ := ob_some h
  refine rn_getI (ft193 60 rfl) (by decide) (by decide) q20 ?_
  obtain ⟨w21, q22, h⟩ := ob_some h
  refine rn_iastore (ft193 61 rfl) q22 ?_
  refine rn_iload_n (ft193 62 rfl) rfl ?_
  cases h
  exact rn_iretI pr193 (ft193 63 rfl)
def f193_J67 (n : Nat)  (v0 : Nat) (v1 : Int32) (v2 : Int32) (w : Wd) : Option (Int32 × Wd) :=
  ob (getI w 11 v0 19) (fun x7 => ob (putI w 11 v0 17 x7) (fun w9 => ob (getR w9 11 v0 38) (fun x11 => (if v2 = 0 then f193_J91 n  v0 v1 x11 (v1 + (3 : Int32)) (1 : Int32) w9
    else f193_J91 n  v0 v1 x11 (v1 + (3 : Int32)) (-1 : Int32) w9))))
set_option maxRecDepth 10000 in
theorem rf193_J67 {S : Sc} (n : Nat)  (v0 : Nat) (v1 : Int32) (v2 : Int32) (w : Wd) (o : (Int32 × Wd))  (h : f193_J67 n  v0 v1 v2 w = some o) : Rn S 193 67 [some (.ref v0), some (.int v1), some (.int v2), none] [] w (some (.int o.1), o.2) := by
  unfold f193_J67 at h
  refine rn_aload_n (ft193 34 rfl) rfl ?_
  refine rn_aload_n (ft193 35 rfl) rfl ?_
  obtain ⟨x7, q8, h⟩ := ob_some h
  refine rn_getI (ft193 36 rfl) (by decide) (by decide) q8 ?_
  obtain ⟨w9, q10, h⟩ := ob_some h
  refine rn_putI (ft193 37 rfl) q10 ?_
  refine rn_aload_n (ft193 38 rfl) rfl ?_
  obtain ⟨x11, q12, h⟩ := ob_some h
  refine rn_getR (ft193 39 rfl) q12 ?_
  refine rn_iload_n (ft193 40 rfl) rfl ?_
  refine rn_iconst (v := (3 : Int32)) (ft193 41 rfl) (by decide) ?_
  refine rn_iadd (ft193 42 rfl) ?_
  refine rn_iload_n (ft193 43 rfl) rfl ?_
  by_cases c24 : v2 = 0
  · replace h := ifp c24 h
    refine rn_if_eq_t (ft193 44 rfl) c24 ?_
    refine rn_iconst (v := (1 : Int32)) (ft193 47 rfl) (by decide) ?_
    exact rn_forget (ls := [some (.ref v0), some (.int v1), none, none]) (And.intro rfl (And.intro rfl trivial)) (rf193_J91 n  v0 v1 x11 (v1 + (3 : Int32)) (1 : Int32) w9 _  h)
  · replace h := ifn c24 h
    refine rn_if_eq_f (ft193 44 rfl) c24 ?_
    refine rn_iconst (v := (-1 : Int32)) (ft193 45 rfl) (by decide) ?_
    refine rn_goto (ft193 46 rfl) ?_
    exact rn_forget (ls := [some (.ref v0), some (.int v1), none, none]) (And.intro rfl (And.intro rfl trivial)) (rf193_J91 n  v0 v1 x11 (v1 + (3 : Int32)) (-1 : Int32) w9 _  h)
def f193_J28 (n : Nat)  (v0 : Nat) (v1 : Int32) (s0 : Int32) (w : Wd) : Option (Int32 × Wd) :=
  (if ¬ s0 = 0 then f193_J67 n  v0 v1 s0 w
    else ob (getL w 11 v0 18) (fun x25 => ob (f43 (114 : Int32) (105 : Int32) (103 : Int32) (104 : Int32) w) (fun p27 => ob (f44 p27.1 (116 : Int32) p27.2) (fun p29 => (if (lg_cmp x25 p29.1) = 0 then f193_J67 n  v0 v1 s0 p29.2
      else ob (getI p29.2 11 v0 17) (fun x31 => (if (wsh p29.2 v0).map (fun q => q.1) = some 11 then ob (f46 v0 (1 : Int32) x31 p29.2) (fun p33 => some (p33.1, p33.2)) else none)))))))
set_option maxRecDepth 10000 in
theorem rf193_J28 {S : Sc} (n : Nat)  (v0 : Nat) (v1 : Int32) (s0 : Int32) (w : Wd) (o : (Int32 × Wd))  (h : f193_J28 n  v0 v1 s0 w = some o) : Rn S 193 28 [some (.ref v0), some (.int v1), none, none] [.int s0] w (some (.int o.1), o.2) := by
  unfold f193_J28 at h
  refine rn_istore_n (ls' := [some (.ref v0), some (.int v1), some (.int s0), none]) (ft193 14 rfl) rfl ?_
  refine rn_iload_n (ft193 15 rfl) rfl ?_
  by_cases c37 : ¬ s0 = 0
  · replace h := ifp c37 h
    refine rn_if_ne_t (ft193 16 rfl) c37 ?_
    exact rn_forget (ls := [some (.ref v0), some (.int v1), some (.int s0), none]) (And.intro rfl (And.intro rfl (And.intro rfl trivial))) (rf193_J67 n  v0 v1 s0 w _  h)
  · replace h := ifn c37 h
    refine rn_if_ne_f (ft193 16 rfl) c37 ?_
    refine rn_aload_n (ft193 17 rfl) rfl ?_
    obtain ⟨x25, q26, h⟩ := ob_some h
    refine rn_getL (ft193 18 rfl) q26 ?_
    refine rn_bipush (v := (114 : Int32)) (ft193 19 rfl) (by decide) ?_
    refine rn_bipush (v := (105 : Int32)) (ft193 20 rfl) (by decide) ?_
    refine rn_bipush (v := (103 : Int32)) (ft193 21 rfl) (by decide) ?_
    refine rn_bipush (v := (104 : Int32)) (ft193 22 rfl) (by decide) ?_
    obtain ⟨p27, q28, h⟩ := ob_some h
    refine rn_callS (as := [.int (114 : Int32), .int (105 : Int32), .int (103 : Int32), .int (104 : Int32)]) (r := [.long x25]) (v := (some (.long p27.1))) (w1 := p27.2) (ft193 23 rfl) (by decide +kernel) rfl (Nat.le_of_ble_eq_true rfl) (Nat.le_of_ble_eq_true rfl) (r43 (114 : Int32) (105 : Int32) (103 : Int32) (104 : Int32) w _ q28) ?_
    refine rn_bipush (v := (116 : Int32)) (ft193 24 rfl) (by decide) ?_
    obtain ⟨p29, q30, h⟩ := ob_some h
    refine rn_callS (as := [.long p27.1, .int (116 : Int32)]) (r := [.long x25]) (v := (some (.long p29.1))) (w1 := p29.2) (ft193 25 rfl) (by decide +kernel) rfl (Nat.le_of_ble_eq_true rfl) (Nat.le_of_ble_eq_true rfl) (r44 p27.1 (116 : Int32) p27.2 _ q30) ?_
    refine rn_lcmp (ft193 26 rfl) ?_
    by_cases c36 : (lg_cmp x25 p29.1) = 0
    · replace h := ifp c36 h
      refine rn_if_eq_t (ft193 27 rfl) c36 ?_
      exact rn_forget (ls := [some (.ref v0), some (.int v1), some (.int s0), none]) (And.intro rfl (And.intro rfl (And.intro rfl trivial))) (rf193_J67 n  v0 v1 s0 p29.2 _  h)
    · replace h := ifn c36 h
      refine rn_if_eq_f (ft193 27 rfl) c36 ?_
      refine rn_aload_n (ft193 28 rfl) rfl ?_
      refine rn_iconst (v := (1 : Int32)) (ft193 29 rfl) (by decide) ?_
      refine rn_aload_n (ft193 30 rfl) rfl ?_
      obtain ⟨x31, q32, h⟩ := ob_some h
      refine rn_getI (ft193 31 rfl) (by decide) (by decide) q32 ?_
      obtain ⟨g35, h⟩ := ifg h
      obtain ⟨p33, q34, h⟩ := ob_some h
      refine rn_callV (as := [.int (1 : Int32), .int x31]) (k0 := v0) (r := []) (v := (some (.int p33.1))) (w1 := p33.2) (ft193 32 rfl) (by decide +kernel) rfl (Nat.le_of_ble_eq_true rfl) (Nat.le_of_ble_eq_true rfl) (r46 v0 (1 : Int32) x31 p29.2 _ q34) (by decide +kernel) g35 ?_
      cases h
      exact rn_iretI pr193 (ft193 33 rfl)
def f193 (n : Nat) (v0 : Nat) (v1 : Int32) (w : Wd) : Option (Int32 × Wd) :=
  (if (wsh w v0).map (fun q => q.1) = some 11 then ob (f111 n v0 w) (fun p1 => ob (getL p1 11 v0 18) (fun x3 => ob (f43 (108 : Int32) (101 : Int32) (102 : Int32) (116 : Int32) p1) (fun p5 => (if ¬ (lg_cmp x3 p5.1) = 0 then f193_J28 n  v0 v1 (0 : Int32) p5.2
    else f193_J28 n  v0 v1 (1 : Int32) p5.2)))) else none)
set_option maxRecDepth 10000 in
theorem r193 {S : Sc} (n : Nat) (v0 : Nat) (v1 : Int32) (w : Wd) (o : (Int32 × Wd)) (h : f193 n v0 v1 w = some o) : Rn S 193 0 [some (.ref v0), some (.int v1), none, none] [] w (some (.int o.1), o.2) := by
  unfold f193 at h
  refine rn_aload_n (ft193 0 rfl) rfl ?_
  obtain ⟨g39, h⟩ := ifg h
  obtain ⟨p1, q2, h⟩ := ob_some h
  refine rn_callV (as := []) (k0 := v0) (r := []) (v := none) (w1 := p1) (ft193 1 rfl) (by decide +kernel) rfl (Nat.le_of_ble_eq_true rfl) (Nat.le_of_ble_eq_true rfl) (r111 n v0 w _ q2) (by decide +kernel) g39 ?_
  refine rn_aload_n (ft193 2 rfl) rfl ?_
  obtain ⟨x3, q4, h⟩ := ob_some h
  refine rn_getL (ft193 3 rfl) q4 ?_
  refine rn_bipush (v := (108 : Int32)) (ft193 4 rfl) (by decide) ?_
  refine rn_bipush (v := (101 : Int32)) (ft193 5 rfl) (by decide) ?_
  refine rn_bipush (v := (102 : Int32)) (ft193 6 rfl) (by decide) ?_
  refine rn_bipush (v := (116 : Int32)) (ft193 7 rfl) (by decide) ?_
  obtain ⟨p5, q6, h⟩ := ob_some h
  refine rn_callS (as := [.int (108 : Int32), .int (101 : Int32), .int (102 : Int32), .int (116 : Int32)]) (r := [.long x3]) (v := (some (.long p5.1))) (w1 := p5.2) (ft193 8 rfl) (by decide +kernel) rfl (Nat.le_of_ble_eq_true rfl) (Nat.le_of_ble_eq_true rfl) (r43 (108 : Int32) (101 : Int32) (102 : Int32) (116 : Int32) p1 _ q6) ?_
  refine rn_lcmp (ft193 9 rfl) ?_
  by_cases c38 : ¬ (lg_cmp x3 p5.1) = 0
  · replace h := ifp c38 h
    refine rn_if_ne_t (ft193 10 rfl) c38 ?_
    refine rn_iconst (v := (0 : Int32)) (ft193 13 rfl) (by decide) ?_
    exact rn_forget (ls := [some (.ref v0), some (.int v1), none, none]) (And.intro rfl (And.intro rfl trivial)) (rf193_J28 n  v0 v1 (0 : Int32) p5.2 _  h)
  · replace h := ifn c38 h
    refine rn_if_ne_f (ft193 10 rfl) c38 ?_
    refine rn_iconst (v := (1 : Int32)) (ft193 11 rfl) (by decide) ?_
    refine rn_goto (ft193 12 rfl) ?_
    exact rn_forget (ls := [some (.ref v0), some (.int v1), none, none]) (And.intro rfl (And.intro rfl trivial)) (rf193_J28 n  v0 v1 (1 : Int32) p5.2 _  h)
/-- NineWheelModel.goHour(IZI)V -/
theorem ft194 : ∀ (i : Nat) {q : Nat × XI}, cd194[i]? = some q → fetch 194 q.1 = some q.2 := ft_of (by decide +kernel)
theorem pr194 : pRt 194 = none := rfl
def f194_J62  (v0 : Nat) (v4 : Int32) (v5 : Int32) (v6 : Int32) (s0 : Int32) (w : Wd) : Option Wd :=
  ob (getR w 11 v0 51) (fun x23 => ob (getI w 11 v0 53) (fun x25 => ob (astI w x23 x25 s0) (fun w27 => ob (getR w27 11 v0 48) (fun x29 => ob (getI w27 11 v0 53) (fun x31 => ob (getI w27 11 v0 53) (fun x33 => (if (wsh w27 v0).map (fun q => q.1) = some 11 then ob (f166 v0 v4 v5 x33 s0 w27) (fun p35 => ob (astI p35.2 x29 (x31 + (1 : Int32)) p35.1) (fun w37 => ob (getR w37 11 v0 49) (fun x39 => ob (getI w37 11 v0 53) (fun x41 => ob (f51 v5 s0 w37) (fun p43 => ob (astI p43.2 x39 (x41 + (1 : Int32)) p43.1) (fun w45 => ob (getR w45 11 v0 50) (fun x47 => ob (getI w45 11 v0 53) (fun x49 => ob (astI w45 x47 (x49 + (1 : Int32)) v6) (fun w51 => ob (getI w51 11 v0 53) (fun x53 => ob (putI w51 11 v0 53 (x53 + (1 : Int32))) (fun w55 => ob (getR w55 11 v0 2) (fun x57 => ob (getR w55 11 v0 48) (fun x59 => ob (getI w55 11 v0 53) (fun x61 => ob (aldI w55 x59 x61) (fun x63 => ob (aldB w55 x57 x63) (fun x65 => (if x65 = 0 then ob (putI w55 11 v0 52 (-1 : Int32)) (fun w67 => some w67)
    else ob (getI w55 11 v0 53) (fun x69 => ob (putI w55 11 v0 52 x69) (fun w71 => some w71))))))))))))))))))) else none)))))))
set_option maxRecDepth 10000 in
theorem rf194_J62 {S : Sc}  (v0 : Nat) (v4 : Int32) (v5 : Int32) (v6 : Int32) (s0 : Int32) (w : Wd) (o : Wd)  (h : f194_J62  v0 v4 v5 v6 s0 w = some o) : Rn S 194 62 [some (.ref v0), none, none, none, some (.int v4), some (.int v5), some (.int v6), none] [.int s0] w (none, o) := by
  unfold f194_J62 at h
  refine rn_istore (ls' := [some (.ref v0), none, none, none, some (.int v4), some (.int v5), some (.int v6), some (.int s0)]) (ft194 33 rfl) rfl ?_
  refine rn_aload_n (ft194 34 rfl) rfl ?_
  obtain ⟨x23, q24, h⟩ := ob_some h
  refine rn_getR (ft194 35 rfl) q24 ?_
  refine rn_aload_n (ft194 36 rfl) rfl ?_
  obtain ⟨x25, q26, h⟩ := ob_some h
  refine rn_getI (ft194 37 rfl) (by decide) (by decide) q26 ?_
  refine rn_iload (ft194 38 rfl) rfl ?_
  obtain ⟨w27, q28, h⟩ := ob_some h
  refine rn_iastore (ft194 39 rfl) q28 ?_
  refine rn_aload_n (ft194 40 rfl) rfl ?_
  obtain ⟨x29, q30, h⟩ := ob_some h
  refine rn_getR (ft194 41 rfl) q30 ?_
  refine rn_aload_n (ft194 42 rfl) rfl ?_
  obtain ⟨x31, q32, h⟩ := ob_some h
  refine rn_getI (ft194 43 rfl) (by decide) (by decide) q32 ?_
  refine rn_iconst (v := (1 : Int32)) (ft194 44 rfl) (by decide) ?_
  refine rn_iadd (ft194 45 rfl) ?_
  refine rn_aload_n (ft194 46 rfl) rfl ?_
  refine rn_iload (ft194 47 rfl) rfl ?_
  refine rn_iload (ft194 48 rfl) rfl ?_
  refine rn_aload_n (ft194 49 rfl) rfl ?_
  obtain ⟨x33, q34, h⟩ := ob_some h
  refine rn_getI (ft194 50 rfl) (by decide) (by decide) q34 ?_
  refine rn_iload (ft194 51 rfl) rfl ?_
  obtain ⟨g74, h⟩ := ifg h
  obtain ⟨p35, q36, h⟩ := ob_some h
  refine rn_callV (as := [.int v4, .int v5, .int x33, .int s0]) (k0 := v0) (r := [.int (x31 + (1 : Int32)), .ref x29]) (v := (some (.int p35.1))) (w1 := p35.2) (ft194 52 rfl) (by decide +kernel) rfl (Nat.le_of_ble_eq_true rfl) (Nat.le_of_ble_eq_true rfl) (r166 v0 v4 v5 x33 s0 w27 _ q36) (by decide +kernel) g74 ?_
  obtain ⟨w37, q38, h⟩ := ob_some h
  refine rn_iastore (ft194 53 rfl) q38 ?_
  refine rn_aload_n (ft194 54 rfl) rfl ?_
  obtain ⟨x39, q40, h⟩ := ob_some h
  refine rn_getR (ft194 55 rfl) q40 ?_
  refine rn_aload_n (ft194 56 rfl) rfl ?_
  obtain ⟨x41, q42, h⟩ := ob_some h
  refine rn_getI (ft194 57 rfl) (by decide) (by decide) q42 ?_
  refine rn_iconst (v := (1 : Int32)) (ft194 58 rfl) (by decide) ?_
  refine rn_iadd (ft194 59 rfl) ?_
  refine rn_iload (ft194 60 rfl) rfl ?_
  refine rn_iload (ft194 61 rfl) rfl ?_
  obtain ⟨p43, q44, h⟩ := ob_some h
  refine rn_callS (as := [.int v5, .int s0]) (r := [.int (x41 + (1 : Int32)), .ref x39]) (v := (some (.int p43.1))) (w1 := p43.2) (ft194 62 rfl) (by decide +kernel) rfl (Nat.le_of_ble_eq_true rfl) (Nat.le_of_ble_eq_true rfl) (r51 v5 s0 w37 _ q44) ?_
  obtain ⟨w45, q46, h⟩ := ob_some h
  refine rn_iastore (ft194 63 rfl) q46 ?_
  refine rn_aload_n (ft194 64 rfl) rfl ?_
  obtain ⟨x47, q48, h⟩ := ob_some h
  refine rn_getR (ft194 65 rfl) q48 ?_
  refine rn_aload_n (ft194 66 rfl) rfl ?_
  obtain ⟨x49, q50, h⟩ := ob_some h
  refine rn_getI (ft194 67 rfl) (by decide) (by decide) q50 ?_
  refine rn_iconst (v := (1 : Int32)) (ft194 68 rfl) (by decide) ?_
  refine rn_iadd (ft194 69 rfl) ?_
  refine rn_iload (ft194 70 rfl) rfl ?_
  obtain ⟨w51, q52, h⟩ := ob_some h
  refine rn_iastore (ft194 71 rfl) q52 ?_
  refine rn_aload_n (ft194 72 rfl) rfl ?_
  refine rn_dup (ft194 73 rfl) rfl ?_
  obtain ⟨x53, q54, h⟩ := ob_some h
  refine rn_getI (ft194 74 rfl) (by decide) (by decide) q54 ?_
  refine rn_iconst (v := (1 : Int32)) (ft194 75 rfl) (by decide) ?_
  refine rn_iadd (ft194 76 rfl) ?_
  obtain ⟨w55, q56, h⟩ := ob_some h
  refine rn_putI (ft194 77 rfl) q56 ?_
  refine rn_aload_n (ft194 78 rfl) rfl ?_
  refine rn_aload_n (ft194 79 rfl) rfl ?_
  obtain ⟨x57, q58, h⟩ := ob_some h
  refine rn_getR (ft194 80 rfl) q58 ?_
  refine rn_aload_n (ft194 81 rfl) rfl ?_
  obtain ⟨x59, q60, h⟩ := ob_some h
  refine rn_getR (ft194 82 rfl) q60 ?_
  refine rn_aload_n (ft194 83 rfl) rfl ?_
  obtain ⟨x61, q62, h⟩ := ob_some h
  refine rn_getI (ft194 84 rfl) (by decide) (by decide) q62 ?_
  obtain ⟨x63, q64, h⟩ := ob_some h
  refine rn_iaload (ft194 85 rfl) q64 ?_
  obtain ⟨x65, q66, h⟩ := ob_some h
  refine rn_baload (ft194 86 rfl) q66 ?_
  by_cases c73 : x65 = 0
  · replace h := ifp c73 h
    refine rn_if_eq_t (ft194 87 rfl) c73 ?_
    refine rn_iconst (v := (-1 : Int32)) (ft194 91 rfl) (by decide) ?_
    obtain ⟨w67, q68, h⟩ := ob_some h
    refine rn_putI (ft194 92 rfl) q68 ?_
    cases h
    exact rn_vret pr194 (ft194 93 rfl)
  · replace h := ifn c73 h
    refine rn_if_eq_f (ft194 87 rfl) c73 ?_
    refine rn_aload_n (ft194 88 rfl) rfl ?_
    obtain ⟨x69, q70, h⟩ := ob_some h
    refine rn_getI (ft194 89 rfl) (by decide) (by decide) q70 ?_
    refine rn_goto (ft194 90 rfl) ?_
    obtain ⟨w71, q72, h⟩ := ob_some h
    refine rn_putI (ft194 92 rfl) q72 ?_
    cases h
    exact rn_vret pr194 (ft194 93 rfl)
def f194_J42  (v0 : Nat) (v2 : Int32) (v4 : Int32) (v5 : Int32) (s0 : Nat) (s1 : Int32) (s2 : Int32) (s3 : Int32) (w : Wd) : Option Wd :=
  (if (wsh w s0).map (fun q => q.1) = some 11 then ob (f58 s0 s1 s2 s3 w) (fun p19 => (if v2 = 0 then ob (getI p19.2 11 v0 54) (fun x21 => f194_J62  v0 v4 v5 p19.1 x21 p19.2)
    else ob (getI p19.2 11 v0 42) (fun x75 => f194_J62  v0 v4 v5 p19.1 x75 p19.2))) else none)
set_option maxRecDepth 10000 in
theorem rf194_J42 {S : Sc}  (v0 : Nat) (v2 : Int32) (v4 : Int32) (v5 : Int32) (s0 : Nat) (s1 : Int32) (s2 : Int32) (s3 : Int32) (w : Wd) (o : Wd)  (h : f194_J42  v0 v2 v4 v5 s0 s1 s2 s3 w = some o) : Rn S 194 42 [some (.ref v0), none, some (.int v2), none, some (.int v4), some (.int v5), none, none] [.int s3, .int s2, .int s1, .ref s0] w (none, o) := by
  unfold f194_J42 at h
  obtain ⟨g78, h⟩ := ifg h
  obtain ⟨p19, q20, h⟩ := ob_some h
  refine rn_callV (as := [.int s1, .int s2, .int s3]) (k0 := s0) (r := []) (v := (some (.int p19.1))) (w1 := p19.2) (ft194 24 rfl) (by decide +kernel) rfl (Nat.le_of_ble_eq_true rfl) (Nat.le_of_ble_eq_true rfl) (r58 s0 s1 s2 s3 w _ q20) (by decide +kernel) g78 ?_
  refine rn_istore (ls' := [some (.ref v0), none, some (.int v2), none, some (.int v4), some (.int v5), some (.int p19.1), none]) (ft194 25 rfl) rfl ?_
  refine rn_iload_n (ft194 26 rfl) rfl ?_
  by_cases c77 : v2 = 0
  · replace h := ifp c77 h
    refine rn_if_eq_t (ft194 27 rfl) c77 ?_
    refine rn_aload_n (ft194 31 rfl) rfl ?_
    obtain ⟨x21, q22, h⟩ := ob_some h
    refine rn_getI (ft194 32 rfl) (by decide) (by decide) q22 ?_
    exact rn_forget (ls := [some (.ref v0), none, none, none, some (.int v4), some (.int v5), some (.int p19.1), none]) (And.intro rfl (And.intro rfl (And.intro rfl (And.intro rfl trivial)))) (rf194_J62  v0 v4 v5 p19.1 x21 p19.2 _  h)
  · replace h := ifn c77 h
    refine rn_if_eq_f (ft194 27 rfl) c77 ?_
    refine rn_aload_n (ft194 28 rfl) rfl ?_
    obtain ⟨x75, q76, h⟩ := ob_some h
    refine rn_getI (ft194 29 rfl) (by decide) (by decide) q76 ?_
    refine rn_goto (ft194 30 rfl) ?_
    exact rn_forget (ls := [some (.ref v0), none, none, none, some (.int v4), some (.int v5), some (.int p19.1), none]) (And.intro rfl (And.intro rfl (And.intro rfl (And.intro rfl trivial)))) (rf194_J62  v0 v4 v5 p19.1 x75 p19.2 _  h)
def f194 (v0 : Nat) (v1 : Int32) (v2 : Int32) (v3 : Int32) (w : Wd) : Option Wd :=
  ob (getR w 11 v0 48) (fun x1 => ob (getI w 11 v0 53) (fun x3 => ob (aldI w x1 x3) (fun x5 => ob (getR w 11 v0 49) (fun x7 => ob (getI w 11 v0 53) (fun x9 => ob (aldI w x7 x9) (fun x11 => ob (getR w 11 v0 50) (fun x13 => ob (getI w 11 v0 53) (fun x15 => ob (aldI w x13 x15) (fun x17 => (if v2 = 0 then f194_J42  v0 v2 x5 x11 v0 x17 v3 v1 w
    else f194_J42  v0 v2 x5 x11 v0 x17 v3 (0 : Int32) w))))))))))
set_option maxRecDepth 10000 in
theorem r194 {S : Sc} (v0 : Nat) (v1 : Int32) (v2 : Int32) (v3 : Int32) (w : Wd) (o : Wd) (h : f194 v0 v1 v2 v3 w = some o) : Rn S 194 0 [some (.ref v0), some (.int v1), some (.int v2), some (.int v3), none, none, none, none] [] w (none, o) := by
  unfold f194 at h
  refine rn_aload_n (ft194 0 rfl) rfl ?_
  obtain ⟨x1, q2, h⟩ := ob_some h
  refine rn_getR (ft194 1 rfl) q2 ?_
  refine rn_aload_n (ft194 2 rfl) rfl ?_
  obtain ⟨x3, q4, h⟩ := ob_some h
  refine rn_getI (ft194 3 rfl) (by decide) (by decide) q4 ?_
  obtain ⟨x5, q6, h⟩ := ob_some h
  refine rn_iaload (ft194 4 rfl) q6 ?_
  refine rn_istore (ls' := [some (.ref v0), some (.int v1), some (.int v2), some (.int v3), some (.int x5), none, none, none]) (ft194 5 rfl) rfl ?_
  refine rn_aload_n (ft194 6 rfl) rfl ?_
  obtain ⟨x7, q8, h⟩ := ob_some h
  refine rn_getR (ft194 7 rfl) q8 ?_
  refine rn_aload_n (ft194 8 rfl) rfl ?_
  obtain ⟨x9, q10, h⟩ := ob_some h
  refine rn_getI (ft194 9 rfl) (by decide) (by decide) q10 ?_
  obtain ⟨x11, q12, h⟩ := ob_some h
  refine rn_iaload (ft194 10 rfl) q12 ?_
  refine rn_istore (ls' := [some (.ref v0), some (.int v1), some (.int v2), some (.int v3), some (.int x5), some (.int x11), none, none]) (ft194 11 rfl) rfl ?_
  refine rn_aload_n (ft194 12 rfl) rfl ?_
  refine rn_aload_n (ft194 13 rfl) rfl ?_
  obtain ⟨x13, q14, h⟩ := ob_some h
  refine rn_getR (ft194 14 rfl) q14 ?_
  refine rn_aload_n (ft194 15 rfl) rfl ?_
  obtain ⟨x15, q16, h⟩ := ob_some h
  refine rn_getI (ft194 16 rfl) (by decide) (by decide) q16 ?_
  obtain ⟨x17, q18, h⟩ := ob_some h
  refine rn_iaload (ft194 17 rfl) q18 ?_
  refine rn_iload_n (ft194 18 rfl) rfl ?_
  refine rn_iload_n (ft194 19 rfl) rfl ?_
  by_cases c79 : v2 = 0
  · replace h := ifp c79 h
    refine rn_if_eq_t (ft194 20 rfl) c79 ?_
    refine rn_iload_n (ft194 23 rfl) rfl ?_
    exact rn_forget (ls := [some (.ref v0), none, some (.int v2), none, some (.int x5), some (.int x11), none, none]) (And.intro rfl (And.intro rfl (And.intro rfl (And.intro rfl trivial)))) (rf194_J42  v0 v2 x5 x11 v0 x17 v3 v1 w _  h)
  · replace h := ifn c79 h
    refine rn_if_eq_f (ft194 20 rfl) c79 ?_
    refine rn_iconst (v := (0 : Int32)) (ft194 21 rfl) (by decide) ?_
    refine rn_goto (ft194 22 rfl) ?_
    exact rn_forget (ls := [some (.ref v0), none, some (.int v2), none, some (.int x5), some (.int x11), none, none]) (And.intro rfl (And.intro rfl (And.intro rfl (And.intro rfl trivial)))) (rf194_J42  v0 v2 x5 x11 v0 x17 v3 (0 : Int32) w _  h)
