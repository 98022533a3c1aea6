/-! THE METHODS AS FUNCTIONS, 7 -/
/-- NineWheelModel.pressBlind(I)V -/
theorem ft124 : ∀ (i : Nat) {q : Nat × XI}, cd124[i]? = some q → fetch 124 q.1 = some q.2 := ft_of (by decide +kernel)
theorem pr124 : pRt 124 = none := rfl
def f124_J85 (n : Nat) (rec8 : Nat → Int32 → Int32 → Int32 → Int32 → Int32 → Wd → Option Wd) (K8 : Nat → Int32 → Int32 → Int32 → Int32 → Wd → Option Wd) (v0 : Nat) (v1 : Int32) (v2 : Int32) (v4 : Int32) (v5 : Int32) (s0 : Int32) (s1 : Int32) (w : Wd) : Option Wd :=
  ob (getR w 11 v0 36) (fun x15 => ob (aldI w x15 v5) (fun x17 => (if x17 ≤ 0 then rec8 v0 v1 v2 (s0 + s1) (v4 + (0 : Int32)) (v5 + (1 : Int32)) w
    else ob (getR w 11 v0 7) (fun x19 => ob (aldI w x19 v5) (fun x21 => rec8 v0 v1 v2 (s0 + s1) (v4 + x21) (v5 + (1 : Int32)) w)))))
set_option maxRecDepth 10000 in
theorem rf124_J85 {S : Sc} (n : Nat) (rec8 : Nat → Int32 → Int32 → Int32 → Int32 → Int32 → Wd → Option Wd) (K8 : Nat → Int32 → Int32 → Int32 → Int32 → Wd → Option Wd) (v0 : Nat) (v1 : Int32) (v2 : Int32) (v4 : Int32) (v5 : Int32) (s0 : Int32) (s1 : Int32) (w : Wd) (o : Wd) (hrec8 : ∀ (y0 : Nat) (y1 : Int32) (y2 : Int32) (y3 : Int32) (y4 : Int32) (y5 : Int32) (w : Wd) (o : Wd), rec8 y0 y1 y2 y3 y4 y5 w = some o → Rn S 124 10 [some (.ref y0), some (.int y1), some (.int y2), some (.int y3), some (.int y4), some (.int y5)] [] w (none, o)) (hK8 : ∀ (y0 : Nat) (y1 : Int32) (y2 : Int32) (y3 : Int32) (y4 : Int32) (w : Wd) (o : Wd), K8 y0 y1 y2 y3 y4 w = some o → Rn S 124 119 [some (.ref y0), some (.int y1), some (.int y2), some (.int y3), some (.int y4), none] [] w (none, o)) (h : f124_J85 n rec8 K8 v0 v1 v2 v4 v5 s0 s1 w = some o) : Rn S 124 85 [some (.ref v0), some (.int v1), some (.int v2), none, some (.int v4), some (.int v5)] [.int s1, .int s0] w (none, o) := by
  unfold f124_J85 at h
  refine rn_iadd (ft124 48 rfl) ?_
  refine rn_istore_n (ls' := [some (.ref v0), some (.int v1), some (.int v2), some (.int (s0 + s1)), some (.int v4), some (.int v5)]) (ft124 49 rfl) rfl ?_
  refine rn_iload (ft124 50 rfl) rfl ?_
  refine rn_aload_n (ft124 51 rfl) rfl ?_
  obtain ⟨x15, q16, h⟩ := ob_some h
  refine rn_getR (ft124 52 rfl) q16 ?_
  refine rn_iload (ft124 53 rfl) rfl ?_
  obtain ⟨x17, q18, h⟩ := ob_some h
  refine rn_iaload (ft124 54 rfl) q18 ?_
  by_cases c23 : x17 ≤ 0
  · replace h := ifp c23 h
    refine rn_if_le_t (ft124 55 rfl) c23 ?_
    refine rn_iconst (v := (0 : Int32)) (ft124 61 rfl) (by decide) ?_
    refine rn_iadd (ft124 62 rfl) ?_
    refine rn_istore (ls' := [some (.ref v0), some (.int v1), some (.int v2), some (.int (s0 + s1)), some (.int (v4 + (0 : Int32))), some (.int v5)]) (ft124 63 rfl) rfl ?_
    refine rn_iinc (u := 1) (ls' := [some (.ref v0), some (.int v1), some (.int v2), some (.int (s0 + s1)), some (.int (v4 + (0 : Int32))), some (.int (v5 + (1 : Int32)))]) (ft124 64 rfl) rfl (by decide) rfl ?_
    refine rn_goto (ft124 65 rfl) ?_
    exact rn_forget (ls := [some (.ref v0), some (.int v1), some (.int v2), some (.int (s0 + s1)), some (.int (v4 + (0 : Int32))), some (.int (v5 + (1 : Int32)))]) (And.intro rfl (And.intro rfl (And.intro rfl (And.intro rfl (And.intro rfl (And.intro rfl trivial)))))) (hrec8 v0 v1 v2 (s0 + s1) (v4 + (0 : Int32)) (v5 + (1 : Int32)) w _ h)
  · replace h := ifn c23 h
    refine rn_if_le_f (ft124 55 rfl) c23 ?_
    refine rn_aload_n (ft124 56 rfl) rfl ?_
    obtain ⟨x19, q20, h⟩ := ob_some h
    refine rn_getR (ft124 57 rfl) q20 ?_
    refine rn_iload (ft124 58 rfl) rfl ?_
    obtain ⟨x21, q22, h⟩ := ob_some h
    refine rn_iaload (ft124 59 rfl) q22 ?_
    refine rn_goto (ft124 60 rfl) ?_
    refine rn_iadd (ft124 62 rfl) ?_
    refine rn_istore (ls' := [some (.ref v0), some (.int v1), some (.int v2), some (.int (s0 + s1)), some (.int (v4 + x21)), some (.int v5)]) (ft124 63 rfl) rfl ?_
    refine rn_iinc (u := 1) (ls' := [some (.ref v0), some (.int v1), some (.int v2), some (.int (s0 + s1)), some (.int (v4 + x21)), some (.int (v5 + (1 : Int32)))]) (ft124 64 rfl) rfl (by decide) rfl ?_
    refine rn_goto (ft124 65 rfl) ?_
    exact rn_forget (ls := [some (.ref v0), some (.int v1), some (.int v2), some (.int (s0 + s1)), some (.int (v4 + x21)), some (.int (v5 + (1 : Int32)))]) (And.intro rfl (And.intro rfl (And.intro rfl (And.intro rfl (And.intro rfl (And.intro rfl trivial)))))) (hrec8 v0 v1 v2 (s0 + s1) (v4 + x21) (v5 + (1 : Int32)) w _ h)
def f124_J61 (n : Nat) (rec8 : Nat → Int32 → Int32 → Int32 → Int32 → Int32 → Wd → Option Wd) (K8 : Nat → Int32 → Int32 → Int32 → Int32 → Wd → Option Wd) (v0 : Nat) (v1 : Int32) (v3 : Int32) (v4 : Int32) (v5 : Int32) (s0 : Int32) (s1 : Int32) (w : Wd) : Option Wd :=
  ob (getR w 11 v0 36) (fun x11 => ob (aldI w x11 v5) (fun x13 => (if ¬ x13 = 0 then f124_J85 n rec8 K8 v0 v1 (s0 + s1) v4 v5 v3 (0 : Int32) w
    else ob (getR w 11 v0 7) (fun x24 => ob (aldI w x24 v5) (fun x26 => f124_J85 n rec8 K8 v0 v1 (s0 + s1) v4 v5 v3 x26 w)))))
set_option maxRecDepth 10000 in
theorem rf124_J61 {S : Sc} (n : Nat) (rec8 : Nat → Int32 → Int32 → Int32 → Int32 → Int32 → Wd → Option Wd) (K8 : Nat → Int32 → Int32 → Int32 → Int32 → Wd → Option Wd) (v0 : Nat) (v1 : Int32) (v3 : Int32) (v4 : Int32) (v5 : Int32) (s0 : Int32) (s1 : Int32) (w : Wd) (o : Wd) (hrec8 : ∀ (y0 : Nat) (y1 : Int32) (y2 : Int32) (y3 : Int32) (y4 : Int32) (y5 : Int32) (w : Wd) (o : Wd), rec8 y0 y1 y2 y3 y4 y5 w = some o → Rn S 124 10 [some (.ref y0), some (.int y1), some (.int y2), some (.int y3), some (.int y4), some (.int y5)] [] w (none, o)) (hK8 : ∀ (y0 : Nat) (y1 : Int32) (y2 : Int32) (y3 : Int32) (y4 : Int32) (w : Wd) (o : Wd), K8 y0 y1 y2 y3 y4 w = some o → Rn S 124 119 [some (.ref y0), some (.int y1), some (.int y2), some (.int y3), some (.int y4), none] [] w (none, o)) (h : f124_J61 n rec8 K8 v0 v1 v3 v4 v5 s0 s1 w = some o) : Rn S 124 61 [some (.ref v0), some (.int v1), none, some (.int v3), some (.int v4), some (.int v5)] [.int s1, .int s0] w (none, o) := by
  unfold f124_J61 at h
  refine rn_iadd (ft124 34 rfl) ?_
  refine rn_istore_n (ls' := [some (.ref v0), some (.int v1), some (.int (s0 + s1)), some (.int v3), some (.int v4), some (.int v5)]) (ft124 35 rfl) rfl ?_
  refine rn_iload_n (ft124 36 rfl) rfl ?_
  refine rn_aload_n (ft124 37 rfl) rfl ?_
  obtain ⟨x11, q12, h⟩ := ob_some h
  refine rn_getR (ft124 38 rfl) q12 ?_
  refine rn_iload (ft124 39 rfl) rfl ?_
  obtain ⟨x13, q14, h⟩ := ob_some h
  refine rn_iaload (ft124 40 rfl) q14 ?_
  by_cases c28 : ¬ x13 = 0
  · replace h := ifp c28 h
    refine rn_if_ne_t (ft124 41 rfl) c28 ?_
    refine rn_iconst (v := (0 : Int32)) (ft124 47 rfl) (by decide) ?_
    exact rn_forget (ls := [some (.ref v0), some (.int v1), some (.int (s0 + s1)), none, some (.int v4), some (.int v5)]) (And.intro rfl (And.intro rfl (And.intro rfl (And.intro rfl (And.intro rfl trivial))))) (rf124_J85 n rec8 K8 v0 v1 (s0 + s1) v4 v5 v3 (0 : Int32) w _ hrec8 hK8 h)
  · replace h := ifn c28 h
    refine rn_if_ne_f (ft124 41 rfl) c28 ?_
    refine rn_aload_n (ft124 42 rfl) rfl ?_
    obtain ⟨x24, q25, h⟩ := ob_some h
    refine rn_getR (ft124 43 rfl) q25 ?_
    refine rn_iload (ft124 44 rfl) rfl ?_
    obtain ⟨x26, q27, h⟩ := ob_some h
    refine rn_iaload (ft124 45 rfl) q27 ?_
    refine rn_goto (ft124 46 rfl) ?_
    exact rn_forget (ls := [some (.ref v0), some (.int v1), some (.int (s0 + s1)), none, some (.int v4), some (.int v5)]) (And.intro rfl (And.intro rfl (And.intro rfl (And.intro rfl (And.intro rfl trivial))))) (rf124_J85 n rec8 K8 v0 v1 (s0 + s1) v4 v5 v3 x26 w _ hrec8 hK8 h)
def f124_J39 (n : Nat) (rec8 : Nat → Int32 → Int32 → Int32 → Int32 → Int32 → Wd → Option Wd) (K8 : Nat → Int32 → Int32 → Int32 → Int32 → Wd → Option Wd) (v0 : Nat) (v1 : Int32) (v2 : Int32) (v3 : Int32) (v4 : Int32) (v5 : Int32) (w : Wd) : Option Wd :=
  ob (getR w 11 v0 36) (fun x7 => ob (aldI w x7 v5) (fun x9 => (if 0 ≤ x9 then f124_J61 n rec8 K8 v0 v1 v3 v4 v5 v2 (0 : Int32) w
    else ob (getR w 11 v0 7) (fun x29 => ob (aldI w x29 v5) (fun x31 => f124_J61 n rec8 K8 v0 v1 v3 v4 v5 v2 x31 w)))))
set_option maxRecDepth 10000 in
theorem rf124_J39 {S : Sc} (n : Nat) (rec8 : Nat → Int32 → Int32 → Int32 → Int32 → Int32 → Wd → Option Wd) (K8 : Nat → Int32 → Int32 → Int32 → Int32 → Wd → Option Wd) (v0 : Nat) (v1 : Int32) (v2 : Int32) (v3 : Int32) (v4 : Int32) (v5 : Int32) (w : Wd) (o : Wd) (hrec8 : ∀ (y0 : Nat) (y1 : Int32) (y2 : Int32) (y3 : Int32) (y4 : Int32) (y5 : Int32) (w : Wd) (o : Wd), rec8 y0 y1 y2 y3 y4 y5 w = some o → Rn S 124 10 [some (.ref y0), some (.int y1), some (.int y2), some (.int y3), some (.int y4), some (.int y5)] [] w (none, o)) (hK8 : ∀ (y0 : Nat) (y1 : Int32) (y2 : Int32) (y3 : Int32) (y4 : Int32) (w : Wd) (o : Wd), K8 y0 y1 y2 y3 y4 w = some o → Rn S 124 119 [some (.ref y0), some (.int y1), some (.int y2), some (.int y3), some (.int y4), none] [] w (none, o)) (h : f124_J39 n rec8 K8 v0 v1 v2 v3 v4 v5 w = some o) : Rn S 124 39 [some (.ref v0), some (.int v1), some (.int v2), some (.int v3), some (.int v4), some (.int v5)] [] w (none, o) := by
  unfold f124_J39 at h
  refine rn_iload_n (ft124 22 rfl) rfl ?_
  refine rn_aload_n (ft124 23 rfl) rfl ?_
  obtain ⟨x7, q8, h⟩ := ob_some h
  refine rn_getR (ft124 24 rfl) q8 ?_
  refine rn_iload (ft124 25 rfl) rfl ?_
  obtain ⟨x9, q10, h⟩ := ob_some h
  refine rn_iaload (ft124 26 rfl) q10 ?_
  by_cases c33 : 0 ≤ x9
  · replace h := ifp c33 h
    refine rn_if_ge_t (ft124 27 rfl) c33 ?_
    refine rn_iconst (v := (0 : Int32)) (ft124 33 rfl) (by decide) ?_
    exact rn_forget (ls := [some (.ref v0), some (.int v1), none, some (.int v3), some (.int v4), some (.int v5)]) (And.intro rfl (And.intro rfl (And.intro rfl (And.intro rfl (And.intro rfl trivial))))) (rf124_J61 n rec8 K8 v0 v1 v3 v4 v5 v2 (0 : Int32) w _ hrec8 hK8 h)
  · replace h := ifn c33 h
    refine rn_if_ge_f (ft124 27 rfl) c33 ?_
    refine rn_aload_n (ft124 28 rfl) rfl ?_
    obtain ⟨x29, q30, h⟩ := ob_some h
    refine rn_getR (ft124 29 rfl) q30 ?_
    refine rn_iload (ft124 30 rfl) rfl ?_
    obtain ⟨x31, q32, h⟩ := ob_some h
    refine rn_iaload (ft124 31 rfl) q32 ?_
    refine rn_goto (ft124 32 rfl) ?_
    exact rn_forget (ls := [some (.ref v0), some (.int v1), none, some (.int v3), some (.int v4), some (.int v5)]) (And.intro rfl (And.intro rfl (And.intro rfl (And.intro rfl (And.intro rfl trivial))))) (rf124_J61 n rec8 K8 v0 v1 v3 v4 v5 v2 x31 w _ hrec8 hK8 h)
def f124_H10 (n : Nat)  (K8 : Nat → Int32 → Int32 → Int32 → Int32 → Wd → Option Wd) : Nat → Nat → Int32 → Int32 → Int32 → Int32 → Int32 → Wd → Option Wd
  | 0, _, _, _, _, _, _, _ => none
  | k + 1, v0, v1, v2, v3, v4, v5, w =>
    ob (getI w 11 v0 6) (fun x1 => (if x1 ≤ v5 then K8 v0 v1 v2 v3 v4 w
      else ob (getR w 11 v0 10) (fun x3 => ob (aldI w x3 v5) (fun x5 => (if ¬ x5 = (3 : Int32) then f124_J39 n (fun (v0 : Nat) (v1 : Int32) (v2 : Int32) (v3 : Int32) (v4 : Int32) (v5 : Int32) w => f124_H10 n  K8 k v0 v1 v2 v3 v4 v5 w) K8 v0 v1 v2 v3 v4 v5 w
        else ob (f44 v1 v5 w) (fun p34 => (if p34.1 = 0 then (fun (v0 : Nat) (v1 : Int32) (v2 : Int32) (v3 : Int32) (v4 : Int32) (v5 : Int32) w => f124_H10 n  K8 k v0 v1 v2 v3 v4 v5 w) v0 v1 v2 v3 v4 (v5 + (1 : Int32)) p34.2
          else f124_J39 n (fun (v0 : Nat) (v1 : Int32) (v2 : Int32) (v3 : Int32) (v4 : Int32) (v5 : Int32) w => f124_H10 n  K8 k v0 v1 v2 v3 v4 v5 w) K8 v0 v1 v2 v3 v4 v5 p34.2)))))))
set_option maxRecDepth 10000 in
theorem rf124_H10 {S : Sc} (n : Nat)  (K8 : Nat → Int32 → Int32 → Int32 → Int32 → Wd → Option Wd)  (hK8 : ∀ (y0 : Nat) (y1 : Int32) (y2 : Int32) (y3 : Int32) (y4 : Int32) (w : Wd) (o : Wd), K8 y0 y1 y2 y3 y4 w = some o → Rn S 124 119 [some (.ref y0), some (.int y1), some (.int y2), some (.int y3), some (.int y4), none] [] w (none, o)) : ∀ (k : Nat) (v0 : Nat) (v1 : Int32) (v2 : Int32) (v3 : Int32) (v4 : Int32) (v5 : Int32) (w : Wd) (o : Wd), f124_H10 n  K8 k v0 v1 v2 v3 v4 v5 w = some o → Rn S 124 10 [some (.ref v0), some (.int v1), some (.int v2), some (.int v3), some (.int v4), some (.int v5)] [] w (none, o) := by
  intro k
  induction k with
  | zero =>
    intro v0 v1 v2 v3 v4 v5 w o h
    exact nomatch h
  | succ k ih =>
    intro v0 v1 v2 v3 v4 v5 w o h
    have hrec8 : ∀ (y0 : Nat) (y1 : Int32) (y2 : Int32) (y3 : Int32) (y4 : Int32) (y5 : Int32) (w : Wd) (o : Wd), (fun (v0 : Nat) (v1 : Int32) (v2 : Int32) (v3 : Int32) (v4 : Int32) (v5 : Int32) w => f124_H10 n  K8 k v0 v1 v2 v3 v4 v5 w) y0 y1 y2 y3 y4 y5 w = some o → Rn S 124 10 [some (.ref y0), some (.int y1), some (.int y2), some (.int y3), some (.int y4), some (.int y5)] [] w (none, o) := fun y0 y1 y2 y3 y4 y5 w o h => ih y0 y1 y2 y3 y4 y5 w o h
    unfold f124_H10 at h
    refine rn_iload (ft124 8 rfl) rfl ?_
    refine rn_aload_n (ft124 9 rfl) rfl ?_
    obtain ⟨x1, q2, h⟩ := ob_some h
    refine rn_getI (ft124 10 rfl) (by decide) (by decide) q2 ?_
    by_cases c38 : x1 ≤ v5
    · replace h := ifp c38 h
      refine rn_icmp_ge_t (ft124 11 rfl) c38 ?_
      exact rn_forget (ls := [some (.ref v0), some (.int v1), some (.int v2), some (.int v3), some (.int v4), none]) (And.intro rfl (And.intro rfl (And.intro rfl (And.intro rfl (And.intro rfl trivial))))) (hK8 v0 v1 v2 v3 v4 w _ h)
    · replace h := ifn c38 h
      refine rn_icmp_ge_f (ft124 11 rfl) c38 ?_
      refine rn_aload_n (ft124 12 rfl) rfl ?_
      obtain ⟨x3, q4, h⟩ := ob_some h
      refine rn_getR (ft124 13 rfl) q4 ?_
      refine rn_iload (ft124 14 rfl) rfl ?_
      obtain ⟨x5, q6, h⟩ := ob_some h
      refine rn_iaload (ft124 15 rfl) q6 ?_
      refine rn_iconst (v := (3 : Int32)) (ft124 16 rfl) (by decide) ?_
      by_cases c37 : ¬ x5 = (3 : Int32)
      · replace h := ifp c37 h
        refine rn_icmp_ne_t (ft124 17 rfl) c37 ?_
        exact rn_forget (ls := [some (.ref v0), some (.int v1), some (.int v2), some (.int v3), some (.int v4), some (.int v5)]) (And.intro rfl (And.intro rfl (And.intro rfl (And.intro rfl (And.intro rfl (And.intro rfl trivial)))))) (rf124_J39 n (fun (v0 : Nat) (v1 : Int32) (v2 : Int32) (v3 : Int32) (v4 : Int32) (v5 : Int32) w => f124_H10 n  K8 k v0 v1 v2 v3 v4 v5 w) K8 v0 v1 v2 v3 v4 v5 w _ hrec8 hK8 h)
      · replace h := ifn c37 h
        refine rn_icmp_ne_f (ft124 17 rfl) c37 ?_
        refine rn_iload_n (ft124 18 rfl) rfl ?_
        refine rn_iload (ft124 19 rfl) rfl ?_
        obtain ⟨p34, q35, h⟩ := ob_some h
        refine rn_callS (as := [.int v1, .int v5]) (r := []) (v := (some (.int p34.1))) (w1 := p34.2) (ft124 20 rfl) (by decide +kernel) rfl (Nat.le_of_ble_eq_true rfl) (Nat.le_of_ble_eq_true rfl) (r44 v1 v5 w _ q35) ?_
        by_cases c36 : p34.1 = 0
        · replace h := ifp c36 h
          refine rn_if_eq_t (ft124 21 rfl) c36 ?_
          refine rn_iinc (u := 1) (ls' := [some (.ref v0), some (.int v1), some (.int v2), some (.int v3), some (.int v4), some (.int (v5 + (1 : Int32)))]) (ft124 64 rfl) rfl (by decide) rfl ?_
          refine rn_goto (ft124 65 rfl) ?_
          exact rn_forget (ls := [some (.ref v0), some (.int v1), some (.int v2), some (.int v3), some (.int v4), some (.int (v5 + (1 : Int32)))]) (And.intro rfl (And.intro rfl (And.intro rfl (And.intro rfl (And.intro rfl (And.intro rfl trivial)))))) (hrec8 v0 v1 v2 v3 v4 (v5 + (1 : Int32)) p34.2 _ h)
        · replace h := ifn c36 h
          refine rn_if_eq_f (ft124 21 rfl) c36 ?_
          exact rn_forget (ls := [some (.ref v0), some (.int v1), some (.int v2), some (.int v3), some (.int v4), some (.int v5)]) (And.intro rfl (And.intro rfl (And.intro rfl (And.intro rfl (And.intro rfl (And.intro rfl trivial)))))) (rf124_J39 n (fun (v0 : Nat) (v1 : Int32) (v2 : Int32) (v3 : Int32) (v4 : Int32) (v5 : Int32) w => f124_H10 n  K8 k v0 v1 v2 v3 v4 v5 w) K8 v0 v1 v2 v3 v4 v5 p34.2 _ hrec8 hK8 h)
def f124_H122 (n : Nat)  (K68 : Wd → Option Wd) : Nat → Nat → Int32 → Int32 → Int32 → Int32 → Int32 → Wd → Option Wd
  | 0, _, _, _, _, _, _, _ => none
  | k + 1, v0, v1, v2, v3, v4, v5, w =>
    ob (getI w 11 v0 6) (fun x40 => (if x40 ≤ v5 then K68 w
      else ob (getR w 11 v0 10) (fun x42 => ob (aldI w x42 v5) (fun x44 => (if ¬ x44 = (3 : Int32) then (fun (v0 : Nat) (v1 : Int32) (v2 : Int32) (v3 : Int32) (v4 : Int32) (v5 : Int32) w => f124_H122 n  K68 k v0 v1 v2 v3 v4 v5 w) v0 v1 v2 v3 v4 (v5 + (1 : Int32)) w
        else ob (f44 v1 v5 w) (fun p46 => (if ¬ p46.1 = 0 then (fun (v0 : Nat) (v1 : Int32) (v2 : Int32) (v3 : Int32) (v4 : Int32) (v5 : Int32) w => f124_H122 n  K68 k v0 v1 v2 v3 v4 v5 w) v0 v1 v2 v3 v4 (v5 + (1 : Int32)) p46.2
          else ob (getR p46.2 11 v0 36) (fun x48 => ob (f52 v2 v3 v4 p46.2) (fun p50 => ob (astI p50.2 x48 v5 p50.1) (fun w52 => (fun (v0 : Nat) (v1 : Int32) (v2 : Int32) (v3 : Int32) (v4 : Int32) (v5 : Int32) w => f124_H122 n  K68 k v0 v1 v2 v3 v4 v5 w) v0 v1 v2 v3 v4 (v5 + (1 : Int32)) w52))))))))))
set_option maxRecDepth 10000 in
theorem rf124_H122 {S : Sc} (n : Nat)  (K68 : Wd → Option Wd)  (hK68 : ∀  (w : Wd) (o : Wd), K68 w = some o → Rn S 124 171 [none, none, none, none, none, none] [] w (none, o)) : ∀ (k : Nat) (v0 : Nat) (v1 : Int32) (v2 : Int32) (v3 : Int32) (v4 : Int32) (v5 : Int32) (w : Wd) (o : Wd), f124_H122 n  K68 k v0 v1 v2 v3 v4 v5 w = some o → Rn S 124 122 [some (.ref v0), some (.int v1), some (.int v2), some (.int v3), some (.int v4), some (.int v5)] [] w (none, o) := by
  intro k
  induction k with
  | zero =>
    intro v0 v1 v2 v3 v4 v5 w o h
    exact nomatch h
  | succ k ih =>
    intro v0 v1 v2 v3 v4 v5 w o h
    have hrec68 : ∀ (y0 : Nat) (y1 : Int32) (y2 : Int32) (y3 : Int32) (y4 : Int32) (y5 : Int32) (w : Wd) (o : Wd), (fun (v0 : Nat) (v1 : Int32) (v2 : Int32) (v3 : Int32) (v4 : Int32) (v5 : Int32) w => f124_H122 n  K68 k v0 v1 v2 v3 v4 v5 w) y0 y1 y2 y3 y4 y5 w = some o → Rn S 124 122 [some (.ref y0), some (.int y1), some (.int y2), some (.int y3), some (.int y4), some (.int y5)] [] w (none, o) := fun y0 y1 y2 y3 y4 y5 w o h => ih y0 y1 y2 y3 y4 y5 w o h
    unfold f124_H122 at h
    refine rn_iload (ft124 68 rfl) rfl ?_
    refine rn_aload_n (ft124 69 rfl) rfl ?_
    obtain ⟨x40, q41, h⟩ := ob_some h
    refine rn_getI (ft124 70 rfl) (by decide) (by decide) q41 ?_
    by_cases c56 : x40 ≤ v5
    · replace h := ifp c56 h
      refine rn_icmp_ge_t (ft124 71 rfl) c56 ?_
      exact rn_forget (ls := [none, none, none, none, none, none]) trivial (hK68 w _ h)
    · replace h := ifn c56 h
      refine rn_icmp_ge_f (ft124 71 rfl) c56 ?_
      refine rn_aload_n (ft124 72 rfl) rfl ?_
      obtain ⟨x42, q43, h⟩ := ob_some h
      refine rn_getR (ft124 73 rfl) q43 ?_
      refine rn_iload (ft124 74 rfl) rfl ?_
      obtain ⟨x44, q45, h⟩ := ob_some h
      refine rn_iaload (ft124 75 rfl) q45 ?_
      refine rn_iconst (v := (3 : Int32)) (ft124 76 rfl) (by decide) ?_
      by_cases c55 : ¬ x44 = (3 : Int32)
      · replace h := ifp c55 h
        refine rn_icmp_ne_t (ft124 77 rfl) c55 ?_
        refine rn_iinc (u := 1) (ls' := [some (.ref v0), some (.int v1), some (.int v2), some (.int v3), some (.int v4), some (.int (v5 + (1 : Int32)))]) (ft124 90 rfl) rfl (by decide) rfl ?_
        refine rn_goto (ft124 91 rfl) ?_
        exact rn_forget (ls := [some (.ref v0), some (.int v1), some (.int v2), some (.int v3), some (.int v4), some (.int (v5 + (1 : Int32)))]) (And.intro rfl (And.intro rfl (And.intro rfl (And.intro rfl (And.intro rfl (And.intro rfl trivial)))))) (hrec68 v0 v1 v2 v3 v4 (v5 + (1 : Int32)) w _ h)
      · replace h := ifn c55 h
        refine rn_icmp_ne_f (ft124 77 rfl) c55 ?_
        refine rn_iload_n (ft124 78 rfl) rfl ?_
        refine rn_iload (ft124 79 rfl) rfl ?_
        obtain ⟨p46, q47, h⟩ := ob_some h
        refine rn_callS (as := [.int v1, .int v5]) (r := []) (v := (some (.int p46.1))) (w1 := p46.2) (ft124 80 rfl) (by decide +kernel) rfl (Nat.le_of_ble_eq_true rfl) (Nat.le_of_ble_eq_true rfl) (r44 v1 v5 w _ q47) ?_
        by_cases c54 : ¬ p46.1 = 0
        · replace h := ifp c54 h
          refine rn_if_ne_t (ft124 81 rfl) c54 ?_
          refine rn_iinc (u := 1) (ls' := [some (.ref v0), some (.int v1), some (.int v2), some (.int v3), some (.int v4), some (.int (v5 + (1 : Int32)))]) (ft124 90 rfl) rfl (by decide) rfl ?_
          refine rn_goto (ft124 91 rfl) ?_
          exact rn_forget (ls := [some (.ref v0), some (.int v1), some (.int v2), some (.int v3), some (.int v4), some (.int (v5 + (1 : Int32)))]) (And.intro rfl (And.intro rfl (And.intro rfl (And.intro rfl (And.intro rfl (And.intro rfl trivial)))))) (hrec68 v0 v1 v2 v3 v4 (v5 + (1 : Int32)) p46.2 _ h)
        · replace h := ifn c54 h
          refine rn_if_ne_f (ft124 81 rfl) c54 ?_
          refine rn_aload_n (ft124 82 rfl) rfl ?_
          obtain ⟨x48, q49, h⟩ := ob_some h
          refine rn_getR (ft124 83 rfl) q49 ?_
          refine rn_iload (ft124 84 rfl) rfl ?_
          refine rn_iload_n (ft124 85 rfl) rfl ?_
          refine rn_iload_n (ft124 86 rfl) rfl ?_
          refine rn_iload (ft124 87 rfl) rfl ?_
          obtain ⟨p50, q51, h⟩ := ob_some h
          refine rn_callS (as := [.int v2, .int v3, .int v4]) (r := [.int v5, .ref x48]) (v := (some (.int p50.1))) (w1 := p50.2) (ft124 88 rfl) (by decide +kernel) rfl (Nat.le_of_ble_eq_true rfl) (Nat.le_of_ble_eq_true rfl) (r52 v2 v3 v4 p46.2 _ q51) ?_
          obtain ⟨w52, q53, h⟩ := ob_some h
          refine rn_iastore (ft124 89 rfl) q53 ?_
          refine rn_iinc (u := 1) (ls' := [some (.ref v0), some (.int v1), some (.int v2), some (.int v3), some (.int v4), some (.int (v5 + (1 : Int32)))]) (ft124 90 rfl) rfl (by decide) rfl ?_
          refine rn_goto (ft124 91 rfl) ?_
          exact rn_forget (ls := [some (.ref v0), some (.int v1), some (.int v2), some (.int v3), some (.int v4), some (.int (v5 + (1 : Int32)))]) (And.intro rfl (And.intro rfl (And.intro rfl (And.intro rfl (And.intro rfl (And.intro rfl trivial)))))) (hrec68 v0 v1 v2 v3 v4 (v5 + (1 : Int32)) w52 _ h)
def f124 (n : Nat) (v0 : Nat) (v1 : Int32) (w : Wd) : Option Wd :=
  f124_H10 n  (fun (e0_39 : Nat) (e1_39 : Int32) (e2_39 : Int32) (e3_39 : Int32) (e4_39 : Int32) (w39 : Wd) => f124_H122 n  (fun  (w57 : Wd) => some w57) n e0_39 e1_39 e2_39 e3_39 e4_39 (0 : Int32) w39) n v0 v1 (0 : Int32) (0 : Int32) (0 : Int32) (0 : Int32) w
set_option maxRecDepth 10000 in
theorem r124 {S : Sc} (n : Nat) (v0 : Nat) (v1 : Int32) (w : Wd) (o : Wd) (h : f124 n v0 v1 w = some o) : Rn S 124 0 [some (.ref v0), some (.int v1), none, none, none, none] [] w (none, o) := by
  unfold f124 at h
  refine rn_iconst (v := (0 : Int32)) (ft124 0 rfl) (by decide) ?_
  refine rn_istore_n (ls' := [some (.ref v0), some (.int v1), some (.int (0 : Int32)), none, none, none]) (ft124 1 rfl) rfl ?_
  refine rn_iconst (v := (0 : Int32)) (ft124 2 rfl) (by decide) ?_
  refine rn_istore_n (ls' := [some (.ref v0), some (.int v1), some (.int (0 : Int32)), some (.int (0 : Int32)), none, none]) (ft124 3 rfl) rfl ?_
  refine rn_iconst (v := (0 : Int32)) (ft124 4 rfl) (by decide) ?_
  refine rn_istore (ls' := [some (.ref v0), some (.int v1), some (.int (0 : Int32)), some (.int (0 : Int32)), some (.int (0 : Int32)), none]) (ft124 5 rfl) rfl ?_
  refine rn_iconst (v := (0 : Int32)) (ft124 6 rfl) (by decide) ?_
  refine rn_istore (ls' := [some (.ref v0), some (.int v1), some (.int (0 : Int32)), some (.int (0 : Int32)), some (.int (0 : Int32)), some (.int (0 : Int32))]) (ft124 7 rfl) rfl ?_
  refine rn_forget (ls := [some (.ref v0), some (.int v1), some (.int (0 : Int32)), some (.int (0 : Int32)), some (.int (0 : Int32)), some (.int (0 : Int32))]) (And.intro rfl (And.intro rfl (And.intro rfl (And.intro rfl (And.intro rfl (And.intro rfl trivial)))))) (rf124_H10 n  _  (fun e0_39 e1_39 e2_39 e3_39 e4_39 w39 o h => ?_) n v0 v1 (0 : Int32) (0 : Int32) (0 : Int32) (0 : Int32) w _ h)
  refine rn_iconst (v := (0 : Int32)) (ft124 66 rfl) (by decide) ?_
  refine rn_istore (ls' := [some (.ref e0_39), some (.int e1_39), some (.int e2_39), some (.int e3_39), some (.int e4_39), some (.int (0 : Int32))]) (ft124 67 rfl) rfl ?_
  refine rn_forget (ls := [some (.ref e0_39), some (.int e1_39), some (.int e2_39), some (.int e3_39), some (.int e4_39), some (.int (0 : Int32))]) (And.intro rfl (And.intro rfl (And.intro rfl (And.intro rfl (And.intro rfl (And.intro rfl trivial)))))) (rf124_H122 n  _  (fun  w57 o h => ?_) n e0_39 e1_39 e2_39 e3_39 e4_39 (0 : Int32) w39 _ h)
  cases h
  exact rn_vret pr124 (ft124 92 rfl)
/-- NineWheelModel.needs(I)I -/
theorem ft125 : ∀ (i : Nat) {q : Nat × XI}, cd125[i]? = some q → fetch 125 q.1 = some q.2 := ft_of (by decide +kernel)
theorem pr125 : pRt 125 = some .int := rfl
def f125_J51  (v0 : Nat) (v1 : Int32) (s0 : Int64) (w : Wd) : Option (Int32 × Wd) :=
  ob (getL w 11 v0 18) (fun x7 => (if ¬ (lg_cmp x7 s0) = 0 then some ((-1 : Int32), w)
    else some (v1, w)))
set_option maxRecDepth 10000 in
theorem rf125_J51 {S : Sc}  (v0 : Nat) (v1 : Int32) (s0 : Int64) (w : Wd) (o : (Int32 × Wd))  (h : f125_J51  v0 v1 s0 w = some o) : Rn S 125 51 [some (.ref v0), some (.int v1), none, none] [.long s0] w (some (.int o.1), o.2) := by
  unfold f125_J51 at h
  refine rn_lstore_n (ls' := [some (.ref v0), some (.int v1), some (.long s0), none]) (ft125 23 rfl) rfl ?_
  refine rn_aload_n (ft125 24 rfl) rfl ?_
  obtain ⟨x7, q8, h⟩ := ob_some h
  refine rn_getL (ft125 25 rfl) q8 ?_
  refine rn_lload_n (ft125 26 rfl) rfl ?_
  refine rn_lcmp (ft125 27 rfl) ?_
  by_cases c9 : ¬ (lg_cmp x7 s0) = 0
  · replace h := ifp c9 h
    refine rn_if_ne_t (ft125 28 rfl) c9 ?_
    refine rn_iconst (v := (-1 : Int32)) (ft125 31 rfl) (by decide) ?_
    cases h
    exact rn_iretI pr125 (ft125 32 rfl)
  · replace h := ifn c9 h
    refine rn_if_ne_f (ft125 28 rfl) c9 ?_
    refine rn_iload_n (ft125 29 rfl) rfl ?_
    refine rn_goto (ft125 30 rfl) ?_
    cases h
    exact rn_iretI pr125 (ft125 32 rfl)
def f125 (v0 : Nat) (v1 : Int32) (w : Wd) : Option (Int32 × Wd) :=
  (if ¬ v1 = (1 : Int32) then (if ¬ v1 = (2 : Int32) then ob (f42 (117 : Int32) (110 : Int32) (108 : Int32) (101 : Int32) w) (fun p1 => ob (f43 p1.1 (115 : Int32) p1.2) (fun p3 => ob (f43 p3.1 (115 : Int32) p3.2) (fun p5 => f125_J51  v0 v1 p5.1 p5.2)))
      else f125_J51  v0 v1 (1503 : Int64) w)
    else ob (f42 (110 : Int32) (101 : Int32) (101 : Int32) (100 : Int32) w) (fun p11 => f125_J51  v0 v1 p11.1 p11.2))
set_option maxRecDepth 10000 in
theorem r125 {S : Sc} (v0 : Nat) (v1 : Int32) (w : Wd) (o : (Int32 × Wd)) (h : f125 v0 v1 w = some o) : Rn S 125 0 [some (.ref v0), some (.int v1), none, none] [] w (some (.int o.1), o.2) := by
  unfold f125 at h
  refine rn_iload_n (ft125 0 rfl) rfl ?_
  refine rn_iconst (v := (1 : Int32)) (ft125 1 rfl) (by decide) ?_
  by_cases c13 : ¬ v1 = (1 : Int32)
  · replace h := ifp c13 h
    refine rn_icmp_ne_t (ft125 2 rfl) c13 ?_
    refine rn_iload_n (ft125 9 rfl) rfl ?_
    refine rn_iconst (v := (2 : Int32)) (ft125 10 rfl) (by decide) ?_
    by_cases c10 : ¬ v1 = (2 : Int32)
    · replace h := ifp c10 h
      refine rn_icmp_ne_t (ft125 11 rfl) c10 ?_
      refine rn_bipush (v := (117 : Int32)) (ft125 14 rfl) (by decide) ?_
      refine rn_bipush (v := (110 : Int32)) (ft125 15 rfl) (by decide) ?_
      refine rn_bipush (v := (108 : Int32)) (ft125 16 rfl) (by decide) ?_
      refine rn_bipush (v := (101 : Int32)) (ft125 17 rfl) (by decide) ?_
      obtain ⟨p1, q2, h⟩ := ob_some h
      refine rn_callS (as := [.int (117 : Int32), .int (110 : Int32), .int (108 : Int32), .int (101 : Int32)]) (r := []) (v := (some (.long p1.1))) (w1 := p1.2) (ft125 18 rfl) (by decide +kernel) rfl (Nat.le_of_ble_eq_true rfl) (Nat.le_of_ble_eq_true rfl) (r42 (117 : Int32) (110 : Int32) (108 : Int32) (101 : Int32) w _ q2) ?_
      refine rn_bipush (v := (115 : Int32)) (ft125 19 rfl) (by decide) ?_
      obtain ⟨p3, q4, h⟩ := ob_some h
      refine rn_callS (as := [.long p1.1, .int (115 : Int32)]) (r := []) (v := (some (.long p3.1))) (w1 := p3.2) (ft125 20 rfl) (by decide +kernel) rfl (Nat.le_of_ble_eq_true rfl) (Nat.le_of_ble_eq_true rfl) (r43 p1.1 (115 : Int32) p1.2 _ q4) ?_
      refine rn_bipush (v := (115 : Int32)) (ft125 21 rfl) (by decide) ?_
      obtain ⟨p5, q6, h⟩ := ob_some h
      refine rn_callS (as := [.long p3.1, .int (115 : Int32)]) (r := []) (v := (some (.long p5.1))) (w1 := p5.2) (ft125 22 rfl) (by decide +kernel) rfl (Nat.le_of_ble_eq_true rfl) (Nat.le_of_ble_eq_true rfl) (r43 p3.1 (115 : Int32) p3.2 _ q6) ?_
      exact rn_forget (ls := [some (.ref v0), some (.int v1), none, none]) (And.intro rfl (And.intro rfl trivial)) (rf125_J51  v0 v1 p5.1 p5.2 _  h)
    · replace h := ifn c10 h
      refine rn_icmp_ne_f (ft125 11 rfl) c10 ?_
      refine rn_ldc2 (v := (1503 : Int64)) (ft125 12 rfl) (by decide) ?_
      refine rn_goto (ft125 13 rfl) ?_
      exact rn_forget (ls := [some (.ref v0), some (.int v1), none, none]) (And.intro rfl (And.intro rfl trivial)) (rf125_J51  v0 v1 (1503 : Int64) w _  h)
  · replace h := ifn c13 h
    refine rn_icmp_ne_f (ft125 2 rfl) c13 ?_
    refine rn_bipush (v := (110 : Int32)) (ft125 3 rfl) (by decide) ?_
    refine rn_bipush (v := (101 : Int32)) (ft125 4 rfl) (by decide) ?_
    refine rn_bipush (v := (101 : Int32)) (ft125 5 rfl) (by decide) ?_
    refine rn_bipush (v := (100 : Int32)) (ft125 6 rfl) (by decide) ?_
    obtain ⟨p11, q12, h⟩ := ob_some h
    refine rn_callS (as := [.int (110 : Int32), .int (101 : Int32), .int (101 : Int32), .int (100 : Int32)]) (r := []) (v := (some (.long p11.1))) (w1 := p11.2) (ft125 7 rfl) (by decide +kernel) rfl (Nat.le_of_ble_eq_true rfl) (Nat.le_of_ble_eq_true rfl) (r42 (110 : Int32) (101 : Int32) (101 : Int32) (100 : Int32) w _ q12) ?_
    refine rn_goto (ft125 8 rfl) ?_
    exact rn_forget (ls := [some (.ref v0), some (.int v1), none, none]) (And.intro rfl (And.intro rfl trivial)) (rf125_J51  v0 v1 p11.1 p11.2 _  h)
/-- NineWheelModel.isRule(I)Z -/
theorem ft126 : ∀ (i : Nat) {q : Nat × XI}, cd126[i]? = some q → fetch 126 q.1 = some q.2 := ft_of (by decide +kernel)
theorem pr126 : pRt 126 = some .boolean := rfl
def f126 (v0 : Nat) (v1 : Int32) (w : Wd) : Option (Int32 × Wd) :=
  ob (getI w 11 v0 37) (fun x1 => ob (f39 (Int32.toInt64 v1) (0 : Int64) (Int32.toInt64 (x1 - (1 : Int32))) w) (fun p3 => (if p3.1 = 0 ∨ p3.1 = 1 then some (p3.1, p3.2) else none)))
set_option maxRecDepth 10000 in
theorem r126 {S : Sc} (v0 : Nat) (v1 : Int32) (w : Wd) (o : (Int32 × Wd)) (h : f126 v0 v1 w = some o) : Rn S 126 0 [some (.ref v0), some (.int v1)] [] w (some (.int o.1), o.2) := by
  unfold f126 at h
  refine rn_iload_n (ft126 0 rfl) rfl ?_
  refine rn_i2l (ft126 1 rfl) ?_
  refine rn_lconst (v := (0 : Int64)) (ft126 2 rfl) (by decide) ?_
  refine rn_aload_n (ft126 3 rfl) rfl ?_
  obtain ⟨x1, q2, h⟩ := ob_some h
  refine rn_getI (ft126 4 rfl) (by decide) (by decide) q2 ?_
  refine rn_iconst (v := (1 : Int32)) (ft126 5 rfl) (by decide) ?_
  refine rn_isub (ft126 6 rfl) ?_
  refine rn_i2l (ft126 7 rfl) ?_
  obtain ⟨p3, q4, h⟩ := ob_some h
  refine rn_callS (as := [.long (Int32.toInt64 v1), .long (0 : Int64), .long (Int32.toInt64 (x1 - (1 : Int32)))]) (r := []) (v := (some (.int p3.1))) (w1 := p3.2) (ft126 8 rfl) (by decide +kernel) rfl (Nat.le_of_ble_eq_true rfl) (Nat.le_of_ble_eq_true rfl) (r39 (Int32.toInt64 v1) (0 : Int64) (Int32.toInt64 (x1 - (1 : Int32))) w _ q4) ?_
  obtain ⟨g5, h⟩ := ifg h
  cases h
  exact rn_iretZ pr126 g5 (ft126 9 rfl)
/-- NineWheelModel.countOne(III)V -/
theorem ft127 : ∀ (i : Nat) {q : Nat × XI}, cd127[i]? = some q → fetch 127 q.1 = some q.2 := ft_of (by decide +kernel)
theorem pr127 : pRt 127 = none := rfl
def f127_J40  (v0 : Nat) (v1 : Int32) (v3 : Int32) (s0 : Nat) (s1 : Int32) (w : Wd) : Option Wd :=
  ob (putZ w 11 s0 45 s1) (fun w9 => ob (getI w9 11 v0 46) (fun x11 => (if ¬ x11 = 0 then ob (putZ w9 11 v0 46 (1 : Int32)) (fun w13 => some w13)
    else ob (getI w9 11 v0 41) (fun x15 => ob (f44 x15 v3 w9) (fun p17 => (if p17.1 = 0 then ob (putZ p17.2 11 v0 46 (0 : Int32)) (fun w19 => some w19)
      else (if v1 ≤ 0 then ob (putZ p17.2 11 v0 46 (0 : Int32)) (fun w21 => some w21)
        else ob (putZ p17.2 11 v0 46 (1 : Int32)) (fun w23 => some w23))))))))
set_option maxRecDepth 10000 in
theorem rf127_J40 {S : Sc}  (v0 : Nat) (v1 : Int32) (v3 : Int32) (s0 : Nat) (s1 : Int32) (w : Wd) (o : Wd)  (h : f127_J40  v0 v1 v3 s0 s1 w = some o) : Rn S 127 40 [some (.ref v0), some (.int v1), none, some (.int v3)] [.int s1, .ref s0] w (none, o) := by
  unfold f127_J40 at h
  obtain ⟨w9, q10, h⟩ := ob_some h
  refine rn_putZ (ft127 24 rfl) q10 ?_
  refine rn_aload_n (ft127 25 rfl) rfl ?_
  refine rn_aload_n (ft127 26 rfl) rfl ?_
  obtain ⟨x11, q12, h⟩ := ob_some h
  refine rn_getI (ft127 27 rfl) (by decide) (by decide) q12 ?_
  by_cases c27 : ¬ x11 = 0
  · replace h := ifp c27 h
    refine rn_if_ne_t (ft127 28 rfl) c27 ?_
    refine rn_iconst (v := (1 : Int32)) (ft127 36 rfl) (by decide) ?_
    refine rn_goto (ft127 37 rfl) ?_
    obtain ⟨w13, q14, h⟩ := ob_some h
    refine rn_putZ (ft127 39 rfl) q14 ?_
    cases h
    exact rn_vret pr127 (ft127 40 rfl)
  · replace h := ifn c27 h
    refine rn_if_ne_f (ft127 28 rfl) c27 ?_
    refine rn_aload_n (ft127 29 rfl) rfl ?_
    obtain ⟨x15, q16, h⟩ := ob_some h
    refine rn_getI (ft127 30 rfl) (by decide) (by decide) q16 ?_
    refine rn_iload_n (ft127 31 rfl) rfl ?_
    obtain ⟨p17, q18, h⟩ := ob_some h
    refine rn_callS (as := [.int x15, .int v3]) (r := [.ref v0]) (v := (some (.int p17.1))) (w1 := p17.2) (ft127 32 rfl) (by decide +kernel) rfl (Nat.le_of_ble_eq_true rfl) (Nat.le_of_ble_eq_true rfl) (r44 x15 v3 w9 _ q18) ?_
    by_cases c26 : p17.1 = 0
    · replace h := ifp c26 h
      refine rn_if_eq_t (ft127 33 rfl) c26 ?_
      refine rn_iconst (v := (0 : Int32)) (ft127 38 rfl) (by decide) ?_
      obtain ⟨w19, q20, h⟩ := ob_some h
      refine rn_putZ (ft127 39 rfl) q20 ?_
      cases h
      exact rn_vret pr127 (ft127 40 rfl)
    · replace h := ifn c26 h
      refine rn_if_eq_f (ft127 33 rfl) c26 ?_
      refine rn_iload_n (ft127 34 rfl) rfl ?_
      by_cases c25 : v1 ≤ 0
      · replace h := ifp c25 h
        refine rn_if_le_t (ft127 35 rfl) c25 ?_
        refine rn_iconst (v := (0 : Int32)) (ft127 38 rfl) (by decide) ?_
        obtain ⟨w21, q22, h⟩ := ob_some h
        refine rn_putZ (ft127 39 rfl) q22 ?_
        cases h
        exact rn_vret pr127 (ft127 40 rfl)
      · replace h := ifn c25 h
        refine rn_if_le_f (ft127 35 rfl) c25 ?_
        refine rn_iconst (v := (1 : Int32)) (ft127 36 rfl) (by decide) ?_
        refine rn_goto (ft127 37 rfl) ?_
        obtain ⟨w23, q24, h⟩ := ob_some h
        refine rn_putZ (ft127 39 rfl) q24 ?_
        cases h
        exact rn_vret pr127 (ft127 40 rfl)
def f127 (v0 : Nat) (v1 : Int32) (v2 : Int32) (v3 : Int32) (w : Wd) : Option Wd :=
  ob (getR w 11 v0 44) (fun x1 => ob (aldI w x1 (v1 + (2 : Int32))) (fun x3 => ob (astI w x1 (v1 + (2 : Int32)) (x3 + v2)) (fun w5 => ob (getI w5 11 v0 45) (fun x7 => (if ¬ x7 = 0 then f127_J40  v0 v1 v3 v0 (1 : Int32) w5
    else ob (getI w5 11 v0 41) (fun x28 => ob (f44 x28 v3 w5) (fun p30 => (if p30.1 = 0 then f127_J40  v0 v1 v3 v0 (0 : Int32) p30.2
      else (if 0 ≤ v1 then f127_J40  v0 v1 v3 v0 (0 : Int32) p30.2
        else f127_J40  v0 v1 v3 v0 (1 : Int32) p30.2)))))))))
set_option maxRecDepth 10000 in
theorem r127 {S : Sc} (v0 : Nat) (v1 : Int32) (v2 : Int32) (v3 : Int32) (w : Wd) (o : Wd) (h : f127 v0 v1 v2 v3 w = some o) : Rn S 127 0 [some (.ref v0), some (.int v1), some (.int v2), some (.int v3)] [] w (none, o) := by
  unfold f127 at h
  refine rn_aload_n (ft127 0 rfl) rfl ?_
  obtain ⟨x1, q2, h⟩ := ob_some h
  refine rn_getR (ft127 1 rfl) q2 ?_
  refine rn_iload_n (ft127 2 rfl) rfl ?_
  refine rn_iconst (v := (2 : Int32)) (ft127 3 rfl) (by decide) ?_
  refine rn_iadd (ft127 4 rfl) ?_
  refine rn_dup2 (ft127 5 rfl) rfl rfl ?_
  obtain ⟨x3, q4, h⟩ := ob_some h
  refine rn_iaload (ft127 6 rfl) q4 ?_
  refine rn_iload_n (ft127 7 rfl) rfl ?_
  refine rn_iadd (ft127 8 rfl) ?_
  obtain ⟨w5, q6, h⟩ := ob_some h
  refine rn_iastore (ft127 9 rfl) q6 ?_
  refine rn_aload_n (ft127 10 rfl) rfl ?_
  refine rn_aload_n (ft127 11 rfl) rfl ?_
  obtain ⟨x7, q8, h⟩ := ob_some h
  refine rn_getI (ft127 12 rfl) (by decide) (by decide) q8 ?_
  by_cases c34 : ¬ x7 = 0
  · replace h := ifp c34 h
    refine rn_if_ne_t (ft127 13 rfl) c34 ?_
    refine rn_iconst (v := (1 : Int32)) (ft127 21 rfl) (by decide) ?_
    refine rn_goto (ft127 22 rfl) ?_
    exact rn_forget (ls := [some (.ref v0), some (.int v1), none, some (.int v3)]) (And.intro rfl (And.intro rfl (And.intro rfl trivial))) (rf127_J40  v0 v1 v3 v0 (1 : Int32) w5 _  h)
  · replace h := ifn c34 h
    refine rn_if_ne_f (ft127 13 rfl) c34 ?_
    refine rn_aload_n (ft127 14 rfl) rfl ?_
    obtain ⟨x28, q29, h⟩ := ob_some h
    refine rn_getI (ft127 15 rfl) (by decide) (by decide) q29 ?_
    refine rn_iload_n (ft127 16 rfl) rfl ?_
    obtain ⟨p30, q31, h⟩ := ob_some h
    refine rn_callS (as := [.int x28, .int v3]) (r := [.ref v0]) (v := (some (.int p30.1))) (w1 := p30.2) (ft127 17 rfl) (by decide +kernel) rfl (Nat.le_of_ble_eq_true rfl) (Nat.le_of_ble_eq_true rfl) (r44 x28 v3 w5 _ q31) ?_
    by_cases c33 : p30.1 = 0
    · replace h := ifp c33 h
      refine rn_if_eq_t (ft127 18 rfl) c33 ?_
      refine rn_iconst (v := (0 : Int32)) (ft127 23 rfl) (by decide) ?_
      exact rn_forget (ls := [some (.ref v0), some (.int v1), none, some (.int v3)]) (And.intro rfl (And.intro rfl (And.intro rfl trivial))) (rf127_J40  v0 v1 v3 v0 (0 : Int32) p30.2 _  h)
    · replace h := ifn c33 h
      refine rn_if_eq_f (ft127 18 rfl) c33 ?_
      refine rn_iload_n (ft127 19 rfl) rfl ?_
      by_cases c32 : 0 ≤ v1
      · replace h := ifp c32 h
        refine rn_if_ge_t (ft127 20 rfl) c32 ?_
        refine rn_iconst (v := (0 : Int32)) (ft127 23 rfl) (by decide) ?_
        exact rn_forget (ls := [some (.ref v0), some (.int v1), none, some (.int v3)]) (And.intro rfl (And.intro rfl (And.intro rfl trivial))) (rf127_J40  v0 v1 v3 v0 (0 : Int32) p30.2 _  h)
      · replace h := ifn c32 h
        refine rn_if_ge_f (ft127 20 rfl) c32 ?_
        refine rn_iconst (v := (1 : Int32)) (ft127 21 rfl) (by decide) ?_
        refine rn_goto (ft127 22 rfl) ?_
        exact rn_forget (ls := [some (.ref v0), some (.int v1), none, some (.int v3)]) (And.intro rfl (And.intro rfl (And.intro rfl trivial))) (rf127_J40  v0 v1 v3 v0 (1 : Int32) p30.2 _  h)
/-- NineWheelModel.middleOf(I)I -/
theorem ft128 : ∀ (i : Nat) {q : Nat × XI}, cd128[i]? = some q → fetch 128 q.1 = some q.2 := ft_of (by decide +kernel)
theorem pr128 : pRt 128 = some .int := rfl
def f128_H22 (n : Nat) (rec10 : Nat → Int32 → Int32 → Int32 → Wd → Option (Int32 × Wd)) (K10 : Int32 → Wd → Option (Int32 × Wd)) (K16 : Nat → Int32 → Int32 → Int32 → Int32 → Wd → Option (Int32 × Wd)) : Nat → Nat → Int32 → Int32 → Int32 → Int32 → Int32 → Wd → Option (Int32 × Wd)
  | 0, _, _, _, _, _, _, _ => none
  | k + 1, v0, v2, v3, v4, v5, v6, w =>
    (if v4 ≤ v6 then K16 v0 v2 v3 v4 v5 w
      else ob (getR w 11 v0 44) (fun x1 => ob (aldI w x1 v6) (fun x3 => (fun (v0 : Nat) (v2 : Int32) (v3 : Int32) (v4 : Int32) (v5 : Int32) (v6 : Int32) w => f128_H22 n rec10 K10 K16 k v0 v2 v3 v4 v5 v6 w) v0 v2 v3 v4 (v5 + x3) (v6 + (1 : Int32)) w)))
set_option maxRecDepth 10000 in
theorem rf128_H22 {S : Sc} (n : Nat) (rec10 : Nat → Int32 → Int32 → Int32 → Wd → Option (Int32 × Wd)) (K10 : Int32 → Wd → Option (Int32 × Wd)) (K16 : Nat → Int32 → Int32 → Int32 → Int32 → Wd → Option (Int32 × Wd)) (hrec10 : ∀ (y0 : Nat) (y2 : Int32) (y3 : Int32) (y4 : Int32) (w : Wd) (o : (Int32 × Wd)), rec10 y0 y2 y3 y4 w = some o → Rn S 128 11 [some (.ref y0), none, some (.int y2), some (.int y3), some (.int y4), none, none] [] w (some (.int o.1), o.2)) (hK10 : ∀ (y3 : Int32) (w : Wd) (o : (Int32 × Wd)), K10 y3 w = some o → Rn S 128 80 [none, none, none, some (.int y3), none, none, none] [] w (some (.int o.1), o.2)) (hK16 : ∀ (y0 : Nat) (y2 : Int32) (y3 : Int32) (y4 : Int32) (y5 : Int32) (w : Wd) (o : (Int32 × Wd)), K16 y0 y2 y3 y4 y5 w = some o → Rn S 128 47 [some (.ref y0), none, some (.int y2), some (.int y3), some (.int y4), some (.int y5), none] [] w (some (.int o.1), o.2)) : ∀ (k : Nat) (v0 : Nat) (v2 : Int32) (v3 : Int32) (v4 : Int32) (v5 : Int32) (v6 : Int32) (w : Wd) (o : (Int32 × Wd)), f128_H22 n rec10 K10 K16 k v0 v2 v3 v4 v5 v6 w = some o → Rn S 128 22 [some (.ref v0), none, some (.int v2), some (.int v3), some (.int v4), some (.int v5), some (.int v6)] [] w (some (.int o.1), o.2) := by
  intro k
  induction k with
  | zero =>
    intro v0 v2 v3 v4 v5 v6 w o h
    exact nomatch h
  | succ k ih =>
    intro v0 v2 v3 v4 v5 v6 w o h
    have hrec16 : ∀ (y0 : Nat) (y2 : Int32) (y3 : Int32) (y4 : Int32) (y5 : Int32) (y6 : Int32) (w : Wd) (o : (Int32 × Wd)), (fun (v0 : Nat) (v2 : Int32) (v3 : Int32) (v4 : Int32) (v5 : Int32) (v6 : Int32) w => f128_H22 n rec10 K10 K16 k v0 v2 v3 v4 v5 v6 w) y0 y2 y3 y4 y5 y6 w = some o → Rn S 128 22 [some (.ref y0), none, some (.int y2), some (.int y3), some (.int y4), some (.int y5), some (.int y6)] [] w (some (.int o.1), o.2) := fun y0 y2 y3 y4 y5 y6 w o h => ih y0 y2 y3 y4 y5 y6 w o h
    unfold f128_H22 at h
    refine rn_iload (ft128 16 rfl) rfl ?_
    refine rn_iload (ft128 17 rfl) rfl ?_
    by_cases c5 : v4 ≤ v6
    · replace h := ifp c5 h
      refine rn_icmp_ge_t (ft128 18 rfl) c5 ?_
      exact rn_forget (ls := [some (.ref v0), none, some (.int v2), some (.int v3), some (.int v4), some (.int v5), none]) (And.intro rfl (And.intro rfl (And.intro rfl (And.intro rfl (And.intro rfl trivial))))) (hK16 v0 v2 v3 v4 v5 w _ h)
    · replace h := ifn c5 h
      refine rn_icmp_ge_f (ft128 18 rfl) c5 ?_
      refine rn_iload (ft128 19 rfl) rfl ?_
      refine rn_aload_n (ft128 20 rfl) rfl ?_
      obtain ⟨x1, q2, h⟩ := ob_some h
      refine rn_getR (ft128 21 rfl) q2 ?_
      refine rn_iload (ft128 22 rfl) rfl ?_
      obtain ⟨x3, q4, h⟩ := ob_some h
      refine rn_iaload (ft128 23 rfl) q4 ?_
      refine rn_iadd (ft128 24 rfl) ?_
      refine rn_istore (ls' := [some (.ref v0), none, some (.int v2), some (.int v3), some (.int v4), some (.int (v5 + x3)), some (.int v6)]) (ft128 25 rfl) rfl ?_
      refine rn_iinc (u := 1) (ls' := [some (.ref v0), none, some (.int v2), some (.int v3), some (.int v4), some (.int (v5 + x3)), some (.int (v6 + (1 : Int32)))]) (ft128 26 rfl) rfl (by decide) rfl ?_
      refine rn_goto (ft128 27 rfl) ?_
      exact rn_forget (ls := [some (.ref v0), none, some (.int v2), some (.int v3), some (.int v4), some (.int (v5 + x3)), some (.int (v6 + (1 : Int32)))]) (And.intro rfl (And.intro rfl (And.intro rfl (And.intro rfl (And.intro rfl (And.intro rfl trivial)))))) (hrec16 v0 v2 v3 v4 (v5 + x3) (v6 + (1 : Int32)) w _ h)
def f128_H11 (n : Nat)  (K10 : Int32 → Wd → Option (Int32 × Wd)) : Nat → Nat → Int32 → Int32 → Int32 → Wd → Option (Int32 × Wd)
  | 0, _, _, _, _, _ => none
  | k + 1, v0, v2, v3, v4, w =>
    (if v4 < 0 then K10 v3 w
      else f128_H22 n (fun (v0 : Nat) (v2 : Int32) (v3 : Int32) (v4 : Int32) w => f128_H11 n  K10 k v0 v2 v3 v4 w) K10 (fun (e0_6 : Nat) (e2_6 : Int32) (e3_6 : Int32) (e4_6 : Int32) (e5_6 : Int32) (w6 : Wd) => (if e2_6 < e5_6 then (fun (v0 : Nat) (v2 : Int32) (v3 : Int32) (v4 : Int32) w => f128_H11 n  K10 k v0 v2 v3 v4 w) e0_6 e2_6 e3_6 (e4_6 + (-1 : Int32)) w6
          else ob (getR w6 11 e0_6 44) (fun x7 => ob (aldI w6 x7 e4_6) (fun x9 => (if (e5_6 + x9) ≤ e2_6 then (fun (v0 : Nat) (v2 : Int32) (v3 : Int32) (v4 : Int32) w => f128_H11 n  K10 k v0 v2 v3 v4 w) e0_6 e2_6 e3_6 (e4_6 + (-1 : Int32)) w6
            else (fun (v0 : Nat) (v2 : Int32) (v3 : Int32) (v4 : Int32) w => f128_H11 n  K10 k v0 v2 v3 v4 w) e0_6 e2_6 e4_6 (e4_6 + (-1 : Int32)) w6))))) n v0 v2 v3 v4 (0 : Int32) (0 : Int32) w)
set_option maxRecDepth 10000 in
theorem rf128_H11 {S : Sc} (n : Nat)  (K10 : Int32 → Wd → Option (Int32 × Wd))  (hK10 : ∀ (y3 : Int32) (w : Wd) (o : (Int32 × Wd)), K10 y3 w = some o → Rn S 128 80 [none, none, none, some (.int y3), none, none, none] [] w (some (.int o.1), o.2)) : ∀ (k : Nat) (v0 : Nat) (v2 : Int32) (v3 : Int32) (v4 : Int32) (w : Wd) (o : (Int32 × Wd)), f128_H11 n  K10 k v0 v2 v3 v4 w = some o → Rn S 128 11 [some (.ref v0), none, some (.int v2), some (.int v3), some (.int v4), none, none] [] w (some (.int o.1), o.2) := by
  intro k
  induction k with
  | zero =>
    intro v0 v2 v3 v4 w o h
    exact nomatch h
  | succ k ih =>
    intro v0 v2 v3 v4 w o h
    have hrec10 : ∀ (y0 : Nat) (y2 : Int32) (y3 : Int32) (y4 : Int32) (w : Wd) (o : (Int32 × Wd)), (fun (v0 : Nat) (v2 : Int32) (v3 : Int32) (v4 : Int32) w => f128_H11 n  K10 k v0 v2 v3 v4 w) y0 y2 y3 y4 w = some o → Rn S 128 11 [some (.ref y0), none, some (.int y2), some (.int y3), some (.int y4), none, none] [] w (some (.int o.1), o.2) := fun y0 y2 y3 y4 w o h => ih y0 y2 y3 y4 w o h
    unfold f128_H11 at h
    refine rn_iload (ft128 10 rfl) rfl ?_
    by_cases c13 : v4 < 0
    · replace h := ifp c13 h
      refine rn_if_lt_t (ft128 11 rfl) c13 ?_
      exact rn_forget (ls := [none, none, none, some (.int v3), none, none, none]) (And.intro rfl trivial) (hK10 v3 w _ h)
    · replace h := ifn c13 h
      refine rn_if_lt_f (ft128 11 rfl) c13 ?_
      refine rn_iconst (v := (0 : Int32)) (ft128 12 rfl) (by decide) ?_
      refine rn_istore (ls' := [some (.ref v0), none, some (.int v2), some (.int v3), some (.int v4), some (.int (0 : Int32)), none]) (ft128 13 rfl) rfl ?_
      refine rn_iconst (v := (0 : Int32)) (ft128 14 rfl) (by decide) ?_
      refine rn_istore (ls' := [some (.ref v0), none, some (.int v2), some (.int v3), some (.int v4), some (.int (0 : Int32)), some (.int (0 : Int32))]) (ft128 15 rfl) rfl ?_
      refine rn_forget (ls := [some (.ref v0), none, some (.int v2), some (.int v3), some (.int v4), some (.int (0 : Int32)), some (.int (0 : Int32))]) (And.intro rfl (And.intro rfl (And.intro rfl (And.intro rfl (And.intro rfl (And.intro rfl trivial)))))) (rf128_H22 n (fun (v0 : Nat) (v2 : Int32) (v3 : Int32) (v4 : Int32) w => f128_H11 n  K10 k v0 v2 v3 v4 w) K10 _ hrec10 hK10 (fun e0_6 e2_6 e3_6 e4_6 e5_6 w6 o h => ?_) n v0 v2 v3 v4 (0 : Int32) (0 : Int32) w _ h)
      refine rn_iload_n (ft128 28 rfl) rfl ?_
      refine rn_iload (ft128 29 rfl) rfl ?_
      by_cases c12 : e2_6 < e5_6
      · replace h := ifp c12 h
        refine rn_icmp_lt_t (ft128 30 rfl) c12 ?_
        refine rn_iload_n (ft128 41 rfl) rfl ?_
        refine rn_istore_n (ls' := [some (.ref e0_6), none, some (.int e2_6), some (.int e3_6), some (.int e4_6), some (.int e5_6), none]) (ft128 42 rfl) rfl ?_
        refine rn_iinc (u := (-1)) (ls' := [some (.ref e0_6), none, some (.int e2_6), some (.int e3_6), some (.int (e4_6 + (-1 : Int32))), some (.int e5_6), none]) (ft128 43 rfl) rfl (by decide) rfl ?_
        refine rn_goto (ft128 44 rfl) ?_
        exact rn_forget (ls := [some (.ref e0_6), none, some (.int e2_6), some (.int e3_6), some (.int (e4_6 + (-1 : Int32))), none, none]) (And.intro rfl (And.intro rfl (And.intro rfl (And.intro rfl trivial)))) (hrec10 e0_6 e2_6 e3_6 (e4_6 + (-1 : Int32)) w6 _ h)
      · replace h := ifn c12 h
        refine rn_icmp_lt_f (ft128 30 rfl) c12 ?_
        refine rn_iload_n (ft128 31 rfl) rfl ?_
        refine rn_iload (ft128 32 rfl) rfl ?_
        refine rn_aload_n (ft128 33 rfl) rfl ?_
        obtain ⟨x7, q8, h⟩ := ob_some h
        refine rn_getR (ft128 34 rfl) q8 ?_
        refine rn_iload (ft128 35 rfl) rfl ?_
        obtain ⟨x9, q10, h⟩ := ob_some h
        refine rn_iaload (ft128 36 rfl) q10 ?_
        refine rn_iadd (ft128 37 rfl) ?_
        by_cases c11 : (e5_6 + x9) ≤ e2_6
        · replace h := ifp c11 h
          refine rn_icmp_ge_t (ft128 38 rfl) c11 ?_
          refine rn_iload_n (ft128 41 rfl) rfl ?_
          refine rn_istore_n (ls' := [some (.ref e0_6), none, some (.int e2_6), some (.int e3_6), some (.int e4_6), some (.int e5_6), none]) (ft128 42 rfl) rfl ?_
          refine rn_iinc (u := (-1)) (ls' := [some (.ref e0_6), none, some (.int e2_6), some (.int e3_6), some (.int (e4_6 + (-1 : Int32))), some (.int e5_6), none]) (ft128 43 rfl) rfl (by decide) rfl ?_
          refine rn_goto (ft128 44 rfl) ?_
          exact rn_forget (ls := [some (.ref e0_6), none, some (.int e2_6), some (.int e3_6), some (.int (e4_6 + (-1 : Int32))), none, none]) (And.intro rfl (And.intro rfl (And.intro rfl (And.intro rfl trivial)))) (hrec10 e0_6 e2_6 e3_6 (e4_6 + (-1 : Int32)) w6 _ h)
        · replace h := ifn c11 h
          refine rn_icmp_ge_f (ft128 38 rfl) c11 ?_
          refine rn_iload (ft128 39 rfl) rfl ?_
          refine rn_goto (ft128 40 rfl) ?_
          refine rn_istore_n (ls' := [some (.ref e0_6), none, some (.int e2_6), some (.int e4_6), some (.int e4_6), some (.int e5_6), none]) (ft128 42 rfl) rfl ?_
          refine rn_iinc (u := (-1)) (ls' := [some (.ref e0_6), none, some (.int e2_6), some (.int e4_6), some (.int (e4_6 + (-1 : Int32))), some (.int e5_6), none]) (ft128 43 rfl) rfl (by decide) rfl ?_
          refine rn_goto (ft128 44 rfl) ?_
          exact rn_forget (ls := [some (.ref e0_6), none, some (.int e2_6), some (.int e4_6), some (.int (e4_6 + (-1 : Int32))), none, none]) (And.intro rfl (And.intro rfl (And.intro rfl (And.intro rfl trivial)))) (hrec10 e0_6 e2_6 e4_6 (e4_6 + (-1 : Int32)) w6 _ h)
def f128 (n : Nat) (v0 : Nat) (v1 : Int32) (w : Wd) : Option (Int32 × Wd) :=
  f128_H11 n  (fun (e3_14 : Int32) (w14 : Wd) => ob (f55 (e3_14 - (2 : Int32)) w14) (fun p15 => some (p15.1, p15.2))) n v0 ((v1 - (1 : Int32)) / (2 : Int32)) (2 : Int32) (4 : Int32) w
set_option maxRecDepth 10000 in
theorem r128 {S : Sc} (n : Nat) (v0 : Nat) (v1 : Int32) (w : Wd) (o : (Int32 × Wd)) (h : f128 n v0 v1 w = some o) : Rn S 128 0 [some (.ref v0), some (.int v1), none, none, none, none, none] [] w (some (.int o.1), o.2) := by
  unfold f128 at h
  refine rn_iload_n (ft128 0 rfl) rfl ?_
  refine rn_iconst (v := (1 : Int32)) (ft128 1 rfl) (by decide) ?_
  refine rn_isub (ft128 2 rfl) ?_
  refine rn_iconst (v := (2 : Int32)) (ft128 3 rfl) (by decide) ?_
  refine rn_idiv (ft128 4 rfl) (by decide) ?_
  refine rn_istore_n (ls' := [some (.ref v0), some (.int v1), some (.int ((v1 - (1 : Int32)) / (2 : Int32))), none, none, none, none]) (ft128 5 rfl) rfl ?_
  refine rn_iconst (v := (2 : Int32)) (ft128 6 rfl) (by decide) ?_
  refine rn_istore_n (ls' := [some (.ref v0), some (.int v1), some (.int ((v1 - (1 : Int32)) / (2 : Int32))), some (.int (2 : Int32)), none, none, none]) (ft128 7 rfl) rfl ?_
  refine rn_iconst (v := (4 : Int32)) (ft128 8 rfl) (by decide) ?_
  refine rn_istore (ls' := [some (.ref v0), some (.int v1), some (.int ((v1 - (1 : Int32)) / (2 : Int32))), some (.int (2 : Int32)), some (.int (4 : Int32)), none, none]) (ft128 9 rfl) rfl ?_
  refine rn_forget (ls := [some (.ref v0), none, some (.int ((v1 - (1 : Int32)) / (2 : Int32))), some (.int (2 : Int32)), some (.int (4 : Int32)), none, none]) (And.intro rfl (And.intro rfl (And.intro rfl (And.intro rfl trivial)))) (rf128_H11 n  _  (fun e3_14 w14 o h => ?_) n v0 ((v1 - (1 : Int32)) / (2 : Int32)) (2 : Int32) (4 : Int32) w _ h)
  refine rn_iload_n (ft128 45 rfl) rfl ?_
  refine rn_iconst (v := (2 : Int32)) (ft128 46 rfl) (by decide) ?_
  refine rn_isub (ft128 47 rfl) ?_
  obtain ⟨p15, q16, h⟩ := ob_some h
  refine rn_callS (as := [.int (e3_14 - (2 : Int32))]) (r := []) (v := (some (.int p15.1))) (w1 := p15.2) (ft128 48 rfl) (by decide +kernel) rfl (Nat.le_of_ble_eq_true rfl) (Nat.le_of_ble_eq_true rfl) (r55 (e3_14 - (2 : Int32)) w14 _ q16) ?_
  cases h
  exact rn_iretI pr128 (ft128 49 rfl)
/-- NineWheelModel.period()I -/
theorem ft129 : ∀ (i : Nat) {q : Nat × XI}, cd129[i]? = some q → fetch 129 q.1 = some q.2 := ft_of (by decide +kernel)
theorem pr129 : pRt 129 = some .int := rfl
def f129_J14 (n : Nat)  (v0 : Nat) (s0 : Int32) (w : Wd) : Option (Int32 × Wd) :=
  ob (getI w 11 v0 4) (fun x3 => (if 0 ≤ x3 then ob (getI w 11 v0 4) (fun x5 => some ((s0 * x5), w))
    else some ((s0 * (1 : Int32)), w)))
set_option maxRecDepth 10000 in
theorem rf129_J14 {S : Sc} (n : Nat)  (v0 : Nat) (s0 : Int32) (w : Wd) (o : (Int32 × Wd))  (h : f129_J14 n  v0 s0 w = some o) : Rn S 129 14 [some (.ref v0), none] [.int s0] w (some (.int o.1), o.2) := by
  unfold f129_J14 at h
  refine rn_aload_n (ft129 8 rfl) rfl ?_
  obtain ⟨x3, q4, h⟩ := ob_some h
  refine rn_getI (ft129 9 rfl) (by decide) (by decide) q4 ?_
  by_cases c7 : 0 ≤ x3
  · replace h := ifp c7 h
    refine rn_if_ge_t (ft129 10 rfl) c7 ?_
    refine rn_aload_n (ft129 13 rfl) rfl ?_
    obtain ⟨x5, q6, h⟩ := ob_some h
    refine rn_getI (ft129 14 rfl) (by decide) (by decide) q6 ?_
    refine rn_imul (ft129 15 rfl) ?_
    cases h
    exact rn_iretI pr129 (ft129 16 rfl)
  · replace h := ifn c7 h
    refine rn_if_ge_f (ft129 10 rfl) c7 ?_
    refine rn_iconst (v := (1 : Int32)) (ft129 11 rfl) (by decide) ?_
    refine rn_goto (ft129 12 rfl) ?_
    refine rn_imul (ft129 15 rfl) ?_
    cases h
    exact rn_iretI pr129 (ft129 16 rfl)
def f129 (n : Nat) (v0 : Nat) (w : Wd) : Option (Int32 × Wd) :=
  (if (wsh w v0).map (fun q => q.1) = some 11 then ob (f49 n v0 w) (fun p1 => (if ¬ p1.1 = 0 then f129_J14 n  v0 p1.1 p1.2
    else f129_J14 n  v0 (1 : Int32) p1.2)) else none)
set_option maxRecDepth 10000 in
theorem r129 {S : Sc} (n : Nat) (v0 : Nat) (w : Wd) (o : (Int32 × Wd)) (h : f129 n v0 w = some o) : Rn S 129 0 [some (.ref v0), none] [] w (some (.int o.1), o.2) := by
  unfold f129 at h
  refine rn_aload_n (ft129 0 rfl) rfl ?_
  obtain ⟨g9, h⟩ := ifg h
  obtain ⟨p1, q2, h⟩ := ob_some h
  refine rn_callV (as := []) (k0 := v0) (r := []) (v := (some (.int p1.1))) (w1 := p1.2) (ft129 1 rfl) (by decide +kernel) rfl (Nat.le_of_ble_eq_true rfl) (Nat.le_of_ble_eq_true rfl) (r49 n v0 w _ q2) (by decide +kernel) g9 ?_
  refine rn_istore_n (ls' := [some (.ref v0), some (.int p1.1)]) (ft129 2 rfl) rfl ?_
  refine rn_iload_n (ft129 3 rfl) rfl ?_
  by_cases c8 : ¬ p1.1 = 0
  · replace h := ifp c8 h
    refine rn_if_ne_t (ft129 4 rfl) c8 ?_
    refine rn_iload_n (ft129 7 rfl) rfl ?_
    exact rn_forget (ls := [some (.ref v0), none]) (And.intro rfl trivial) (rf129_J14 n  v0 p1.1 p1.2 _  h)
  · replace h := ifn c8 h
    refine rn_if_ne_f (ft129 4 rfl) c8 ?_
    refine rn_iconst (v := (1 : Int32)) (ft129 5 rfl) (by decide) ?_
    refine rn_goto (ft129 6 rfl) ?_
    exact rn_forget (ls := [some (.ref v0), none]) (And.intro rfl trivial) (rf129_J14 n  v0 (1 : Int32) p1.2 _  h)
/-- NineWheelModel.log(I)I -/
theorem ft130 : ∀ (i : Nat) {q : Nat × XI}, cd130[i]? = some q → fetch 130 q.1 = some q.2 := ft_of (by decide +kernel)
theorem pr130 : pRt 130 = some .int := rfl
def f130 (v0 : Nat) (v1 : Int32) (w : Wd) : Option (Int32 × Wd) :=
  ob (f39 (Int32.toInt64 v1) (-1 : Int64) (1 : Int64) w) (fun p1 => (if ¬ p1.1 = 0 then ob (getI p1.2 11 v0 56) (fun x3 => (if ¬ x3 = (40 : Int32) then ob (getR p1.2 11 v0 57) (fun x5 => ob (getI p1.2 11 v0 56) (fun x7 => ob (astI p1.2 x5 x7 v1) (fun w9 => ob (getI w9 11 v0 56) (fun x11 => ob (putI w9 11 v0 56 (x11 + (1 : Int32))) (fun w13 => ob (getI w13 11 v0 56) (fun x15 => some (x15, w13)))))))
      else some ((-1000004 : Int32), p1.2)))
    else some ((-1000002 : Int32), p1.2)))
set_option maxRecDepth 10000 in
theorem r130 {S : Sc} (v0 : Nat) (v1 : Int32) (w : Wd) (o : (Int32 × Wd)) (h : f130 v0 v1 w = some o) : Rn S 130 0 [some (.ref v0), some (.int v1)] [] w (some (.int o.1), o.2) := by
  unfold f130 at h
  refine rn_iload_n (ft130 0 rfl) rfl ?_
  refine rn_i2l (ft130 1 rfl) ?_
  refine rn_ldc2 (v := (-1 : Int64)) (ft130 2 rfl) (by decide) ?_
  refine rn_lconst (v := (1 : Int64)) (ft130 3 rfl) (by decide) ?_
  obtain ⟨p1, q2, h⟩ := ob_some h
  refine rn_callS (as := [.long (Int32.toInt64 v1), .long (-1 : Int64), .long (1 : Int64)]) (r := []) (v := (some (.int p1.1))) (w1 := p1.2) (ft130 4 rfl) (by decide +kernel) rfl (Nat.le_of_ble_eq_true rfl) (Nat.le_of_ble_eq_true rfl) (r39 (Int32.toInt64 v1) (-1 : Int64) (1 : Int64) w _ q2) ?_
  by_cases c18 : ¬ p1.1 = 0
  · replace h := ifp c18 h
    refine rn_if_ne_t (ft130 5 rfl) c18 ?_
    refine rn_aload_n (ft130 8 rfl) rfl ?_
    obtain ⟨x3, q4, h⟩ := ob_some h
    refine rn_getI (ft130 9 rfl) (by decide) (by decide) q4 ?_
    refine rn_bipush (v := (40 : Int32)) (ft130 10 rfl) (by decide) ?_
    by_cases c17 : ¬ x3 = (40 : Int32)
    · replace h := ifp c17 h
      refine rn_icmp_ne_t (ft130 11 rfl) c17 ?_
      refine rn_aload_n (ft130 14 rfl) rfl ?_
      obtain ⟨x5, q6, h⟩ := ob_some h
      refine rn_getR (ft130 15 rfl) q6 ?_
      refine rn_aload_n (ft130 16 rfl) rfl ?_
      obtain ⟨x7, q8, h⟩ := ob_some h
      refine rn_getI (ft130 17 rfl) (by decide) (by decide) q8 ?_
      refine rn_iload_n (ft130 18 rfl) rfl ?_
      obtain ⟨w9, q10, h⟩ := ob_some h
      refine rn_iastore (ft130 19 rfl) q10 ?_
      refine rn_aload_n (ft130 20 rfl) rfl ?_
      refine rn_dup (ft130 21 rfl) rfl ?_
      obtain ⟨x11, q12, h⟩ := ob_some h
      refine rn_getI (ft130 22 rfl) (by decide) (by decide) q12 ?_
      refine rn_iconst (v := (1 : Int32)) (ft130 23 rfl) (by decide) ?_
      refine rn_iadd (ft130 24 rfl) ?_
      obtain ⟨w13, q14, h⟩ := ob_some h
      refine rn_putI (ft130 25 rfl) q14 ?_
      refine rn_aload_n (ft130 26 rfl) rfl ?_
      obtain ⟨x15, q16, h⟩ := ob_some h
      refine rn_getI (ft130 27 rfl) (by decide) (by decide) q16 ?_
      cases h
      exact rn_iretI pr130 (ft130 28 rfl)
    · replace h := ifn c17 h
      refine rn_icmp_ne_f (ft130 11 rfl) c17 ?_
      refine rn_ldc (v := (-1000004 : Int32)) (ft130 12 rfl) (by decide) rfl ?_
      cases h
      exact rn_iretI pr130 (ft130 13 rfl)
  · replace h := ifn c18 h
    refine rn_if_ne_f (ft130 5 rfl) c18 ?_
    refine rn_ldc (v := (-1000002 : Int32)) (ft130 6 rfl) (by decide) rfl ?_
    cases h
    exact rn_iretI pr130 (ft130 7 rfl)
/-- NineWheelModel.isTime(I)Z -/
theorem ft131 : ∀ (i : Nat) {q : Nat × XI}, cd131[i]? = some q → fetch 131 q.1 = some q.2 := ft_of (by decide +kernel)
theorem pr131 : pRt 131 = some .boolean := rfl
def f131 (v0 : Int32) (w : Wd) : Option (Int32 × Wd) :=
  ob (f39 (Int32.toInt64 v0) (1 : Int64) (24 : Int64) w) (fun p1 => (if p1.1 = 0 ∨ p1.1 = 1 then some (p1.1, p1.2) else none))
set_option maxRecDepth 10000 in
theorem r131 {S : Sc} (v0 : Int32) (w : Wd) (o : (Int32 × Wd)) (h : f131 v0 w = some o) : Rn S 131 0 [some (.int v0)] [] w (some (.int o.1), o.2) := by
  unfold f131 at h
  refine rn_iload_n (ft131 0 rfl) rfl ?_
  refine rn_i2l (ft131 1 rfl) ?_
  refine rn_lconst (v := (1 : Int64)) (ft131 2 rfl) (by decide) ?_
  refine rn_ldc2 (v := (24 : Int64)) (ft131 3 rfl) (by decide) ?_
  obtain ⟨p1, q2, h⟩ := ob_some h
  refine rn_callS (as := [.long (Int32.toInt64 v0), .long (1 : Int64), .long (24 : Int64)]) (r := []) (v := (some (.int p1.1))) (w1 := p1.2) (ft131 4 rfl) (by decide +kernel) rfl (Nat.le_of_ble_eq_true rfl) (Nat.le_of_ble_eq_true rfl) (r39 (Int32.toInt64 v0) (1 : Int64) (24 : Int64) w _ q2) ?_
  obtain ⟨g3, h⟩ := ifg h
  cases h
  exact rn_iretZ pr131 g3 (ft131 5 rfl)
/-- NineWheelModel.personsOf(I)I -/
theorem ft132 : ∀ (i : Nat) {q : Nat × XI}, cd132[i]? = some q → fetch 132 q.1 = some q.2 := ft_of (by decide +kernel)
theorem pr132 : pRt 132 = some .int := rfl
def f132_J31 (n : Nat) (rec4 : Nat → Int32 → Int32 → Int32 → Wd → Option (Int32 × Wd)) (K4 : Int32 → Wd → Option (Int32 × Wd)) (v0 : Nat) (v1 : Int32) (v3 : Int32) (s0 : Int32) (s1 : Int32) (w : Wd) : Option (Int32 × Wd) :=
  rec4 v0 v1 (s0 + s1) (v3 + (1 : Int32)) w
set_option maxRecDepth 10000 in
theorem rf132_J31 {S : Sc} (n : Nat) (rec4 : Nat → Int32 → Int32 → Int32 → Wd → Option (Int32 × Wd)) (K4 : Int32 → Wd → Option (Int32 × Wd)) (v0 : Nat) (v1 : Int32) (v3 : Int32) (s0 : Int32) (s1 : Int32) (w : Wd) (o : (Int32 × Wd)) (hrec4 : ∀ (y0 : Nat) (y1 : Int32) (y2 : Int32) (y3 : Int32) (w : Wd) (o : (Int32 × Wd)), rec4 y0 y1 y2 y3 w = some o → Rn S 132 4 [some (.ref y0), some (.int y1), some (.int y2), some (.int y3)] [] w (some (.int o.1), o.2)) (hK4 : ∀ (y2 : Int32) (w : Wd) (o : (Int32 × Wd)), K4 y2 w = some o → Rn S 132 39 [none, none, some (.int y2), none] [] w (some (.int o.1), o.2)) (h : f132_J31 n rec4 K4 v0 v1 v3 s0 s1 w = some o) : Rn S 132 31 [some (.ref v0), some (.int v1), none, some (.int v3)] [.int s1, .int s0] w (some (.int o.1), o.2) := by
  unfold f132_J31 at h
  refine rn_iadd (ft132 19 rfl) ?_
  refine rn_istore_n (ls' := [some (.ref v0), some (.int v1), some (.int (s0 + s1)), some (.int v3)]) (ft132 20 rfl) rfl ?_
  refine rn_iinc (u := 1) (ls' := [some (.ref v0), some (.int v1), some (.int (s0 + s1)), some (.int (v3 + (1 : Int32)))]) (ft132 21 rfl) rfl (by decide) rfl ?_
  refine rn_goto (ft132 22 rfl) ?_
  exact rn_forget (ls := [some (.ref v0), some (.int v1), some (.int (s0 + s1)), some (.int (v3 + (1 : Int32)))]) (And.intro rfl (And.intro rfl (And.intro rfl (And.intro rfl trivial)))) (hrec4 v0 v1 (s0 + s1) (v3 + (1 : Int32)) w _ h)
def f132_H4 (n : Nat)  (K4 : Int32 → Wd → Option (Int32 × Wd)) : Nat → Nat → Int32 → Int32 → Int32 → Wd → Option (Int32 × Wd)
  | 0, _, _, _, _, _ => none
  | k + 1, v0, v1, v2, v3, w =>
    ob (getI w 11 v0 6) (fun x1 => (if x1 ≤ v3 then K4 v2 w
      else ob (f44 v1 v3 w) (fun p3 => (if p3.1 = 0 then f132_J31 n (fun (v0 : Nat) (v1 : Int32) (v2 : Int32) (v3 : Int32) w => f132_H4 n  K4 k v0 v1 v2 v3 w) K4 v0 v1 v3 v2 (0 : Int32) p3.2
        else ob (getR p3.2 11 v0 7) (fun x5 => ob (aldI p3.2 x5 v3) (fun x7 => f132_J31 n (fun (v0 : Nat) (v1 : Int32) (v2 : Int32) (v3 : Int32) w => f132_H4 n  K4 k v0 v1 v2 v3 w) K4 v0 v1 v3 v2 x7 p3.2))))))
set_option maxRecDepth 10000 in
theorem rf132_H4 {S : Sc} (n : Nat)  (K4 : Int32 → Wd → Option (Int32 × Wd))  (hK4 : ∀ (y2 : Int32) (w : Wd) (o : (Int32 × Wd)), K4 y2 w = some o → Rn S 132 39 [none, none, some (.int y2), none] [] w (some (.int o.1), o.2)) : ∀ (k : Nat) (v0 : Nat) (v1 : Int32) (v2 : Int32) (v3 : Int32) (w : Wd) (o : (Int32 × Wd)), f132_H4 n  K4 k v0 v1 v2 v3 w = some o → Rn S 132 4 [some (.ref v0), some (.int v1), some (.int v2), some (.int v3)] [] w (some (.int o.1), o.2) := by
  intro k
  induction k with
  | zero =>
    intro v0 v1 v2 v3 w o h
    exact nomatch h
  | succ k ih =>
    intro v0 v1 v2 v3 w o h
    have hrec4 : ∀ (y0 : Nat) (y1 : Int32) (y2 : Int32) (y3 : Int32) (w : Wd) (o : (Int32 × Wd)), (fun (v0 : Nat) (v1 : Int32) (v2 : Int32) (v3 : Int32) w => f132_H4 n  K4 k v0 v1 v2 v3 w) y0 y1 y2 y3 w = some o → Rn S 132 4 [some (.ref y0), some (.int y1), some (.int y2), some (.int y3)] [] w (some (.int o.1), o.2) := fun y0 y1 y2 y3 w o h => ih y0 y1 y2 y3 w o h
    unfold f132_H4 at h
    refine rn_iload_n (ft132 4 rfl) rfl ?_
    refine rn_aload_n (ft132 5 rfl) rfl ?_
    obtain ⟨x1, q2, h⟩ := ob_some h
    refine rn_getI (ft132 6 rfl) (by decide) (by decide) q2 ?_
    by_cases c10 : x1 ≤ v3
    · replace h := ifp c10 h
      refine rn_icmp_ge_t (ft132 7 rfl) c10 ?_
      exact rn_forget (ls := [none, none, some (.int v2), none]) (And.intro rfl trivial) (hK4 v2 w _ h)
    · replace h := ifn c10 h
      refine rn_icmp_ge_f (ft132 7 rfl) c10 ?_
      refine rn_iload_n (ft132 8 rfl) rfl ?_
      refine rn_iload_n (ft132 9 rfl) rfl ?_
      refine rn_iload_n (ft132 10 rfl) rfl ?_
      obtain ⟨p3, q4, h⟩ := ob_some h
      refine rn_callS (as := [.int v1, .int v3]) (r := [.int v2]) (v := (some (.int p3.1))) (w1 := p3.2) (ft132 11 rfl) (by decide +kernel) rfl (Nat.le_of_ble_eq_true rfl) (Nat.le_of_ble_eq_true rfl) (r44 v1 v3 w _ q4) ?_
      by_cases c9 : p3.1 = 0
      · replace h := ifp c9 h
        refine rn_if_eq_t (ft132 12 rfl) c9 ?_
        refine rn_iconst (v := (0 : Int32)) (ft132 18 rfl) (by decide) ?_
        exact rn_forget (ls := [some (.ref v0), some (.int v1), none, some (.int v3)]) (And.intro rfl (And.intro rfl (And.intro rfl trivial))) (rf132_J31 n (fun (v0 : Nat) (v1 : Int32) (v2 : Int32) (v3 : Int32) w => f132_H4 n  K4 k v0 v1 v2 v3 w) K4 v0 v1 v3 v2 (0 : Int32) p3.2 _ hrec4 hK4 h)
      · replace h := ifn c9 h
        refine rn_if_eq_f (ft132 12 rfl) c9 ?_
        refine rn_aload_n (ft132 13 rfl) rfl ?_
        obtain ⟨x5, q6, h⟩ := ob_some h
        refine rn_getR (ft132 14 rfl) q6 ?_
        refine rn_iload_n (ft132 15 rfl) rfl ?_
        obtain ⟨x7, q8, h⟩ := ob_some h
        refine rn_iaload (ft132 16 rfl) q8 ?_
        refine rn_goto (ft132 17 rfl) ?_
        exact rn_forget (ls := [some (.ref v0), some (.int v1), none, some (.int v3)]) (And.intro rfl (And.intro rfl (And.intro rfl trivial))) (rf132_J31 n (fun (v0 : Nat) (v1 : Int32) (v2 : Int32) (v3 : Int32) w => f132_H4 n  K4 k v0 v1 v2 v3 w) K4 v0 v1 v3 v2 x7 p3.2 _ hrec4 hK4 h)
def f132 (n : Nat) (v0 : Nat) (v1 : Int32) (w : Wd) : Option (Int32 × Wd) :=
  f132_H4 n  (fun (e2_11 : Int32) (w11 : Wd) => some (e2_11, w11)) n v0 v1 (0 : Int32) (0 : Int32) w
set_option maxRecDepth 10000 in
theorem r132 {S : Sc} (n : Nat) (v0 : Nat) (v1 : Int32) (w : Wd) (o : (Int32 × Wd)) (h : f132 n v0 v1 w = some o) : Rn S 132 0 [some (.ref v0), some (.int v1), none, none] [] w (some (.int o.1), o.2) := by
  unfold f132 at h
  refine rn_iconst (v := (0 : Int32)) (ft132 0 rfl) (by decide) ?_
  refine rn_istore_n (ls' := [some (.ref v0), some (.int v1), some (.int (0 : Int32)), none]) (ft132 1 rfl) rfl ?_
  refine rn_iconst (v := (0 : Int32)) (ft132 2 rfl) (by decide) ?_
  refine rn_istore_n (ls' := [some (.ref v0), some (.int v1), some (.int (0 : Int32)), some (.int (0 : Int32))]) (ft132 3 rfl) rfl ?_
  refine rn_forget (ls := [some (.ref v0), some (.int v1), some (.int (0 : Int32)), some (.int (0 : Int32))]) (And.intro rfl (And.intro rfl (And.intro rfl (And.intro rfl trivial)))) (rf132_H4 n  _  (fun e2_11 w11 o h => ?_) n v0 v1 (0 : Int32) (0 : Int32) w _ h)
  refine rn_iload_n (ft132 23 rfl) rfl ?_
  cases h
  exact rn_iretI pr132 (ft132 24 rfl)
