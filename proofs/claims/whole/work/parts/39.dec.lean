/-! THE METHODS AS FUNCTIONS, 22 -/
/-- NineWheelModel.findBest(IIZ)V -/
theorem ft215 : ∀ (i : Nat) {q : Nat × XI}, cd215[i]? = some q → fetch 215 q.1 = some q.2 := ft_of (by decide +kernel)
theorem pr215 : pRt 215 = none := rfl
def f215_J135 (n : Nat) (rec7 : Nat → Int32 → Int32 → Int32 → Int32 → Wd → Option Wd) (K7 : Wd → Option Wd) (rec11 : Nat → Int32 → Int32 → Int32 → Int32 → Int32 → Wd → Option Wd) (K11 : Nat → Int32 → Int32 → Int32 → Int32 → Wd → Option Wd) (rec16 : Nat → Int32 → Int32 → Int32 → Int32 → Int32 → Int32 → Wd → Option Wd) (K16 : Nat → Int32 → Int32 → Int32 → Int32 → Int32 → Wd → Option Wd) (rec41 : Nat → Int32 → Int32 → Int32 → Int32 → Int32 → Int32 → Int32 → Int32 → Int32 → Int32 → Wd → Option Wd) (K41 : Nat → Int32 → Int32 → Int32 → Int32 → Int32 → Int32 → Int32 → Wd → Option Wd) (v0 : Nat) (v1 : Int32) (v2 : Int32) (v3 : Int32) (v4 : Int32) (v5 : Int32) (v6 : Int32) (v7 : Int32) (v10 : Int32) (s0 : Int32) (w : Wd) : Option Wd :=
  rec41 v0 v1 v2 v3 v4 v5 v6 v7 s0 (1 : Int32) (v10 + (1 : Int32)) w
set_option maxRecDepth 10000 in
theorem rf215_J135 {S : Sc} (n : Nat) (rec7 : Nat → Int32 → Int32 → Int32 → Int32 → Wd → Option Wd) (K7 : Wd → Option Wd) (rec11 : Nat → Int32 → Int32 → Int32 → Int32 → Int32 → Wd → Option Wd) (K11 : Nat → Int32 → Int32 → Int32 → Int32 → Wd → Option Wd) (rec16 : Nat → Int32 → Int32 → Int32 → Int32 → Int32 → Int32 → Wd → Option Wd) (K16 : Nat → Int32 → Int32 → Int32 → Int32 → Int32 → Wd → Option Wd) (rec41 : Nat → Int32 → Int32 → Int32 → Int32 → Int32 → Int32 → Int32 → Int32 → Int32 → Int32 → Wd → Option Wd) (K41 : Nat → Int32 → Int32 → Int32 → Int32 → Int32 → Int32 → Int32 → Wd → Option Wd) (v0 : Nat) (v1 : Int32) (v2 : Int32) (v3 : Int32) (v4 : Int32) (v5 : Int32) (v6 : Int32) (v7 : Int32) (v10 : Int32) (s0 : Int32) (w : Wd) (o : Wd) (hrec7 : ∀ (y0 : Nat) (y1 : Int32) (y2 : Int32) (y3 : Int32) (y4 : Int32) (w : Wd) (o : Wd), rec7 y0 y1 y2 y3 y4 w = some o → Rn S 215 10 [some (.ref y0), some (.int y1), some (.int y2), some (.int y3), some (.int y4), none, none, none, none, none, none, none] [] w (none, o)) (hK7 : ∀  (w : Wd) (o : Wd), K7 w = some o → Rn S 215 186 [none, none, none, none, none, none, none, none, none, none, none, none] [] w (none, o)) (hrec11 : ∀ (y0 : Nat) (y1 : Int32) (y2 : Int32) (y3 : Int32) (y4 : Int32) (y5 : Int32) (w : Wd) (o : Wd), rec11 y0 y1 y2 y3 y4 y5 w = some o → Rn S 215 18 [some (.ref y0), some (.int y1), some (.int y2), some (.int y3), some (.int y4), some (.int y5), none, none, none, none, none, none] [] w (none, o)) (hK11 : ∀ (y0 : Nat) (y1 : Int32) (y2 : Int32) (y3 : Int32) (y4 : Int32) (w : Wd) (o : Wd), K11 y0 y1 y2 y3 y4 w = some o → Rn S 215 180 [some (.ref y0), some (.int y1), some (.int y2), some (.int y3), some (.int y4), none, none, none, none, none, none, none] [] w (none, o)) (hrec16 : ∀ (y0 : Nat) (y1 : Int32) (y2 : Int32) (y3 : Int32) (y4 : Int32) (y5 : Int32) (y6 : Int32) (w : Wd) (o : Wd), rec16 y0 y1 y2 y3 y4 y5 y6 w = some o → Rn S 215 28 [some (.ref y0), some (.int y1), some (.int y2), some (.int y3), some (.int y4), some (.int y5), some (.int y6), none, none, none, none, none] [] w (none, o)) (hK16 : ∀ (y0 : Nat) (y1 : Int32) (y2 : Int32) (y3 : Int32) (y4 : Int32) (y5 : Int32) (w : Wd) (o : Wd), K16 y0 y1 y2 y3 y4 y5 w = some o → Rn S 215 174 [some (.ref y0), some (.int y1), some (.int y2), some (.int y3), some (.int y4), some (.int y5), none, none, none, none, none, none] [] w (none, o)) (hrec41 : ∀ (y0 : Nat) (y1 : Int32) (y2 : Int32) (y3 : Int32) (y4 : Int32) (y5 : Int32) (y6 : Int32) (y7 : Int32) (y8 : Int32) (y9 : Int32) (y10 : Int32) (w : Wd) (o : Wd), rec41 y0 y1 y2 y3 y4 y5 y6 y7 y8 y9 y10 w = some o → Rn S 215 76 [some (.ref y0), some (.int y1), some (.int y2), some (.int y3), some (.int y4), some (.int y5), some (.int y6), some (.int y7), some (.int y8), some (.int y9), some (.int y10), none] [] w (none, o)) (hK41 : ∀ (y0 : Nat) (y1 : Int32) (y2 : Int32) (y3 : Int32) (y4 : Int32) (y5 : Int32) (y6 : Int32) (y8 : Int32) (w : Wd) (o : Wd), K41 y0 y1 y2 y3 y4 y5 y6 y8 w = some o → Rn S 215 146 [some (.ref y0), some (.int y1), some (.int y2), some (.int y3), some (.int y4), some (.int y5), some (.int y6), none, some (.int y8), none, none, none] [] w (none, o)) (h : f215_J135 n rec7 K7 rec11 K11 rec16 K16 rec41 K41 v0 v1 v2 v3 v4 v5 v6 v7 v10 s0 w = some o) : Rn S 215 135 [some (.ref v0), some (.int v1), some (.int v2), some (.int v3), some (.int v4), some (.int v5), some (.int v6), some (.int v7), none, none, some (.int v10), none] [.int s0] w (none, o) := by
  unfold f215_J135 at h
  refine rn_istore (ls' := [some (.ref v0), some (.int v1), some (.int v2), some (.int v3), some (.int v4), some (.int v5), some (.int v6), some (.int v7), some (.int s0), none, some (.int v10), none]) (ft215 69 rfl) rfl ?_
  refine rn_iconst (v := (1 : Int32)) (ft215 70 rfl) (by decide) ?_
  refine rn_istore (ls' := [some (.ref v0), some (.int v1), some (.int v2), some (.int v3), some (.int v4), some (.int v5), some (.int v6), some (.int v7), some (.int s0), some (.int (1 : Int32)), some (.int v10), none]) (ft215 71 rfl) rfl ?_
  refine rn_iinc (u := 1) (ls' := [some (.ref v0), some (.int v1), some (.int v2), some (.int v3), some (.int v4), some (.int v5), some (.int v6), some (.int v7), some (.int s0), some (.int (1 : Int32)), some (.int (v10 + (1 : Int32))), none]) (ft215 72 rfl) rfl (by decide) rfl ?_
  refine rn_goto (ft215 73 rfl) ?_
  exact rn_forget (ls := [some (.ref v0), some (.int v1), some (.int v2), some (.int v3), some (.int v4), some (.int v5), some (.int v6), some (.int v7), some (.int s0), some (.int (1 : Int32)), some (.int (v10 + (1 : Int32))), none]) (And.intro rfl (And.intro rfl (And.intro rfl (And.intro rfl (And.intro rfl (And.intro rfl (And.intro rfl (And.intro rfl (And.intro rfl (And.intro rfl (And.intro rfl trivial))))))))))) (hrec41 v0 v1 v2 v3 v4 v5 v6 v7 s0 (1 : Int32) (v10 + (1 : Int32)) w _ h)
def f215_H76 (n : Nat) (rec7 : Nat → Int32 → Int32 → Int32 → Int32 → Wd → Option Wd) (K7 : Wd → Option Wd) (rec11 : Nat → Int32 → Int32 → Int32 → Int32 → Int32 → Wd → Option Wd) (K11 : Nat → Int32 → Int32 → Int32 → Int32 → Wd → Option Wd) (rec16 : Nat → Int32 → Int32 → Int32 → Int32 → Int32 → Int32 → Wd → Option Wd) (K16 : Nat → Int32 → Int32 → Int32 → Int32 → Int32 → Wd → Option Wd) (K41 : Nat → Int32 → Int32 → Int32 → Int32 → Int32 → Int32 → Int32 → Wd → Option Wd) : Nat → Nat → Int32 → Int32 → Int32 → Int32 → Int32 → Int32 → Int32 → Int32 → Int32 → Int32 → Wd → Option Wd
  | 0, _, _, _, _, _, _, _, _, _, _, _, _ => none
  | k + 1, v0, v1, v2, v3, v4, v5, v6, v7, v8, v9, v10, w =>
    (if (3 : Int32) ≤ v10 then K41 v0 v1 v2 v3 v4 v5 v6 v8 w
      else ob (f52 v10 w) (fun p9 => ob (f45 v7 (p9.1 + (1 : Int32)) p9.2) (fun p11 => (if p11.1 = 0 then (fun (v0 : Nat) (v1 : Int32) (v2 : Int32) (v3 : Int32) (v4 : Int32) (v5 : Int32) (v6 : Int32) (v7 : Int32) (v8 : Int32) (v9 : Int32) (v10 : Int32) w => f215_H76 n rec7 K7 rec11 K11 rec16 K16 K41 k v0 v1 v2 v3 v4 v5 v6 v7 v8 v9 v10 w) v0 v1 v2 v3 v4 v5 v6 v7 v8 v9 (v10 + (1 : Int32)) p11.2
        else ob (f52 v10 p11.2) (fun p13 => (if (wsh p13.2 v0).map (fun q => q.1) = some 11 then ob (f196 n v0 v1 v5 v6 v4 v2 p13.1 p13.2) (fun p15 => (if v9 = 0 then f215_J135 n rec7 K7 rec11 K11 rec16 K16 (fun (v0 : Nat) (v1 : Int32) (v2 : Int32) (v3 : Int32) (v4 : Int32) (v5 : Int32) (v6 : Int32) (v7 : Int32) (v8 : Int32) (v9 : Int32) (v10 : Int32) w => f215_H76 n rec7 K7 rec11 K11 rec16 K16 K41 k v0 v1 v2 v3 v4 v5 v6 v7 v8 v9 v10 w) K41 v0 v1 v2 v3 v4 v5 v6 v7 v10 p15.1 p15.2
          else (if p15.1 ≤ v8 then f215_J135 n rec7 K7 rec11 K11 rec16 K16 (fun (v0 : Nat) (v1 : Int32) (v2 : Int32) (v3 : Int32) (v4 : Int32) (v5 : Int32) (v6 : Int32) (v7 : Int32) (v8 : Int32) (v9 : Int32) (v10 : Int32) w => f215_H76 n rec7 K7 rec11 K11 rec16 K16 K41 k v0 v1 v2 v3 v4 v5 v6 v7 v8 v9 v10 w) K41 v0 v1 v2 v3 v4 v5 v6 v7 v10 v8 p15.2
            else f215_J135 n rec7 K7 rec11 K11 rec16 K16 (fun (v0 : Nat) (v1 : Int32) (v2 : Int32) (v3 : Int32) (v4 : Int32) (v5 : Int32) (v6 : Int32) (v7 : Int32) (v8 : Int32) (v9 : Int32) (v10 : Int32) w => f215_H76 n rec7 K7 rec11 K11 rec16 K16 K41 k v0 v1 v2 v3 v4 v5 v6 v7 v8 v9 v10 w) K41 v0 v1 v2 v3 v4 v5 v6 v7 v10 p15.1 p15.2))) else none))))))
set_option maxRecDepth 10000 in
theorem rf215_H76 {S : Sc} (n : Nat) (rec7 : Nat → Int32 → Int32 → Int32 → Int32 → Wd → Option Wd) (K7 : Wd → Option Wd) (rec11 : Nat → Int32 → Int32 → Int32 → Int32 → Int32 → Wd → Option Wd) (K11 : Nat → Int32 → Int32 → Int32 → Int32 → Wd → Option Wd) (rec16 : Nat → Int32 → Int32 → Int32 → Int32 → Int32 → Int32 → Wd → Option Wd) (K16 : Nat → Int32 → Int32 → Int32 → Int32 → Int32 → Wd → Option Wd) (K41 : Nat → Int32 → Int32 → Int32 → Int32 → Int32 → Int32 → Int32 → Wd → Option Wd) (hrec7 : ∀ (y0 : Nat) (y1 : Int32) (y2 : Int32) (y3 : Int32) (y4 : Int32) (w : Wd) (o : Wd), rec7 y0 y1 y2 y3 y4 w = some o → Rn S 215 10 [some (.ref y0), some (.int y1), some (.int y2), some (.int y3), some (.int y4), none, none, none, none, none, none, none] [] w (none, o)) (hK7 : ∀  (w : Wd) (o : Wd), K7 w = some o → Rn S 215 186 [none, none, none, none, none, none, none, none, none, none, none, none] [] w (none, o)) (hrec11 : ∀ (y0 : Nat) (y1 : Int32) (y2 : Int32) (y3 : Int32) (y4 : Int32) (y5 : Int32) (w : Wd) (o : Wd), rec11 y0 y1 y2 y3 y4 y5 w = some o → Rn S 215 18 [some (.ref y0), some (.int y1), some (.int y2), some (.int y3), some (.int y4), some (.int y5), none, none, none, none, none, none] [] w (none, o)) (hK11 : ∀ (y0 : Nat) (y1 : Int32) (y2 : Int32) (y3 : Int32) (y4 : Int32) (w : Wd) (o : Wd), K11 y0 y1 y2 y3 y4 w = some o → Rn S 215 180 [some (.ref y0), some (.int y1), some (.int y2), some (.int y3), some (.int y4), none, none, none, none, none, none, none] [] w (none, o)) (hrec16 : ∀ (y0 : Nat) (y1 : Int32) (y2 : Int32) (y3 : Int32) (y4 : Int32) (y5 : Int32) (y6 : Int32) (w : Wd) (o : Wd), rec16 y0 y1 y2 y3 y4 y5 y6 w = some o → Rn S 215 28 [some (.ref y0), some (.int y1), some (.int y2), some (.int y3), some (.int y4), some (.int y5), some (.int y6), none, none, none, none, none] [] w (none, o)) (hK16 : ∀ (y0 : Nat) (y1 : Int32) (y2 : Int32) (y3 : Int32) (y4 : Int32) (y5 : Int32) (w : Wd) (o : Wd), K16 y0 y1 y2 y3 y4 y5 w = some o → Rn S 215 174 [some (.ref y0), some (.int y1), some (.int y2), some (.int y3), some (.int y4), some (.int y5), none, none, none, none, none, none] [] w (none, o)) (hK41 : ∀ (y0 : Nat) (y1 : Int32) (y2 : Int32) (y3 : Int32) (y4 : Int32) (y5 : Int32) (y6 : Int32) (y8 : Int32) (w : Wd) (o : Wd), K41 y0 y1 y2 y3 y4 y5 y6 y8 w = some o → Rn S 215 146 [some (.ref y0), some (.int y1), some (.int y2), some (.int y3), some (.int y4), some (.int y5), some (.int y6), none, some (.int y8), none, none, none] [] w (none, o)) : ∀ (k : Nat) (v0 : Nat) (v1 : Int32) (v2 : Int32) (v3 : Int32) (v4 : Int32) (v5 : Int32) (v6 : Int32) (v7 : Int32) (v8 : Int32) (v9 : Int32) (v10 : Int32) (w : Wd) (o : Wd), f215_H76 n rec7 K7 rec11 K11 rec16 K16 K41 k v0 v1 v2 v3 v4 v5 v6 v7 v8 v9 v10 w = some o → Rn S 215 76 [some (.ref v0), some (.int v1), some (.int v2), some (.int v3), some (.int v4), some (.int v5), some (.int v6), some (.int v7), some (.int v8), some (.int v9), some (.int v10), none] [] w (none, o) := by
  intro k
  induction k with
  | zero =>
    intro v0 v1 v2 v3 v4 v5 v6 v7 v8 v9 v10 w o h
    exact nomatch h
  | succ k ih =>
    intro v0 v1 v2 v3 v4 v5 v6 v7 v8 v9 v10 w o h
    have hrec41 : ∀ (y0 : Nat) (y1 : Int32) (y2 : Int32) (y3 : Int32) (y4 : Int32) (y5 : Int32) (y6 : Int32) (y7 : Int32) (y8 : Int32) (y9 : Int32) (y10 : Int32) (w : Wd) (o : Wd), (fun (v0 : Nat) (v1 : Int32) (v2 : Int32) (v3 : Int32) (v4 : Int32) (v5 : Int32) (v6 : Int32) (v7 : Int32) (v8 : Int32) (v9 : Int32) (v10 : Int32) w => f215_H76 n rec7 K7 rec11 K11 rec16 K16 K41 k v0 v1 v2 v3 v4 v5 v6 v7 v8 v9 v10 w) y0 y1 y2 y3 y4 y5 y6 y7 y8 y9 y10 w = some o → Rn S 215 76 [some (.ref y0), some (.int y1), some (.int y2), some (.int y3), some (.int y4), some (.int y5), some (.int y6), some (.int y7), some (.int y8), some (.int y9), some (.int y10), none] [] w (none, o) := fun y0 y1 y2 y3 y4 y5 y6 y7 y8 y9 y10 w o h => ih y0 y1 y2 y3 y4 y5 y6 y7 y8 y9 y10 w o h
    unfold f215_H76 at h
    refine rn_iload (ft215 41 rfl) rfl ?_
    refine rn_iconst (v := (3 : Int32)) (ft215 42 rfl) (by decide) ?_
    by_cases c21 : (3 : Int32) ≤ v10
    · replace h := ifp c21 h
      refine rn_icmp_ge_t (ft215 43 rfl) c21 ?_
      exact rn_forget (ls := [some (.ref v0), some (.int v1), some (.int v2), some (.int v3), some (.int v4), some (.int v5), some (.int v6), none, some (.int v8), none, none, none]) (And.intro rfl (And.intro rfl (And.intro rfl (And.intro rfl (And.intro rfl (And.intro rfl (And.intro rfl (And.intro rfl trivial)))))))) (hK41 v0 v1 v2 v3 v4 v5 v6 v8 w _ h)
    · replace h := ifn c21 h
      refine rn_icmp_ge_f (ft215 43 rfl) c21 ?_
      refine rn_iload (ft215 44 rfl) rfl ?_
      refine rn_iload (ft215 45 rfl) rfl ?_
      obtain ⟨p9, q10, h⟩ := ob_some h
      refine rn_callS (as := [.int v10]) (r := [.int v7]) (v := (some (.int p9.1))) (w1 := p9.2) (ft215 46 rfl) (by decide +kernel) rfl (Nat.le_of_ble_eq_true rfl) (Nat.le_of_ble_eq_true rfl) (r52 v10 w _ q10) ?_
      refine rn_iconst (v := (1 : Int32)) (ft215 47 rfl) (by decide) ?_
      refine rn_iadd (ft215 48 rfl) ?_
      obtain ⟨p11, q12, h⟩ := ob_some h
      refine rn_callS (as := [.int v7, .int (p9.1 + (1 : Int32))]) (r := []) (v := (some (.int p11.1))) (w1 := p11.2) (ft215 49 rfl) (by decide +kernel) rfl (Nat.le_of_ble_eq_true rfl) (Nat.le_of_ble_eq_true rfl) (r45 v7 (p9.1 + (1 : Int32)) p9.2 _ q12) ?_
      by_cases c20 : p11.1 = 0
      · replace h := ifp c20 h
        refine rn_if_eq_t (ft215 50 rfl) c20 ?_
        refine rn_iinc (u := 1) (ls' := [some (.ref v0), some (.int v1), some (.int v2), some (.int v3), some (.int v4), some (.int v5), some (.int v6), some (.int v7), some (.int v8), some (.int v9), some (.int (v10 + (1 : Int32))), none]) (ft215 72 rfl) rfl (by decide) rfl ?_
        refine rn_goto (ft215 73 rfl) ?_
        exact rn_forget (ls := [some (.ref v0), some (.int v1), some (.int v2), some (.int v3), some (.int v4), some (.int v5), some (.int v6), some (.int v7), some (.int v8), some (.int v9), some (.int (v10 + (1 : Int32))), none]) (And.intro rfl (And.intro rfl (And.intro rfl (And.intro rfl (And.intro rfl (And.intro rfl (And.intro rfl (And.intro rfl (And.intro rfl (And.intro rfl (And.intro rfl trivial))))))))))) (hrec41 v0 v1 v2 v3 v4 v5 v6 v7 v8 v9 (v10 + (1 : Int32)) p11.2 _ h)
      · replace h := ifn c20 h
        refine rn_if_eq_f (ft215 50 rfl) c20 ?_
        refine rn_aload_n (ft215 51 rfl) rfl ?_
        refine rn_iload_n (ft215 52 rfl) rfl ?_
        refine rn_iload (ft215 53 rfl) rfl ?_
        refine rn_iload (ft215 54 rfl) rfl ?_
        refine rn_iload (ft215 55 rfl) rfl ?_
        refine rn_iload_n (ft215 56 rfl) rfl ?_
        refine rn_iload (ft215 57 rfl) rfl ?_
        obtain ⟨p13, q14, h⟩ := ob_some h
        refine rn_callS (as := [.int v10]) (r := [.int v2, .int v4, .int v6, .int v5, .int v1, .ref v0]) (v := (some (.int p13.1))) (w1 := p13.2) (ft215 58 rfl) (by decide +kernel) rfl (Nat.le_of_ble_eq_true rfl) (Nat.le_of_ble_eq_true rfl) (r52 v10 p11.2 _ q14) ?_
        obtain ⟨g19, h⟩ := ifg h
        obtain ⟨p15, q16, h⟩ := ob_some h
        refine rn_callV (as := [.int v1, .int v5, .int v6, .int v4, .int v2, .int p13.1]) (k0 := v0) (r := []) (v := (some (.int p15.1))) (w1 := p15.2) (ft215 59 rfl) (by decide +kernel) rfl (Nat.le_of_ble_eq_true rfl) (Nat.le_of_ble_eq_true rfl) (r196 n v0 v1 v5 v6 v4 v2 p13.1 p13.2 _ q16) (by decide +kernel) g19 ?_
        refine rn_istore (ls' := [some (.ref v0), some (.int v1), some (.int v2), some (.int v3), some (.int v4), some (.int v5), some (.int v6), some (.int v7), some (.int v8), some (.int v9), some (.int v10), some (.int p15.1)]) (ft215 60 rfl) rfl ?_
        refine rn_iload (ft215 61 rfl) rfl ?_
        by_cases c18 : v9 = 0
        · replace h := ifp c18 h
          refine rn_if_eq_t (ft215 62 rfl) c18 ?_
          refine rn_iload (ft215 66 rfl) rfl ?_
          refine rn_goto (ft215 67 rfl) ?_
          exact rn_forget (ls := [some (.ref v0), some (.int v1), some (.int v2), some (.int v3), some (.int v4), some (.int v5), some (.int v6), some (.int v7), none, none, some (.int v10), none]) (And.intro rfl (And.intro rfl (And.intro rfl (And.intro rfl (And.intro rfl (And.intro rfl (And.intro rfl (And.intro rfl (And.intro rfl trivial))))))))) (rf215_J135 n rec7 K7 rec11 K11 rec16 K16 (fun (v0 : Nat) (v1 : Int32) (v2 : Int32) (v3 : Int32) (v4 : Int32) (v5 : Int32) (v6 : Int32) (v7 : Int32) (v8 : Int32) (v9 : Int32) (v10 : Int32) w => f215_H76 n rec7 K7 rec11 K11 rec16 K16 K41 k v0 v1 v2 v3 v4 v5 v6 v7 v8 v9 v10 w) K41 v0 v1 v2 v3 v4 v5 v6 v7 v10 p15.1 p15.2 _ hrec7 hK7 hrec11 hK11 hrec16 hK16 hrec41 hK41 h)
        · replace h := ifn c18 h
          refine rn_if_eq_f (ft215 62 rfl) c18 ?_
          refine rn_iload (ft215 63 rfl) rfl ?_
          refine rn_iload (ft215 64 rfl) rfl ?_
          by_cases c17 : p15.1 ≤ v8
          · replace h := ifp c17 h
            refine rn_icmp_le_t (ft215 65 rfl) c17 ?_
            refine rn_iload (ft215 68 rfl) rfl ?_
            exact rn_forget (ls := [some (.ref v0), some (.int v1), some (.int v2), some (.int v3), some (.int v4), some (.int v5), some (.int v6), some (.int v7), none, none, some (.int v10), none]) (And.intro rfl (And.intro rfl (And.intro rfl (And.intro rfl (And.intro rfl (And.intro rfl (And.intro rfl (And.intro rfl (And.intro rfl trivial))))))))) (rf215_J135 n rec7 K7 rec11 K11 rec16 K16 (fun (v0 : Nat) (v1 : Int32) (v2 : Int32) (v3 : Int32) (v4 : Int32) (v5 : Int32) (v6 : Int32) (v7 : Int32) (v8 : Int32) (v9 : Int32) (v10 : Int32) w => f215_H76 n rec7 K7 rec11 K11 rec16 K16 K41 k v0 v1 v2 v3 v4 v5 v6 v7 v8 v9 v10 w) K41 v0 v1 v2 v3 v4 v5 v6 v7 v10 v8 p15.2 _ hrec7 hK7 hrec11 hK11 hrec16 hK16 hrec41 hK41 h)
          · replace h := ifn c17 h
            refine rn_icmp_le_f (ft215 65 rfl) c17 ?_
            refine rn_iload (ft215 66 rfl) rfl ?_
            refine rn_goto (ft215 67 rfl) ?_
            exact rn_forget (ls := [some (.ref v0), some (.int v1), some (.int v2), some (.int v3), some (.int v4), some (.int v5), some (.int v6), some (.int v7), none, none, some (.int v10), none]) (And.intro rfl (And.intro rfl (And.intro rfl (And.intro rfl (And.intro rfl (And.intro rfl (And.intro rfl (And.intro rfl (And.intro rfl trivial))))))))) (rf215_J135 n rec7 K7 rec11 K11 rec16 K16 (fun (v0 : Nat) (v1 : Int32) (v2 : Int32) (v3 : Int32) (v4 : Int32) (v5 : Int32) (v6 : Int32) (v7 : Int32) (v8 : Int32) (v9 : Int32) (v10 : Int32) w => f215_H76 n rec7 K7 rec11 K11 rec16 K16 K41 k v0 v1 v2 v3 v4 v5 v6 v7 v8 v9 v10 w) K41 v0 v1 v2 v3 v4 v5 v6 v7 v10 p15.1 p15.2 _ hrec7 hK7 hrec11 hK11 hrec16 hK16 hrec41 hK41 h)
def f215_J65 (n : Nat) (rec7 : Nat → Int32 → Int32 → Int32 → Int32 → Wd → Option Wd) (K7 : Wd → Option Wd) (rec11 : Nat → Int32 → Int32 → Int32 → Int32 → Int32 → Wd → Option Wd) (K11 : Nat → Int32 → Int32 → Int32 → Int32 → Wd → Option Wd) (rec16 : Nat → Int32 → Int32 → Int32 → Int32 → Int32 → Int32 → Wd → Option Wd) (K16 : Nat → Int32 → Int32 → Int32 → Int32 → Int32 → Wd → Option Wd) (v0 : Nat) (v1 : Int32) (v2 : Int32) (v3 : Int32) (v4 : Int32) (v5 : Int32) (v6 : Int32) (s0 : Int32) (w : Wd) : Option Wd :=
  f215_H76 n rec7 K7 rec11 K11 rec16 K16 (fun (e0_22 : Nat) (e1_22 : Int32) (e2_22 : Int32) (e3_22 : Int32) (e4_22 : Int32) (e5_22 : Int32) (e6_22 : Int32) (e8_22 : Int32) (w22 : Wd) => ob (getR w22 11 e0_22 58) (fun x23 => ob (astI w22 x23 ((((512 : Int32) * e4_22) + ((8 : Int32) * e5_22)) + e6_22) e8_22) (fun w25 => rec16 e0_22 e1_22 e2_22 e3_22 e4_22 e5_22 (e6_22 + (1 : Int32)) w25))) n v0 v1 v2 v3 v4 v5 v6 s0 (0 : Int32) (0 : Int32) (0 : Int32) w
set_option maxRecDepth 10000 in
theorem rf215_J65 {S : Sc} (n : Nat) (rec7 : Nat → Int32 → Int32 → Int32 → Int32 → Wd → Option Wd) (K7 : Wd → Option Wd) (rec11 : Nat → Int32 → Int32 → Int32 → Int32 → Int32 → Wd → Option Wd) (K11 : Nat → Int32 → Int32 → Int32 → Int32 → Wd → Option Wd) (rec16 : Nat → Int32 → Int32 → Int32 → Int32 → Int32 → Int32 → Wd → Option Wd) (K16 : Nat → Int32 → Int32 → Int32 → Int32 → Int32 → Wd → Option Wd) (v0 : Nat) (v1 : Int32) (v2 : Int32) (v3 : Int32) (v4 : Int32) (v5 : Int32) (v6 : Int32) (s0 : Int32) (w : Wd) (o : Wd) (hrec7 : ∀ (y0 : Nat) (y1 : Int32) (y2 : Int32) (y3 : Int32) (y4 : Int32) (w : Wd) (o : Wd), rec7 y0 y1 y2 y3 y4 w = some o → Rn S 215 10 [some (.ref y0), some (.int y1), some (.int y2), some (.int y3), some (.int y4), none, none, none, none, none, none, none] [] w (none, o)) (hK7 : ∀  (w : Wd) (o : Wd), K7 w = some o → Rn S 215 186 [none, none, none, none, none, none, none, none, none, none, none, none] [] w (none, o)) (hrec11 : ∀ (y0 : Nat) (y1 : Int32) (y2 : Int32) (y3 : Int32) (y4 : Int32) (y5 : Int32) (w : Wd) (o : Wd), rec11 y0 y1 y2 y3 y4 y5 w = some o → Rn S 215 18 [some (.ref y0), some (.int y1), some (.int y2), some (.int y3), some (.int y4), some (.int y5), none, none, none, none, none, none] [] w (none, o)) (hK11 : ∀ (y0 : Nat) (y1 : Int32) (y2 : Int32) (y3 : Int32) (y4 : Int32) (w : Wd) (o : Wd), K11 y0 y1 y2 y3 y4 w = some o → Rn S 215 180 [some (.ref y0), some (.int y1), some (.int y2), some (.int y3), some (.int y4), none, none, none, none, none, none, none] [] w (none, o)) (hrec16 : ∀ (y0 : Nat) (y1 : Int32) (y2 : Int32) (y3 : Int32) (y4 : Int32) (y5 : Int32) (y6 : Int32) (w : Wd) (o : Wd), rec16 y0 y1 y2 y3 y4 y5 y6 w = some o → Rn S 215 28 [some (.ref y0), some (.int y1), some (.int y2), some (.int y3), some (.int y4), some (.int y5), some (.int y6), none, none, none, none, none] [] w (none, o)) (hK16 : ∀ (y0 : Nat) (y1 : Int32) (y2 : Int32) (y3 : Int32) (y4 : Int32) (y5 : Int32) (w : Wd) (o : Wd), K16 y0 y1 y2 y3 y4 y5 w = some o → Rn S 215 174 [some (.ref y0), some (.int y1), some (.int y2), some (.int y3), some (.int y4), some (.int y5), none, none, none, none, none, none] [] w (none, o)) (h : f215_J65 n rec7 K7 rec11 K11 rec16 K16 v0 v1 v2 v3 v4 v5 v6 s0 w = some o) : Rn S 215 65 [some (.ref v0), some (.int v1), some (.int v2), some (.int v3), some (.int v4), some (.int v5), some (.int v6), none, none, none, none, none] [.int s0] w (none, o) := by
  unfold f215_J65 at h
  refine rn_istore (ls' := [some (.ref v0), some (.int v1), some (.int v2), some (.int v3), some (.int v4), some (.int v5), some (.int v6), some (.int s0), none, none, none, none]) (ft215 34 rfl) rfl ?_
  refine rn_iconst (v := (0 : Int32)) (ft215 35 rfl) (by decide) ?_
  refine rn_istore (ls' := [some (.ref v0), some (.int v1), some (.int v2), some (.int v3), some (.int v4), some (.int v5), some (.int v6), some (.int s0), some (.int (0 : Int32)), none, none, none]) (ft215 36 rfl) rfl ?_
  refine rn_iconst (v := (0 : Int32)) (ft215 37 rfl) (by decide) ?_
  refine rn_istore (ls' := [some (.ref v0), some (.int v1), some (.int v2), some (.int v3), some (.int v4), some (.int v5), some (.int v6), some (.int s0), some (.int (0 : Int32)), some (.int (0 : Int32)), none, none]) (ft215 38 rfl) rfl ?_
  refine rn_iconst (v := (0 : Int32)) (ft215 39 rfl) (by decide) ?_
  refine rn_istore (ls' := [some (.ref v0), some (.int v1), some (.int v2), some (.int v3), some (.int v4), some (.int v5), some (.int v6), some (.int s0), some (.int (0 : Int32)), some (.int (0 : Int32)), some (.int (0 : Int32)), none]) (ft215 40 rfl) rfl ?_
  refine rn_forget (ls := [some (.ref v0), some (.int v1), some (.int v2), some (.int v3), some (.int v4), some (.int v5), some (.int v6), some (.int s0), some (.int (0 : Int32)), some (.int (0 : Int32)), some (.int (0 : Int32)), none]) (And.intro rfl (And.intro rfl (And.intro rfl (And.intro rfl (And.intro rfl (And.intro rfl (And.intro rfl (And.intro rfl (And.intro rfl (And.intro rfl (And.intro rfl trivial))))))))))) (rf215_H76 n rec7 K7 rec11 K11 rec16 K16 _ hrec7 hK7 hrec11 hK11 hrec16 hK16 (fun e0_22 e1_22 e2_22 e3_22 e4_22 e5_22 e6_22 e8_22 w22 o h => ?_) n v0 v1 v2 v3 v4 v5 v6 s0 (0 : Int32) (0 : Int32) (0 : Int32) w _ h)
  refine rn_aload_n (ft215 74 rfl) rfl ?_
  obtain ⟨x23, q24, h⟩ := ob_some h
  refine rn_getR (ft215 75 rfl) q24 ?_
  refine rn_sipush (v := (512 : Int32)) (ft215 76 rfl) (by decide) ?_
  refine rn_iload (ft215 77 rfl) rfl ?_
  refine rn_imul (ft215 78 rfl) ?_
  refine rn_bipush (v := (8 : Int32)) (ft215 79 rfl) (by decide) ?_
  refine rn_iload (ft215 80 rfl) rfl ?_
  refine rn_imul (ft215 81 rfl) ?_
  refine rn_iadd (ft215 82 rfl) ?_
  refine rn_iload (ft215 83 rfl) rfl ?_
  refine rn_iadd (ft215 84 rfl) ?_
  refine rn_iload (ft215 85 rfl) rfl ?_
  obtain ⟨w25, q26, h⟩ := ob_some h
  refine rn_iastore (ft215 86 rfl) q26 ?_
  refine rn_iinc (u := 1) (ls' := [some (.ref e0_22), some (.int e1_22), some (.int e2_22), some (.int e3_22), some (.int e4_22), some (.int e5_22), some (.int (e6_22 + (1 : Int32))), none, some (.int e8_22), none, none, none]) (ft215 87 rfl) rfl (by decide) rfl ?_
  refine rn_goto (ft215 88 rfl) ?_
  exact rn_forget (ls := [some (.ref e0_22), some (.int e1_22), some (.int e2_22), some (.int e3_22), some (.int e4_22), some (.int e5_22), some (.int (e6_22 + (1 : Int32))), none, none, none, none, none]) (And.intro rfl (And.intro rfl (And.intro rfl (And.intro rfl (And.intro rfl (And.intro rfl (And.intro rfl trivial))))))) (hrec16 e0_22 e1_22 e2_22 e3_22 e4_22 e5_22 (e6_22 + (1 : Int32)) w25 _ h)
def f215_H28 (n : Nat) (rec7 : Nat → Int32 → Int32 → Int32 → Int32 → Wd → Option Wd) (K7 : Wd → Option Wd) (rec11 : Nat → Int32 → Int32 → Int32 → Int32 → Int32 → Wd → Option Wd) (K11 : Nat → Int32 → Int32 → Int32 → Int32 → Wd → Option Wd) (K16 : Nat → Int32 → Int32 → Int32 → Int32 → Int32 → Wd → Option Wd) : Nat → Nat → Int32 → Int32 → Int32 → Int32 → Int32 → Int32 → Wd → Option Wd
  | 0, _, _, _, _, _, _, _, _ => none
  | k + 1, v0, v1, v2, v3, v4, v5, v6, w =>
    (if (8 : Int32) ≤ v6 then K16 v0 v1 v2 v3 v4 v5 w
      else ob (getR w 11 v0 2) (fun x3 => ob (aldB w x3 v5) (fun x5 => (if ¬ x5 = 0 then K16 v0 v1 v2 v3 v4 v5 w
        else (if v3 = 0 then (if (wsh w v0).map (fun q => q.1) = some 11 then ob (f205 n v0 v1 v5 v6 v4 w) (fun p7 => f215_J65 n rec7 K7 rec11 K11 (fun (v0 : Nat) (v1 : Int32) (v2 : Int32) (v3 : Int32) (v4 : Int32) (v5 : Int32) (v6 : Int32) w => f215_H28 n rec7 K7 rec11 K11 K16 k v0 v1 v2 v3 v4 v5 v6 w) K16 v0 v1 v2 v3 v4 v5 v6 p7.1 p7.2) else none)
          else f215_J65 n rec7 K7 rec11 K11 (fun (v0 : Nat) (v1 : Int32) (v2 : Int32) (v3 : Int32) (v4 : Int32) (v5 : Int32) (v6 : Int32) w => f215_H28 n rec7 K7 rec11 K11 K16 k v0 v1 v2 v3 v4 v5 v6 w) K16 v0 v1 v2 v3 v4 v5 v6 (7 : Int32) w)))))
set_option maxRecDepth 10000 in
theorem rf215_H28 {S : Sc} (n : Nat) (rec7 : Nat → Int32 → Int32 → Int32 → Int32 → Wd → Option Wd) (K7 : Wd → Option Wd) (rec11 : Nat → Int32 → Int32 → Int32 → Int32 → Int32 → Wd → Option Wd) (K11 : Nat → Int32 → Int32 → Int32 → Int32 → Wd → Option Wd) (K16 : Nat → Int32 → Int32 → Int32 → Int32 → Int32 → Wd → Option Wd) (hrec7 : ∀ (y0 : Nat) (y1 : Int32) (y2 : Int32) (y3 : Int32) (y4 : Int32) (w : Wd) (o : Wd), rec7 y0 y1 y2 y3 y4 w = some o → Rn S 215 10 [some (.ref y0), some (.int y1), some (.int y2), some (.int y3), some (.int y4), none, none, none, none, none, none, none] [] w (none, o)) (hK7 : ∀  (w : Wd) (o : Wd), K7 w = some o → Rn S 215 186 [none, none, none, none, none, none, none, none, none, none, none, none] [] w (none, o)) (hrec11 : ∀ (y0 : Nat) (y1 : Int32) (y2 : Int32) (y3 : Int32) (y4 : Int32) (y5 : Int32) (w : Wd) (o : Wd), rec11 y0 y1 y2 y3 y4 y5 w = some o → Rn S 215 18 [some (.ref y0), some (.int y1), some (.int y2), some (.int y3), some (.int y4), some (.int y5), none, none, none, none, none, none] [] w (none, o)) (hK11 : ∀ (y0 : Nat) (y1 : Int32) (y2 : Int32) (y3 : Int32) (y4 : Int32) (w : Wd) (o : Wd), K11 y0 y1 y2 y3 y4 w = some o → Rn S 215 180 [some (.ref y0), some (.int y1), some (.int y2), some (.int y3), some (.int y4), none, none, none, none, none, none, none] [] w (none, o)) (hK16 : ∀ (y0 : Nat) (y1 : Int32) (y2 : Int32) (y3 : Int32) (y4 : Int32) (y5 : Int32) (w : Wd) (o : Wd), K16 y0 y1 y2 y3 y4 y5 w = some o → Rn S 215 174 [some (.ref y0), some (.int y1), some (.int y2), some (.int y3), some (.int y4), some (.int y5), none, none, none, none, none, none] [] w (none, o)) : ∀ (k : Nat) (v0 : Nat) (v1 : Int32) (v2 : Int32) (v3 : Int32) (v4 : Int32) (v5 : Int32) (v6 : Int32) (w : Wd) (o : Wd), f215_H28 n rec7 K7 rec11 K11 K16 k v0 v1 v2 v3 v4 v5 v6 w = some o → Rn S 215 28 [some (.ref v0), some (.int v1), some (.int v2), some (.int v3), some (.int v4), some (.int v5), some (.int v6), none, none, none, none, none] [] w (none, o) := by
  intro k
  induction k with
  | zero =>
    intro v0 v1 v2 v3 v4 v5 v6 w o h
    exact nomatch h
  | succ k ih =>
    intro v0 v1 v2 v3 v4 v5 v6 w o h
    have hrec16 : ∀ (y0 : Nat) (y1 : Int32) (y2 : Int32) (y3 : Int32) (y4 : Int32) (y5 : Int32) (y6 : Int32) (w : Wd) (o : Wd), (fun (v0 : Nat) (v1 : Int32) (v2 : Int32) (v3 : Int32) (v4 : Int32) (v5 : Int32) (v6 : Int32) w => f215_H28 n rec7 K7 rec11 K11 K16 k v0 v1 v2 v3 v4 v5 v6 w) y0 y1 y2 y3 y4 y5 y6 w = some o → Rn S 215 28 [some (.ref y0), some (.int y1), some (.int y2), some (.int y3), some (.int y4), some (.int y5), some (.int y6), none, none, none, none, none] [] w (none, o) := fun y0 y1 y2 y3 y4 y5 y6 w o h => ih y0 y1 y2 y3 y4 y5 y6 w o h
    unfold f215_H28 at h
    refine rn_iload (ft215 16 rfl) rfl ?_
    refine rn_bipush (v := (8 : Int32)) (ft215 17 rfl) (by decide) ?_
    by_cases c30 : (8 : Int32) ≤ v6
    · replace h := ifp c30 h
      refine rn_icmp_ge_t (ft215 18 rfl) c30 ?_
      exact rn_forget (ls := [some (.ref v0), some (.int v1), some (.int v2), some (.int v3), some (.int v4), some (.int v5), none, none, none, none, none, none]) (And.intro rfl (And.intro rfl (And.intro rfl (And.intro rfl (And.intro rfl (And.intro rfl trivial)))))) (hK16 v0 v1 v2 v3 v4 v5 w _ h)
    · replace h := ifn c30 h
      refine rn_icmp_ge_f (ft215 18 rfl) c30 ?_
      refine rn_aload_n (ft215 19 rfl) rfl ?_
      obtain ⟨x3, q4, h⟩ := ob_some h
      refine rn_getR (ft215 20 rfl) q4 ?_
      refine rn_iload (ft215 21 rfl) rfl ?_
      obtain ⟨x5, q6, h⟩ := ob_some h
      refine rn_baload (ft215 22 rfl) q6 ?_
      by_cases c29 : ¬ x5 = 0
      · replace h := ifp c29 h
        refine rn_if_ne_t (ft215 23 rfl) c29 ?_
        exact rn_forget (ls := [some (.ref v0), some (.int v1), some (.int v2), some (.int v3), some (.int v4), some (.int v5), none, none, none, none, none, none]) (And.intro rfl (And.intro rfl (And.intro rfl (And.intro rfl (And.intro rfl (And.intro rfl trivial)))))) (hK16 v0 v1 v2 v3 v4 v5 w _ h)
      · replace h := ifn c29 h
        refine rn_if_ne_f (ft215 23 rfl) c29 ?_
        refine rn_iload_n (ft215 24 rfl) rfl ?_
        by_cases c28 : v3 = 0
        · replace h := ifp c28 h
          refine rn_if_eq_t (ft215 25 rfl) c28 ?_
          refine rn_aload_n (ft215 28 rfl) rfl ?_
          refine rn_iload_n (ft215 29 rfl) rfl ?_
          refine rn_iload (ft215 30 rfl) rfl ?_
          refine rn_iload (ft215 31 rfl) rfl ?_
          refine rn_iload (ft215 32 rfl) rfl ?_
          obtain ⟨g27, h⟩ := ifg h
          obtain ⟨p7, q8, h⟩ := ob_some h
          refine rn_callV (as := [.int v1, .int v5, .int v6, .int v4]) (k0 := v0) (r := []) (v := (some (.int p7.1))) (w1 := p7.2) (ft215 33 rfl) (by decide +kernel) rfl (Nat.le_of_ble_eq_true rfl) (Nat.le_of_ble_eq_true rfl) (r205 n v0 v1 v5 v6 v4 w _ q8) (by decide +kernel) g27 ?_
          exact rn_forget (ls := [some (.ref v0), some (.int v1), some (.int v2), some (.int v3), some (.int v4), some (.int v5), some (.int v6), none, none, none, none, none]) (And.intro rfl (And.intro rfl (And.intro rfl (And.intro rfl (And.intro rfl (And.intro rfl (And.intro rfl trivial))))))) (rf215_J65 n rec7 K7 rec11 K11 (fun (v0 : Nat) (v1 : Int32) (v2 : Int32) (v3 : Int32) (v4 : Int32) (v5 : Int32) (v6 : Int32) w => f215_H28 n rec7 K7 rec11 K11 K16 k v0 v1 v2 v3 v4 v5 v6 w) K16 v0 v1 v2 v3 v4 v5 v6 p7.1 p7.2 _ hrec7 hK7 hrec11 hK11 hrec16 hK16 h)
        · replace h := ifn c28 h
          refine rn_if_eq_f (ft215 25 rfl) c28 ?_
          refine rn_bipush (v := (7 : Int32)) (ft215 26 rfl) (by decide) ?_
          refine rn_goto (ft215 27 rfl) ?_
          exact rn_forget (ls := [some (.ref v0), some (.int v1), some (.int v2), some (.int v3), some (.int v4), some (.int v5), some (.int v6), none, none, none, none, none]) (And.intro rfl (And.intro rfl (And.intro rfl (And.intro rfl (And.intro rfl (And.intro rfl (And.intro rfl trivial))))))) (rf215_J65 n rec7 K7 rec11 K11 (fun (v0 : Nat) (v1 : Int32) (v2 : Int32) (v3 : Int32) (v4 : Int32) (v5 : Int32) (v6 : Int32) w => f215_H28 n rec7 K7 rec11 K11 K16 k v0 v1 v2 v3 v4 v5 v6 w) K16 v0 v1 v2 v3 v4 v5 v6 (7 : Int32) w _ hrec7 hK7 hrec11 hK11 hrec16 hK16 h)
def f215_H18 (n : Nat) (rec7 : Nat → Int32 → Int32 → Int32 → Int32 → Wd → Option Wd) (K7 : Wd → Option Wd) (K11 : Nat → Int32 → Int32 → Int32 → Int32 → Wd → Option Wd) : Nat → Nat → Int32 → Int32 → Int32 → Int32 → Int32 → Wd → Option Wd
  | 0, _, _, _, _, _, _, _ => none
  | k + 1, v0, v1, v2, v3, v4, v5, w =>
    (if (64 : Int32) ≤ v5 then K11 v0 v1 v2 v3 v4 w
      else f215_H28 n rec7 K7 (fun (v0 : Nat) (v1 : Int32) (v2 : Int32) (v3 : Int32) (v4 : Int32) (v5 : Int32) w => f215_H18 n rec7 K7 K11 k v0 v1 v2 v3 v4 v5 w) K11 (fun (e0_31 : Nat) (e1_31 : Int32) (e2_31 : Int32) (e3_31 : Int32) (e4_31 : Int32) (e5_31 : Int32) (w31 : Wd) => (fun (v0 : Nat) (v1 : Int32) (v2 : Int32) (v3 : Int32) (v4 : Int32) (v5 : Int32) w => f215_H18 n rec7 K7 K11 k v0 v1 v2 v3 v4 v5 w) e0_31 e1_31 e2_31 e3_31 e4_31 (e5_31 + (1 : Int32)) w31) n v0 v1 v2 v3 v4 v5 (0 : Int32) w)
set_option maxRecDepth 10000 in
theorem rf215_H18 {S : Sc} (n : Nat) (rec7 : Nat → Int32 → Int32 → Int32 → Int32 → Wd → Option Wd) (K7 : Wd → Option Wd) (K11 : Nat → Int32 → Int32 → Int32 → Int32 → Wd → Option Wd) (hrec7 : ∀ (y0 : Nat) (y1 : Int32) (y2 : Int32) (y3 : Int32) (y4 : Int32) (w : Wd) (o : Wd), rec7 y0 y1 y2 y3 y4 w = some o → Rn S 215 10 [some (.ref y0), some (.int y1), some (.int y2), some (.int y3), some (.int y4), none, none, none, none, none, none, none] [] w (none, o)) (hK7 : ∀  (w : Wd) (o : Wd), K7 w = some o → Rn S 215 186 [none, none, none, none, none, none, none, none, none, none, none, none] [] w (none, o)) (hK11 : ∀ (y0 : Nat) (y1 : Int32) (y2 : Int32) (y3 : Int32) (y4 : Int32) (w : Wd) (o : Wd), K11 y0 y1 y2 y3 y4 w = some o → Rn S 215 180 [some (.ref y0), some (.int y1), some (.int y2), some (.int y3), some (.int y4), none, none, none, none, none, none, none] [] w (none, o)) : ∀ (k : Nat) (v0 : Nat) (v1 : Int32) (v2 : Int32) (v3 : Int32) (v4 : Int32) (v5 : Int32) (w : Wd) (o : Wd), f215_H18 n rec7 K7 K11 k v0 v1 v2 v3 v4 v5 w = some o → Rn S 215 18 [some (.ref v0), some (.int v1), some (.int v2), some (.int v3), some (.int v4), some (.int v5), none, none, none, none, none, none] [] w (none, o) := by
  intro k
  induction k with
  | zero =>
    intro v0 v1 v2 v3 v4 v5 w o h
    exact nomatch h
  | succ k ih =>
    intro v0 v1 v2 v3 v4 v5 w o h
    have hrec11 : ∀ (y0 : Nat) (y1 : Int32) (y2 : Int32) (y3 : Int32) (y4 : Int32) (y5 : Int32) (w : Wd) (o : Wd), (fun (v0 : Nat) (v1 : Int32) (v2 : Int32) (v3 : Int32) (v4 : Int32) (v5 : Int32) w => f215_H18 n rec7 K7 K11 k v0 v1 v2 v3 v4 v5 w) y0 y1 y2 y3 y4 y5 w = some o → Rn S 215 18 [some (.ref y0), some (.int y1), some (.int y2), some (.int y3), some (.int y4), some (.int y5), none, none, none, none, none, none] [] w (none, o) := fun y0 y1 y2 y3 y4 y5 w o h => ih y0 y1 y2 y3 y4 y5 w o h
    unfold f215_H18 at h
    refine rn_iload (ft215 11 rfl) rfl ?_
    refine rn_bipush (v := (64 : Int32)) (ft215 12 rfl) (by decide) ?_
    by_cases c32 : (64 : Int32) ≤ v5
    · replace h := ifp c32 h
      refine rn_icmp_ge_t (ft215 13 rfl) c32 ?_
      exact rn_forget (ls := [some (.ref v0), some (.int v1), some (.int v2), some (.int v3), some (.int v4), none, none, none, none, none, none, none]) (And.intro rfl (And.intro rfl (And.intro rfl (And.intro rfl (And.intro rfl trivial))))) (hK11 v0 v1 v2 v3 v4 w _ h)
    · replace h := ifn c32 h
      refine rn_icmp_ge_f (ft215 13 rfl) c32 ?_
      refine rn_iconst (v := (0 : Int32)) (ft215 14 rfl) (by decide) ?_
      refine rn_istore (ls' := [some (.ref v0), some (.int v1), some (.int v2), some (.int v3), some (.int v4), some (.int v5), some (.int (0 : Int32)), none, none, none, none, none]) (ft215 15 rfl) rfl ?_
      refine rn_forget (ls := [some (.ref v0), some (.int v1), some (.int v2), some (.int v3), some (.int v4), some (.int v5), some (.int (0 : Int32)), none, none, none, none, none]) (And.intro rfl (And.intro rfl (And.intro rfl (And.intro rfl (And.intro rfl (And.intro rfl (And.intro rfl trivial))))))) (rf215_H28 n rec7 K7 (fun (v0 : Nat) (v1 : Int32) (v2 : Int32) (v3 : Int32) (v4 : Int32) (v5 : Int32) w => f215_H18 n rec7 K7 K11 k v0 v1 v2 v3 v4 v5 w) K11 _ hrec7 hK7 hrec11 hK11 (fun e0_31 e1_31 e2_31 e3_31 e4_31 e5_31 w31 o h => ?_) n v0 v1 v2 v3 v4 v5 (0 : Int32) w _ h)
      refine rn_iinc (u := 1) (ls' := [some (.ref e0_31), some (.int e1_31), some (.int e2_31), some (.int e3_31), some (.int e4_31), some (.int (e5_31 + (1 : Int32))), none, none, none, none, none, none]) (ft215 89 rfl) rfl (by decide) rfl ?_
      refine rn_goto (ft215 90 rfl) ?_
      exact rn_forget (ls := [some (.ref e0_31), some (.int e1_31), some (.int e2_31), some (.int e3_31), some (.int e4_31), some (.int (e5_31 + (1 : Int32))), none, none, none, none, none, none]) (And.intro rfl (And.intro rfl (And.intro rfl (And.intro rfl (And.intro rfl (And.intro rfl trivial)))))) (hrec11 e0_31 e1_31 e2_31 e3_31 e4_31 (e5_31 + (1 : Int32)) w31 _ h)
def f215_H10 (n : Nat)  (K7 : Wd → Option Wd) : Nat → Nat → Int32 → Int32 → Int32 → Int32 → Wd → Option Wd
  | 0, _, _, _, _, _, _ => none
  | k + 1, v0, v1, v2, v3, v4, w =>
    (if v4 < 0 then K7 w
      else f215_H18 n (fun (v0 : Nat) (v1 : Int32) (v2 : Int32) (v3 : Int32) (v4 : Int32) w => f215_H10 n  K7 k v0 v1 v2 v3 v4 w) K7 (fun (e0_33 : Nat) (e1_33 : Int32) (e2_33 : Int32) (e3_33 : Int32) (e4_33 : Int32) (w33 : Wd) => (fun (v0 : Nat) (v1 : Int32) (v2 : Int32) (v3 : Int32) (v4 : Int32) w => f215_H10 n  K7 k v0 v1 v2 v3 v4 w) e0_33 e1_33 e2_33 e3_33 (e4_33 + (-1 : Int32)) w33) n v0 v1 v2 v3 v4 (0 : Int32) w)
set_option maxRecDepth 10000 in
theorem rf215_H10 {S : Sc} (n : Nat)  (K7 : Wd → Option Wd)  (hK7 : ∀  (w : Wd) (o : Wd), K7 w = some o → Rn S 215 186 [none, none, none, none, none, none, none, none, none, none, none, none] [] w (none, o)) : ∀ (k : Nat) (v0 : Nat) (v1 : Int32) (v2 : Int32) (v3 : Int32) (v4 : Int32) (w : Wd) (o : Wd), f215_H10 n  K7 k v0 v1 v2 v3 v4 w = some o → Rn S 215 10 [some (.ref v0), some (.int v1), some (.int v2), some (.int v3), some (.int v4), none, none, none, none, none, none, none] [] w (none, o) := by
  intro k
  induction k with
  | zero =>
    intro v0 v1 v2 v3 v4 w o h
    exact nomatch h
  | succ k ih =>
    intro v0 v1 v2 v3 v4 w o h
    have hrec7 : ∀ (y0 : Nat) (y1 : Int32) (y2 : Int32) (y3 : Int32) (y4 : Int32) (w : Wd) (o : Wd), (fun (v0 : Nat) (v1 : Int32) (v2 : Int32) (v3 : Int32) (v4 : Int32) w => f215_H10 n  K7 k v0 v1 v2 v3 v4 w) y0 y1 y2 y3 y4 w = some o → Rn S 215 10 [some (.ref y0), some (.int y1), some (.int y2), some (.int y3), some (.int y4), none, none, none, none, none, none, none] [] w (none, o) := fun y0 y1 y2 y3 y4 w o h => ih y0 y1 y2 y3 y4 w o h
    unfold f215_H10 at h
    refine rn_iload (ft215 7 rfl) rfl ?_
    by_cases c34 : v4 < 0
    · replace h := ifp c34 h
      refine rn_if_lt_t (ft215 8 rfl) c34 ?_
      exact rn_forget (ls := [none, none, none, none, none, none, none, none, none, none, none, none]) trivial (hK7 w _ h)
    · replace h := ifn c34 h
      refine rn_if_lt_f (ft215 8 rfl) c34 ?_
      refine rn_iconst (v := (0 : Int32)) (ft215 9 rfl) (by decide) ?_
      refine rn_istore (ls' := [some (.ref v0), some (.int v1), some (.int v2), some (.int v3), some (.int v4), some (.int (0 : Int32)), none, none, none, none, none, none]) (ft215 10 rfl) rfl ?_
      refine rn_forget (ls := [some (.ref v0), some (.int v1), some (.int v2), some (.int v3), some (.int v4), some (.int (0 : Int32)), none, none, none, none, none, none]) (And.intro rfl (And.intro rfl (And.intro rfl (And.intro rfl (And.intro rfl (And.intro rfl trivial)))))) (rf215_H18 n (fun (v0 : Nat) (v1 : Int32) (v2 : Int32) (v3 : Int32) (v4 : Int32) w => f215_H10 n  K7 k v0 v1 v2 v3 v4 w) K7 _ hrec7 hK7 (fun e0_33 e1_33 e2_33 e3_33 e4_33 w33 o h => ?_) n v0 v1 v2 v3 v4 (0 : Int32) w _ h)
      refine rn_iinc (u := (-1)) (ls' := [some (.ref e0_33), some (.int e1_33), some (.int e2_33), some (.int e3_33), some (.int (e4_33 + (-1 : Int32))), none, none, none, none, none, none, none]) (ft215 91 rfl) rfl (by decide) rfl ?_
      refine rn_goto (ft215 92 rfl) ?_
      exact rn_forget (ls := [some (.ref e0_33), some (.int e1_33), some (.int e2_33), some (.int e3_33), some (.int (e4_33 + (-1 : Int32))), none, none, none, none, none, none, none]) (And.intro rfl (And.intro rfl (And.intro rfl (And.intro rfl (And.intro rfl trivial))))) (hrec7 e0_33 e1_33 e2_33 e3_33 (e4_33 + (-1 : Int32)) w33 _ h)
def f215 (n : Nat) (v0 : Nat) (v1 : Int32) (v2 : Int32) (v3 : Int32) (w : Wd) : Option Wd :=
  (if (wsh w v0).map (fun q => q.1) = some 11 then ob (f61 n v0 v2 w) (fun p1 => f215_H10 n  (fun  (w35 : Wd) => some w35) n v0 v1 v2 v3 (v2 - (1 : Int32)) p1) else none)
set_option maxRecDepth 10000 in
theorem r215 {S : Sc} (n : Nat) (v0 : Nat) (v1 : Int32) (v2 : Int32) (v3 : Int32) (w : Wd) (o : Wd) (h : f215 n v0 v1 v2 v3 w = some o) : Rn S 215 0 [some (.ref v0), some (.int v1), some (.int v2), some (.int v3), none, none, none, none, none, none, none, none] [] w (none, o) := by
  unfold f215 at h
  refine rn_aload_n (ft215 0 rfl) rfl ?_
  refine rn_iload_n (ft215 1 rfl) rfl ?_
  obtain ⟨g36, h⟩ := ifg h
  obtain ⟨p1, q2, h⟩ := ob_some h
  refine rn_callV (as := [.int v2]) (k0 := v0) (r := []) (v := none) (w1 := p1) (ft215 2 rfl) (by decide +kernel) rfl (Nat.le_of_ble_eq_true rfl) (Nat.le_of_ble_eq_true rfl) (r61 n v0 v2 w _ q2) (by decide +kernel) g36 ?_
  refine rn_iload_n (ft215 3 rfl) rfl ?_
  refine rn_iconst (v := (1 : Int32)) (ft215 4 rfl) (by decide) ?_
  refine rn_isub (ft215 5 rfl) ?_
  refine rn_istore (ls' := [some (.ref v0), some (.int v1), some (.int v2), some (.int v3), some (.int (v2 - (1 : Int32))), none, none, none, none, none, none, none]) (ft215 6 rfl) rfl ?_
  refine rn_forget (ls := [some (.ref v0), some (.int v1), some (.int v2), some (.int v3), some (.int (v2 - (1 : Int32))), none, none, none, none, none, none, none]) (And.intro rfl (And.intro rfl (And.intro rfl (And.intro rfl (And.intro rfl trivial))))) (rf215_H10 n  _  (fun  w35 o h => ?_) n v0 v1 v2 v3 (v2 - (1 : Int32)) p1 _ h)
  cases h
  exact rn_vret pr215 (ft215 93 rfl)
/-- NineWheelModel.drawnAt(IIII)I -/
theorem ft216 : ∀ (i : Nat) {q : Nat × XI}, cd216[i]? = some q → fetch 216 q.1 = some q.2 := ft_of (by decide +kernel)
theorem pr216 : pRt 216 = some .int := rfl
def f216_J117 (n : Nat) (rec21 : Nat → Int32 → Int32 → Int32 → Int32 → Wd → Option (Int32 × Wd)) (K21 : Nat → Wd → Option (Int32 × Wd)) (rec27 : Nat → Int32 → Int32 → Int32 → Int32 → Int32 → Wd → Option (Int32 × Wd)) (K27 : Nat → Int32 → Int32 → Int32 → Int32 → Wd → Option (Int32 × Wd)) (v0 : Nat) (v4 : Int32) (v6 : Int32) (v7 : Int32) (v8 : Int32) (v9 : Int32) (s0 : Nat) (s1 : Int32) (w : Wd) : Option (Int32 × Wd) :=
  ob (putI w 11 s0 47 s1) (fun w23 => rec27 v0 v4 v6 (v7 + (1 : Int32)) v8 (v9 + (1 : Int32)) w23)
set_option maxRecDepth 10000 in
theorem rf216_J117 {S : Sc} (n : Nat) (rec21 : Nat → Int32 → Int32 → Int32 → Int32 → Wd → Option (Int32 × Wd)) (K21 : Nat → Wd → Option (Int32 × Wd)) (rec27 : Nat → Int32 → Int32 → Int32 → Int32 → Int32 → Wd → Option (Int32 × Wd)) (K27 : Nat → Int32 → Int32 → Int32 → Int32 → Wd → Option (Int32 × Wd)) (v0 : Nat) (v4 : Int32) (v6 : Int32) (v7 : Int32) (v8 : Int32) (v9 : Int32) (s0 : Nat) (s1 : Int32) (w : Wd) (o : (Int32 × Wd)) (hrec21 : ∀ (y0 : Nat) (y4 : Int32) (y6 : Int32) (y7 : Int32) (y8 : Int32) (w : Wd) (o : (Int32 × Wd)), rec21 y0 y4 y6 y7 y8 w = some o → Rn S 216 37 [some (.ref y0), none, none, none, some (.int y4), none, some (.int y6), some (.int y7), some (.int y8), none, none] [] w (some (.int o.1), o.2)) (hK21 : ∀ (y0 : Nat) (w : Wd) (o : (Int32 × Wd)), K21 y0 w = some o → Rn S 216 135 [some (.ref y0), none, none, none, none, none, none, none, none, none, none] [] w (some (.int o.1), o.2)) (hrec27 : ∀ (y0 : Nat) (y4 : Int32) (y6 : Int32) (y7 : Int32) (y8 : Int32) (y9 : Int32) (w : Wd) (o : (Int32 × Wd)), rec27 y0 y4 y6 y7 y8 y9 w = some o → Rn S 216 49 [some (.ref y0), none, none, none, some (.int y4), none, some (.int y6), some (.int y7), some (.int y8), some (.int y9), none] [] w (some (.int o.1), o.2)) (hK27 : ∀ (y0 : Nat) (y4 : Int32) (y6 : Int32) (y7 : Int32) (y8 : Int32) (w : Wd) (o : (Int32 × Wd)), K27 y0 y4 y6 y7 y8 w = some o → Rn S 216 129 [some (.ref y0), none, none, none, some (.int y4), none, some (.int y6), some (.int y7), some (.int y8), none, none] [] w (some (.int o.1), o.2)) (h : f216_J117 n rec21 K21 rec27 K27 v0 v4 v6 v7 v8 v9 s0 s1 w = some o) : Rn S 216 117 [some (.ref v0), none, none, none, some (.int v4), none, some (.int v6), some (.int v7), some (.int v8), some (.int v9), none] [.int s1, .ref s0] w (some (.int o.1), o.2) := by
  unfold f216_J117 at h
  obtain ⟨w23, q24, h⟩ := ob_some h
  refine rn_putI (ft216 62 rfl) q24 ?_
  refine rn_iinc (u := 1) (ls' := [some (.ref v0), none, none, none, some (.int v4), none, some (.int v6), some (.int (v7 + (1 : Int32))), some (.int v8), some (.int v9), none]) (ft216 63 rfl) rfl (by decide) rfl ?_
  refine rn_iinc (u := 1) (ls' := [some (.ref v0), none, none, none, some (.int v4), none, some (.int v6), some (.int (v7 + (1 : Int32))), some (.int v8), some (.int (v9 + (1 : Int32))), none]) (ft216 64 rfl) rfl (by decide) rfl ?_
  refine rn_goto (ft216 65 rfl) ?_
  exact rn_forget (ls := [some (.ref v0), none, none, none, some (.int v4), none, some (.int v6), some (.int (v7 + (1 : Int32))), some (.int v8), some (.int (v9 + (1 : Int32))), none]) (And.intro rfl (And.intro rfl (And.intro rfl (And.intro rfl (And.intro rfl (And.intro rfl trivial)))))) (hrec27 v0 v4 v6 (v7 + (1 : Int32)) v8 (v9 + (1 : Int32)) w23 _ h)
def f216_J89 (n : Nat) (rec21 : Nat → Int32 → Int32 → Int32 → Int32 → Wd → Option (Int32 × Wd)) (K21 : Nat → Wd → Option (Int32 × Wd)) (rec27 : Nat → Int32 → Int32 → Int32 → Int32 → Int32 → Wd → Option (Int32 × Wd)) (K27 : Nat → Int32 → Int32 → Int32 → Int32 → Wd → Option (Int32 × Wd)) (v0 : Nat) (v4 : Int32) (v6 : Int32) (v7 : Int32) (v8 : Int32) (v9 : Int32) (s0 : Int32) (w : Wd) : Option (Int32 × Wd) :=
  (if (wsh w v0).map (fun q => q.1) = some 11 then ob (f127 v0 s0 (1 : Int32) v8 w) (fun p19 => (if ¬ v7 = v6 then ob (getI p19 11 v0 47) (fun x21 => f216_J117 n rec21 K21 rec27 K27 v0 v4 v6 v7 v8 v9 v0 x21 p19)
    else f216_J117 n rec21 K21 rec27 K27 v0 v4 v6 v7 v8 v9 v0 s0 p19)) else none)
set_option maxRecDepth 10000 in
theorem rf216_J89 {S : Sc} (n : Nat) (rec21 : Nat → Int32 → Int32 → Int32 → Int32 → Wd → Option (Int32 × Wd)) (K21 : Nat → Wd → Option (Int32 × Wd)) (rec27 : Nat → Int32 → Int32 → Int32 → Int32 → Int32 → Wd → Option (Int32 × Wd)) (K27 : Nat → Int32 → Int32 → Int32 → Int32 → Wd → Option (Int32 × Wd)) (v0 : Nat) (v4 : Int32) (v6 : Int32) (v7 : Int32) (v8 : Int32) (v9 : Int32) (s0 : Int32) (w : Wd) (o : (Int32 × Wd)) (hrec21 : ∀ (y0 : Nat) (y4 : Int32) (y6 : Int32) (y7 : Int32) (y8 : Int32) (w : Wd) (o : (Int32 × Wd)), rec21 y0 y4 y6 y7 y8 w = some o → Rn S 216 37 [some (.ref y0), none, none, none, some (.int y4), none, some (.int y6), some (.int y7), some (.int y8), none, none] [] w (some (.int o.1), o.2)) (hK21 : ∀ (y0 : Nat) (w : Wd) (o : (Int32 × Wd)), K21 y0 w = some o → Rn S 216 135 [some (.ref y0), none, none, none, none, none, none, none, none, none, none] [] w (some (.int o.1), o.2)) (hrec27 : ∀ (y0 : Nat) (y4 : Int32) (y6 : Int32) (y7 : Int32) (y8 : Int32) (y9 : Int32) (w : Wd) (o : (Int32 × Wd)), rec27 y0 y4 y6 y7 y8 y9 w = some o → Rn S 216 49 [some (.ref y0), none, none, none, some (.int y4), none, some (.int y6), some (.int y7), some (.int y8), some (.int y9), none] [] w (some (.int o.1), o.2)) (hK27 : ∀ (y0 : Nat) (y4 : Int32) (y6 : Int32) (y7 : Int32) (y8 : Int32) (w : Wd) (o : (Int32 × Wd)), K27 y0 y4 y6 y7 y8 w = some o → Rn S 216 129 [some (.ref y0), none, none, none, some (.int y4), none, some (.int y6), some (.int y7), some (.int y8), none, none] [] w (some (.int o.1), o.2)) (h : f216_J89 n rec21 K21 rec27 K27 v0 v4 v6 v7 v8 v9 s0 w = some o) : Rn S 216 89 [some (.ref v0), none, none, none, some (.int v4), none, some (.int v6), some (.int v7), some (.int v8), some (.int v9), none] [.int s0] w (some (.int o.1), o.2) := by
  unfold f216_J89 at h
  refine rn_istore (ls' := [some (.ref v0), none, none, none, some (.int v4), none, some (.int v6), some (.int v7), some (.int v8), some (.int v9), some (.int s0)]) (ft216 48 rfl) rfl ?_
  refine rn_aload_n (ft216 49 rfl) rfl ?_
  refine rn_iload (ft216 50 rfl) rfl ?_
  refine rn_iconst (v := (1 : Int32)) (ft216 51 rfl) (by decide) ?_
  refine rn_iload (ft216 52 rfl) rfl ?_
  obtain ⟨g26, h⟩ := ifg h
  obtain ⟨p19, q20, h⟩ := ob_some h
  refine rn_callV (as := [.int s0, .int (1 : Int32), .int v8]) (k0 := v0) (r := []) (v := none) (w1 := p19) (ft216 53 rfl) (by decide +kernel) rfl (Nat.le_of_ble_eq_true rfl) (Nat.le_of_ble_eq_true rfl) (r127 v0 s0 (1 : Int32) v8 w _ q20) (by decide +kernel) g26 ?_
  refine rn_aload_n (ft216 54 rfl) rfl ?_
  refine rn_iload (ft216 55 rfl) rfl ?_
  refine rn_iload (ft216 56 rfl) rfl ?_
  by_cases c25 : ¬ v7 = v6
  · replace h := ifp c25 h
    refine rn_icmp_ne_t (ft216 57 rfl) c25 ?_
    refine rn_aload_n (ft216 60 rfl) rfl ?_
    obtain ⟨x21, q22, h⟩ := ob_some h
    refine rn_getI (ft216 61 rfl) (by decide) (by decide) q22 ?_
    exact rn_forget (ls := [some (.ref v0), none, none, none, some (.int v4), none, some (.int v6), some (.int v7), some (.int v8), some (.int v9), none]) (And.intro rfl (And.intro rfl (And.intro rfl (And.intro rfl (And.intro rfl (And.intro rfl trivial)))))) (rf216_J117 n rec21 K21 rec27 K27 v0 v4 v6 v7 v8 v9 v0 x21 p19 _ hrec21 hK21 hrec27 hK27 h)
  · replace h := ifn c25 h
    refine rn_icmp_ne_f (ft216 57 rfl) c25 ?_
    refine rn_iload (ft216 58 rfl) rfl ?_
    refine rn_goto (ft216 59 rfl) ?_
    exact rn_forget (ls := [some (.ref v0), none, none, none, some (.int v4), none, some (.int v6), some (.int v7), some (.int v8), some (.int v9), none]) (And.intro rfl (And.intro rfl (And.intro rfl (And.intro rfl (And.intro rfl (And.intro rfl trivial)))))) (rf216_J117 n rec21 K21 rec27 K27 v0 v4 v6 v7 v8 v9 v0 s0 p19 _ hrec21 hK21 hrec27 hK27 h)
def f216_H49 (n : Nat) (rec21 : Nat → Int32 → Int32 → Int32 → Int32 → Wd → Option (Int32 × Wd)) (K21 : Nat → Wd → Option (Int32 × Wd)) (K27 : Nat → Int32 → Int32 → Int32 → Int32 → Wd → Option (Int32 × Wd)) : Nat → Nat → Int32 → Int32 → Int32 → Int32 → Int32 → Wd → Option (Int32 × Wd)
  | 0, _, _, _, _, _, _, _ => none
  | k + 1, v0, v4, v6, v7, v8, v9, w =>
    ob (getR w 11 v0 7) (fun x9 => ob (aldI w x9 v8) (fun x11 => (if x11 ≤ v9 then K27 v0 v4 v6 v7 v8 w
      else (if (wsh w v0).map (fun q => q.1) = some 11 then ob (f63 v0 (100 : Int32) w) (fun p13 => (if v4 ≤ p13.1 then ob (getR p13.2 11 v0 36) (fun x15 => ob (aldI p13.2 x15 v8) (fun x17 => f216_J89 n rec21 K21 (fun (v0 : Nat) (v4 : Int32) (v6 : Int32) (v7 : Int32) (v8 : Int32) (v9 : Int32) w => f216_H49 n rec21 K21 K27 k v0 v4 v6 v7 v8 v9 w) K27 v0 v4 v6 v7 v8 v9 x17 p13.2))
        else (if (wsh p13.2 v0).map (fun q => q.1) = some 11 then ob (f63 v0 (3 : Int32) p13.2) (fun p27 => f216_J89 n rec21 K21 (fun (v0 : Nat) (v4 : Int32) (v6 : Int32) (v7 : Int32) (v8 : Int32) (v9 : Int32) w => f216_H49 n rec21 K21 K27 k v0 v4 v6 v7 v8 v9 w) K27 v0 v4 v6 v7 v8 v9 (p27.1 - (1 : Int32)) p27.2) else none))) else none))))
set_option maxRecDepth 10000 in
theorem rf216_H49 {S : Sc} (n : Nat) (rec21 : Nat → Int32 → Int32 → Int32 → Int32 → Wd → Option (Int32 × Wd)) (K21 : Nat → Wd → Option (Int32 × Wd)) (K27 : Nat → Int32 → Int32 → Int32 → Int32 → Wd → Option (Int32 × Wd)) (hrec21 : ∀ (y0 : Nat) (y4 : Int32) (y6 : Int32) (y7 : Int32) (y8 : Int32) (w : Wd) (o : (Int32 × Wd)), rec21 y0 y4 y6 y7 y8 w = some o → Rn S 216 37 [some (.ref y0), none, none, none, some (.int y4), none, some (.int y6), some (.int y7), some (.int y8), none, none] [] w (some (.int o.1), o.2)) (hK21 : ∀ (y0 : Nat) (w : Wd) (o : (Int32 × Wd)), K21 y0 w = some o → Rn S 216 135 [some (.ref y0), none, none, none, none, none, none, none, none, none, none] [] w (some (.int o.1), o.2)) (hK27 : ∀ (y0 : Nat) (y4 : Int32) (y6 : Int32) (y7 : Int32) (y8 : Int32) (w : Wd) (o : (Int32 × Wd)), K27 y0 y4 y6 y7 y8 w = some o → Rn S 216 129 [some (.ref y0), none, none, none, some (.int y4), none, some (.int y6), some (.int y7), some (.int y8), none, none] [] w (some (.int o.1), o.2)) : ∀ (k : Nat) (v0 : Nat) (v4 : Int32) (v6 : Int32) (v7 : Int32) (v8 : Int32) (v9 : Int32) (w : Wd) (o : (Int32 × Wd)), f216_H49 n rec21 K21 K27 k v0 v4 v6 v7 v8 v9 w = some o → Rn S 216 49 [some (.ref v0), none, none, none, some (.int v4), none, some (.int v6), some (.int v7), some (.int v8), some (.int v9), none] [] w (some (.int o.1), o.2) := by
  intro k
  induction k with
  | zero =>
    intro v0 v4 v6 v7 v8 v9 w o h
    exact nomatch h
  | succ k ih =>
    intro v0 v4 v6 v7 v8 v9 w o h
    have hrec27 : ∀ (y0 : Nat) (y4 : Int32) (y6 : Int32) (y7 : Int32) (y8 : Int32) (y9 : Int32) (w : Wd) (o : (Int32 × Wd)), (fun (v0 : Nat) (v4 : Int32) (v6 : Int32) (v7 : Int32) (v8 : Int32) (v9 : Int32) w => f216_H49 n rec21 K21 K27 k v0 v4 v6 v7 v8 v9 w) y0 y4 y6 y7 y8 y9 w = some o → Rn S 216 49 [some (.ref y0), none, none, none, some (.int y4), none, some (.int y6), some (.int y7), some (.int y8), some (.int y9), none] [] w (some (.int o.1), o.2) := fun y0 y4 y6 y7 y8 y9 w o h => ih y0 y4 y6 y7 y8 y9 w o h
    unfold f216_H49 at h
    refine rn_iload (ft216 27 rfl) rfl ?_
    refine rn_aload_n (ft216 28 rfl) rfl ?_
    obtain ⟨x9, q10, h⟩ := ob_some h
    refine rn_getR (ft216 29 rfl) q10 ?_
    refine rn_iload (ft216 30 rfl) rfl ?_
    obtain ⟨x11, q12, h⟩ := ob_some h
    refine rn_iaload (ft216 31 rfl) q12 ?_
    by_cases c32 : x11 ≤ v9
    · replace h := ifp c32 h
      refine rn_icmp_ge_t (ft216 32 rfl) c32 ?_
      exact rn_forget (ls := [some (.ref v0), none, none, none, some (.int v4), none, some (.int v6), some (.int v7), some (.int v8), none, none]) (And.intro rfl (And.intro rfl (And.intro rfl (And.intro rfl (And.intro rfl trivial))))) (hK27 v0 v4 v6 v7 v8 w _ h)
    · replace h := ifn c32 h
      refine rn_icmp_ge_f (ft216 32 rfl) c32 ?_
      refine rn_aload_n (ft216 33 rfl) rfl ?_
      refine rn_bipush (v := (100 : Int32)) (ft216 34 rfl) (by decide) ?_
      obtain ⟨g31, h⟩ := ifg h
      obtain ⟨p13, q14, h⟩ := ob_some h
      refine rn_callV (as := [.int (100 : Int32)]) (k0 := v0) (r := []) (v := (some (.int p13.1))) (w1 := p13.2) (ft216 35 rfl) (by decide +kernel) rfl (Nat.le_of_ble_eq_true rfl) (Nat.le_of_ble_eq_true rfl) (r63 v0 (100 : Int32) w _ q14) (by decide +kernel) g31 ?_
      refine rn_iload (ft216 36 rfl) rfl ?_
      by_cases c30 : v4 ≤ p13.1
      · replace h := ifp c30 h
        refine rn_icmp_ge_t (ft216 37 rfl) c30 ?_
        refine rn_aload_n (ft216 44 rfl) rfl ?_
        obtain ⟨x15, q16, h⟩ := ob_some h
        refine rn_getR (ft216 45 rfl) q16 ?_
        refine rn_iload (ft216 46 rfl) rfl ?_
        obtain ⟨x17, q18, h⟩ := ob_some h
        refine rn_iaload (ft216 47 rfl) q18 ?_
        exact rn_forget (ls := [some (.ref v0), none, none, none, some (.int v4), none, some (.int v6), some (.int v7), some (.int v8), some (.int v9), none]) (And.intro rfl (And.intro rfl (And.intro rfl (And.intro rfl (And.intro rfl (And.intro rfl trivial)))))) (rf216_J89 n rec21 K21 (fun (v0 : Nat) (v4 : Int32) (v6 : Int32) (v7 : Int32) (v8 : Int32) (v9 : Int32) w => f216_H49 n rec21 K21 K27 k v0 v4 v6 v7 v8 v9 w) K27 v0 v4 v6 v7 v8 v9 x17 p13.2 _ hrec21 hK21 hrec27 hK27 h)
      · replace h := ifn c30 h
        refine rn_icmp_ge_f (ft216 37 rfl) c30 ?_
        refine rn_aload_n (ft216 38 rfl) rfl ?_
        refine rn_iconst (v := (3 : Int32)) (ft216 39 rfl) (by decide) ?_
        obtain ⟨g29, h⟩ := ifg h
        obtain ⟨p27, q28, h⟩ := ob_some h
        refine rn_callV (as := [.int (3 : Int32)]) (k0 := v0) (r := []) (v := (some (.int p27.1))) (w1 := p27.2) (ft216 40 rfl) (by decide +kernel) rfl (Nat.le_of_ble_eq_true rfl) (Nat.le_of_ble_eq_true rfl) (r63 v0 (3 : Int32) p13.2 _ q28) (by decide +kernel) g29 ?_
        refine rn_iconst (v := (1 : Int32)) (ft216 41 rfl) (by decide) ?_
        refine rn_isub (ft216 42 rfl) ?_
        refine rn_goto (ft216 43 rfl) ?_
        exact rn_forget (ls := [some (.ref v0), none, none, none, some (.int v4), none, some (.int v6), some (.int v7), some (.int v8), some (.int v9), none]) (And.intro rfl (And.intro rfl (And.intro rfl (And.intro rfl (And.intro rfl (And.intro rfl trivial)))))) (rf216_J89 n rec21 K21 (fun (v0 : Nat) (v4 : Int32) (v6 : Int32) (v7 : Int32) (v8 : Int32) (v9 : Int32) w => f216_H49 n rec21 K21 K27 k v0 v4 v6 v7 v8 v9 w) K27 v0 v4 v6 v7 v8 v9 (p27.1 - (1 : Int32)) p27.2 _ hrec21 hK21 hrec27 hK27 h)
def f216_H37 (n : Nat)  (K21 : Nat → Wd → Option (Int32 × Wd)) : Nat → Nat → Int32 → Int32 → Int32 → Int32 → Wd → Option (Int32 × Wd)
  | 0, _, _, _, _, _, _ => none
  | k + 1, v0, v4, v6, v7, v8, w =>
    ob (getI w 11 v0 6) (fun x7 => (if x7 ≤ v8 then K21 v0 w
      else f216_H49 n (fun (v0 : Nat) (v4 : Int32) (v6 : Int32) (v7 : Int32) (v8 : Int32) w => f216_H37 n  K21 k v0 v4 v6 v7 v8 w) K21 (fun (e0_33 : Nat) (e4_33 : Int32) (e6_33 : Int32) (e7_33 : Int32) (e8_33 : Int32) (w33 : Wd) => (fun (v0 : Nat) (v4 : Int32) (v6 : Int32) (v7 : Int32) (v8 : Int32) w => f216_H37 n  K21 k v0 v4 v6 v7 v8 w) e0_33 e4_33 e6_33 e7_33 (e8_33 + (1 : Int32)) w33) n v0 v4 v6 v7 v8 (0 : Int32) w))
set_option maxRecDepth 10000 in
theorem rf216_H37 {S : Sc} (n : Nat)  (K21 : Nat → Wd → Option (Int32 × Wd))  (hK21 : ∀ (y0 : Nat) (w : Wd) (o : (Int32 × Wd)), K21 y0 w = some o → Rn S 216 135 [some (.ref y0), none, none, none, none, none, none, none, none, none, none] [] w (some (.int o.1), o.2)) : ∀ (k : Nat) (v0 : Nat) (v4 : Int32) (v6 : Int32) (v7 : Int32) (v8 : Int32) (w : Wd) (o : (Int32 × Wd)), f216_H37 n  K21 k v0 v4 v6 v7 v8 w = some o → Rn S 216 37 [some (.ref v0), none, none, none, some (.int v4), none, some (.int v6), some (.int v7), some (.int v8), none, none] [] w (some (.int o.1), o.2) := by
  intro k
  induction k with
  | zero =>
    intro v0 v4 v6 v7 v8 w o h
    exact nomatch h
  | succ k ih =>
    intro v0 v4 v6 v7 v8 w o h
    have hrec21 : ∀ (y0 : Nat) (y4 : Int32) (y6 : Int32) (y7 : Int32) (y8 : Int32) (w : Wd) (o : (Int32 × Wd)), (fun (v0 : Nat) (v4 : Int32) (v6 : Int32) (v7 : Int32) (v8 : Int32) w => f216_H37 n  K21 k v0 v4 v6 v7 v8 w) y0 y4 y6 y7 y8 w = some o → Rn S 216 37 [some (.ref y0), none, none, none, some (.int y4), none, some (.int y6), some (.int y7), some (.int y8), none, none] [] w (some (.int o.1), o.2) := fun y0 y4 y6 y7 y8 w o h => ih y0 y4 y6 y7 y8 w o h
    unfold f216_H37 at h
    refine rn_iload (ft216 21 rfl) rfl ?_
    refine rn_aload_n (ft216 22 rfl) rfl ?_
    obtain ⟨x7, q8, h⟩ := ob_some h
    refine rn_getI (ft216 23 rfl) (by decide) (by decide) q8 ?_
    by_cases c34 : x7 ≤ v8
    · replace h := ifp c34 h
      refine rn_icmp_ge_t (ft216 24 rfl) c34 ?_
      exact rn_forget (ls := [some (.ref v0), none, none, none, none, none, none, none, none, none, none]) (And.intro rfl trivial) (hK21 v0 w _ h)
    · replace h := ifn c34 h
      refine rn_icmp_ge_f (ft216 24 rfl) c34 ?_
      refine rn_iconst (v := (0 : Int32)) (ft216 25 rfl) (by decide) ?_
      refine rn_istore (ls' := [some (.ref v0), none, none, none, some (.int v4), none, some (.int v6), some (.int v7), some (.int v8), some (.int (0 : Int32)), none]) (ft216 26 rfl) rfl ?_
      refine rn_forget (ls := [some (.ref v0), none, none, none, some (.int v4), none, some (.int v6), some (.int v7), some (.int v8), some (.int (0 : Int32)), none]) (And.intro rfl (And.intro rfl (And.intro rfl (And.intro rfl (And.intro rfl (And.intro rfl trivial)))))) (rf216_H49 n (fun (v0 : Nat) (v4 : Int32) (v6 : Int32) (v7 : Int32) (v8 : Int32) w => f216_H37 n  K21 k v0 v4 v6 v7 v8 w) K21 _ hrec21 hK21 (fun e0_33 e4_33 e6_33 e7_33 e8_33 w33 o h => ?_) n v0 v4 v6 v7 v8 (0 : Int32) w _ h)
      refine rn_iinc (u := 1) (ls' := [some (.ref e0_33), none, none, none, some (.int e4_33), none, some (.int e6_33), some (.int e7_33), some (.int (e8_33 + (1 : Int32))), none, none]) (ft216 66 rfl) rfl (by decide) rfl ?_
      refine rn_goto (ft216 67 rfl) ?_
      exact rn_forget (ls := [some (.ref e0_33), none, none, none, some (.int e4_33), none, some (.int e6_33), some (.int e7_33), some (.int (e8_33 + (1 : Int32))), none, none]) (And.intro rfl (And.intro rfl (And.intro rfl (And.intro rfl (And.intro rfl trivial))))) (hrec21 e0_33 e4_33 e6_33 e7_33 (e8_33 + (1 : Int32)) w33 _ h)
def f216_J29 (n : Nat)  (v0 : Nat) (v4 : Int32) (s0 : Int32) (w : Wd) : Option (Int32 × Wd) :=
  f216_H37 n  (fun (e0_35 : Nat) (w35 : Wd) => (if (wsh w35 e0_35).map (fun q => q.1) = some 11 then ob (f172 n e0_35 w35) (fun p36 => some (p36.1, p36.2)) else none)) n v0 v4 s0 (0 : Int32) (0 : Int32) w
set_option maxRecDepth 10000 in
theorem rf216_J29 {S : Sc} (n : Nat)  (v0 : Nat) (v4 : Int32) (s0 : Int32) (w : Wd) (o : (Int32 × Wd))  (h : f216_J29 n  v0 v4 s0 w = some o) : Rn S 216 29 [some (.ref v0), none, none, none, some (.int v4), none, none, none, none, none, none] [.int s0] w (some (.int o.1), o.2) := by
  unfold f216_J29 at h
  refine rn_istore (ls' := [some (.ref v0), none, none, none, some (.int v4), none, some (.int s0), none, none, none, none]) (ft216 16 rfl) rfl ?_
  refine rn_iconst (v := (0 : Int32)) (ft216 17 rfl) (by decide) ?_
  refine rn_istore (ls' := [some (.ref v0), none, none, none, some (.int v4), none, some (.int s0), some (.int (0 : Int32)), none, none, none]) (ft216 18 rfl) rfl ?_
  refine rn_iconst (v := (0 : Int32)) (ft216 19 rfl) (by decide) ?_
  refine rn_istore (ls' := [some (.ref v0), none, none, none, some (.int v4), none, some (.int s0), some (.int (0 : Int32)), some (.int (0 : Int32)), none, none]) (ft216 20 rfl) rfl ?_
  refine rn_forget (ls := [some (.ref v0), none, none, none, some (.int v4), none, some (.int s0), some (.int (0 : Int32)), some (.int (0 : Int32)), none, none]) (And.intro rfl (And.intro rfl (And.intro rfl (And.intro rfl (And.intro rfl trivial))))) (rf216_H37 n  _  (fun e0_35 w35 o h => ?_) n v0 v4 s0 (0 : Int32) (0 : Int32) w _ h)
  refine rn_aload_n (ft216 68 rfl) rfl ?_
  obtain ⟨g38, h⟩ := ifg h
  obtain ⟨p36, q37, h⟩ := ob_some h
  refine rn_callV (as := []) (k0 := e0_35) (r := []) (v := (some (.int p36.1))) (w1 := p36.2) (ft216 69 rfl) (by decide +kernel) rfl (Nat.le_of_ble_eq_true rfl) (Nat.le_of_ble_eq_true rfl) (r172 n e0_35 w35 _ q37) (by decide +kernel) g38 ?_
  cases h
  exact rn_iretI pr216 (ft216 70 rfl)
def f216 (n : Nat) (v0 : Nat) (v1 : Int32) (v2 : Int32) (v3 : Int32) (v4 : Int32) (w : Wd) : Option (Int32 × Wd) :=
  (if (wsh w v0).map (fun q => q.1) = some 11 then ob (f203 n v0 v1 v2 w) (fun p1 => (if (wsh p1 v0).map (fun q => q.1) = some 11 then ob (f55 n v0 p1) (fun p3 => (if (wsh p3 v0).map (fun q => q.1) = some 11 then ob (f50 n v0 p3) (fun p5 => (if ¬ p5.1 = 0 then (if ¬ p5.1 = 0 then f216_J29 n  v0 v4 (irm v3 p5.1) p5.2 else none)
    else f216_J29 n  v0 v4 (0 : Int32) p5.2)) else none)) else none)) else none)
set_option maxRecDepth 10000 in
theorem r216 {S : Sc} (n : Nat) (v0 : Nat) (v1 : Int32) (v2 : Int32) (v3 : Int32) (v4 : Int32) (w : Wd) (o : (Int32 × Wd)) (h : f216 n v0 v1 v2 v3 v4 w = some o) : Rn S 216 0 [some (.ref v0), some (.int v1), some (.int v2), some (.int v3), some (.int v4), none, none, none, none, none, none] [] w (some (.int o.1), o.2) := by
  unfold f216 at h
  refine rn_aload_n (ft216 0 rfl) rfl ?_
  refine rn_iload_n (ft216 1 rfl) rfl ?_
  refine rn_iload_n (ft216 2 rfl) rfl ?_
  obtain ⟨g43, h⟩ := ifg h
  obtain ⟨p1, q2, h⟩ := ob_some h
  refine rn_callV (as := [.int v1, .int v2]) (k0 := v0) (r := []) (v := none) (w1 := p1) (ft216 3 rfl) (by decide +kernel) rfl (Nat.le_of_ble_eq_true rfl) (Nat.le_of_ble_eq_true rfl) (r203 n v0 v1 v2 w _ q2) (by decide +kernel) g43 ?_
  refine rn_aload_n (ft216 4 rfl) rfl ?_
  obtain ⟨g42, h⟩ := ifg h
  obtain ⟨p3, q4, h⟩ := ob_some h
  refine rn_callV (as := []) (k0 := v0) (r := []) (v := none) (w1 := p3) (ft216 5 rfl) (by decide +kernel) rfl (Nat.le_of_ble_eq_true rfl) (Nat.le_of_ble_eq_true rfl) (r55 n v0 p1 _ q4) (by decide +kernel) g42 ?_
  refine rn_aload_n (ft216 6 rfl) rfl ?_
  obtain ⟨g41, h⟩ := ifg h
  obtain ⟨p5, q6, h⟩ := ob_some h
  refine rn_callV (as := []) (k0 := v0) (r := []) (v := (some (.int p5.1))) (w1 := p5.2) (ft216 7 rfl) (by decide +kernel) rfl (Nat.le_of_ble_eq_true rfl) (Nat.le_of_ble_eq_true rfl) (r50 n v0 p3 _ q6) (by decide +kernel) g41 ?_
  refine rn_istore (ls' := [some (.ref v0), some (.int v1), some (.int v2), some (.int v3), some (.int v4), some (.int p5.1), none, none, none, none, none]) (ft216 8 rfl) rfl ?_
  refine rn_iload (ft216 9 rfl) rfl ?_
  by_cases c40 : ¬ p5.1 = 0
  · replace h := ifp c40 h
    refine rn_if_ne_t (ft216 10 rfl) c40 ?_
    refine rn_iload_n (ft216 13 rfl) rfl ?_
    refine rn_iload (ft216 14 rfl) rfl ?_
    obtain ⟨g39, h⟩ := ifg h
    refine rn_irem (ft216 15 rfl) g39 ?_
    exact rn_forget (ls := [some (.ref v0), none, none, none, some (.int v4), none, none, none, none, none, none]) (And.intro rfl (And.intro rfl trivial)) (rf216_J29 n  v0 v4 (irm v3 p5.1) p5.2 _  h)
  · replace h := ifn c40 h
    refine rn_if_ne_f (ft216 10 rfl) c40 ?_
    refine rn_iconst (v := (0 : Int32)) (ft216 11 rfl) (by decide) ?_
    refine rn_goto (ft216 12 rfl) ?_
    exact rn_forget (ls := [some (.ref v0), none, none, none, some (.int v4), none, none, none, none, none, none]) (And.intro rfl (And.intro rfl trivial)) (rf216_J29 n  v0 v4 (0 : Int32) p5.2 _  h)
