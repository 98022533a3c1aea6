/-! THE METHODS AS FUNCTIONS, 24 -/
/-- NineWheel.sides(III)I -/
theorem ft225 : ∀ (i : Nat) {q : Nat × XI}, cd225[i]? = some q → fetch 225 q.1 = some q.2 := ft_of (by decide +kernel)
theorem pr225 : pRt 225 = some .int := rfl
def f225_J137 (n : Nat) (rec31 : Nat → Int32 → Int32 → Int32 → Int32 → Int32 → Wd → Option (Int32 × Wd)) (K31 : Int32 → Wd → Option (Int32 × Wd)) (v0 : Nat) (v1 : Int32) (v2 : Int32) (v3 : Int32) (v4 : Int32) (v5 : Int32) (w : Wd) : Option (Int32 × Wd) :=
  (if ¬ v3 = (2 : Int32) then rec31 v0 v1 v2 v3 v4 (v5 + (1 : Int32)) w
    else ob (getR w 10 v0 11) (fun x33 => (if (wsh w x33).map (fun q => q.1) = some 4 then ob (f156 n x33 v2 w) (fun p35 => (if p35.1 = (-1 : Int32) then rec31 v0 v1 v2 v3 v4 (v5 + (1 : Int32)) p35.2
      else rec31 v0 v1 v2 v3 (v4 + (1 : Int32)) (v5 + (1 : Int32)) p35.2)) else none)))
set_option maxRecDepth 10000 in
theorem rf225_J137 {S : Sc} (n : Nat) (rec31 : Nat → Int32 → Int32 → Int32 → Int32 → Int32 → Wd → Option (Int32 × Wd)) (K31 : Int32 → Wd → Option (Int32 × Wd)) (v0 : Nat) (v1 : Int32) (v2 : Int32) (v3 : Int32) (v4 : Int32) (v5 : Int32) (w : Wd) (o : (Int32 × Wd)) (hrec31 : ∀ (y0 : Nat) (y1 : Int32) (y2 : Int32) (y3 : Int32) (y4 : Int32) (y5 : Int32) (w : Wd) (o : (Int32 × Wd)), rec31 y0 y1 y2 y3 y4 y5 w = some o → Rn S 225 57 [some (.ref y0), some (.int y1), some (.int y2), some (.int y3), some (.int y4), some (.int y5)] [] w (some (.int o.1), o.2)) (hK31 : ∀ (y4 : Int32) (w : Wd) (o : (Int32 × Wd)), K31 y4 w = some o → Rn S 225 163 [none, none, none, none, some (.int y4), none] [] w (some (.int o.1), o.2)) (h : f225_J137 n rec31 K31 v0 v1 v2 v3 v4 v5 w = some o) : Rn S 225 137 [some (.ref v0), some (.int v1), some (.int v2), some (.int v3), some (.int v4), some (.int v5)] [] w (some (.int o.1), o.2) := by
  unfold f225_J137 at h
  refine rn_iload_n (ft225 66 rfl) rfl ?_
  refine rn_iconst (v := (2 : Int32)) (ft225 67 rfl) (by decide) ?_
  by_cases c39 : ¬ v3 = (2 : Int32)
  · replace h := ifp c39 h
    refine rn_icmp_ne_t (ft225 68 rfl) c39 ?_
    refine rn_iinc (u := 1) (ls' := [some (.ref v0), some (.int v1), some (.int v2), some (.int v3), some (.int v4), some (.int (v5 + (1 : Int32)))]) (ft225 76 rfl) rfl (by decide) rfl ?_
    refine rn_goto (ft225 77 rfl) ?_
    exact rn_forget (ls := [some (.ref v0), some (.int v1), some (.int v2), some (.int v3), some (.int v4), some (.int (v5 + (1 : Int32)))]) (And.intro rfl (And.intro rfl (And.intro rfl (And.intro rfl (And.intro rfl (And.intro rfl trivial)))))) (hrec31 v0 v1 v2 v3 v4 (v5 + (1 : Int32)) w _ h)
  · replace h := ifn c39 h
    refine rn_icmp_ne_f (ft225 68 rfl) c39 ?_
    refine rn_aload_n (ft225 69 rfl) rfl ?_
    obtain ⟨x33, q34, h⟩ := ob_some h
    refine rn_getR (ft225 70 rfl) q34 ?_
    refine rn_iload_n (ft225 71 rfl) rfl ?_
    obtain ⟨g38, h⟩ := ifg h
    obtain ⟨p35, q36, h⟩ := ob_some h
    refine rn_callV (as := [.int v2]) (k0 := x33) (r := []) (v := (some (.int p35.1))) (w1 := p35.2) (ft225 72 rfl) (by decide +kernel) rfl (Nat.le_of_ble_eq_true rfl) (Nat.le_of_ble_eq_true rfl) (r156 n x33 v2 w _ q36) (by decide +kernel) g38 ?_
    refine rn_iconst (v := (-1 : Int32)) (ft225 73 rfl) (by decide) ?_
    by_cases c37 : p35.1 = (-1 : Int32)
    · replace h := ifp c37 h
      refine rn_icmp_eq_t (ft225 74 rfl) c37 ?_
      refine rn_iinc (u := 1) (ls' := [some (.ref v0), some (.int v1), some (.int v2), some (.int v3), some (.int v4), some (.int (v5 + (1 : Int32)))]) (ft225 76 rfl) rfl (by decide) rfl ?_
      refine rn_goto (ft225 77 rfl) ?_
      exact rn_forget (ls := [some (.ref v0), some (.int v1), some (.int v2), some (.int v3), some (.int v4), some (.int (v5 + (1 : Int32)))]) (And.intro rfl (And.intro rfl (And.intro rfl (And.intro rfl (And.intro rfl (And.intro rfl trivial)))))) (hrec31 v0 v1 v2 v3 v4 (v5 + (1 : Int32)) p35.2 _ h)
    · replace h := ifn c37 h
      refine rn_icmp_eq_f (ft225 74 rfl) c37 ?_
      refine rn_iinc (u := 1) (ls' := [some (.ref v0), some (.int v1), some (.int v2), some (.int v3), some (.int (v4 + (1 : Int32))), some (.int v5)]) (ft225 75 rfl) rfl (by decide) rfl ?_
      refine rn_iinc (u := 1) (ls' := [some (.ref v0), some (.int v1), some (.int v2), some (.int v3), some (.int (v4 + (1 : Int32))), some (.int (v5 + (1 : Int32)))]) (ft225 76 rfl) rfl (by decide) rfl ?_
      refine rn_goto (ft225 77 rfl) ?_
      exact rn_forget (ls := [some (.ref v0), some (.int v1), some (.int v2), some (.int v3), some (.int (v4 + (1 : Int32))), some (.int (v5 + (1 : Int32)))]) (And.intro rfl (And.intro rfl (And.intro rfl (And.intro rfl (And.intro rfl (And.intro rfl trivial)))))) (hrec31 v0 v1 v2 v3 (v4 + (1 : Int32)) (v5 + (1 : Int32)) p35.2 _ h)
def f225_J119 (n : Nat) (rec31 : Nat → Int32 → Int32 → Int32 → Int32 → Int32 → Wd → Option (Int32 × Wd)) (K31 : Int32 → Wd → Option (Int32 × Wd)) (v0 : Nat) (v1 : Int32) (v2 : Int32) (v3 : Int32) (v4 : Int32) (v5 : Int32) (w : Wd) : Option (Int32 × Wd) :=
  (if ¬ v3 = (1 : Int32) then f225_J137 n rec31 K31 v0 v1 v2 v3 v4 v5 w
    else ob (getR w 10 v0 11) (fun x40 => (if (wsh w x40).map (fun q => q.1) = some 4 then ob (f155 n x40 w) (fun p42 => (if p42.1 = 0 then f225_J137 n rec31 K31 v0 v1 v2 v3 v4 v5 p42.2
      else f225_J137 n rec31 K31 v0 v1 v2 v3 (v4 + (1 : Int32)) v5 p42.2)) else none)))
set_option maxRecDepth 10000 in
theorem rf225_J119 {S : Sc} (n : Nat) (rec31 : Nat → Int32 → Int32 → Int32 → Int32 → Int32 → Wd → Option (Int32 × Wd)) (K31 : Int32 → Wd → Option (Int32 × Wd)) (v0 : Nat) (v1 : Int32) (v2 : Int32) (v3 : Int32) (v4 : Int32) (v5 : Int32) (w : Wd) (o : (Int32 × Wd)) (hrec31 : ∀ (y0 : Nat) (y1 : Int32) (y2 : Int32) (y3 : Int32) (y4 : Int32) (y5 : Int32) (w : Wd) (o : (Int32 × Wd)), rec31 y0 y1 y2 y3 y4 y5 w = some o → Rn S 225 57 [some (.ref y0), some (.int y1), some (.int y2), some (.int y3), some (.int y4), some (.int y5)] [] w (some (.int o.1), o.2)) (hK31 : ∀ (y4 : Int32) (w : Wd) (o : (Int32 × Wd)), K31 y4 w = some o → Rn S 225 163 [none, none, none, none, some (.int y4), none] [] w (some (.int o.1), o.2)) (h : f225_J119 n rec31 K31 v0 v1 v2 v3 v4 v5 w = some o) : Rn S 225 119 [some (.ref v0), some (.int v1), some (.int v2), some (.int v3), some (.int v4), some (.int v5)] [] w (some (.int o.1), o.2) := by
  unfold f225_J119 at h
  refine rn_iload_n (ft225 58 rfl) rfl ?_
  refine rn_iconst (v := (1 : Int32)) (ft225 59 rfl) (by decide) ?_
  by_cases c46 : ¬ v3 = (1 : Int32)
  · replace h := ifp c46 h
    refine rn_icmp_ne_t (ft225 60 rfl) c46 ?_
    exact rn_forget (ls := [some (.ref v0), some (.int v1), some (.int v2), some (.int v3), some (.int v4), some (.int v5)]) (And.intro rfl (And.intro rfl (And.intro rfl (And.intro rfl (And.intro rfl (And.intro rfl trivial)))))) (rf225_J137 n rec31 K31 v0 v1 v2 v3 v4 v5 w _ hrec31 hK31 h)
  · replace h := ifn c46 h
    refine rn_icmp_ne_f (ft225 60 rfl) c46 ?_
    refine rn_aload_n (ft225 61 rfl) rfl ?_
    obtain ⟨x40, q41, h⟩ := ob_some h
    refine rn_getR (ft225 62 rfl) q41 ?_
    obtain ⟨g45, h⟩ := ifg h
    obtain ⟨p42, q43, h⟩ := ob_some h
    refine rn_callV (as := []) (k0 := x40) (r := []) (v := (some (.int p42.1))) (w1 := p42.2) (ft225 63 rfl) (by decide +kernel) rfl (Nat.le_of_ble_eq_true rfl) (Nat.le_of_ble_eq_true rfl) (r155 n x40 w _ q43) (by decide +kernel) g45 ?_
    by_cases c44 : p42.1 = 0
    · replace h := ifp c44 h
      refine rn_if_eq_t (ft225 64 rfl) c44 ?_
      exact rn_forget (ls := [some (.ref v0), some (.int v1), some (.int v2), some (.int v3), some (.int v4), some (.int v5)]) (And.intro rfl (And.intro rfl (And.intro rfl (And.intro rfl (And.intro rfl (And.intro rfl trivial)))))) (rf225_J137 n rec31 K31 v0 v1 v2 v3 v4 v5 p42.2 _ hrec31 hK31 h)
    · replace h := ifn c44 h
      refine rn_if_eq_f (ft225 64 rfl) c44 ?_
      refine rn_iinc (u := 1) (ls' := [some (.ref v0), some (.int v1), some (.int v2), some (.int v3), some (.int (v4 + (1 : Int32))), some (.int v5)]) (ft225 65 rfl) rfl (by decide) rfl ?_
      exact rn_forget (ls := [some (.ref v0), some (.int v1), some (.int v2), some (.int v3), some (.int (v4 + (1 : Int32))), some (.int v5)]) (And.intro rfl (And.intro rfl (And.intro rfl (And.intro rfl (And.intro rfl (And.intro rfl trivial)))))) (rf225_J137 n rec31 K31 v0 v1 v2 v3 (v4 + (1 : Int32)) v5 p42.2 _ hrec31 hK31 h)
def f225_H57 (n : Nat)  (K31 : Int32 → Wd → Option (Int32 × Wd)) : Nat → Nat → Int32 → Int32 → Int32 → Int32 → Int32 → Wd → Option (Int32 × Wd)
  | 0, _, _, _, _, _, _, _ => none
  | k + 1, v0, v1, v2, v3, v4, v5, w =>
    (if (512 : Int32) ≤ v5 then K31 v4 w
      else ob (getR w 10 v0 1) (fun x19 => ob (f20 v5 w) (fun p21 => (if (wsh p21.2 x19).map (fun q => q.1) = some 6 then ob (f9 x19 p21.1 p21.2) (fun p23 => (if p23.1 = 0 then ob (getR p23.2 10 v0 11) (fun x25 => ob (getR p23.2 10 v0 4) (fun x27 => ob (aldR p23.2 x27 v1) (fun x29 => (if (wsh p23.2 x25).map (fun q => q.1) = some 4 then ob (f209 n x25 x29 v5 (400 : Int32) (-1 : Int32) p23.2) (fun p31 => (if ¬ v3 = 0 then f225_J119 n (fun (v0 : Nat) (v1 : Int32) (v2 : Int32) (v3 : Int32) (v4 : Int32) (v5 : Int32) w => f225_H57 n  K31 k v0 v1 v2 v3 v4 v5 w) K31 v0 v1 v2 v3 v4 v5 p31
          else ob (getR p31 10 v0 11) (fun x47 => ob (getI p31 4 x47 8) (fun x49 => (if x49 = 0 then f225_J119 n (fun (v0 : Nat) (v1 : Int32) (v2 : Int32) (v3 : Int32) (v4 : Int32) (v5 : Int32) w => f225_H57 n  K31 k v0 v1 v2 v3 v4 v5 w) K31 v0 v1 v2 v3 v4 v5 p31
            else f225_J119 n (fun (v0 : Nat) (v1 : Int32) (v2 : Int32) (v3 : Int32) (v4 : Int32) (v5 : Int32) w => f225_H57 n  K31 k v0 v1 v2 v3 v4 v5 w) K31 v0 v1 v2 v3 (v4 + (1 : Int32)) v5 p31))))) else none))))
        else (fun (v0 : Nat) (v1 : Int32) (v2 : Int32) (v3 : Int32) (v4 : Int32) (v5 : Int32) w => f225_H57 n  K31 k v0 v1 v2 v3 v4 v5 w) v0 v1 v2 v3 v4 (v5 + (1 : Int32)) p23.2)) else none))))
set_option maxRecDepth 10000 in
theorem rf225_H57 {S : Sc} (n : Nat)  (K31 : Int32 → Wd → Option (Int32 × Wd))  (hK31 : ∀ (y4 : Int32) (w : Wd) (o : (Int32 × Wd)), K31 y4 w = some o → Rn S 225 163 [none, none, none, none, some (.int y4), none] [] w (some (.int o.1), o.2)) : ∀ (k : Nat) (v0 : Nat) (v1 : Int32) (v2 : Int32) (v3 : Int32) (v4 : Int32) (v5 : Int32) (w : Wd) (o : (Int32 × Wd)), f225_H57 n  K31 k v0 v1 v2 v3 v4 v5 w = some o → Rn S 225 57 [some (.ref v0), some (.int v1), some (.int v2), some (.int v3), some (.int v4), some (.int v5)] [] w (some (.int o.1), o.2) := by
  intro k
  induction k with
  | zero =>
    intro v0 v1 v2 v3 v4 v5 w o h
    exact nomatch h
  | succ k ih =>
    intro v0 v1 v2 v3 v4 v5 w o h
    have hrec31 : ∀ (y0 : Nat) (y1 : Int32) (y2 : Int32) (y3 : Int32) (y4 : Int32) (y5 : Int32) (w : Wd) (o : (Int32 × Wd)), (fun (v0 : Nat) (v1 : Int32) (v2 : Int32) (v3 : Int32) (v4 : Int32) (v5 : Int32) w => f225_H57 n  K31 k v0 v1 v2 v3 v4 v5 w) y0 y1 y2 y3 y4 y5 w = some o → Rn S 225 57 [some (.ref y0), some (.int y1), some (.int y2), some (.int y3), some (.int y4), some (.int y5)] [] w (some (.int o.1), o.2) := fun y0 y1 y2 y3 y4 y5 w o h => ih y0 y1 y2 y3 y4 y5 w o h
    unfold f225_H57 at h
    refine rn_iload (ft225 31 rfl) rfl ?_
    refine rn_sipush (v := (512 : Int32)) (ft225 32 rfl) (by decide) ?_
    by_cases c56 : (512 : Int32) ≤ v5
    · replace h := ifp c56 h
      refine rn_icmp_ge_t (ft225 33 rfl) c56 ?_
      exact rn_forget (ls := [none, none, none, none, some (.int v4), none]) (And.intro rfl trivial) (hK31 v4 w _ h)
    · replace h := ifn c56 h
      refine rn_icmp_ge_f (ft225 33 rfl) c56 ?_
      refine rn_aload_n (ft225 34 rfl) rfl ?_
      obtain ⟨x19, q20, h⟩ := ob_some h
      refine rn_getR (ft225 35 rfl) q20 ?_
      refine rn_iload (ft225 36 rfl) rfl ?_
      obtain ⟨p21, q22, h⟩ := ob_some h
      refine rn_callS (as := [.int v5]) (r := [.ref x19]) (v := (some (.int p21.1))) (w1 := p21.2) (ft225 37 rfl) (by decide +kernel) rfl (Nat.le_of_ble_eq_true rfl) (Nat.le_of_ble_eq_true rfl) (r20 v5 w _ q22) ?_
      obtain ⟨g55, h⟩ := ifg h
      obtain ⟨p23, q24, h⟩ := ob_some h
      refine rn_callV (as := [.int p21.1]) (k0 := x19) (r := []) (v := (some (.int p23.1))) (w1 := p23.2) (ft225 38 rfl) (by decide +kernel) rfl (Nat.le_of_ble_eq_true rfl) (Nat.le_of_ble_eq_true rfl) (r9 x19 p21.1 p21.2 _ q24) (by decide +kernel) g55 ?_
      by_cases c54 : p23.1 = 0
      · replace h := ifp c54 h
        refine rn_if_eq_t (ft225 39 rfl) c54 ?_
        refine rn_aload_n (ft225 41 rfl) rfl ?_
        obtain ⟨x25, q26, h⟩ := ob_some h
        refine rn_getR (ft225 42 rfl) q26 ?_
        refine rn_aload_n (ft225 43 rfl) rfl ?_
        obtain ⟨x27, q28, h⟩ := ob_some h
        refine rn_getR (ft225 44 rfl) q28 ?_
        refine rn_iload_n (ft225 45 rfl) rfl ?_
        obtain ⟨x29, q30, h⟩ := ob_some h
        refine rn_aaload (ft225 46 rfl) q30 ?_
        refine rn_iload (ft225 47 rfl) rfl ?_
        refine rn_sipush (v := (400 : Int32)) (ft225 48 rfl) (by decide) ?_
        refine rn_iconst (v := (-1 : Int32)) (ft225 49 rfl) (by decide) ?_
        obtain ⟨g53, h⟩ := ifg h
        obtain ⟨p31, q32, h⟩ := ob_some h
        refine rn_callV (as := [.ref x29, .int v5, .int (400 : Int32), .int (-1 : Int32)]) (k0 := x25) (r := []) (v := none) (w1 := p31) (ft225 50 rfl) (by decide +kernel) rfl (Nat.le_of_ble_eq_true rfl) (Nat.le_of_ble_eq_true rfl) (r209 n x25 x29 v5 (400 : Int32) (-1 : Int32) p23.2 _ q32) (by decide +kernel) g53 ?_
        refine rn_iload_n (ft225 51 rfl) rfl ?_
        by_cases c52 : ¬ v3 = 0
        · replace h := ifp c52 h
          refine rn_if_ne_t (ft225 52 rfl) c52 ?_
          exact rn_forget (ls := [some (.ref v0), some (.int v1), some (.int v2), some (.int v3), some (.int v4), some (.int v5)]) (And.intro rfl (And.intro rfl (And.intro rfl (And.intro rfl (And.intro rfl (And.intro rfl trivial)))))) (rf225_J119 n (fun (v0 : Nat) (v1 : Int32) (v2 : Int32) (v3 : Int32) (v4 : Int32) (v5 : Int32) w => f225_H57 n  K31 k v0 v1 v2 v3 v4 v5 w) K31 v0 v1 v2 v3 v4 v5 p31 _ hrec31 hK31 h)
        · replace h := ifn c52 h
          refine rn_if_ne_f (ft225 52 rfl) c52 ?_
          refine rn_aload_n (ft225 53 rfl) rfl ?_
          obtain ⟨x47, q48, h⟩ := ob_some h
          refine rn_getR (ft225 54 rfl) q48 ?_
          obtain ⟨x49, q50, h⟩ := ob_some h
          refine rn_getI (ft225 55 rfl) (by decide) (by decide) q50 ?_
          by_cases c51 : x49 = 0
          · replace h := ifp c51 h
            refine rn_if_eq_t (ft225 56 rfl) c51 ?_
            exact rn_forget (ls := [some (.ref v0), some (.int v1), some (.int v2), some (.int v3), some (.int v4), some (.int v5)]) (And.intro rfl (And.intro rfl (And.intro rfl (And.intro rfl (And.intro rfl (And.intro rfl trivial)))))) (rf225_J119 n (fun (v0 : Nat) (v1 : Int32) (v2 : Int32) (v3 : Int32) (v4 : Int32) (v5 : Int32) w => f225_H57 n  K31 k v0 v1 v2 v3 v4 v5 w) K31 v0 v1 v2 v3 v4 v5 p31 _ hrec31 hK31 h)
          · replace h := ifn c51 h
            refine rn_if_eq_f (ft225 56 rfl) c51 ?_
            refine rn_iinc (u := 1) (ls' := [some (.ref v0), some (.int v1), some (.int v2), some (.int v3), some (.int (v4 + (1 : Int32))), some (.int v5)]) (ft225 57 rfl) rfl (by decide) rfl ?_
            exact rn_forget (ls := [some (.ref v0), some (.int v1), some (.int v2), some (.int v3), some (.int (v4 + (1 : Int32))), some (.int v5)]) (And.intro rfl (And.intro rfl (And.intro rfl (And.intro rfl (And.intro rfl (And.intro rfl trivial)))))) (rf225_J119 n (fun (v0 : Nat) (v1 : Int32) (v2 : Int32) (v3 : Int32) (v4 : Int32) (v5 : Int32) w => f225_H57 n  K31 k v0 v1 v2 v3 v4 v5 w) K31 v0 v1 v2 v3 (v4 + (1 : Int32)) v5 p31 _ hrec31 hK31 h)
      · replace h := ifn c54 h
        refine rn_if_eq_f (ft225 39 rfl) c54 ?_
        refine rn_goto (ft225 40 rfl) ?_
        refine rn_iinc (u := 1) (ls' := [some (.ref v0), some (.int v1), some (.int v2), some (.int v3), some (.int v4), some (.int (v5 + (1 : Int32)))]) (ft225 76 rfl) rfl (by decide) rfl ?_
        refine rn_goto (ft225 77 rfl) ?_
        exact rn_forget (ls := [some (.ref v0), some (.int v1), some (.int v2), some (.int v3), some (.int v4), some (.int (v5 + (1 : Int32)))]) (And.intro rfl (And.intro rfl (And.intro rfl (And.intro rfl (And.intro rfl (And.intro rfl trivial)))))) (hrec31 v0 v1 v2 v3 v4 (v5 + (1 : Int32)) p23.2 _ h)
def f225 (n : Nat) (v0 : Nat) (v1 : Int32) (v2 : Int32) (v3 : Int32) (w : Wd) : Option (Int32 × Wd) :=
  (if (wsh w v0).map (fun q => q.1) = some 10 then ob (f98 v0 v1 w) (fun p1 => (if ¬ p1.1 = 0 then some ((-1000001 : Int32), p1.2)
    else ob (f10 v2 p1.2) (fun p3 => (if p3.1 = 0 then ob (f0 v3 (0 : Int32) (2 : Int32) p3.2) (fun p5 => (if p5.1 = 0 then ob (getR p5.2 10 v0 9) (fun x7 => (if (wsh p5.2 x7).map (fun q => q.1) = some 2 then ob (f208 n x7 p5.2) (fun p9 => ob (getR p9 10 v0 10) (fun x11 => ob (getR p9 10 v0 4) (fun x13 => ob (aldR p9 x13 v1) (fun x15 => (if (wsh p9 x11).map (fun q => q.1) = some 0 then ob (f99 n x11 x15 (0 : Int32) p9) (fun p17 => f225_H57 n  (fun (e4_57 : Int32) (w57 : Wd) => some (e4_57, w57)) n v0 v1 v2 v3 (0 : Int32) (0 : Int32) p17) else none))))) else none))
        else some ((-1000002 : Int32), p5.2)))
      else some ((-1000001 : Int32), p3.2))))) else none)
set_option maxRecDepth 10000 in
theorem r225 {S : Sc} (n : Nat) (v0 : Nat) (v1 : Int32) (v2 : Int32) (v3 : Int32) (w : Wd) (o : (Int32 × Wd)) (h : f225 n v0 v1 v2 v3 w = some o) : Rn S 225 0 [some (.ref v0), some (.int v1), some (.int v2), some (.int v3), none, none] [] w (some (.int o.1), o.2) := by
  unfold f225 at h
  refine rn_aload_n (ft225 0 rfl) rfl ?_
  refine rn_iload_n (ft225 1 rfl) rfl ?_
  obtain ⟨g63, h⟩ := ifg h
  obtain ⟨p1, q2, h⟩ := ob_some h
  refine rn_callV (as := [.int v1]) (k0 := v0) (r := []) (v := (some (.int p1.1))) (w1 := p1.2) (ft225 2 rfl) (by decide +kernel) rfl (Nat.le_of_ble_eq_true rfl) (Nat.le_of_ble_eq_true rfl) (r98 v0 v1 w _ q2) (by decide +kernel) g63 ?_
  by_cases c62 : ¬ p1.1 = 0
  · replace h := ifp c62 h
    refine rn_if_ne_t (ft225 3 rfl) c62 ?_
    refine rn_ldc (v := (-1000001 : Int32)) (ft225 7 rfl) (by decide) rfl ?_
    cases h
    exact rn_iretI pr225 (ft225 8 rfl)
  · replace h := ifn c62 h
    refine rn_if_ne_f (ft225 3 rfl) c62 ?_
    refine rn_iload_n (ft225 4 rfl) rfl ?_
    obtain ⟨p3, q4, h⟩ := ob_some h
    refine rn_callS (as := [.int v2]) (r := []) (v := (some (.int p3.1))) (w1 := p3.2) (ft225 5 rfl) (by decide +kernel) rfl (Nat.le_of_ble_eq_true rfl) (Nat.le_of_ble_eq_true rfl) (r10 v2 p1.2 _ q4) ?_
    by_cases c61 : p3.1 = 0
    · replace h := ifp c61 h
      refine rn_if_eq_t (ft225 6 rfl) c61 ?_
      refine rn_iload_n (ft225 9 rfl) rfl ?_
      refine rn_iconst (v := (0 : Int32)) (ft225 10 rfl) (by decide) ?_
      refine rn_iconst (v := (2 : Int32)) (ft225 11 rfl) (by decide) ?_
      obtain ⟨p5, q6, h⟩ := ob_some h
      refine rn_callS (as := [.int v3, .int (0 : Int32), .int (2 : Int32)]) (r := []) (v := (some (.int p5.1))) (w1 := p5.2) (ft225 12 rfl) (by decide +kernel) rfl (Nat.le_of_ble_eq_true rfl) (Nat.le_of_ble_eq_true rfl) (r0 v3 (0 : Int32) (2 : Int32) p3.2 _ q6) ?_
      by_cases c60 : p5.1 = 0
      · replace h := ifp c60 h
        refine rn_if_eq_t (ft225 13 rfl) c60 ?_
        refine rn_aload_n (ft225 16 rfl) rfl ?_
        obtain ⟨x7, q8, h⟩ := ob_some h
        refine rn_getR (ft225 17 rfl) q8 ?_
        obtain ⟨g59, h⟩ := ifg h
        obtain ⟨p9, q10, h⟩ := ob_some h
        refine rn_callV (as := []) (k0 := x7) (r := []) (v := none) (w1 := p9) (ft225 18 rfl) (by decide +kernel) rfl (Nat.le_of_ble_eq_true rfl) (Nat.le_of_ble_eq_true rfl) (r208 n x7 p5.2 _ q10) (by decide +kernel) g59 ?_
        refine rn_aload_n (ft225 19 rfl) rfl ?_
        obtain ⟨x11, q12, h⟩ := ob_some h
        refine rn_getR (ft225 20 rfl) q12 ?_
        refine rn_aload_n (ft225 21 rfl) rfl ?_
        obtain ⟨x13, q14, h⟩ := ob_some h
        refine rn_getR (ft225 22 rfl) q14 ?_
        refine rn_iload_n (ft225 23 rfl) rfl ?_
        obtain ⟨x15, q16, h⟩ := ob_some h
        refine rn_aaload (ft225 24 rfl) q16 ?_
        refine rn_iconst (v := (0 : Int32)) (ft225 25 rfl) (by decide) ?_
        obtain ⟨g58, h⟩ := ifg h
        obtain ⟨p17, q18, h⟩ := ob_some h
        refine rn_callV (as := [.ref x15, .int (0 : Int32)]) (k0 := x11) (r := []) (v := none) (w1 := p17) (ft225 26 rfl) (by decide +kernel) rfl (Nat.le_of_ble_eq_true rfl) (Nat.le_of_ble_eq_true rfl) (r99 n x11 x15 (0 : Int32) p9 _ q18) (by decide +kernel) g58 ?_
        refine rn_iconst (v := (0 : Int32)) (ft225 27 rfl) (by decide) ?_
        refine rn_istore (ls' := [some (.ref v0), some (.int v1), some (.int v2), some (.int v3), some (.int (0 : Int32)), none]) (ft225 28 rfl) rfl ?_
        refine rn_iconst (v := (0 : Int32)) (ft225 29 rfl) (by decide) ?_
        refine rn_istore (ls' := [some (.ref v0), some (.int v1), some (.int v2), some (.int v3), some (.int (0 : Int32)), some (.int (0 : Int32))]) (ft225 30 rfl) rfl ?_
        refine rn_forget (ls := [some (.ref v0), some (.int v1), some (.int v2), some (.int v3), some (.int (0 : Int32)), some (.int (0 : Int32))]) (And.intro rfl (And.intro rfl (And.intro rfl (And.intro rfl (And.intro rfl (And.intro rfl trivial)))))) (rf225_H57 n  _  (fun e4_57 w57 o h => ?_) n v0 v1 v2 v3 (0 : Int32) (0 : Int32) p17 _ h)
        refine rn_iload (ft225 78 rfl) rfl ?_
        cases h
        exact rn_iretI pr225 (ft225 79 rfl)
      · replace h := ifn c60 h
        refine rn_if_eq_f (ft225 13 rfl) c60 ?_
        refine rn_ldc (v := (-1000002 : Int32)) (ft225 14 rfl) (by decide) rfl ?_
        cases h
        exact rn_iretI pr225 (ft225 15 rfl)
    · replace h := ifn c61 h
      refine rn_if_eq_f (ft225 6 rfl) c61 ?_
      refine rn_ldc (v := (-1000001 : Int32)) (ft225 7 rfl) (by decide) rfl ?_
      cases h
      exact rn_iretI pr225 (ft225 8 rfl)
/-- NineWheelModel.takeClause()I -/
theorem ft226 : ∀ (i : Nat) {q : Nat × XI}, cd226[i]? = some q → fetch 226 q.1 = some q.2 := ft_of (by decide +kernel)
theorem pr226 : pRt 226 = some .int := rfl
def f226_J58 (n : Nat)  (v1 : Int32) (s0 : Nat) (s1 : Int32) (w : Wd) : Option (Int32 × Wd) :=
  (if (wsh w s0).map (fun q => q.1) = some 11 then ob (f46 s0 s1 v1 w) (fun p7 => some (p7.1, p7.2)) else none)
set_option maxRecDepth 10000 in
theorem rf226_J58 {S : Sc} (n : Nat)  (v1 : Int32) (s0 : Nat) (s1 : Int32) (w : Wd) (o : (Int32 × Wd))  (h : f226_J58 n  v1 s0 s1 w = some o) : Rn S 226 58 [none, some (.int v1), none, none, none, none] [.int s1, .ref s0] w (some (.int o.1), o.2) := by
  unfold f226_J58 at h
  refine rn_iload_n (ft226 32 rfl) rfl ?_
  obtain ⟨g9, h⟩ := ifg h
  obtain ⟨p7, q8, h⟩ := ob_some h
  refine rn_callV (as := [.int s1, .int v1]) (k0 := s0) (r := []) (v := (some (.int p7.1))) (w1 := p7.2) (ft226 33 rfl) (by decide +kernel) rfl (Nat.le_of_ble_eq_true rfl) (Nat.le_of_ble_eq_true rfl) (r46 s0 s1 v1 w _ q8) (by decide +kernel) g9 ?_
  cases h
  exact rn_iretI pr226 (ft226 34 rfl)
def f226_J48 (n : Nat)  (v0 : Nat) (v1 : Int32) (v2 : Int32) (w : Wd) : Option (Int32 × Wd) :=
  (if 0 ≤ v2 then f226_J58 n  v1 v0 (3 : Int32) w
    else f226_J58 n  v1 v0 (1 : Int32) w)
set_option maxRecDepth 10000 in
theorem rf226_J48 {S : Sc} (n : Nat)  (v0 : Nat) (v1 : Int32) (v2 : Int32) (w : Wd) (o : (Int32 × Wd))  (h : f226_J48 n  v0 v1 v2 w = some o) : Rn S 226 48 [some (.ref v0), some (.int v1), some (.int v2), none, none, none] [] w (some (.int o.1), o.2) := by
  unfold f226_J48 at h
  refine rn_aload_n (ft226 26 rfl) rfl ?_
  refine rn_iload_n (ft226 27 rfl) rfl ?_
  by_cases c10 : 0 ≤ v2
  · replace h := ifp c10 h
    refine rn_if_ge_t (ft226 28 rfl) c10 ?_
    refine rn_iconst (v := (3 : Int32)) (ft226 31 rfl) (by decide) ?_
    exact rn_forget (ls := [none, some (.int v1), none, none, none, none]) (And.intro rfl trivial) (rf226_J58 n  v1 v0 (3 : Int32) w _  h)
  · replace h := ifn c10 h
    refine rn_if_ge_f (ft226 28 rfl) c10 ?_
    refine rn_iconst (v := (1 : Int32)) (ft226 29 rfl) (by decide) ?_
    refine rn_goto (ft226 30 rfl) ?_
    exact rn_forget (ls := [none, some (.int v1), none, none, none, none]) (And.intro rfl trivial) (rf226_J58 n  v1 v0 (1 : Int32) w _  h)
def f226_J271 (n : Nat)  (v0 : Nat) (v4 : Int32) (w : Wd) : Option (Int32 × Wd) :=
  (if v4 ≤ 0 then (if (wsh w v0).map (fun q => q.1) = some 11 then ob (f115 n v0 w) (fun p39 => some (p39.1, p39.2)) else none)
    else some (v4, w))
set_option maxRecDepth 10000 in
theorem rf226_J271 {S : Sc} (n : Nat)  (v0 : Nat) (v4 : Int32) (w : Wd) (o : (Int32 × Wd))  (h : f226_J271 n  v0 v4 w = some o) : Rn S 226 271 [some (.ref v0), none, none, none, some (.int v4), none] [] w (some (.int o.1), o.2) := by
  unfold f226_J271 at h
  refine rn_iload (ft226 140 rfl) rfl ?_
  by_cases c42 : v4 ≤ 0
  · replace h := ifp c42 h
    refine rn_if_le_t (ft226 141 rfl) c42 ?_
    refine rn_aload_n (ft226 144 rfl) rfl ?_
    obtain ⟨g41, h⟩ := ifg h
    obtain ⟨p39, q40, h⟩ := ob_some h
    refine rn_callV (as := []) (k0 := v0) (r := []) (v := (some (.int p39.1))) (w1 := p39.2) (ft226 145 rfl) (by decide +kernel) rfl (Nat.le_of_ble_eq_true rfl) (Nat.le_of_ble_eq_true rfl) (r115 n v0 w _ q40) (by decide +kernel) g41 ?_
    cases h
    exact rn_iretI pr226 (ft226 146 rfl)
  · replace h := ifn c42 h
    refine rn_if_le_f (ft226 141 rfl) c42 ?_
    refine rn_iload (ft226 142 rfl) rfl ?_
    refine rn_goto (ft226 143 rfl) ?_
    cases h
    exact rn_iretI pr226 (ft226 146 rfl)
def f226_J249 (n : Nat)  (v0 : Nat) (v2 : Int32) (v4 : Int32) (s0 : Nat) (s1 : Int32) (w : Wd) : Option (Int32 × Wd) :=
  ob (putI w 11 s0 25 s1) (fun w33 => (if ¬ v2 = 0 then ob (getI w33 11 v0 20) (fun x35 => ob (putI w33 11 v0 26 x35) (fun w37 => f226_J271 n  v0 v4 w37))
    else ob (getI w33 11 v0 26) (fun x43 => ob (putI w33 11 v0 26 x43) (fun w45 => f226_J271 n  v0 v4 w45))))
set_option maxRecDepth 10000 in
theorem rf226_J249 {S : Sc} (n : Nat)  (v0 : Nat) (v2 : Int32) (v4 : Int32) (s0 : Nat) (s1 : Int32) (w : Wd) (o : (Int32 × Wd))  (h : f226_J249 n  v0 v2 v4 s0 s1 w = some o) : Rn S 226 249 [some (.ref v0), none, some (.int v2), none, some (.int v4), none] [.int s1, .ref s0] w (some (.int o.1), o.2) := by
  unfold f226_J249 at h
  obtain ⟨w33, q34, h⟩ := ob_some h
  refine rn_putI (ft226 130 rfl) q34 ?_
  refine rn_aload_n (ft226 131 rfl) rfl ?_
  refine rn_iload_n (ft226 132 rfl) rfl ?_
  by_cases c47 : ¬ v2 = 0
  · replace h := ifp c47 h
    refine rn_if_ne_t (ft226 133 rfl) c47 ?_
    refine rn_aload_n (ft226 137 rfl) rfl ?_
    obtain ⟨x35, q36, h⟩ := ob_some h
    refine rn_getI (ft226 138 rfl) (by decide) (by decide) q36 ?_
    obtain ⟨w37, q38, h⟩ := ob_some h
    refine rn_putI (ft226 139 rfl) q38 ?_
    exact rn_forget (ls := [some (.ref v0), none, none, none, some (.int v4), none]) (And.intro rfl (And.intro rfl trivial)) (rf226_J271 n  v0 v4 w37 _  h)
  · replace h := ifn c47 h
    refine rn_if_ne_f (ft226 133 rfl) c47 ?_
    refine rn_aload_n (ft226 134 rfl) rfl ?_
    obtain ⟨x43, q44, h⟩ := ob_some h
    refine rn_getI (ft226 135 rfl) (by decide) (by decide) q44 ?_
    refine rn_goto (ft226 136 rfl) ?_
    obtain ⟨w45, q46, h⟩ := ob_some h
    refine rn_putI (ft226 139 rfl) q46 ?_
    exact rn_forget (ls := [some (.ref v0), none, none, none, some (.int v4), none]) (And.intro rfl (And.intro rfl trivial)) (rf226_J271 n  v0 v4 w45 _  h)
def f226_J232 (n : Nat)  (v0 : Nat) (v2 : Int32) (v4 : Int32) (v5 : Int32) (s0 : Nat) (s1 : Int32) (w : Wd) : Option (Int32 × Wd) :=
  ob (putI w 11 s0 23 s1) (fun w31 => (if ¬ v2 = 0 then f226_J249 n  v0 v2 v4 v0 v5 w31
    else ob (getI w31 11 v0 25) (fun x48 => f226_J249 n  v0 v2 v4 v0 x48 w31)))
set_option maxRecDepth 10000 in
theorem rf226_J232 {S : Sc} (n : Nat)  (v0 : Nat) (v2 : Int32) (v4 : Int32) (v5 : Int32) (s0 : Nat) (s1 : Int32) (w : Wd) (o : (Int32 × Wd))  (h : f226_J232 n  v0 v2 v4 v5 s0 s1 w = some o) : Rn S 226 232 [some (.ref v0), none, some (.int v2), none, some (.int v4), some (.int v5)] [.int s1, .ref s0] w (some (.int o.1), o.2) := by
  unfold f226_J232 at h
  obtain ⟨w31, q32, h⟩ := ob_some h
  refine rn_putI (ft226 122 rfl) q32 ?_
  refine rn_aload_n (ft226 123 rfl) rfl ?_
  refine rn_iload_n (ft226 124 rfl) rfl ?_
  by_cases c50 : ¬ v2 = 0
  · replace h := ifp c50 h
    refine rn_if_ne_t (ft226 125 rfl) c50 ?_
    refine rn_iload (ft226 129 rfl) rfl ?_
    exact rn_forget (ls := [some (.ref v0), none, some (.int v2), none, some (.int v4), none]) (And.intro rfl (And.intro rfl (And.intro rfl trivial))) (rf226_J249 n  v0 v2 v4 v0 v5 w31 _  h)
  · replace h := ifn c50 h
    refine rn_if_ne_f (ft226 125 rfl) c50 ?_
    refine rn_aload_n (ft226 126 rfl) rfl ?_
    obtain ⟨x48, q49, h⟩ := ob_some h
    refine rn_getI (ft226 127 rfl) (by decide) (by decide) q49 ?_
    refine rn_goto (ft226 128 rfl) ?_
    exact rn_forget (ls := [some (.ref v0), none, some (.int v2), none, some (.int v4), none]) (And.intro rfl (And.intro rfl (And.intro rfl trivial))) (rf226_J249 n  v0 v2 v4 v0 x48 w31 _  h)
def f226_J213 (n : Nat)  (v0 : Nat) (v2 : Int32) (v4 : Int32) (v5 : Int32) (s0 : Nat) (s1 : Int32) (w : Wd) : Option (Int32 × Wd) :=
  ob (putI w 11 s0 22 s1) (fun w27 => (if ¬ v2 = 0 then ob (getI w27 11 v0 23) (fun x29 => f226_J232 n  v0 v2 v4 v5 v0 x29 w27)
    else ob (getI w27 11 v0 20) (fun x51 => f226_J232 n  v0 v2 v4 v5 v0 x51 w27)))
set_option maxRecDepth 10000 in
theorem rf226_J213 {S : Sc} (n : Nat)  (v0 : Nat) (v2 : Int32) (v4 : Int32) (v5 : Int32) (s0 : Nat) (s1 : Int32) (w : Wd) (o : (Int32 × Wd))  (h : f226_J213 n  v0 v2 v4 v5 s0 s1 w = some o) : Rn S 226 213 [some (.ref v0), none, some (.int v2), none, some (.int v4), some (.int v5)] [.int s1, .ref s0] w (some (.int o.1), o.2) := by
  unfold f226_J213 at h
  obtain ⟨w27, q28, h⟩ := ob_some h
  refine rn_putI (ft226 113 rfl) q28 ?_
  refine rn_aload_n (ft226 114 rfl) rfl ?_
  refine rn_iload_n (ft226 115 rfl) rfl ?_
  by_cases c53 : ¬ v2 = 0
  · replace h := ifp c53 h
    refine rn_if_ne_t (ft226 116 rfl) c53 ?_
    refine rn_aload_n (ft226 120 rfl) rfl ?_
    obtain ⟨x29, q30, h⟩ := ob_some h
    refine rn_getI (ft226 121 rfl) (by decide) (by decide) q30 ?_
    exact rn_forget (ls := [some (.ref v0), none, some (.int v2), none, some (.int v4), some (.int v5)]) (And.intro rfl (And.intro rfl (And.intro rfl (And.intro rfl trivial)))) (rf226_J232 n  v0 v2 v4 v5 v0 x29 w27 _  h)
  · replace h := ifn c53 h
    refine rn_if_ne_f (ft226 116 rfl) c53 ?_
    refine rn_aload_n (ft226 117 rfl) rfl ?_
    obtain ⟨x51, q52, h⟩ := ob_some h
    refine rn_getI (ft226 118 rfl) (by decide) (by decide) q52 ?_
    refine rn_goto (ft226 119 rfl) ?_
    exact rn_forget (ls := [some (.ref v0), none, some (.int v2), none, some (.int v4), some (.int v5)]) (And.intro rfl (And.intro rfl (And.intro rfl (And.intro rfl trivial)))) (rf226_J232 n  v0 v2 v4 v5 v0 x51 w27 _  h)
def f226_J197 (n : Nat)  (v0 : Nat) (v2 : Int32) (v5 : Int32) (s0 : Int32) (w : Wd) : Option (Int32 × Wd) :=
  (if ¬ v2 = 0 then ob (getI w 11 v0 22) (fun x25 => f226_J213 n  v0 v2 s0 v5 v0 x25 w)
    else f226_J213 n  v0 v2 s0 v5 v0 v5 w)
set_option maxRecDepth 10000 in
theorem rf226_J197 {S : Sc} (n : Nat)  (v0 : Nat) (v2 : Int32) (v5 : Int32) (s0 : Int32) (w : Wd) (o : (Int32 × Wd))  (h : f226_J197 n  v0 v2 v5 s0 w = some o) : Rn S 226 197 [some (.ref v0), none, some (.int v2), none, none, some (.int v5)] [.int s0] w (some (.int o.1), o.2) := by
  unfold f226_J197 at h
  refine rn_istore (ls' := [some (.ref v0), none, some (.int v2), none, some (.int s0), some (.int v5)]) (ft226 105 rfl) rfl ?_
  refine rn_aload_n (ft226 106 rfl) rfl ?_
  refine rn_iload_n (ft226 107 rfl) rfl ?_
  by_cases c54 : ¬ v2 = 0
  · replace h := ifp c54 h
    refine rn_if_ne_t (ft226 108 rfl) c54 ?_
    refine rn_aload_n (ft226 111 rfl) rfl ?_
    obtain ⟨x25, q26, h⟩ := ob_some h
    refine rn_getI (ft226 112 rfl) (by decide) (by decide) q26 ?_
    exact rn_forget (ls := [some (.ref v0), none, some (.int v2), none, some (.int s0), some (.int v5)]) (And.intro rfl (And.intro rfl (And.intro rfl (And.intro rfl trivial)))) (rf226_J213 n  v0 v2 s0 v5 v0 x25 w _  h)
  · replace h := ifn c54 h
    refine rn_if_ne_f (ft226 108 rfl) c54 ?_
    refine rn_iload (ft226 109 rfl) rfl ?_
    refine rn_goto (ft226 110 rfl) ?_
    exact rn_forget (ls := [some (.ref v0), none, some (.int v2), none, some (.int s0), some (.int v5)]) (And.intro rfl (And.intro rfl (And.intro rfl (And.intro rfl trivial)))) (rf226_J213 n  v0 v2 s0 v5 v0 v5 w _  h)
def f226_J194 (n : Nat)  (v0 : Nat) (v2 : Int32) (v5 : Int32) (s0 : Nat) (s1 : Int32) (s2 : Int32) (w : Wd) : Option (Int32 × Wd) :=
  (if (wsh w s0).map (fun q => q.1) = some 11 then ob (f161 n s0 s1 s2 w) (fun p23 => f226_J197 n  v0 v2 v5 p23.1 p23.2) else none)
set_option maxRecDepth 10000 in
theorem rf226_J194 {S : Sc} (n : Nat)  (v0 : Nat) (v2 : Int32) (v5 : Int32) (s0 : Nat) (s1 : Int32) (s2 : Int32) (w : Wd) (o : (Int32 × Wd))  (h : f226_J194 n  v0 v2 v5 s0 s1 s2 w = some o) : Rn S 226 194 [some (.ref v0), none, some (.int v2), none, none, some (.int v5)] [.int s2, .int s1, .ref s0] w (some (.int o.1), o.2) := by
  unfold f226_J194 at h
  obtain ⟨g55, h⟩ := ifg h
  obtain ⟨p23, q24, h⟩ := ob_some h
  refine rn_callV (as := [.int s1, .int s2]) (k0 := s0) (r := []) (v := (some (.int p23.1))) (w1 := p23.2) (ft226 104 rfl) (by decide +kernel) rfl (Nat.le_of_ble_eq_true rfl) (Nat.le_of_ble_eq_true rfl) (r161 n s0 s1 s2 w _ q24) (by decide +kernel) g55 ?_
  exact rn_forget (ls := [some (.ref v0), none, some (.int v2), none, none, some (.int v5)]) (And.intro rfl (And.intro rfl (And.intro rfl trivial))) (rf226_J197 n  v0 v2 v5 p23.1 p23.2 _  h)
def f226_J183 (n : Nat)  (v0 : Nat) (v2 : Int32) (v5 : Int32) (s0 : Nat) (s1 : Int32) (w : Wd) : Option (Int32 × Wd) :=
  (if ¬ v2 = 0 then f226_J194 n  v0 v2 v5 s0 s1 (9 : Int32) w
    else f226_J194 n  v0 v2 v5 s0 s1 (7 : Int32) w)
set_option maxRecDepth 10000 in
theorem rf226_J183 {S : Sc} (n : Nat)  (v0 : Nat) (v2 : Int32) (v5 : Int32) (s0 : Nat) (s1 : Int32) (w : Wd) (o : (Int32 × Wd))  (h : f226_J183 n  v0 v2 v5 s0 s1 w = some o) : Rn S 226 183 [some (.ref v0), none, some (.int v2), none, none, some (.int v5)] [.int s1, .ref s0] w (some (.int o.1), o.2) := by
  unfold f226_J183 at h
  refine rn_iload_n (ft226 99 rfl) rfl ?_
  by_cases c56 : ¬ v2 = 0
  · replace h := ifp c56 h
    refine rn_if_ne_t (ft226 100 rfl) c56 ?_
    refine rn_bipush (v := (9 : Int32)) (ft226 103 rfl) (by decide) ?_
    exact rn_forget (ls := [some (.ref v0), none, some (.int v2), none, none, some (.int v5)]) (And.intro rfl (And.intro rfl (And.intro rfl trivial))) (rf226_J194 n  v0 v2 v5 s0 s1 (9 : Int32) w _  h)
  · replace h := ifn c56 h
    refine rn_if_ne_f (ft226 100 rfl) c56 ?_
    refine rn_bipush (v := (7 : Int32)) (ft226 101 rfl) (by decide) ?_
    refine rn_goto (ft226 102 rfl) ?_
    exact rn_forget (ls := [some (.ref v0), none, some (.int v2), none, none, some (.int v5)]) (And.intro rfl (And.intro rfl (And.intro rfl trivial))) (rf226_J194 n  v0 v2 v5 s0 s1 (7 : Int32) w _  h)
def f226_J152 (n : Nat)  (v0 : Nat) (v2 : Int32) (s0 : Nat) (s1 : Int32) (s2 : Int32) (w : Wd) : Option (Int32 × Wd) :=
  (if (wsh w s0).map (fun q => q.1) = some 11 then ob (f161 n s0 s1 s2 w) (fun p19 => ob (getI p19.2 11 v0 20) (fun x21 => (if p19.1 ≤ 0 then (if ¬ v2 = 0 then f226_J183 n  v0 v2 x21 v0 (1 : Int32) p19.2
      else f226_J183 n  v0 v2 x21 v0 (0 : Int32) p19.2)
    else f226_J197 n  v0 v2 x21 p19.1 p19.2))) else none)
set_option maxRecDepth 10000 in
theorem rf226_J152 {S : Sc} (n : Nat)  (v0 : Nat) (v2 : Int32) (s0 : Nat) (s1 : Int32) (s2 : Int32) (w : Wd) (o : (Int32 × Wd))  (h : f226_J152 n  v0 v2 s0 s1 s2 w = some o) : Rn S 226 152 [some (.ref v0), none, some (.int v2), none, none, none] [.int s2, .int s1, .ref s0] w (some (.int o.1), o.2) := by
  unfold f226_J152 at h
  obtain ⟨g59, h⟩ := ifg h
  obtain ⟨p19, q20, h⟩ := ob_some h
  refine rn_callV (as := [.int s1, .int s2]) (k0 := s0) (r := []) (v := (some (.int p19.1))) (w1 := p19.2) (ft226 84 rfl) (by decide +kernel) rfl (Nat.le_of_ble_eq_true rfl) (Nat.le_of_ble_eq_true rfl) (r161 n s0 s1 s2 w _ q20) (by decide +kernel) g59 ?_
  refine rn_istore (ls' := [some (.ref v0), none, some (.int v2), none, some (.int p19.1), none]) (ft226 85 rfl) rfl ?_
  refine rn_aload_n (ft226 86 rfl) rfl ?_
  obtain ⟨x21, q22, h⟩ := ob_some h
  refine rn_getI (ft226 87 rfl) (by decide) (by decide) q22 ?_
  refine rn_istore (ls' := [some (.ref v0), none, some (.int v2), none, some (.int p19.1), some (.int x21)]) (ft226 88 rfl) rfl ?_
  refine rn_iload (ft226 89 rfl) rfl ?_
  by_cases c58 : p19.1 ≤ 0
  · replace h := ifp c58 h
    refine rn_if_le_t (ft226 90 rfl) c58 ?_
    refine rn_aload_n (ft226 93 rfl) rfl ?_
    refine rn_iload_n (ft226 94 rfl) rfl ?_
    by_cases c57 : ¬ v2 = 0
    · replace h := ifp c57 h
      refine rn_if_ne_t (ft226 95 rfl) c57 ?_
      refine rn_iconst (v := (1 : Int32)) (ft226 98 rfl) (by decide) ?_
      exact rn_forget (ls := [some (.ref v0), none, some (.int v2), none, none, some (.int x21)]) (And.intro rfl (And.intro rfl (And.intro rfl trivial))) (rf226_J183 n  v0 v2 x21 v0 (1 : Int32) p19.2 _  h)
    · replace h := ifn c57 h
      refine rn_if_ne_f (ft226 95 rfl) c57 ?_
      refine rn_iconst (v := (0 : Int32)) (ft226 96 rfl) (by decide) ?_
      refine rn_goto (ft226 97 rfl) ?_
      exact rn_forget (ls := [some (.ref v0), none, some (.int v2), none, none, some (.int x21)]) (And.intro rfl (And.intro rfl (And.intro rfl trivial))) (rf226_J183 n  v0 v2 x21 v0 (0 : Int32) p19.2 _  h)
  · replace h := ifn c58 h
    refine rn_if_le_f (ft226 90 rfl) c58 ?_
    refine rn_iload (ft226 91 rfl) rfl ?_
    refine rn_goto (ft226 92 rfl) ?_
    exact rn_forget (ls := [some (.ref v0), none, some (.int v2), none, none, some (.int x21)]) (And.intro rfl (And.intro rfl (And.intro rfl trivial))) (rf226_J197 n  v0 v2 x21 p19.1 p19.2 _  h)
def f226_J39 (n : Nat)  (v0 : Nat) (v1 : Int32) (v2 : Int32) (s0 : Int32) (w : Wd) : Option (Int32 × Wd) :=
  (if v2 < 0 then f226_J48 n  v0 v1 v2 w
    else (if s0 = 0 then ob (getI w 11 v0 33) (fun x11 => ob (putI w 11 v0 33 (x11 ||| ((1 : Int32) <<< (v2 &&& 31)))) (fun w13 => ob (getI w13 11 v0 19) (fun x15 => ob (putI w13 11 v0 17 x15) (fun w17 => (if ¬ v2 = (1 : Int32) then (if ¬ v2 = (4 : Int32) then (if ¬ v2 = (3 : Int32) then (if ¬ v2 = 0 then f226_J152 n  v0 v2 v0 (0 : Int32) (7 : Int32) w17
              else f226_J152 n  v0 v2 v0 (0 : Int32) (63 : Int32) w17)
            else (if (wsh w17 v0).map (fun q => q.1) = some 11 then ob (f161 n v0 (0 : Int32) (2 : Int32) w17) (fun p61 => ob (getI p61.2 11 v0 20) (fun x63 => ob (putI p61.2 11 v0 27 x63) (fun w65 => f226_J271 n  v0 p61.1 w65))) else none))
          else (if (wsh w17 v0).map (fun q => q.1) = some 11 then ob (f211 n v0 v1 w17) (fun p69 => f226_J271 n  v0 p69.1 p69.2) else none))
        else (if (wsh w17 v0).map (fun q => q.1) = some 11 then ob (f201 n v0 w17) (fun p73 => f226_J271 n  v0 p73.1 p73.2) else none))))))
      else f226_J48 n  v0 v1 v2 w))
set_option maxRecDepth 10000 in
theorem rf226_J39 {S : Sc} (n : Nat)  (v0 : Nat) (v1 : Int32) (v2 : Int32) (s0 : Int32) (w : Wd) (o : (Int32 × Wd))  (h : f226_J39 n  v0 v1 v2 s0 w = some o) : Rn S 226 39 [some (.ref v0), some (.int v1), some (.int v2), none, none, none] [.int s0] w (some (.int o.1), o.2) := by
  unfold f226_J39 at h
  refine rn_istore_n (ls' := [some (.ref v0), some (.int v1), some (.int v2), some (.int s0), none, none]) (ft226 21 rfl) rfl ?_
  refine rn_iload_n (ft226 22 rfl) rfl ?_
  by_cases c78 : v2 < 0
  · replace h := ifp c78 h
    refine rn_if_lt_t (ft226 23 rfl) c78 ?_
    exact rn_forget (ls := [some (.ref v0), some (.int v1), some (.int v2), none, none, none]) (And.intro rfl (And.intro rfl (And.intro rfl trivial))) (rf226_J48 n  v0 v1 v2 w _  h)
  · replace h := ifn c78 h
    refine rn_if_lt_f (ft226 23 rfl) c78 ?_
    refine rn_iload_n (ft226 24 rfl) rfl ?_
    by_cases c77 : s0 = 0
    · replace h := ifp c77 h
      refine rn_if_eq_t (ft226 25 rfl) c77 ?_
      refine rn_aload_n (ft226 35 rfl) rfl ?_
      refine rn_dup (ft226 36 rfl) rfl ?_
      obtain ⟨x11, q12, h⟩ := ob_some h
      refine rn_getI (ft226 37 rfl) (by decide) (by decide) q12 ?_
      refine rn_iconst (v := (1 : Int32)) (ft226 38 rfl) (by decide) ?_
      refine rn_iload_n (ft226 39 rfl) rfl ?_
      refine rn_ishl (ft226 40 rfl) ?_
      refine rn_ior (ft226 41 rfl) ?_
      obtain ⟨w13, q14, h⟩ := ob_some h
      refine rn_putI (ft226 42 rfl) q14 ?_
      refine rn_aload_n (ft226 43 rfl) rfl ?_
      refine rn_aload_n (ft226 44 rfl) rfl ?_
      obtain ⟨x15, q16, h⟩ := ob_some h
      refine rn_getI (ft226 45 rfl) (by decide) (by decide) q16 ?_
      obtain ⟨w17, q18, h⟩ := ob_some h
      refine rn_putI (ft226 46 rfl) q18 ?_
      refine rn_iconst (v := (0 : Int32)) (ft226 47 rfl) (by decide) ?_
      refine rn_istore (ls' := [some (.ref v0), some (.int v1), some (.int v2), some (.int s0), some (.int (0 : Int32)), none]) (ft226 48 rfl) rfl ?_
      refine rn_iload_n (ft226 49 rfl) rfl ?_
      refine rn_iconst (v := (1 : Int32)) (ft226 50 rfl) (by decide) ?_
      by_cases c76 : ¬ v2 = (1 : Int32)
      · replace h := ifp c76 h
        refine rn_icmp_ne_t (ft226 51 rfl) c76 ?_
        refine rn_iload_n (ft226 56 rfl) rfl ?_
        refine rn_iconst (v := (4 : Int32)) (ft226 57 rfl) (by decide) ?_
        by_cases c72 : ¬ v2 = (4 : Int32)
        · replace h := ifp c72 h
          refine rn_icmp_ne_t (ft226 58 rfl) c72 ?_
          refine rn_iload_n (ft226 64 rfl) rfl ?_
          refine rn_iconst (v := (3 : Int32)) (ft226 65 rfl) (by decide) ?_
          by_cases c68 : ¬ v2 = (3 : Int32)
          · replace h := ifp c68 h
            refine rn_icmp_ne_t (ft226 66 rfl) c68 ?_
            refine rn_aload_n (ft226 77 rfl) rfl ?_
            refine rn_iconst (v := (0 : Int32)) (ft226 78 rfl) (by decide) ?_
            refine rn_iload_n (ft226 79 rfl) rfl ?_
            by_cases c60 : ¬ v2 = 0
            · replace h := ifp c60 h
              refine rn_if_ne_t (ft226 80 rfl) c60 ?_
              refine rn_bipush (v := (7 : Int32)) (ft226 83 rfl) (by decide) ?_
              exact rn_forget (ls := [some (.ref v0), none, some (.int v2), none, none, none]) (And.intro rfl (And.intro rfl trivial)) (rf226_J152 n  v0 v2 v0 (0 : Int32) (7 : Int32) w17 _  h)
            · replace h := ifn c60 h
              refine rn_if_ne_f (ft226 80 rfl) c60 ?_
              refine rn_bipush (v := (63 : Int32)) (ft226 81 rfl) (by decide) ?_
              refine rn_goto (ft226 82 rfl) ?_
              exact rn_forget (ls := [some (.ref v0), none, some (.int v2), none, none, none]) (And.intro rfl (And.intro rfl trivial)) (rf226_J152 n  v0 v2 v0 (0 : Int32) (63 : Int32) w17 _  h)
          · replace h := ifn c68 h
            refine rn_icmp_ne_f (ft226 66 rfl) c68 ?_
            refine rn_aload_n (ft226 67 rfl) rfl ?_
            refine rn_iconst (v := (0 : Int32)) (ft226 68 rfl) (by decide) ?_
            refine rn_iconst (v := (2 : Int32)) (ft226 69 rfl) (by decide) ?_
            obtain ⟨g67, h⟩ := ifg h
            obtain ⟨p61, q62, h⟩ := ob_some h
            refine rn_callV (as := [.int (0 : Int32), .int (2 : Int32)]) (k0 := v0) (r := []) (v := (some (.int p61.1))) (w1 := p61.2) (ft226 70 rfl) (by decide +kernel) rfl (Nat.le_of_ble_eq_true rfl) (Nat.le_of_ble_eq_true rfl) (r161 n v0 (0 : Int32) (2 : Int32) w17 _ q62) (by decide +kernel) g67 ?_
            refine rn_istore (ls' := [some (.ref v0), some (.int v1), some (.int v2), some (.int s0), some (.int p61.1), none]) (ft226 71 rfl) rfl ?_
            refine rn_aload_n (ft226 72 rfl) rfl ?_
            refine rn_aload_n (ft226 73 rfl) rfl ?_
            obtain ⟨x63, q64, h⟩ := ob_some h
            refine rn_getI (ft226 74 rfl) (by decide) (by decide) q64 ?_
            obtain ⟨w65, q66, h⟩ := ob_some h
            refine rn_putI (ft226 75 rfl) q66 ?_
            refine rn_goto (ft226 76 rfl) ?_
            exact rn_forget (ls := [some (.ref v0), none, none, none, some (.int p61.1), none]) (And.intro rfl (And.intro rfl trivial)) (rf226_J271 n  v0 p61.1 w65 _  h)
        · replace h := ifn c72 h
          refine rn_icmp_ne_f (ft226 58 rfl) c72 ?_
          refine rn_aload_n (ft226 59 rfl) rfl ?_
          refine rn_iload_n (ft226 60 rfl) rfl ?_
          obtain ⟨g71, h⟩ := ifg h
          obtain ⟨p69, q70, h⟩ := ob_some h
          refine rn_callV (as := [.int v1]) (k0 := v0) (r := []) (v := (some (.int p69.1))) (w1 := p69.2) (ft226 61 rfl) (by decide +kernel) rfl (Nat.le_of_ble_eq_true rfl) (Nat.le_of_ble_eq_true rfl) (r211 n v0 v1 w17 _ q70) (by decide +kernel) g71 ?_
          refine rn_istore (ls' := [some (.ref v0), some (.int v1), some (.int v2), some (.int s0), some (.int p69.1), none]) (ft226 62 rfl) rfl ?_
          refine rn_goto (ft226 63 rfl) ?_
          exact rn_forget (ls := [some (.ref v0), none, none, none, some (.int p69.1), none]) (And.intro rfl (And.intro rfl trivial)) (rf226_J271 n  v0 p69.1 p69.2 _  h)
      · replace h := ifn c76 h
        refine rn_icmp_ne_f (ft226 51 rfl) c76 ?_
        refine rn_aload_n (ft226 52 rfl) rfl ?_
        obtain ⟨g75, h⟩ := ifg h
        obtain ⟨p73, q74, h⟩ := ob_some h
        refine rn_callV (as := []) (k0 := v0) (r := []) (v := (some (.int p73.1))) (w1 := p73.2) (ft226 53 rfl) (by decide +kernel) rfl (Nat.le_of_ble_eq_true rfl) (Nat.le_of_ble_eq_true rfl) (r201 n v0 w17 _ q74) (by decide +kernel) g75 ?_
        refine rn_istore (ls' := [some (.ref v0), some (.int v1), some (.int v2), some (.int s0), some (.int p73.1), none]) (ft226 54 rfl) rfl ?_
        refine rn_goto (ft226 55 rfl) ?_
        exact rn_forget (ls := [some (.ref v0), none, none, none, some (.int p73.1), none]) (And.intro rfl (And.intro rfl trivial)) (rf226_J271 n  v0 p73.1 p73.2 _  h)
    · replace h := ifn c77 h
      refine rn_if_eq_f (ft226 25 rfl) c77 ?_
      exact rn_forget (ls := [some (.ref v0), some (.int v1), some (.int v2), none, none, none]) (And.intro rfl (And.intro rfl (And.intro rfl trivial))) (rf226_J48 n  v0 v1 v2 w _  h)
def f226 (n : Nat) (v0 : Nat) (w : Wd) : Option (Int32 × Wd) :=
  (if (wsh w v0).map (fun q => q.1) = some 11 then ob (f111 n v0 w) (fun p1 => ob (getI p1 11 v0 17) (fun x3 => (if (wsh p1 v0).map (fun q => q.1) = some 11 then ob (f112 v0 p1) (fun p5 => (if p5.1 < 0 then f226_J39 n  v0 x3 p5.1 (0 : Int32) p5.2
    else (if (4 : Int32) ≤ p5.1 then f226_J39 n  v0 x3 p5.1 (0 : Int32) p5.2
      else ob (getI p5.2 11 v0 33) (fun x79 => ob (f45 x79 p5.1 p5.2) (fun p81 => (if p81.1 = 0 then f226_J39 n  v0 x3 p5.1 (0 : Int32) p81.2
        else f226_J39 n  v0 x3 p5.1 (1 : Int32) p81.2)))))) else none))) else none)
set_option maxRecDepth 10000 in
theorem r226 {S : Sc} (n : Nat) (v0 : Nat) (w : Wd) (o : (Int32 × Wd)) (h : f226 n v0 w = some o) : Rn S 226 0 [some (.ref v0), none, none, none, none, none] [] w (some (.int o.1), o.2) := by
  unfold f226 at h
  refine rn_aload_n (ft226 0 rfl) rfl ?_
  obtain ⟨g87, h⟩ := ifg h
  obtain ⟨p1, q2, h⟩ := ob_some h
  refine rn_callV (as := []) (k0 := v0) (r := []) (v := none) (w1 := p1) (ft226 1 rfl) (by decide +kernel) rfl (Nat.le_of_ble_eq_true rfl) (Nat.le_of_ble_eq_true rfl) (r111 n v0 w _ q2) (by decide +kernel) g87 ?_
  refine rn_aload_n (ft226 2 rfl) rfl ?_
  obtain ⟨x3, q4, h⟩ := ob_some h
  refine rn_getI (ft226 3 rfl) (by decide) (by decide) q4 ?_
  refine rn_istore_n (ls' := [some (.ref v0), some (.int x3), none, none, none, none]) (ft226 4 rfl) rfl ?_
  refine rn_aload_n (ft226 5 rfl) rfl ?_
  obtain ⟨g86, h⟩ := ifg h
  obtain ⟨p5, q6, h⟩ := ob_some h
  refine rn_callV (as := []) (k0 := v0) (r := []) (v := (some (.int p5.1))) (w1 := p5.2) (ft226 6 rfl) (by decide +kernel) rfl (Nat.le_of_ble_eq_true rfl) (Nat.le_of_ble_eq_true rfl) (r112 v0 p1 _ q6) (by decide +kernel) g86 ?_
  refine rn_istore_n (ls' := [some (.ref v0), some (.int x3), some (.int p5.1), none, none, none]) (ft226 7 rfl) rfl ?_
  refine rn_iload_n (ft226 8 rfl) rfl ?_
  by_cases c85 : p5.1 < 0
  · replace h := ifp c85 h
    refine rn_if_lt_t (ft226 9 rfl) c85 ?_
    refine rn_iconst (v := (0 : Int32)) (ft226 20 rfl) (by decide) ?_
    exact rn_forget (ls := [some (.ref v0), some (.int x3), some (.int p5.1), none, none, none]) (And.intro rfl (And.intro rfl (And.intro rfl trivial))) (rf226_J39 n  v0 x3 p5.1 (0 : Int32) p5.2 _  h)
  · replace h := ifn c85 h
    refine rn_if_lt_f (ft226 9 rfl) c85 ?_
    refine rn_iload_n (ft226 10 rfl) rfl ?_
    refine rn_iconst (v := (4 : Int32)) (ft226 11 rfl) (by decide) ?_
    by_cases c84 : (4 : Int32) ≤ p5.1
    · replace h := ifp c84 h
      refine rn_icmp_ge_t (ft226 12 rfl) c84 ?_
      refine rn_iconst (v := (0 : Int32)) (ft226 20 rfl) (by decide) ?_
      exact rn_forget (ls := [some (.ref v0), some (.int x3), some (.int p5.1), none, none, none]) (And.intro rfl (And.intro rfl (And.intro rfl trivial))) (rf226_J39 n  v0 x3 p5.1 (0 : Int32) p5.2 _  h)
    · replace h := ifn c84 h
      refine rn_icmp_ge_f (ft226 12 rfl) c84 ?_
      refine rn_aload_n (ft226 13 rfl) rfl ?_
      obtain ⟨x79, q80, h⟩ := ob_some h
      refine rn_getI (ft226 14 rfl) (by decide) (by decide) q80 ?_
      refine rn_iload_n (ft226 15 rfl) rfl ?_
      obtain ⟨p81, q82, h⟩ := ob_some h
      refine rn_callS (as := [.int x79, .int p5.1]) (r := []) (v := (some (.int p81.1))) (w1 := p81.2) (ft226 16 rfl) (by decide +kernel) rfl (Nat.le_of_ble_eq_true rfl) (Nat.le_of_ble_eq_true rfl) (r45 x79 p5.1 p5.2 _ q82) ?_
      by_cases c83 : p81.1 = 0
      · replace h := ifp c83 h
        refine rn_if_eq_t (ft226 17 rfl) c83 ?_
        refine rn_iconst (v := (0 : Int32)) (ft226 20 rfl) (by decide) ?_
        exact rn_forget (ls := [some (.ref v0), some (.int x3), some (.int p5.1), none, none, none]) (And.intro rfl (And.intro rfl (And.intro rfl trivial))) (rf226_J39 n  v0 x3 p5.1 (0 : Int32) p81.2 _  h)
      · replace h := ifn c83 h
        refine rn_if_eq_f (ft226 17 rfl) c83 ?_
        refine rn_iconst (v := (1 : Int32)) (ft226 18 rfl) (by decide) ?_
        refine rn_goto (ft226 19 rfl) ?_
        exact rn_forget (ls := [some (.ref v0), some (.int x3), some (.int p5.1), none, none, none]) (And.intro rfl (And.intro rfl (And.intro rfl trivial))) (rf226_J39 n  v0 x3 p5.1 (1 : Int32) p81.2 _  h)
/-- NineWheelModel.counted(IIII)I -/
theorem ft227 : ∀ (i : Nat) {q : Nat × XI}, cd227[i]? = some q → fetch 227 q.1 = some q.2 := ft_of (by decide +kernel)
theorem pr227 : pRt 227 = some .int := rfl
def f227 (n : Nat) (v0 : Nat) (v1 : Int32) (v2 : Int32) (v3 : Int32) (v4 : Int32) (w : Wd) : Option (Int32 × Wd) :=
  (if (wsh w v0).map (fun q => q.1) = some 11 then ob (f126 v0 v1 w) (fun p1 => (if p1.1 = 0 then some ((-1000001 : Int32), p1.2)
    else ob (f118 v2 p1.2) (fun p3 => (if ¬ p3.1 = 0 then ob (f122 v3 p3.2) (fun p5 => (if p5.1 = 0 then some ((-1000002 : Int32), p5.2)
        else ob (f40 (Int32.toInt64 v4) (0 : Int64) (999 : Int64) p5.2) (fun p7 => (if ¬ p7.1 = 0 then ob (getR p7.2 11 v0 2) (fun x9 => ob (aldB p7.2 x9 v2) (fun x11 => (if x11 = 0 then (if (wsh p7.2 v0).map (fun q => q.1) = some 11 then ob (f54 v0 v1 p7.2) (fun p13 => (if (wsh p13 v0).map (fun q => q.1) = some 11 then ob (f170 n v0 v2 v3 p13) (fun p15 => (if p15.1 = 0 then (if (wsh p15.2 v0).map (fun q => q.1) = some 11 then ob (f214 n v0 v2 v3 v4 p15.2) (fun p17 => some (p17.1, p17.2)) else none)
              else ob (getI p15.2 11 v0 42) (fun x20 => some (x20, p15.2)))) else none)) else none)
            else some ((-1000003 : Int32), p7.2))))
          else some ((-1000002 : Int32), p7.2)))))
      else some ((-1000001 : Int32), p3.2))))) else none)
set_option maxRecDepth 10000 in
theorem r227 {S : Sc} (n : Nat) (v0 : Nat) (v1 : Int32) (v2 : Int32) (v3 : Int32) (v4 : Int32) (w : Wd) (o : (Int32 × Wd)) (h : f227 n v0 v1 v2 v3 v4 w = some o) : Rn S 227 0 [some (.ref v0), some (.int v1), some (.int v2), some (.int v3), some (.int v4)] [] w (some (.int o.1), o.2) := by
  unfold f227 at h
  refine rn_aload_n (ft227 0 rfl) rfl ?_
  refine rn_iload_n (ft227 1 rfl) rfl ?_
  obtain ⟨g30, h⟩ := ifg h
  obtain ⟨p1, q2, h⟩ := ob_some h
  refine rn_callV (as := [.int v1]) (k0 := v0) (r := []) (v := (some (.int p1.1))) (w1 := p1.2) (ft227 2 rfl) (by decide +kernel) rfl (Nat.le_of_ble_eq_true rfl) (Nat.le_of_ble_eq_true rfl) (r126 v0 v1 w _ q2) (by decide +kernel) g30 ?_
  by_cases c29 : p1.1 = 0
  · replace h := ifp c29 h
    refine rn_if_eq_t (ft227 3 rfl) c29 ?_
    refine rn_ldcw (v := (-1000001 : Int32)) (ft227 7 rfl) (by decide) ?_
    cases h
    exact rn_iretI pr227 (ft227 8 rfl)
  · replace h := ifn c29 h
    refine rn_if_eq_f (ft227 3 rfl) c29 ?_
    refine rn_iload_n (ft227 4 rfl) rfl ?_
    obtain ⟨p3, q4, h⟩ := ob_some h
    refine rn_callS (as := [.int v2]) (r := []) (v := (some (.int p3.1))) (w1 := p3.2) (ft227 5 rfl) (by decide +kernel) rfl (Nat.le_of_ble_eq_true rfl) (Nat.le_of_ble_eq_true rfl) (r118 v2 p1.2 _ q4) ?_
    by_cases c28 : ¬ p3.1 = 0
    · replace h := ifp c28 h
      refine rn_if_ne_t (ft227 6 rfl) c28 ?_
      refine rn_iload_n (ft227 9 rfl) rfl ?_
      obtain ⟨p5, q6, h⟩ := ob_some h
      refine rn_callS (as := [.int v3]) (r := []) (v := (some (.int p5.1))) (w1 := p5.2) (ft227 10 rfl) (by decide +kernel) rfl (Nat.le_of_ble_eq_true rfl) (Nat.le_of_ble_eq_true rfl) (r122 v3 p3.2 _ q6) ?_
      by_cases c27 : p5.1 = 0
      · replace h := ifp c27 h
        refine rn_if_eq_t (ft227 11 rfl) c27 ?_
        refine rn_ldc (v := (-1000002 : Int32)) (ft227 18 rfl) (by decide) rfl ?_
        cases h
        exact rn_iretI pr227 (ft227 19 rfl)
      · replace h := ifn c27 h
        refine rn_if_eq_f (ft227 11 rfl) c27 ?_
        refine rn_iload (ft227 12 rfl) rfl ?_
        refine rn_i2l (ft227 13 rfl) ?_
        refine rn_lconst (v := (0 : Int64)) (ft227 14 rfl) (by decide) ?_
        refine rn_ldc2 (v := (999 : Int64)) (ft227 15 rfl) (by decide) ?_
        obtain ⟨p7, q8, h⟩ := ob_some h
        refine rn_callS (as := [.long (Int32.toInt64 v4), .long (0 : Int64), .long (999 : Int64)]) (r := []) (v := (some (.int p7.1))) (w1 := p7.2) (ft227 16 rfl) (by decide +kernel) rfl (Nat.le_of_ble_eq_true rfl) (Nat.le_of_ble_eq_true rfl) (r40 (Int32.toInt64 v4) (0 : Int64) (999 : Int64) p5.2 _ q8) ?_
        by_cases c26 : ¬ p7.1 = 0
        · replace h := ifp c26 h
          refine rn_if_ne_t (ft227 17 rfl) c26 ?_
          refine rn_aload_n (ft227 20 rfl) rfl ?_
          obtain ⟨x9, q10, h⟩ := ob_some h
          refine rn_getR (ft227 21 rfl) q10 ?_
          refine rn_iload_n (ft227 22 rfl) rfl ?_
          obtain ⟨x11, q12, h⟩ := ob_some h
          refine rn_baload (ft227 23 rfl) q12 ?_
          by_cases c25 : x11 = 0
          · replace h := ifp c25 h
            refine rn_if_eq_t (ft227 24 rfl) c25 ?_
            refine rn_aload_n (ft227 27 rfl) rfl ?_
            refine rn_iload_n (ft227 28 rfl) rfl ?_
            obtain ⟨g24, h⟩ := ifg h
            obtain ⟨p13, q14, h⟩ := ob_some h
            refine rn_callV (as := [.int v1]) (k0 := v0) (r := []) (v := none) (w1 := p13) (ft227 29 rfl) (by decide +kernel) rfl (Nat.le_of_ble_eq_true rfl) (Nat.le_of_ble_eq_true rfl) (r54 v0 v1 p7.2 _ q14) (by decide +kernel) g24 ?_
            refine rn_aload_n (ft227 30 rfl) rfl ?_
            refine rn_iload_n (ft227 31 rfl) rfl ?_
            refine rn_iload_n (ft227 32 rfl) rfl ?_
            obtain ⟨g23, h⟩ := ifg h
            obtain ⟨p15, q16, h⟩ := ob_some h
            refine rn_callV (as := [.int v2, .int v3]) (k0 := v0) (r := []) (v := (some (.int p15.1))) (w1 := p15.2) (ft227 33 rfl) (by decide +kernel) rfl (Nat.le_of_ble_eq_true rfl) (Nat.le_of_ble_eq_true rfl) (r170 n v0 v2 v3 p13 _ q16) (by decide +kernel) g23 ?_
            by_cases c22 : p15.1 = 0
            · replace h := ifp c22 h
              refine rn_if_eq_t (ft227 34 rfl) c22 ?_
              refine rn_aload_n (ft227 38 rfl) rfl ?_
              refine rn_iload_n (ft227 39 rfl) rfl ?_
              refine rn_iload_n (ft227 40 rfl) rfl ?_
              refine rn_iload (ft227 41 rfl) rfl ?_
              obtain ⟨g19, h⟩ := ifg h
              obtain ⟨p17, q18, h⟩ := ob_some h
              refine rn_callV (as := [.int v2, .int v3, .int v4]) (k0 := v0) (r := []) (v := (some (.int p17.1))) (w1 := p17.2) (ft227 42 rfl) (by decide +kernel) rfl (Nat.le_of_ble_eq_true rfl) (Nat.le_of_ble_eq_true rfl) (r214 n v0 v2 v3 v4 p15.2 _ q18) (by decide +kernel) g19 ?_
              cases h
              exact rn_iretI pr227 (ft227 43 rfl)
            · replace h := ifn c22 h
              refine rn_if_eq_f (ft227 34 rfl) c22 ?_
              refine rn_aload_n (ft227 35 rfl) rfl ?_
              obtain ⟨x20, q21, h⟩ := ob_some h
              refine rn_getI (ft227 36 rfl) (by decide) (by decide) q21 ?_
              refine rn_goto (ft227 37 rfl) ?_
              cases h
              exact rn_iretI pr227 (ft227 43 rfl)
          · replace h := ifn c25 h
            refine rn_if_eq_f (ft227 24 rfl) c25 ?_
            refine rn_ldcw (v := (-1000003 : Int32)) (ft227 25 rfl) (by decide) ?_
            cases h
            exact rn_iretI pr227 (ft227 26 rfl)
        · replace h := ifn c26 h
          refine rn_if_ne_f (ft227 17 rfl) c26 ?_
          refine rn_ldc (v := (-1000002 : Int32)) (ft227 18 rfl) (by decide) rfl ?_
          cases h
          exact rn_iretI pr227 (ft227 19 rfl)
    · replace h := ifn c28 h
      refine rn_if_ne_f (ft227 6 rfl) c28 ?_
      refine rn_ldcw (v := (-1000001 : Int32)) (ft227 7 rfl) (by decide) ?_
      cases h
      exact rn_iretI pr227 (ft227 8 rfl)
/-- NineWheelModel.runFrom(IIII)V -/
theorem ft228 : ∀ (i : Nat) {q : Nat × XI}, cd228[i]? = some q → fetch 228 q.1 = some q.2 := ft_of (by decide +kernel)
theorem pr228 : pRt 228 = none := rfl
def f228_J83 (n : Nat) (rec5 : Nat → Int32 → Int32 → Wd → Option Wd) (K5 : Wd → Option Wd) (v0 : Nat) (v3 : Int32) (v4 : Int32) (v5 : Int32) (s0 : Nat) (s1 : Int32) (w : Wd) : Option Wd :=
  (if (wsh w s0).map (fun q => q.1) = some 11 then ob (f194 s0 s1 v5 v4 w) (fun p37 => rec5 v0 v3 v4 p37) else none)
set_option maxRecDepth 10000 in
theorem rf228_J83 {S : Sc} (n : Nat) (rec5 : Nat → Int32 → Int32 → Wd → Option Wd) (K5 : Wd → Option Wd) (v0 : Nat) (v3 : Int32) (v4 : Int32) (v5 : Int32) (s0 : Nat) (s1 : Int32) (w : Wd) (o : Wd) (hrec5 : ∀ (y0 : Nat) (y3 : Int32) (y4 : Int32) (w : Wd) (o : Wd), rec5 y0 y3 y4 w = some o → Rn S 228 8 [some (.ref y0), none, none, some (.int y3), some (.int y4), none] [] w (none, o)) (hK5 : ∀  (w : Wd) (o : Wd), K5 w = some o → Rn S 228 93 [none, none, none, none, none, none] [] w (none, o)) (h : f228_J83 n rec5 K5 v0 v3 v4 v5 s0 s1 w = some o) : Rn S 228 83 [some (.ref v0), none, none, some (.int v3), some (.int v4), some (.int v5)] [.int s1, .ref s0] w (none, o) := by
  unfold f228_J83 at h
  refine rn_iload (ft228 44 rfl) rfl ?_
  refine rn_iload (ft228 45 rfl) rfl ?_
  obtain ⟨g39, h⟩ := ifg h
  obtain ⟨p37, q38, h⟩ := ob_some h
  refine rn_callV (as := [.int s1, .int v5, .int v4]) (k0 := s0) (r := []) (v := none) (w1 := p37) (ft228 46 rfl) (by decide +kernel) rfl (Nat.le_of_ble_eq_true rfl) (Nat.le_of_ble_eq_true rfl) (r194 s0 s1 v5 v4 w _ q38) (by decide +kernel) g39 ?_
  refine rn_goto (ft228 47 rfl) ?_
  exact rn_forget (ls := [some (.ref v0), none, none, some (.int v3), some (.int v4), none]) (And.intro rfl (And.intro rfl (And.intro rfl trivial))) (hrec5 v0 v3 v4 p37 _ h)
def f228_H8 (n : Nat)  (K5 : Wd → Option Wd) : Nat → Nat → Int32 → Int32 → Wd → Option Wd
  | 0, _, _, _, _ => none
  | k + 1, v0, v3, v4, w =>
    ob (getI w 11 v0 53) (fun x3 => (if v3 ≤ x3 then K5 w
      else ob (getI w 11 v0 52) (fun x5 => (if 0 ≤ x5 then K5 w
        else ob (getR w 11 v0 48) (fun x7 => ob (getI w 11 v0 53) (fun x9 => ob (aldI w x7 x9) (fun x11 => ob (getR w 11 v0 49) (fun x13 => ob (getI w 11 v0 53) (fun x15 => ob (aldI w x13 x15) (fun x17 => (if (wsh w v0).map (fun q => q.1) = some 11 then ob (f170 n v0 x11 x17 w) (fun p19 => (if p19.1 = 0 then ob (getR p19.2 11 v0 48) (fun x21 => ob (getI p19.2 11 v0 53) (fun x23 => ob (aldI p19.2 x21 x23) (fun x25 => ob (getR p19.2 11 v0 49) (fun x27 => ob (getI p19.2 11 v0 53) (fun x29 => ob (aldI p19.2 x27 x29) (fun x31 => ob (getI p19.2 11 v0 53) (fun x33 => (if (wsh p19.2 v0).map (fun q => q.1) = some 11 then ob (f214 n v0 x25 x31 x33 p19.2) (fun p35 => f228_J83 n (fun (v0 : Nat) (v3 : Int32) (v4 : Int32) w => f228_H8 n  K5 k v0 v3 v4 w) K5 v0 v3 v4 p19.1 v0 p35.1 p35.2) else none))))))))
          else f228_J83 n (fun (v0 : Nat) (v3 : Int32) (v4 : Int32) w => f228_H8 n  K5 k v0 v3 v4 w) K5 v0 v3 v4 p19.1 v0 (0 : Int32) p19.2)) else none)))))))))))
set_option maxRecDepth 10000 in
theorem rf228_H8 {S : Sc} (n : Nat)  (K5 : Wd → Option Wd)  (hK5 : ∀  (w : Wd) (o : Wd), K5 w = some o → Rn S 228 93 [none, none, none, none, none, none] [] w (none, o)) : ∀ (k : Nat) (v0 : Nat) (v3 : Int32) (v4 : Int32) (w : Wd) (o : Wd), f228_H8 n  K5 k v0 v3 v4 w = some o → Rn S 228 8 [some (.ref v0), none, none, some (.int v3), some (.int v4), none] [] w (none, o) := by
  intro k
  induction k with
  | zero =>
    intro v0 v3 v4 w o h
    exact nomatch h
  | succ k ih =>
    intro v0 v3 v4 w o h
    have hrec5 : ∀ (y0 : Nat) (y3 : Int32) (y4 : Int32) (w : Wd) (o : Wd), (fun (v0 : Nat) (v3 : Int32) (v4 : Int32) w => f228_H8 n  K5 k v0 v3 v4 w) y0 y3 y4 w = some o → Rn S 228 8 [some (.ref y0), none, none, some (.int y3), some (.int y4), none] [] w (none, o) := fun y0 y3 y4 w o h => ih y0 y3 y4 w o h
    unfold f228_H8 at h
    refine rn_aload_n (ft228 5 rfl) rfl ?_
    obtain ⟨x3, q4, h⟩ := ob_some h
    refine rn_getI (ft228 6 rfl) (by decide) (by decide) q4 ?_
    refine rn_iload_n (ft228 7 rfl) rfl ?_
    by_cases c44 : v3 ≤ x3
    · replace h := ifp c44 h
      refine rn_icmp_ge_t (ft228 8 rfl) c44 ?_
      exact rn_forget (ls := [none, none, none, none, none, none]) trivial (hK5 w _ h)
    · replace h := ifn c44 h
      refine rn_icmp_ge_f (ft228 8 rfl) c44 ?_
      refine rn_aload_n (ft228 9 rfl) rfl ?_
      obtain ⟨x5, q6, h⟩ := ob_some h
      refine rn_getI (ft228 10 rfl) (by decide) (by decide) q6 ?_
      by_cases c43 : 0 ≤ x5
      · replace h := ifp c43 h
        refine rn_if_ge_t (ft228 11 rfl) c43 ?_
        exact rn_forget (ls := [none, none, none, none, none, none]) trivial (hK5 w _ h)
      · replace h := ifn c43 h
        refine rn_if_ge_f (ft228 11 rfl) c43 ?_
        refine rn_aload_n (ft228 12 rfl) rfl ?_
        refine rn_aload_n (ft228 13 rfl) rfl ?_
        obtain ⟨x7, q8, h⟩ := ob_some h
        refine rn_getR (ft228 14 rfl) q8 ?_
        refine rn_aload_n (ft228 15 rfl) rfl ?_
        obtain ⟨x9, q10, h⟩ := ob_some h
        refine rn_getI (ft228 16 rfl) (by decide) (by decide) q10 ?_
        obtain ⟨x11, q12, h⟩ := ob_some h
        refine rn_iaload (ft228 17 rfl) q12 ?_
        refine rn_aload_n (ft228 18 rfl) rfl ?_
        obtain ⟨x13, q14, h⟩ := ob_some h
        refine rn_getR (ft228 19 rfl) q14 ?_
        refine rn_aload_n (ft228 20 rfl) rfl ?_
        obtain ⟨x15, q16, h⟩ := ob_some h
        refine rn_getI (ft228 21 rfl) (by decide) (by decide) q16 ?_
        obtain ⟨x17, q18, h⟩ := ob_some h
        refine rn_iaload (ft228 22 rfl) q18 ?_
        obtain ⟨g42, h⟩ := ifg h
        obtain ⟨p19, q20, h⟩ := ob_some h
        refine rn_callV (as := [.int x11, .int x17]) (k0 := v0) (r := []) (v := (some (.int p19.1))) (w1 := p19.2) (ft228 23 rfl) (by decide +kernel) rfl (Nat.le_of_ble_eq_true rfl) (Nat.le_of_ble_eq_true rfl) (r170 n v0 x11 x17 w _ q20) (by decide +kernel) g42 ?_
        refine rn_istore (ls' := [some (.ref v0), none, none, some (.int v3), some (.int v4), some (.int p19.1)]) (ft228 24 rfl) rfl ?_
        refine rn_aload_n (ft228 25 rfl) rfl ?_
        refine rn_iload (ft228 26 rfl) rfl ?_
        by_cases c41 : p19.1 = 0
        · replace h := ifp c41 h
          refine rn_if_eq_t (ft228 27 rfl) c41 ?_
          refine rn_aload_n (ft228 30 rfl) rfl ?_
          refine rn_aload_n (ft228 31 rfl) rfl ?_
          obtain ⟨x21, q22, h⟩ := ob_some h
          refine rn_getR (ft228 32 rfl) q22 ?_
          refine rn_aload_n (ft228 33 rfl) rfl ?_
          obtain ⟨x23, q24, h⟩ := ob_some h
          refine rn_getI (ft228 34 rfl) (by decide) (by decide) q24 ?_
          obtain ⟨x25, q26, h⟩ := ob_some h
          refine rn_iaload (ft228 35 rfl) q26 ?_
          refine rn_aload_n (ft228 36 rfl) rfl ?_
          obtain ⟨x27, q28, h⟩ := ob_some h
          refine rn_getR (ft228 37 rfl) q28 ?_
          refine rn_aload_n (ft228 38 rfl) rfl ?_
          obtain ⟨x29, q30, h⟩ := ob_some h
          refine rn_getI (ft228 39 rfl) (by decide) (by decide) q30 ?_
          obtain ⟨x31, q32, h⟩ := ob_some h
          refine rn_iaload (ft228 40 rfl) q32 ?_
          refine rn_aload_n (ft228 41 rfl) rfl ?_
          obtain ⟨x33, q34, h⟩ := ob_some h
          refine rn_getI (ft228 42 rfl) (by decide) (by decide) q34 ?_
          obtain ⟨g40, h⟩ := ifg h
          obtain ⟨p35, q36, h⟩ := ob_some h
          refine rn_callV (as := [.int x25, .int x31, .int x33]) (k0 := v0) (r := [.ref v0]) (v := (some (.int p35.1))) (w1 := p35.2) (ft228 43 rfl) (by decide +kernel) rfl (Nat.le_of_ble_eq_true rfl) (Nat.le_of_ble_eq_true rfl) (r214 n v0 x25 x31 x33 p19.2 _ q36) (by decide +kernel) g40 ?_
          exact rn_forget (ls := [some (.ref v0), none, none, some (.int v3), some (.int v4), some (.int p19.1)]) (And.intro rfl (And.intro rfl (And.intro rfl (And.intro rfl trivial)))) (rf228_J83 n (fun (v0 : Nat) (v3 : Int32) (v4 : Int32) w => f228_H8 n  K5 k v0 v3 v4 w) K5 v0 v3 v4 p19.1 v0 p35.1 p35.2 _ hrec5 hK5 h)
        · replace h := ifn c41 h
          refine rn_if_eq_f (ft228 27 rfl) c41 ?_
          refine rn_iconst (v := (0 : Int32)) (ft228 28 rfl) (by decide) ?_
          refine rn_goto (ft228 29 rfl) ?_
          exact rn_forget (ls := [some (.ref v0), none, none, some (.int v3), some (.int v4), some (.int p19.1)]) (And.intro rfl (And.intro rfl (And.intro rfl (And.intro rfl trivial)))) (rf228_J83 n (fun (v0 : Nat) (v3 : Int32) (v4 : Int32) w => f228_H8 n  K5 k v0 v3 v4 w) K5 v0 v3 v4 p19.1 v0 (0 : Int32) p19.2 _ hrec5 hK5 h)
def f228 (n : Nat) (v0 : Nat) (v1 : Int32) (v2 : Int32) (v3 : Int32) (v4 : Int32) (w : Wd) : Option Wd :=
  (if (wsh w v0).map (fun q => q.1) = some 11 then ob (f57 v0 v1 v2 v4 w) (fun p1 => f228_H8 n  (fun  (w45 : Wd) => some w45) n v0 v3 v4 p1) else none)
set_option maxRecDepth 10000 in
theorem r228 {S : Sc} (n : Nat) (v0 : Nat) (v1 : Int32) (v2 : Int32) (v3 : Int32) (v4 : Int32) (w : Wd) (o : Wd) (h : f228 n v0 v1 v2 v3 v4 w = some o) : Rn S 228 0 [some (.ref v0), some (.int v1), some (.int v2), some (.int v3), some (.int v4), none] [] w (none, o) := by
  unfold f228 at h
  refine rn_aload_n (ft228 0 rfl) rfl ?_
  refine rn_iload_n (ft228 1 rfl) rfl ?_
  refine rn_iload_n (ft228 2 rfl) rfl ?_
  refine rn_iload (ft228 3 rfl) rfl ?_
  obtain ⟨g46, h⟩ := ifg h
  obtain ⟨p1, q2, h⟩ := ob_some h
  refine rn_callV (as := [.int v1, .int v2, .int v4]) (k0 := v0) (r := []) (v := none) (w1 := p1) (ft228 4 rfl) (by decide +kernel) rfl (Nat.le_of_ble_eq_true rfl) (Nat.le_of_ble_eq_true rfl) (r57 v0 v1 v2 v4 w _ q2) (by decide +kernel) g46 ?_
  refine rn_forget (ls := [some (.ref v0), none, none, some (.int v3), some (.int v4), none]) (And.intro rfl (And.intro rfl (And.intro rfl trivial))) (rf228_H8 n  _  (fun  w45 o h => ?_) n v0 v3 v4 p1 _ h)
  cases h
  exact rn_vret pr228 (ft228 48 rfl)
