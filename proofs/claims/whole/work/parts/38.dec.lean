/-! THE METHODS AS FUNCTIONS, 21 -/
/-- NineWheel$Courses.greatest(III)I -/
theorem ft210 : ∀ (i : Nat) {q : Nat × XI}, cd210[i]? = some q → fetch 210 q.1 = some q.2 := ft_of (by decide +kernel)
theorem pr210 : pRt 210 = some .int := rfl
def f210_H16 (n : Nat)  (K9 : Nat → Int32 → Int32 → Int32 → Wd → Option (Int32 × Wd)) : Nat → Nat → Int32 → Int32 → Int32 → Int32 → Wd → Option (Int32 × Wd)
  | 0, _, _, _, _, _, _ => none
  | k + 1, v0, v1, v2, v3, v4, w =>
    (if (64 : Int32) ≤ v4 then K9 v0 v1 v2 v3 w
      else ob (getR w 1 v0 2) (fun x3 => ob (getR w 1 v0 0) (fun x5 => (if (wsh w x5).map (fun q => q.1) = some 6 then ob (f143 n x5 v4 v1 w) (fun p7 => ob (astI p7.2 x3 v4 p7.1) (fun w9 => (fun (v0 : Nat) (v1 : Int32) (v2 : Int32) (v3 : Int32) (v4 : Int32) w => f210_H16 n  K9 k v0 v1 v2 v3 v4 w) v0 v1 v2 v3 (v4 + (1 : Int32)) w9)) else none))))
set_option maxRecDepth 10000 in
theorem rf210_H16 {S : Sc} (n : Nat)  (K9 : Nat → Int32 → Int32 → Int32 → Wd → Option (Int32 × Wd))  (hK9 : ∀ (y0 : Nat) (y1 : Int32) (y2 : Int32) (y3 : Int32) (w : Wd) (o : (Int32 × Wd)), K9 y0 y1 y2 y3 w = some o → Rn S 210 46 [some (.ref y0), some (.int y1), some (.int y2), some (.int y3), none, none, none] [] w (some (.int o.1), o.2)) : ∀ (k : Nat) (v0 : Nat) (v1 : Int32) (v2 : Int32) (v3 : Int32) (v4 : Int32) (w : Wd) (o : (Int32 × Wd)), f210_H16 n  K9 k v0 v1 v2 v3 v4 w = some o → Rn S 210 16 [some (.ref v0), some (.int v1), some (.int v2), some (.int v3), some (.int v4), none, none] [] w (some (.int o.1), o.2) := by
  intro k
  induction k with
  | zero =>
    intro v0 v1 v2 v3 v4 w o h
    exact nomatch h
  | succ k ih =>
    intro v0 v1 v2 v3 v4 w o h
    have hrec9 : ∀ (y0 : Nat) (y1 : Int32) (y2 : Int32) (y3 : Int32) (y4 : Int32) (w : Wd) (o : (Int32 × Wd)), (fun (v0 : Nat) (v1 : Int32) (v2 : Int32) (v3 : Int32) (v4 : Int32) w => f210_H16 n  K9 k v0 v1 v2 v3 v4 w) y0 y1 y2 y3 y4 w = some o → Rn S 210 16 [some (.ref y0), some (.int y1), some (.int y2), some (.int y3), some (.int y4), none, none] [] w (some (.int o.1), o.2) := fun y0 y1 y2 y3 y4 w o h => ih y0 y1 y2 y3 y4 w o h
    unfold f210_H16 at h
    refine rn_iload (ft210 9 rfl) rfl ?_
    refine rn_bipush (v := (64 : Int32)) (ft210 10 rfl) (by decide) ?_
    by_cases c12 : (64 : Int32) ≤ v4
    · replace h := ifp c12 h
      refine rn_icmp_ge_t (ft210 11 rfl) c12 ?_
      exact rn_forget (ls := [some (.ref v0), some (.int v1), some (.int v2), some (.int v3), none, none, none]) (And.intro rfl (And.intro rfl (And.intro rfl (And.intro rfl trivial)))) (hK9 v0 v1 v2 v3 w _ h)
    · replace h := ifn c12 h
      refine rn_icmp_ge_f (ft210 11 rfl) c12 ?_
      refine rn_aload_n (ft210 12 rfl) rfl ?_
      obtain ⟨x3, q4, h⟩ := ob_some h
      refine rn_getR (ft210 13 rfl) q4 ?_
      refine rn_iload (ft210 14 rfl) rfl ?_
      refine rn_aload_n (ft210 15 rfl) rfl ?_
      obtain ⟨x5, q6, h⟩ := ob_some h
      refine rn_getR (ft210 16 rfl) q6 ?_
      refine rn_iload (ft210 17 rfl) rfl ?_
      refine rn_iload_n (ft210 18 rfl) rfl ?_
      obtain ⟨g11, h⟩ := ifg h
      obtain ⟨p7, q8, h⟩ := ob_some h
      refine rn_callV (as := [.int v4, .int v1]) (k0 := x5) (r := [.int v4, .ref x3]) (v := (some (.int p7.1))) (w1 := p7.2) (ft210 19 rfl) (by decide +kernel) rfl (Nat.le_of_ble_eq_true rfl) (Nat.le_of_ble_eq_true rfl) (r143 n x5 v4 v1 w _ q8) (by decide +kernel) g11 ?_
      obtain ⟨w9, q10, h⟩ := ob_some h
      refine rn_iastore (ft210 20 rfl) q10 ?_
      refine rn_iinc (u := 1) (ls' := [some (.ref v0), some (.int v1), some (.int v2), some (.int v3), some (.int (v4 + (1 : Int32))), none, none]) (ft210 21 rfl) rfl (by decide) rfl ?_
      refine rn_goto (ft210 22 rfl) ?_
      exact rn_forget (ls := [some (.ref v0), some (.int v1), some (.int v2), some (.int v3), some (.int (v4 + (1 : Int32))), none, none]) (And.intro rfl (And.intro rfl (And.intro rfl (And.intro rfl (And.intro rfl trivial))))) (hrec9 v0 v1 v2 v3 (v4 + (1 : Int32)) w9 _ h)
def f210_H75 (n : Nat) (rec34 : Nat → Int32 → Int32 → Int32 → Int32 → Wd → Option (Int32 × Wd)) (K34 : Nat → Int32 → Int32 → Int32 → Wd → Option (Int32 × Wd)) (K41 : Nat → Int32 → Int32 → Int32 → Int32 → Wd → Option (Int32 × Wd)) : Nat → Nat → Int32 → Int32 → Int32 → Int32 → Int32 → Wd → Option (Int32 × Wd)
  | 0, _, _, _, _, _, _, _ => none
  | k + 1, v0, v1, v2, v3, v4, v5, w =>
    (if (512 : Int32) ≤ v5 then K41 v0 v1 v2 v3 v4 w
      else ob (getR w 1 v0 3) (fun x22 => ob (aldI w x22 v5) (fun x24 => ob (f16 x24 v4 w) (fun p26 => (if p26.1 = 0 then (fun (v0 : Nat) (v1 : Int32) (v2 : Int32) (v3 : Int32) (v4 : Int32) (v5 : Int32) w => f210_H75 n rec34 K34 K41 k v0 v1 v2 v3 v4 v5 w) v0 v1 v2 v3 v4 (v5 + (1 : Int32)) p26.2
        else ob (getR p26.2 1 v0 1) (fun x28 => (if (wsh p26.2 x28).map (fun q => q.1) = some 0 then ob (f200 n x28 v5 v4 p26.2) (fun p30 => (if (wsh p30.2 v0).map (fun q => q.1) = some 1 then ob (f185 n v0 v5 v4 p30.1 p30.2) (fun p32 => (fun (v0 : Nat) (v1 : Int32) (v2 : Int32) (v3 : Int32) (v4 : Int32) (v5 : Int32) w => f210_H75 n rec34 K34 K41 k v0 v1 v2 v3 v4 v5 w) v0 v1 v2 v3 v4 (v5 + (1 : Int32)) p32) else none)) else none)))))))
set_option maxRecDepth 10000 in
theorem rf210_H75 {S : Sc} (n : Nat) (rec34 : Nat → Int32 → Int32 → Int32 → Int32 → Wd → Option (Int32 × Wd)) (K34 : Nat → Int32 → Int32 → Int32 → Wd → Option (Int32 × Wd)) (K41 : Nat → Int32 → Int32 → Int32 → Int32 → Wd → Option (Int32 × Wd)) (hrec34 : ∀ (y0 : Nat) (y1 : Int32) (y2 : Int32) (y3 : Int32) (y4 : Int32) (w : Wd) (o : (Int32 × Wd)), rec34 y0 y1 y2 y3 y4 w = some o → Rn S 210 64 [some (.ref y0), some (.int y1), some (.int y2), some (.int y3), some (.int y4), none, none] [] w (some (.int o.1), o.2)) (hK34 : ∀ (y0 : Nat) (y1 : Int32) (y2 : Int32) (y3 : Int32) (w : Wd) (o : (Int32 × Wd)), K34 y0 y1 y2 y3 w = some o → Rn S 210 129 [some (.ref y0), some (.int y1), some (.int y2), some (.int y3), none, none, none] [] w (some (.int o.1), o.2)) (hK41 : ∀ (y0 : Nat) (y1 : Int32) (y2 : Int32) (y3 : Int32) (y4 : Int32) (w : Wd) (o : (Int32 × Wd)), K41 y0 y1 y2 y3 y4 w = some o → Rn S 210 123 [some (.ref y0), some (.int y1), some (.int y2), some (.int y3), some (.int y4), none, none] [] w (some (.int o.1), o.2)) : ∀ (k : Nat) (v0 : Nat) (v1 : Int32) (v2 : Int32) (v3 : Int32) (v4 : Int32) (v5 : Int32) (w : Wd) (o : (Int32 × Wd)), f210_H75 n rec34 K34 K41 k v0 v1 v2 v3 v4 v5 w = some o → Rn S 210 75 [some (.ref v0), some (.int v1), some (.int v2), some (.int v3), some (.int v4), some (.int v5), none] [] w (some (.int o.1), o.2) := by
  intro k
  induction k with
  | zero =>
    intro v0 v1 v2 v3 v4 v5 w o h
    exact nomatch h
  | succ k ih =>
    intro v0 v1 v2 v3 v4 v5 w o h
    have hrec41 : ∀ (y0 : Nat) (y1 : Int32) (y2 : Int32) (y3 : Int32) (y4 : Int32) (y5 : Int32) (w : Wd) (o : (Int32 × Wd)), (fun (v0 : Nat) (v1 : Int32) (v2 : Int32) (v3 : Int32) (v4 : Int32) (v5 : Int32) w => f210_H75 n rec34 K34 K41 k v0 v1 v2 v3 v4 v5 w) y0 y1 y2 y3 y4 y5 w = some o → Rn S 210 75 [some (.ref y0), some (.int y1), some (.int y2), some (.int y3), some (.int y4), some (.int y5), none] [] w (some (.int o.1), o.2) := fun y0 y1 y2 y3 y4 y5 w o h => ih y0 y1 y2 y3 y4 y5 w o h
    unfold f210_H75 at h
    refine rn_iload (ft210 41 rfl) rfl ?_
    refine rn_sipush (v := (512 : Int32)) (ft210 42 rfl) (by decide) ?_
    by_cases c37 : (512 : Int32) ≤ v5
    · replace h := ifp c37 h
      refine rn_icmp_ge_t (ft210 43 rfl) c37 ?_
      exact rn_forget (ls := [some (.ref v0), some (.int v1), some (.int v2), some (.int v3), some (.int v4), none, none]) (And.intro rfl (And.intro rfl (And.intro rfl (And.intro rfl (And.intro rfl trivial))))) (hK41 v0 v1 v2 v3 v4 w _ h)
    · replace h := ifn c37 h
      refine rn_icmp_ge_f (ft210 43 rfl) c37 ?_
      refine rn_aload_n (ft210 44 rfl) rfl ?_
      obtain ⟨x22, q23, h⟩ := ob_some h
      refine rn_getR (ft210 45 rfl) q23 ?_
      refine rn_iload (ft210 46 rfl) rfl ?_
      obtain ⟨x24, q25, h⟩ := ob_some h
      refine rn_iaload (ft210 47 rfl) q25 ?_
      refine rn_iload (ft210 48 rfl) rfl ?_
      obtain ⟨p26, q27, h⟩ := ob_some h
      refine rn_callS (as := [.int x24, .int v4]) (r := []) (v := (some (.int p26.1))) (w1 := p26.2) (ft210 49 rfl) (by decide +kernel) rfl (Nat.le_of_ble_eq_true rfl) (Nat.le_of_ble_eq_true rfl) (r16 x24 v4 w _ q27) ?_
      by_cases c36 : p26.1 = 0
      · replace h := ifp c36 h
        refine rn_if_eq_t (ft210 50 rfl) c36 ?_
        refine rn_iinc (u := 1) (ls' := [some (.ref v0), some (.int v1), some (.int v2), some (.int v3), some (.int v4), some (.int (v5 + (1 : Int32))), none]) (ft210 60 rfl) rfl (by decide) rfl ?_
        refine rn_goto (ft210 61 rfl) ?_
        exact rn_forget (ls := [some (.ref v0), some (.int v1), some (.int v2), some (.int v3), some (.int v4), some (.int (v5 + (1 : Int32))), none]) (And.intro rfl (And.intro rfl (And.intro rfl (And.intro rfl (And.intro rfl (And.intro rfl trivial)))))) (hrec41 v0 v1 v2 v3 v4 (v5 + (1 : Int32)) p26.2 _ h)
      · replace h := ifn c36 h
        refine rn_if_eq_f (ft210 50 rfl) c36 ?_
        refine rn_aload_n (ft210 51 rfl) rfl ?_
        refine rn_iload (ft210 52 rfl) rfl ?_
        refine rn_iload (ft210 53 rfl) rfl ?_
        refine rn_aload_n (ft210 54 rfl) rfl ?_
        obtain ⟨x28, q29, h⟩ := ob_some h
        refine rn_getR (ft210 55 rfl) q29 ?_
        refine rn_iload (ft210 56 rfl) rfl ?_
        refine rn_iload (ft210 57 rfl) rfl ?_
        obtain ⟨g35, h⟩ := ifg h
        obtain ⟨p30, q31, h⟩ := ob_some h
        refine rn_callV (as := [.int v5, .int v4]) (k0 := x28) (r := [.int v4, .int v5, .ref v0]) (v := (some (.int p30.1))) (w1 := p30.2) (ft210 58 rfl) (by decide +kernel) rfl (Nat.le_of_ble_eq_true rfl) (Nat.le_of_ble_eq_true rfl) (r200 n x28 v5 v4 p26.2 _ q31) (by decide +kernel) g35 ?_
        obtain ⟨g34, h⟩ := ifg h
        obtain ⟨p32, q33, h⟩ := ob_some h
        refine rn_callV (as := [.int v5, .int v4, .int p30.1]) (k0 := v0) (r := []) (v := none) (w1 := p32) (ft210 59 rfl) (by decide +kernel) rfl (Nat.le_of_ble_eq_true rfl) (Nat.le_of_ble_eq_true rfl) (r185 n v0 v5 v4 p30.1 p30.2 _ q33) (by decide +kernel) g34 ?_
        refine rn_iinc (u := 1) (ls' := [some (.ref v0), some (.int v1), some (.int v2), some (.int v3), some (.int v4), some (.int (v5 + (1 : Int32))), none]) (ft210 60 rfl) rfl (by decide) rfl ?_
        refine rn_goto (ft210 61 rfl) ?_
        exact rn_forget (ls := [some (.ref v0), some (.int v1), some (.int v2), some (.int v3), some (.int v4), some (.int (v5 + (1 : Int32))), none]) (And.intro rfl (And.intro rfl (And.intro rfl (And.intro rfl (And.intro rfl (And.intro rfl trivial)))))) (hrec41 v0 v1 v2 v3 v4 (v5 + (1 : Int32)) p32 _ h)
def f210_H64 (n : Nat)  (K34 : Nat → Int32 → Int32 → Int32 → Wd → Option (Int32 × Wd)) : Nat → Nat → Int32 → Int32 → Int32 → Int32 → Wd → Option (Int32 × Wd)
  | 0, _, _, _, _, _, _ => none
  | k + 1, v0, v1, v2, v3, v4, w =>
    (if (v3 - (1 : Int32)) ≤ v4 then K34 v0 v1 v2 v3 w
      else f210_H75 n (fun (v0 : Nat) (v1 : Int32) (v2 : Int32) (v3 : Int32) (v4 : Int32) w => f210_H64 n  K34 k v0 v1 v2 v3 v4 w) K34 (fun (e0_38 : Nat) (e1_38 : Int32) (e2_38 : Int32) (e3_38 : Int32) (e4_38 : Int32) (w38 : Wd) => (fun (v0 : Nat) (v1 : Int32) (v2 : Int32) (v3 : Int32) (v4 : Int32) w => f210_H64 n  K34 k v0 v1 v2 v3 v4 w) e0_38 e1_38 e2_38 e3_38 (e4_38 + (1 : Int32)) w38) n v0 v1 v2 v3 v4 (0 : Int32) w)
set_option maxRecDepth 10000 in
theorem rf210_H64 {S : Sc} (n : Nat)  (K34 : Nat → Int32 → Int32 → Int32 → Wd → Option (Int32 × Wd))  (hK34 : ∀ (y0 : Nat) (y1 : Int32) (y2 : Int32) (y3 : Int32) (w : Wd) (o : (Int32 × Wd)), K34 y0 y1 y2 y3 w = some o → Rn S 210 129 [some (.ref y0), some (.int y1), some (.int y2), some (.int y3), none, none, none] [] w (some (.int o.1), o.2)) : ∀ (k : Nat) (v0 : Nat) (v1 : Int32) (v2 : Int32) (v3 : Int32) (v4 : Int32) (w : Wd) (o : (Int32 × Wd)), f210_H64 n  K34 k v0 v1 v2 v3 v4 w = some o → Rn S 210 64 [some (.ref v0), some (.int v1), some (.int v2), some (.int v3), some (.int v4), none, none] [] w (some (.int o.1), o.2) := by
  intro k
  induction k with
  | zero =>
    intro v0 v1 v2 v3 v4 w o h
    exact nomatch h
  | succ k ih =>
    intro v0 v1 v2 v3 v4 w o h
    have hrec34 : ∀ (y0 : Nat) (y1 : Int32) (y2 : Int32) (y3 : Int32) (y4 : Int32) (w : Wd) (o : (Int32 × Wd)), (fun (v0 : Nat) (v1 : Int32) (v2 : Int32) (v3 : Int32) (v4 : Int32) w => f210_H64 n  K34 k v0 v1 v2 v3 v4 w) y0 y1 y2 y3 y4 w = some o → Rn S 210 64 [some (.ref y0), some (.int y1), some (.int y2), some (.int y3), some (.int y4), none, none] [] w (some (.int o.1), o.2) := fun y0 y1 y2 y3 y4 w o h => ih y0 y1 y2 y3 y4 w o h
    unfold f210_H64 at h
    refine rn_iload (ft210 34 rfl) rfl ?_
    refine rn_iload_n (ft210 35 rfl) rfl ?_
    refine rn_iconst (v := (1 : Int32)) (ft210 36 rfl) (by decide) ?_
    refine rn_isub (ft210 37 rfl) ?_
    by_cases c39 : (v3 - (1 : Int32)) ≤ v4
    · replace h := ifp c39 h
      refine rn_icmp_ge_t (ft210 38 rfl) c39 ?_
      exact rn_forget (ls := [some (.ref v0), some (.int v1), some (.int v2), some (.int v3), none, none, none]) (And.intro rfl (And.intro rfl (And.intro rfl (And.intro rfl trivial)))) (hK34 v0 v1 v2 v3 w _ h)
    · replace h := ifn c39 h
      refine rn_icmp_ge_f (ft210 38 rfl) c39 ?_
      refine rn_iconst (v := (0 : Int32)) (ft210 39 rfl) (by decide) ?_
      refine rn_istore (ls' := [some (.ref v0), some (.int v1), some (.int v2), some (.int v3), some (.int v4), some (.int (0 : Int32)), none]) (ft210 40 rfl) rfl ?_
      refine rn_forget (ls := [some (.ref v0), some (.int v1), some (.int v2), some (.int v3), some (.int v4), some (.int (0 : Int32)), none]) (And.intro rfl (And.intro rfl (And.intro rfl (And.intro rfl (And.intro rfl (And.intro rfl trivial)))))) (rf210_H75 n (fun (v0 : Nat) (v1 : Int32) (v2 : Int32) (v3 : Int32) (v4 : Int32) w => f210_H64 n  K34 k v0 v1 v2 v3 v4 w) K34 _ hrec34 hK34 (fun e0_38 e1_38 e2_38 e3_38 e4_38 w38 o h => ?_) n v0 v1 v2 v3 v4 (0 : Int32) w _ h)
      refine rn_iinc (u := 1) (ls' := [some (.ref e0_38), some (.int e1_38), some (.int e2_38), some (.int e3_38), some (.int (e4_38 + (1 : Int32))), none, none]) (ft210 62 rfl) rfl (by decide) rfl ?_
      refine rn_goto (ft210 63 rfl) ?_
      exact rn_forget (ls := [some (.ref e0_38), some (.int e1_38), some (.int e2_38), some (.int e3_38), some (.int (e4_38 + (1 : Int32))), none, none]) (And.intro rfl (And.intro rfl (And.intro rfl (And.intro rfl (And.intro rfl trivial))))) (hrec34 e0_38 e1_38 e2_38 e3_38 (e4_38 + (1 : Int32)) w38 _ h)
def f210_H171 (n : Nat) (rec83 : Nat → Int32 → Int32 → Int32 → Int32 → Wd → Option (Int32 × Wd)) (K83 : Nat → Int32 → Wd → Option (Int32 × Wd)) (K87 : Nat → Int32 → Int32 → Int32 → Int32 → Wd → Option (Int32 × Wd)) : Nat → Nat → Int32 → Int32 → Int32 → Int32 → Int32 → Wd → Option (Int32 × Wd)
  | 0, _, _, _, _, _, _, _ => none
  | k + 1, v0, v2, v3, v4, v5, v6, w =>
    (if (512 : Int32) ≤ v6 then K87 v0 v2 v3 v4 v5 w
      else ob (getR w 1 v0 3) (fun x53 => ob (aldI w x53 v6) (fun x55 => ob (f16 x55 v5 w) (fun p57 => (if ¬ p57.1 = 0 then ob (getR p57.2 1 v0 5) (fun x59 => ob (getR p57.2 1 v0 1) (fun x61 => (if (wsh p57.2 x61).map (fun q => q.1) = some 0 then ob (f200 n x61 v6 v5 p57.2) (fun p63 => (if (wsh p63.2 v0).map (fun q => q.1) = some 1 then ob (f186 n v0 v6 v5 (v4 * (v3 - v5)) p63.1 p63.2) (fun p65 => ob (astI p65.2 x59 v6 p65.1) (fun w67 => (fun (v0 : Nat) (v2 : Int32) (v3 : Int32) (v4 : Int32) (v5 : Int32) (v6 : Int32) w => f210_H171 n rec83 K83 K87 k v0 v2 v3 v4 v5 v6 w) v0 v2 v3 v4 v5 (v6 + (1 : Int32)) w67)) else none)) else none)))
        else (fun (v0 : Nat) (v2 : Int32) (v3 : Int32) (v4 : Int32) (v5 : Int32) (v6 : Int32) w => f210_H171 n rec83 K83 K87 k v0 v2 v3 v4 v5 v6 w) v0 v2 v3 v4 v5 (v6 + (1 : Int32)) p57.2)))))
set_option maxRecDepth 10000 in
theorem rf210_H171 {S : Sc} (n : Nat) (rec83 : Nat → Int32 → Int32 → Int32 → Int32 → Wd → Option (Int32 × Wd)) (K83 : Nat → Int32 → Wd → Option (Int32 × Wd)) (K87 : Nat → Int32 → Int32 → Int32 → Int32 → Wd → Option (Int32 × Wd)) (hrec83 : ∀ (y0 : Nat) (y2 : Int32) (y3 : Int32) (y4 : Int32) (y5 : Int32) (w : Wd) (o : (Int32 × Wd)), rec83 y0 y2 y3 y4 y5 w = some o → Rn S 210 163 [some (.ref y0), none, some (.int y2), some (.int y3), some (.int y4), some (.int y5), none] [] w (some (.int o.1), o.2)) (hK83 : ∀ (y0 : Nat) (y2 : Int32) (w : Wd) (o : (Int32 × Wd)), K83 y0 y2 w = some o → Rn S 210 258 [some (.ref y0), none, some (.int y2), none, none, none, none] [] w (some (.int o.1), o.2)) (hK87 : ∀ (y0 : Nat) (y2 : Int32) (y3 : Int32) (y4 : Int32) (y5 : Int32) (w : Wd) (o : (Int32 × Wd)), K87 y0 y2 y3 y4 y5 w = some o → Rn S 210 236 [some (.ref y0), none, some (.int y2), some (.int y3), some (.int y4), some (.int y5), none] [] w (some (.int o.1), o.2)) : ∀ (k : Nat) (v0 : Nat) (v2 : Int32) (v3 : Int32) (v4 : Int32) (v5 : Int32) (v6 : Int32) (w : Wd) (o : (Int32 × Wd)), f210_H171 n rec83 K83 K87 k v0 v2 v3 v4 v5 v6 w = some o → Rn S 210 171 [some (.ref v0), none, some (.int v2), some (.int v3), some (.int v4), some (.int v5), some (.int v6)] [] w (some (.int o.1), o.2) := by
  intro k
  induction k with
  | zero =>
    intro v0 v2 v3 v4 v5 v6 w o h
    exact nomatch h
  | succ k ih =>
    intro v0 v2 v3 v4 v5 v6 w o h
    have hrec87 : ∀ (y0 : Nat) (y2 : Int32) (y3 : Int32) (y4 : Int32) (y5 : Int32) (y6 : Int32) (w : Wd) (o : (Int32 × Wd)), (fun (v0 : Nat) (v2 : Int32) (v3 : Int32) (v4 : Int32) (v5 : Int32) (v6 : Int32) w => f210_H171 n rec83 K83 K87 k v0 v2 v3 v4 v5 v6 w) y0 y2 y3 y4 y5 y6 w = some o → Rn S 210 171 [some (.ref y0), none, some (.int y2), some (.int y3), some (.int y4), some (.int y5), some (.int y6)] [] w (some (.int o.1), o.2) := fun y0 y2 y3 y4 y5 y6 w o h => ih y0 y2 y3 y4 y5 y6 w o h
    unfold f210_H171 at h
    refine rn_iload (ft210 87 rfl) rfl ?_
    refine rn_sipush (v := (512 : Int32)) (ft210 88 rfl) (by decide) ?_
    by_cases c72 : (512 : Int32) ≤ v6
    · replace h := ifp c72 h
      refine rn_icmp_ge_t (ft210 89 rfl) c72 ?_
      exact rn_forget (ls := [some (.ref v0), none, some (.int v2), some (.int v3), some (.int v4), some (.int v5), none]) (And.intro rfl (And.intro rfl (And.intro rfl (And.intro rfl (And.intro rfl trivial))))) (hK87 v0 v2 v3 v4 v5 w _ h)
    · replace h := ifn c72 h
      refine rn_icmp_ge_f (ft210 89 rfl) c72 ?_
      refine rn_aload_n (ft210 90 rfl) rfl ?_
      obtain ⟨x53, q54, h⟩ := ob_some h
      refine rn_getR (ft210 91 rfl) q54 ?_
      refine rn_iload (ft210 92 rfl) rfl ?_
      obtain ⟨x55, q56, h⟩ := ob_some h
      refine rn_iaload (ft210 93 rfl) q56 ?_
      refine rn_iload (ft210 94 rfl) rfl ?_
      obtain ⟨p57, q58, h⟩ := ob_some h
      refine rn_callS (as := [.int x55, .int v5]) (r := []) (v := (some (.int p57.1))) (w1 := p57.2) (ft210 95 rfl) (by decide +kernel) rfl (Nat.le_of_ble_eq_true rfl) (Nat.le_of_ble_eq_true rfl) (r16 x55 v5 w _ q58) ?_
      by_cases c71 : ¬ p57.1 = 0
      · replace h := ifp c71 h
        refine rn_if_ne_t (ft210 96 rfl) c71 ?_
        refine rn_aload_n (ft210 98 rfl) rfl ?_
        obtain ⟨x59, q60, h⟩ := ob_some h
        refine rn_getR (ft210 99 rfl) q60 ?_
        refine rn_iload (ft210 100 rfl) rfl ?_
        refine rn_aload_n (ft210 101 rfl) rfl ?_
        refine rn_iload (ft210 102 rfl) rfl ?_
        refine rn_iload (ft210 103 rfl) rfl ?_
        refine rn_iload (ft210 104 rfl) rfl ?_
        refine rn_iload_n (ft210 105 rfl) rfl ?_
        refine rn_iload (ft210 106 rfl) rfl ?_
        refine rn_isub (ft210 107 rfl) ?_
        refine rn_imul (ft210 108 rfl) ?_
        refine rn_aload_n (ft210 109 rfl) rfl ?_
        obtain ⟨x61, q62, h⟩ := ob_some h
        refine rn_getR (ft210 110 rfl) q62 ?_
        refine rn_iload (ft210 111 rfl) rfl ?_
        refine rn_iload (ft210 112 rfl) rfl ?_
        obtain ⟨g70, h⟩ := ifg h
        obtain ⟨p63, q64, h⟩ := ob_some h
        refine rn_callV (as := [.int v6, .int v5]) (k0 := x61) (r := [.int (v4 * (v3 - v5)), .int v5, .int v6, .ref v0, .int v6, .ref x59]) (v := (some (.int p63.1))) (w1 := p63.2) (ft210 113 rfl) (by decide +kernel) rfl (Nat.le_of_ble_eq_true rfl) (Nat.le_of_ble_eq_true rfl) (r200 n x61 v6 v5 p57.2 _ q64) (by decide +kernel) g70 ?_
        obtain ⟨g69, h⟩ := ifg h
        obtain ⟨p65, q66, h⟩ := ob_some h
        refine rn_callV (as := [.int v6, .int v5, .int (v4 * (v3 - v5)), .int p63.1]) (k0 := v0) (r := [.int v6, .ref x59]) (v := (some (.int p65.1))) (w1 := p65.2) (ft210 114 rfl) (by decide +kernel) rfl (Nat.le_of_ble_eq_true rfl) (Nat.le_of_ble_eq_true rfl) (r186 n v0 v6 v5 (v4 * (v3 - v5)) p63.1 p63.2 _ q66) (by decide +kernel) g69 ?_
        obtain ⟨w67, q68, h⟩ := ob_some h
        refine rn_iastore (ft210 115 rfl) q68 ?_
        refine rn_iinc (u := 1) (ls' := [some (.ref v0), none, some (.int v2), some (.int v3), some (.int v4), some (.int v5), some (.int (v6 + (1 : Int32)))]) (ft210 116 rfl) rfl (by decide) rfl ?_
        refine rn_goto (ft210 117 rfl) ?_
        exact rn_forget (ls := [some (.ref v0), none, some (.int v2), some (.int v3), some (.int v4), some (.int v5), some (.int (v6 + (1 : Int32)))]) (And.intro rfl (And.intro rfl (And.intro rfl (And.intro rfl (And.intro rfl (And.intro rfl trivial)))))) (hrec87 v0 v2 v3 v4 v5 (v6 + (1 : Int32)) w67 _ h)
      · replace h := ifn c71 h
        refine rn_if_ne_f (ft210 96 rfl) c71 ?_
        refine rn_goto (ft210 97 rfl) ?_
        refine rn_iinc (u := 1) (ls' := [some (.ref v0), none, some (.int v2), some (.int v3), some (.int v4), some (.int v5), some (.int (v6 + (1 : Int32)))]) (ft210 116 rfl) rfl (by decide) rfl ?_
        refine rn_goto (ft210 117 rfl) ?_
        exact rn_forget (ls := [some (.ref v0), none, some (.int v2), some (.int v3), some (.int v4), some (.int v5), some (.int (v6 + (1 : Int32)))]) (And.intro rfl (And.intro rfl (And.intro rfl (And.intro rfl (And.intro rfl (And.intro rfl trivial)))))) (hrec87 v0 v2 v3 v4 v5 (v6 + (1 : Int32)) p57.2 _ h)
def f210_H163 (n : Nat)  (K83 : Nat → Int32 → Wd → Option (Int32 × Wd)) : Nat → Nat → Int32 → Int32 → Int32 → Int32 → Wd → Option (Int32 × Wd)
  | 0, _, _, _, _, _, _ => none
  | k + 1, v0, v2, v3, v4, v5, w =>
    (if v5 < 0 then K83 v0 v2 w
      else f210_H171 n (fun (v0 : Nat) (v2 : Int32) (v3 : Int32) (v4 : Int32) (v5 : Int32) w => f210_H163 n  K83 k v0 v2 v3 v4 v5 w) K83 (fun (e0_73 : Nat) (e2_73 : Int32) (e3_73 : Int32) (e4_73 : Int32) (e5_73 : Int32) (w73 : Wd) => ob (getR w73 1 e0_73 5) (fun x74 => ob (getR w73 1 e0_73 6) (fun x76 => ob (cpyI w73 x74 (0 : Int32) x76 (0 : Int32) (512 : Int32)) (fun w78 => (fun (v0 : Nat) (v2 : Int32) (v3 : Int32) (v4 : Int32) (v5 : Int32) w => f210_H163 n  K83 k v0 v2 v3 v4 v5 w) e0_73 e2_73 e3_73 e4_73 (e5_73 + (-1 : Int32)) w78)))) n v0 v2 v3 v4 v5 (0 : Int32) w)
set_option maxRecDepth 10000 in
theorem rf210_H163 {S : Sc} (n : Nat)  (K83 : Nat → Int32 → Wd → Option (Int32 × Wd))  (hK83 : ∀ (y0 : Nat) (y2 : Int32) (w : Wd) (o : (Int32 × Wd)), K83 y0 y2 w = some o → Rn S 210 258 [some (.ref y0), none, some (.int y2), none, none, none, none] [] w (some (.int o.1), o.2)) : ∀ (k : Nat) (v0 : Nat) (v2 : Int32) (v3 : Int32) (v4 : Int32) (v5 : Int32) (w : Wd) (o : (Int32 × Wd)), f210_H163 n  K83 k v0 v2 v3 v4 v5 w = some o → Rn S 210 163 [some (.ref v0), none, some (.int v2), some (.int v3), some (.int v4), some (.int v5), none] [] w (some (.int o.1), o.2) := by
  intro k
  induction k with
  | zero =>
    intro v0 v2 v3 v4 v5 w o h
    exact nomatch h
  | succ k ih =>
    intro v0 v2 v3 v4 v5 w o h
    have hrec83 : ∀ (y0 : Nat) (y2 : Int32) (y3 : Int32) (y4 : Int32) (y5 : Int32) (w : Wd) (o : (Int32 × Wd)), (fun (v0 : Nat) (v2 : Int32) (v3 : Int32) (v4 : Int32) (v5 : Int32) w => f210_H163 n  K83 k v0 v2 v3 v4 v5 w) y0 y2 y3 y4 y5 w = some o → Rn S 210 163 [some (.ref y0), none, some (.int y2), some (.int y3), some (.int y4), some (.int y5), none] [] w (some (.int o.1), o.2) := fun y0 y2 y3 y4 y5 w o h => ih y0 y2 y3 y4 y5 w o h
    unfold f210_H163 at h
    refine rn_iload (ft210 83 rfl) rfl ?_
    by_cases c80 : v5 < 0
    · replace h := ifp c80 h
      refine rn_if_lt_t (ft210 84 rfl) c80 ?_
      exact rn_forget (ls := [some (.ref v0), none, some (.int v2), none, none, none, none]) (And.intro rfl (And.intro rfl trivial)) (hK83 v0 v2 w _ h)
    · replace h := ifn c80 h
      refine rn_if_lt_f (ft210 84 rfl) c80 ?_
      refine rn_iconst (v := (0 : Int32)) (ft210 85 rfl) (by decide) ?_
      refine rn_istore (ls' := [some (.ref v0), none, some (.int v2), some (.int v3), some (.int v4), some (.int v5), some (.int (0 : Int32))]) (ft210 86 rfl) rfl ?_
      refine rn_forget (ls := [some (.ref v0), none, some (.int v2), some (.int v3), some (.int v4), some (.int v5), some (.int (0 : Int32))]) (And.intro rfl (And.intro rfl (And.intro rfl (And.intro rfl (And.intro rfl (And.intro rfl trivial)))))) (rf210_H171 n (fun (v0 : Nat) (v2 : Int32) (v3 : Int32) (v4 : Int32) (v5 : Int32) w => f210_H163 n  K83 k v0 v2 v3 v4 v5 w) K83 _ hrec83 hK83 (fun e0_73 e2_73 e3_73 e4_73 e5_73 w73 o h => ?_) n v0 v2 v3 v4 v5 (0 : Int32) w _ h)
      refine rn_aload_n (ft210 118 rfl) rfl ?_
      obtain ⟨x74, q75, h⟩ := ob_some h
      refine rn_getR (ft210 119 rfl) q75 ?_
      refine rn_iconst (v := (0 : Int32)) (ft210 120 rfl) (by decide) ?_
      refine rn_aload_n (ft210 121 rfl) rfl ?_
      obtain ⟨x76, q77, h⟩ := ob_some h
      refine rn_getR (ft210 122 rfl) q77 ?_
      refine rn_iconst (v := (0 : Int32)) (ft210 123 rfl) (by decide) ?_
      refine rn_sipush (v := (512 : Int32)) (ft210 124 rfl) (by decide) ?_
      obtain ⟨w78, q79, h⟩ := ob_some h
      refine rn_cpy (ft210 125 rfl) (Nat.le_of_ble_eq_true rfl) q79 ?_
      refine rn_iinc (u := (-1)) (ls' := [some (.ref e0_73), none, some (.int e2_73), some (.int e3_73), some (.int e4_73), some (.int (e5_73 + (-1 : Int32))), none]) (ft210 126 rfl) rfl (by decide) rfl ?_
      refine rn_goto (ft210 127 rfl) ?_
      exact rn_forget (ls := [some (.ref e0_73), none, some (.int e2_73), some (.int e3_73), some (.int e4_73), some (.int (e5_73 + (-1 : Int32))), none]) (And.intro rfl (And.intro rfl (And.intro rfl (And.intro rfl (And.intro rfl trivial))))) (hrec83 e0_73 e2_73 e3_73 e4_73 (e5_73 + (-1 : Int32)) w78 _ h)
def f210 (n : Nat) (v0 : Nat) (v1 : Int32) (v2 : Int32) (v3 : Int32) (w : Wd) : Option (Int32 × Wd) :=
  ob (f0 v2 (0 : Int32) (511 : Int32) w) (fun p1 => (if p1.1 = 0 then f210_H16 n  (fun (e0_13 : Nat) (e1_13 : Int32) (e2_13 : Int32) (e3_13 : Int32) (w13 : Wd) => ob (getR w13 1 e0_13 3) (fun x14 => ob (f14 n x14 (0 : Int32) w13) (fun p16 => ob (getR p16 1 e0_13 3) (fun x18 => ob (astI p16 x18 e2_13 (1 : Int32)) (fun w20 => f210_H64 n  (fun (e0_40 : Nat) (e1_40 : Int32) (e2_40 : Int32) (e3_40 : Int32) (w40 : Wd) => ob (getR w40 1 e0_40 6) (fun x41 => ob (f14 n x41 (0 : Int32) w40) (fun p43 => ob (getR p43 1 e0_40 4) (fun x45 => ob (f35 n x45 (0 : Int64) p43) (fun p47 => ob (getR p47 1 e0_40 0) (fun x49 => (if (wsh p47 x49).map (fun q => q.1) = some 6 then ob (f158 n x49 e1_40 p47) (fun p51 => f210_H163 n  (fun (e0_81 : Nat) (e2_81 : Int32) (w81 : Wd) => ob (getR w81 1 e0_81 6) (fun x82 => ob (aldI w81 x82 e2_81) (fun x84 => some (x84, w81)))) n e0_40 e2_40 e3_40 ((-99 : Int32) * p51.1) (e3_40 - (1 : Int32)) p51.2) else none))))))) n e0_13 e1_13 e2_13 e3_13 (0 : Int32) w20))))) n v0 v1 v2 v3 (0 : Int32) p1.2
    else some ((0 : Int32), p1.2)))
set_option maxRecDepth 10000 in
theorem r210 {S : Sc} (n : Nat) (v0 : Nat) (v1 : Int32) (v2 : Int32) (v3 : Int32) (w : Wd) (o : (Int32 × Wd)) (h : f210 n v0 v1 v2 v3 w = some o) : Rn S 210 0 [some (.ref v0), some (.int v1), some (.int v2), some (.int v3), none, none, none] [] w (some (.int o.1), o.2) := by
  unfold f210 at h
  refine rn_iload_n (ft210 0 rfl) rfl ?_
  refine rn_iconst (v := (0 : Int32)) (ft210 1 rfl) (by decide) ?_
  refine rn_sipush (v := (511 : Int32)) (ft210 2 rfl) (by decide) ?_
  obtain ⟨p1, q2, h⟩ := ob_some h
  refine rn_callS (as := [.int v2, .int (0 : Int32), .int (511 : Int32)]) (r := []) (v := (some (.int p1.1))) (w1 := p1.2) (ft210 3 rfl) (by decide +kernel) rfl (Nat.le_of_ble_eq_true rfl) (Nat.le_of_ble_eq_true rfl) (r0 v2 (0 : Int32) (511 : Int32) w _ q2) ?_
  by_cases c87 : p1.1 = 0
  · replace h := ifp c87 h
    refine rn_if_eq_t (ft210 4 rfl) c87 ?_
    refine rn_iconst (v := (0 : Int32)) (ft210 7 rfl) (by decide) ?_
    refine rn_istore (ls' := [some (.ref v0), some (.int v1), some (.int v2), some (.int v3), some (.int (0 : Int32)), none, none]) (ft210 8 rfl) rfl ?_
    refine rn_forget (ls := [some (.ref v0), some (.int v1), some (.int v2), some (.int v3), some (.int (0 : Int32)), none, none]) (And.intro rfl (And.intro rfl (And.intro rfl (And.intro rfl (And.intro rfl trivial))))) (rf210_H16 n  _  (fun e0_13 e1_13 e2_13 e3_13 w13 o h => ?_) n v0 v1 v2 v3 (0 : Int32) p1.2 _ h)
    refine rn_aload_n (ft210 23 rfl) rfl ?_
    obtain ⟨x14, q15, h⟩ := ob_some h
    refine rn_getR (ft210 24 rfl) q15 ?_
    refine rn_iconst (v := (0 : Int32)) (ft210 25 rfl) (by decide) ?_
    obtain ⟨p16, q17, h⟩ := ob_some h
    refine rn_callS (as := [.ref x14, .int (0 : Int32)]) (r := []) (v := none) (w1 := p16) (ft210 26 rfl) (by decide +kernel) rfl (Nat.le_of_ble_eq_true rfl) (Nat.le_of_ble_eq_true rfl) (r14 n x14 (0 : Int32) w13 _ q17) ?_
    refine rn_aload_n (ft210 27 rfl) rfl ?_
    obtain ⟨x18, q19, h⟩ := ob_some h
    refine rn_getR (ft210 28 rfl) q19 ?_
    refine rn_iload_n (ft210 29 rfl) rfl ?_
    refine rn_iconst (v := (1 : Int32)) (ft210 30 rfl) (by decide) ?_
    obtain ⟨w20, q21, h⟩ := ob_some h
    refine rn_iastore (ft210 31 rfl) q21 ?_
    refine rn_iconst (v := (0 : Int32)) (ft210 32 rfl) (by decide) ?_
    refine rn_istore (ls' := [some (.ref e0_13), some (.int e1_13), some (.int e2_13), some (.int e3_13), some (.int (0 : Int32)), none, none]) (ft210 33 rfl) rfl ?_
    refine rn_forget (ls := [some (.ref e0_13), some (.int e1_13), some (.int e2_13), some (.int e3_13), some (.int (0 : Int32)), none, none]) (And.intro rfl (And.intro rfl (And.intro rfl (And.intro rfl (And.intro rfl trivial))))) (rf210_H64 n  _  (fun e0_40 e1_40 e2_40 e3_40 w40 o h => ?_) n e0_13 e1_13 e2_13 e3_13 (0 : Int32) w20 _ h)
    refine rn_aload_n (ft210 64 rfl) rfl ?_
    obtain ⟨x41, q42, h⟩ := ob_some h
    refine rn_getR (ft210 65 rfl) q42 ?_
    refine rn_iconst (v := (0 : Int32)) (ft210 66 rfl) (by decide) ?_
    obtain ⟨p43, q44, h⟩ := ob_some h
    refine rn_callS (as := [.ref x41, .int (0 : Int32)]) (r := []) (v := none) (w1 := p43) (ft210 67 rfl) (by decide +kernel) rfl (Nat.le_of_ble_eq_true rfl) (Nat.le_of_ble_eq_true rfl) (r14 n x41 (0 : Int32) w40 _ q44) ?_
    refine rn_aload_n (ft210 68 rfl) rfl ?_
    obtain ⟨x45, q46, h⟩ := ob_some h
    refine rn_getR (ft210 69 rfl) q46 ?_
    refine rn_lconst (v := (0 : Int64)) (ft210 70 rfl) (by decide) ?_
    obtain ⟨p47, q48, h⟩ := ob_some h
    refine rn_callS (as := [.ref x45, .long (0 : Int64)]) (r := []) (v := none) (w1 := p47) (ft210 71 rfl) (by decide +kernel) rfl (Nat.le_of_ble_eq_true rfl) (Nat.le_of_ble_eq_true rfl) (r35 n x45 (0 : Int64) p43 _ q48) ?_
    refine rn_bipush (v := (-99 : Int32)) (ft210 72 rfl) (by decide) ?_
    refine rn_aload_n (ft210 73 rfl) rfl ?_
    obtain ⟨x49, q50, h⟩ := ob_some h
    refine rn_getR (ft210 74 rfl) q50 ?_
    refine rn_iload_n (ft210 75 rfl) rfl ?_
    obtain ⟨g86, h⟩ := ifg h
    obtain ⟨p51, q52, h⟩ := ob_some h
    refine rn_callV (as := [.int e1_40]) (k0 := x49) (r := [.int (-99 : Int32)]) (v := (some (.int p51.1))) (w1 := p51.2) (ft210 76 rfl) (by decide +kernel) rfl (Nat.le_of_ble_eq_true rfl) (Nat.le_of_ble_eq_true rfl) (r158 n x49 e1_40 p47 _ q52) (by decide +kernel) g86 ?_
    refine rn_imul (ft210 77 rfl) ?_
    refine rn_istore (ls' := [some (.ref e0_40), some (.int e1_40), some (.int e2_40), some (.int e3_40), some (.int ((-99 : Int32) * p51.1)), none, none]) (ft210 78 rfl) rfl ?_
    refine rn_iload_n (ft210 79 rfl) rfl ?_
    refine rn_iconst (v := (1 : Int32)) (ft210 80 rfl) (by decide) ?_
    refine rn_isub (ft210 81 rfl) ?_
    refine rn_istore (ls' := [some (.ref e0_40), some (.int e1_40), some (.int e2_40), some (.int e3_40), some (.int ((-99 : Int32) * p51.1)), some (.int (e3_40 - (1 : Int32))), none]) (ft210 82 rfl) rfl ?_
    refine rn_forget (ls := [some (.ref e0_40), none, some (.int e2_40), some (.int e3_40), some (.int ((-99 : Int32) * p51.1)), some (.int (e3_40 - (1 : Int32))), none]) (And.intro rfl (And.intro rfl (And.intro rfl (And.intro rfl (And.intro rfl trivial))))) (rf210_H163 n  _  (fun e0_81 e2_81 w81 o h => ?_) n e0_40 e2_40 e3_40 ((-99 : Int32) * p51.1) (e3_40 - (1 : Int32)) p51.2 _ h)
    refine rn_aload_n (ft210 128 rfl) rfl ?_
    obtain ⟨x82, q83, h⟩ := ob_some h
    refine rn_getR (ft210 129 rfl) q83 ?_
    refine rn_iload_n (ft210 130 rfl) rfl ?_
    obtain ⟨x84, q85, h⟩ := ob_some h
    refine rn_iaload (ft210 131 rfl) q85 ?_
    cases h
    exact rn_iretI pr210 (ft210 132 rfl)
  · replace h := ifn c87 h
    refine rn_if_eq_f (ft210 4 rfl) c87 ?_
    refine rn_iconst (v := (0 : Int32)) (ft210 5 rfl) (by decide) ?_
    cases h
    exact rn_iretI pr210 (ft210 6 rfl)
/-- NineWheelModel.takeSort(I)I -/
theorem ft211 : ∀ (i : Nat) {q : Nat × XI}, cd211[i]? = some q → fetch 211 q.1 = some q.2 := ft_of (by decide +kernel)
theorem pr211 : pRt 211 = some .int := rfl
def f211_H49 (n : Nat)  (K30 : Nat → Int32 → Int32 → Wd → Option (Int32 × Wd)) : Nat → Nat → Int32 → Int32 → Int32 → Wd → Option (Int32 × Wd)
  | 0, _, _, _, _, _ => none
  | k + 1, v0, v2, v3, v4, w =>
    (if (64 : Int32) ≤ v4 then K30 v0 v2 v3 w
      else ob (getR w 11 v0 31) (fun x17 => ob (astI w x17 (((64 : Int32) * v2) + v4) (0 : Int32)) (fun w19 => (fun (v0 : Nat) (v2 : Int32) (v3 : Int32) (v4 : Int32) w => f211_H49 n  K30 k v0 v2 v3 v4 w) v0 v2 v3 (v4 + (1 : Int32)) w19)))
set_option maxRecDepth 10000 in
theorem rf211_H49 {S : Sc} (n : Nat)  (K30 : Nat → Int32 → Int32 → Wd → Option (Int32 × Wd))  (hK30 : ∀ (y0 : Nat) (y2 : Int32) (y3 : Int32) (w : Wd) (o : (Int32 × Wd)), K30 y0 y2 y3 w = some o → Rn S 211 75 [some (.ref y0), none, some (.int y2), some (.int y3), none, none] [] w (some (.int o.1), o.2)) : ∀ (k : Nat) (v0 : Nat) (v2 : Int32) (v3 : Int32) (v4 : Int32) (w : Wd) (o : (Int32 × Wd)), f211_H49 n  K30 k v0 v2 v3 v4 w = some o → Rn S 211 49 [some (.ref v0), none, some (.int v2), some (.int v3), some (.int v4), none] [] w (some (.int o.1), o.2) := by
  intro k
  induction k with
  | zero =>
    intro v0 v2 v3 v4 w o h
    exact nomatch h
  | succ k ih =>
    intro v0 v2 v3 v4 w o h
    have hrec30 : ∀ (y0 : Nat) (y2 : Int32) (y3 : Int32) (y4 : Int32) (w : Wd) (o : (Int32 × Wd)), (fun (v0 : Nat) (v2 : Int32) (v3 : Int32) (v4 : Int32) w => f211_H49 n  K30 k v0 v2 v3 v4 w) y0 y2 y3 y4 w = some o → Rn S 211 49 [some (.ref y0), none, some (.int y2), some (.int y3), some (.int y4), none] [] w (some (.int o.1), o.2) := fun y0 y2 y3 y4 w o h => ih y0 y2 y3 y4 w o h
    unfold f211_H49 at h
    refine rn_iload (ft211 30 rfl) rfl ?_
    refine rn_bipush (v := (64 : Int32)) (ft211 31 rfl) (by decide) ?_
    by_cases c21 : (64 : Int32) ≤ v4
    · replace h := ifp c21 h
      refine rn_icmp_ge_t (ft211 32 rfl) c21 ?_
      exact rn_forget (ls := [some (.ref v0), none, some (.int v2), some (.int v3), none, none]) (And.intro rfl (And.intro rfl (And.intro rfl trivial))) (hK30 v0 v2 v3 w _ h)
    · replace h := ifn c21 h
      refine rn_icmp_ge_f (ft211 32 rfl) c21 ?_
      refine rn_aload_n (ft211 33 rfl) rfl ?_
      obtain ⟨x17, q18, h⟩ := ob_some h
      refine rn_getR (ft211 34 rfl) q18 ?_
      refine rn_bipush (v := (64 : Int32)) (ft211 35 rfl) (by decide) ?_
      refine rn_iload_n (ft211 36 rfl) rfl ?_
      refine rn_imul (ft211 37 rfl) ?_
      refine rn_iload (ft211 38 rfl) rfl ?_
      refine rn_iadd (ft211 39 rfl) ?_
      refine rn_iconst (v := (0 : Int32)) (ft211 40 rfl) (by decide) ?_
      obtain ⟨w19, q20, h⟩ := ob_some h
      refine rn_iastore (ft211 41 rfl) q20 ?_
      refine rn_iinc (u := 1) (ls' := [some (.ref v0), none, some (.int v2), some (.int v3), some (.int (v4 + (1 : Int32))), none]) (ft211 42 rfl) rfl (by decide) rfl ?_
      refine rn_goto (ft211 43 rfl) ?_
      exact rn_forget (ls := [some (.ref v0), none, some (.int v2), some (.int v3), some (.int (v4 + (1 : Int32))), none]) (And.intro rfl (And.intro rfl (And.intro rfl (And.intro rfl trivial)))) (hrec30 v0 v2 v3 (v4 + (1 : Int32)) w19 _ h)
def f211_J203 (n : Nat) (rec46 : Nat → Int32 → Int32 → Int32 → Wd → Option (Int32 × Wd)) (K46 : Nat → Int32 → Wd → Option (Int32 × Wd)) (v0 : Nat) (v2 : Int32) (v4 : Int32) (v5 : Int32) (s0 : Int32) (w : Wd) : Option (Int32 × Wd) :=
  ob (getR w 11 v0 30) (fun x45 => (if ¬ v5 = (1 : Int32) then ob (astI w x45 v2 (0 : Int32)) (fun w47 => rec46 v0 v2 s0 v4 w47)
    else ob (getI w 11 v0 20) (fun x49 => ob (astI w x45 v2 x49) (fun w51 => rec46 v0 v2 s0 v4 w51))))
set_option maxRecDepth 10000 in
theorem rf211_J203 {S : Sc} (n : Nat) (rec46 : Nat → Int32 → Int32 → Int32 → Wd → Option (Int32 × Wd)) (K46 : Nat → Int32 → Wd → Option (Int32 × Wd)) (v0 : Nat) (v2 : Int32) (v4 : Int32) (v5 : Int32) (s0 : Int32) (w : Wd) (o : (Int32 × Wd)) (hrec46 : ∀ (y0 : Nat) (y2 : Int32) (y3 : Int32) (y4 : Int32) (w : Wd) (o : (Int32 × Wd)), rec46 y0 y2 y3 y4 w = some o → Rn S 211 78 [some (.ref y0), none, some (.int y2), some (.int y3), some (.int y4), none] [] w (some (.int o.1), o.2)) (hK46 : ∀ (y0 : Nat) (y3 : Int32) (w : Wd) (o : (Int32 × Wd)), K46 y0 y3 w = some o → Rn S 211 227 [some (.ref y0), none, none, some (.int y3), none, none] [] w (some (.int o.1), o.2)) (h : f211_J203 n rec46 K46 v0 v2 v4 v5 s0 w = some o) : Rn S 211 203 [some (.ref v0), none, some (.int v2), none, some (.int v4), some (.int v5)] [.int s0] w (some (.int o.1), o.2) := by
  unfold f211_J203 at h
  refine rn_istore_n (ls' := [some (.ref v0), none, some (.int v2), some (.int s0), some (.int v4), some (.int v5)]) (ft211 107 rfl) rfl ?_
  refine rn_aload_n (ft211 108 rfl) rfl ?_
  obtain ⟨x45, q46, h⟩ := ob_some h
  refine rn_getR (ft211 109 rfl) q46 ?_
  refine rn_iload_n (ft211 110 rfl) rfl ?_
  refine rn_iload (ft211 111 rfl) rfl ?_
  refine rn_iconst (v := (1 : Int32)) (ft211 112 rfl) (by decide) ?_
  by_cases c53 : ¬ v5 = (1 : Int32)
  · replace h := ifp c53 h
    refine rn_icmp_ne_t (ft211 113 rfl) c53 ?_
    refine rn_iconst (v := (0 : Int32)) (ft211 117 rfl) (by decide) ?_
    obtain ⟨w47, q48, h⟩ := ob_some h
    refine rn_iastore (ft211 118 rfl) q48 ?_
    refine rn_goto (ft211 119 rfl) ?_
    exact rn_forget (ls := [some (.ref v0), none, some (.int v2), some (.int s0), some (.int v4), none]) (And.intro rfl (And.intro rfl (And.intro rfl (And.intro rfl trivial)))) (hrec46 v0 v2 s0 v4 w47 _ h)
  · replace h := ifn c53 h
    refine rn_icmp_ne_f (ft211 113 rfl) c53 ?_
    refine rn_aload_n (ft211 114 rfl) rfl ?_
    obtain ⟨x49, q50, h⟩ := ob_some h
    refine rn_getI (ft211 115 rfl) (by decide) (by decide) q50 ?_
    refine rn_goto (ft211 116 rfl) ?_
    obtain ⟨w51, q52, h⟩ := ob_some h
    refine rn_iastore (ft211 118 rfl) q52 ?_
    refine rn_goto (ft211 119 rfl) ?_
    exact rn_forget (ls := [some (.ref v0), none, some (.int v2), some (.int s0), some (.int v4), none]) (And.intro rfl (And.intro rfl (And.intro rfl (And.intro rfl trivial)))) (hrec46 v0 v2 s0 v4 w51 _ h)
def f211_J152 (n : Nat) (rec46 : Nat → Int32 → Int32 → Int32 → Wd → Option (Int32 × Wd)) (K46 : Nat → Int32 → Wd → Option (Int32 × Wd)) (v0 : Nat) (v2 : Int32) (v4 : Int32) (s0 : Int32) (w : Wd) : Option (Int32 × Wd) :=
  (if v4 < s0 then ob (getI w 11 v0 19) (fun x39 => ob (putI w 11 v0 17 x39) (fun w41 => (if ¬ s0 = 0 then (if (wsh w41 v0).map (fun q => q.1) = some 11 then ob (f161 n v0 (0 : Int32) (9 : Int32) w41) (fun p43 => f211_J203 n rec46 K46 v0 v2 s0 s0 p43.1 p43.2) else none)
      else (if (wsh w41 v0).map (fun q => q.1) = some 11 then ob (f202 n v0 v2 w41) (fun p55 => f211_J203 n rec46 K46 v0 v2 s0 s0 p55.1 p55.2) else none))))
    else ob (getI w 11 v0 17) (fun x59 => (if (wsh w v0).map (fun q => q.1) = some 11 then ob (f46 v0 (1 : Int32) x59 w) (fun p61 => some (p61.1, p61.2)) else none)))
set_option maxRecDepth 10000 in
theorem rf211_J152 {S : Sc} (n : Nat) (rec46 : Nat → Int32 → Int32 → Int32 → Wd → Option (Int32 × Wd)) (K46 : Nat → Int32 → Wd → Option (Int32 × Wd)) (v0 : Nat) (v2 : Int32) (v4 : Int32) (s0 : Int32) (w : Wd) (o : (Int32 × Wd)) (hrec46 : ∀ (y0 : Nat) (y2 : Int32) (y3 : Int32) (y4 : Int32) (w : Wd) (o : (Int32 × Wd)), rec46 y0 y2 y3 y4 w = some o → Rn S 211 78 [some (.ref y0), none, some (.int y2), some (.int y3), some (.int y4), none] [] w (some (.int o.1), o.2)) (hK46 : ∀ (y0 : Nat) (y3 : Int32) (w : Wd) (o : (Int32 × Wd)), K46 y0 y3 w = some o → Rn S 211 227 [some (.ref y0), none, none, some (.int y3), none, none] [] w (some (.int o.1), o.2)) (h : f211_J152 n rec46 K46 v0 v2 v4 s0 w = some o) : Rn S 211 152 [some (.ref v0), none, some (.int v2), none, some (.int v4), none] [.int s0] w (some (.int o.1), o.2) := by
  unfold f211_J152 at h
  refine rn_istore (ls' := [some (.ref v0), none, some (.int v2), none, some (.int v4), some (.int s0)]) (ft211 81 rfl) rfl ?_
  refine rn_iload (ft211 82 rfl) rfl ?_
  refine rn_iload (ft211 83 rfl) rfl ?_
  by_cases c64 : v4 < s0
  · replace h := ifp c64 h
    refine rn_icmp_gt_t (ft211 84 rfl) c64 ?_
    refine rn_iload (ft211 91 rfl) rfl ?_
    refine rn_istore (ls' := [some (.ref v0), none, some (.int v2), none, some (.int s0), some (.int s0)]) (ft211 92 rfl) rfl ?_
    refine rn_aload_n (ft211 93 rfl) rfl ?_
    refine rn_aload_n (ft211 94 rfl) rfl ?_
    obtain ⟨x39, q40, h⟩ := ob_some h
    refine rn_getI (ft211 95 rfl) (by decide) (by decide) q40 ?_
    obtain ⟨w41, q42, h⟩ := ob_some h
    refine rn_putI (ft211 96 rfl) q42 ?_
    refine rn_iload (ft211 97 rfl) rfl ?_
    by_cases c58 : ¬ s0 = 0
    · replace h := ifp c58 h
      refine rn_if_ne_t (ft211 98 rfl) c58 ?_
      refine rn_aload_n (ft211 103 rfl) rfl ?_
      refine rn_iconst (v := (0 : Int32)) (ft211 104 rfl) (by decide) ?_
      refine rn_bipush (v := (9 : Int32)) (ft211 105 rfl) (by decide) ?_
      obtain ⟨g54, h⟩ := ifg h
      obtain ⟨p43, q44, h⟩ := ob_some h
      refine rn_callV (as := [.int (0 : Int32), .int (9 : Int32)]) (k0 := v0) (r := []) (v := (some (.int p43.1))) (w1 := p43.2) (ft211 106 rfl) (by decide +kernel) rfl (Nat.le_of_ble_eq_true rfl) (Nat.le_of_ble_eq_true rfl) (r161 n v0 (0 : Int32) (9 : Int32) w41 _ q44) (by decide +kernel) g54 ?_
      exact rn_forget (ls := [some (.ref v0), none, some (.int v2), none, some (.int s0), some (.int s0)]) (And.intro rfl (And.intro rfl (And.intro rfl (And.intro rfl trivial)))) (rf211_J203 n rec46 K46 v0 v2 s0 s0 p43.1 p43.2 _ hrec46 hK46 h)
    · replace h := ifn c58 h
      refine rn_if_ne_f (ft211 98 rfl) c58 ?_
      refine rn_aload_n (ft211 99 rfl) rfl ?_
      refine rn_iload_n (ft211 100 rfl) rfl ?_
      obtain ⟨g57, h⟩ := ifg h
      obtain ⟨p55, q56, h⟩ := ob_some h
      refine rn_callV (as := [.int v2]) (k0 := v0) (r := []) (v := (some (.int p55.1))) (w1 := p55.2) (ft211 101 rfl) (by decide +kernel) rfl (Nat.le_of_ble_eq_true rfl) (Nat.le_of_ble_eq_true rfl) (r202 n v0 v2 w41 _ q56) (by decide +kernel) g57 ?_
      refine rn_goto (ft211 102 rfl) ?_
      exact rn_forget (ls := [some (.ref v0), none, some (.int v2), none, some (.int s0), some (.int s0)]) (And.intro rfl (And.intro rfl (And.intro rfl (And.intro rfl trivial)))) (rf211_J203 n rec46 K46 v0 v2 s0 s0 p55.1 p55.2 _ hrec46 hK46 h)
  · replace h := ifn c64 h
    refine rn_icmp_gt_f (ft211 84 rfl) c64 ?_
    refine rn_aload_n (ft211 85 rfl) rfl ?_
    refine rn_iconst (v := (1 : Int32)) (ft211 86 rfl) (by decide) ?_
    refine rn_aload_n (ft211 87 rfl) rfl ?_
    obtain ⟨x59, q60, h⟩ := ob_some h
    refine rn_getI (ft211 88 rfl) (by decide) (by decide) q60 ?_
    obtain ⟨g63, h⟩ := ifg h
    obtain ⟨p61, q62, h⟩ := ob_some h
    refine rn_callV (as := [.int (1 : Int32), .int x59]) (k0 := v0) (r := []) (v := (some (.int p61.1))) (w1 := p61.2) (ft211 89 rfl) (by decide +kernel) rfl (Nat.le_of_ble_eq_true rfl) (Nat.le_of_ble_eq_true rfl) (r46 v0 (1 : Int32) x59 w _ q62) (by decide +kernel) g63 ?_
    cases h
    exact rn_iretI pr211 (ft211 90 rfl)
def f211_H78 (n : Nat)  (K46 : Nat → Int32 → Wd → Option (Int32 × Wd)) : Nat → Nat → Int32 → Int32 → Int32 → Wd → Option (Int32 × Wd)
  | 0, _, _, _, _, _ => none
  | k + 1, v0, v2, v3, v4, w =>
    (if ¬ v3 = 0 then K46 v0 v3 w
      else (if (wsh w v0).map (fun q => q.1) = some 11 then ob (f42 n v0 w) (fun p23 => (if p23.1 = (59 : Int32) then K46 v0 v3 p23.2
        else (if (wsh p23.2 v0).map (fun q => q.1) = some 11 then ob (f111 n v0 p23.2) (fun p25 => ob (getL p25 11 v0 18) (fun x27 => ob (f43 (108 : Int32) (105 : Int32) (107 : Int32) (101 : Int32) p25) (fun p29 => ob (f44 p29.1 (115 : Int32) p29.2) (fun p31 => (if ¬ (lg_cmp x27 p31.1) = 0 then ob (getL p31.2 11 v0 18) (fun x33 => ob (f43 (102 : Int32) (101 : Int32) (97 : Int32) (114 : Int32) p31.2) (fun p35 => ob (f44 p35.1 (115 : Int32) p35.2) (fun p37 => (if ¬ (lg_cmp x33 p37.1) = 0 then f211_J152 n (fun (v0 : Nat) (v2 : Int32) (v3 : Int32) (v4 : Int32) w => f211_H78 n  K46 k v0 v2 v3 v4 w) K46 v0 v2 v4 (-1 : Int32) p37.2
            else f211_J152 n (fun (v0 : Nat) (v2 : Int32) (v3 : Int32) (v4 : Int32) w => f211_H78 n  K46 k v0 v2 v3 v4 w) K46 v0 v2 v4 (1 : Int32) p37.2))))
          else f211_J152 n (fun (v0 : Nat) (v2 : Int32) (v3 : Int32) (v4 : Int32) w => f211_H78 n  K46 k v0 v2 v3 v4 w) K46 v0 v2 v4 (0 : Int32) p31.2))))) else none))) else none))
set_option maxRecDepth 10000 in
theorem rf211_H78 {S : Sc} (n : Nat)  (K46 : Nat → Int32 → Wd → Option (Int32 × Wd))  (hK46 : ∀ (y0 : Nat) (y3 : Int32) (w : Wd) (o : (Int32 × Wd)), K46 y0 y3 w = some o → Rn S 211 227 [some (.ref y0), none, none, some (.int y3), none, none] [] w (some (.int o.1), o.2)) : ∀ (k : Nat) (v0 : Nat) (v2 : Int32) (v3 : Int32) (v4 : Int32) (w : Wd) (o : (Int32 × Wd)), f211_H78 n  K46 k v0 v2 v3 v4 w = some o → Rn S 211 78 [some (.ref v0), none, some (.int v2), some (.int v3), some (.int v4), none] [] w (some (.int o.1), o.2) := by
  intro k
  induction k with
  | zero =>
    intro v0 v2 v3 v4 w o h
    exact nomatch h
  | succ k ih =>
    intro v0 v2 v3 v4 w o h
    have hrec46 : ∀ (y0 : Nat) (y2 : Int32) (y3 : Int32) (y4 : Int32) (w : Wd) (o : (Int32 × Wd)), (fun (v0 : Nat) (v2 : Int32) (v3 : Int32) (v4 : Int32) w => f211_H78 n  K46 k v0 v2 v3 v4 w) y0 y2 y3 y4 w = some o → Rn S 211 78 [some (.ref y0), none, some (.int y2), some (.int y3), some (.int y4), none] [] w (some (.int o.1), o.2) := fun y0 y2 y3 y4 w o h => ih y0 y2 y3 y4 w o h
    unfold f211_H78 at h
    refine rn_iload_n (ft211 46 rfl) rfl ?_
    by_cases c70 : ¬ v3 = 0
    · replace h := ifp c70 h
      refine rn_if_ne_t (ft211 47 rfl) c70 ?_
      exact rn_forget (ls := [some (.ref v0), none, none, some (.int v3), none, none]) (And.intro rfl (And.intro rfl trivial)) (hK46 v0 v3 w _ h)
    · replace h := ifn c70 h
      refine rn_if_ne_f (ft211 47 rfl) c70 ?_
      refine rn_aload_n (ft211 48 rfl) rfl ?_
      obtain ⟨g69, h⟩ := ifg h
      obtain ⟨p23, q24, h⟩ := ob_some h
      refine rn_callV (as := []) (k0 := v0) (r := []) (v := (some (.int p23.1))) (w1 := p23.2) (ft211 49 rfl) (by decide +kernel) rfl (Nat.le_of_ble_eq_true rfl) (Nat.le_of_ble_eq_true rfl) (r42 n v0 w _ q24) (by decide +kernel) g69 ?_
      refine rn_bipush (v := (59 : Int32)) (ft211 50 rfl) (by decide) ?_
      by_cases c68 : p23.1 = (59 : Int32)
      · replace h := ifp c68 h
        refine rn_icmp_eq_t (ft211 51 rfl) c68 ?_
        exact rn_forget (ls := [some (.ref v0), none, none, some (.int v3), none, none]) (And.intro rfl (And.intro rfl trivial)) (hK46 v0 v3 p23.2 _ h)
      · replace h := ifn c68 h
        refine rn_icmp_eq_f (ft211 51 rfl) c68 ?_
        refine rn_aload_n (ft211 52 rfl) rfl ?_
        obtain ⟨g67, h⟩ := ifg h
        obtain ⟨p25, q26, h⟩ := ob_some h
        refine rn_callV (as := []) (k0 := v0) (r := []) (v := none) (w1 := p25) (ft211 53 rfl) (by decide +kernel) rfl (Nat.le_of_ble_eq_true rfl) (Nat.le_of_ble_eq_true rfl) (r111 n v0 p23.2 _ q26) (by decide +kernel) g67 ?_
        refine rn_aload_n (ft211 54 rfl) rfl ?_
        obtain ⟨x27, q28, h⟩ := ob_some h
        refine rn_getL (ft211 55 rfl) q28 ?_
        refine rn_bipush (v := (108 : Int32)) (ft211 56 rfl) (by decide) ?_
        refine rn_bipush (v := (105 : Int32)) (ft211 57 rfl) (by decide) ?_
        refine rn_bipush (v := (107 : Int32)) (ft211 58 rfl) (by decide) ?_
        refine rn_bipush (v := (101 : Int32)) (ft211 59 rfl) (by decide) ?_
        obtain ⟨p29, q30, h⟩ := ob_some h
        refine rn_callS (as := [.int (108 : Int32), .int (105 : Int32), .int (107 : Int32), .int (101 : Int32)]) (r := [.long x27]) (v := (some (.long p29.1))) (w1 := p29.2) (ft211 60 rfl) (by decide +kernel) rfl (Nat.le_of_ble_eq_true rfl) (Nat.le_of_ble_eq_true rfl) (r43 (108 : Int32) (105 : Int32) (107 : Int32) (101 : Int32) p25 _ q30) ?_
        refine rn_bipush (v := (115 : Int32)) (ft211 61 rfl) (by decide) ?_
        obtain ⟨p31, q32, h⟩ := ob_some h
        refine rn_callS (as := [.long p29.1, .int (115 : Int32)]) (r := [.long x27]) (v := (some (.long p31.1))) (w1 := p31.2) (ft211 62 rfl) (by decide +kernel) rfl (Nat.le_of_ble_eq_true rfl) (Nat.le_of_ble_eq_true rfl) (r44 p29.1 (115 : Int32) p29.2 _ q32) ?_
        refine rn_lcmp (ft211 63 rfl) ?_
        by_cases c66 : ¬ (lg_cmp x27 p31.1) = 0
        · replace h := ifp c66 h
          refine rn_if_ne_t (ft211 64 rfl) c66 ?_
          refine rn_aload_n (ft211 67 rfl) rfl ?_
          obtain ⟨x33, q34, h⟩ := ob_some h
          refine rn_getL (ft211 68 rfl) q34 ?_
          refine rn_bipush (v := (102 : Int32)) (ft211 69 rfl) (by decide) ?_
          refine rn_bipush (v := (101 : Int32)) (ft211 70 rfl) (by decide) ?_
          refine rn_bipush (v := (97 : Int32)) (ft211 71 rfl) (by decide) ?_
          refine rn_bipush (v := (114 : Int32)) (ft211 72 rfl) (by decide) ?_
          obtain ⟨p35, q36, h⟩ := ob_some h
          refine rn_callS (as := [.int (102 : Int32), .int (101 : Int32), .int (97 : Int32), .int (114 : Int32)]) (r := [.long x33]) (v := (some (.long p35.1))) (w1 := p35.2) (ft211 73 rfl) (by decide +kernel) rfl (Nat.le_of_ble_eq_true rfl) (Nat.le_of_ble_eq_true rfl) (r43 (102 : Int32) (101 : Int32) (97 : Int32) (114 : Int32) p31.2 _ q36) ?_
          refine rn_bipush (v := (115 : Int32)) (ft211 74 rfl) (by decide) ?_
          obtain ⟨p37, q38, h⟩ := ob_some h
          refine rn_callS (as := [.long p35.1, .int (115 : Int32)]) (r := [.long x33]) (v := (some (.long p37.1))) (w1 := p37.2) (ft211 75 rfl) (by decide +kernel) rfl (Nat.le_of_ble_eq_true rfl) (Nat.le_of_ble_eq_true rfl) (r44 p35.1 (115 : Int32) p35.2 _ q38) ?_
          refine rn_lcmp (ft211 76 rfl) ?_
          by_cases c65 : ¬ (lg_cmp x33 p37.1) = 0
          · replace h := ifp c65 h
            refine rn_if_ne_t (ft211 77 rfl) c65 ?_
            refine rn_iconst (v := (-1 : Int32)) (ft211 80 rfl) (by decide) ?_
            exact rn_forget (ls := [some (.ref v0), none, some (.int v2), none, some (.int v4), none]) (And.intro rfl (And.intro rfl (And.intro rfl trivial))) (rf211_J152 n (fun (v0 : Nat) (v2 : Int32) (v3 : Int32) (v4 : Int32) w => f211_H78 n  K46 k v0 v2 v3 v4 w) K46 v0 v2 v4 (-1 : Int32) p37.2 _ hrec46 hK46 h)
          · replace h := ifn c65 h
            refine rn_if_ne_f (ft211 77 rfl) c65 ?_
            refine rn_iconst (v := (1 : Int32)) (ft211 78 rfl) (by decide) ?_
            refine rn_goto (ft211 79 rfl) ?_
            exact rn_forget (ls := [some (.ref v0), none, some (.int v2), none, some (.int v4), none]) (And.intro rfl (And.intro rfl (And.intro rfl trivial))) (rf211_J152 n (fun (v0 : Nat) (v2 : Int32) (v3 : Int32) (v4 : Int32) w => f211_H78 n  K46 k v0 v2 v3 v4 w) K46 v0 v2 v4 (1 : Int32) p37.2 _ hrec46 hK46 h)
        · replace h := ifn c66 h
          refine rn_if_ne_f (ft211 64 rfl) c66 ?_
          refine rn_iconst (v := (0 : Int32)) (ft211 65 rfl) (by decide) ?_
          refine rn_goto (ft211 66 rfl) ?_
          exact rn_forget (ls := [some (.ref v0), none, some (.int v2), none, some (.int v4), none]) (And.intro rfl (And.intro rfl (And.intro rfl trivial))) (rf211_J152 n (fun (v0 : Nat) (v2 : Int32) (v3 : Int32) (v4 : Int32) w => f211_H78 n  K46 k v0 v2 v3 v4 w) K46 v0 v2 v4 (0 : Int32) p31.2 _ hrec46 hK46 h)
def f211_J227 (n : Nat)  (v0 : Nat) (v3 : Int32) (w : Wd) : Option (Int32 × Wd) :=
  ob (getI w 11 v0 28) (fun x72 => ob (putI w 11 v0 28 (x72 + (1 : Int32))) (fun w74 => some (v3, w74)))
set_option maxRecDepth 10000 in
theorem rf211_J227 {S : Sc} (n : Nat)  (v0 : Nat) (v3 : Int32) (w : Wd) (o : (Int32 × Wd))  (h : f211_J227 n  v0 v3 w = some o) : Rn S 211 227 [some (.ref v0), none, none, some (.int v3), none, none] [] w (some (.int o.1), o.2) := by
  unfold f211_J227 at h
  refine rn_aload_n (ft211 120 rfl) rfl ?_
  refine rn_dup (ft211 121 rfl) rfl ?_
  obtain ⟨x72, q73, h⟩ := ob_some h
  refine rn_getI (ft211 122 rfl) (by decide) (by decide) q73 ?_
  refine rn_iconst (v := (1 : Int32)) (ft211 123 rfl) (by decide) ?_
  refine rn_iadd (ft211 124 rfl) ?_
  obtain ⟨w74, q75, h⟩ := ob_some h
  refine rn_putI (ft211 125 rfl) q75 ?_
  refine rn_iload_n (ft211 126 rfl) rfl ?_
  cases h
  exact rn_iretI pr211 (ft211 127 rfl)
def f211 (n : Nat) (v0 : Nat) (v1 : Int32) (w : Wd) : Option (Int32 × Wd) :=
  ob (getI w 11 v0 28) (fun x1 => (if ¬ x1 = (6 : Int32) then ob (getI w 11 v0 28) (fun x3 => (if (wsh w v0).map (fun q => q.1) = some 11 then ob (f161 n v0 (1 : Int32) (9 : Int32) w) (fun p5 => ob (getR p5.2 11 v0 29) (fun x7 => ob (getI p5.2 11 v0 20) (fun x9 => ob (astI p5.2 x7 x3 x9) (fun w11 => ob (getR w11 11 v0 30) (fun x13 => ob (astI w11 x13 x3 (0 : Int32)) (fun w15 => f211_H49 n  (fun (e0_22 : Nat) (e2_22 : Int32) (e3_22 : Int32) (w22 : Wd) => f211_H78 n  (fun (e0_71 : Nat) (e3_71 : Int32) (w71 : Wd) => f211_J227 n  e0_71 e3_71 w71) n e0_22 e2_22 e3_22 (-1 : Int32) w22) n v0 x3 p5.1 (0 : Int32) w15)))))) else none))
    else (if (wsh w v0).map (fun q => q.1) = some 11 then ob (f46 v0 (3 : Int32) v1 w) (fun p77 => some (p77.1, p77.2)) else none)))
set_option maxRecDepth 10000 in
theorem r211 {S : Sc} (n : Nat) (v0 : Nat) (v1 : Int32) (w : Wd) (o : (Int32 × Wd)) (h : f211 n v0 v1 w = some o) : Rn S 211 0 [some (.ref v0), some (.int v1), none, none, none, none] [] w (some (.int o.1), o.2) := by
  unfold f211 at h
  refine rn_aload_n (ft211 0 rfl) rfl ?_
  obtain ⟨x1, q2, h⟩ := ob_some h
  refine rn_getI (ft211 1 rfl) (by decide) (by decide) q2 ?_
  refine rn_bipush (v := (6 : Int32)) (ft211 2 rfl) (by decide) ?_
  by_cases c80 : ¬ x1 = (6 : Int32)
  · replace h := ifp c80 h
    refine rn_icmp_ne_t (ft211 3 rfl) c80 ?_
    refine rn_aload_n (ft211 9 rfl) rfl ?_
    obtain ⟨x3, q4, h⟩ := ob_some h
    refine rn_getI (ft211 10 rfl) (by decide) (by decide) q4 ?_
    refine rn_istore_n (ls' := [some (.ref v0), some (.int v1), some (.int x3), none, none, none]) (ft211 11 rfl) rfl ?_
    refine rn_aload_n (ft211 12 rfl) rfl ?_
    refine rn_iconst (v := (1 : Int32)) (ft211 13 rfl) (by decide) ?_
    refine rn_bipush (v := (9 : Int32)) (ft211 14 rfl) (by decide) ?_
    obtain ⟨g76, h⟩ := ifg h
    obtain ⟨p5, q6, h⟩ := ob_some h
    refine rn_callV (as := [.int (1 : Int32), .int (9 : Int32)]) (k0 := v0) (r := []) (v := (some (.int p5.1))) (w1 := p5.2) (ft211 15 rfl) (by decide +kernel) rfl (Nat.le_of_ble_eq_true rfl) (Nat.le_of_ble_eq_true rfl) (r161 n v0 (1 : Int32) (9 : Int32) w _ q6) (by decide +kernel) g76 ?_
    refine rn_istore_n (ls' := [some (.ref v0), some (.int v1), some (.int x3), some (.int p5.1), none, none]) (ft211 16 rfl) rfl ?_
    refine rn_aload_n (ft211 17 rfl) rfl ?_
    obtain ⟨x7, q8, h⟩ := ob_some h
    refine rn_getR (ft211 18 rfl) q8 ?_
    refine rn_iload_n (ft211 19 rfl) rfl ?_
    refine rn_aload_n (ft211 20 rfl) rfl ?_
    obtain ⟨x9, q10, h⟩ := ob_some h
    refine rn_getI (ft211 21 rfl) (by decide) (by decide) q10 ?_
    obtain ⟨w11, q12, h⟩ := ob_some h
    refine rn_iastore (ft211 22 rfl) q12 ?_
    refine rn_aload_n (ft211 23 rfl) rfl ?_
    obtain ⟨x13, q14, h⟩ := ob_some h
    refine rn_getR (ft211 24 rfl) q14 ?_
    refine rn_iload_n (ft211 25 rfl) rfl ?_
    refine rn_iconst (v := (0 : Int32)) (ft211 26 rfl) (by decide) ?_
    obtain ⟨w15, q16, h⟩ := ob_some h
    refine rn_iastore (ft211 27 rfl) q16 ?_
    refine rn_iconst (v := (0 : Int32)) (ft211 28 rfl) (by decide) ?_
    refine rn_istore (ls' := [some (.ref v0), some (.int v1), some (.int x3), some (.int p5.1), some (.int (0 : Int32)), none]) (ft211 29 rfl) rfl ?_
    refine rn_forget (ls := [some (.ref v0), none, some (.int x3), some (.int p5.1), some (.int (0 : Int32)), none]) (And.intro rfl (And.intro rfl (And.intro rfl (And.intro rfl trivial)))) (rf211_H49 n  _  (fun e0_22 e2_22 e3_22 w22 o h => ?_) n v0 x3 p5.1 (0 : Int32) w15 _ h)
    refine rn_iconst (v := (-1 : Int32)) (ft211 44 rfl) (by decide) ?_
    refine rn_istore (ls' := [some (.ref e0_22), none, some (.int e2_22), some (.int e3_22), some (.int (-1 : Int32)), none]) (ft211 45 rfl) rfl ?_
    refine rn_forget (ls := [some (.ref e0_22), none, some (.int e2_22), some (.int e3_22), some (.int (-1 : Int32)), none]) (And.intro rfl (And.intro rfl (And.intro rfl (And.intro rfl trivial)))) (rf211_H78 n  _  (fun e0_71 e3_71 w71 o h => ?_) n e0_22 e2_22 e3_22 (-1 : Int32) w22 _ h)
    exact rn_forget (ls := [some (.ref e0_71), none, none, some (.int e3_71), none, none]) (And.intro rfl (And.intro rfl trivial)) (rf211_J227 n  e0_71 e3_71 w71 _  h)
  · replace h := ifn c80 h
    refine rn_icmp_ne_f (ft211 3 rfl) c80 ?_
    refine rn_aload_n (ft211 4 rfl) rfl ?_
    refine rn_iconst (v := (3 : Int32)) (ft211 5 rfl) (by decide) ?_
    refine rn_iload_n (ft211 6 rfl) rfl ?_
    obtain ⟨g79, h⟩ := ifg h
    obtain ⟨p77, q78, h⟩ := ob_some h
    refine rn_callV (as := [.int (3 : Int32), .int v1]) (k0 := v0) (r := []) (v := (some (.int p77.1))) (w1 := p77.2) (ft211 7 rfl) (by decide +kernel) rfl (Nat.le_of_ble_eq_true rfl) (Nat.le_of_ble_eq_true rfl) (r46 v0 (3 : Int32) v1 w _ q78) (by decide +kernel) g79 ?_
    cases h
    exact rn_iretI pr211 (ft211 8 rfl)
/-- NineWheelModel.presses(III)I -/
theorem ft212 : ∀ (i : Nat) {q : Nat × XI}, cd212[i]? = some q → fetch 212 q.1 = some q.2 := ft_of (by decide +kernel)
theorem pr212 : pRt 212 = some .int := rfl
def f212 (n : Nat) (v0 : Nat) (v1 : Int32) (v2 : Int32) (v3 : Int32) (w : Wd) : Option (Int32 × Wd) :=
  (if (wsh w v0).map (fun q => q.1) = some 11 then ob (f121 v0 v1 w) (fun p1 => (if p1.1 = 0 then some ((-1000001 : Int32), p1.2)
    else ob (f118 v2 p1.2) (fun p3 => (if ¬ p3.1 = 0 then ob (f122 v3 p3.2) (fun p5 => (if ¬ p5.1 = 0 then ob (getR p5.2 11 v0 2) (fun x7 => ob (aldB p5.2 x7 v2) (fun x9 => (if x9 = 0 then (if (wsh p5.2 v0).map (fun q => q.1) = some 11 then ob (f203 n v0 v2 v3 p5.2) (fun p11 => ob (getR p11 11 v0 36) (fun x13 => ob (aldI p11 x13 v1) (fun x15 => some (x15, p11)))) else none)
          else some ((-1000003 : Int32), p5.2))))
        else some ((-1000002 : Int32), p5.2)))
      else some ((-1000001 : Int32), p3.2))))) else none)
set_option maxRecDepth 10000 in
theorem r212 {S : Sc} (n : Nat) (v0 : Nat) (v1 : Int32) (v2 : Int32) (v3 : Int32) (w : Wd) (o : (Int32 × Wd)) (h : f212 n v0 v1 v2 v3 w = some o) : Rn S 212 0 [some (.ref v0), some (.int v1), some (.int v2), some (.int v3)] [] w (some (.int o.1), o.2) := by
  unfold f212 at h
  refine rn_aload_n (ft212 0 rfl) rfl ?_
  refine rn_iload_n (ft212 1 rfl) rfl ?_
  obtain ⟨g22, h⟩ := ifg h
  obtain ⟨p1, q2, h⟩ := ob_some h
  refine rn_callV (as := [.int v1]) (k0 := v0) (r := []) (v := (some (.int p1.1))) (w1 := p1.2) (ft212 2 rfl) (by decide +kernel) rfl (Nat.le_of_ble_eq_true rfl) (Nat.le_of_ble_eq_true rfl) (r121 v0 v1 w _ q2) (by decide +kernel) g22 ?_
  by_cases c21 : p1.1 = 0
  · replace h := ifp c21 h
    refine rn_if_eq_t (ft212 3 rfl) c21 ?_
    refine rn_ldcw (v := (-1000001 : Int32)) (ft212 7 rfl) (by decide) ?_
    cases h
    exact rn_iretI pr212 (ft212 8 rfl)
  · replace h := ifn c21 h
    refine rn_if_eq_f (ft212 3 rfl) c21 ?_
    refine rn_iload_n (ft212 4 rfl) rfl ?_
    obtain ⟨p3, q4, h⟩ := ob_some h
    refine rn_callS (as := [.int v2]) (r := []) (v := (some (.int p3.1))) (w1 := p3.2) (ft212 5 rfl) (by decide +kernel) rfl (Nat.le_of_ble_eq_true rfl) (Nat.le_of_ble_eq_true rfl) (r118 v2 p1.2 _ q4) ?_
    by_cases c20 : ¬ p3.1 = 0
    · replace h := ifp c20 h
      refine rn_if_ne_t (ft212 6 rfl) c20 ?_
      refine rn_iload_n (ft212 9 rfl) rfl ?_
      obtain ⟨p5, q6, h⟩ := ob_some h
      refine rn_callS (as := [.int v3]) (r := []) (v := (some (.int p5.1))) (w1 := p5.2) (ft212 10 rfl) (by decide +kernel) rfl (Nat.le_of_ble_eq_true rfl) (Nat.le_of_ble_eq_true rfl) (r122 v3 p3.2 _ q6) ?_
      by_cases c19 : ¬ p5.1 = 0
      · replace h := ifp c19 h
        refine rn_if_ne_t (ft212 11 rfl) c19 ?_
        refine rn_aload_n (ft212 14 rfl) rfl ?_
        obtain ⟨x7, q8, h⟩ := ob_some h
        refine rn_getR (ft212 15 rfl) q8 ?_
        refine rn_iload_n (ft212 16 rfl) rfl ?_
        obtain ⟨x9, q10, h⟩ := ob_some h
        refine rn_baload (ft212 17 rfl) q10 ?_
        by_cases c18 : x9 = 0
        · replace h := ifp c18 h
          refine rn_if_eq_t (ft212 18 rfl) c18 ?_
          refine rn_aload_n (ft212 21 rfl) rfl ?_
          refine rn_iload_n (ft212 22 rfl) rfl ?_
          refine rn_iload_n (ft212 23 rfl) rfl ?_
          obtain ⟨g17, h⟩ := ifg h
          obtain ⟨p11, q12, h⟩ := ob_some h
          refine rn_callV (as := [.int v2, .int v3]) (k0 := v0) (r := []) (v := none) (w1 := p11) (ft212 24 rfl) (by decide +kernel) rfl (Nat.le_of_ble_eq_true rfl) (Nat.le_of_ble_eq_true rfl) (r203 n v0 v2 v3 p5.2 _ q12) (by decide +kernel) g17 ?_
          refine rn_aload_n (ft212 25 rfl) rfl ?_
          obtain ⟨x13, q14, h⟩ := ob_some h
          refine rn_getR (ft212 26 rfl) q14 ?_
          refine rn_iload_n (ft212 27 rfl) rfl ?_
          obtain ⟨x15, q16, h⟩ := ob_some h
          refine rn_iaload (ft212 28 rfl) q16 ?_
          cases h
          exact rn_iretI pr212 (ft212 29 rfl)
        · replace h := ifn c18 h
          refine rn_if_eq_f (ft212 18 rfl) c18 ?_
          refine rn_ldcw (v := (-1000003 : Int32)) (ft212 19 rfl) (by decide) ?_
          cases h
          exact rn_iretI pr212 (ft212 20 rfl)
      · replace h := ifn c19 h
        refine rn_if_ne_f (ft212 11 rfl) c19 ?_
        refine rn_ldc (v := (-1000002 : Int32)) (ft212 12 rfl) (by decide) rfl ?_
        cases h
        exact rn_iretI pr212 (ft212 13 rfl)
    · replace h := ifn c20 h
      refine rn_if_ne_f (ft212 6 rfl) c20 ?_
      refine rn_ldcw (v := (-1000001 : Int32)) (ft212 7 rfl) (by decide) ?_
      cases h
      exact rn_iretI pr212 (ft212 8 rfl)
/-- NineWheelModel.rule()I -/
theorem ft213 : ∀ (i : Nat) {q : Nat × XI}, cd213[i]? = some q → fetch 213 q.1 = some q.2 := ft_of (by decide +kernel)
theorem pr213 : pRt 213 = some .int := rfl
def f213 (n : Nat) (v0 : Nat) (w : Wd) : Option (Int32 × Wd) :=
  ob (getI w 11 v0 15) (fun x1 => (if x1 ≤ (80 : Int32) then ob (getI w 11 v0 37) (fun x3 => (if ¬ x3 = (4 : Int32) then ob (putI w 11 v0 16 (-1 : Int32)) (fun w5 => ob (putI w5 11 v0 17 (0 : Int32)) (fun w7 => (if (wsh w7 v0).map (fun q => q.1) = some 11 then ob (f204 n v0 w7) (fun p9 => ob (putI p9.2 11 v0 15 (0 : Int32)) (fun w11 => (if p9.1 ≤ 0 then ob (getI w11 11 v0 37) (fun x13 => ob (putI w11 11 v0 37 (x13 + (1 : Int32))) (fun w15 => ob (getI w15 11 v0 37) (fun x17 => some ((x17 - (1 : Int32)), w15))))
        else some (((-10 : Int32) - p9.1), w11)))) else none)))
      else some ((-1000004 : Int32), w)))
    else some ((-1000003 : Int32), w)))
set_option maxRecDepth 10000 in
theorem r213 {S : Sc} (n : Nat) (v0 : Nat) (w : Wd) (o : (Int32 × Wd)) (h : f213 n v0 w = some o) : Rn S 213 0 [some (.ref v0), none] [] w (some (.int o.1), o.2) := by
  unfold f213 at h
  refine rn_aload_n (ft213 0 rfl) rfl ?_
  obtain ⟨x1, q2, h⟩ := ob_some h
  refine rn_getI (ft213 1 rfl) (by decide) (by decide) q2 ?_
  refine rn_bipush (v := (80 : Int32)) (ft213 2 rfl) (by decide) ?_
  by_cases c22 : x1 ≤ (80 : Int32)
  · replace h := ifp c22 h
    refine rn_icmp_le_t (ft213 3 rfl) c22 ?_
    refine rn_aload_n (ft213 6 rfl) rfl ?_
    obtain ⟨x3, q4, h⟩ := ob_some h
    refine rn_getI (ft213 7 rfl) (by decide) (by decide) q4 ?_
    refine rn_iconst (v := (4 : Int32)) (ft213 8 rfl) (by decide) ?_
    by_cases c21 : ¬ x3 = (4 : Int32)
    · replace h := ifp c21 h
      refine rn_icmp_ne_t (ft213 9 rfl) c21 ?_
      refine rn_aload_n (ft213 12 rfl) rfl ?_
      refine rn_iconst (v := (-1 : Int32)) (ft213 13 rfl) (by decide) ?_
      obtain ⟨w5, q6, h⟩ := ob_some h
      refine rn_putI (ft213 14 rfl) q6 ?_
      refine rn_aload_n (ft213 15 rfl) rfl ?_
      refine rn_iconst (v := (0 : Int32)) (ft213 16 rfl) (by decide) ?_
      obtain ⟨w7, q8, h⟩ := ob_some h
      refine rn_putI (ft213 17 rfl) q8 ?_
      refine rn_aload_n (ft213 18 rfl) rfl ?_
      obtain ⟨g20, h⟩ := ifg h
      obtain ⟨p9, q10, h⟩ := ob_some h
      refine rn_callV (as := []) (k0 := v0) (r := []) (v := (some (.int p9.1))) (w1 := p9.2) (ft213 19 rfl) (by decide +kernel) rfl (Nat.le_of_ble_eq_true rfl) (Nat.le_of_ble_eq_true rfl) (r204 n v0 w7 _ q10) (by decide +kernel) g20 ?_
      refine rn_istore_n (ls' := [some (.ref v0), some (.int p9.1)]) (ft213 20 rfl) rfl ?_
      refine rn_aload_n (ft213 21 rfl) rfl ?_
      refine rn_iconst (v := (0 : Int32)) (ft213 22 rfl) (by decide) ?_
      obtain ⟨w11, q12, h⟩ := ob_some h
      refine rn_putI (ft213 23 rfl) q12 ?_
      refine rn_iload_n (ft213 24 rfl) rfl ?_
      by_cases c19 : p9.1 ≤ 0
      · replace h := ifp c19 h
        refine rn_if_le_t (ft213 25 rfl) c19 ?_
        refine rn_aload_n (ft213 30 rfl) rfl ?_
        refine rn_dup (ft213 31 rfl) rfl ?_
        obtain ⟨x13, q14, h⟩ := ob_some h
        refine rn_getI (ft213 32 rfl) (by decide) (by decide) q14 ?_
        refine rn_iconst (v := (1 : Int32)) (ft213 33 rfl) (by decide) ?_
        refine rn_iadd (ft213 34 rfl) ?_
        obtain ⟨w15, q16, h⟩ := ob_some h
        refine rn_putI (ft213 35 rfl) q16 ?_
        refine rn_aload_n (ft213 36 rfl) rfl ?_
        obtain ⟨x17, q18, h⟩ := ob_some h
        refine rn_getI (ft213 37 rfl) (by decide) (by decide) q18 ?_
        refine rn_iconst (v := (1 : Int32)) (ft213 38 rfl) (by decide) ?_
        refine rn_isub (ft213 39 rfl) ?_
        cases h
        exact rn_iretI pr213 (ft213 40 rfl)
      · replace h := ifn c19 h
        refine rn_if_le_f (ft213 25 rfl) c19 ?_
        refine rn_bipush (v := (-10 : Int32)) (ft213 26 rfl) (by decide) ?_
        refine rn_iload_n (ft213 27 rfl) rfl ?_
        refine rn_isub (ft213 28 rfl) ?_
        obtain rfl := Option.some.inj h
        exact rn_iretI pr213 (ft213 29 rfl)
    · replace h := ifn c21 h
      refine rn_icmp_ne_f (ft213 9 rfl) c21 ?_
      refine rn_ldc (v := (-1000004 : Int32)) (ft213 10 rfl) (by decide) rfl ?_
      cases h
      exact rn_iretI pr213 (ft213 11 rfl)
  · replace h := ifn c22 h
    refine rn_icmp_le_f (ft213 3 rfl) c22 ?_
    refine rn_ldcw (v := (-1000003 : Int32)) (ft213 4 rfl) (by decide) ?_
    cases h
    exact rn_iretI pr213 (ft213 5 rfl)
/-- NineWheelModel.countedAt(III)I -/
theorem ft214 : ∀ (i : Nat) {q : Nat × XI}, cd214[i]? = some q → fetch 214 q.1 = some q.2 := ft_of (by decide +kernel)
theorem pr214 : pRt 214 = some .int := rfl
def f214 (n : Nat) (v0 : Nat) (v1 : Int32) (v2 : Int32) (v3 : Int32) (w : Wd) : Option (Int32 × Wd) :=
  (if (wsh w v0).map (fun q => q.1) = some 11 then ob (f203 n v0 v1 v2 w) (fun p1 => (if (wsh p1 v0).map (fun q => q.1) = some 11 then ob (f171 n v0 v3 p1) (fun p3 => (if (wsh p3 v0).map (fun q => q.1) = some 11 then ob (f172 n v0 p3) (fun p5 => some (p5.1, p5.2)) else none)) else none)) else none)
set_option maxRecDepth 10000 in
theorem r214 {S : Sc} (n : Nat) (v0 : Nat) (v1 : Int32) (v2 : Int32) (v3 : Int32) (w : Wd) (o : (Int32 × Wd)) (h : f214 n v0 v1 v2 v3 w = some o) : Rn S 214 0 [some (.ref v0), some (.int v1), some (.int v2), some (.int v3)] [] w (some (.int o.1), o.2) := by
  unfold f214 at h
  refine rn_aload_n (ft214 0 rfl) rfl ?_
  refine rn_iload_n (ft214 1 rfl) rfl ?_
  refine rn_iload_n (ft214 2 rfl) rfl ?_
  obtain ⟨g9, h⟩ := ifg h
  obtain ⟨p1, q2, h⟩ := ob_some h
  refine rn_callV (as := [.int v1, .int v2]) (k0 := v0) (r := []) (v := none) (w1 := p1) (ft214 3 rfl) (by decide +kernel) rfl (Nat.le_of_ble_eq_true rfl) (Nat.le_of_ble_eq_true rfl) (r203 n v0 v1 v2 w _ q2) (by decide +kernel) g9 ?_
  refine rn_aload_n (ft214 4 rfl) rfl ?_
  refine rn_iload_n (ft214 5 rfl) rfl ?_
  obtain ⟨g8, h⟩ := ifg h
  obtain ⟨p3, q4, h⟩ := ob_some h
  refine rn_callV (as := [.int v3]) (k0 := v0) (r := []) (v := none) (w1 := p3) (ft214 6 rfl) (by decide +kernel) rfl (Nat.le_of_ble_eq_true rfl) (Nat.le_of_ble_eq_true rfl) (r171 n v0 v3 p1 _ q4) (by decide +kernel) g8 ?_
  refine rn_aload_n (ft214 7 rfl) rfl ?_
  obtain ⟨g7, h⟩ := ifg h
  obtain ⟨p5, q6, h⟩ := ob_some h
  refine rn_callV (as := []) (k0 := v0) (r := []) (v := (some (.int p5.1))) (w1 := p5.2) (ft214 8 rfl) (by decide +kernel) rfl (Nat.le_of_ble_eq_true rfl) (Nat.le_of_ble_eq_true rfl) (r172 n v0 p3 _ q6) (by decide +kernel) g7 ?_
  cases h
  exact rn_iretI pr214 (ft214 9 rfl)
