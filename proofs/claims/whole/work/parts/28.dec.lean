/-! THE METHODS AS FUNCTIONS, 11 -/
/-- NineWheelModel.keepSea()V -/
theorem ft163 : ∀ (i : Nat) {q : Nat × XI}, cd163[i]? = some q → fetch 163 q.1 = some q.2 := ft_of (by decide +kernel)
theorem pr163 : pRt 163 = none := rfl
def f163_H50 (n : Nat)  (K26 : Nat → Wd → Option Wd) : Nat → Nat → Int32 → Wd → Option Wd
  | 0, _, _, _ => none
  | k + 1, v0, v1, w =>
    (if (64 : Int32) ≤ v1 then K26 v0 w
      else ob (getR w 11 v0 2) (fun x25 => ob (getR w 11 v0 24) (fun x27 => ob (aldB w x27 v1) (fun x29 => ob (astB w x25 v1 x29) (fun w31 => (fun (v0 : Nat) (v1 : Int32) w => f163_H50 n  K26 k v0 v1 w) v0 (v1 + (1 : Int32)) w31)))))
set_option maxRecDepth 10000 in
theorem rf163_H50 {S : Sc} (n : Nat)  (K26 : Nat → Wd → Option Wd)  (hK26 : ∀ (y0 : Nat) (w : Wd) (o : Wd), K26 y0 w = some o → Rn S 163 74 [some (.ref y0), none, none, none] [] w (none, o)) : ∀ (k : Nat) (v0 : Nat) (v1 : Int32) (w : Wd) (o : Wd), f163_H50 n  K26 k v0 v1 w = some o → Rn S 163 50 [some (.ref v0), some (.int v1), none, none] [] w (none, o) := by
  intro k
  induction k with
  | zero =>
    intro v0 v1 w o h
    exact nomatch h
  | succ k ih =>
    intro v0 v1 w o h
    have hrec26 : ∀ (y0 : Nat) (y1 : Int32) (w : Wd) (o : Wd), (fun (v0 : Nat) (v1 : Int32) w => f163_H50 n  K26 k v0 v1 w) y0 y1 w = some o → Rn S 163 50 [some (.ref y0), some (.int y1), none, none] [] w (none, o) := fun y0 y1 w o h => ih y0 y1 w o h
    unfold f163_H50 at h
    refine rn_iload_n (ft163 26 rfl) rfl ?_
    refine rn_bipush (v := (64 : Int32)) (ft163 27 rfl) (by decide) ?_
    by_cases c33 : (64 : Int32) ≤ v1
    · replace h := ifp c33 h
      refine rn_icmp_ge_t (ft163 28 rfl) c33 ?_
      exact rn_forget (ls := [some (.ref v0), none, none, none]) (And.intro rfl trivial) (hK26 v0 w _ h)
    · replace h := ifn c33 h
      refine rn_icmp_ge_f (ft163 28 rfl) c33 ?_
      refine rn_aload_n (ft163 29 rfl) rfl ?_
      obtain ⟨x25, q26, h⟩ := ob_some h
      refine rn_getR (ft163 30 rfl) q26 ?_
      refine rn_iload_n (ft163 31 rfl) rfl ?_
      refine rn_aload_n (ft163 32 rfl) rfl ?_
      obtain ⟨x27, q28, h⟩ := ob_some h
      refine rn_getR (ft163 33 rfl) q28 ?_
      refine rn_iload_n (ft163 34 rfl) rfl ?_
      obtain ⟨x29, q30, h⟩ := ob_some h
      refine rn_baload (ft163 35 rfl) q30 ?_
      obtain ⟨w31, q32, h⟩ := ob_some h
      refine rn_bastore (ft163 36 rfl) q32 ?_
      refine rn_iinc (u := 1) (ls' := [some (.ref v0), some (.int (v1 + (1 : Int32))), none, none]) (ft163 37 rfl) rfl (by decide) rfl ?_
      refine rn_goto (ft163 38 rfl) ?_
      exact rn_forget (ls := [some (.ref v0), some (.int (v1 + (1 : Int32))), none, none]) (And.intro rfl (And.intro rfl trivial)) (hrec26 v0 (v1 + (1 : Int32)) w31 _ h)
def f163_J261 (n : Nat) (rec41 : Nat → Int32 → Wd → Option Wd) (K41 : Nat → Wd → Option Wd) (rec78 : Nat → Int32 → Int32 → Wd → Option Wd) (K78 : Nat → Int32 → Wd → Option Wd) (v0 : Nat) (v1 : Int32) (v2 : Int32) (s0 : Int32) (w : Wd) : Option Wd :=
  ob (getR w 11 v0 13) (fun x95 => (if s0 = 0 then ob (getR w 11 v0 13) (fun x97 => ob (aldI w x97 v1) (fun x99 => ob (astI w x95 v1 x99) (fun w101 => rec78 v0 v1 (v2 + (1 : Int32)) w101)))
    else ob (astI w x95 v1 v2) (fun w103 => rec78 v0 v1 (v2 + (1 : Int32)) w103)))
set_option maxRecDepth 10000 in
theorem rf163_J261 {S : Sc} (n : Nat) (rec41 : Nat → Int32 → Wd → Option Wd) (K41 : Nat → Wd → Option Wd) (rec78 : Nat → Int32 → Int32 → Wd → Option Wd) (K78 : Nat → Int32 → Wd → Option Wd) (v0 : Nat) (v1 : Int32) (v2 : Int32) (s0 : Int32) (w : Wd) (o : Wd) (hrec41 : ∀ (y0 : Nat) (y1 : Int32) (w : Wd) (o : Wd), rec41 y0 y1 w = some o → Rn S 163 76 [some (.ref y0), some (.int y1), none, none] [] w (none, o)) (hK41 : ∀ (y0 : Nat) (w : Wd) (o : Wd), K41 y0 w = some o → Rn S 163 294 [some (.ref y0), none, none, none] [] w (none, o)) (hrec78 : ∀ (y0 : Nat) (y1 : Int32) (y2 : Int32) (w : Wd) (o : Wd), rec78 y0 y1 y2 w = some o → Rn S 163 131 [some (.ref y0), some (.int y1), some (.int y2), none] [] w (none, o)) (hK78 : ∀ (y0 : Nat) (y1 : Int32) (w : Wd) (o : Wd), K78 y0 y1 w = some o → Rn S 163 288 [some (.ref y0), some (.int y1), none, none] [] w (none, o)) (h : f163_J261 n rec41 K41 rec78 K78 v0 v1 v2 s0 w = some o) : Rn S 163 261 [some (.ref v0), some (.int v1), some (.int v2), none] [.int s0] w (none, o) := by
  unfold f163_J261 at h
  refine rn_istore_n (ls' := [some (.ref v0), some (.int v1), some (.int v2), some (.int s0)]) (ft163 162 rfl) rfl ?_
  refine rn_aload_n (ft163 163 rfl) rfl ?_
  obtain ⟨x95, q96, h⟩ := ob_some h
  refine rn_getR (ft163 164 rfl) q96 ?_
  refine rn_iload_n (ft163 165 rfl) rfl ?_
  refine rn_iload_n (ft163 166 rfl) rfl ?_
  by_cases c105 : s0 = 0
  · replace h := ifp c105 h
    refine rn_if_eq_t (ft163 167 rfl) c105 ?_
    refine rn_aload_n (ft163 170 rfl) rfl ?_
    obtain ⟨x97, q98, h⟩ := ob_some h
    refine rn_getR (ft163 171 rfl) q98 ?_
    refine rn_iload_n (ft163 172 rfl) rfl ?_
    obtain ⟨x99, q100, h⟩ := ob_some h
    refine rn_iaload (ft163 173 rfl) q100 ?_
    obtain ⟨w101, q102, h⟩ := ob_some h
    refine rn_iastore (ft163 174 rfl) q102 ?_
    refine rn_iinc (u := 1) (ls' := [some (.ref v0), some (.int v1), some (.int (v2 + (1 : Int32))), some (.int s0)]) (ft163 175 rfl) rfl (by decide) rfl ?_
    refine rn_goto (ft163 176 rfl) ?_
    exact rn_forget (ls := [some (.ref v0), some (.int v1), some (.int (v2 + (1 : Int32))), none]) (And.intro rfl (And.intro rfl (And.intro rfl trivial))) (hrec78 v0 v1 (v2 + (1 : Int32)) w101 _ h)
  · replace h := ifn c105 h
    refine rn_if_eq_f (ft163 167 rfl) c105 ?_
    refine rn_iload_n (ft163 168 rfl) rfl ?_
    refine rn_goto (ft163 169 rfl) ?_
    obtain ⟨w103, q104, h⟩ := ob_some h
    refine rn_iastore (ft163 174 rfl) q104 ?_
    refine rn_iinc (u := 1) (ls' := [some (.ref v0), some (.int v1), some (.int (v2 + (1 : Int32))), some (.int s0)]) (ft163 175 rfl) rfl (by decide) rfl ?_
    refine rn_goto (ft163 176 rfl) ?_
    exact rn_forget (ls := [some (.ref v0), some (.int v1), some (.int (v2 + (1 : Int32))), none]) (And.intro rfl (And.intro rfl (And.intro rfl trivial))) (hrec78 v0 v1 (v2 + (1 : Int32)) w103 _ h)
def f163_J207 (n : Nat) (rec41 : Nat → Int32 → Wd → Option Wd) (K41 : Nat → Wd → Option Wd) (rec78 : Nat → Int32 → Int32 → Wd → Option Wd) (K78 : Nat → Int32 → Wd → Option Wd) (v0 : Nat) (v1 : Int32) (v2 : Int32) (s0 : Nat) (s1 : Int32) (s2 : Int32) (w : Wd) : Option Wd :=
  ob (astI w s0 s1 s2) (fun w89 => ob (getR w89 11 v0 2) (fun x91 => ob (aldB w89 x91 v2) (fun x93 => (if ¬ x93 = 0 then f163_J261 n rec41 K41 rec78 K78 v0 v1 v2 (0 : Int32) w89
    else ob (getR w89 11 v0 13) (fun x106 => ob (aldI w89 x106 v1) (fun x108 => (if x108 < 0 then f163_J261 n rec41 K41 rec78 K78 v0 v1 v2 (1 : Int32) w89
      else ob (getR w89 11 v0 12) (fun x110 => ob (aldI w89 x110 (((64 : Int32) * v1) + v2)) (fun x112 => ob (getR w89 11 v0 12) (fun x114 => ob (getR w89 11 v0 13) (fun x116 => ob (aldI w89 x116 v1) (fun x118 => ob (aldI w89 x114 (((64 : Int32) * v1) + x118)) (fun x120 => (if x112 ≤ x120 then f163_J261 n rec41 K41 rec78 K78 v0 v1 v2 (0 : Int32) w89
        else f163_J261 n rec41 K41 rec78 K78 v0 v1 v2 (1 : Int32) w89))))))))))))))
set_option maxRecDepth 10000 in
theorem rf163_J207 {S : Sc} (n : Nat) (rec41 : Nat → Int32 → Wd → Option Wd) (K41 : Nat → Wd → Option Wd) (rec78 : Nat → Int32 → Int32 → Wd → Option Wd) (K78 : Nat → Int32 → Wd → Option Wd) (v0 : Nat) (v1 : Int32) (v2 : Int32) (s0 : Nat) (s1 : Int32) (s2 : Int32) (w : Wd) (o : Wd) (hrec41 : ∀ (y0 : Nat) (y1 : Int32) (w : Wd) (o : Wd), rec41 y0 y1 w = some o → Rn S 163 76 [some (.ref y0), some (.int y1), none, none] [] w (none, o)) (hK41 : ∀ (y0 : Nat) (w : Wd) (o : Wd), K41 y0 w = some o → Rn S 163 294 [some (.ref y0), none, none, none] [] w (none, o)) (hrec78 : ∀ (y0 : Nat) (y1 : Int32) (y2 : Int32) (w : Wd) (o : Wd), rec78 y0 y1 y2 w = some o → Rn S 163 131 [some (.ref y0), some (.int y1), some (.int y2), none] [] w (none, o)) (hK78 : ∀ (y0 : Nat) (y1 : Int32) (w : Wd) (o : Wd), K78 y0 y1 w = some o → Rn S 163 288 [some (.ref y0), some (.int y1), none, none] [] w (none, o)) (h : f163_J207 n rec41 K41 rec78 K78 v0 v1 v2 s0 s1 s2 w = some o) : Rn S 163 207 [some (.ref v0), some (.int v1), some (.int v2), none] [.int s2, .int s1, .ref s0] w (none, o) := by
  unfold f163_J207 at h
  obtain ⟨w89, q90, h⟩ := ob_some h
  refine rn_iastore (ft163 128 rfl) q90 ?_
  refine rn_aload_n (ft163 129 rfl) rfl ?_
  obtain ⟨x91, q92, h⟩ := ob_some h
  refine rn_getR (ft163 130 rfl) q92 ?_
  refine rn_iload_n (ft163 131 rfl) rfl ?_
  obtain ⟨x93, q94, h⟩ := ob_some h
  refine rn_baload (ft163 132 rfl) q94 ?_
  by_cases c124 : ¬ x93 = 0
  · replace h := ifp c124 h
    refine rn_if_ne_t (ft163 133 rfl) c124 ?_
    refine rn_iconst (v := (0 : Int32)) (ft163 161 rfl) (by decide) ?_
    exact rn_forget (ls := [some (.ref v0), some (.int v1), some (.int v2), none]) (And.intro rfl (And.intro rfl (And.intro rfl trivial))) (rf163_J261 n rec41 K41 rec78 K78 v0 v1 v2 (0 : Int32) w89 _ hrec41 hK41 hrec78 hK78 h)
  · replace h := ifn c124 h
    refine rn_if_ne_f (ft163 133 rfl) c124 ?_
    refine rn_aload_n (ft163 134 rfl) rfl ?_
    obtain ⟨x106, q107, h⟩ := ob_some h
    refine rn_getR (ft163 135 rfl) q107 ?_
    refine rn_iload_n (ft163 136 rfl) rfl ?_
    obtain ⟨x108, q109, h⟩ := ob_some h
    refine rn_iaload (ft163 137 rfl) q109 ?_
    by_cases c123 : x108 < 0
    · replace h := ifp c123 h
      refine rn_if_lt_t (ft163 138 rfl) c123 ?_
      refine rn_iconst (v := (1 : Int32)) (ft163 159 rfl) (by decide) ?_
      refine rn_goto (ft163 160 rfl) ?_
      exact rn_forget (ls := [some (.ref v0), some (.int v1), some (.int v2), none]) (And.intro rfl (And.intro rfl (And.intro rfl trivial))) (rf163_J261 n rec41 K41 rec78 K78 v0 v1 v2 (1 : Int32) w89 _ hrec41 hK41 hrec78 hK78 h)
    · replace h := ifn c123 h
      refine rn_if_lt_f (ft163 138 rfl) c123 ?_
      refine rn_aload_n (ft163 139 rfl) rfl ?_
      obtain ⟨x110, q111, h⟩ := ob_some h
      refine rn_getR (ft163 140 rfl) q111 ?_
      refine rn_bipush (v := (64 : Int32)) (ft163 141 rfl) (by decide) ?_
      refine rn_iload_n (ft163 142 rfl) rfl ?_
      refine rn_imul (ft163 143 rfl) ?_
      refine rn_iload_n (ft163 144 rfl) rfl ?_
      refine rn_iadd (ft163 145 rfl) ?_
      obtain ⟨x112, q113, h⟩ := ob_some h
      refine rn_iaload (ft163 146 rfl) q113 ?_
      refine rn_aload_n (ft163 147 rfl) rfl ?_
      obtain ⟨x114, q115, h⟩ := ob_some h
      refine rn_getR (ft163 148 rfl) q115 ?_
      refine rn_bipush (v := (64 : Int32)) (ft163 149 rfl) (by decide) ?_
      refine rn_iload_n (ft163 150 rfl) rfl ?_
      refine rn_imul (ft163 151 rfl) ?_
      refine rn_aload_n (ft163 152 rfl) rfl ?_
      obtain ⟨x116, q117, h⟩ := ob_some h
      refine rn_getR (ft163 153 rfl) q117 ?_
      refine rn_iload_n (ft163 154 rfl) rfl ?_
      obtain ⟨x118, q119, h⟩ := ob_some h
      refine rn_iaload (ft163 155 rfl) q119 ?_
      refine rn_iadd (ft163 156 rfl) ?_
      obtain ⟨x120, q121, h⟩ := ob_some h
      refine rn_iaload (ft163 157 rfl) q121 ?_
      by_cases c122 : x112 ≤ x120
      · replace h := ifp c122 h
        refine rn_icmp_le_t (ft163 158 rfl) c122 ?_
        refine rn_iconst (v := (0 : Int32)) (ft163 161 rfl) (by decide) ?_
        exact rn_forget (ls := [some (.ref v0), some (.int v1), some (.int v2), none]) (And.intro rfl (And.intro rfl (And.intro rfl trivial))) (rf163_J261 n rec41 K41 rec78 K78 v0 v1 v2 (0 : Int32) w89 _ hrec41 hK41 hrec78 hK78 h)
      · replace h := ifn c122 h
        refine rn_icmp_le_f (ft163 158 rfl) c122 ?_
        refine rn_iconst (v := (1 : Int32)) (ft163 159 rfl) (by decide) ?_
        refine rn_goto (ft163 160 rfl) ?_
        exact rn_forget (ls := [some (.ref v0), some (.int v1), some (.int v2), none]) (And.intro rfl (And.intro rfl (And.intro rfl trivial))) (rf163_J261 n rec41 K41 rec78 K78 v0 v1 v2 (1 : Int32) w89 _ hrec41 hK41 hrec78 hK78 h)
def f163_H131 (n : Nat) (rec41 : Nat → Int32 → Wd → Option Wd) (K41 : Nat → Wd → Option Wd) (K78 : Nat → Int32 → Wd → Option Wd) : Nat → Nat → Int32 → Int32 → Wd → Option Wd
  | 0, _, _, _, _ => none
  | k + 1, v0, v1, v2, w =>
    (if (64 : Int32) ≤ v2 then K78 v0 v1 w
      else ob (getR w 11 v0 9) (fun x65 => ob (getR w 11 v0 31) (fun x67 => ob (aldI w x67 (((64 : Int32) * v1) + v2)) (fun x69 => ob (astI w x65 (((64 : Int32) * v1) + v2) x69) (fun w71 => ob (getR w71 11 v0 12) (fun x73 => ob (getR w71 11 v0 2) (fun x75 => ob (aldB w71 x75 v2) (fun x77 => (if x77 = 0 then ob (getR w71 11 v0 9) (fun x79 => ob (aldI w71 x79 (((64 : Int32) * v1) + v2)) (fun x81 => ob (getR w71 11 v0 8) (fun x83 => ob (aldI w71 x83 v1) (fun x85 => (if (wsh w71 v0).map (fun q => q.1) = some 11 then ob (f116 n v0 v2 w71) (fun p87 => f163_J207 n rec41 K41 (fun (v0 : Nat) (v1 : Int32) (v2 : Int32) w => f163_H131 n rec41 K41 K78 k v0 v1 v2 w) K78 v0 v1 v2 x73 (((64 : Int32) * v1) + v2) (x81 - (x85 * p87.1)) p87.2) else none)))))
        else f163_J207 n rec41 K41 (fun (v0 : Nat) (v1 : Int32) (v2 : Int32) w => f163_H131 n rec41 K41 K78 k v0 v1 v2 w) K78 v0 v1 v2 x73 (((64 : Int32) * v1) + v2) (-99 : Int32) w71)))))))))
set_option maxRecDepth 10000 in
theorem rf163_H131 {S : Sc} (n : Nat) (rec41 : Nat → Int32 → Wd → Option Wd) (K41 : Nat → Wd → Option Wd) (K78 : Nat → Int32 → Wd → Option Wd) (hrec41 : ∀ (y0 : Nat) (y1 : Int32) (w : Wd) (o : Wd), rec41 y0 y1 w = some o → Rn S 163 76 [some (.ref y0), some (.int y1), none, none] [] w (none, o)) (hK41 : ∀ (y0 : Nat) (w : Wd) (o : Wd), K41 y0 w = some o → Rn S 163 294 [some (.ref y0), none, none, none] [] w (none, o)) (hK78 : ∀ (y0 : Nat) (y1 : Int32) (w : Wd) (o : Wd), K78 y0 y1 w = some o → Rn S 163 288 [some (.ref y0), some (.int y1), none, none] [] w (none, o)) : ∀ (k : Nat) (v0 : Nat) (v1 : Int32) (v2 : Int32) (w : Wd) (o : Wd), f163_H131 n rec41 K41 K78 k v0 v1 v2 w = some o → Rn S 163 131 [some (.ref v0), some (.int v1), some (.int v2), none] [] w (none, o) := by
  intro k
  induction k with
  | zero =>
    intro v0 v1 v2 w o h
    exact nomatch h
  | succ k ih =>
    intro v0 v1 v2 w o h
    have hrec78 : ∀ (y0 : Nat) (y1 : Int32) (y2 : Int32) (w : Wd) (o : Wd), (fun (v0 : Nat) (v1 : Int32) (v2 : Int32) w => f163_H131 n rec41 K41 K78 k v0 v1 v2 w) y0 y1 y2 w = some o → Rn S 163 131 [some (.ref y0), some (.int y1), some (.int y2), none] [] w (none, o) := fun y0 y1 y2 w o h => ih y0 y1 y2 w o h
    unfold f163_H131 at h
    refine rn_iload_n (ft163 78 rfl) rfl ?_
    refine rn_bipush (v := (64 : Int32)) (ft163 79 rfl) (by decide) ?_
    by_cases c127 : (64 : Int32) ≤ v2
    · replace h := ifp c127 h
      refine rn_icmp_ge_t (ft163 80 rfl) c127 ?_
      exact rn_forget (ls := [some (.ref v0), some (.int v1), none, none]) (And.intro rfl (And.intro rfl trivial)) (hK78 v0 v1 w _ h)
    · replace h := ifn c127 h
      refine rn_icmp_ge_f (ft163 80 rfl) c127 ?_
      refine rn_aload_n (ft163 81 rfl) rfl ?_
      obtain ⟨x65, q66, h⟩ := ob_some h
      refine rn_getR (ft163 82 rfl) q66 ?_
      refine rn_bipush (v := (64 : Int32)) (ft163 83 rfl) (by decide) ?_
      refine rn_iload_n (ft163 84 rfl) rfl ?_
      refine rn_imul (ft163 85 rfl) ?_
      refine rn_iload_n (ft163 86 rfl) rfl ?_
      refine rn_iadd (ft163 87 rfl) ?_
      refine rn_aload_n (ft163 88 rfl) rfl ?_
      obtain ⟨x67, q68, h⟩ := ob_some h
      refine rn_getR (ft163 89 rfl) q68 ?_
      refine rn_bipush (v := (64 : Int32)) (ft163 90 rfl) (by decide) ?_
      refine rn_iload_n (ft163 91 rfl) rfl ?_
      refine rn_imul (ft163 92 rfl) ?_
      refine rn_iload_n (ft163 93 rfl) rfl ?_
      refine rn_iadd (ft163 94 rfl) ?_
      obtain ⟨x69, q70, h⟩ := ob_some h
      refine rn_iaload (ft163 95 rfl) q70 ?_
      obtain ⟨w71, q72, h⟩ := ob_some h
      refine rn_iastore (ft163 96 rfl) q72 ?_
      refine rn_aload_n (ft163 97 rfl) rfl ?_
      obtain ⟨x73, q74, h⟩ := ob_some h
      refine rn_getR (ft163 98 rfl) q74 ?_
      refine rn_bipush (v := (64 : Int32)) (ft163 99 rfl) (by decide) ?_
      refine rn_iload_n (ft163 100 rfl) rfl ?_
      refine rn_imul (ft163 101 rfl) ?_
      refine rn_iload_n (ft163 102 rfl) rfl ?_
      refine rn_iadd (ft163 103 rfl) ?_
      refine rn_aload_n (ft163 104 rfl) rfl ?_
      obtain ⟨x75, q76, h⟩ := ob_some h
      refine rn_getR (ft163 105 rfl) q76 ?_
      refine rn_iload_n (ft163 106 rfl) rfl ?_
      obtain ⟨x77, q78, h⟩ := ob_some h
      refine rn_baload (ft163 107 rfl) q78 ?_
      by_cases c126 : x77 = 0
      · replace h := ifp c126 h
        refine rn_if_eq_t (ft163 108 rfl) c126 ?_
        refine rn_aload_n (ft163 111 rfl) rfl ?_
        obtain ⟨x79, q80, h⟩ := ob_some h
        refine rn_getR (ft163 112 rfl) q80 ?_
        refine rn_bipush (v := (64 : Int32)) (ft163 113 rfl) (by decide) ?_
        refine rn_iload_n (ft163 114 rfl) rfl ?_
        refine rn_imul (ft163 115 rfl) ?_
        refine rn_iload_n (ft163 116 rfl) rfl ?_
        refine rn_iadd (ft163 117 rfl) ?_
        obtain ⟨x81, q82, h⟩ := ob_some h
        refine rn_iaload (ft163 118 rfl) q82 ?_
        refine rn_aload_n (ft163 119 rfl) rfl ?_
        obtain ⟨x83, q84, h⟩ := ob_some h
        refine rn_getR (ft163 120 rfl) q84 ?_
        refine rn_iload_n (ft163 121 rfl) rfl ?_
        obtain ⟨x85, q86, h⟩ := ob_some h
        refine rn_iaload (ft163 122 rfl) q86 ?_
        refine rn_aload_n (ft163 123 rfl) rfl ?_
        refine rn_iload_n (ft163 124 rfl) rfl ?_
        obtain ⟨g125, h⟩ := ifg h
        obtain ⟨p87, q88, h⟩ := ob_some h
        refine rn_callV (as := [.int v2]) (k0 := v0) (r := [.int x85, .int x81, .int (((64 : Int32) * v1) + v2), .ref x73]) (v := (some (.int p87.1))) (w1 := p87.2) (ft163 125 rfl) (by decide +kernel) rfl (Nat.le_of_ble_eq_true rfl) (Nat.le_of_ble_eq_true rfl) (r116 n v0 v2 w71 _ q88) (by decide +kernel) g125 ?_
        refine rn_imul (ft163 126 rfl) ?_
        refine rn_isub (ft163 127 rfl) ?_
        exact rn_forget (ls := [some (.ref v0), some (.int v1), some (.int v2), none]) (And.intro rfl (And.intro rfl (And.intro rfl trivial))) (rf163_J207 n rec41 K41 (fun (v0 : Nat) (v1 : Int32) (v2 : Int32) w => f163_H131 n rec41 K41 K78 k v0 v1 v2 w) K78 v0 v1 v2 x73 (((64 : Int32) * v1) + v2) (x81 - (x85 * p87.1)) p87.2 _ hrec41 hK41 hrec78 hK78 h)
      · replace h := ifn c126 h
        refine rn_if_eq_f (ft163 108 rfl) c126 ?_
        refine rn_bipush (v := (-99 : Int32)) (ft163 109 rfl) (by decide) ?_
        refine rn_goto (ft163 110 rfl) ?_
        exact rn_forget (ls := [some (.ref v0), some (.int v1), some (.int v2), none]) (And.intro rfl (And.intro rfl (And.intro rfl trivial))) (rf163_J207 n rec41 K41 (fun (v0 : Nat) (v1 : Int32) (v2 : Int32) w => f163_H131 n rec41 K41 K78 k v0 v1 v2 w) K78 v0 v1 v2 x73 (((64 : Int32) * v1) + v2) (-99 : Int32) w71 _ hrec41 hK41 hrec78 hK78 h)
def f163_H76 (n : Nat)  (K41 : Nat → Wd → Option Wd) : Nat → Nat → Int32 → Wd → Option Wd
  | 0, _, _, _ => none
  | k + 1, v0, v1, w =>
    ob (getI w 11 v0 6) (fun x35 => (if x35 ≤ v1 then K41 v0 w
      else ob (getR w 11 v0 7) (fun x37 => ob (getR w 11 v0 29) (fun x39 => ob (aldI w x39 v1) (fun x41 => ob (astI w x37 v1 x41) (fun w43 => ob (getR w43 11 v0 8) (fun x45 => ob (getR w43 11 v0 30) (fun x47 => ob (aldI w43 x47 v1) (fun x49 => ob (astI w43 x45 v1 x49) (fun w51 => ob (getR w51 11 v0 10) (fun x53 => ob (astI w51 x53 v1 (0 : Int32)) (fun w55 => ob (getR w55 11 v0 11) (fun x57 => ob (astI w55 x57 v1 (0 : Int32)) (fun w59 => ob (getR w59 11 v0 13) (fun x61 => ob (astI w59 x61 v1 (-1 : Int32)) (fun w63 => f163_H131 n (fun (v0 : Nat) (v1 : Int32) w => f163_H76 n  K41 k v0 v1 w) K41 (fun (e0_128 : Nat) (e1_128 : Int32) (w128 : Wd) => (fun (v0 : Nat) (v1 : Int32) w => f163_H76 n  K41 k v0 v1 w) e0_128 (e1_128 + (1 : Int32)) w128) n v0 v1 (0 : Int32) w63))))))))))))))))
set_option maxRecDepth 10000 in
theorem rf163_H76 {S : Sc} (n : Nat)  (K41 : Nat → Wd → Option Wd)  (hK41 : ∀ (y0 : Nat) (w : Wd) (o : Wd), K41 y0 w = some o → Rn S 163 294 [some (.ref y0), none, none, none] [] w (none, o)) : ∀ (k : Nat) (v0 : Nat) (v1 : Int32) (w : Wd) (o : Wd), f163_H76 n  K41 k v0 v1 w = some o → Rn S 163 76 [some (.ref v0), some (.int v1), none, none] [] w (none, o) := by
  intro k
  induction k with
  | zero =>
    intro v0 v1 w o h
    exact nomatch h
  | succ k ih =>
    intro v0 v1 w o h
    have hrec41 : ∀ (y0 : Nat) (y1 : Int32) (w : Wd) (o : Wd), (fun (v0 : Nat) (v1 : Int32) w => f163_H76 n  K41 k v0 v1 w) y0 y1 w = some o → Rn S 163 76 [some (.ref y0), some (.int y1), none, none] [] w (none, o) := fun y0 y1 w o h => ih y0 y1 w o h
    unfold f163_H76 at h
    refine rn_iload_n (ft163 41 rfl) rfl ?_
    refine rn_aload_n (ft163 42 rfl) rfl ?_
    obtain ⟨x35, q36, h⟩ := ob_some h
    refine rn_getI (ft163 43 rfl) (by decide) (by decide) q36 ?_
    by_cases c129 : x35 ≤ v1
    · replace h := ifp c129 h
      refine rn_icmp_ge_t (ft163 44 rfl) c129 ?_
      exact rn_forget (ls := [some (.ref v0), none, none, none]) (And.intro rfl trivial) (hK41 v0 w _ h)
    · replace h := ifn c129 h
      refine rn_icmp_ge_f (ft163 44 rfl) c129 ?_
      refine rn_aload_n (ft163 45 rfl) rfl ?_
      obtain ⟨x37, q38, h⟩ := ob_some h
      refine rn_getR (ft163 46 rfl) q38 ?_
      refine rn_iload_n (ft163 47 rfl) rfl ?_
      refine rn_aload_n (ft163 48 rfl) rfl ?_
      obtain ⟨x39, q40, h⟩ := ob_some h
      refine rn_getR (ft163 49 rfl) q40 ?_
      refine rn_iload_n (ft163 50 rfl) rfl ?_
      obtain ⟨x41, q42, h⟩ := ob_some h
      refine rn_iaload (ft163 51 rfl) q42 ?_
      obtain ⟨w43, q44, h⟩ := ob_some h
      refine rn_iastore (ft163 52 rfl) q44 ?_
      refine rn_aload_n (ft163 53 rfl) rfl ?_
      obtain ⟨x45, q46, h⟩ := ob_some h
      refine rn_getR (ft163 54 rfl) q46 ?_
      refine rn_iload_n (ft163 55 rfl) rfl ?_
      refine rn_aload_n (ft163 56 rfl) rfl ?_
      obtain ⟨x47, q48, h⟩ := ob_some h
      refine rn_getR (ft163 57 rfl) q48 ?_
      refine rn_iload_n (ft163 58 rfl) rfl ?_
      obtain ⟨x49, q50, h⟩ := ob_some h
      refine rn_iaload (ft163 59 rfl) q50 ?_
      obtain ⟨w51, q52, h⟩ := ob_some h
      refine rn_iastore (ft163 60 rfl) q52 ?_
      refine rn_aload_n (ft163 61 rfl) rfl ?_
      obtain ⟨x53, q54, h⟩ := ob_some h
      refine rn_getR (ft163 62 rfl) q54 ?_
      refine rn_iload_n (ft163 63 rfl) rfl ?_
      refine rn_iconst (v := (0 : Int32)) (ft163 64 rfl) (by decide) ?_
      obtain ⟨w55, q56, h⟩ := ob_some h
      refine rn_iastore (ft163 65 rfl) q56 ?_
      refine rn_aload_n (ft163 66 rfl) rfl ?_
      obtain ⟨x57, q58, h⟩ := ob_some h
      refine rn_getR (ft163 67 rfl) q58 ?_
      refine rn_iload_n (ft163 68 rfl) rfl ?_
      refine rn_iconst (v := (0 : Int32)) (ft163 69 rfl) (by decide) ?_
      obtain ⟨w59, q60, h⟩ := ob_some h
      refine rn_iastore (ft163 70 rfl) q60 ?_
      refine rn_aload_n (ft163 71 rfl) rfl ?_
      obtain ⟨x61, q62, h⟩ := ob_some h
      refine rn_getR (ft163 72 rfl) q62 ?_
      refine rn_iload_n (ft163 73 rfl) rfl ?_
      refine rn_iconst (v := (-1 : Int32)) (ft163 74 rfl) (by decide) ?_
      obtain ⟨w63, q64, h⟩ := ob_some h
      refine rn_iastore (ft163 75 rfl) q64 ?_
      refine rn_iconst (v := (0 : Int32)) (ft163 76 rfl) (by decide) ?_
      refine rn_istore_n (ls' := [some (.ref v0), some (.int v1), some (.int (0 : Int32)), none]) (ft163 77 rfl) rfl ?_
      refine rn_forget (ls := [some (.ref v0), some (.int v1), some (.int (0 : Int32)), none]) (And.intro rfl (And.intro rfl (And.intro rfl trivial))) (rf163_H131 n (fun (v0 : Nat) (v1 : Int32) w => f163_H76 n  K41 k v0 v1 w) K41 _ hrec41 hK41 (fun e0_128 e1_128 w128 o h => ?_) n v0 v1 (0 : Int32) w63 _ h)
      refine rn_iinc (u := 1) (ls' := [some (.ref e0_128), some (.int (e1_128 + (1 : Int32))), none, none]) (ft163 177 rfl) rfl (by decide) rfl ?_
      refine rn_goto (ft163 178 rfl) ?_
      exact rn_forget (ls := [some (.ref e0_128), some (.int (e1_128 + (1 : Int32))), none, none]) (And.intro rfl (And.intro rfl trivial)) (hrec41 e0_128 (e1_128 + (1 : Int32)) w128 _ h)
def f163 (n : Nat) (v0 : Nat) (w : Wd) : Option Wd :=
  ob (getI w 11 v0 22) (fun x1 => ob (putI w 11 v0 0 x1) (fun w3 => ob (getI w3 11 v0 23) (fun x5 => ob (putI w3 11 v0 1 x5) (fun w7 => ob (getI w7 11 v0 25) (fun x9 => ob (putI w7 11 v0 3 x9) (fun w11 => ob (getI w11 11 v0 26) (fun x13 => ob (putI w11 11 v0 4 x13) (fun w15 => ob (getI w15 11 v0 27) (fun x17 => ob (putI w15 11 v0 5 x17) (fun w19 => ob (getI w19 11 v0 28) (fun x21 => ob (putI w19 11 v0 6 x21) (fun w23 => f163_H50 n  (fun (e0_34 : Nat) (w34 : Wd) => f163_H76 n  (fun (e0_130 : Nat) (w130 : Wd) => ob (getR w130 11 e0_130 62) (fun x131 => ob (astB w130 x131 (0 : Int32) (0 : Int32)) (fun w133 => ob (getR w133 11 e0_130 62) (fun x135 => ob (astB w133 x135 (1 : Int32) (0 : Int32)) (fun w137 => ob (putZ w137 11 e0_130 34 (0 : Int32)) (fun w139 => some w139)))))) n e0_34 (0 : Int32) w34) n v0 (0 : Int32) w23))))))))))))
set_option maxRecDepth 10000 in
theorem r163 {S : Sc} (n : Nat) (v0 : Nat) (w : Wd) (o : Wd) (h : f163 n v0 w = some o) : Rn S 163 0 [some (.ref v0), none, none, none] [] w (none, o) := by
  unfold f163 at h
  refine rn_aload_n (ft163 0 rfl) rfl ?_
  refine rn_aload_n (ft163 1 rfl) rfl ?_
  obtain ⟨x1, q2, h⟩ := ob_some h
  refine rn_getI (ft163 2 rfl) (by decide) (by decide) q2 ?_
  obtain ⟨w3, q4, h⟩ := ob_some h
  refine rn_putI (ft163 3 rfl) q4 ?_
  refine rn_aload_n (ft163 4 rfl) rfl ?_
  refine rn_aload_n (ft163 5 rfl) rfl ?_
  obtain ⟨x5, q6, h⟩ := ob_some h
  refine rn_getI (ft163 6 rfl) (by decide) (by decide) q6 ?_
  obtain ⟨w7, q8, h⟩ := ob_some h
  refine rn_putI (ft163 7 rfl) q8 ?_
  refine rn_aload_n (ft163 8 rfl) rfl ?_
  refine rn_aload_n (ft163 9 rfl) rfl ?_
  obtain ⟨x9, q10, h⟩ := ob_some h
  refine rn_getI (ft163 10 rfl) (by decide) (by decide) q10 ?_
  obtain ⟨w11, q12, h⟩ := ob_some h
  refine rn_putI (ft163 11 rfl) q12 ?_
  refine rn_aload_n (ft163 12 rfl) rfl ?_
  refine rn_aload_n (ft163 13 rfl) rfl ?_
  obtain ⟨x13, q14, h⟩ := ob_some h
  refine rn_getI (ft163 14 rfl) (by decide) (by decide) q14 ?_
  obtain ⟨w15, q16, h⟩ := ob_some h
  refine rn_putI (ft163 15 rfl) q16 ?_
  refine rn_aload_n (ft163 16 rfl) rfl ?_
  refine rn_aload_n (ft163 17 rfl) rfl ?_
  obtain ⟨x17, q18, h⟩ := ob_some h
  refine rn_getI (ft163 18 rfl) (by decide) (by decide) q18 ?_
  obtain ⟨w19, q20, h⟩ := ob_some h
  refine rn_putI (ft163 19 rfl) q20 ?_
  refine rn_aload_n (ft163 20 rfl) rfl ?_
  refine rn_aload_n (ft163 21 rfl) rfl ?_
  obtain ⟨x21, q22, h⟩ := ob_some h
  refine rn_getI (ft163 22 rfl) (by decide) (by decide) q22 ?_
  obtain ⟨w23, q24, h⟩ := ob_some h
  refine rn_putI (ft163 23 rfl) q24 ?_
  refine rn_iconst (v := (0 : Int32)) (ft163 24 rfl) (by decide) ?_
  refine rn_istore_n (ls' := [some (.ref v0), some (.int (0 : Int32)), none, none]) (ft163 25 rfl) rfl ?_
  refine rn_forget (ls := [some (.ref v0), some (.int (0 : Int32)), none, none]) (And.intro rfl (And.intro rfl trivial)) (rf163_H50 n  _  (fun e0_34 w34 o h => ?_) n v0 (0 : Int32) w23 _ h)
  refine rn_iconst (v := (0 : Int32)) (ft163 39 rfl) (by decide) ?_
  refine rn_istore_n (ls' := [some (.ref e0_34), some (.int (0 : Int32)), none, none]) (ft163 40 rfl) rfl ?_
  refine rn_forget (ls := [some (.ref e0_34), some (.int (0 : Int32)), none, none]) (And.intro rfl (And.intro rfl trivial)) (rf163_H76 n  _  (fun e0_130 w130 o h => ?_) n e0_34 (0 : Int32) w34 _ h)
  refine rn_aload_n (ft163 179 rfl) rfl ?_
  obtain ⟨x131, q132, h⟩ := ob_some h
  refine rn_getR (ft163 180 rfl) q132 ?_
  refine rn_iconst (v := (0 : Int32)) (ft163 181 rfl) (by decide) ?_
  refine rn_iconst (v := (0 : Int32)) (ft163 182 rfl) (by decide) ?_
  obtain ⟨w133, q134, h⟩ := ob_some h
  refine rn_bastore (ft163 183 rfl) q134 ?_
  refine rn_aload_n (ft163 184 rfl) rfl ?_
  obtain ⟨x135, q136, h⟩ := ob_some h
  refine rn_getR (ft163 185 rfl) q136 ?_
  refine rn_iconst (v := (1 : Int32)) (ft163 186 rfl) (by decide) ?_
  refine rn_iconst (v := (0 : Int32)) (ft163 187 rfl) (by decide) ?_
  obtain ⟨w137, q138, h⟩ := ob_some h
  refine rn_bastore (ft163 188 rfl) q138 ?_
  refine rn_aload_n (ft163 189 rfl) rfl ?_
  refine rn_iconst (v := (0 : Int32)) (ft163 190 rfl) (by decide) ?_
  obtain ⟨w139, q140, h⟩ := ob_some h
  refine rn_putZ (ft163 191 rfl) q140 ?_
  cases h
  exact rn_vret pr163 (ft163 192 rfl)
/-- NineWheelModel.worth(II)I -/
theorem ft164 : ∀ (i : Nat) {q : Nat × XI}, cd164[i]? = some q → fetch 164 q.1 = some q.2 := ft_of (by decide +kernel)
theorem pr164 : pRt 164 = some .int := rfl
def f164 (n : Nat) (v0 : Nat) (v1 : Int32) (v2 : Int32) (w : Wd) : Option (Int32 × Wd) :=
  ob (f118 v1 w) (fun p1 => (if p1.1 = 0 then some ((-1000001 : Int32), p1.2)
    else (if (wsh p1.2 v0).map (fun q => q.1) = some 11 then ob (f119 v0 v2 p1.2) (fun p3 => (if p3.1 = 0 then some ((-1000001 : Int32), p3.2)
      else (if (wsh p3.2 v0).map (fun q => q.1) = some 11 then ob (f120 n v0 v1 v2 p3.2) (fun p5 => some (p5.1, p5.2)) else none))) else none)))
set_option maxRecDepth 10000 in
theorem r164 {S : Sc} (n : Nat) (v0 : Nat) (v1 : Int32) (v2 : Int32) (w : Wd) (o : (Int32 × Wd)) (h : f164 n v0 v1 v2 w = some o) : Rn S 164 0 [some (.ref v0), some (.int v1), some (.int v2)] [] w (some (.int o.1), o.2) := by
  unfold f164 at h
  refine rn_iload_n (ft164 0 rfl) rfl ?_
  obtain ⟨p1, q2, h⟩ := ob_some h
  refine rn_callS (as := [.int v1]) (r := []) (v := (some (.int p1.1))) (w1 := p1.2) (ft164 1 rfl) (by decide +kernel) rfl (Nat.le_of_ble_eq_true rfl) (Nat.le_of_ble_eq_true rfl) (r118 v1 w _ q2) ?_
  by_cases c10 : p1.1 = 0
  · replace h := ifp c10 h
    refine rn_if_eq_t (ft164 2 rfl) c10 ?_
    refine rn_ldcw (v := (-1000001 : Int32)) (ft164 12 rfl) (by decide) ?_
    cases h
    exact rn_iretI pr164 (ft164 13 rfl)
  · replace h := ifn c10 h
    refine rn_if_eq_f (ft164 2 rfl) c10 ?_
    refine rn_aload_n (ft164 3 rfl) rfl ?_
    refine rn_iload_n (ft164 4 rfl) rfl ?_
    obtain ⟨g9, h⟩ := ifg h
    obtain ⟨p3, q4, h⟩ := ob_some h
    refine rn_callV (as := [.int v2]) (k0 := v0) (r := []) (v := (some (.int p3.1))) (w1 := p3.2) (ft164 5 rfl) (by decide +kernel) rfl (Nat.le_of_ble_eq_true rfl) (Nat.le_of_ble_eq_true rfl) (r119 v0 v2 p1.2 _ q4) (by decide +kernel) g9 ?_
    by_cases c8 : p3.1 = 0
    · replace h := ifp c8 h
      refine rn_if_eq_t (ft164 6 rfl) c8 ?_
      refine rn_ldcw (v := (-1000001 : Int32)) (ft164 12 rfl) (by decide) ?_
      cases h
      exact rn_iretI pr164 (ft164 13 rfl)
    · replace h := ifn c8 h
      refine rn_if_eq_f (ft164 6 rfl) c8 ?_
      refine rn_aload_n (ft164 7 rfl) rfl ?_
      refine rn_iload_n (ft164 8 rfl) rfl ?_
      refine rn_iload_n (ft164 9 rfl) rfl ?_
      obtain ⟨g7, h⟩ := ifg h
      obtain ⟨p5, q6, h⟩ := ob_some h
      refine rn_callV (as := [.int v1, .int v2]) (k0 := v0) (r := []) (v := (some (.int p5.1))) (w1 := p5.2) (ft164 10 rfl) (by decide +kernel) rfl (Nat.le_of_ble_eq_true rfl) (Nat.le_of_ble_eq_true rfl) (r120 n v0 v1 v2 p3.2 _ q6) (by decide +kernel) g7 ?_
      refine rn_goto (ft164 11 rfl) ?_
      cases h
      exact rn_iretI pr164 (ft164 13 rfl)
/-- NineWheelModel.sort(II)I -/
theorem ft165 : ∀ (i : Nat) {q : Nat × XI}, cd165[i]? = some q → fetch 165 q.1 = some q.2 := ft_of (by decide +kernel)
theorem pr165 : pRt 165 = some .int := rfl
def f165 (v0 : Nat) (v1 : Int32) (v2 : Int32) (w : Wd) : Option (Int32 × Wd) :=
  (if (wsh w v0).map (fun q => q.1) = some 11 then ob (f121 v0 v1 w) (fun p1 => (if ¬ p1.1 = 0 then (if v2 = 0 then ob (getR p1.2 11 v0 7) (fun x19 => ob (aldI p1.2 x19 v1) (fun x21 => some (x21, p1.2)))
      else (if v2 = 1 then ob (getR p1.2 11 v0 8) (fun x15 => ob (aldI p1.2 x15 v1) (fun x17 => some (x17, p1.2)))
        else (if v2 = 2 then ob (getR p1.2 11 v0 13) (fun x11 => ob (aldI p1.2 x11 v1) (fun x13 => some (x13, p1.2)))
          else (if v2 = 3 then ob (getR p1.2 11 v0 10) (fun x7 => ob (aldI p1.2 x7 v1) (fun x9 => some (x9, p1.2)))
            else (if v2 = 4 then ob (getR p1.2 11 v0 11) (fun x3 => ob (aldI p1.2 x3 v1) (fun x5 => some (x5, p1.2)))
              else some ((-1000002 : Int32), p1.2))))))
    else some ((-1000001 : Int32), p1.2))) else none)
set_option maxRecDepth 10000 in
theorem r165 {S : Sc} (v0 : Nat) (v1 : Int32) (v2 : Int32) (w : Wd) (o : (Int32 × Wd)) (h : f165 v0 v1 v2 w = some o) : Rn S 165 0 [some (.ref v0), some (.int v1), some (.int v2)] [] w (some (.int o.1), o.2) := by
  unfold f165 at h
  refine rn_aload_n (ft165 0 rfl) rfl ?_
  refine rn_iload_n (ft165 1 rfl) rfl ?_
  obtain ⟨g30, h⟩ := ifg h
  obtain ⟨p1, q2, h⟩ := ob_some h
  refine rn_callV (as := [.int v1]) (k0 := v0) (r := []) (v := (some (.int p1.1))) (w1 := p1.2) (ft165 2 rfl) (by decide +kernel) rfl (Nat.le_of_ble_eq_true rfl) (Nat.le_of_ble_eq_true rfl) (r121 v0 v1 w _ q2) (by decide +kernel) g30 ?_
  by_cases c29 : ¬ p1.1 = 0
  · replace h := ifp c29 h
    refine rn_if_ne_t (ft165 3 rfl) c29 ?_
    refine rn_iload_n (ft165 6 rfl) rfl ?_
    by_cases c23 : v2 = 0
    · replace h := ifp c23 h
      refine rn_sw_i (e := 35) (pc' := 48) (ft165 7 rfl) (by rw [c23]; decide) (by rw [c23]; rfl) (by decide) ?_
      refine rn_aload_n (ft165 8 rfl) rfl ?_
      obtain ⟨x19, q20, h⟩ := ob_some h
      refine rn_getR (ft165 9 rfl) q20 ?_
      refine rn_iload_n (ft165 10 rfl) rfl ?_
      obtain ⟨x21, q22, h⟩ := ob_some h
      refine rn_iaload (ft165 11 rfl) q22 ?_
      cases h
      exact rn_iretI pr165 (ft165 12 rfl)
    · replace h := ifn c23 h
      by_cases c24 : v2 = 1
      · replace h := ifp c24 h
        refine rn_sw_i (e := 42) (pc' := 55) (ft165 7 rfl) (by rw [c24]; decide) (by rw [c24]; rfl) (by decide) ?_
        refine rn_aload_n (ft165 13 rfl) rfl ?_
        obtain ⟨x15, q16, h⟩ := ob_some h
        refine rn_getR (ft165 14 rfl) q16 ?_
        refine rn_iload_n (ft165 15 rfl) rfl ?_
        obtain ⟨x17, q18, h⟩ := ob_some h
        refine rn_iaload (ft165 16 rfl) q18 ?_
        cases h
        exact rn_iretI pr165 (ft165 17 rfl)
      · replace h := ifn c24 h
        by_cases c25 : v2 = 2
        · replace h := ifp c25 h
          refine rn_sw_i (e := 49) (pc' := 62) (ft165 7 rfl) (by rw [c25]; decide) (by rw [c25]; rfl) (by decide) ?_
          refine rn_aload_n (ft165 18 rfl) rfl ?_
          obtain ⟨x11, q12, h⟩ := ob_some h
          refine rn_getR (ft165 19 rfl) q12 ?_
          refine rn_iload_n (ft165 20 rfl) rfl ?_
          obtain ⟨x13, q14, h⟩ := ob_some h
          refine rn_iaload (ft165 21 rfl) q14 ?_
          cases h
          exact rn_iretI pr165 (ft165 22 rfl)
        · replace h := ifn c25 h
          by_cases c26 : v2 = 3
          · replace h := ifp c26 h
            refine rn_sw_i (e := 56) (pc' := 69) (ft165 7 rfl) (by rw [c26]; decide) (by rw [c26]; rfl) (by decide) ?_
            refine rn_aload_n (ft165 23 rfl) rfl ?_
            obtain ⟨x7, q8, h⟩ := ob_some h
            refine rn_getR (ft165 24 rfl) q8 ?_
            refine rn_iload_n (ft165 25 rfl) rfl ?_
            obtain ⟨x9, q10, h⟩ := ob_some h
            refine rn_iaload (ft165 26 rfl) q10 ?_
            cases h
            exact rn_iretI pr165 (ft165 27 rfl)
          · replace h := ifn c26 h
            by_cases c27 : v2 = 4
            · replace h := ifp c27 h
              refine rn_sw_i (e := 63) (pc' := 76) (ft165 7 rfl) (by rw [c27]; decide) (by rw [c27]; rfl) (by decide) ?_
              refine rn_aload_n (ft165 28 rfl) rfl ?_
              obtain ⟨x3, q4, h⟩ := ob_some h
              refine rn_getR (ft165 29 rfl) q4 ?_
              refine rn_iload_n (ft165 30 rfl) rfl ?_
              obtain ⟨x5, q6, h⟩ := ob_some h
              refine rn_iaload (ft165 31 rfl) q6 ?_
              cases h
              exact rn_iretI pr165 (ft165 32 rfl)
            · replace h := ifn c27 h
              have hsw := sw_out (v := v2) (N := 4) (by omega) (fun j hj => by
                have hj2 : j = 0 ∨ j = 1 ∨ j = 2 ∨ j = 3 ∨ j = 4 := by omega
                rcases hj2 with rfl | rfl | rfl | rfl | rfl
                · exact c23
                · exact c24
                · exact c25
                · exact c26
                · exact c27)
              refine rn_sw_d (ft165 7 rfl) hsw (by decide) ?_
              refine rn_ldc (v := (-1000002 : Int32)) (ft165 33 rfl) (by decide) rfl ?_
              cases h
              exact rn_iretI pr165 (ft165 34 rfl)
  · replace h := ifn c29 h
    refine rn_if_ne_f (ft165 3 rfl) c29 ?_
    refine rn_ldcw (v := (-1000001 : Int32)) (ft165 4 rfl) (by decide) ?_
    cases h
    exact rn_iretI pr165 (ft165 5 rfl)
/-- NineWheelModel.stepTo(IIII)I -/
theorem ft166 : ∀ (i : Nat) {q : Nat × XI}, cd166[i]? = some q → fetch 166 q.1 = some q.2 := ft_of (by decide +kernel)
theorem pr166 : pRt 166 = some .int := rfl
def f166_J35  (v0 : Nat) (v5 : Int32) (s0 : Int32) (w : Wd) : Option (Int32 × Wd) :=
  (if s0 = 0 then some (v5, w)
    else ob (getR w 11 v0 2) (fun x7 => ob (aldB w x7 v5) (fun x9 => (if ¬ x9 = 0 then some (v5, w)
      else ob (getI w 11 v0 3) (fun x11 => ob (f123 v5 x11 w) (fun p13 => some (p13.1, p13.2)))))))
set_option maxRecDepth 10000 in
theorem rf166_J35 {S : Sc}  (v0 : Nat) (v5 : Int32) (s0 : Int32) (w : Wd) (o : (Int32 × Wd))  (h : f166_J35  v0 v5 s0 w = some o) : Rn S 166 35 [some (.ref v0), none, none, none, none, some (.int v5), none] [.int s0] w (some (.int o.1), o.2) := by
  unfold f166_J35 at h
  refine rn_istore (ls' := [some (.ref v0), none, none, none, none, some (.int v5), some (.int s0)]) (ft166 19 rfl) rfl ?_
  refine rn_iload (ft166 20 rfl) rfl ?_
  by_cases c16 : s0 = 0
  · replace h := ifp c16 h
    refine rn_if_eq_t (ft166 21 rfl) c16 ?_
    refine rn_iload (ft166 32 rfl) rfl ?_
    cases h
    exact rn_iretI pr166 (ft166 33 rfl)
  · replace h := ifn c16 h
    refine rn_if_eq_f (ft166 21 rfl) c16 ?_
    refine rn_aload_n (ft166 22 rfl) rfl ?_
    obtain ⟨x7, q8, h⟩ := ob_some h
    refine rn_getR (ft166 23 rfl) q8 ?_
    refine rn_iload (ft166 24 rfl) rfl ?_
    obtain ⟨x9, q10, h⟩ := ob_some h
    refine rn_baload (ft166 25 rfl) q10 ?_
    by_cases c15 : ¬ x9 = 0
    · replace h := ifp c15 h
      refine rn_if_ne_t (ft166 26 rfl) c15 ?_
      refine rn_iload (ft166 32 rfl) rfl ?_
      cases h
      exact rn_iretI pr166 (ft166 33 rfl)
    · replace h := ifn c15 h
      refine rn_if_ne_f (ft166 26 rfl) c15 ?_
      refine rn_iload (ft166 27 rfl) rfl ?_
      refine rn_aload_n (ft166 28 rfl) rfl ?_
      obtain ⟨x11, q12, h⟩ := ob_some h
      refine rn_getI (ft166 29 rfl) (by decide) (by decide) q12 ?_
      obtain ⟨p13, q14, h⟩ := ob_some h
      refine rn_callS (as := [.int v5, .int x11]) (r := []) (v := (some (.int p13.1))) (w1 := p13.2) (ft166 30 rfl) (by decide +kernel) rfl (Nat.le_of_ble_eq_true rfl) (Nat.le_of_ble_eq_true rfl) (r123 v5 x11 w _ q14) ?_
      refine rn_goto (ft166 31 rfl) ?_
      cases h
      exact rn_iretI pr166 (ft166 33 rfl)
def f166 (v0 : Nat) (v1 : Int32) (v2 : Int32) (v3 : Int32) (v4 : Int32) (w : Wd) : Option (Int32 × Wd) :=
  ob (f50 v2 v4 w) (fun p1 => ob (f123 v1 p1.1 p1.2) (fun p3 => ob (getI p3.2 11 v0 4) (fun x5 => (if x5 ≤ 0 then f166_J35  v0 p3.1 (0 : Int32) p3.2
    else ob (getI p3.2 11 v0 4) (fun x17 => (if ¬ x17 = 0 then (if ¬ (irm (v3 + (1 : Int32)) x17) = 0 then f166_J35  v0 p3.1 (0 : Int32) p3.2
      else f166_J35  v0 p3.1 (1 : Int32) p3.2) else none))))))
set_option maxRecDepth 10000 in
theorem r166 {S : Sc} (v0 : Nat) (v1 : Int32) (v2 : Int32) (v3 : Int32) (v4 : Int32) (w : Wd) (o : (Int32 × Wd)) (h : f166 v0 v1 v2 v3 v4 w = some o) : Rn S 166 0 [some (.ref v0), some (.int v1), some (.int v2), some (.int v3), some (.int v4), none, none] [] w (some (.int o.1), o.2) := by
  unfold f166 at h
  refine rn_iload_n (ft166 0 rfl) rfl ?_
  refine rn_iload_n (ft166 1 rfl) rfl ?_
  refine rn_iload (ft166 2 rfl) rfl ?_
  obtain ⟨p1, q2, h⟩ := ob_some h
  refine rn_callS (as := [.int v2, .int v4]) (r := [.int v1]) (v := (some (.int p1.1))) (w1 := p1.2) (ft166 3 rfl) (by decide +kernel) rfl (Nat.le_of_ble_eq_true rfl) (Nat.le_of_ble_eq_true rfl) (r50 v2 v4 w _ q2) ?_
  obtain ⟨p3, q4, h⟩ := ob_some h
  refine rn_callS (as := [.int v1, .int p1.1]) (r := []) (v := (some (.int p3.1))) (w1 := p3.2) (ft166 4 rfl) (by decide +kernel) rfl (Nat.le_of_ble_eq_true rfl) (Nat.le_of_ble_eq_true rfl) (r123 v1 p1.1 p1.2 _ q4) ?_
  refine rn_istore (ls' := [some (.ref v0), some (.int v1), some (.int v2), some (.int v3), some (.int v4), some (.int p3.1), none]) (ft166 5 rfl) rfl ?_
  refine rn_aload_n (ft166 6 rfl) rfl ?_
  obtain ⟨x5, q6, h⟩ := ob_some h
  refine rn_getI (ft166 7 rfl) (by decide) (by decide) q6 ?_
  by_cases c21 : x5 ≤ 0
  · replace h := ifp c21 h
    refine rn_if_le_t (ft166 8 rfl) c21 ?_
    refine rn_iconst (v := (0 : Int32)) (ft166 18 rfl) (by decide) ?_
    exact rn_forget (ls := [some (.ref v0), none, none, none, none, some (.int p3.1), none]) (And.intro rfl (And.intro rfl trivial)) (rf166_J35  v0 p3.1 (0 : Int32) p3.2 _  h)
  · replace h := ifn c21 h
    refine rn_if_le_f (ft166 8 rfl) c21 ?_
    refine rn_iload_n (ft166 9 rfl) rfl ?_
    refine rn_iconst (v := (1 : Int32)) (ft166 10 rfl) (by decide) ?_
    refine rn_iadd (ft166 11 rfl) ?_
    refine rn_aload_n (ft166 12 rfl) rfl ?_
    obtain ⟨x17, q18, h⟩ := ob_some h
    refine rn_getI (ft166 13 rfl) (by decide) (by decide) q18 ?_
    obtain ⟨g20, h⟩ := ifg h
    refine rn_irem (ft166 14 rfl) g20 ?_
    by_cases c19 : ¬ (irm (v3 + (1 : Int32)) x17) = 0
    · replace h := ifp c19 h
      refine rn_if_ne_t (ft166 15 rfl) c19 ?_
      refine rn_iconst (v := (0 : Int32)) (ft166 18 rfl) (by decide) ?_
      exact rn_forget (ls := [some (.ref v0), none, none, none, none, some (.int p3.1), none]) (And.intro rfl (And.intro rfl trivial)) (rf166_J35  v0 p3.1 (0 : Int32) p3.2 _  h)
    · replace h := ifn c19 h
      refine rn_if_ne_f (ft166 15 rfl) c19 ?_
      refine rn_iconst (v := (1 : Int32)) (ft166 16 rfl) (by decide) ?_
      refine rn_goto (ft166 17 rfl) ?_
      exact rn_forget (ls := [some (.ref v0), none, none, none, none, some (.int p3.1), none]) (And.intro rfl (And.intro rfl trivial)) (rf166_J35  v0 p3.1 (1 : Int32) p3.2 _  h)
/-- NineWheelModel.way(III)I -/
theorem ft167 : ∀ (i : Nat) {q : Nat × XI}, cd167[i]? = some q → fetch 167 q.1 = some q.2 := ft_of (by decide +kernel)
theorem pr167 : pRt 167 = some .int := rfl
def f167_J57  (v0 : Nat) (v1 : Int32) (v2 : Int32) (v3 : Int32) (s0 : Int32) (w : Wd) : Option (Int32 × Wd) :=
  ob (f39 (Int32.toInt64 v2) (0 : Int64) (4 : Int64) w) (fun p3 => (if p3.1 = 0 then some ((-1000002 : Int32), p3.2)
    else (if ¬ s0 = 0 then ob (getR p3.2 11 v0 10) (fun x5 => ob (aldI p3.2 x5 v1) (fun x7 => ob (getR p3.2 11 v0 10) (fun x9 => ob (astI p3.2 x9 v1 v2) (fun w11 => ob (getR w11 11 v0 11) (fun x13 => ob (astI w11 x13 v1 v3) (fun w15 => ob (putZ w15 11 v0 34 (0 : Int32)) (fun w17 => some (x7, w17))))))))
      else some ((-1000002 : Int32), p3.2))))
set_option maxRecDepth 10000 in
theorem rf167_J57 {S : Sc}  (v0 : Nat) (v1 : Int32) (v2 : Int32) (v3 : Int32) (s0 : Int32) (w : Wd) (o : (Int32 × Wd))  (h : f167_J57  v0 v1 v2 v3 s0 w = some o) : Rn S 167 57 [some (.ref v0), some (.int v1), some (.int v2), some (.int v3), none, none] [.int s0] w (some (.int o.1), o.2) := by
  unfold f167_J57 at h
  refine rn_istore (ls' := [some (.ref v0), some (.int v1), some (.int v2), some (.int v3), some (.int s0), none]) (ft167 29 rfl) rfl ?_
  refine rn_iload_n (ft167 30 rfl) rfl ?_
  refine rn_i2l (ft167 31 rfl) ?_
  refine rn_lconst (v := (0 : Int64)) (ft167 32 rfl) (by decide) ?_
  refine rn_ldc2 (v := (4 : Int64)) (ft167 33 rfl) (by decide) ?_
  obtain ⟨p3, q4, h⟩ := ob_some h
  refine rn_callS (as := [.long (Int32.toInt64 v2), .long (0 : Int64), .long (4 : Int64)]) (r := []) (v := (some (.int p3.1))) (w1 := p3.2) (ft167 34 rfl) (by decide +kernel) rfl (Nat.le_of_ble_eq_true rfl) (Nat.le_of_ble_eq_true rfl) (r39 (Int32.toInt64 v2) (0 : Int64) (4 : Int64) w _ q4) ?_
  by_cases c20 : p3.1 = 0
  · replace h := ifp c20 h
    refine rn_if_eq_t (ft167 35 rfl) c20 ?_
    refine rn_ldc (v := (-1000002 : Int32)) (ft167 38 rfl) (by decide) rfl ?_
    cases h
    exact rn_iretI pr167 (ft167 39 rfl)
  · replace h := ifn c20 h
    refine rn_if_eq_f (ft167 35 rfl) c20 ?_
    refine rn_iload (ft167 36 rfl) rfl ?_
    by_cases c19 : ¬ s0 = 0
    · replace h := ifp c19 h
      refine rn_if_ne_t (ft167 37 rfl) c19 ?_
      refine rn_aload_n (ft167 40 rfl) rfl ?_
      obtain ⟨x5, q6, h⟩ := ob_some h
      refine rn_getR (ft167 41 rfl) q6 ?_
      refine rn_iload_n (ft167 42 rfl) rfl ?_
      obtain ⟨x7, q8, h⟩ := ob_some h
      refine rn_iaload (ft167 43 rfl) q8 ?_
      refine rn_istore (ls' := [some (.ref v0), some (.int v1), some (.int v2), some (.int v3), some (.int s0), some (.int x7)]) (ft167 44 rfl) rfl ?_
      refine rn_aload_n (ft167 45 rfl) rfl ?_
      obtain ⟨x9, q10, h⟩ := ob_some h
      refine rn_getR (ft167 46 rfl) q10 ?_
      refine rn_iload_n (ft167 47 rfl) rfl ?_
      refine rn_iload_n (ft167 48 rfl) rfl ?_
      obtain ⟨w11, q12, h⟩ := ob_some h
      refine rn_iastore (ft167 49 rfl) q12 ?_
      refine rn_aload_n (ft167 50 rfl) rfl ?_
      obtain ⟨x13, q14, h⟩ := ob_some h
      refine rn_getR (ft167 51 rfl) q14 ?_
      refine rn_iload_n (ft167 52 rfl) rfl ?_
      refine rn_iload_n (ft167 53 rfl) rfl ?_
      obtain ⟨w15, q16, h⟩ := ob_some h
      refine rn_iastore (ft167 54 rfl) q16 ?_
      refine rn_aload_n (ft167 55 rfl) rfl ?_
      refine rn_iconst (v := (0 : Int32)) (ft167 56 rfl) (by decide) ?_
      obtain ⟨w17, q18, h⟩ := ob_some h
      refine rn_putZ (ft167 57 rfl) q18 ?_
      refine rn_iload (ft167 58 rfl) rfl ?_
      cases h
      exact rn_iretI pr167 (ft167 59 rfl)
    · replace h := ifn c19 h
      refine rn_if_ne_f (ft167 37 rfl) c19 ?_
      refine rn_ldc (v := (-1000002 : Int32)) (ft167 38 rfl) (by decide) rfl ?_
      cases h
      exact rn_iretI pr167 (ft167 39 rfl)
def f167 (v0 : Nat) (v1 : Int32) (v2 : Int32) (v3 : Int32) (w : Wd) : Option (Int32 × Wd) :=
  (if (wsh w v0).map (fun q => q.1) = some 11 then ob (f121 v0 v1 w) (fun p1 => (if ¬ p1.1 = 0 then (if ¬ v2 = (2 : Int32) then (if ¬ v2 = (4 : Int32) then (if ¬ v3 = 0 then f167_J57  v0 v1 v2 v3 (0 : Int32) p1.2
          else f167_J57  v0 v1 v2 v3 (1 : Int32) p1.2)
        else ob (f39 (Int32.toInt64 v3) (-2 : Int64) (2 : Int64) p1.2) (fun p22 => f167_J57  v0 v1 v2 v3 p22.1 p22.2))
      else ob (f39 (Int32.toInt64 v3) (1 : Int64) (4 : Int64) p1.2) (fun p25 => f167_J57  v0 v1 v2 v3 p25.1 p25.2))
    else some ((-1000001 : Int32), p1.2))) else none)
set_option maxRecDepth 10000 in
theorem r167 {S : Sc} (v0 : Nat) (v1 : Int32) (v2 : Int32) (v3 : Int32) (w : Wd) (o : (Int32 × Wd)) (h : f167 v0 v1 v2 v3 w = some o) : Rn S 167 0 [some (.ref v0), some (.int v1), some (.int v2), some (.int v3), none, none] [] w (some (.int o.1), o.2) := by
  unfold f167 at h
  refine rn_aload_n (ft167 0 rfl) rfl ?_
  refine rn_iload_n (ft167 1 rfl) rfl ?_
  obtain ⟨g29, h⟩ := ifg h
  obtain ⟨p1, q2, h⟩ := ob_some h
  refine rn_callV (as := [.int v1]) (k0 := v0) (r := []) (v := (some (.int p1.1))) (w1 := p1.2) (ft167 2 rfl) (by decide +kernel) rfl (Nat.le_of_ble_eq_true rfl) (Nat.le_of_ble_eq_true rfl) (r121 v0 v1 w _ q2) (by decide +kernel) g29 ?_
  by_cases c28 : ¬ p1.1 = 0
  · replace h := ifp c28 h
    refine rn_if_ne_t (ft167 3 rfl) c28 ?_
    refine rn_iload_n (ft167 6 rfl) rfl ?_
    refine rn_iconst (v := (2 : Int32)) (ft167 7 rfl) (by decide) ?_
    by_cases c27 : ¬ v2 = (2 : Int32)
    · replace h := ifp c27 h
      refine rn_icmp_ne_t (ft167 8 rfl) c27 ?_
      refine rn_iload_n (ft167 15 rfl) rfl ?_
      refine rn_iconst (v := (4 : Int32)) (ft167 16 rfl) (by decide) ?_
      by_cases c24 : ¬ v2 = (4 : Int32)
      · replace h := ifp c24 h
        refine rn_icmp_ne_t (ft167 17 rfl) c24 ?_
        refine rn_iload_n (ft167 24 rfl) rfl ?_
        by_cases c21 : ¬ v3 = 0
        · replace h := ifp c21 h
          refine rn_if_ne_t (ft167 25 rfl) c21 ?_
          refine rn_iconst (v := (0 : Int32)) (ft167 28 rfl) (by decide) ?_
          exact rn_forget (ls := [some (.ref v0), some (.int v1), some (.int v2), some (.int v3), none, none]) (And.intro rfl (And.intro rfl (And.intro rfl (And.intro rfl trivial)))) (rf167_J57  v0 v1 v2 v3 (0 : Int32) p1.2 _  h)
        · replace h := ifn c21 h
          refine rn_if_ne_f (ft167 25 rfl) c21 ?_
          refine rn_iconst (v := (1 : Int32)) (ft167 26 rfl) (by decide) ?_
          refine rn_goto (ft167 27 rfl) ?_
          exact rn_forget (ls := [some (.ref v0), some (.int v1), some (.int v2), some (.int v3), none, none]) (And.intro rfl (And.intro rfl (And.intro rfl (And.intro rfl trivial)))) (rf167_J57  v0 v1 v2 v3 (1 : Int32) p1.2 _  h)
      · replace h := ifn c24 h
        refine rn_icmp_ne_f (ft167 17 rfl) c24 ?_
        refine rn_iload_n (ft167 18 rfl) rfl ?_
        refine rn_i2l (ft167 19 rfl) ?_
        refine rn_ldc2 (v := (-2 : Int64)) (ft167 20 rfl) (by decide) ?_
        refine rn_ldc2 (v := (2 : Int64)) (ft167 21 rfl) (by decide) ?_
        obtain ⟨p22, q23, h⟩ := ob_some h
        refine rn_callS (as := [.long (Int32.toInt64 v3), .long (-2 : Int64), .long (2 : Int64)]) (r := []) (v := (some (.int p22.1))) (w1 := p22.2) (ft167 22 rfl) (by decide +kernel) rfl (Nat.le_of_ble_eq_true rfl) (Nat.le_of_ble_eq_true rfl) (r39 (Int32.toInt64 v3) (-2 : Int64) (2 : Int64) p1.2 _ q23) ?_
        refine rn_goto (ft167 23 rfl) ?_
        exact rn_forget (ls := [some (.ref v0), some (.int v1), some (.int v2), some (.int v3), none, none]) (And.intro rfl (And.intro rfl (And.intro rfl (And.intro rfl trivial)))) (rf167_J57  v0 v1 v2 v3 p22.1 p22.2 _  h)
    · replace h := ifn c27 h
      refine rn_icmp_ne_f (ft167 8 rfl) c27 ?_
      refine rn_iload_n (ft167 9 rfl) rfl ?_
      refine rn_i2l (ft167 10 rfl) ?_
      refine rn_lconst (v := (1 : Int64)) (ft167 11 rfl) (by decide) ?_
      refine rn_ldc2 (v := (4 : Int64)) (ft167 12 rfl) (by decide) ?_
      obtain ⟨p25, q26, h⟩ := ob_some h
      refine rn_callS (as := [.long (Int32.toInt64 v3), .long (1 : Int64), .long (4 : Int64)]) (r := []) (v := (some (.int p25.1))) (w1 := p25.2) (ft167 13 rfl) (by decide +kernel) rfl (Nat.le_of_ble_eq_true rfl) (Nat.le_of_ble_eq_true rfl) (r39 (Int32.toInt64 v3) (1 : Int64) (4 : Int64) p1.2 _ q26) ?_
      refine rn_goto (ft167 14 rfl) ?_
      exact rn_forget (ls := [some (.ref v0), some (.int v1), some (.int v2), some (.int v3), none, none]) (And.intro rfl (And.intro rfl (And.intro rfl (And.intro rfl trivial)))) (rf167_J57  v0 v1 v2 v3 p25.1 p25.2 _  h)
  · replace h := ifn c28 h
    refine rn_if_ne_f (ft167 3 rfl) c28 ?_
    refine rn_ldcw (v := (-1000001 : Int32)) (ft167 4 rfl) (by decide) ?_
    cases h
    exact rn_iretI pr167 (ft167 5 rfl)
/-- NineWheelModel.plain(III)I -/
theorem ft168 : ∀ (i : Nat) {q : Nat × XI}, cd168[i]? = some q → fetch 168 q.1 = some q.2 := ft_of (by decide +kernel)
theorem pr168 : pRt 168 = some .int := rfl
def f168_J89 (n : Nat) (rec6 : Nat → Int32 → Int32 → Int32 → Int32 → Int32 → Int32 → Wd → Option (Int32 × Wd)) (K6 : Int32 → Wd → Option (Int32 × Wd)) (v0 : Nat) (v1 : Int32) (v2 : Int32) (v3 : Int32) (v5 : Int32) (v6 : Int32) (v8 : Int32) (s0 : Int32) (w : Wd) : Option (Int32 × Wd) :=
  (if v6 = 0 then rec6 v0 v1 v2 v3 s0 v8 (v6 + (1 : Int32)) w
    else (if v5 ≤ v8 then rec6 v0 v1 v2 v3 s0 v5 (v6 + (1 : Int32)) w
      else rec6 v0 v1 v2 v3 s0 v8 (v6 + (1 : Int32)) w))
set_option maxRecDepth 10000 in
theorem rf168_J89 {S : Sc} (n : Nat) (rec6 : Nat → Int32 → Int32 → Int32 → Int32 → Int32 → Int32 → Wd → Option (Int32 × Wd)) (K6 : Int32 → Wd → Option (Int32 × Wd)) (v0 : Nat) (v1 : Int32) (v2 : Int32) (v3 : Int32) (v5 : Int32) (v6 : Int32) (v8 : Int32) (s0 : Int32) (w : Wd) (o : (Int32 × Wd)) (hrec6 : ∀ (y0 : Nat) (y1 : Int32) (y2 : Int32) (y3 : Int32) (y4 : Int32) (y5 : Int32) (y6 : Int32) (w : Wd) (o : (Int32 × Wd)), rec6 y0 y1 y2 y3 y4 y5 y6 w = some o → Rn S 168 9 [some (.ref y0), some (.int y1), some (.int y2), some (.int y3), some (.int y4), some (.int y5), some (.int y6), none, none] [] w (some (.int o.1), o.2)) (hK6 : ∀ (y4 : Int32) (w : Wd) (o : (Int32 × Wd)), K6 y4 w = some o → Rn S 168 118 [none, none, none, none, some (.int y4), none, none, none, none] [] w (some (.int o.1), o.2)) (h : f168_J89 n rec6 K6 v0 v1 v2 v3 v5 v6 v8 s0 w = some o) : Rn S 168 89 [some (.ref v0), some (.int v1), some (.int v2), some (.int v3), none, some (.int v5), some (.int v6), none, some (.int v8)] [.int s0] w (some (.int o.1), o.2) := by
  unfold f168_J89 at h
  refine rn_istore (ls' := [some (.ref v0), some (.int v1), some (.int v2), some (.int v3), some (.int s0), some (.int v5), some (.int v6), none, some (.int v8)]) (ft168 44 rfl) rfl ?_
  refine rn_iload (ft168 45 rfl) rfl ?_
  by_cases c24 : v6 = 0
  · replace h := ifp c24 h
    refine rn_if_eq_t (ft168 46 rfl) c24 ?_
    refine rn_iload (ft168 50 rfl) rfl ?_
    refine rn_goto (ft168 51 rfl) ?_
    refine rn_istore (ls' := [some (.ref v0), some (.int v1), some (.int v2), some (.int v3), some (.int s0), some (.int v8), some (.int v6), none, some (.int v8)]) (ft168 53 rfl) rfl ?_
    refine rn_iinc (u := 1) (ls' := [some (.ref v0), some (.int v1), some (.int v2), some (.int v3), some (.int s0), some (.int v8), some (.int (v6 + (1 : Int32))), none, some (.int v8)]) (ft168 54 rfl) rfl (by decide) rfl ?_
    refine rn_goto (ft168 55 rfl) ?_
    exact rn_forget (ls := [some (.ref v0), some (.int v1), some (.int v2), some (.int v3), some (.int s0), some (.int v8), some (.int (v6 + (1 : Int32))), none, none]) (And.intro rfl (And.intro rfl (And.intro rfl (And.intro rfl (And.intro rfl (And.intro rfl (And.intro rfl trivial))))))) (hrec6 v0 v1 v2 v3 s0 v8 (v6 + (1 : Int32)) w _ h)
  · replace h := ifn c24 h
    refine rn_if_eq_f (ft168 46 rfl) c24 ?_
    refine rn_iload (ft168 47 rfl) rfl ?_
    refine rn_iload (ft168 48 rfl) rfl ?_
    by_cases c23 : v5 ≤ v8
    · replace h := ifp c23 h
      refine rn_icmp_ge_t (ft168 49 rfl) c23 ?_
      refine rn_iload (ft168 52 rfl) rfl ?_
      refine rn_istore (ls' := [some (.ref v0), some (.int v1), some (.int v2), some (.int v3), some (.int s0), some (.int v5), some (.int v6), none, some (.int v8)]) (ft168 53 rfl) rfl ?_
      refine rn_iinc (u := 1) (ls' := [some (.ref v0), some (.int v1), some (.int v2), some (.int v3), some (.int s0), some (.int v5), some (.int (v6 + (1 : Int32))), none, some (.int v8)]) (ft168 54 rfl) rfl (by decide) rfl ?_
      refine rn_goto (ft168 55 rfl) ?_
      exact rn_forget (ls := [some (.ref v0), some (.int v1), some (.int v2), some (.int v3), some (.int s0), some (.int v5), some (.int (v6 + (1 : Int32))), none, none]) (And.intro rfl (And.intro rfl (And.intro rfl (And.intro rfl (And.intro rfl (And.intro rfl (And.intro rfl trivial))))))) (hrec6 v0 v1 v2 v3 s0 v5 (v6 + (1 : Int32)) w _ h)
    · replace h := ifn c23 h
      refine rn_icmp_ge_f (ft168 49 rfl) c23 ?_
      refine rn_iload (ft168 50 rfl) rfl ?_
      refine rn_goto (ft168 51 rfl) ?_
      refine rn_istore (ls' := [some (.ref v0), some (.int v1), some (.int v2), some (.int v3), some (.int s0), some (.int v8), some (.int v6), none, some (.int v8)]) (ft168 53 rfl) rfl ?_
      refine rn_iinc (u := 1) (ls' := [some (.ref v0), some (.int v1), some (.int v2), some (.int v3), some (.int s0), some (.int v8), some (.int (v6 + (1 : Int32))), none, some (.int v8)]) (ft168 54 rfl) rfl (by decide) rfl ?_
      refine rn_goto (ft168 55 rfl) ?_
      exact rn_forget (ls := [some (.ref v0), some (.int v1), some (.int v2), some (.int v3), some (.int s0), some (.int v8), some (.int (v6 + (1 : Int32))), none, none]) (And.intro rfl (And.intro rfl (And.intro rfl (And.intro rfl (And.intro rfl (And.intro rfl (And.intro rfl trivial))))))) (hrec6 v0 v1 v2 v3 s0 v8 (v6 + (1 : Int32)) w _ h)
def f168_J79 (n : Nat) (rec6 : Nat → Int32 → Int32 → Int32 → Int32 → Int32 → Int32 → Wd → Option (Int32 × Wd)) (K6 : Int32 → Wd → Option (Int32 × Wd)) (v0 : Nat) (v1 : Int32) (v2 : Int32) (v3 : Int32) (v5 : Int32) (v6 : Int32) (v8 : Int32) (w : Wd) : Option (Int32 × Wd) :=
  ob (f51 v6 w) (fun p21 => f168_J89 n rec6 K6 v0 v1 v2 v3 v5 v6 v8 p21.1 p21.2)
set_option maxRecDepth 10000 in
theorem rf168_J79 {S : Sc} (n : Nat) (rec6 : Nat → Int32 → Int32 → Int32 → Int32 → Int32 → Int32 → Wd → Option (Int32 × Wd)) (K6 : Int32 → Wd → Option (Int32 × Wd)) (v0 : Nat) (v1 : Int32) (v2 : Int32) (v3 : Int32) (v5 : Int32) (v6 : Int32) (v8 : Int32) (w : Wd) (o : (Int32 × Wd)) (hrec6 : ∀ (y0 : Nat) (y1 : Int32) (y2 : Int32) (y3 : Int32) (y4 : Int32) (y5 : Int32) (y6 : Int32) (w : Wd) (o : (Int32 × Wd)), rec6 y0 y1 y2 y3 y4 y5 y6 w = some o → Rn S 168 9 [some (.ref y0), some (.int y1), some (.int y2), some (.int y3), some (.int y4), some (.int y5), some (.int y6), none, none] [] w (some (.int o.1), o.2)) (hK6 : ∀ (y4 : Int32) (w : Wd) (o : (Int32 × Wd)), K6 y4 w = some o → Rn S 168 118 [none, none, none, none, some (.int y4), none, none, none, none] [] w (some (.int o.1), o.2)) (h : f168_J79 n rec6 K6 v0 v1 v2 v3 v5 v6 v8 w = some o) : Rn S 168 79 [some (.ref v0), some (.int v1), some (.int v2), some (.int v3), none, some (.int v5), some (.int v6), none, some (.int v8)] [] w (some (.int o.1), o.2) := by
  unfold f168_J79 at h
  refine rn_iload (ft168 40 rfl) rfl ?_
  obtain ⟨p21, q22, h⟩ := ob_some h
  refine rn_callS (as := [.int v6]) (r := []) (v := (some (.int p21.1))) (w1 := p21.2) (ft168 41 rfl) (by decide +kernel) rfl (Nat.le_of_ble_eq_true rfl) (Nat.le_of_ble_eq_true rfl) (r51 v6 w _ q22) ?_
  refine rn_goto (ft168 42 rfl) ?_
  exact rn_forget (ls := [some (.ref v0), some (.int v1), some (.int v2), some (.int v3), none, some (.int v5), some (.int v6), none, some (.int v8)]) (And.intro rfl (And.intro rfl (And.intro rfl (And.intro rfl (And.intro rfl (And.intro rfl (And.intro rfl trivial))))))) (rf168_J89 n rec6 K6 v0 v1 v2 v3 v5 v6 v8 p21.1 p21.2 _ hrec6 hK6 h)
def f168_J65 (n : Nat) (rec6 : Nat → Int32 → Int32 → Int32 → Int32 → Int32 → Int32 → Wd → Option (Int32 × Wd)) (K6 : Int32 → Wd → Option (Int32 × Wd)) (v0 : Nat) (v1 : Int32) (v2 : Int32) (v3 : Int32) (v4 : Int32) (v5 : Int32) (v6 : Int32) (s0 : Int32) (w : Wd) : Option (Int32 × Wd) :=
  (if v6 = 0 then f168_J79 n rec6 K6 v0 v1 v2 v3 v5 v6 s0 w
    else (if v5 ≤ s0 then f168_J89 n rec6 K6 v0 v1 v2 v3 v5 v6 s0 v4 w
      else f168_J79 n rec6 K6 v0 v1 v2 v3 v5 v6 s0 w))
set_option maxRecDepth 10000 in
theorem rf168_J65 {S : Sc} (n : Nat) (rec6 : Nat → Int32 → Int32 → Int32 → Int32 → Int32 → Int32 → Wd → Option (Int32 × Wd)) (K6 : Int32 → Wd → Option (Int32 × Wd)) (v0 : Nat) (v1 : Int32) (v2 : Int32) (v3 : Int32) (v4 : Int32) (v5 : Int32) (v6 : Int32) (s0 : Int32) (w : Wd) (o : (Int32 × Wd)) (hrec6 : ∀ (y0 : Nat) (y1 : Int32) (y2 : Int32) (y3 : Int32) (y4 : Int32) (y5 : Int32) (y6 : Int32) (w : Wd) (o : (Int32 × Wd)), rec6 y0 y1 y2 y3 y4 y5 y6 w = some o → Rn S 168 9 [some (.ref y0), some (.int y1), some (.int y2), some (.int y3), some (.int y4), some (.int y5), some (.int y6), none, none] [] w (some (.int o.1), o.2)) (hK6 : ∀ (y4 : Int32) (w : Wd) (o : (Int32 × Wd)), K6 y4 w = some o → Rn S 168 118 [none, none, none, none, some (.int y4), none, none, none, none] [] w (some (.int o.1), o.2)) (h : f168_J65 n rec6 K6 v0 v1 v2 v3 v4 v5 v6 s0 w = some o) : Rn S 168 65 [some (.ref v0), some (.int v1), some (.int v2), some (.int v3), some (.int v4), some (.int v5), some (.int v6), none, none] [.int s0] w (some (.int o.1), o.2) := by
  unfold f168_J65 at h
  refine rn_istore (ls' := [some (.ref v0), some (.int v1), some (.int v2), some (.int v3), some (.int v4), some (.int v5), some (.int v6), none, some (.int s0)]) (ft168 34 rfl) rfl ?_
  refine rn_iload (ft168 35 rfl) rfl ?_
  by_cases c26 : v6 = 0
  · replace h := ifp c26 h
    refine rn_if_eq_t (ft168 36 rfl) c26 ?_
    exact rn_forget (ls := [some (.ref v0), some (.int v1), some (.int v2), some (.int v3), none, some (.int v5), some (.int v6), none, some (.int s0)]) (And.intro rfl (And.intro rfl (And.intro rfl (And.intro rfl (And.intro rfl (And.intro rfl (And.intro rfl trivial))))))) (rf168_J79 n rec6 K6 v0 v1 v2 v3 v5 v6 s0 w _ hrec6 hK6 h)
  · replace h := ifn c26 h
    refine rn_if_eq_f (ft168 36 rfl) c26 ?_
    refine rn_iload (ft168 37 rfl) rfl ?_
    refine rn_iload (ft168 38 rfl) rfl ?_
    by_cases c25 : v5 ≤ s0
    · replace h := ifp c25 h
      refine rn_icmp_ge_t (ft168 39 rfl) c25 ?_
      refine rn_iload (ft168 43 rfl) rfl ?_
      exact rn_forget (ls := [some (.ref v0), some (.int v1), some (.int v2), some (.int v3), none, some (.int v5), some (.int v6), none, some (.int s0)]) (And.intro rfl (And.intro rfl (And.intro rfl (And.intro rfl (And.intro rfl (And.intro rfl (And.intro rfl trivial))))))) (rf168_J89 n rec6 K6 v0 v1 v2 v3 v5 v6 s0 v4 w _ hrec6 hK6 h)
    · replace h := ifn c25 h
      refine rn_icmp_ge_f (ft168 39 rfl) c25 ?_
      exact rn_forget (ls := [some (.ref v0), some (.int v1), some (.int v2), some (.int v3), none, some (.int v5), some (.int v6), none, some (.int s0)]) (And.intro rfl (And.intro rfl (And.intro rfl (And.intro rfl (And.intro rfl (And.intro rfl (And.intro rfl trivial))))))) (rf168_J79 n rec6 K6 v0 v1 v2 v3 v5 v6 s0 w _ hrec6 hK6 h)
def f168_H9 (n : Nat)  (K6 : Int32 → Wd → Option (Int32 × Wd)) : Nat → Nat → Int32 → Int32 → Int32 → Int32 → Int32 → Int32 → Wd → Option (Int32 × Wd)
  | 0, _, _, _, _, _, _, _, _ => none
  | k + 1, v0, v1, v2, v3, v4, v5, v6, w =>
    (if (3 : Int32) ≤ v6 then K6 v4 w
      else ob (getR w 11 v0 13) (fun x1 => ob (aldI w x1 v1) (fun x3 => (if x3 < 0 then K6 v4 w
        else ob (f51 v6 w) (fun p5 => ob (f50 v3 p5.1 p5.2) (fun p7 => ob (f123 v2 p7.1 p7.2) (fun p9 => ob (getR p9.2 11 v0 2) (fun x11 => ob (aldB p9.2 x11 p9.1) (fun x13 => (if x13 = 0 then ob (getR p9.2 11 v0 13) (fun x15 => ob (aldI p9.2 x15 v1) (fun x17 => ob (f47 p9.1 x17 p9.2) (fun p19 => f168_J65 n (fun (v0 : Nat) (v1 : Int32) (v2 : Int32) (v3 : Int32) (v4 : Int32) (v5 : Int32) (v6 : Int32) w => f168_H9 n  K6 k v0 v1 v2 v3 v4 v5 v6 w) K6 v0 v1 v2 v3 v4 v5 v6 p19.1 p19.2)))
          else f168_J65 n (fun (v0 : Nat) (v1 : Int32) (v2 : Int32) (v3 : Int32) (v4 : Int32) (v5 : Int32) (v6 : Int32) w => f168_H9 n  K6 k v0 v1 v2 v3 v4 v5 v6 w) K6 v0 v1 v2 v3 v4 v5 v6 (99 : Int32) p9.2))))))))))
set_option maxRecDepth 10000 in
theorem rf168_H9 {S : Sc} (n : Nat)  (K6 : Int32 → Wd → Option (Int32 × Wd))  (hK6 : ∀ (y4 : Int32) (w : Wd) (o : (Int32 × Wd)), K6 y4 w = some o → Rn S 168 118 [none, none, none, none, some (.int y4), none, none, none, none] [] w (some (.int o.1), o.2)) : ∀ (k : Nat) (v0 : Nat) (v1 : Int32) (v2 : Int32) (v3 : Int32) (v4 : Int32) (v5 : Int32) (v6 : Int32) (w : Wd) (o : (Int32 × Wd)), f168_H9 n  K6 k v0 v1 v2 v3 v4 v5 v6 w = some o → Rn S 168 9 [some (.ref v0), some (.int v1), some (.int v2), some (.int v3), some (.int v4), some (.int v5), some (.int v6), none, none] [] w (some (.int o.1), o.2) := by
  intro k
  induction k with
  | zero =>
    intro v0 v1 v2 v3 v4 v5 v6 w o h
    exact nomatch h
  | succ k ih =>
    intro v0 v1 v2 v3 v4 v5 v6 w o h
    have hrec6 : ∀ (y0 : Nat) (y1 : Int32) (y2 : Int32) (y3 : Int32) (y4 : Int32) (y5 : Int32) (y6 : Int32) (w : Wd) (o : (Int32 × Wd)), (fun (v0 : Nat) (v1 : Int32) (v2 : Int32) (v3 : Int32) (v4 : Int32) (v5 : Int32) (v6 : Int32) w => f168_H9 n  K6 k v0 v1 v2 v3 v4 v5 v6 w) y0 y1 y2 y3 y4 y5 y6 w = some o → Rn S 168 9 [some (.ref y0), some (.int y1), some (.int y2), some (.int y3), some (.int y4), some (.int y5), some (.int y6), none, none] [] w (some (.int o.1), o.2) := fun y0 y1 y2 y3 y4 y5 y6 w o h => ih y0 y1 y2 y3 y4 y5 y6 w o h
    unfold f168_H9 at h
    refine rn_iload (ft168 6 rfl) rfl ?_
    refine rn_iconst (v := (3 : Int32)) (ft168 7 rfl) (by decide) ?_
    by_cases c29 : (3 : Int32) ≤ v6
    · replace h := ifp c29 h
      refine rn_icmp_ge_t (ft168 8 rfl) c29 ?_
      exact rn_forget (ls := [none, none, none, none, some (.int v4), none, none, none, none]) (And.intro rfl trivial) (hK6 v4 w _ h)
    · replace h := ifn c29 h
      refine rn_icmp_ge_f (ft168 8 rfl) c29 ?_
      refine rn_aload_n (ft168 9 rfl) rfl ?_
      obtain ⟨x1, q2, h⟩ := ob_some h
      refine rn_getR (ft168 10 rfl) q2 ?_
      refine rn_iload_n (ft168 11 rfl) rfl ?_
      obtain ⟨x3, q4, h⟩ := ob_some h
      refine rn_iaload (ft168 12 rfl) q4 ?_
      by_cases c28 : x3 < 0
      · replace h := ifp c28 h
        refine rn_if_lt_t (ft168 13 rfl) c28 ?_
        exact rn_forget (ls := [none, none, none, none, some (.int v4), none, none, none, none]) (And.intro rfl trivial) (hK6 v4 w _ h)
      · replace h := ifn c28 h
        refine rn_if_lt_f (ft168 13 rfl) c28 ?_
        refine rn_iload_n (ft168 14 rfl) rfl ?_
        refine rn_iload_n (ft168 15 rfl) rfl ?_
        refine rn_iload (ft168 16 rfl) rfl ?_
        obtain ⟨p5, q6, h⟩ := ob_some h
        refine rn_callS (as := [.int v6]) (r := [.int v3, .int v2]) (v := (some (.int p5.1))) (w1 := p5.2) (ft168 17 rfl) (by decide +kernel) rfl (Nat.le_of_ble_eq_true rfl) (Nat.le_of_ble_eq_true rfl) (r51 v6 w _ q6) ?_
        obtain ⟨p7, q8, h⟩ := ob_some h
        refine rn_callS (as := [.int v3, .int p5.1]) (r := [.int v2]) (v := (some (.int p7.1))) (w1 := p7.2) (ft168 18 rfl) (by decide +kernel) rfl (Nat.le_of_ble_eq_true rfl) (Nat.le_of_ble_eq_true rfl) (r50 v3 p5.1 p5.2 _ q8) ?_
        obtain ⟨p9, q10, h⟩ := ob_some h
        refine rn_callS (as := [.int v2, .int p7.1]) (r := []) (v := (some (.int p9.1))) (w1 := p9.2) (ft168 19 rfl) (by decide +kernel) rfl (Nat.le_of_ble_eq_true rfl) (Nat.le_of_ble_eq_true rfl) (r123 v2 p7.1 p7.2 _ q10) ?_
        refine rn_istore (ls' := [some (.ref v0), some (.int v1), some (.int v2), some (.int v3), some (.int v4), some (.int v5), some (.int v6), some (.int p9.1), none]) (ft168 20 rfl) rfl ?_
        refine rn_aload_n (ft168 21 rfl) rfl ?_
        obtain ⟨x11, q12, h⟩ := ob_some h
        refine rn_getR (ft168 22 rfl) q12 ?_
        refine rn_iload (ft168 23 rfl) rfl ?_
        obtain ⟨x13, q14, h⟩ := ob_some h
        refine rn_baload (ft168 24 rfl) q14 ?_
        by_cases c27 : x13 = 0
        · replace h := ifp c27 h
          refine rn_if_eq_t (ft168 25 rfl) c27 ?_
          refine rn_iload (ft168 28 rfl) rfl ?_
          refine rn_aload_n (ft168 29 rfl) rfl ?_
          obtain ⟨x15, q16, h⟩ := ob_some h
          refine rn_getR (ft168 30 rfl) q16 ?_
          refine rn_iload_n (ft168 31 rfl) rfl ?_
          obtain ⟨x17, q18, h⟩ := ob_some h
          refine rn_iaload (ft168 32 rfl) q18 ?_
          obtain ⟨p19, q20, h⟩ := ob_some h
          refine rn_callS (as := [.int p9.1, .int x17]) (r := []) (v := (some (.int p19.1))) (w1 := p19.2) (ft168 33 rfl) (by decide +kernel) rfl (Nat.le_of_ble_eq_true rfl) (Nat.le_of_ble_eq_true rfl) (r47 p9.1 x17 p9.2 _ q20) ?_
          exact rn_forget (ls := [some (.ref v0), some (.int v1), some (.int v2), some (.int v3), some (.int v4), some (.int v5), some (.int v6), none, none]) (And.intro rfl (And.intro rfl (And.intro rfl (And.intro rfl (And.intro rfl (And.intro rfl (And.intro rfl trivial))))))) (rf168_J65 n (fun (v0 : Nat) (v1 : Int32) (v2 : Int32) (v3 : Int32) (v4 : Int32) (v5 : Int32) (v6 : Int32) w => f168_H9 n  K6 k v0 v1 v2 v3 v4 v5 v6 w) K6 v0 v1 v2 v3 v4 v5 v6 p19.1 p19.2 _ hrec6 hK6 h)
        · replace h := ifn c27 h
          refine rn_if_eq_f (ft168 25 rfl) c27 ?_
          refine rn_bipush (v := (99 : Int32)) (ft168 26 rfl) (by decide) ?_
          refine rn_goto (ft168 27 rfl) ?_
          exact rn_forget (ls := [some (.ref v0), some (.int v1), some (.int v2), some (.int v3), some (.int v4), some (.int v5), some (.int v6), none, none]) (And.intro rfl (And.intro rfl (And.intro rfl (And.intro rfl (And.intro rfl (And.intro rfl (And.intro rfl trivial))))))) (rf168_J65 n (fun (v0 : Nat) (v1 : Int32) (v2 : Int32) (v3 : Int32) (v4 : Int32) (v5 : Int32) (v6 : Int32) w => f168_H9 n  K6 k v0 v1 v2 v3 v4 v5 v6 w) K6 v0 v1 v2 v3 v4 v5 v6 (99 : Int32) p9.2 _ hrec6 hK6 h)
def f168 (n : Nat) (v0 : Nat) (v1 : Int32) (v2 : Int32) (v3 : Int32) (w : Wd) : Option (Int32 × Wd) :=
  f168_H9 n  (fun (e4_30 : Int32) (w30 : Wd) => some (e4_30, w30)) n v0 v1 v2 v3 (0 : Int32) (0 : Int32) (0 : Int32) w
set_option maxRecDepth 10000 in
theorem r168 {S : Sc} (n : Nat) (v0 : Nat) (v1 : Int32) (v2 : Int32) (v3 : Int32) (w : Wd) (o : (Int32 × Wd)) (h : f168 n v0 v1 v2 v3 w = some o) : Rn S 168 0 [some (.ref v0), some (.int v1), some (.int v2), some (.int v3), none, none, none, none, none] [] w (some (.int o.1), o.2) := by
  unfold f168 at h
  refine rn_iconst (v := (0 : Int32)) (ft168 0 rfl) (by decide) ?_
  refine rn_istore (ls' := [some (.ref v0), some (.int v1), some (.int v2), some (.int v3), some (.int (0 : Int32)), none, none, none, none]) (ft168 1 rfl) rfl ?_
  refine rn_iconst (v := (0 : Int32)) (ft168 2 rfl) (by decide) ?_
  refine rn_istore (ls' := [some (.ref v0), some (.int v1), some (.int v2), some (.int v3), some (.int (0 : Int32)), some (.int (0 : Int32)), none, none, none]) (ft168 3 rfl) rfl ?_
  refine rn_iconst (v := (0 : Int32)) (ft168 4 rfl) (by decide) ?_
  refine rn_istore (ls' := [some (.ref v0), some (.int v1), some (.int v2), some (.int v3), some (.int (0 : Int32)), some (.int (0 : Int32)), some (.int (0 : Int32)), none, none]) (ft168 5 rfl) rfl ?_
  refine rn_forget (ls := [some (.ref v0), some (.int v1), some (.int v2), some (.int v3), some (.int (0 : Int32)), some (.int (0 : Int32)), some (.int (0 : Int32)), none, none]) (And.intro rfl (And.intro rfl (And.intro rfl (And.intro rfl (And.intro rfl (And.intro rfl (And.intro rfl trivial))))))) (rf168_H9 n  _  (fun e4_30 w30 o h => ?_) n v0 v1 v2 v3 (0 : Int32) (0 : Int32) (0 : Int32) w _ h)
  refine rn_iload (ft168 56 rfl) rfl ?_
  cases h
  exact rn_iretI pr168 (ft168 57 rfl)
