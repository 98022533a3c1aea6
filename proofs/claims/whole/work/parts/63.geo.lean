/-! THE SEA'S GEOMETRY; functions of the reference that look at nothing -/
def dr1 (h : Nat) : Nat := [0, 0, 1, 2, 2, 2, 1, 0].getD h 1
def dc1 (h : Nat) : Nat := [1, 2, 2, 2, 1, 0, 0, 0].getD h 1
/-- the cell one on by a heading -/
def goN (c h : Nat) : Nat := if 1 ≤ c / 8 + dr1 h ∧ c / 8 + dr1 h ≤ 8 ∧ 1 ≤ c % 8 + dc1 h ∧ c % 8 + dc1 h ≤ 8 then 8 * (c / 8 + dr1 h - 1) + (c % 8 + dc1 h - 1) else c
/-- the heading behind a turn -/
def tuN (h k : Nat) : Nat := (h + k + 7) % 8
/-- how far two cells are -/
def farN (c d : Nat) : Nat := Nat.max (if c / 8 < d / 8 then d / 8 - c / 8 else c / 8 - d / 8) (if c % 8 < d % 8 then d % 8 - c % 8 else c % 8 - d % 8)
theorem goN_lt : ∀ c, c < 64 → ∀ h, h < 8 → goN c h < 64 := by decide +kernel
theorem tuN_lt (h k : Nat) : tuN h k < 8 := Nat.mod_lt _ (by decide)
/-- a function that leaves the world -/
def PU {α : Type} (g : Wd → Option (α × Wd)) : Prop := ∀ w, g w = (g W0).map (fun o => (o.1, w))
theorem PU_some {α : Type} (v : α) : PU (fun w => some (v, w)) := fun _ => rfl
theorem PU_none {α : Type} : PU (fun _ => (none : Option (α × Wd))) := fun _ => rfl
theorem PU_ite {α : Type} {c : Prop} [Decidable c] {f g : Wd → Option (α × Wd)} (hf : PU f) (hg : PU g) : PU (fun w => if c then f w else g w) := by
  intro w
  by_cases h : c
  · simp only [if_pos h]
    exact hf w
  · simp only [if_neg h]
    exact hg w
theorem PU_obc {α β : Type} {o : Option β} {g : β → Wd → Option (α × Wd)} (hg : ∀ x, PU (g x)) : PU (fun w => ob o (fun x => g x w)) := by
  intro w
  cases o with
  | none => rfl
  | some x => exact hg x w
theorem PU_val {α : Type} {g : Wd → Option (α × Wd)} (h : PU g) {v : α} (hv : (g W0).map (fun o => o.1) = some v) (w : Wd) : g w = some (v, w) := by
  rw [h w]
  cases e : g W0 with
  | none => rw [e] at hv; cases hv
  | some o => rw [e] at hv; cases hv; rfl
/-- 'in' as a number -/
def inV (x a b : Int64) : Int32 := if lg_cmp x a < 0 then 0 else if 0 < lg_cmp x b then 0 else 1
theorem s40 (x a b : Int64) (w : Wd) : f40 x a b w = some (inV x a b, w) := by
  unfold f40 inV
  split
  · rfl
  · split <;> rfl
theorem pu48 (a b : Int32) : PU (f48 a b) := by
  unfold f48 f48_J30 f48_J41
  repeat' first | refine PU_ite ?_ ?_ | exact PU_some _
theorem dec48 : ∀ a, a < 64 → ∀ b, b < 64 → (f48 (nI a) (nI b) W0).map (fun o => o.1) = some (nI (farN a b)) := by decide +kernel
theorem s48 {a b : Nat} (ha : a < 64) (hb : b < 64) (w : Wd) : f48 (nI a) (nI b) w = some (nI (farN a b), w) := PU_val (pu48 _ _) (dec48 a ha b hb) w
theorem PU_in {α : Type} {x a b : Int64} {g : Int32 → Wd → Option (α × Wd)} (hg : PU (g (inV x a b))) : PU (fun w => ob (f40 x a b w) (fun p => g p.1 p.2)) := by
  intro w
  simp only [s40, ob_at]
  exact hg w
theorem pu123a (v0 v2 s0 : Int32) : PU (f123_J61 v0 v2 s0) := by
  refine PU_in (g := fun y w => if y = 0 then some (v0, w) else ob (f40 (Int32.toInt64 ((irm v0 (8 : Int32)) + s0)) (0 : Int64) (7 : Int64) w) (fun p5 => (if p5.1 = 0 then some (v0, p5.2) else some ((((8 : Int32) * ((v0 / (8 : Int32)) + v2)) + ((irm v0 (8 : Int32)) + s0)), p5.2)))) ?_
  refine PU_ite (PU_some _) ?_
  refine PU_in (g := fun y w => if y = 0 then some (v0, w) else some ((((8 : Int32) * ((v0 / (8 : Int32)) + v2)) + ((irm v0 (8 : Int32)) + s0)), w)) ?_
  exact PU_ite (PU_some _) (PU_some _)
theorem pu123b (v0 v1 s0 : Int32) : PU (f123_J34 v0 v1 s0) := by
  refine PU_in (g := fun y w => if y = 0 then (if v1 ≤ (4 : Int32) then f123_J61 v0 s0 (0 : Int32) w else f123_J61 v0 s0 (-1 : Int32) w) else f123_J61 v0 s0 (1 : Int32) w) ?_
  exact PU_ite (PU_ite (pu123a _ _ _) (pu123a _ _ _)) (pu123a _ _ _)
theorem pu123 (a b : Int32) : PU (f123 a b) := by
  refine PU_ite (pu123b _ _ _) (PU_ite ?_ (pu123b _ _ _))
  refine PU_in (g := fun y w => if y = 0 then f123_J34 a b (0 : Int32) w else f123_J34 a b (1 : Int32) w) ?_
  exact PU_ite (pu123b _ _ _) (pu123b _ _ _)
theorem dec123 : ∀ a, a < 64 → ∀ b, b < 8 → (f123 (nI a) (nI b) W0).map (fun o => o.1) = some (nI (goN a b)) := by decide +kernel
theorem s123 {a b : Nat} (ha : a < 64) (hb : b < 8) (w : Wd) : f123 (nI a) (nI b) w = some (nI (goN a b), w) := PU_val (pu123 _ _) (dec123 a ha b hb) w
theorem pu51 (a b : Int32) : PU (f51 a b) := by
  unfold f51
  exact PU_some _
theorem dec51 : ∀ a, a < 8 → ∀ k, k < 3 → (f51 (nI a) (tI k) W0).map (fun o => o.1) = some (nI (tuN a k)) := by decide +kernel
theorem s51 {a k : Nat} (ha : a < 8) (hk : k < 3) (w : Wd) : f51 (nI a) (tI k) w = some (nI (tuN a k), w) := PU_val (pu51 _ _) (dec51 a ha k hk) w
/-- the order of turns: straight, left, right -/
def toN (i : Nat) : Nat := if i = 0 then 1 else if i = 1 then 0 else 2
theorem toN_lt (i : Nat) : toN i < 3 := by
  unfold toN
  split
  · decide
  · split <;> decide
theorem pu52 (a : Int32) : PU (f52 a) := by
  unfold f52
  repeat' first | refine PU_ite ?_ ?_ | exact PU_some _
theorem dec52 : ∀ a, a < 3 → (f52 (nI a) W0).map (fun o => o.1) = some (tI (toN a)) := by decide +kernel
theorem s52 {a : Nat} (ha : a < 3) (w : Wd) : f52 (nI a) w = some (tI (toN a), w) := PU_val (pu52 _) (dec52 a ha) w
/-- what the most do, as a turn's number -/
def mostN (l n r : Nat) : Nat := if l ≤ n ∧ r ≤ n then 1 else if r ≤ l then 0 else 2
theorem mostN_lt (l n r : Nat) : mostN l n r < 3 := by
  unfold mostN
  split
  · decide
  · split <;> decide
theorem s53 {l n r : Nat} (hl : l < 2 ^ 31) (hn : n < 2 ^ 31) (hr : r < 2 ^ 31) (w : Wd) : f53 (nI l) (nI n) (nI r) w = some (tI (mostN l n r), w) := by
  unfold f53 f53_J14 mostN
  simp (config := { maxSteps := 2000000 }) (disch := omega) only [nI_ltI]
  by_cases h1 : n < l
  · have e1 : ¬ (l ≤ n ∧ r ≤ n) := by omega
    rw [if_pos h1, if_neg e1]
    by_cases h2 : l < r
    · have e2 : ¬ r ≤ l := by omega
      rw [if_pos h2, if_neg e2]; rfl
    · have e2 : r ≤ l := by omega
      rw [if_neg h2, if_pos e2]; rfl
  · rw [if_neg h1]
    by_cases h3 : n < r
    · have e1 : ¬ (l ≤ n ∧ r ≤ n) := by omega
      rw [if_pos h3, if_neg e1]
      by_cases h2 : l < r
      · have e2 : ¬ r ≤ l := by omega
        rw [if_pos h2, if_neg e2]; rfl
      · have e2 : r ≤ l := by omega
        rw [if_neg h2, if_pos e2]; rfl
    · have e1 : l ≤ n ∧ r ≤ n := by omega
      rw [if_neg h3, if_pos e1]; rfl
theorem pu45 (a b : Int32) : PU (f45 a b) := by
  unfold f45
  repeat' first | refine PU_ite ?_ ?_ | exact PU_some _
theorem dec45 : ∀ a, a < 64 → ∀ b, b < 6 → (f45 (nI a) (nI b) W0).map (fun o => o.1) = some (nI (bN a b)) := by decide +kernel
theorem s45 {a b : Nat} (ha : a < 64) (hb : b < 6) (w : Wd) : f45 (nI a) (nI b) w = some (nI (bN a b), w) := PU_val (pu45 _ _) (dec45 a ha b hb) w
/-- the sign of a number, as a turn's number -/
def sgN (x : Int32) : Nat := if x < 0 then 0 else if 0 < x then 2 else 1
theorem sgN_lt (x : Int32) : sgN x < 3 := by
  unfold sgN
  split
  · decide
  · split <;> decide
theorem s56 (x : Int32) (w : Wd) : f56 x w = some (tI (sgN x), w) := by
  unfold f56 sgN
  by_cases h : x < 0
  · have h2 : ¬ (0 : Int32) ≤ x := by rw [Int32.not_le]; exact h
    rw [if_neg h2, if_pos h]; rfl
  · have h2 : (0 : Int32) ≤ x := by rw [← Int32.not_lt]; exact h
    rw [if_pos h2, if_neg h]
    by_cases h3 : 0 < x
    · have h4 : ¬ x ≤ 0 := by rw [Int32.not_le]; exact h3
      rw [if_neg h4, if_pos h3]; rfl
    · have h4 : x ≤ 0 := by rw [← Int32.not_lt]; exact h3
      rw [if_pos h4, if_neg h3]; rfl
