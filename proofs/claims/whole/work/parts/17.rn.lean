/-! THE EVALUATOR, ROW BY ROW -/
/-- with fuel enough, the frame at pc comes to o -/
def Rn (S : Sc) (M pc : Nat) (ls : Ls) (st : List Value) (w : Wd) (o : Option Value × Wd) : Prop := ∃ n, run S n M pc ls st w = some o
theorem run_up {S : Sc} : ∀ {n M pc : Nat} {ls : Ls} {st : List Value} {w : Wd} {o : Option Value × Wd}, run S n M pc ls st w = some o → run S (n + 1) M pc ls st w = some o := by
  intro n
  induction n with
  | zero => intro M pc ls st w o h; cases h
  | succ n ih =>
    intro M pc ls st w o h
    unfold run at h ⊢
    split at h
    · cases h
    · rename_i x hx
      split at h
      · rename_i hc
        rw [if_pos hc]
        split at h
        · cases h
        · rename_i as r hcl
          split at h
          · rename_i he
            rw [if_pos he]
            split at h
            · cases h
            · rename_i v w1 hr
              rw [ih hr]
              exact ih h
          · cases h
      · rename_i hc
        rw [if_neg hc]
        split at h
        · rename_i h2
          rw [if_pos h2]
          exact h
        · rename_i h2
          rw [if_neg h2]
          split at h
          · cases h
          · rename_i pc' ls' st' w1 hs
            exact ih h
theorem run_le {S : Sc} {n k M pc : Nat} {ls : Ls} {st : List Value} {w : Wd} {o : Option Value × Wd} (h : run S n M pc ls st w = some o) (hk : n ≤ k) : run S k M pc ls st w = some o := by
  obtain ⟨d, rfl⟩ := Nat.le.dest hk
  induction d with
  | zero => exact h
  | succ d ih => exact run_up (ih (Nat.le_add_right _ _))
theorem rn_st {S : Sc} {M pc pc' : Nat} {ls ls' : Ls} {st st' : List Value} {w w' : Wd} {x : XI} {o : Option Value × Wd} (hf : fetch M pc = some x) (h1 : ¬ (x.2.1 < 9990 ∧ ik x.1 = 1)) (h2 : ¬ ik x.1 = 2) (hs : sx S x pc ls st w = some (pc', ls', st', w')) (k : Rn S M pc' ls' st' w' o) : Rn S M pc ls st w o := by
  obtain ⟨n, h⟩ := k
  refine ⟨n + 1, ?_⟩
  unfold run
  rw [hf]
  dsimp only
  rw [if_neg h1, if_neg h2, hs]
  exact h
theorem rn_call {S : Sc} {M pc : Nat} {ls : Ls} {st as r : List Value} {w w1 : Wd} {x : XI} {v : Option Value} {o : Option Value × Wd} (hf : fetch M pc = some x) (h1 : x.2.1 < 9990 ∧ ik x.1 = 1) (hcl : cla M x st w = some (as, r)) (hent : (entL as).length ≤ pL x.2.1) (hc : Rn S x.2.1 0 (ent x.2.1 as) [] w (v, w1)) (k : Rn S M (pc + 3) ls (v.toList ++ r) w1 o) : Rn S M pc ls st w o := by
  obtain ⟨n1, e1⟩ := hc
  obtain ⟨n2, e2⟩ := k
  refine ⟨max n1 n2 + 1, ?_⟩
  unfold run
  rw [hf]
  dsimp only
  rw [if_pos h1, hcl]
  dsimp only
  rw [if_pos hent, run_le e1 (Nat.le_max_left _ _)]
  exact run_le e2 (Nat.le_max_right _ _)
theorem rn_ret {S : Sc} {M pc : Nat} {ls : Ls} {st : List Value} {w : Wd} {x : XI} {v : Option Value} (hf : fetch M pc = some x) (h1 : ¬ (x.2.1 < 9990 ∧ ik x.1 = 1)) (h2 : ik x.1 = 2) (hv : rtv M x st = some v) : Rn S M pc ls st w (v, w) := by
  refine ⟨1, ?_⟩
  unfold run
  rw [hf]
  dsimp only
  rw [if_neg h1, if_pos h2, hv]
/-! small words -/
def ob {α β : Type} (o : Option α) (f : α → Option β) : Option β := match o with
  | some a => f a
  | none => none
theorem ob_some {α β : Type} {o : Option α} {f : α → Option β} {b : β} (h : ob o f = some b) : ∃ a, o = some a ∧ f a = some b := by
  cases o with
  | none => cases h
  | some a => exact ⟨a, rfl, h⟩
theorem ob_at {α β : Type} {a : α} {f : α → Option β} : ob (some a) f = f a := rfl
theorem ifp {α : Type} {c : Prop} [Decidable c] {a b : Option α} {o : α} (hc : c) (h : (if c then a else b) = some o) : a = some o := by
  rw [if_pos hc] at h
  exact h
theorem ifn {α : Type} {c : Prop} [Decidable c] {a b : Option α} {o : α} (hc : ¬ c) (h : (if c then a else b) = some o) : b = some o := by
  rw [if_neg hc] at h
  exact h
theorem ifg {α : Type} {c : Prop} [Decidable c] {a : Option α} {o : α} (h : (if c then a else none) = some o) : c ∧ a = some o := by
  by_cases hc : c
  · rw [if_pos hc] at h
    exact ⟨hc, h⟩
  · rw [if_neg hc] at h
    cases h
/-- what is left over -/
abbrev irm (x y : Int32) : Int32 := x - x / y * y
abbrev lrm (x y : Int64) : Int64 := x - x / y * y
theorem sw_out {v : Int32} {N : Nat} (hN : N < 1000) (h : ∀ j : Nat, j ≤ N → ¬ v = Int32.ofNat j) : v.toInt < 0 ∨ (N : Int) < v.toInt := by
  refine Classical.byContradiction fun q => ?_
  have h1 : 0 ≤ v.toInt := by omega
  have h2 : v.toInt ≤ N := by omega
  refine h v.toInt.toNat (by omega) (Int32.toInt_inj.mp ?_)
  have h3 : (Int32.ofNat v.toInt.toNat).toInt = (v.toInt.toNat : Int) := nI_toInt (by omega)
  rw [h3]
  omega
section RR
variable {S : Sc} {M pc : Nat} {ls ls' : Ls} {r : List Value} {w w' : Wd} {o : Option Value × Wd} {a b : Nat} {z : Int} {p : Nat}
theorem rn_iconst {n : Int} {v : Int32} (hf : fetch M pc = some (.iconst n, a, b, z, p)) (hv : Int32.ofInt n = v) (k : Rn S M (pc + 1) ls (.int v :: r) w o) : Rn S M pc ls (r) w o := rn_st hf (fun h => absurd (show (0 : Nat) = 1 from h.2) (by decide)) (fun h => absurd (show (0 : Nat) = 2 from h) (by decide)) (by rw [← hv]; rfl) k
theorem rn_bipush {n : Int} {v : Int32} (hf : fetch M pc = some (.bipush n, a, b, z, p)) (hv : (Int8.ofInt n).toInt32 = v) (k : Rn S M (pc + 2) ls (.int v :: r) w o) : Rn S M pc ls (r) w o := rn_st hf (fun h => absurd (show (0 : Nat) = 1 from h.2) (by decide)) (fun h => absurd (show (0 : Nat) = 2 from h) (by decide)) (by rw [← hv]; rfl) k
theorem rn_sipush {n : Int} {v : Int32} (hf : fetch M pc = some (.sipush n, a, b, z, p)) (hv : (Int16.ofInt n).toInt32 = v) (k : Rn S M (pc + 3) ls (.int v :: r) w o) : Rn S M pc ls (r) w o := rn_st hf (fun h => absurd (show (0 : Nat) = 1 from h.2) (by decide)) (fun h => absurd (show (0 : Nat) = 2 from h) (by decide)) (by rw [← hv]; rfl) k
theorem rn_lconst {n : Fin 2} {v : Int64} (hf : fetch M pc = some (.lconst n, a, b, z, p)) (hv : Int64.ofNat (n : Nat) = v) (k : Rn S M (pc + 1) ls (.long v :: r) w o) : Rn S M pc ls (r) w o := rn_st hf (fun h => absurd (show (0 : Nat) = 1 from h.2) (by decide)) (fun h => absurd (show (0 : Nat) = 2 from h) (by decide)) (by rw [← hv]; rfl) k
theorem rn_ldc {n : Nat} {v : Int32} (hf : fetch M pc = some (.ldc n, a, b, z, p)) (hv : Int32.ofInt z = v) (ha : a = 0) (k : Rn S M (pc + 2) ls (.int v :: r) w o) : Rn S M pc ls (r) w o := rn_st hf (fun h => absurd (show (0 : Nat) = 1 from h.2) (by decide)) (fun h => absurd (show (0 : Nat) = 2 from h) (by decide)) (by rw [← hv]; subst ha; rfl) k
theorem rn_ldcS {n : Nat} {v : UInt32} (hf : fetch M pc = some (.ldc n, 1, b, z, p)) (hv : UInt32.ofNat (16 + b) = v) (k : Rn S M (pc + 2) ls (.float v :: r) w o) : Rn S M pc ls (r) w o := rn_st hf (fun h => absurd (show (0 : Nat) = 1 from h.2) (by decide)) (fun h => absurd (show (0 : Nat) = 2 from h) (by decide)) (by rw [← hv]; rfl) k
theorem rn_ldcw {n : Nat} {v : Int32} (hf : fetch M pc = some (.ldc_w n, a, b, z, p)) (hv : Int32.ofInt z = v) (k : Rn S M (pc + 3) ls (.int v :: r) w o) : Rn S M pc ls (r) w o := rn_st hf (fun h => absurd (show (0 : Nat) = 1 from h.2) (by decide)) (fun h => absurd (show (0 : Nat) = 2 from h) (by decide)) (by rw [← hv]; rfl) k
theorem rn_ldc2 {n : Nat} {v : Int64} (hf : fetch M pc = some (.ldc2_w n, a, b, z, p)) (hv : Int64.ofInt z = v) (k : Rn S M (pc + 3) ls (.long v :: r) w o) : Rn S M pc ls (r) w o := rn_st hf (fun h => absurd (show (0 : Nat) = 1 from h.2) (by decide)) (fun h => absurd (show (0 : Nat) = 2 from h) (by decide)) (by rw [← hv]; rfl) k
theorem rn_iload_n {i : Fin 4} {v : Int32} (hf : fetch M pc = some (.iload_n i, a, b, z, p)) (hl : ldl ls i = some (.int v)) (k : Rn S M (pc + 1) ls (.int v :: r) w o) : Rn S M pc ls (r) w o := rn_st hf (fun h => absurd (show (0 : Nat) = 1 from h.2) (by decide)) (fun h => absurd (show (0 : Nat) = 2 from h) (by decide)) (by unfold sx; dsimp only; rw [hl]) k
theorem rn_iload {i : Nat} {v : Int32} (hf : fetch M pc = some (.iload i, a, b, z, p)) (hl : ldl ls i = some (.int v)) (k : Rn S M (pc + 2) ls (.int v :: r) w o) : Rn S M pc ls (r) w o := rn_st hf (fun h => absurd (show (0 : Nat) = 1 from h.2) (by decide)) (fun h => absurd (show (0 : Nat) = 2 from h) (by decide)) (by unfold sx; dsimp only; rw [hl]) k
theorem rn_lload_n {i : Fin 4} {v : Int64} (hf : fetch M pc = some (.lload_n i, a, b, z, p)) (hl : ldl ls i = some (.long v)) (k : Rn S M (pc + 1) ls (.long v :: r) w o) : Rn S M pc ls (r) w o := rn_st hf (fun h => absurd (show (0 : Nat) = 1 from h.2) (by decide)) (fun h => absurd (show (0 : Nat) = 2 from h) (by decide)) (by unfold sx; dsimp only; rw [hl]) k
theorem rn_lload {i : Nat} {v : Int64} (hf : fetch M pc = some (.lload i, a, b, z, p)) (hl : ldl ls i = some (.long v)) (k : Rn S M (pc + 2) ls (.long v :: r) w o) : Rn S M pc ls (r) w o := rn_st hf (fun h => absurd (show (0 : Nat) = 1 from h.2) (by decide)) (fun h => absurd (show (0 : Nat) = 2 from h) (by decide)) (by unfold sx; dsimp only; rw [hl]) k
theorem rn_aload_n {i : Fin 4} {v : Nat} (hf : fetch M pc = some (.aload_n i, a, b, z, p)) (hl : ldl ls i = some (.ref v)) (k : Rn S M (pc + 1) ls (.ref v :: r) w o) : Rn S M pc ls (r) w o := rn_st hf (fun h => absurd (show (0 : Nat) = 1 from h.2) (by decide)) (fun h => absurd (show (0 : Nat) = 2 from h) (by decide)) (by unfold sx; dsimp only; rw [hl]) k
theorem rn_aload {i : Nat} {v : Nat} (hf : fetch M pc = some (.aload i, a, b, z, p)) (hl : ldl ls i = some (.ref v)) (k : Rn S M (pc + 2) ls (.ref v :: r) w o) : Rn S M pc ls (r) w o := rn_st hf (fun h => absurd (show (0 : Nat) = 1 from h.2) (by decide)) (fun h => absurd (show (0 : Nat) = 2 from h) (by decide)) (by unfold sx; dsimp only; rw [hl]) k
theorem rn_aload_nS {i : Fin 4} {v : UInt32} (hf : fetch M pc = some (.aload_n i, a, b, z, p)) (hl : ldl ls i = some (.float v)) (k : Rn S M (pc + 1) ls (.float v :: r) w o) : Rn S M pc ls (r) w o := rn_st hf (fun h => absurd (show (0 : Nat) = 1 from h.2) (by decide)) (fun h => absurd (show (0 : Nat) = 2 from h) (by decide)) (by unfold sx; dsimp only; rw [hl]) k
theorem rn_aloadS {i : Nat} {v : UInt32} (hf : fetch M pc = some (.aload i, a, b, z, p)) (hl : ldl ls i = some (.float v)) (k : Rn S M (pc + 2) ls (.float v :: r) w o) : Rn S M pc ls (r) w o := rn_st hf (fun h => absurd (show (0 : Nat) = 1 from h.2) (by decide)) (fun h => absurd (show (0 : Nat) = 2 from h) (by decide)) (by unfold sx; dsimp only; rw [hl]) k
theorem rn_istore_n {i : Fin 4} {v : Int32} (hf : fetch M pc = some (.istore_n i, a, b, z, p)) (hl : stl1 ls i (.int v) = ls') (k : Rn S M (pc + 1) ls' (r) w o) : Rn S M pc ls (.int v :: r) w o := rn_st hf (fun h => absurd (show (0 : Nat) = 1 from h.2) (by decide)) (fun h => absurd (show (0 : Nat) = 2 from h) (by decide)) (by rw [← hl]; rfl) k
theorem rn_istore {i : Nat} {v : Int32} (hf : fetch M pc = some (.istore i, a, b, z, p)) (hl : stl1 ls i (.int v) = ls') (k : Rn S M (pc + 2) ls' (r) w o) : Rn S M pc ls (.int v :: r) w o := rn_st hf (fun h => absurd (show (0 : Nat) = 1 from h.2) (by decide)) (fun h => absurd (show (0 : Nat) = 2 from h) (by decide)) (by rw [← hl]; rfl) k
theorem rn_lstore_n {i : Fin 4} {v : Int64} (hf : fetch M pc = some (.lstore_n i, a, b, z, p)) (hl : stl2 ls i (.long v) = ls') (k : Rn S M (pc + 1) ls' (r) w o) : Rn S M pc ls (.long v :: r) w o := rn_st hf (fun h => absurd (show (0 : Nat) = 1 from h.2) (by decide)) (fun h => absurd (show (0 : Nat) = 2 from h) (by decide)) (by rw [← hl]; rfl) k
theorem rn_lstore {i : Nat} {v : Int64} (hf : fetch M pc = some (.lstore i, a, b, z, p)) (hl : stl2 ls i (.long v) = ls') (k : Rn S M (pc + 2) ls' (r) w o) : Rn S M pc ls (.long v :: r) w o := rn_st hf (fun h => absurd (show (0 : Nat) = 1 from h.2) (by decide)) (fun h => absurd (show (0 : Nat) = 2 from h) (by decide)) (by rw [← hl]; rfl) k
theorem rn_astore_n {i : Fin 4} {v : Nat} (hf : fetch M pc = some (.astore_n i, a, b, z, p)) (hl : stl1 ls i (.ref v) = ls') (k : Rn S M (pc + 1) ls' (r) w o) : Rn S M pc ls (.ref v :: r) w o := rn_st hf (fun h => absurd (show (0 : Nat) = 1 from h.2) (by decide)) (fun h => absurd (show (0 : Nat) = 2 from h) (by decide)) (by rw [← hl]; rfl) k
theorem rn_astore {i : Nat} {v : Nat} (hf : fetch M pc = some (.astore i, a, b, z, p)) (hl : stl1 ls i (.ref v) = ls') (k : Rn S M (pc + 2) ls' (r) w o) : Rn S M pc ls (.ref v :: r) w o := rn_st hf (fun h => absurd (show (0 : Nat) = 1 from h.2) (by decide)) (fun h => absurd (show (0 : Nat) = 2 from h) (by decide)) (by rw [← hl]; rfl) k
theorem rn_astore_nS {i : Fin 4} {v : UInt32} (hf : fetch M pc = some (.astore_n i, a, b, z, p)) (hl : stl1 ls i (.float v) = ls') (k : Rn S M (pc + 1) ls' (r) w o) : Rn S M pc ls (.float v :: r) w o := rn_st hf (fun h => absurd (show (0 : Nat) = 1 from h.2) (by decide)) (fun h => absurd (show (0 : Nat) = 2 from h) (by decide)) (by rw [← hl]; rfl) k
theorem rn_astoreS {i : Nat} {v : UInt32} (hf : fetch M pc = some (.astore i, a, b, z, p)) (hl : stl1 ls i (.float v) = ls') (k : Rn S M (pc + 2) ls' (r) w o) : Rn S M pc ls (.float v :: r) w o := rn_st hf (fun h => absurd (show (0 : Nat) = 1 from h.2) (by decide)) (fun h => absurd (show (0 : Nat) = 2 from h) (by decide)) (by rw [← hl]; rfl) k
theorem rn_iinc {i : Nat} {n : Int} {v u : Int32} (hf : fetch M pc = some (.iinc i n, a, b, z, p)) (hl : ldl ls i = some (.int v)) (hn : Int32.ofInt n = u) (hs : stl1 ls i (.int (v + u)) = ls') (k : Rn S M (pc + 3) ls' (r) w o) : Rn S M pc ls (r) w o := rn_st hf (fun h => absurd (show (0 : Nat) = 1 from h.2) (by decide)) (fun h => absurd (show (0 : Nat) = 2 from h) (by decide)) (by unfold sx; dsimp only; rw [hl, ← hs, ← hn]) k
theorem rn_iadd {x y : Int32} (hf : fetch M pc = some (.iadd, a, b, z, p)) (k : Rn S M (pc + 1) ls (.int (x + y) :: r) w o) : Rn S M pc ls (.int y :: .int x :: r) w o := rn_st hf (fun h => absurd (show (0 : Nat) = 1 from h.2) (by decide)) (fun h => absurd (show (0 : Nat) = 2 from h) (by decide)) rfl k
theorem rn_isub {x y : Int32} (hf : fetch M pc = some (.isub, a, b, z, p)) (k : Rn S M (pc + 1) ls (.int (x - y) :: r) w o) : Rn S M pc ls (.int y :: .int x :: r) w o := rn_st hf (fun h => absurd (show (0 : Nat) = 1 from h.2) (by decide)) (fun h => absurd (show (0 : Nat) = 2 from h) (by decide)) rfl k
theorem rn_imul {x y : Int32} (hf : fetch M pc = some (.imul, a, b, z, p)) (k : Rn S M (pc + 1) ls (.int (x * y) :: r) w o) : Rn S M pc ls (.int y :: .int x :: r) w o := rn_st hf (fun h => absurd (show (0 : Nat) = 1 from h.2) (by decide)) (fun h => absurd (show (0 : Nat) = 2 from h) (by decide)) rfl k
theorem rn_iand {x y : Int32} (hf : fetch M pc = some (.iand, a, b, z, p)) (k : Rn S M (pc + 1) ls (.int (x &&& y) :: r) w o) : Rn S M pc ls (.int y :: .int x :: r) w o := rn_st hf (fun h => absurd (show (0 : Nat) = 1 from h.2) (by decide)) (fun h => absurd (show (0 : Nat) = 2 from h) (by decide)) rfl k
theorem rn_ior {x y : Int32} (hf : fetch M pc = some (.ior, a, b, z, p)) (k : Rn S M (pc + 1) ls (.int (x ||| y) :: r) w o) : Rn S M pc ls (.int y :: .int x :: r) w o := rn_st hf (fun h => absurd (show (0 : Nat) = 1 from h.2) (by decide)) (fun h => absurd (show (0 : Nat) = 2 from h) (by decide)) rfl k
theorem rn_ixor {x y : Int32} (hf : fetch M pc = some (.ixor, a, b, z, p)) (k : Rn S M (pc + 1) ls (.int (x ^^^ y) :: r) w o) : Rn S M pc ls (.int y :: .int x :: r) w o := rn_st hf (fun h => absurd (show (0 : Nat) = 1 from h.2) (by decide)) (fun h => absurd (show (0 : Nat) = 2 from h) (by decide)) rfl k
theorem rn_ishl {x y : Int32} (hf : fetch M pc = some (.ishl, a, b, z, p)) (k : Rn S M (pc + 1) ls (.int (x <<< (y &&& 31)) :: r) w o) : Rn S M pc ls (.int y :: .int x :: r) w o := rn_st hf (fun h => absurd (show (0 : Nat) = 1 from h.2) (by decide)) (fun h => absurd (show (0 : Nat) = 2 from h) (by decide)) rfl k
theorem rn_ishr {x y : Int32} (hf : fetch M pc = some (.ishr, a, b, z, p)) (k : Rn S M (pc + 1) ls (.int (x >>> (y &&& 31)) :: r) w o) : Rn S M pc ls (.int y :: .int x :: r) w o := rn_st hf (fun h => absurd (show (0 : Nat) = 1 from h.2) (by decide)) (fun h => absurd (show (0 : Nat) = 2 from h) (by decide)) rfl k
theorem rn_iushr {x y : Int32} (hf : fetch M pc = some (.iushr, a, b, z, p)) (k : Rn S M (pc + 1) ls (.int ((x.toUInt32 >>> (y.toUInt32 &&& Int32.toUInt32 31)).toInt32) :: r) w o) : Rn S M pc ls (.int y :: .int x :: r) w o := rn_st hf (fun h => absurd (show (0 : Nat) = 1 from h.2) (by decide)) (fun h => absurd (show (0 : Nat) = 2 from h) (by decide)) rfl k
theorem rn_idiv {x y : Int32} (hf : fetch M pc = some (.idiv, a, b, z, p)) (hy : ¬ y = 0) (k : Rn S M (pc + 1) ls (.int (x / y) :: r) w o) : Rn S M pc ls (.int y :: .int x :: r) w o := rn_st hf (fun h => absurd (show (0 : Nat) = 1 from h.2) (by decide)) (fun h => absurd (show (0 : Nat) = 2 from h) (by decide)) (if_pos hy) k
theorem rn_irem {x y : Int32} (hf : fetch M pc = some (.irem, a, b, z, p)) (hy : ¬ y = 0) (k : Rn S M (pc + 1) ls (.int (irm x y) :: r) w o) : Rn S M pc ls (.int y :: .int x :: r) w o := rn_st hf (fun h => absurd (show (0 : Nat) = 1 from h.2) (by decide)) (fun h => absurd (show (0 : Nat) = 2 from h) (by decide)) (if_pos hy) k
theorem rn_ineg {x : Int32} (hf : fetch M pc = some (.ineg, a, b, z, p)) (k : Rn S M (pc + 1) ls (.int (-x) :: r) w o) : Rn S M pc ls (.int x :: r) w o := rn_st hf (fun h => absurd (show (0 : Nat) = 1 from h.2) (by decide)) (fun h => absurd (show (0 : Nat) = 2 from h) (by decide)) rfl k
theorem rn_ladd {x y : Int64} (hf : fetch M pc = some (.ladd, a, b, z, p)) (k : Rn S M (pc + 1) ls (.long (x + y) :: r) w o) : Rn S M pc ls (.long y :: .long x :: r) w o := rn_st hf (fun h => absurd (show (0 : Nat) = 1 from h.2) (by decide)) (fun h => absurd (show (0 : Nat) = 2 from h) (by decide)) rfl k
theorem rn_lsub {x y : Int64} (hf : fetch M pc = some (.lsub, a, b, z, p)) (k : Rn S M (pc + 1) ls (.long (x - y) :: r) w o) : Rn S M pc ls (.long y :: .long x :: r) w o := rn_st hf (fun h => absurd (show (0 : Nat) = 1 from h.2) (by decide)) (fun h => absurd (show (0 : Nat) = 2 from h) (by decide)) rfl k
theorem rn_lmul {x y : Int64} (hf : fetch M pc = some (.lmul, a, b, z, p)) (k : Rn S M (pc + 1) ls (.long (x * y) :: r) w o) : Rn S M pc ls (.long y :: .long x :: r) w o := rn_st hf (fun h => absurd (show (0 : Nat) = 1 from h.2) (by decide)) (fun h => absurd (show (0 : Nat) = 2 from h) (by decide)) rfl k
theorem rn_land {x y : Int64} (hf : fetch M pc = some (.land, a, b, z, p)) (k : Rn S M (pc + 1) ls (.long (x &&& y) :: r) w o) : Rn S M pc ls (.long y :: .long x :: r) w o := rn_st hf (fun h => absurd (show (0 : Nat) = 1 from h.2) (by decide)) (fun h => absurd (show (0 : Nat) = 2 from h) (by decide)) rfl k
theorem rn_lor {x y : Int64} (hf : fetch M pc = some (.lor, a, b, z, p)) (k : Rn S M (pc + 1) ls (.long (x ||| y) :: r) w o) : Rn S M pc ls (.long y :: .long x :: r) w o := rn_st hf (fun h => absurd (show (0 : Nat) = 1 from h.2) (by decide)) (fun h => absurd (show (0 : Nat) = 2 from h) (by decide)) rfl k
theorem rn_lrem {x y : Int64} (hf : fetch M pc = some (.lrem, a, b, z, p)) (hy : ¬ y = 0) (k : Rn S M (pc + 1) ls (.long (lrm x y) :: r) w o) : Rn S M pc ls (.long y :: .long x :: r) w o := rn_st hf (fun h => absurd (show (0 : Nat) = 1 from h.2) (by decide)) (fun h => absurd (show (0 : Nat) = 2 from h) (by decide)) (if_pos hy) k
theorem rn_lshl {x : Int64} {y : Int32} (hf : fetch M pc = some (.lshl, a, b, z, p)) (k : Rn S M (pc + 1) ls (.long (x <<< (y.toInt64 &&& 63)) :: r) w o) : Rn S M pc ls (.int y :: .long x :: r) w o := rn_st hf (fun h => absurd (show (0 : Nat) = 1 from h.2) (by decide)) (fun h => absurd (show (0 : Nat) = 2 from h) (by decide)) rfl k
theorem rn_lshr {x : Int64} {y : Int32} (hf : fetch M pc = some (.lshr, a, b, z, p)) (k : Rn S M (pc + 1) ls (.long (x >>> (y.toInt64 &&& 63)) :: r) w o) : Rn S M pc ls (.int y :: .long x :: r) w o := rn_st hf (fun h => absurd (show (0 : Nat) = 1 from h.2) (by decide)) (fun h => absurd (show (0 : Nat) = 2 from h) (by decide)) rfl k
theorem rn_lushr {x : Int64} {y : Int32} (hf : fetch M pc = some (.lushr, a, b, z, p)) (k : Rn S M (pc + 1) ls (.long ((x.toUInt64 >>> (y.toInt64.toUInt64 &&& Int64.toUInt64 63)).toInt64) :: r) w o) : Rn S M pc ls (.int y :: .long x :: r) w o := rn_st hf (fun h => absurd (show (0 : Nat) = 1 from h.2) (by decide)) (fun h => absurd (show (0 : Nat) = 2 from h) (by decide)) rfl k
theorem rn_i2l {x : Int32} (hf : fetch M pc = some (.i2l, a, b, z, p)) (k : Rn S M (pc + 1) ls (.long x.toInt64 :: r) w o) : Rn S M pc ls (.int x :: r) w o := rn_st hf (fun h => absurd (show (0 : Nat) = 1 from h.2) (by decide)) (fun h => absurd (show (0 : Nat) = 2 from h) (by decide)) rfl k
theorem rn_l2i {x : Int64} (hf : fetch M pc = some (.l2i, a, b, z, p)) (k : Rn S M (pc + 1) ls (.int x.toInt32 :: r) w o) : Rn S M pc ls (.long x :: r) w o := rn_st hf (fun h => absurd (show (0 : Nat) = 1 from h.2) (by decide)) (fun h => absurd (show (0 : Nat) = 2 from h) (by decide)) rfl k
theorem rn_i2b {x : Int32} (hf : fetch M pc = some (.i2b, a, b, z, p)) (k : Rn S M (pc + 1) ls (.int x.toInt8.toInt32 :: r) w o) : Rn S M pc ls (.int x :: r) w o := rn_st hf (fun h => absurd (show (0 : Nat) = 1 from h.2) (by decide)) (fun h => absurd (show (0 : Nat) = 2 from h) (by decide)) rfl k
theorem rn_i2c {x : Int32} (hf : fetch M pc = some (.i2c, a, b, z, p)) (k : Rn S M (pc + 1) ls (.int (x.toUInt32 % 65536).toInt32 :: r) w o) : Rn S M pc ls (.int x :: r) w o := rn_st hf (fun h => absurd (show (0 : Nat) = 1 from h.2) (by decide)) (fun h => absurd (show (0 : Nat) = 2 from h) (by decide)) rfl k
theorem rn_lcmp {x y : Int64} (hf : fetch M pc = some (.lcmp, a, b, z, p)) (k : Rn S M (pc + 1) ls (.int (lg_cmp x y) :: r) w o) : Rn S M pc ls (.long y :: .long x :: r) w o := rn_st hf (fun h => absurd (show (0 : Nat) = 1 from h.2) (by decide)) (fun h => absurd (show (0 : Nat) = 2 from h) (by decide)) rfl k
theorem rn_dup {x : Value} (hf : fetch M pc = some (.dup, a, b, z, p)) (hc : x.category = 1) (k : Rn S M (pc + 1) ls (x :: x :: r) w o) : Rn S M pc ls (x :: r) w o := rn_st hf (fun h => absurd (show (0 : Nat) = 1 from h.2) (by decide)) (fun h => absurd (show (0 : Nat) = 2 from h) (by decide)) (if_pos hc) k
theorem rn_dup2 {x y : Value} (hf : fetch M pc = some (.dup2, a, b, z, p)) (hc : x.category = 1) (hd : y.category = 1) (k : Rn S M (pc + 1) ls (x :: y :: x :: y :: r) w o) : Rn S M pc ls (x :: y :: r) w o := rn_st hf (fun h => absurd (show (0 : Nat) = 1 from h.2) (by decide)) (fun h => absurd (show (0 : Nat) = 2 from h) (by decide)) (if_pos ⟨hc, hd⟩) k
theorem rn_dup_x1 {x y : Value} (hf : fetch M pc = some (.dup_x1, a, b, z, p)) (hc : x.category = 1) (hd : y.category = 1) (k : Rn S M (pc + 1) ls (x :: y :: x :: r) w o) : Rn S M pc ls (x :: y :: r) w o := rn_st hf (fun h => absurd (show (0 : Nat) = 1 from h.2) (by decide)) (fun h => absurd (show (0 : Nat) = 2 from h) (by decide)) (if_pos ⟨hc, hd⟩) k
theorem rn_pop {x : Value} (hf : fetch M pc = some (.pop, a, b, z, p)) (hc : x.category = 1) (k : Rn S M (pc + 1) ls (r) w o) : Rn S M pc ls (x :: r) w o := rn_st hf (fun h => absurd (show (0 : Nat) = 1 from h.2) (by decide)) (fun h => absurd (show (0 : Nat) = 2 from h) (by decide)) (if_pos hc) k
theorem rn_if_eq_t {x : Int32} {d : Int} (hf : fetch M pc = some (.ifCond .eq d, a, b, z, p)) (hc : x = 0) (k : Rn S M (a) ls (r) w o) : Rn S M pc ls (.int x :: r) w o := rn_st hf (fun h => absurd (show (0 : Nat) = 1 from h.2) (by decide)) (fun h => absurd (show (0 : Nat) = 2 from h) (by decide)) (if_pos hc) k
theorem rn_if_eq_f {x : Int32} {d : Int} (hf : fetch M pc = some (.ifCond .eq d, a, b, z, p)) (hc : ¬ (x = 0)) (k : Rn S M (pc + 3) ls (r) w o) : Rn S M pc ls (.int x :: r) w o := rn_st hf (fun h => absurd (show (0 : Nat) = 1 from h.2) (by decide)) (fun h => absurd (show (0 : Nat) = 2 from h) (by decide)) (if_neg hc) k
theorem rn_if_ne_t {x : Int32} {d : Int} (hf : fetch M pc = some (.ifCond .ne d, a, b, z, p)) (hc : ¬ x = 0) (k : Rn S M (a) ls (r) w o) : Rn S M pc ls (.int x :: r) w o := rn_st hf (fun h => absurd (show (0 : Nat) = 1 from h.2) (by decide)) (fun h => absurd (show (0 : Nat) = 2 from h) (by decide)) (if_pos hc) k
theorem rn_if_ne_f {x : Int32} {d : Int} (hf : fetch M pc = some (.ifCond .ne d, a, b, z, p)) (hc : ¬ (¬ x = 0)) (k : Rn S M (pc + 3) ls (r) w o) : Rn S M pc ls (.int x :: r) w o := rn_st hf (fun h => absurd (show (0 : Nat) = 1 from h.2) (by decide)) (fun h => absurd (show (0 : Nat) = 2 from h) (by decide)) (if_neg hc) k
theorem rn_if_lt_t {x : Int32} {d : Int} (hf : fetch M pc = some (.ifCond .lt d, a, b, z, p)) (hc : x < 0) (k : Rn S M (a) ls (r) w o) : Rn S M pc ls (.int x :: r) w o := rn_st hf (fun h => absurd (show (0 : Nat) = 1 from h.2) (by decide)) (fun h => absurd (show (0 : Nat) = 2 from h) (by decide)) (if_pos hc) k
theorem rn_if_lt_f {x : Int32} {d : Int} (hf : fetch M pc = some (.ifCond .lt d, a, b, z, p)) (hc : ¬ (x < 0)) (k : Rn S M (pc + 3) ls (r) w o) : Rn S M pc ls (.int x :: r) w o := rn_st hf (fun h => absurd (show (0 : Nat) = 1 from h.2) (by decide)) (fun h => absurd (show (0 : Nat) = 2 from h) (by decide)) (if_neg hc) k
theorem rn_if_ge_t {x : Int32} {d : Int} (hf : fetch M pc = some (.ifCond .ge d, a, b, z, p)) (hc : 0 ≤ x) (k : Rn S M (a) ls (r) w o) : Rn S M pc ls (.int x :: r) w o := rn_st hf (fun h => absurd (show (0 : Nat) = 1 from h.2) (by decide)) (fun h => absurd (show (0 : Nat) = 2 from h) (by decide)) (if_pos hc) k
theorem rn_if_ge_f {x : Int32} {d : Int} (hf : fetch M pc = some (.ifCond .ge d, a, b, z, p)) (hc : ¬ (0 ≤ x)) (k : Rn S M (pc + 3) ls (r) w o) : Rn S M pc ls (.int x :: r) w o := rn_st hf (fun h => absurd (show (0 : Nat) = 1 from h.2) (by decide)) (fun h => absurd (show (0 : Nat) = 2 from h) (by decide)) (if_neg hc) k
theorem rn_if_gt_t {x : Int32} {d : Int} (hf : fetch M pc = some (.ifCond .gt d, a, b, z, p)) (hc : 0 < x) (k : Rn S M (a) ls (r) w o) : Rn S M pc ls (.int x :: r) w o := rn_st hf (fun h => absurd (show (0 : Nat) = 1 from h.2) (by decide)) (fun h => absurd (show (0 : Nat) = 2 from h) (by decide)) (if_pos hc) k
theorem rn_if_gt_f {x : Int32} {d : Int} (hf : fetch M pc = some (.ifCond .gt d, a, b, z, p)) (hc : ¬ (0 < x)) (k : Rn S M (pc + 3) ls (r) w o) : Rn S M pc ls (.int x :: r) w o := rn_st hf (fun h => absurd (show (0 : Nat) = 1 from h.2) (by decide)) (fun h => absurd (show (0 : Nat) = 2 from h) (by decide)) (if_neg hc) k
theorem rn_if_le_t {x : Int32} {d : Int} (hf : fetch M pc = some (.ifCond .le d, a, b, z, p)) (hc : x ≤ 0) (k : Rn S M (a) ls (r) w o) : Rn S M pc ls (.int x :: r) w o := rn_st hf (fun h => absurd (show (0 : Nat) = 1 from h.2) (by decide)) (fun h => absurd (show (0 : Nat) = 2 from h) (by decide)) (if_pos hc) k
theorem rn_if_le_f {x : Int32} {d : Int} (hf : fetch M pc = some (.ifCond .le d, a, b, z, p)) (hc : ¬ (x ≤ 0)) (k : Rn S M (pc + 3) ls (r) w o) : Rn S M pc ls (.int x :: r) w o := rn_st hf (fun h => absurd (show (0 : Nat) = 1 from h.2) (by decide)) (fun h => absurd (show (0 : Nat) = 2 from h) (by decide)) (if_neg hc) k
theorem rn_icmp_eq_t {x y : Int32} {d : Int} (hf : fetch M pc = some (.if_icmp .eq d, a, b, z, p)) (hc : x = y) (k : Rn S M (a) ls (r) w o) : Rn S M pc ls (.int y :: .int x :: r) w o := rn_st hf (fun h => absurd (show (0 : Nat) = 1 from h.2) (by decide)) (fun h => absurd (show (0 : Nat) = 2 from h) (by decide)) (if_pos hc) k
theorem rn_icmp_eq_f {x y : Int32} {d : Int} (hf : fetch M pc = some (.if_icmp .eq d, a, b, z, p)) (hc : ¬ (x = y)) (k : Rn S M (pc + 3) ls (r) w o) : Rn S M pc ls (.int y :: .int x :: r) w o := rn_st hf (fun h => absurd (show (0 : Nat) = 1 from h.2) (by decide)) (fun h => absurd (show (0 : Nat) = 2 from h) (by decide)) (if_neg hc) k
theorem rn_icmp_ne_t {x y : Int32} {d : Int} (hf : fetch M pc = some (.if_icmp .ne d, a, b, z, p)) (hc : ¬ x = y) (k : Rn S M (a) ls (r) w o) : Rn S M pc ls (.int y :: .int x :: r) w o := rn_st hf (fun h => absurd (show (0 : Nat) = 1 from h.2) (by decide)) (fun h => absurd (show (0 : Nat) = 2 from h) (by decide)) (if_pos hc) k
theorem rn_icmp_ne_f {x y : Int32} {d : Int} (hf : fetch M pc = some (.if_icmp .ne d, a, b, z, p)) (hc : ¬ (¬ x = y)) (k : Rn S M (pc + 3) ls (r) w o) : Rn S M pc ls (.int y :: .int x :: r) w o := rn_st hf (fun h => absurd (show (0 : Nat) = 1 from h.2) (by decide)) (fun h => absurd (show (0 : Nat) = 2 from h) (by decide)) (if_neg hc) k
theorem rn_icmp_lt_t {x y : Int32} {d : Int} (hf : fetch M pc = some (.if_icmp .lt d, a, b, z, p)) (hc : x < y) (k : Rn S M (a) ls (r) w o) : Rn S M pc ls (.int y :: .int x :: r) w o := rn_st hf (fun h => absurd (show (0 : Nat) = 1 from h.2) (by decide)) (fun h => absurd (show (0 : Nat) = 2 from h) (by decide)) (if_pos hc) k
theorem rn_icmp_lt_f {x y : Int32} {d : Int} (hf : fetch M pc = some (.if_icmp .lt d, a, b, z, p)) (hc : ¬ (x < y)) (k : Rn S M (pc + 3) ls (r) w o) : Rn S M pc ls (.int y :: .int x :: r) w o := rn_st hf (fun h => absurd (show (0 : Nat) = 1 from h.2) (by decide)) (fun h => absurd (show (0 : Nat) = 2 from h) (by decide)) (if_neg hc) k
theorem rn_icmp_ge_t {x y : Int32} {d : Int} (hf : fetch M pc = some (.if_icmp .ge d, a, b, z, p)) (hc : y ≤ x) (k : Rn S M (a) ls (r) w o) : Rn S M pc ls (.int y :: .int x :: r) w o := rn_st hf (fun h => absurd (show (0 : Nat) = 1 from h.2) (by decide)) (fun h => absurd (show (0 : Nat) = 2 from h) (by decide)) (if_pos hc) k
theorem rn_icmp_ge_f {x y : Int32} {d : Int} (hf : fetch M pc = some (.if_icmp .ge d, a, b, z, p)) (hc : ¬ (y ≤ x)) (k : Rn S M (pc + 3) ls (r) w o) : Rn S M pc ls (.int y :: .int x :: r) w o := rn_st hf (fun h => absurd (show (0 : Nat) = 1 from h.2) (by decide)) (fun h => absurd (show (0 : Nat) = 2 from h) (by decide)) (if_neg hc) k
theorem rn_icmp_gt_t {x y : Int32} {d : Int} (hf : fetch M pc = some (.if_icmp .gt d, a, b, z, p)) (hc : y < x) (k : Rn S M (a) ls (r) w o) : Rn S M pc ls (.int y :: .int x :: r) w o := rn_st hf (fun h => absurd (show (0 : Nat) = 1 from h.2) (by decide)) (fun h => absurd (show (0 : Nat) = 2 from h) (by decide)) (if_pos hc) k
theorem rn_icmp_gt_f {x y : Int32} {d : Int} (hf : fetch M pc = some (.if_icmp .gt d, a, b, z, p)) (hc : ¬ (y < x)) (k : Rn S M (pc + 3) ls (r) w o) : Rn S M pc ls (.int y :: .int x :: r) w o := rn_st hf (fun h => absurd (show (0 : Nat) = 1 from h.2) (by decide)) (fun h => absurd (show (0 : Nat) = 2 from h) (by decide)) (if_neg hc) k
theorem rn_icmp_le_t {x y : Int32} {d : Int} (hf : fetch M pc = some (.if_icmp .le d, a, b, z, p)) (hc : x ≤ y) (k : Rn S M (a) ls (r) w o) : Rn S M pc ls (.int y :: .int x :: r) w o := rn_st hf (fun h => absurd (show (0 : Nat) = 1 from h.2) (by decide)) (fun h => absurd (show (0 : Nat) = 2 from h) (by decide)) (if_pos hc) k
theorem rn_icmp_le_f {x y : Int32} {d : Int} (hf : fetch M pc = some (.if_icmp .le d, a, b, z, p)) (hc : ¬ (x ≤ y)) (k : Rn S M (pc + 3) ls (r) w o) : Rn S M pc ls (.int y :: .int x :: r) w o := rn_st hf (fun h => absurd (show (0 : Nat) = 1 from h.2) (by decide)) (fun h => absurd (show (0 : Nat) = 2 from h) (by decide)) (if_neg hc) k
theorem rn_goto {d : Int} (hf : fetch M pc = some (.goto d, a, b, z, p)) (k : Rn S M (a) ls (r) w o) : Rn S M pc ls (r) w o := rn_st hf (fun h => absurd (show (0 : Nat) = 1 from h.2) (by decide)) (fun h => absurd (show (0 : Nat) = 2 from h) (by decide)) rfl k
theorem rn_sw_d {x : Int32} {d lo hi : Int} {offs : Array Int} (hf : fetch M pc = some (.tableswitch d lo hi offs, a, b, z, p)) (hc : x.toInt < lo ∨ hi < x.toInt) (ht : ((a : Nat) : Int) = (pc : Int) + d) (k : Rn S M (a) ls (r) w o) : Rn S M pc ls (.int x :: r) w o := rn_st hf (fun h => absurd (show (0 : Nat) = 1 from h.2) (by decide)) (fun h => absurd (show (0 : Nat) = 2 from h) (by decide)) (by unfold sx; dsimp only; rw [if_pos hc, if_pos ht]) k
theorem rn_sw_i {x : Int32} {d lo hi e : Int} {offs : Array Int} {pc' : Nat} (hf : fetch M pc = some (.tableswitch d lo hi offs, a, b, z, p)) (hc : ¬ (x.toInt < lo ∨ hi < x.toInt)) (ho : offs[(x.toInt - lo).toNat]? = some e) (ht : ((pc : Int) + e) = (pc' : Int)) (k : Rn S M (pc') ls (r) w o) : Rn S M pc ls (.int x :: r) w o := rn_st hf (fun h => absurd (show (0 : Nat) = 1 from h.2) (by decide)) (fun h => absurd (show (0 : Nat) = 2 from h) (by decide)) (by unfold sx; dsimp only; rw [if_neg hc, ho]; dsimp only; rw [ht]; exact if_pos rfl) k
theorem rn_gets {i : Nat} {v : Value} (hf : fetch M pc = some (.getstatic i, a, b, z, p)) (hv : statV a = some v) (k : Rn S M (pc + 3) ls (v :: r) w o) : Rn S M pc ls (r) w o := rn_st hf (fun h => absurd (show (0 : Nat) = 1 from h.2) (by decide)) (fun h => absurd (show (0 : Nat) = 2 from h) (by decide)) (by unfold sx; dsimp only; rw [hv]) k
theorem rn_getI {i k0 : Nat} {v : Int32} (hf : fetch M pc = some (.getfield i, a, b, z, p)) (hz2 : ¬ z = 2) (hz3 : ¬ z = 3) (hv : getI w a k0 b = some v) (k : Rn S M (pc + 3) ls (.int v :: r) w o) : Rn S M pc ls (.ref k0 :: r) w o := rn_st hf (fun h => absurd (show (0 : Nat) = 1 from h.2) (by decide)) (fun h => absurd (show (0 : Nat) = 2 from h) (by decide)) (by unfold sx; dsimp only; rw [if_neg hz2, if_neg hz3, hv]) k
theorem rn_getL {i k0 : Nat} {v : Int64} (hf : fetch M pc = some (.getfield i, a, b, 2, p)) (hv : getL w a k0 b = some v) (k : Rn S M (pc + 3) ls (.long v :: r) w o) : Rn S M pc ls (.ref k0 :: r) w o := rn_st hf (fun h => absurd (show (0 : Nat) = 1 from h.2) (by decide)) (fun h => absurd (show (0 : Nat) = 2 from h) (by decide)) (by unfold sx; dsimp only; rw [if_pos rfl, hv]) k
theorem rn_getR {i k0 : Nat} {v : Nat} (hf : fetch M pc = some (.getfield i, a, b, 3, p)) (hv : getR w a k0 b = some v) (k : Rn S M (pc + 3) ls (.ref v :: r) w o) : Rn S M pc ls (.ref k0 :: r) w o := rn_st hf (fun h => absurd (show (0 : Nat) = 1 from h.2) (by decide)) (fun h => absurd (show (0 : Nat) = 2 from h) (by decide)) (by unfold sx; dsimp only; rw [if_neg (show ¬ ((3 : Int) = 2) by decide), if_pos rfl, hv]) k
theorem rn_getSv {i : Nat} {u : UInt32} (hf : fetch M pc = some (.getfield i, 50, 0, z, p)) (hu : isStr u) (k : Rn S M (pc + 3) ls (.float (u + 48) :: r) w o) : Rn S M pc ls (.float u :: r) w o := rn_st hf (fun h => absurd (show (0 : Nat) = 1 from h.2) (by decide)) (fun h => absurd (show (0 : Nat) = 2 from h) (by decide)) (by unfold sx; dsimp only; rw [if_pos ⟨rfl, hu.1, hu.2⟩, if_pos rfl]) k
theorem rn_getSc {i : Nat} {u : UInt32} (hf : fetch M pc = some (.getfield i, 50, 1, z, p)) (hu : isStr u) (k : Rn S M (pc + 3) ls (.int 0 :: r) w o) : Rn S M pc ls (.float u :: r) w o := rn_st hf (fun h => absurd (show (0 : Nat) = 1 from h.2) (by decide)) (fun h => absurd (show (0 : Nat) = 2 from h) (by decide)) (by unfold sx; dsimp only; rw [if_pos ⟨rfl, hu.1, hu.2⟩, if_neg (show ¬ ((1 : Nat) = 0) by decide)]) k
theorem rn_putI {i k0 : Nat} {v : Int32} (hf : fetch M pc = some (.putfield i, a, b, 0, p)) (hv : putI w a k0 b v = some w') (k : Rn S M (pc + 3) ls (r) w' o) : Rn S M pc ls (.int v :: .ref k0 :: r) w o := rn_st hf (fun h => absurd (show (0 : Nat) = 1 from h.2) (by decide)) (fun h => absurd (show (0 : Nat) = 2 from h) (by decide)) (by unfold sx; dsimp only; rw [if_pos rfl, hv]) k
theorem rn_putZ {i k0 : Nat} {v : Int32} (hf : fetch M pc = some (.putfield i, a, b, 1, p)) (hv : putZ w a k0 b v = some w') (k : Rn S M (pc + 3) ls (r) w' o) : Rn S M pc ls (.int v :: .ref k0 :: r) w o := rn_st hf (fun h => absurd (show (0 : Nat) = 1 from h.2) (by decide)) (fun h => absurd (show (0 : Nat) = 2 from h) (by decide)) (by unfold sx; dsimp only; rw [if_neg (show ¬ ((1 : Int) = 0) by decide), if_pos rfl, hv]) k
theorem rn_putL {i k0 : Nat} {v : Int64} (hf : fetch M pc = some (.putfield i, a, b, 2, p)) (hv : putL w a k0 b v = some w') (k : Rn S M (pc + 3) ls (r) w' o) : Rn S M pc ls (.long v :: .ref k0 :: r) w o := rn_st hf (fun h => absurd (show (0 : Nat) = 1 from h.2) (by decide)) (fun h => absurd (show (0 : Nat) = 2 from h) (by decide)) (by unfold sx; dsimp only; rw [if_pos rfl, hv]) k
theorem rn_putR {i k0 v : Nat} (hf : fetch M pc = some (.putfield i, a, b, 3, p)) (hv : putR w a k0 b v = some w') (k : Rn S M (pc + 3) ls (r) w' o) : Rn S M pc ls (.ref v :: .ref k0 :: r) w o := rn_st hf (fun h => absurd (show (0 : Nat) = 1 from h.2) (by decide)) (fun h => absurd (show (0 : Nat) = 2 from h) (by decide)) (by unfold sx; dsimp only; rw [if_pos rfl, hv]) k
theorem rn_iaload {i : Int32} {k0 : Nat} {v : Int32} (hf : fetch M pc = some (.iaload, a, b, z, p)) (hv : aldI w k0 i = some v) (k : Rn S M (pc + 1) ls (.int v :: r) w o) : Rn S M pc ls (.int i :: .ref k0 :: r) w o := rn_st hf (fun h => absurd (show (0 : Nat) = 1 from h.2) (by decide)) (fun h => absurd (show (0 : Nat) = 2 from h) (by decide)) (by unfold sx; dsimp only; rw [hv]) k
theorem rn_baload {i : Int32} {k0 : Nat} {v : Int32} (hf : fetch M pc = some (.baload, a, b, z, p)) (hv : aldB w k0 i = some v) (k : Rn S M (pc + 1) ls (.int v :: r) w o) : Rn S M pc ls (.int i :: .ref k0 :: r) w o := rn_st hf (fun h => absurd (show (0 : Nat) = 1 from h.2) (by decide)) (fun h => absurd (show (0 : Nat) = 2 from h) (by decide)) (by unfold sx; dsimp only; rw [hv]) k
theorem rn_laload {i : Int32} {k0 : Nat} {v : Int64} (hf : fetch M pc = some (.laload, a, b, z, p)) (hv : aldL w k0 i = some v) (k : Rn S M (pc + 1) ls (.long v :: r) w o) : Rn S M pc ls (.int i :: .ref k0 :: r) w o := rn_st hf (fun h => absurd (show (0 : Nat) = 1 from h.2) (by decide)) (fun h => absurd (show (0 : Nat) = 2 from h) (by decide)) (by unfold sx; dsimp only; rw [hv]) k
theorem rn_aaload {i : Int32} {k0 : Nat} {v : Nat} (hf : fetch M pc = some (.aaload, a, b, z, p)) (hv : aldR w k0 i = some v) (k : Rn S M (pc + 1) ls (.ref v :: r) w o) : Rn S M pc ls (.int i :: .ref k0 :: r) w o := rn_st hf (fun h => absurd (show (0 : Nat) = 1 from h.2) (by decide)) (fun h => absurd (show (0 : Nat) = 2 from h) (by decide)) (by unfold sx; dsimp only; rw [hv]) k
theorem rn_ialoadS {i : Int32} {u : UInt32} {v : Int32} (hf : fetch M pc = some (.iaload, a, b, z, p)) (hv : tldI S u i = some v) (k : Rn S M (pc + 1) ls (.int v :: r) w o) : Rn S M pc ls (.int i :: .float u :: r) w o := rn_st hf (fun h => absurd (show (0 : Nat) = 1 from h.2) (by decide)) (fun h => absurd (show (0 : Nat) = 2 from h) (by decide)) (by unfold sx; dsimp only; rw [hv]) k
theorem rn_baloadS {i : Int32} {u : UInt32} {v : Int32} (hf : fetch M pc = some (.baload, a, b, z, p)) (hv : tldB stx u i = some v) (k : Rn S M (pc + 1) ls (.int v :: r) w o) : Rn S M pc ls (.int i :: .float u :: r) w o := rn_st hf (fun h => absurd (show (0 : Nat) = 1 from h.2) (by decide)) (fun h => absurd (show (0 : Nat) = 2 from h) (by decide)) (by unfold sx; dsimp only; rw [hv]) k
theorem rn_iastore {i : Int32} {k0 : Nat} {v : Int32} (hf : fetch M pc = some (.iastore, a, b, z, p)) (hv : astI w k0 i v = some w') (k : Rn S M (pc + 1) ls (r) w' o) : Rn S M pc ls (.int v :: .int i :: .ref k0 :: r) w o := rn_st hf (fun h => absurd (show (0 : Nat) = 1 from h.2) (by decide)) (fun h => absurd (show (0 : Nat) = 2 from h) (by decide)) (by unfold sx; dsimp only; rw [hv]) k
theorem rn_bastore {i : Int32} {k0 : Nat} {v : Int32} (hf : fetch M pc = some (.bastore, a, b, z, p)) (hv : astB w k0 i v = some w') (k : Rn S M (pc + 1) ls (r) w' o) : Rn S M pc ls (.int v :: .int i :: .ref k0 :: r) w o := rn_st hf (fun h => absurd (show (0 : Nat) = 1 from h.2) (by decide)) (fun h => absurd (show (0 : Nat) = 2 from h) (by decide)) (by unfold sx; dsimp only; rw [hv]) k
theorem rn_lastore {i : Int32} {k0 : Nat} {v : Int64} (hf : fetch M pc = some (.lastore, a, b, z, p)) (hv : astL w k0 i v = some w') (k : Rn S M (pc + 1) ls (r) w' o) : Rn S M pc ls (.long v :: .int i :: .ref k0 :: r) w o := rn_st hf (fun h => absurd (show (0 : Nat) = 1 from h.2) (by decide)) (fun h => absurd (show (0 : Nat) = 2 from h) (by decide)) (by unfold sx; dsimp only; rw [hv]) k
theorem rn_aastore {i : Int32} {k0 : Nat} {v : Nat} (hf : fetch M pc = some (.aastore, a, b, z, p)) (hv : astR w k0 i v = some w') (k : Rn S M (pc + 1) ls (r) w' o) : Rn S M pc ls (.ref v :: .int i :: .ref k0 :: r) w o := rn_st hf (fun h => absurd (show (0 : Nat) = 1 from h.2) (by decide)) (fun h => absurd (show (0 : Nat) = 2 from h) (by decide)) (by unfold sx; dsimp only; rw [hv]) k
theorem rn_alen {k0 : Nat} {v : Int32} (hf : fetch M pc = some (.arraylength, a, b, z, p)) (hv : alen w k0 = some v) (k : Rn S M (pc + 1) ls (.int v :: r) w o) : Rn S M pc ls (.ref k0 :: r) w o := rn_st hf (fun h => absurd (show (0 : Nat) = 1 from h.2) (by decide)) (fun h => absurd (show (0 : Nat) = 2 from h) (by decide)) (by unfold sx; dsimp only; rw [hv]) k
theorem rn_alenS {u : UInt32} {v : Int32} (hf : fetch M pc = some (.arraylength, a, b, z, p)) (hv : tlen stx S u = some v) (k : Rn S M (pc + 1) ls (.int v :: r) w o) : Rn S M pc ls (.float u :: r) w o := rn_st hf (fun h => absurd (show (0 : Nat) = 1 from h.2) (by decide)) (fun h => absurd (show (0 : Nat) = 2 from h) (by decide)) (by unfold sx; dsimp only; rw [hv]) k
theorem rn_new {i : Nat} (hf : fetch M pc = some (.new i, a, b, z, p)) (k : Rn S M (pc + 3) ls (.ref (wn w) :: r) (newC w a (NF a)) o) : Rn S M pc ls (r) w o := rn_st hf (fun h => absurd (show (0 : Nat) = 1 from h.2) (by decide)) (fun h => absurd (show (0 : Nat) = 2 from h) (by decide)) rfl k
theorem rn_newA {t : ArrayType} {kd : Nat} {n : Int32} (hf : fetch M pc = some (.newarray t, a, b, z, p)) (ht : kdA t = some kd) (hn : ¬ n < 0 ∧ n.toNatClampNeg ≤ 100000) (k : Rn S M (pc + 2) ls (.ref (wn w) :: r) (newC w kd n.toNatClampNeg) o) : Rn S M pc ls (.int n :: r) w o := rn_st hf (fun h => absurd (show (0 : Nat) = 1 from h.2) (by decide)) (fun h => absurd (show (0 : Nat) = 2 from h) (by decide)) (by unfold sx; dsimp only; rw [ht]; exact if_pos hn) k
theorem rn_anew {i : Nat} {n : Int32} (hf : fetch M pc = some (.anewarray i, a, b, z, p)) (hn : ¬ n < 0 ∧ n.toNatClampNeg ≤ 100000 ∧ (a = 24 ∨ a = 25)) (k : Rn S M (pc + 3) ls (.ref (wn w) :: r) (newC w a n.toNatClampNeg) o) : Rn S M pc ls (.int n :: r) w o := rn_st hf (fun h => absurd (show (0 : Nat) = 1 from h.2) (by decide)) (fun h => absurd (show (0 : Nat) = 2 from h) (by decide)) (if_pos hn) k
theorem rn_mnew {i d : Nat} {n k0 : Int32} (hf : fetch M pc = some (.multianewarray i d, a, b, z, p)) (hn : d = 2 ∧ ¬ n < 0 ∧ n.toNatClampNeg ≤ 1000 ∧ ¬ k0 < 0 ∧ k0.toNatClampNeg ≤ 1000) (k : Rn S M (pc + 4) ls (.ref (wn w) :: r) (newM w n.toNatClampNeg k0.toNatClampNeg) o) : Rn S M pc ls (.int k0 :: .int n :: r) w o := rn_st hf (fun h => absurd (show (0 : Nat) = 1 from h.2) (by decide)) (fun h => absurd (show (0 : Nat) = 2 from h) (by decide)) (if_pos hn) k
theorem rn_objInit {i k0 : Nat} (hf : fetch M pc = some (.invokespecial i, 9998, b, z, p)) (h8 : (r.map fun v => v.category).sum ≤ 8) (k : Rn S M (pc + 3) ls (r) w o) : Rn S M pc ls (.ref k0 :: r) w o := rn_st hf (fun h => absurd (show (9998 : Nat) < 9990 from h.1) (by decide)) (fun h => absurd (show (1 : Nat) = 2 from h) (by decide)) (by unfold sx; dsimp only; rw [if_pos rfl]; exact if_pos h8) k
theorem rn_cpy {i ka kb : Nat} {n dp sp : Int32} (hf : fetch M pc = some (.invokestatic i, 9999, b, z, p)) (h8 : (r.map fun v => v.category).sum ≤ 8) (hv : cpyI w ka sp kb dp n = some w') (k : Rn S M (pc + 3) ls (r) w' o) : Rn S M pc ls (.int n :: .int dp :: .ref kb :: .int sp :: .ref ka :: r) w o := rn_st hf (fun h => absurd (show (9999 : Nat) < 9990 from h.1) (by decide)) (fun h => absurd (show (1 : Nat) = 2 from h) (by decide)) (by unfold sx; dsimp only; rw [if_pos rfl, if_pos h8, hv]) k
theorem rn_max {i : Nat} {x y : Int32} (hf : fetch M pc = some (.invokestatic i, 9991, b, z, p)) (h8 : (r.map fun v => v.category).sum ≤ 8) (k : Rn S M (pc + 3) ls (.int (if x < y then y else x) :: r) w o) : Rn S M pc ls (.int y :: .int x :: r) w o := rn_st hf (fun h => absurd (show (9991 : Nat) < 9990 from h.1) (by decide)) (fun h => absurd (show (1 : Nat) = 2 from h) (by decide)) (by unfold sx; dsimp only; rw [if_neg (show ¬ ((9991 : Nat) = 9999) by decide), if_pos rfl]; exact if_pos h8) k
theorem rn_abs {i : Nat} {x : Int32} (hf : fetch M pc = some (.invokestatic i, 9992, b, z, p)) (h8 : (r.map fun v => v.category).sum ≤ 8) (k : Rn S M (pc + 3) ls (.int (if 0 ≤ x then x else 0 - x) :: r) w o) : Rn S M pc ls (.int x :: r) w o := rn_st hf (fun h => absurd (show (9992 : Nat) < 9990 from h.1) (by decide)) (fun h => absurd (show (1 : Nat) = 2 from h) (by decide)) (by unfold sx; dsimp only; rw [if_neg (show ¬ ((9992 : Nat) = 9999) by decide), if_neg (show ¬ ((9992 : Nat) = 9991) by decide), if_pos rfl]; exact if_pos h8) k
end RR
/-! fewer locals known: the same run -/
def lsle : Ls → Ls → Prop
  | [], [] => True
  | none :: a, _ :: b => lsle a b
  | some v :: a, o :: b => o = some v ∧ lsle a b
  | _, _ => False
def LEQ (a b : Ls) : Prop := a.length = b.length ∧ ∀ (i : Nat) (v : Value), a[i]? = some (some v) → b[i]? = some (some v)
theorem lsle_LEQ : ∀ {a b : Ls}, lsle a b → LEQ a b
  | [], [], _ => ⟨rfl, fun i v h => by cases h⟩
  | none :: a, u :: b, h => by
    have h0 : lsle a b := h
    obtain ⟨h1, h2⟩ := lsle_LEQ h0
    refine ⟨by rw [List.length_cons, List.length_cons, h1], fun i v hv => ?_⟩
    cases i with
    | zero => cases hv
    | succ i => exact h2 i v hv
  | some u :: a, q :: b, h => by
    have h0 : q = some u ∧ lsle a b := h
    obtain ⟨h1, h2⟩ := lsle_LEQ h0.2
    refine ⟨by rw [List.length_cons, List.length_cons, h1], fun i v hv => ?_⟩
    cases i with
    | zero =>
      cases hv
      rw [h0.1]
      rfl
    | succ i => exact h2 i v hv
theorem ldl_le {a b : Ls} (h : LEQ a b) {i : Nat} {v : Value} (hl : ldl a i = some v) : ldl b i = some v := by
  unfold ldl at hl
  split at hl
  · rename_i u hu
    cases hl
    unfold ldl
    rw [h.2 _ _ hu]
  · cases hl
theorem set_at {b : Ls} {i : Nat} {q : Option Value} (hi : i < b.length) : (b.set i q)[i]? = some q := by
  rw [List.getElem?_set, if_pos rfl, if_pos hi]
theorem stl1_at {b : Ls} {i : Nat} {v : Value} (hi : i < b.length) : (stl1 b i v)[i]? = some (some v) := by
  unfold stl1
  split
  · exact set_at hi
  · split
    · exact set_at (by rw [List.length_set]; exact hi)
    · exact set_at (by rw [List.length_set]; exact hi)
    · exact set_at hi
theorem set_ne {b : Ls} {i j : Nat} {q : Option Value} (h : j ≠ i) : (b.set i q)[j]? = b[j]? := by
  rw [List.getElem?_set, if_neg (fun e => h e.symm)]
theorem stl1_ne {b : Ls} {i j : Nat} {v u : Value} (hj : j ≠ i) (hb : b[j]? = some (some u)) (hc : ¬ (j + 1 = i ∧ u.category = 2)) : (stl1 b i v)[j]? = some (some u) := by
  unfold stl1
  split
  · rw [set_ne hj]; exact hb
  · rename_i k
    split
    · rename_i z hk
      rw [set_ne hj]
      by_cases e : j = k
      · subst e
        rw [hk] at hb
        cases hb
        exact absurd ⟨rfl, rfl⟩ hc
      · rw [set_ne e]; exact hb
    · rename_i z hk
      rw [set_ne hj]
      by_cases e : j = k
      · subst e
        rw [hk] at hb
        cases hb
        exact absurd ⟨rfl, rfl⟩ hc
      · rw [set_ne e]; exact hb
    · rw [set_ne hj]; exact hb
theorem stl1_le {a b : Ls} (h : LEQ a b) (i : Nat) (v : Value) : LEQ (stl1 a i v) (stl1 b i v) := by
  refine ⟨by rw [stl1_len, stl1_len]; exact h.1, fun j u hj => ?_⟩
  have hlt : j < a.length := by
    have := (List.getElem?_eq_some_iff.mp hj).1
    rw [stl1_len] at this
    exact this
  rcases stl1_get hj with ⟨e1, e2⟩ | ⟨e1, e2, e3⟩
  · subst e1; subst e2
    exact stl1_at (by rw [← h.1]; exact hlt)
  · exact stl1_ne e1 (h.2 _ _ e2) e3
theorem stl2_le {a b : Ls} (h : LEQ a b) (i : Nat) (v : Value) : LEQ (stl2 a i v) (stl2 b i v) := by
  have h1 := stl1_le h i v
  refine ⟨by rw [stl2_len, stl2_len]; exact h.1, fun j u hj => ?_⟩
  unfold stl2 at hj ⊢
  rcases set_get hj with ⟨e1, e2⟩ | ⟨e1, e2⟩
  · cases e2
  · rw [set_ne e1]
    exact h1.2 _ _ e2
def isLoc : Instr → Bool
  | .iload_n _ | .iload _ | .lload_n _ | .lload _ | .aload_n _ | .aload _ | .istore_n _ | .istore _ | .lstore_n _ | .lstore _ | .astore_n _ | .astore _ | .iinc _ _ => true
  | _ => false
set_option maxHeartbeats 4000000 in
theorem sx_ls {S : Sc} {pc : Nat} {ls ls2 : Ls} {st : List Value} {w : Wd} {x : XI} (hx : isLoc x.1 = false) : sx S x pc ls2 st w = (sx S x pc ls st w).map (fun r => (r.1, ls2, r.2.2)) := by
  obtain ⟨i, a, b, z, pp⟩ := x
  cases i
  all_goals first
    | (exfalso; cases hx; done)
    | rfl
    | skip
  all_goals (unfold sx; dsimp only)
  all_goals (repeat' split)
  all_goals first
    | rfl
    | simp_all
set_option maxHeartbeats 4000000 in
theorem sx_le {S : Sc} {pc pc' : Nat} {ls ls2 l1 : Ls} {st st' : List Value} {w w' : Wd} {x : XI} (hle : LEQ ls ls2) (h : sx S x pc ls st w = some (pc', l1, st', w')) : ∃ l2, sx S x pc ls2 st w = some (pc', l2, st', w') ∧ LEQ l1 l2 := by
  by_cases hx : isLoc x.1 = false
  · have e1 := sx_ls (S := S) (pc := pc) (ls := ls) (ls2 := ls2) (st := st) (w := w) hx
    have e2 := sx_ls (S := S) (pc := pc) (ls := ls) (ls2 := ls) (st := st) (w := w) hx
    rw [h] at e1 e2
    have e3 : l1 = ls := congrArg (fun r => r.2.1) (Option.some.inj e2)
    subst e3
    exact ⟨ls2, e1, hle⟩
  · obtain ⟨i, a, b, z, pp⟩ := x
    cases i <;> first | (exact absurd rfl hx) | skip
    all_goals (unfold sx at h ⊢; dsimp only at h ⊢; split at h)
    all_goals first
      | (cases h; done)
      | (rename_i v hl; cases h; rw [ldl_le hle hl]; exact ⟨_, rfl, hle⟩)
      | (rename_i v hl; cases h; rw [ldl_le hle hl]; exact ⟨_, rfl, stl1_le hle _ _⟩)
      | (cases h; exact ⟨_, rfl, stl1_le hle _ _⟩)
      | (cases h; exact ⟨_, rfl, stl2_le hle _ _⟩)
theorem run_forget {S : Sc} : ∀ {n M pc : Nat} {ls ls2 : Ls} {st : List Value} {w : Wd} {o : Option Value × Wd}, LEQ ls ls2 → run S n M pc ls st w = some o → run S n M pc ls2 st w = some o := by
  intro n
  induction n with
  | zero => intro M pc ls ls2 st w o hle h; cases h
  | succ n ih =>
    intro M pc ls ls2 st w o hle h
    unfold run at h ⊢
    split at h
    · cases h
    · rename_i x hx
      split at h
      · rename_i hc
        rw [if_pos hc]
        split at h
        · cases h
        · rename_i as r hcl
          split at h
          · rename_i he
            rw [if_pos he]
            split at h
            · cases h
            · rename_i v w1 hr
              exact ih hle h
          · cases h
      · rename_i hc
        rw [if_neg hc]
        split at h
        · rename_i h2
          rw [if_pos h2]
          exact h
        · rename_i h2
          rw [if_neg h2]
          split at h
          · cases h
          · rename_i pc' ls' st' w1 hs
            obtain ⟨l2, e1, e2⟩ := sx_le hle hs
            rw [e1]
            exact ih e2 h
theorem rn_forget {S : Sc} {M pc : Nat} {ls ls2 : Ls} {st : List Value} {w : Wd} {o : Option Value × Wd} (hle : lsle ls ls2) (h : Rn S M pc ls st w o) : Rn S M pc ls2 st w o := by
  obtain ⟨n, e⟩ := h
  exact ⟨n, run_forget (lsle_LEQ hle) e⟩
/-! calls and ends -/
section RQ
variable {S : Sc} {M pc : Nat} {ls : Ls} {w : Wd} {o : Option Value × Wd} {b : Nat} {z : Int} {p : Nat}
theorem rn_callS {M' i : Nat} {as r : List Value} {v : Option Value} {w1 : Wd} (hf : fetch M pc = some (.invokestatic i, M', b, z, p)) (hr : M' < 9990 ∧ pK M' < pK M) (hb : as.length = b) (h8 : (r.map fun v => v.category).sum ≤ 8) (hent : (entL as).length ≤ pL M') (hc : Rn S M' 0 (ent M' as) [] w (v, w1)) (k : Rn S M (pc + 3) ls (v.toList ++ r) w1 o) : Rn S M pc ls (as.reverse ++ r) w o := by
  refine rn_call (as := as) (r := r) (v := v) (w1 := w1) hf ⟨hr.1, rfl⟩ ?_ hent hc k
  have h1 : (as.reverse ++ r).take b = as.reverse := by rw [← hb, ← List.length_reverse]; exact List.take_left' rfl
  have h2 : (as.reverse ++ r).drop b = r := by rw [← hb, ← List.length_reverse]; exact List.drop_left' rfl
  unfold cla
  rw [if_neg (fun q => q hr.2)]
  dsimp only
  rw [h1, h2, if_pos ⟨by rw [List.length_reverse]; exact hb, h8⟩, List.reverse_reverse]
theorem rn_callI {M' i k0 : Nat} {as r : List Value} {v : Option Value} {w1 : Wd} (hf : fetch M pc = some (.invokespecial i, M', b, z, p)) (hr : M' < 9990 ∧ pK M' < pK M) (hb : as.length = b) (h8 : (r.map fun v => v.category).sum ≤ 8) (hent : (entL (.ref k0 :: as)).length ≤ pL M') (hc : Rn S M' 0 (ent M' (.ref k0 :: as)) [] w (v, w1)) (k : Rn S M (pc + 3) ls (v.toList ++ r) w1 o) : Rn S M pc ls (as.reverse ++ .ref k0 :: r) w o := by
  refine rn_call (as := .ref k0 :: as) (r := r) (v := v) (w1 := w1) hf ⟨hr.1, rfl⟩ ?_ hent hc k
  have h1 : (as.reverse ++ .ref k0 :: r).take b = as.reverse := by rw [← hb, ← List.length_reverse]; exact List.take_left' rfl
  have h2 : (as.reverse ++ .ref k0 :: r).drop b = .ref k0 :: r := by rw [← hb, ← List.length_reverse]; exact List.drop_left' rfl
  unfold cla
  rw [if_neg (fun q => q hr.2)]
  dsimp only
  rw [h1, h2]
  dsimp only
  rw [if_pos ⟨by rw [List.length_reverse]; exact hb, h8⟩, List.reverse_reverse]
theorem rn_callV {M' i k0 ci : Nat} {as r : List Value} {v : Option Value} {w1 : Wd} (hf : fetch M pc = some (.invokevirtual i, M', b, z, p)) (hr : M' < 9990 ∧ pK M' < pK M) (hb : as.length = b) (h8 : (r.map fun v => v.category).sum ≤ 8) (hent : (entL (.ref k0 :: as)).length ≤ pL M') (hc : Rn S M' 0 (ent M' (.ref k0 :: as)) [] w (v, w1)) (hci : pC M' = ci) (hk : (wsh w k0).map (fun q => q.1) = some ci) (k : Rn S M (pc + 3) ls (v.toList ++ r) w1 o) : Rn S M pc ls (as.reverse ++ .ref k0 :: r) w o := by
  refine rn_call (as := .ref k0 :: as) (r := r) (v := v) (w1 := w1) hf ⟨hr.1, rfl⟩ ?_ hent hc k
  have h1 : (as.reverse ++ .ref k0 :: r).take b = as.reverse := by rw [← hb, ← List.length_reverse]; exact List.take_left' rfl
  have h2 : (as.reverse ++ .ref k0 :: r).drop b = .ref k0 :: r := by rw [← hb, ← List.length_reverse]; exact List.drop_left' rfl
  unfold cla
  rw [if_neg (fun q => q hr.2)]
  dsimp only
  rw [h1, h2]
  dsimp only
  rw [if_pos ⟨by rw [List.length_reverse]; exact hb, h8, by rw [hci]; exact hk⟩, List.reverse_reverse]
theorem rn_callVS {M' i : Nat} {u : UInt32} {as r : List Value} {v : Option Value} {w1 : Wd} (hf : fetch M pc = some (.invokevirtual i, M', b, z, p)) (hr : M' < 9990 ∧ pK M' < pK M) (hb : as.length = b) (h8 : (r.map fun v => v.category).sum ≤ 8) (hent : (entL (.float u :: as)).length ≤ pL M') (hc : Rn S M' 0 (ent M' (.float u :: as)) [] w (v, w1)) (hci : pC M' = 50) (hk : 16 ≤ u.toNat ∧ u.toNat < 32) (k : Rn S M (pc + 3) ls (v.toList ++ r) w1 o) : Rn S M pc ls (as.reverse ++ .float u :: r) w o := by
  refine rn_call (as := .float u :: as) (r := r) (v := v) (w1 := w1) hf ⟨hr.1, rfl⟩ ?_ hent hc k
  have h1 : (as.reverse ++ .float u :: r).take b = as.reverse := by rw [← hb, ← List.length_reverse]; exact List.take_left' rfl
  have h2 : (as.reverse ++ .float u :: r).drop b = .float u :: r := by rw [← hb, ← List.length_reverse]; exact List.drop_left' rfl
  unfold cla
  rw [if_neg (fun q => q hr.2)]
  dsimp only
  rw [h1, h2]
  dsimp only
  rw [if_pos ⟨by rw [List.length_reverse]; exact hb, h8, hci, hk.1, hk.2⟩, List.reverse_reverse]
variable {a : Nat}
theorem rn_iretI {v : Int32} (hp : pRt M = some .int) (hf : fetch M pc = some (.ireturn, a, b, z, p)) : Rn S M pc ls [.int v] w (some (.int v), w) := rn_ret hf (fun h => absurd (show (2 : Nat) = 1 from h.2) (by decide)) rfl (by unfold rtv; dsimp only; rw [hp])
theorem rn_iretZ {v : Int32} (hp : pRt M = some .boolean) (hv : v = 0 ∨ v = 1) (hf : fetch M pc = some (.ireturn, a, b, z, p)) : Rn S M pc ls [.int v] w (some (.int v), w) := rn_ret hf (fun h => absurd (show (2 : Nat) = 1 from h.2) (by decide)) rfl (by unfold rtv; dsimp only; rw [hp]; exact if_pos hv)
theorem rn_iretB {v : Int32} (hp : pRt M = some .byte) (hv : v = 0) (hf : fetch M pc = some (.ireturn, a, b, z, p)) : Rn S M pc ls [.int v] w (some (.int v), w) := rn_ret hf (fun h => absurd (show (2 : Nat) = 1 from h.2) (by decide)) rfl (by unfold rtv; dsimp only; rw [hp]; exact if_pos hv)
theorem rn_iretC {v : Int32} (hp : pRt M = some .char) (hv : v.toUInt32.toUInt16.toUInt32.toInt32 = v) (hf : fetch M pc = some (.ireturn, a, b, z, p)) : Rn S M pc ls [.int v] w (some (.int v), w) := rn_ret hf (fun h => absurd (show (2 : Nat) = 1 from h.2) (by decide)) rfl (by unfold rtv; dsimp only; rw [hp]; exact if_pos hv)
theorem rn_lret {v : Int64} (hp : pRt M = some .long) (hf : fetch M pc = some (.lreturn, a, b, z, p)) : Rn S M pc ls [.long v] w (some (.long v), w) := rn_ret hf (fun h => absurd (show (2 : Nat) = 1 from h.2) (by decide)) rfl (by unfold rtv; dsimp only; exact if_pos hp)
theorem rn_vret (hp : pRt M = none) (hf : fetch M pc = some (.return_, a, b, z, p)) : Rn S M pc ls [] w (none, w) := rn_ret hf (fun h => absurd (show (2 : Nat) = 1 from h.2) (by decide)) rfl (by unfold rtv; dsimp only; exact if_pos hp)
end RQ
theorem ft_of {M : Nat} {l : List (Nat × XI)} (h : l.all (fun q => decide (fetch M q.1 = some q.2)) = true) : ∀ (i : Nat) {q : Nat × XI}, l[i]? = some q → fetch M q.1 = some q.2 := fun i q hq => of_decide_eq_true (List.all_eq_true.mp h q (List.mem_of_getElem? hq))
/-! words of the functions -/
def S0 : Sc := (0, fun _ => 0)
def slen (u : UInt32) : Option Int32 := match tabS stx u with
  | some (n, _) => some (Int32.ofNat n)
  | none => none
theorem slen_ok {S : Sc} {u : UInt32} {v : Int32} (h : slen u = some v) : tlen stx S u = some v := by
  unfold slen at h
  split at h
  · rename_i n f e
    have h64 : 64 ≤ u.toNat := by
      unfold tabS at e
      split at e
      · rename_i hc
        exact hc.1
      · cases e
    have hn : tabN S u = none := by
      unfold tabN
      rw [if_neg (by omega), if_neg (by omega), if_neg (by omega), if_neg (by omega)]
    unfold tlen
    rw [hn]
    dsimp only
    rw [e]
    exact h
  · cases h
abbrev toB (x : Int32) : Int32 := x.toInt8.toInt32
abbrev toC (x : Int32) : Int32 := (x.toUInt32 % 65536).toInt32
abbrev ush (x y : Int32) : Int32 := (x.toUInt32 >>> (y.toUInt32 &&& Int32.toUInt32 31)).toInt32
abbrev lush (x : Int64) (y : Int32) : Int64 := (x.toUInt64 >>> (y.toInt64.toUInt64 &&& Int64.toUInt64 63)).toInt64
