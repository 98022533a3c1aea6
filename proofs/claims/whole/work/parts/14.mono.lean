/-! what a step does to the counts and the locals' length -/
theorem mono_of {w w' : Wd} (h : wn w' = wn w ∧ wz w' = wz w) : wn w ≤ wn w' ∧ wz w ≤ wz w' := ⟨Nat.le_of_eq h.1.symm, Nat.le_of_eq h.2.symm⟩
theorem astI_n {w w' : Wd} {k : Nat} {i v : Int32} (h : astI w k i v = some w') : wn w' = wn w ∧ wz w' = wz w := by
  unfold astI at h
  split at h
  · split at h
    · cases h; exact ⟨rfl, rfl⟩
    · cases h
  · cases h
theorem astB_n {w w' : Wd} {k : Nat} {i v : Int32} (h : astB w k i v = some w') : wn w' = wn w ∧ wz w' = wz w := by
  unfold astB at h
  split at h
  · split at h
    · cases h; exact ⟨rfl, rfl⟩
    · cases h
  · cases h
theorem astL_n {w w' : Wd} {k : Nat} {i : Int32} {v : Int64} (h : astL w k i v = some w') : wn w' = wn w ∧ wz w' = wz w := by
  unfold astL at h
  split at h
  · split at h
    · cases h; exact ⟨rfl, rfl⟩
    · cases h
  · cases h
theorem astR_n {w w' : Wd} {k v : Nat} {i : Int32} (h : astR w k i v = some w') : wn w' = wn w ∧ wz w' = wz w := by
  unfold astR at h
  split at h
  · split at h
    · cases h; exact ⟨rfl, rfl⟩
    · cases h
  · cases h
theorem newC_m (w : Wd) (kd n : Nat) : wn w ≤ wn (newC w kd n) ∧ wz w ≤ wz (newC w kd n) := ⟨Nat.le_succ _, Nat.le_add_right _ _⟩
theorem newM_m (w : Wd) (n k : Nat) : wn w ≤ wn (newM w n k) ∧ wz w ≤ wz (newM w n k) := ⟨by show wn w ≤ wn w + 1 + n; omega, by show wz w ≤ wz w + n + n * k; omega⟩
set_option maxHeartbeats 4000000 in
theorem sx_facts {S : Sc} {x : XI} {pc pc' : Nat} {ls ls' : Ls} {st st' : List Value} {w w' : Wd} (h : sx S x pc ls st w = some (pc', ls', st', w')) : (wn w ≤ wn w' ∧ wz w ≤ wz w') ∧ ls'.length = ls.length := by
  obtain ⟨i, a, b, z, pp⟩ := x
  cases i
  all_goals first
    | (have h0 : (none : Option (Nat × Ls × List Value × Wd)) = some (pc', ls', st', w') := h; cases h0; done)
    | skip
  all_goals (unfold sx at h; dsimp only at h)
  all_goals (repeat' split at h)
  all_goals first
    | (cases h; done)
    | (cases h; exact ⟨⟨Nat.le_refl _, Nat.le_refl _⟩, rfl⟩)
    | (cases h; exact ⟨⟨Nat.le_refl _, Nat.le_refl _⟩, stl1_len _ _ _⟩)
    | (cases h; exact ⟨⟨Nat.le_refl _, Nat.le_refl _⟩, stl2_len _ _ _⟩)
    | (cases h; exact ⟨newC_m _ _ _, rfl⟩)
    | (cases h; exact ⟨newM_m _ _ _, rfl⟩)
    | (rename_i hp; cases h; exact ⟨mono_of (putI_n hp), rfl⟩)
    | (rename_i hp; cases h; exact ⟨mono_of (putZ_n hp), rfl⟩)
    | (rename_i hp; cases h; exact ⟨mono_of (putL_n hp), rfl⟩)
    | (rename_i hp; cases h; exact ⟨mono_of (putR_n hp), rfl⟩)
    | (rename_i hp; cases h; exact ⟨mono_of (astI_n hp), rfl⟩)
    | (rename_i hp; cases h; exact ⟨mono_of (astB_n hp), rfl⟩)
    | (rename_i hp; cases h; exact ⟨mono_of (astL_n hp), rfl⟩)
    | (rename_i hp; cases h; exact ⟨mono_of (astR_n hp), rfl⟩)
    | (rename_i hp; cases h; exact ⟨mono_of (cpyI_n hp), rfl⟩)
theorem run_mono {S : Sc} : ∀ {n M pc : Nat} {ls : Ls} {st : List Value} {w : Wd} {rv : Option Value} {w' : Wd}, run S n M pc ls st w = some (rv, w') → wn w ≤ wn w' ∧ wz w ≤ wz w' := by
  intro n
  induction n with
  | zero => intro M pc ls st w rv w' h; cases h
  | succ n ih =>
    intro M pc ls st w rv w' h
    unfold run at h
    split at h
    · cases h
    · split at h
      · split at h
        · cases h
        · split at h
          · split at h
            · cases h
            · rename_i h1
              have a := ih h1
              have b := ih h
              exact ⟨Nat.le_trans a.1 b.1, Nat.le_trans a.2 b.2⟩
          · cases h
      · split at h
        · split at h
          · cases h
          · cases h
            exact ⟨Nat.le_refl _, Nat.le_refl _⟩
        · split at h
          · cases h
          · rename_i h1
            have a := (sx_facts h1).1
            have b := ih h
            exact ⟨Nat.le_trans a.1 b.1, Nat.le_trans a.2 b.2⟩
