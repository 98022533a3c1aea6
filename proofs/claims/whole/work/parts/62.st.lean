/-! THE STATE IN NUMBERS: A is a picture of the reference's cells; what stands in it -/
abbrev St : Type := Nat → Nat → Int32
abbrev Lt : Type := Nat → Nat → Int64
def nsN (A : St) : Nat := (A 67 6).toNatClampNeg
def shN (A : St) : Nat := (A 67 0).toNatClampNeg
def hdN (A : St) : Nat := (A 67 1).toNatClampNeg
def dEv (A : St) : Nat := (A 67 4).toNatClampNeg
def dHd (A : St) : Nat := (A 67 3).toNatClampNeg
def lagN (A : St) : Nat := (A 67 5).toNatClampNeg
def perN (A : St) (s : Nat) : Nat := (A 69 s).toNatClampNeg
def wayN (A : St) (s : Nat) : Nat := (A 72 s).toNatClampNeg
def wByN (A : St) (s : Nat) : Nat := (A 73 s).toNatClampNeg
def txN (A : St) : Nat := (A 67 15).toNatClampNeg
def nrN (A : St) : Nat := (A 67 37).toNatClampNeg
def lgN (A : St) : Nat := (A 67 56).toNatClampNeg
def rkN (A : St) (c : Nat) : Nat := (A 68 c).toNatClampNeg
/-- a way and what goes with it -/
def wayOk (w v : Int32) : Prop := (w = nI 0 ∧ v = nI 0) ∨ (w = nI 1 ∧ v = nI 0) ∨ (w = nI 2 ∧ ∃ k, 1 ≤ k ∧ k ≤ 4 ∧ v = nI k) ∨ (w = nI 3 ∧ v = nI 0) ∨ (w = nI 4 ∧ (v = -2 ∨ v = -1 ∨ v = nI 0 ∨ v = nI 1 ∨ v = nI 2))
/-- a rule's row -/
def ruleOk (r : Nat → Int32) : Prop := (∃ k, k < 4 ∧ r 0 = nI k) ∧ (∃ k, k ≤ 54 ∧ r 1 = nI k) ∧ (∃ k, k < 64 ∧ r 2 = nI k) ∧ ((r 3 = nI 0 ∧ r 4 = nI 0) ∨ ((r 3 = -1 ∨ r 3 = nI 1) ∧ ∃ k, 1 ≤ k ∧ k ≤ 7 ∧ r 4 = nI k))
def ruRow (A : St) (r : Nat) : Nat → Int32 := fun q => A 84 (5 * r + q)
/-- the sea is well formed -/
def WFs (A : St) : Prop :=
  (A 67 6 = nI (nsN A) ∧ nsN A ≤ 6) ∧ (A 67 0 = nI (shN A) ∧ shN A < 64) ∧ (A 67 1 = nI (hdN A) ∧ hdN A < 8)
  ∧ ((A 67 4 = -1 ∧ A 67 3 = -1) ∨ (A 67 4 = nI (dEv A) ∧ A 67 3 = nI (dHd A) ∧ 1 ≤ dEv A ∧ dEv A ≤ 9 ∧ dHd A < 8))
  ∧ (A 67 5 = nI (lagN A) ∧ lagN A ≤ 2)
  ∧ (∀ s, s < nsN A → A 69 s = nI (perN A s) ∧ 1 ≤ perN A s ∧ perN A s ≤ 9)
  ∧ (∀ c, c < 64 → A 68 c = nI (rkN A c) ∧ rkN A c ≤ 1) ∧ rkN A (shN A) = 0
  ∧ (∀ s, s < nsN A → ∀ c, c < 64 → -99 ≤ (A 74 (64 * s + c)).toInt ∧ (A 74 (64 * s + c)).toInt ≤ 9 ∧ (rkN A c = 1 → A 74 (64 * s + c) = -99))
  ∧ (∀ s, s < nsN A → A 75 s = -1 ∨ ∃ g, g < 64 ∧ A 75 s = nI g)
/-- the rest is -/
def WFr (A : St) : Prop :=
  (∀ s, s < nsN A → wayOk (A 72 s) (A 73 s))
  ∧ (A 67 15 = nI (txN A) ∧ txN A ≤ 300) ∧ (∀ i, i < txN A → ∃ b, b < 256 ∧ A 76 i = nI b)
  ∧ (A 67 37 = nI (nrN A) ∧ nrN A ≤ 4) ∧ (∀ r, r < nrN A → ruleOk (ruRow A r))
  ∧ (A 67 56 = nI (lgN A) ∧ lgN A ≤ 40) ∧ (∃ v, v < 2 ^ 31 ∧ A 67 60 = nI v)
  ∧ (∀ i, i < 2 → A 94 i = nI 0 ∨ (A 94 i = nI 1 ∧ (∀ s, s < nsN A → wayOk (A 93 (60 * i + 2 + s)) (A 93 (60 * i + 8 + s))) ∧ (∃ l, l ≤ 40 ∧ A 93 (60 * i) = nI l) ∧ ∃ v, v < 2 ^ 31 ∧ A 93 (60 * i + 1) = nI v))
/-- only cells of K and fields F of the reference have changed -/
def Fr (K F : List Nat) (I I' : St) : Prop := ∀ k j, k ∉ K → (k = 67 → j ∉ F) → I' k j = I k j
theorem Fr.rf {K F : List Nat} {I : St} : Fr K F I I := fun _ _ _ _ => rfl
theorem Fr.tr {K F : List Nat} {I I' I'' : St} (h : Fr K F I I') (h2 : Fr K F I' I'') : Fr K F I I'' := fun k j a b => (h2 k j a b).trans (h k j a b)
theorem Fr.mono {K F K' F' : List Nat} {I I' : St} (h : Fr K F I I') (hK : ∀ k, k ∈ K → k ∈ K') (hF : ∀ j, j ∈ F → j ∈ F') : Fr K' F' I I' := fun k j a b => h k j (fun q => a (hK k q)) fun e q => b e (hF j q)
theorem Fr.u {K F : List Nat} {I I' : St} (h : Fr K F I I') {k j : Nat} {v : Int32} (hk : k ∈ K) : Fr K F I (u2 I' k j v) := by
  intro a b ha hb
  have e : ¬ a = k := fun e => ha (e ▸ hk)
  exact (ux_k e).trans (h a b ha hb)
theorem Fr.uf {K F : List Nat} {I I' : St} (h : Fr K F I I') {j : Nat} {v : Int32} (hj : j ∈ F) : Fr K F I (u2 I' 67 j v) := by
  intro a b ha hb
  by_cases e : a = 67
  · have e2 : ¬ b = j := fun q => hb e (q ▸ hj)
    exact (ux_jo e2).trans (h a b ha hb)
  · exact (ux_k e).trans (h a b ha hb)
theorem Fr.at {K F : List Nat} {I I' : St} (h : Fr K F I I') {k : Nat} (hk : k ∉ K) (hM : k ≠ 67) : I' k = I k := funext fun j => h k j hk fun e => absurd e hM
theorem Fr.f {K F : List Nat} {I I' : St} (h : Fr K F I I') {j : Nat} (hk : 67 ∉ K) (hj : j ∉ F) : I' 67 j = I 67 j := h 67 j hk fun _ => hj
/-- the fields of the reference that a picture holds, and its arrays -/
def mcF : List Nat := [0, 1, 3, 4, 5, 6, 15, 16, 37, 56]
def mcK : List Nat := [68, 69, 70, 72, 73, 74, 75, 76, 84, 90, 93, 94]
/-- the reference's cells are as in the picture -/
def MC (I A : St) : Prop := (∀ j, j ∈ mcF → I 67 j = A 67 j) ∧ (∀ k, k ∈ mcK → I k = A k)
theorem MC.rf {A : St} : MC A A := ⟨fun _ _ => rfl, fun _ _ => rfl⟩
theorem MC.fr {I I' A : St} (h : MC I A) {K F : List Nat} (f : Fr K F I I') (hF : ∀ j, j ∈ mcF → j ∉ F) (hK : ∀ k, k ∈ mcK → k ∉ K) (h67 : 67 ∉ K) : MC I' A :=
  ⟨fun j hj => (f.f h67 (hF j hj)).trans (h.1 j hj), fun k hk => (f.at (hK k hk) (fun e => absurd (e ▸ hk) (by decide))).trans (h.2 k hk)⟩
theorem mcA {I A : St} (h : MC I A) : I 67 0 = A 67 0 ∧ I 67 1 = A 67 1 ∧ I 67 3 = A 67 3 ∧ I 67 4 = A 67 4 ∧ I 67 5 = A 67 5 ∧ I 67 6 = A 67 6 ∧ I 67 15 = A 67 15 ∧ I 67 16 = A 67 16 ∧ I 67 37 = A 67 37 ∧ I 67 56 = A 67 56 ∧ I 68 = A 68 ∧ I 69 = A 69 ∧ I 70 = A 70 ∧ I 72 = A 72 ∧ I 73 = A 73 ∧ I 74 = A 74 ∧ I 75 = A 75 ∧ I 76 = A 76 ∧ I 84 = A 84 ∧ I 90 = A 90 ∧ I 93 = A 93 ∧ I 94 = A 94 :=
  ⟨h.1 0 (by decide), h.1 1 (by decide), h.1 3 (by decide), h.1 4 (by decide), h.1 5 (by decide), h.1 6 (by decide), h.1 15 (by decide), h.1 16 (by decide), h.1 37 (by decide), h.1 56 (by decide), h.2 _ (by decide), h.2 _ (by decide), h.2 _ (by decide), h.2 _ (by decide), h.2 _ (by decide), h.2 _ (by decide), h.2 _ (by decide), h.2 _ (by decide), h.2 _ (by decide), h.2 _ (by decide), h.2 _ (by decide), h.2 _ (by decide)⟩
theorem wfA {A : St} (h : WFs A) : A 67 6 = nI (nsN A) ∧ A 67 0 = nI (shN A) ∧ A 67 1 = nI (hdN A) ∧ A 67 5 = nI (lagN A) ∧ (∀ s, s < nsN A → A 69 s = nI (perN A s)) ∧ (∀ c, c < 64 → A 68 c = nI (rkN A c)) :=
  ⟨h.1.1, h.2.1.1, h.2.2.1.1, h.2.2.2.2.1.1, fun s hs => (h.2.2.2.2.2.1 s hs).1, fun c hc => (h.2.2.2.2.2.2.1 c hc).1⟩
