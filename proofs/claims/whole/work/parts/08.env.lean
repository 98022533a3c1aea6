/-! THE ENVIRONMENT: what stands still; THE WORLD on the heap -/
/-- where the world begins, the classes' numbers, the array classes, what stands still, the script -/
abbrev EvT : Type := Nat × va_G × (Nat → ClassId) × (UInt32 → Value) × Sc
def eb (V : EvT) : Nat := V.1
def eD (V : EvT) : va_G := V.2.1
def eA (V : EvT) : Nat → ClassId := V.2.2.1
def eS (V : EvT) : UInt32 → Value := V.2.2.2.1
def eX (V : EvT) : Sc := V.2.2.2.2
def cv (V : EvT) (v : Value) : Value := match v with
  | .ref k => .ref (eb V + k)
  | .float u => eS V u
  | w => w
def A0 (V : EvT) : Nat → Prop := fun q => eb V ≤ q
def rfa (V : EvT) (r : Option Nat) : Option Nat := r.map (fun k => eb V + k)
def fv (V : EvT) (w : Wd) (ci k j : Nat) : Value := if ftag (tyC ci j) = 0 ∨ ftag (tyC ci j) = 1 then .int (wI w k j) else if ftag (tyC ci j) = 2 then .long (wL w k j) else va_rf (rfa V (wR w k j))
def fvs (V : EvT) (w : Wd) (ci k : Nat) : List Value := (List.range (NF ci)).map (fv V w ci k)
def cellE (V : EvT) (w : Wd) (k kd n : Nat) : va_E :=
  if kd < 12 then .inr (kd, fvs V w kd k)
  else if kd = 23 then .inl (eA V kd, n, .inr (.inl (wL w k)))
  else if kd = 24 ∨ kd = 25 ∨ kd = 26 then .inl (eA V kd, n, .inr (.inr (.inr (.inr (fun j => rfa V (wR w k j))))))
  else .inl (eA V kd, n, .inl (wI w k))
def HR (V : EvT) (w : Wd) (H : Heap) : Prop := H.size = eb V + wn w ∧ ∀ k kd n, wsh w k = some (kd, n) → k < wn w ∧ (kd < 12 ∨ 20 ≤ kd ∧ kd < 27) ∧ va_at (eD V) vwCl (eb V + k, cellE V w k kd n) H
def tyA (kd : Nat) : FieldType := match kd with
  | 20 => .int
  | 21 => .byte
  | 22 => .boolean
  | 23 => .long
  | 24 => .object "NineWheel$Rule"
  | 25 => .object "NineWheel$Held"
  | _ => .array .int
def tysV (V : EvT) : List (ClassId × FieldType) := [(eA V 20, .int), (eA V 21, .byte), (eA V 22, .boolean), (eA V 23, .long), (eA V 24, .object "NineWheel$Rule"), (eA V 25, .object "NineWheel$Held"), (eA V 26, .array .int)]
def isNest : Jvm.Cond → Bool
  | .fieldLinkNest _ _ _ _ _ _ => true
  | .methodLinkNest _ _ _ _ => true
  | _ => false
def EnvP (V : EvT) (U : State) : Prop :=
  va_K (eD V) vwCl (tysV V) U ∧
  (∀ w ∈ tables_1, isNest w = true → va_Nw w U) ∧
  (∀ u n f, tabN (eX V) u = some (n, f) → ∃ t, eS V u = .ref t ∧ va_T .int t n (fun j => .int (f j)) (A0 V) U U.heap) ∧
  (∀ u n f, tabS stx u = some (n, f) → ∃ t, eS V u = .ref t ∧ va_T .byte t n (fun j => .int (f j)) (A0 V) U U.heap) ∧
  (∀ g v, statV g = some v → va_Z (stN g).1 (stN g).2.1 (stN g).2.2 (cv V v) (A0 V) U U.heap) ∧
  (∀ i q, strW[i]? = some q → ∃ a, eS V (UInt32.ofNat (16 + i)) = .ref a ∧ vk_R q.1 q.2.1 q.2.2 a U) ∧
  (∀ u : UInt32, 16 ≤ u.toNat → u.toNat < 32 → ∃ a, eS V u = .ref a ∧ va_O "java/lang/String" a (A0 V) U U.heap ∧ va_OF "java/lang/String" "coder" "B" (.int 0) a (A0 V) U U.heap ∧ va_OF "java/lang/String" "value" "[B" (eS V (u + 48)) a (A0 V) U U.heap) ∧
  va_AO "NineWheel$Rule" U ∧ (va_AO "NineWheel$Held" U ∧ (Jvm.Cond.arrayOver (.array .int)).before #[] U = true) ∧
  (∀ u, eS V u = .null ∨ ∃ a, eS V u = .ref a)
theorem EnvP.go {V : EvT} {s U : State} {H : Heap} {locs : List Loc} (h : EnvP V s) (hS : va_S (A0 V) s.heap H locs) (hU : U.heap = H) (hW : s.WarmedH U.vm) : EnvP V U := by
  obtain ⟨h1, h2, h3, h4, h5, h6, h7, h8, h9, h10⟩ := h
  have al := hW.alike
  subst hU
  refine ⟨va_K.moved al h1, ?_, ?_, ?_, ?_, ?_, ?_, va_AO.moved al h8, ⟨va_AO.moved al h9.1, over_moved al h9.2⟩, h10⟩
  · intro w hw hn
    have h0 := h2 w hw hn
    cases w <;> first | exact va_Nw.warmF hW h0 | exact va_Nw.warmM hW h0 | cases hn
  · intro u n f e
    obtain ⟨t, e1, e2⟩ := h3 u n f e
    exact ⟨t, e1, (va_T.moved al e2).kept hS.2.1⟩
  · intro u n f e
    obtain ⟨t, e1, e2⟩ := h4 u n f e
    exact ⟨t, e1, (va_T.moved al e2).kept hS.2.1⟩
  · intro g v e
    exact (va_Z.moved al (h5 g v e)).kept hS.2.1
  · intro i q e
    obtain ⟨a, e1, e2⟩ := h6 i q e
    exact ⟨a, e1, e2.warm hW⟩
  · intro u g1 g2
    obtain ⟨a, e1, e2, e3, e4⟩ := h7 u g1 g2
    exact ⟨a, e1, (va_O.moved al e2).kept hS.2.1, (va_OF.moved al e3).kept hS.2.1, (va_OF.moved al e4).kept hS.2.1⟩
theorem tysV_at (V : EvT) {kd : Nat} (h1 : 20 ≤ kd) (h2 : kd < 27) : (tysV V)[kd - 20]? = some (eA V kd, tyA kd) := by
  have h : kd = 20 ∨ kd = 21 ∨ kd = 22 ∨ kd = 23 ∨ kd = 24 ∨ kd = 25 ∨ kd = 26 := by omega
  rcases h with rfl | rfl | rfl | rfl | rfl | rfl | rfl <;> rfl
/-! the world after a write -/
theorem HR.at {V : EvT} {w : Wd} {H : Heap} {k kd n : Nat} (h : HR V w H) (hs : wsh w k = some (kd, n)) : va_at (eD V) vwCl (eb V + k, cellE V w k kd n) H := (h.2 k kd n hs).2.2
theorem va_one {D : va_G} {cl : List vw_C} {q : Nat × va_E} {H : Heap} (h : va_at D cl q H) : va_P D cl [q] H := fun k x hx => by
  have hz : k < 1 := (List.getElem?_eq_some_iff.mp hx).1
  rw [show k = 0 by omega] at hx
  cases hx
  exact h
theorem HR.upd {V : EvT} {w w' : Wd} {H H1 : Heap} {k : Nat} (h : HR V w H) (hn : wn w' = wn w) (hs : wsh w' = wsh w) (ho : ∀ k', k' ≠ k → ∀ kd n, cellE V w' k' kd n = cellE V w k' kd n) (hz : H1.size = H.size) (oq : ∀ q : Nat, q ≠ eb V + k → H1[q]? = H[q]?)
    (hk : ∀ kd n, wsh w k = some (kd, n) → va_at (eD V) vwCl (eb V + k, cellE V w' k kd n) H1) : HR V w' H1 := by
  refine ⟨by rw [hz, hn]; exact h.1, fun k' kd n e => ?_⟩
  rw [hs] at e
  obtain ⟨a, b, c⟩ := h.2 k' kd n e
  refine ⟨by rw [hn]; exact a, b, ?_⟩
  by_cases hk' : k' = k
  · subst hk'
    exact hk kd n e
  · rw [ho k' hk']
    exact c.kept (oq _ (fun z => hk' (by have : eb V + k' = eb V + k := z; omega)))
theorem u2_ne {α : Type} {f : Nat → Nat → α} {k j : Nat} {v : α} {a : Nat} (h : a ≠ k) : u2 f k j v a = f a := by
  funext b
  unfold u2
  rw [if_neg (fun z => h z.1)]
theorem u2_at {α : Type} {f : Nat → Nat → α} {k j : Nat} {v : α} : u2 f k j v k = fun b => if b = j then v else f k b := by
  funext b
  unfold u2
  by_cases h : b = j <;> simp [h]
theorem cellE_stI {V : EvT} {w : Wd} {k j : Nat} {v : Int32} {k' : Nat} (h : k' ≠ k) (kd n : Nat) : cellE V (stI w k j v) k' kd n = cellE V w k' kd n := by
  have e : wI (stI w k j v) k' = wI w k' := u2_ne h
  have e1 : fvs V (stI w k j v) kd k' = fvs V w kd k' := by
    unfold fvs
    apply List.map_congr_left
    intro x _
    unfold fv
    rw [e]
    rfl
  unfold cellE
  rw [e1, e]
  rfl
theorem cellE_stL {V : EvT} {w : Wd} {k j : Nat} {v : Int64} {k' : Nat} (h : k' ≠ k) (kd n : Nat) : cellE V (stL w k j v) k' kd n = cellE V w k' kd n := by
  have e : wL (stL w k j v) k' = wL w k' := u2_ne h
  have e1 : fvs V (stL w k j v) kd k' = fvs V w kd k' := by
    unfold fvs
    apply List.map_congr_left
    intro x _
    unfold fv
    rw [e]
    rfl
  unfold cellE
  rw [e1, e]
  rfl
theorem cellE_stR {V : EvT} {w : Wd} {k j : Nat} {v : Option Nat} {k' : Nat} (h : k' ≠ k) (kd n : Nat) : cellE V (stR w k j v) k' kd n = cellE V w k' kd n := by
  have e : wR (stR w k j v) k' = wR w k' := u2_ne h
  have e1 : fvs V (stR w k j v) kd k' = fvs V w kd k' := by
    unfold fvs
    apply List.map_congr_left
    intro x _
    unfold fv
    rw [e]
    rfl
  unfold cellE
  rw [e1, e]
  rfl
theorem fvs_set {V : EvT} {w w' : Wd} {ci k j : Nat} {v : Value} (hj : j < NF ci) (h : ∀ x, fv V w' ci k x = if x = j then v else fv V w ci k x) : (fvs V w ci k).set j v = fvs V w' ci k := by
  apply List.ext_getElem?
  intro i
  unfold fvs
  rw [List.getElem?_set, List.getElem?_map, List.getElem?_map]
  by_cases hi : j = i
  · subst hi
    rw [if_pos rfl, if_pos (by simpa using hj), List.getElem?_range hj]
    simp [h]
  · rw [if_neg hi]
    by_cases hl : i < NF ci
    · rw [List.getElem?_range hl]
      simp [h, Ne.symm hi]
    · rw [List.getElem?_eq_none (by simpa using hl)]
      rfl
/-- what a method's frame stands in -/
def CX (V : EvT) (M : Nat) (p : Program) (R : Room) (s : State) (m : MethodId) (args : Array Value) (meth : Method) (c : Code) : Prop :=
  p.tables.exec = Jvm.exec ∧ c.code = pB M ∧ c.maxLocals = pL M ∧ s.vm.findClass (pN M).cls = some m.cls ∧ (∀ w ∈ wG, w.before args s = true) ∧ EnvP V s ∧ ((pN M).name = "<init>" → meth.name = "<init>") ∧ pK M ≤ R.frames ∧ 40 * pK M ≤ R.locals ∧ eb V ≤ s.heap.size
