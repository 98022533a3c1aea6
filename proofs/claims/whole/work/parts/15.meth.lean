/-! WHOLE METHODS: what the evaluator answers, the machine answers -/
theorem EnvP.same {V : EvT} {u U : State} (hv : u.vm = U.vm) (hh : U.heap = u.heap) (h : EnvP V u) : EnvP V U := by
  obtain ⟨h1, h2, h3, h4, h5, h6, h7, h8, h9, h10⟩ := h
  have al : u.vm.Alike U.vm := by rw [hv]; exact Vm.Alike.refl _
  refine ⟨va_K.moved al h1, ?_, ?_, ?_, ?_, ?_, ?_, va_AO.moved al h8, ⟨va_AO.moved al h9.1, over_moved al h9.2⟩, h10⟩
  · intro w hw hn
    have h0 := h2 w hw hn
    exact va_Nw.same (by cases w <;> first | rfl | cases hn) hv h0
  · intro u' n f e
    obtain ⟨t, e1, e2⟩ := h3 u' n f e
    exact ⟨t, e1, by rw [hh]; exact va_T.moved al e2⟩
  · intro u' n f e
    obtain ⟨t, e1, e2⟩ := h4 u' n f e
    exact ⟨t, e1, by rw [hh]; exact va_T.moved al e2⟩
  · intro g v e
    rw [hh]
    exact va_Z.moved al (h5 g v e)
  · intro i q e
    obtain ⟨a, e1, e2⟩ := h6 i q e
    exact ⟨a, e1, vk_R.same hv.symm e2⟩
  · intro u' g1 g2
    obtain ⟨a, e1, e2, e3, e4⟩ := h7 u' g1 g2
    rw [hh]
    exact ⟨a, e1, va_O.moved al e2, va_OF.moved al e3, va_OF.moved al e4⟩
def Qg (V : EvT) (v : Option Value) (w1 : Wd) : Array Value → State → Outcome → State → Prop := fun _ st oc t => oc = .returned (v.map (cv V)) ∧ HR V w1 t.heap ∧ va_F (A0 V) st t
def Pg (V : EvT) (as : List Value) (w : Wd) : Array Value → State → Prop := va_Pc (as.map (cv V)) (fun U => EnvP V U ∧ HR V w U.heap)
theorem Pg_blind {V : EvT} {as : List Value} {w : Wd} : FrameBlind (Pg V as w) := fun a U g mk q => ⟨q.1, EnvP.same (u := U) (U := U.calling g mk a) rfl rfl q.2.1, q.2.2⟩
def Ret (V : EvT) (M : Nat) (p : Program) (l : Launch) (e : Env) (R : Room) (s : State) (m : MethodId) (args : Array Value) (below : List Frame) (meth : Method) (c : Code) (Q : State → Prop) (cells slots : Nat) (rv : Option Value) (w' : Wd) : Prop :=
  ∀ (pc : Nat) (x : XI) (ls : Ls) (st : List Value), fetch M pc = some x → ik x.1 = 2 → rtv M x st = some rv → J V M p l e R s m args below meth c Q cells slots pc ls st w'
/-- what the evaluator says, for so much fuel -/
def RunOK (V : EvT) (n : Nat) : Prop := ∀ (M pc : Nat) (ls : Ls) (st : List Value) (w : Wd) (rv : Option Value) (w' : Wd), run (eX V) n M pc ls st w = some (rv, w') → ∀ (p : Program) (l : Launch) (e : Env) (R : Room) (s : State) (m : MethodId) (args : Array Value) (below : List Frame) (meth : Method) (c : Code) (Q : State → Prop) (cells slots : Nat),
  CX V M p R s m args meth c → ls.length = pL M → cells + (wn w' - wn w) ≤ R.cells → slots + (wz w' - wz w) ≤ R.slots → Ret V M p l e R s m args below meth c Q (cells + (wn w' - wn w)) (slots + (wz w' - wz w)) rv w' → J V M p l e R s m args below meth c Q cells slots pc ls st w
theorem entL_len {V : EvT} (hV : ∀ u, eS V u = .null ∨ ∃ a, eS V u = .ref a) : ∀ vs : List Value, (lg_sl (vs.map (cv V))).length = (entL vs).length
  | [] => rfl
  | v :: vs => by
    have ih := entL_len hV vs
    unfold lg_sl at ih ⊢
    rw [List.map_cons, List.flatMap_cons, List.length_append, ih, cv_cat hV]
    show _ = (if v.category = 2 then some v :: none :: entL vs else some v :: entL vs).length
    split <;> simp <;> omega
theorem entL_get {V : EvT} (hV : ∀ u, eS V u = .null ∨ ∃ a, eS V u = .ref a) : ∀ (vs : List Value) (k i : Nat) (v : Value), (entL vs)[i]? = some (some v) → (k + i, cv V v) ∈ lv_args k (vs.map (cv V))
  | [], k, i, v, h => by cases h
  | u :: vs, k, i, v, h => by
    rw [List.map_cons]
    unfold lv_args
    unfold entL at h
    rw [cv_cat hV]
    by_cases hc : u.category = 2
    · rw [if_pos hc] at h ⊢
      match i, h with
      | 0, h => cases h; exact List.mem_cons_self
      | 1, h => cases h
      | i + 2, h =>
        have h1 : (entL vs)[i]? = some (some v) := h
        have := entL_get hV vs (k + 2) i v h1
        rw [show k + (i + 2) = k + 2 + i by omega]
        exact List.mem_cons_of_mem _ this
    · rw [if_neg hc] at h ⊢
      match i, h with
      | 0, h => cases h; exact List.mem_cons_self
      | i + 1, h =>
        have h1 : (entL vs)[i]? = some (some v) := h
        have := entL_get hV vs (k + 1) i v h1
        rw [show k + (i + 1) = k + 1 + i by omega]
        exact List.mem_cons_of_mem _ this
theorem ent_LH {V : EvT} (hV : ∀ u, eS V u = .null ∨ ∃ a, eS V u = .ref a) {M : Nat} {vs : List Value} (h : (entL vs).length ≤ pL M) : LH V (ent M vs) ((lg_sl (vs.map (cv V)) ++ List.replicate (pL M - (lg_sl (vs.map (cv V))).length) Slot.unset).toArray) := by
  have hl := lv_entry (vs.map (cv V)) (n := pL M) (by rw [entL_len hV]; exact h)
  refine ⟨?_, hl.2.1, fun i v hi => ?_⟩
  · rw [hl.1]
    unfold ent
    simp
    omega
  · unfold ent at hi
    have h1 : (entL vs)[i]? = some (some v) := by
      by_cases hlt : i < (entL vs).length
      · rw [List.getElem?_append_left hlt] at hi
        exact hi
      · rw [List.getElem?_append_right (by omega), List.getElem?_replicate] at hi
        split at hi <;> cases hi
    have := entL_get hV vs 0 i v h1
    rw [Nat.zero_add] at this
    exact hl.2.2 _ this
theorem ent_len {M : Nat} {vs : List Value} (h : (entL vs).length ≤ pL M) : (ent M vs).length = pL M := by
  unfold ent
  simp
  omega
theorem ret_ok {V : EvT} {M : Nat} {p : Program} {l : Launch} {e : Env} {R : Room} {s : State} {m : MethodId} {args : Array Value} {below : List Frame} {meth : Method} {c : Code} {cells slots : Nat} {rv : Option Value} {w' : Wd} (C : CX V M p R s m args meth c) (hr : meth.sig.returnType = pRt M) (hlocks : meth.locks = false) :
    Ret V M p l e R s m args below meth c (MQ below (Qg V rv w') args s cells slots (A0 V)) cells slots rv w' := by
  intro pc x ls st hx h2 hv LS H locs a b q
  have hd := okX_d (ok_fetch hx)
  have hq : ∀ t : State, t.heap = H → s.WarmedH t.vm → Qg V rv w' args s (.returned (rv.map (cv V))) t := fun t ht _ => ⟨rfl, by rw [ht]; exact b, q.F ht⟩
  obtain ⟨i, a1, b1, z, pp⟩ := x
  cases i <;> first | (exfalso; cases h2; done) | skip
  case ireturn =>
    unfold rtv at hv
    dsimp only at hv
    split at hv
    · rename_i v hi
      split at hv
      · rename_i hrt
        cases hv
        exact W.zret C.1 C.2.1 (hr.trans hrt) rfl hq q.2.2 hd hlocks
      · rename_i hrt
        split at hv
        · rename_i h01
          cases hv
          exact W.zret C.1 C.2.1 (hr.trans hrt) (by rcases h01 with rfl | rfl <;> rfl) hq q.2.2 hd hlocks
        · cases hv
      · rename_i hrt
        split at hv
        · rename_i h0
          cases hv
          subst h0
          exact W.zret C.1 C.2.1 (hr.trans hrt) rfl hq q.2.2 hd hlocks
        · cases hv
      · rename_i hrt
        split at hv
        · rename_i h0
          cases hv
          exact W.zret C.1 C.2.1 (hr.trans hrt) (congrArg Value.int h0) hq q.2.2 hd hlocks
        · cases hv
      · cases hv
    · rename_i hi
      cases hi
    · rename_i hi
      cases hi
    · cases hv
  case lreturn =>
    unfold rtv at hv
    dsimp only at hv
    split at hv
    · rename_i hi
      cases hi
    · rename_i v hi
      split at hv
      · rename_i hrt
        cases hv
        exact W.lret C.1 C.2.1 (hr.trans hrt) hq q.2.2 hd hlocks
      · cases hv
    · rename_i hi
      cases hi
    · cases hv
  case return_ =>
    unfold rtv at hv
    dsimp only at hv
    split at hv
    · rename_i hi
      cases hi
    · rename_i hi
      cases hi
    · rename_i hi
      split at hv
      · rename_i hrt
        cases hv
        exact W.vret C.1 C.2.1 (hr.trans hrt) hq q.2.2 hd hlocks
      · cases hv
    · cases hv
theorem met_run {V : EvT} {n M : Nat} (ih : RunOK V n) (hM : M < nM) {as : List Value} {w w1 : Wd} {v : Option Value} (hent : (entL as).length ≤ pL M) (hrun : run (eX V) n M 0 (ent M as) [] w = some (v, w1)) (l : Launch) :
    Met l (pN M) (Jvm.Cond.code (pN M) (pB M) (pL M) (pRt M) :: wG) ({ frames := pK M, cells := wn w1 - wn w, slots := wz w1 - wz w, locals := 40 * pK M } : Room) (Pg V as w) (Qg V v w1) (wn w1 - wn w) (wz w1 - wz w) (A0 V) := by
  have hokM := (ok_M hM).1
  unfold okM at hokM
  simp only [Bool.and_eq_true, decide_eq_true_eq] at hokM
  refine Met.ofW (cc := pB M) (maxL := pL M) (ret := pRt M) hokM.1.1.2 rfl ?_
  intro p e s m args below meth c s₁ B hml hv
  obtain ⟨rfl, hE, hH⟩ := hv
  have hts : ∀ w0 ∈ wG, w0.before (as.map (cv V)).toArray s = true := fun w0 hw0 => atoms_spec B.pre w0 (List.mem_cons_of_mem _ hw0)
  have C : CX V M p (headSpec (Jvm.Cond.code (pN M) (pB M) (pL M) (pRt M) :: wG) ({ frames := pK M, cells := wn w1 - wn w, slots := wz w1 - wz w, locals := 40 * pK M } : Room)).room s m (as.map (cv V)).toArray meth c := ⟨B.exec, B.bytes, hml, findClass_of_methodNamed B.named, hts, hE, (fun q => (name_of_methodNamed B.named B.method).1.trans q), Nat.le_refl _, Nat.le_refl _, by rw [hH.1]; exact Nat.le_add_right _ _⟩
  rw [lg_entry_eq]
  refine ih M 0 (ent M as) [] w v w1 hrun p l e _ s m _ below meth c _ 0 0 C (ent_len hent) (by rw [Nat.zero_add]; exact Nat.le_refl _) (by rw [Nat.zero_add]; exact Nat.le_refl _) ?_ _ _ [] (ent_LH hE.2.2.2.2.2.2.2.2.2 hent) hH va_S.rf
  rw [Nat.zero_add, Nat.zero_add]
  exact ret_ok C B.returns B.notSynchronized
