/-! THE ROW OF new T[n][k] -/
theorem vr_outer (c : ClassId) (N h0 : Nat) : ∀ i : Nat, Jvm.Free.Multi.outerC c N h0 i = arrV c N (fun j => va_rf (if j < i then some (h0 + 1 + j) else none))
  | 0 => by
    show ({ cls := c, slots := Array.replicate N .null, vm := .none } : Cell) = _
    rw [arrV_new]
    refine congrArg (arrV c N) (funext fun j => ?_)
    simp [va_rf]
  | i + 1 => by
    show (Jvm.Free.Multi.outerC c N h0 i).setSlot i (.ref (h0 + 1 + i)) = _
    rw [vr_outer c N h0 i, arrV_store]
    refine congrArg (arrV c N) (funext fun j => ?_)
    by_cases e : j = i
    · subst e
      simp [updV, va_rf]
    · by_cases h : j < i
      · simp [updV, e, h, Nat.lt_succ_of_lt h]
      · simp [updV, e, h, show ¬ j < i + 1 by omega]
theorem cellE_newM {V : EvT} {w : Wd} {N K k : Nat} (h : k < wn w) (kd' n' : Nat) : cellE V (newM w N K) k kd' n' = cellE V w k kd' n' := by
  have e1 : wI (newM w N K) k = wI w k := funext fun b => if_neg (by omega)
  have e2 : wL (newM w N K) k = wL w k := funext fun b => if_neg (by omega)
  have e3 : wR (newM w N K) k = wR w k := funext fun b => (if_neg (by omega)).trans (if_neg (by omega))
  have e4 : fvs V (newM w N K) kd' k = fvs V w kd' k := by
    unfold fvs
    congr 1
    funext j
    unfold fv
    rw [e1, e2, e3]
  unfold cellE
  rw [e1, e2, e3, e4]
theorem mul_ok : MulOK := by
  intro V M p l e R s m args below meth c Q cells slots pc i ls r w n k C hw hdg hn hN hk hK hc hsl kk LS H locs hLS hH hS
  obtain ⟨hx, hb, hml, hown, hts, hE, hnm, hf, hlo, hsz⟩ := C
  have hover : (Jvm.Cond.arrayOver (.array .int)).before args s = true := hE.2.2.2.2.2.2.2.2.1.2
  have hcl : s.vm.findClass ("[" ++ (FieldType.array .int).toString) = some (eA V 26) := by
    exact (hE.1.2 6 _ rfl).2
  have harr : (Jvm.Cond.arrayClass .int).before args s = true := hts _ (wG_tb (p := 130) (by decide +kernel) rfl)
  intro T hT Xs
  obtain ⟨vm₁, cA, comp, -, fA, fC, hO, hI, X', step⟩ := Xs.multianewarray2F hx (own := (pN M).cls) (index := i) (ty := .int) hown (hts _ hw) hover harr (g := F0 m pc LS (.int k :: .int n :: r.map (cv V))) rfl (by rw [hb]; exact hdg) rfl hn hk (by omega) (by show k.toNatClampNeg * 4 ≤ 536870912; omega) (by omega) rfl rfl hc hsl
  have ec : cA = eA V 26 := Option.some.inj (fA.symm.trans hcl)
  subst ec
  have eci : comp = eA V 20 := by
    exact Option.some.inj (fC.symm.trans (hE.1.2 0 _ rfl).2)
  subst eci
  generalize hF : Jvm.Free.Multi.fill (T.setVm vm₁) (eA V 26) (eA V 20) n.toNatClampNeg k.toNatClampNeg (defaultValue .int) n.toNatClampNeg = F at X' step
  have hTh : (T.setVm vm₁).heap = H := hT
  obtain ⟨f1, f2, -, -⟩ := Jvm.Free.Multi.fill_facts (T.setVm vm₁) (eA V 26) (eA V 20) n.toNatClampNeg k.toNatClampNeg (defaultValue .int) n.toNatClampNeg
  rw [hF, hTh] at f1 f2
  have hold : ∀ x : Nat, x < H.size → F.heap[x]? = H[x]? := fun x hx => by
    have := Jvm.Free.Multi.fill_old (T.setVm vm₁) (eA V 26) (eA V 20) n.toNatClampNeg k.toNatClampNeg (defaultValue .int) (a := x) (by rw [hTh]; exact hx) n.toNatClampNeg
    rw [hF, hTh] at this
    exact this
  have hrow : ∀ j : Nat, j < n.toNatClampNeg → F.heap[H.size + 1 + j]? = some (Jvm.Free.Multi.innerC (eA V 20) k.toNatClampNeg (defaultValue .int)) := fun j hj => by
    have := Jvm.Free.Multi.fill_inner (T.setVm vm₁) (eA V 26) (eA V 20) n.toNatClampNeg k.toNatClampNeg (defaultValue .int) n.toNatClampNeg j hj
    rw [hF, hTh] at this
    exact this
  rw [Nat.add_assoc, Nat.add_assoc slots] at X'
  have hH2 : HR V (newM w n.toNatClampNeg k.toNatClampNeg) F.heap := by
    refine ⟨by rw [f1, hH.1]; show _ = eb V + (wn w + 1 + n.toNatClampNeg); omega, fun k' kd' n' e => ?_⟩
    have e : (if k' = wn w then some (26, n.toNatClampNeg) else if wn w < k' ∧ k' < wn w + 1 + n.toNatClampNeg then some (20, k.toNatClampNeg) else wsh w k') = some (kd', n') := e
    by_cases h1 : k' = wn w
    · rw [if_pos h1] at e
      cases e
      subst h1
      refine ⟨by show wn w < wn w + 1 + _; omega, Or.inr ⟨by decide, by decide⟩, ?_⟩
      rw [cellE_ref (by omega)]
      show F.heap[eb V + wn w]? = some (vp_cell _ _)
      rw [← hH.1, f2, vr_outer, vp_cell_q]
      congr 2
      funext j
      have z : wR (newM w n.toNatClampNeg k.toNatClampNeg) (wn w) j = if j < n.toNatClampNeg then some (wn w + 1 + j) else none := if_pos rfl
      rw [z]
      by_cases hj : j < n.toNatClampNeg
      · rw [if_pos hj, if_pos hj, hH.1]
        show va_rf (some _) = va_rf (some _)
        rw [show eb V + wn w + 1 + j = eb V + (wn w + 1 + j) by omega]
      · rw [if_neg hj, if_neg hj]
        rfl
    · rw [if_neg h1] at e
      by_cases h2 : wn w < k' ∧ k' < wn w + 1 + n.toNatClampNeg
      · rw [if_pos h2] at e
        cases e
        refine ⟨h2.2, Or.inr ⟨by decide, by decide⟩, ?_⟩
        rw [cellE_int (by omega)]
        show F.heap[eb V + k']? = some (vp_cell _ _)
        have hr := hrow (k' - wn w - 1) (by omega)
        rw [show H.size + 1 + (k' - wn w - 1) = eb V + k' by rw [hH.1]; omega] at hr
        rw [hr, vp_cell_i]
        show some ({ cls := eA V 20, slots := Array.replicate k.toNatClampNeg (defaultValue .int), vm := .none } : Cell) = _
        rw [arrV_new]
        congr 2
        funext j
        have z : wI (newM w n.toNatClampNeg k.toNatClampNeg) k' j = 0 := if_pos (Nat.le_of_lt h2.1)
        rw [z]
        rfl
      · rw [if_neg h2] at e
        obtain ⟨a, b, c⟩ := hH.2 k' kd' n' e
        refine ⟨by show k' < wn w + 1 + _; omega, b, ?_⟩
        rw [cellE_newM a]
        exact c.kept (hold _ (by rw [hH.1]; show eb V + k' < _; omega))
  obtain ⟨t, a1, b1⟩ := kk LS F.heap locs hLS hH2 (hS.push (by omega) hold) F rfl X'
  refine ⟨t, step t ?_, b1⟩
  have e : T.heap.size = H.size := by rw [hT]
  rw [e, hH.1]
  exact a1
