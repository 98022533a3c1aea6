/-! EVERY SIMPLE STEP -/
theorem J_same {V : EvT} {M : Nat} {p : Program} {l : Launch} {e : Env} {R : Room} {s : State} {m : MethodId} {args : Array Value} {below : List Frame} {meth : Method} {c : Code} {Q : State → Prop} {cells slots pc : Nat} {ls : Ls} {st : List Value} {w w' : Wd} (hn : wn w' = wn w) (hz : wz w' = wz w) (k : J V M p l e R s m args below meth c Q (cells + (wn w' - wn w)) (slots + (wz w' - wz w)) (pc) (ls) (st) (w')) : J V M p l e R s m args below meth c Q (cells) (slots) (pc) (ls) (st) (w') := by
  rw [hn, hz, Nat.sub_self, Nat.sub_self] at k
  exact k
/-- what the row for new T[n][k] says (shown in the last part) -/
def MulOK : Prop := ∀ (V : EvT) (M : Nat) (p : Program) (l : Launch) (e : Env) (R : Room) (s : State) (m : MethodId) (args : Array Value) (below : List Frame) (meth : Method) (c : Code) (Q : State → Prop) (cells slots pc i : Nat) (ls : Ls) (r : List Value) (w : Wd) (n k : Int32), CX V M p R s m args meth c → Jvm.Cond.classLink (pN M).cls i "[[I" ∈ wG → decode (pB M) pc = .ok (.multianewarray i 2, 4) → ¬ n < 0 → n.toNatClampNeg ≤ 1000 → ¬ k < 0 → k.toNatClampNeg ≤ 1000 →
  cells + (1 + n.toNatClampNeg) ≤ R.cells → slots + (n.toNatClampNeg + n.toNatClampNeg * k.toNatClampNeg) ≤ R.slots → J V M p l e R s m args below meth c Q (cells + (1 + n.toNatClampNeg)) (slots + (n.toNatClampNeg + n.toNatClampNeg * k.toNatClampNeg)) (pc + 4) (ls) (.ref (wn w) :: r) (newM w n.toNatClampNeg k.toNatClampNeg) → J V M p l e R s m args below meth c Q (cells) (slots) (pc) (ls) (.int k :: .int n :: r) (w)
theorem okX_r {M pc : Nat} {x : XI} (h : okX M pc x = true) : ∀ {b1 b2 : Bool}, okX M pc x = (b1 && b2) → b2 = true := by
  intro b1 b2 e
  rw [e, Bool.and_eq_true] at h
  exact h.2

theorem putI_n {w w' : Wd} {ci k j : Nat} {v : Int32} (h : putI w ci k j v = some w') : wn w' = wn w ∧ wz w' = wz w := by
  unfold putI at h
  split at h
  · split at h
    · cases h; exact ⟨rfl, rfl⟩
    · cases h
  · cases h
theorem putZ_n {w w' : Wd} {ci k j : Nat} {v : Int32} (h : putZ w ci k j v = some w') : wn w' = wn w ∧ wz w' = wz w := by
  unfold putZ at h
  split at h
  · split at h
    · cases h; exact ⟨rfl, rfl⟩
    · cases h
  · cases h
theorem putL_n {w w' : Wd} {ci k j : Nat} {v : Int64} (h : putL w ci k j v = some w') : wn w' = wn w ∧ wz w' = wz w := by
  unfold putL at h
  split at h
  · split at h
    · cases h; exact ⟨rfl, rfl⟩
    · cases h
  · cases h
theorem putR_n {w w' : Wd} {ci k j v : Nat} (h : putR w ci k j v = some w') : wn w' = wn w ∧ wz w' = wz w := by
  unfold putR at h
  split at h
  · split at h
    · cases h; exact ⟨rfl, rfl⟩
    · cases h
  · cases h
theorem cpyI_n {w w' : Wd} {a b : Nat} {sp dp n : Int32} (h : cpyI w a sp b dp n = some w') : wn w' = wn w ∧ wz w' = wz w := by
  unfold cpyI at h
  split at h
  · split at h
    · cases h; exact ⟨rfl, rfl⟩
    · cases h
  · cases h

set_option maxHeartbeats 4000000 in
theorem j_sx (hMul : MulOK) {V : EvT} {M : Nat} {p : Program} {l : Launch} {e : Env} {R : Room} {s : State} {m : MethodId} {args : Array Value} {below : List Frame} {meth : Method} {c : Code} {Q : State → Prop} {cells slots pc pc' : Nat} {ls ls' : Ls} {st st' : List Value} {w w' : Wd} {x : XI} (C : CX V M p R s m args meth c) (hok : okX M pc x = true) (hlen : ls.length = pL M)
    (h : sx (eX V) x pc ls st w = some (pc', ls', st', w')) (hc : cells + (wn w' - wn w) ≤ R.cells) (hz : slots + (wz w' - wz w) ≤ R.slots) (k : J V M p l e R s m args below meth c Q (cells + (wn w' - wn w)) (slots + (wz w' - wz w)) (pc') (ls') (st') (w')) : J V M p l e R s m args below meth c Q (cells) (slots) (pc) (ls) (st) (w) := by
  have hd := okX_d hok
  have hc0 : cells ≤ R.cells := Nat.le_trans (Nat.le_add_right _ _) hc
  have hz0 : slots ≤ R.slots := Nat.le_trans (Nat.le_add_right _ _) hz
  obtain ⟨i, a, b, z, pp⟩ := x
  cases i
  case iconst n =>
    have h : some (pc + 1, ls, Value.int (Int32.ofInt n) :: st, w) = some (pc', ls', st', w') := h
    cases h
    exact j_iconst C hd (J_same rfl rfl k)
  case bipush n =>
    have h : some (pc + 2, ls, Value.int (Int8.ofInt n).toInt32 :: st, w) = some (pc', ls', st', w') := h
    cases h
    exact j_bipush C hd (J_same rfl rfl k)
  case sipush n =>
    have h : some (pc + 3, ls, Value.int (Int16.ofInt n).toInt32 :: st, w) = some (pc', ls', st', w') := h
    cases h
    exact j_sipush C hd (J_same rfl rfl k)
  case lconst n =>
    have h : some (pc + 1, ls, Value.long (Int64.ofNat (n : Nat)) :: st, w) = some (pc', ls', st', w') := h
    cases h
    exact j_lconst C hd (J_same rfl rfl k)
  case iload_n q =>
    unfold sx at h
    dsimp only at h
    split at h
    · rename_i v hl
      cases h
      exact j_iload_n C hd hl (J_same rfl rfl k)
    · cases h
  case iload q =>
    unfold sx at h
    dsimp only at h
    split at h
    · rename_i v hl
      cases h
      exact j_iload C hd hl (J_same rfl rfl k)
    · cases h
  case lload_n q =>
    unfold sx at h
    dsimp only at h
    split at h
    · rename_i v hl
      cases h
      exact j_lload_n C hd hl (J_same rfl rfl k)
    · cases h
  case lload q =>
    unfold sx at h
    dsimp only at h
    split at h
    · rename_i v hl
      cases h
      exact j_lload C hd hl (J_same rfl rfl k)
    · cases h
  case aload_n q =>
    unfold sx at h
    dsimp only at h
    split at h
    · rename_i v hl
      cases h
      exact j_aload_n C hd hl (J_same rfl rfl k)
    · rename_i v hl
      cases h
      exact j_aload_nS C hd hl (J_same rfl rfl k)
    · cases h
  case aload q =>
    unfold sx at h
    dsimp only at h
    split at h
    · rename_i v hl
      cases h
      exact j_aload C hd hl (J_same rfl rfl k)
    · rename_i v hl
      cases h
      exact j_aloadS C hd hl (J_same rfl rfl k)
    · cases h
  case istore_n q =>
    have hi := of_decide_eq_true (okX_r hok rfl)
    unfold sx at h
    dsimp only at h
    split at h
    · cases h
      exact j_istore_n C hd (by rw [hlen]; exact hi) (J_same rfl rfl k)
    · cases h
  case istore q =>
    have hi := of_decide_eq_true (okX_r hok rfl)
    unfold sx at h
    dsimp only at h
    split at h
    · cases h
      exact j_istore C hd (by rw [hlen]; exact hi) (J_same rfl rfl k)
    · cases h
  case lstore_n q =>
    have hi := of_decide_eq_true (okX_r hok rfl)
    unfold sx at h
    dsimp only at h
    split at h
    · cases h
      exact j_lstore_n C hd (by rw [hlen]; exact hi) (J_same rfl rfl k)
    · cases h
  case lstore q =>
    have hi := of_decide_eq_true (okX_r hok rfl)
    unfold sx at h
    dsimp only at h
    split at h
    · cases h
      exact j_lstore C hd (by rw [hlen]; exact hi) (J_same rfl rfl k)
    · cases h
  case astore_n q =>
    have hi := of_decide_eq_true (okX_r hok rfl)
    unfold sx at h
    dsimp only at h
    split at h
    · cases h
      exact j_astore_n C hd (by rw [hlen]; exact hi) (J_same rfl rfl k)
    · cases h
      exact j_astore_nS C hd (by rw [hlen]; exact hi) (J_same rfl rfl k)
    · cases h
  case astore q =>
    have hi := of_decide_eq_true (okX_r hok rfl)
    unfold sx at h
    dsimp only at h
    split at h
    · cases h
      exact j_astore C hd (by rw [hlen]; exact hi) (J_same rfl rfl k)
    · cases h
      exact j_astoreS C hd (by rw [hlen]; exact hi) (J_same rfl rfl k)
    · cases h
  case iinc q n =>
    have hi := of_decide_eq_true (okX_r hok rfl)
    unfold sx at h
    dsimp only at h
    split at h
    · rename_i v hl
      cases h
      exact j_iinc C hd hl (by rw [hlen]; exact hi) (J_same rfl rfl k)
    · cases h
  case iadd =>
    unfold sx at h
    dsimp only at h
    split at h
    · cases h
      exact j_iadd C hd (J_same rfl rfl k)
    · cases h
  case isub =>
    unfold sx at h
    dsimp only at h
    split at h
    · cases h
      exact j_isub C hd (J_same rfl rfl k)
    · cases h
  case imul =>
    unfold sx at h
    dsimp only at h
    split at h
    · cases h
      exact j_imul C hd (J_same rfl rfl k)
    · cases h
  case iand =>
    unfold sx at h
    dsimp only at h
    split at h
    · cases h
      exact j_iand C hd (J_same rfl rfl k)
    · cases h
  case ior =>
    unfold sx at h
    dsimp only at h
    split at h
    · cases h
      exact j_ior C hd (J_same rfl rfl k)
    · cases h
  case ixor =>
    unfold sx at h
    dsimp only at h
    split at h
    · cases h
      exact j_ixor C hd (J_same rfl rfl k)
    · cases h
  case ishl =>
    unfold sx at h
    dsimp only at h
    split at h
    · cases h
      exact j_ishl C hd (J_same rfl rfl k)
    · cases h
  case ishr =>
    unfold sx at h
    dsimp only at h
    split at h
    · cases h
      exact j_ishr C hd (J_same rfl rfl k)
    · cases h
  case iushr =>
    unfold sx at h
    dsimp only at h
    split at h
    · cases h
      exact j_iushr C hd (J_same rfl rfl k)
    · cases h
  case idiv =>
    unfold sx at h
    dsimp only at h
    split at h
    · split at h
      · rename_i hy
        cases h
        exact j_idiv C hd hy (J_same rfl rfl k)
      · cases h
    · cases h
  case irem =>
    unfold sx at h
    dsimp only at h
    split at h
    · split at h
      · rename_i hy
        cases h
        exact j_irem C hd hy (J_same rfl rfl k)
      · cases h
    · cases h
  case ineg =>
    unfold sx at h
    dsimp only at h
    split at h
    · cases h
      exact j_ineg C hd (J_same rfl rfl k)
    · cases h
  case ladd =>
    unfold sx at h
    dsimp only at h
    split at h
    · cases h
      exact j_ladd C hd (J_same rfl rfl k)
    · cases h
  case lsub =>
    unfold sx at h
    dsimp only at h
    split at h
    · cases h
      exact j_lsub C hd (J_same rfl rfl k)
    · cases h
  case lmul =>
    unfold sx at h
    dsimp only at h
    split at h
    · cases h
      exact j_lmul C hd (J_same rfl rfl k)
    · cases h
  case land =>
    unfold sx at h
    dsimp only at h
    split at h
    · cases h
      exact j_land C hd (J_same rfl rfl k)
    · cases h
  case lor =>
    unfold sx at h
    dsimp only at h
    split at h
    · cases h
      exact j_lor C hd (J_same rfl rfl k)
    · cases h
  case lrem =>
    unfold sx at h
    dsimp only at h
    split at h
    · split at h
      · rename_i hy
        cases h
        exact j_lrem C hd hy (J_same rfl rfl k)
      · cases h
    · cases h
  case lshl =>
    unfold sx at h
    dsimp only at h
    split at h
    · cases h
      exact j_lshl C hd (J_same rfl rfl k)
    · cases h
  case lshr =>
    unfold sx at h
    dsimp only at h
    split at h
    · cases h
      exact j_lshr C hd (J_same rfl rfl k)
    · cases h
  case lushr =>
    unfold sx at h
    dsimp only at h
    split at h
    · cases h
      exact j_lushr C hd (J_same rfl rfl k)
    · cases h
  case i2l =>
    unfold sx at h
    dsimp only at h
    split at h
    · cases h
      exact j_i2l C hd (J_same rfl rfl k)
    · cases h
  case l2i =>
    unfold sx at h
    dsimp only at h
    split at h
    · cases h
      exact j_l2i C hd (J_same rfl rfl k)
    · cases h
  case i2b =>
    unfold sx at h
    dsimp only at h
    split at h
    · cases h
      exact j_i2b C hd (J_same rfl rfl k)
    · cases h
  case i2c =>
    unfold sx at h
    dsimp only at h
    split at h
    · cases h
      exact j_i2c C hd (J_same rfl rfl k)
    · cases h
  case lcmp =>
    unfold sx at h
    dsimp only at h
    split at h
    · cases h
      exact j_lcmp C hd (J_same rfl rfl k)
    · cases h
  case dup =>
    unfold sx at h
    dsimp only at h
    split at h
    · split at h
      · rename_i hv
        cases h
        exact j_dup C hd hv (J_same rfl rfl k)
      · cases h
    · cases h
  case dup2 =>
    unfold sx at h
    dsimp only at h
    split at h
    · split at h
      · rename_i hv
        cases h
        exact j_dup2 C hd hv.1 hv.2 (J_same rfl rfl k)
      · cases h
    · cases h
  case dup_x1 =>
    unfold sx at h
    dsimp only at h
    split at h
    · split at h
      · rename_i hv
        cases h
        exact j_dup_x1 C hd hv.1 hv.2 (J_same rfl rfl k)
      · cases h
    · cases h
  case pop =>
    unfold sx at h
    dsimp only at h
    split at h
    · split at h
      · rename_i hv
        cases h
        exact j_pop C hd hv (J_same rfl rfl k)
      · cases h
    · cases h
  case ifCond q o =>
    have ht := of_decide_eq_true (okX_r hok rfl)
    unfold sx at h
    dsimp only at h
    split at h
    · cases q
      case eq =>
        dsimp only at h
        refine j_if_eq C hd ht (fun hx => ?_) (fun hx => ?_)
        · rw [if_pos hx] at h
          cases h
          exact (J_same rfl rfl k)
        · rw [if_neg hx] at h
          cases h
          exact (J_same rfl rfl k)
      case ne =>
        dsimp only at h
        refine j_if_ne C hd ht (fun hx => ?_) (fun hx => ?_)
        · rw [if_pos hx] at h
          cases h
          exact (J_same rfl rfl k)
        · rw [if_neg hx] at h
          cases h
          exact (J_same rfl rfl k)
      case lt =>
        dsimp only at h
        refine j_if_lt C hd ht (fun hx => ?_) (fun hx => ?_)
        · rw [if_pos hx] at h
          cases h
          exact (J_same rfl rfl k)
        · rw [if_neg hx] at h
          cases h
          exact (J_same rfl rfl k)
      case ge =>
        dsimp only at h
        refine j_if_ge C hd ht (fun hx => ?_) (fun hx => ?_)
        · rw [if_pos hx] at h
          cases h
          exact (J_same rfl rfl k)
        · rw [if_neg hx] at h
          cases h
          exact (J_same rfl rfl k)
      case gt =>
        dsimp only at h
        refine j_if_gt C hd ht (fun hx => ?_) (fun hx => ?_)
        · rw [if_pos hx] at h
          cases h
          exact (J_same rfl rfl k)
        · rw [if_neg hx] at h
          cases h
          exact (J_same rfl rfl k)
      case le =>
        dsimp only at h
        refine j_if_le C hd ht (fun hx => ?_) (fun hx => ?_)
        · rw [if_pos hx] at h
          cases h
          exact (J_same rfl rfl k)
        · rw [if_neg hx] at h
          cases h
          exact (J_same rfl rfl k)
    · cases h
  case if_icmp q o =>
    have ht := of_decide_eq_true (okX_r hok rfl)
    unfold sx at h
    dsimp only at h
    split at h
    · cases q
      case eq =>
        dsimp only at h
        refine j_icmp_eq C hd ht (fun hx => ?_) (fun hx => ?_)
        · rw [if_pos hx] at h
          cases h
          exact (J_same rfl rfl k)
        · rw [if_neg hx] at h
          cases h
          exact (J_same rfl rfl k)
      case ne =>
        dsimp only at h
        refine j_icmp_ne C hd ht (fun hx => ?_) (fun hx => ?_)
        · rw [if_pos hx] at h
          cases h
          exact (J_same rfl rfl k)
        · rw [if_neg hx] at h
          cases h
          exact (J_same rfl rfl k)
      case lt =>
        dsimp only at h
        refine j_icmp_lt C hd ht (fun hx => ?_) (fun hx => ?_)
        · rw [if_pos hx] at h
          cases h
          exact (J_same rfl rfl k)
        · rw [if_neg hx] at h
          cases h
          exact (J_same rfl rfl k)
      case ge =>
        dsimp only at h
        refine j_icmp_ge C hd ht (fun hx => ?_) (fun hx => ?_)
        · rw [if_pos hx] at h
          cases h
          exact (J_same rfl rfl k)
        · rw [if_neg hx] at h
          cases h
          exact (J_same rfl rfl k)
      case gt =>
        dsimp only at h
        refine j_icmp_gt C hd ht (fun hx => ?_) (fun hx => ?_)
        · rw [if_pos hx] at h
          cases h
          exact (J_same rfl rfl k)
        · rw [if_neg hx] at h
          cases h
          exact (J_same rfl rfl k)
      case le =>
        dsimp only at h
        refine j_icmp_le C hd ht (fun hx => ?_) (fun hx => ?_)
        · rw [if_pos hx] at h
          cases h
          exact (J_same rfl rfl k)
        · rw [if_neg hx] at h
          cases h
          exact (J_same rfl rfl k)
    · cases h
  case goto o =>
    have ht := of_decide_eq_true (okX_r hok rfl)
    have h : some (a, ls, st, w) = some (pc', ls', st', w') := h
    cases h
    exact j_goto C hd ht (J_same rfl rfl k)
  case tableswitch d lo hi offs =>
    unfold sx at h
    dsimp only at h
    split at h
    · split at h
      · rename_i ho
        split at h
        · rename_i ht
          cases h
          exact j_tabOut C hd ho ht.symm (J_same rfl rfl k)
        · cases h
      · rename_i ho
        split at h
        · rename_i o hof
          split at h
          · rename_i ht
            cases h
            exact j_tabIn C hd ho hof ht.symm (J_same rfl rfl k)
          · cases h
        · cases h
    · cases h
  case ldc q =>
    have hr := okX_r hok rfl
    dsimp only at hr
    have h : (if a = 1 then some (pc + 2, ls, Value.float (UInt32.ofNat (16 + b)) :: st, w) else some (pc + 2, ls, Value.int (Int32.ofInt z) :: st, w)) = some (pc', ls', st', w') := h
    by_cases ha : a = 1
    · rw [if_pos ha] at h hr
      cases h
      have hr := of_decide_eq_true hr
      cases hq : strW[b]? with
      | none => rw [hq] at hr; cases hr
      | some g =>
        rw [hq] at hr
        have e := Option.some.inj hr
        exact j_ldcS C hq (congrArg Prod.fst e) (congrArg Prod.snd e) hd (J_same rfl rfl k)
    · rw [if_neg ha] at h hr
      cases h
      exact j_ldc C (wG_tb (of_decide_eq_true hr) rfl) hd (J_same rfl rfl k)
  case ldc_w q =>
    have h : some (pc + 3, ls, Value.int (Int32.ofInt z) :: st, w) = some (pc', ls', st', w') := h
    cases h
    exact j_ldcw C (wG_tb (of_decide_eq_true (okX_r hok rfl)) rfl) hd (J_same rfl rfl k)
  case ldc2_w q =>
    have h : some (pc + 3, ls, Value.long (Int64.ofInt z) :: st, w) = some (pc', ls', st', w') := h
    cases h
    exact j_ldc2 C (wG_tb (of_decide_eq_true (okX_r hok rfl)) rfl) hd (J_same rfl rfl k)
  case getstatic q =>
    have hr := okX_r hok rfl
    dsimp only at hr
    rw [Bool.and_eq_true] at hr
    have h5 := of_decide_eq_true hr.1
    have hw := of_decide_eq_true hr.2
    unfold sx at h
    dsimp only at h
    split at h
    · rename_i v hv
      cases h
      by_cases h3 : a < 3
      · rw [if_pos h3] at hw
        exact j_getsN C hv (tb_mem hw) hd (J_same rfl rfl k)
      · rw [if_neg h3] at hw
        exact j_gets C hv (wG_tb hw rfl) hd (J_same rfl rfl k)
    · cases h
  case getfield q =>
    have hr := okX_r hok rfl
    dsimp only at hr
    unfold sx at h
    dsimp only at h
    split at h
    · rename_i k0 r
      by_cases h50 : a = 50
      · subst h50
        split at h
        · unfold getL at h
          split at h
          · rename_i v hv
            split at hv
            · rename_i kd n e
              split at hv
              · rename_i ek
                subst ek
                exact fun LS H locs q1 q2 q3 => absurd (q2.2 _ _ _ e).2.1 (by omega)
              · cases hv
            · cases hv
          · cases h
        · split at h
          · unfold getR at h
            split at h
            · rename_i v hv
              split at hv
              · rename_i kd n e
                split at hv
                · rename_i ek
                  subst ek
                  exact fun LS H locs q1 q2 q3 => absurd (q2.2 _ _ _ e).2.1 (by omega)
                · cases hv
              · cases hv
            · cases h
          · unfold getI at h
            split at h
            · rename_i v hv
              split at hv
              · rename_i kd n e
                split at hv
                · rename_i ek
                  subst ek
                  exact fun LS H locs q1 q2 q3 => absurd (q2.2 _ _ _ e).2.1 (by omega)
                · cases hv
              · cases hv
            · cases h
      · rw [if_neg h50, Bool.and_eq_true] at hr
        obtain ⟨g1, g2, g3⟩ := of_decide_eq_true hr.1
        have hw := wG_tb (of_decide_eq_true hr.2) rfl
        have h3 := cl_tags a g1 b g2
        split at h
        · rename_i z2
          unfold getL at h
          split at h
          · rename_i v hv
            split at hv
            · rename_i kd n e
              split at hv
              · rename_i ek
                subst ek
                cases h
                cases hv
                exact j_get C e g1 g2 hw hd (fv_L (by omega)) (J_same rfl rfl k)
              · cases hv
            · cases hv
          · cases h
        · split at h
          · rename_i z2 z3
            unfold getR at h
            split at h
            · rename_i v hv
              split at hv
              · rename_i kd n e
                split at hv
                · rename_i ek
                  subst ek
                  cases h
                  refine j_get C e g1 g2 hw hd ?_ (J_same rfl rfl k)
                  rw [fv_R (by omega), hv]
                  rfl
                · cases hv
              · cases hv
            · cases h
          · rename_i z2 z3
            unfold getI at h
            split at h
            · rename_i v hv
              split at hv
              · rename_i kd n e
                split at hv
                · rename_i ek
                  subst ek
                  cases h
                  cases hv
                  exact j_get C e g1 g2 hw hd (fv_I (by omega)) (J_same rfl rfl k)
                · cases hv
              · cases hv
            · cases h
    · rename_i u r
      split at h
      · rename_i hu
        obtain ⟨rfl, u1, u2⟩ := hu
        rw [if_pos rfl] at hr
        by_cases hb : b = 0
        · rw [if_pos hb] at h hr
          cases h
          exact j_getS C u1 u2 (wG_tb (of_decide_eq_true hr) rfl) hd (J_same rfl rfl k)
        · rw [if_neg hb] at h hr
          cases h
          exact j_getC C u1 u2 (wG_tb (of_decide_eq_true hr) rfl) hd (J_same rfl rfl k)
      · cases h
    · cases h
  case putfield q =>
    have hr := okX_r hok rfl
    dsimp only at hr
    rw [Bool.and_eq_true, Bool.and_eq_true] at hr
    obtain ⟨⟨hr1, hr2⟩, hr3⟩ := hr
    obtain ⟨g1, g2, g3⟩ := of_decide_eq_true hr1
    have hw := wG_tb (of_decide_eq_true hr2) rfl
    have hfin : (clT a b).2.2.2 = true → (pN M).name = "<init>" ∧ (clT a b).1 = (pN M).cls := fun hf => by
      rw [if_pos hf] at hr3
      exact of_decide_eq_true hr3
    unfold sx at h
    dsimp only at h
    split at h
    · split at h
      · split at h
        · rename_i w1 hp
          cases h
          exact j_putI C hp g1 g2 (by omega) hw hfin hd (J_same (putI_n hp).1 (putI_n hp).2 k)
        · cases h
      · split at h
        · split at h
          · rename_i w1 hp
            cases h
            exact j_putZ C hp g1 g2 (by omega) hw hfin hd (J_same (putZ_n hp).1 (putZ_n hp).2 k)
          · cases h
        · cases h
    · split at h
      · split at h
        · rename_i w1 hp
          cases h
          exact j_putL C hp g1 g2 (by omega) hw hfin hd (J_same (putL_n hp).1 (putL_n hp).2 k)
        · cases h
      · cases h
    · split at h
      · split at h
        · rename_i w1 hp
          cases h
          exact j_putR C hp g1 g2 (by omega) hw hfin hd (J_same (putR_n hp).1 (putR_n hp).2 k)
        · cases h
      · cases h
    · cases h
  case iaload =>
    unfold sx at h
    dsimp only at h
    split at h
    · split at h
      · rename_i v hv
        cases h
        unfold aldI at hv
        split at hv
        · rename_i kd n e
          split at hv
          · rename_i hk
            obtain ⟨rfl, hin⟩ := hk
            cases hv
            exact fun LS H locs q1 q2 q3 => r_aldI C q2 e hin hd (J_same rfl rfl k LS H locs q1 q2 q3)
          · cases hv
        · cases hv
      · cases h
    · split at h
      · rename_i v hv
        cases h
        exact j_tldI C hv hd (J_same rfl rfl k)
      · cases h
    · cases h
  case baload =>
    unfold sx at h
    dsimp only at h
    split at h
    · split at h
      · rename_i v hv
        cases h
        unfold aldB at hv
        split at hv
        · rename_i kd n e
          split at hv
          · rename_i hk
            obtain ⟨hk, hin⟩ := hk
            cases hv
            exact fun LS H locs q1 q2 q3 => r_aldB C q2 e hk hin hd (J_same rfl rfl k LS H locs q1 q2 q3)
          · cases hv
        · cases hv
      · cases h
    · split at h
      · rename_i v hv
        cases h
        exact j_tldB C hv hd (J_same rfl rfl k)
      · cases h
    · cases h
  case laload =>
    unfold sx at h
    dsimp only at h
    split at h
    · split at h
      · rename_i v hv
        cases h
        unfold aldL at hv
        split at hv
        · rename_i kd n e
          split at hv
          · rename_i hk
            obtain ⟨rfl, hin⟩ := hk
            cases hv
            exact fun LS H locs q1 q2 q3 => r_aldL C q2 e hin hd (J_same rfl rfl k LS H locs q1 q2 q3)
          · cases hv
        · cases hv
      · cases h
    · cases h
  case aaload =>
    unfold sx at h
    dsimp only at h
    split at h
    · split at h
      · rename_i v hv
        cases h
        unfold aldR at hv
        split at hv
        · rename_i kd n e
          split at hv
          · rename_i hk
            obtain ⟨hk, hin⟩ := hk
            refine fun LS H locs q1 q2 q3 => r_aldR C q2 e hk hin hd ?_
            rw [hv]
            exact J_same rfl rfl k LS H locs q1 q2 q3
          · cases hv
        · cases hv
      · cases h
    · cases h
  case iastore =>
    unfold sx at h
    dsimp only at h
    split at h
    · split at h
      · rename_i w1 hv
        cases h
        unfold astI at hv
        split at hv
        · rename_i kd n e
          split at hv
          · rename_i hk
            obtain ⟨rfl, hin⟩ := hk
            cases hv
            exact fun LS H locs q1 q2 q3 => r_astI C q2 q3 e hin hd (fun H1 locs1 q4 q5 => J_same rfl rfl k LS H1 locs1 q1 q4 q5)
          · cases hv
        · cases hv
      · cases h
    · cases h
  case bastore =>
    unfold sx at h
    dsimp only at h
    split at h
    · split at h
      · rename_i w1 hv
        cases h
        unfold astB at hv
        split at hv
        · rename_i kd n e
          split at hv
          · rename_i hk
            obtain ⟨hk, hin⟩ := hk
            cases hv
            exact fun LS H locs q1 q2 q3 => r_astB C q2 q3 e hk hin hd (fun H1 locs1 q4 q5 => J_same rfl rfl k LS H1 locs1 q1 q4 q5)
          · cases hv
        · cases hv
      · cases h
    · cases h
  case lastore =>
    unfold sx at h
    dsimp only at h
    split at h
    · split at h
      · rename_i w1 hv
        cases h
        unfold astL at hv
        split at hv
        · rename_i kd n e
          split at hv
          · rename_i hk
            obtain ⟨rfl, hin⟩ := hk
            cases hv
            exact fun LS H locs q1 q2 q3 => r_astL C q2 q3 e hin hd (fun H1 locs1 q4 q5 => J_same rfl rfl k LS H1 locs1 q1 q4 q5)
          · cases hv
        · cases hv
      · cases h
    · cases h
  case aastore =>
    unfold sx at h
    dsimp only at h
    split at h
    · split at h
      · rename_i w1 hv
        cases h
        unfold astR at hv
        split at hv
        · rename_i kd n kv nv e ev
          split at hv
          · rename_i hk
            obtain ⟨hk, rfl, hin⟩ := hk
            cases hv
            exact fun LS H locs q1 q2 q3 => r_astR C q2 q3 e hk ev hin hd (fun H1 locs1 q4 q5 => J_same rfl rfl k LS H1 locs1 q1 q4 q5)
          · cases hv
        · cases hv
      · cases h
    · cases h
  case arraylength =>
    unfold sx at h
    dsimp only at h
    split at h
    · split at h
      · rename_i v hv
        cases h
        unfold alen at hv
        split at hv
        · rename_i kd n e
          split at hv
          · rename_i hk
            cases hv
            exact fun LS H locs q1 q2 q3 => r_alen C q2 e hk hd (J_same rfl rfl k LS H locs q1 q2 q3)
          · cases hv
        · cases hv
      · cases h
    · split at h
      · rename_i v hv
        cases h
        exact j_tlen C hv hd (J_same rfl rfl k)
      · cases h
    · cases h
  case new q =>
    have hr := okX_r hok rfl
    dsimp only at hr
    rw [Bool.and_eq_true] at hr
    have h : some (pc + 3, ls, Value.ref (wn w) :: st, newC w a (NF a)) = some (pc', ls', st', w') := h
    cases h
    have e1 : wn (newC w a (NF a)) - wn w = 1 := Nat.add_sub_cancel_left _ _
    have e2 : wz (newC w a (NF a)) - wz w = NF a := Nat.add_sub_cancel_left _ _
    rw [e1, e2] at k
    rw [e1] at hc
    rw [e2] at hz
    exact fun LS H locs q1 q2 q3 => r_new C q2 q3 (of_decide_eq_true hr.1) (wG_tb (of_decide_eq_true hr.2) rfl) hc hz hd (fun H1 q4 q5 => k LS H1 locs q1 q4 q5)
  case newarray t =>
    unfold sx at h
    dsimp only at h
    split at h
    · rename_i n r kd ht
      split at h
      · rename_i hn
        cases h
        have e1 : wn (newC w kd n.toNatClampNeg) - wn w = 1 := Nat.add_sub_cancel_left _ _
        have e2 : wz (newC w kd n.toNatClampNeg) - wz w = n.toNatClampNeg := Nat.add_sub_cancel_left _ _
        rw [e1, e2] at k
        rw [e1] at hc
        rw [e2] at hz
        exact fun LS H locs q1 q2 q3 => r_newA C q2 q3 ht hn.1 hn.2 hc hz hd (fun H1 q4 q5 => k LS H1 locs q1 q4 q5)
      · cases h
    · cases h
  case anewarray q =>
    unfold sx at h
    dsimp only at h
    split at h
    · rename_i n r
      split at h
      · rename_i hn
        cases h
        have e1 : wn (newC w a n.toNatClampNeg) - wn w = 1 := Nat.add_sub_cancel_left _ _
        have e2 : wz (newC w a n.toNatClampNeg) - wz w = n.toNatClampNeg := Nat.add_sub_cancel_left _ _
        rw [e1, e2] at k
        rw [e1] at hc
        rw [e2] at hz
        exact fun LS H locs q1 q2 q3 => r_anew C q2 q3 hn.2.2 (wG_tb (of_decide_eq_true (okX_r hok rfl)) rfl) hn.1 hn.2.1 hc hz hd (fun H1 q4 q5 => k LS H1 locs q1 q4 q5)
      · cases h
    · cases h
  case multianewarray q d =>
    unfold sx at h
    dsimp only at h
    split at h
    · rename_i k1 n r
      split at h
      · rename_i hn
        obtain ⟨rfl, n1, n2, n3, n4⟩ := hn
        cases h
        have e1 : wn (newM w n.toNatClampNeg k1.toNatClampNeg) - wn w = 1 + n.toNatClampNeg := by show wn w + 1 + n.toNatClampNeg - wn w = _; omega
        have e2 : wz (newM w n.toNatClampNeg k1.toNatClampNeg) - wz w = n.toNatClampNeg + n.toNatClampNeg * k1.toNatClampNeg := by show wz w + n.toNatClampNeg + n.toNatClampNeg * k1.toNatClampNeg - wz w = _; omega
        rw [e1, e2] at k
        rw [e1] at hc
        rw [e2] at hz
        exact hMul V M p l e R s m args below meth c Q cells slots pc q ls r w n k1 C (wG_tb (of_decide_eq_true (okX_r hok rfl)) rfl) hd n1 n2 n3 n4 hc hz k
      · cases h
    · cases h
  case invokespecial q =>
    have hr := okX_r hok rfl
    dsimp only at hr
    unfold sx at h
    dsimp only at h
    split at h
    · rename_i ha
      subst ha
      rw [if_neg (show ¬ ((9998 : Nat) < 9990) by omega), if_pos rfl, Bool.and_eq_true] at hr
      split at h
      · split at h
        · rename_i h8
          cases h
          exact j_objInit C hlen h8 (of_decide_eq_true hr.2) (wG_tb (of_decide_eq_true hr.1) rfl) hd (J_same rfl rfl k)
        · cases h
      · cases h
    · cases h
  case invokestatic q =>
    have hr := okX_r hok rfl
    dsimp only at hr
    unfold sx at h
    dsimp only at h
    split at h
    · rename_i ha
      subst ha
      rw [if_neg (show ¬ ((9999 : Nat) < 9990) by omega), if_pos rfl, Bool.and_eq_true] at hr
      split at h
      · split at h
        · rename_i h8
          split at h
          · rename_i w1 hp
            cases h
            exact j_cpy C hlen h8 (of_decide_eq_true hr.2) (wG_tb (of_decide_eq_true hr.1) rfl) hd hp (J_same (cpyI_n hp).1 (cpyI_n hp).2 k)
          · cases h
        · cases h
      · cases h
    · split at h
      · rename_i ha
        subst ha
        rw [if_neg (show ¬ ((9991 : Nat) < 9990) by omega), if_neg (show ¬ ((9991 : Nat) = 9999) by omega), if_pos rfl, Bool.and_eq_true] at hr
        split at h
        · split at h
          · rename_i h8
            cases h
            exact j_max C hlen h8 (of_decide_eq_true hr.2) hc0 hz0 (wG_tb (of_decide_eq_true hr.1) rfl) hd (J_same rfl rfl k)
          · cases h
        · cases h
      · split at h
        · rename_i ha
          subst ha
          rw [if_neg (show ¬ ((9992 : Nat) < 9990) by omega), if_neg (show ¬ ((9992 : Nat) = 9999) by omega), if_neg (show ¬ ((9992 : Nat) = 9991) by omega), if_pos rfl, Bool.and_eq_true] at hr
          split at h
          · split at h
            · rename_i h8
              cases h
              exact j_abs C hlen h8 (of_decide_eq_true hr.2) hc0 hz0 (wG_tb (of_decide_eq_true hr.1) rfl) hd (J_same rfl rfl k)
            · cases h
          · cases h
        · cases h
  all_goals (have h0 : (none : Option (Nat × Ls × List Value × Wd)) = some (pc', ls', st', w') := h; cases h0)
