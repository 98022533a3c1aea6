/-! CALLS, and the evaluator's run as the machine's -/
/-- no constructor is called by invokevirtual -/
def okV (x : XI) : Bool := match x.1 with
  | .invokevirtual _ => if x.2.1 < 9990 then decide ((pN x.2.1).name ≠ "<init>") else true
  | _ => true
set_option maxRecDepth 100000 in
theorem okV0 : (List.range' 0 64).all (fun M => (cdOf M).all (fun q => okV q.2)) = true := by decide +kernel
set_option maxRecDepth 100000 in
theorem okV1 : (List.range' 64 64).all (fun M => (cdOf M).all (fun q => okV q.2)) = true := by decide +kernel
set_option maxRecDepth 100000 in
theorem okV2 : (List.range' 128 64).all (fun M => (cdOf M).all (fun q => okV q.2)) = true := by decide +kernel
set_option maxRecDepth 100000 in
theorem okV3 : (List.range' 192 64).all (fun M => (cdOf M).all (fun q => okV q.2)) = true := by decide +kernel
set_option maxRecDepth 100000 in
theorem okV4 : (List.range' 256 1).all (fun M => (cdOf M).all (fun q => okV q.2)) = true := by decide +kernel
set_option maxRecDepth 100000 in
theorem okVL0 : cdL0.all (fun q => okV q.2) = true := by decide +kernel
set_option maxRecDepth 100000 in
theorem okVL1 : cdL1.all (fun q => okV q.2) = true := by decide +kernel
set_option maxRecDepth 100000 in
theorem okVL2 : cdL2.all (fun q => okV q.2) = true := by decide +kernel
set_option maxRecDepth 100000 in
theorem okVL3 : cdL3.all (fun q => okV q.2) = true := by decide +kernel
set_option maxRecDepth 100000 in
theorem okVL4 : cdL4.all (fun q => okV q.2) = true := by decide +kernel
set_option maxRecDepth 100000 in
theorem okVL5 : cdL5.all (fun q => okV q.2) = true := by decide +kernel
set_option maxRecDepth 100000 in
theorem okVL6 : cdL6.all (fun q => okV q.2) = true := by decide +kernel
set_option maxRecDepth 100000 in
theorem okVL7 : cdL7.all (fun q => okV q.2) = true := by decide +kernel
set_option maxRecDepth 100000 in
theorem okVL8 : cdL8.all (fun q => okV q.2) = true := by decide +kernel
set_option maxRecDepth 100000 in
theorem okVL9 : cdL9.all (fun q => okV q.2) = true := by decide +kernel
set_option maxRecDepth 100000 in
theorem okVL10 : cdL10.all (fun q => okV q.2) = true := by decide +kernel
set_option maxRecDepth 100000 in
theorem okVL11 : cdL11.all (fun q => okV q.2) = true := by decide +kernel
set_option maxRecDepth 100000 in
theorem okVL12 : cdL12.all (fun q => okV q.2) = true := by decide +kernel
set_option maxRecDepth 100000 in
theorem okVL13 : cdL13.all (fun q => okV q.2) = true := by decide +kernel
set_option maxRecDepth 100000 in
theorem okVL14 : cdL14.all (fun q => okV q.2) = true := by decide +kernel
theorem okVLaw : cd272.all (fun q => okV q.2) = true := by
  unfold cd272
  simp only [List.all_append, Bool.and_eq_true]
  exact ⟨okVL0, okVL1, okVL2, okVL3, okVL4, okVL5, okVL6, okVL7, okVL8, okVL9, okVL10, okVL11, okVL12, okVL13, okVL14⟩
theorem okV_lkp {x : XI} : ∀ {l : List (Nat × XI)} {pc : Nat}, l.all (fun q => okV q.2) = true → lkp l pc = some x → okV x = true := by
  intro l
  induction l with
  | nil => intro pc _ h; cases h
  | cons q l ih =>
    intro pc ha h
    rw [List.all_cons, Bool.and_eq_true] at ha
    unfold lkp at h
    split at h
    · cases h
      exact ha.1
    · exact ih ha.2 h
theorem ok_V {M pc : Nat} {x : XI} (h : fetch M pc = some x) : okV x = true := by
  refine okV_lkp ?_ h
  by_cases h0 : M < 64
  · exact List.all_eq_true.mp okV0 M (by rw [List.mem_range']; exact ⟨M - 0, by omega, by omega⟩)
  by_cases h1 : M < 128
  · exact List.all_eq_true.mp okV1 M (by rw [List.mem_range']; exact ⟨M - 64, by omega, by omega⟩)
  by_cases h2 : M < 192
  · exact List.all_eq_true.mp okV2 M (by rw [List.mem_range']; exact ⟨M - 128, by omega, by omega⟩)
  by_cases h3 : M < 256
  · exact List.all_eq_true.mp okV3 M (by rw [List.mem_range']; exact ⟨M - 192, by omega, by omega⟩)
  by_cases h4 : M < 257
  · exact List.all_eq_true.mp okV4 M (by rw [List.mem_range']; exact ⟨M - 256, by omega, by omega⟩)
  by_cases hl : M = 272
  · subst hl
    exact okVLaw
  have e : cdOf M = [] := by
    unfold cdOf
    by_cases h16 : M / 16 = 16
    · rw [h16]
      show (match cdG16[M % 16]? with | some q => q | none => []) = []
      rw [List.getElem?_eq_none (by show 1 ≤ M % 16; omega)]
    · by_cases h17 : M / 16 = 17
      · rw [h17]
        show (match cdG17[M % 16]? with | some q => q | none => []) = []
        rw [List.getElem?_eq_none (by show 1 ≤ M % 16; omega)]
      · rw [List.getElem?_eq_none (by show 18 ≤ M / 16; omega)]
  rw [e]
  rfl
theorem ok_nv {M pc : Nat} {x : XI} (h : fetch M pc = some x) (h9 : x.2.1 < 9990) : ∀ idx, x.1 = .invokevirtual idx → (pN x.2.1).name ≠ "<init>" := by
  intro idx e
  have h1 := ok_V h
  unfold okV at h1
  rw [e] at h1
  dsimp only at h1
  rw [if_pos h9] at h1
  exact of_decide_eq_true h1
section RC
variable {V : EvT} {p : Program} {l : Launch} {e : Env} {R : Room} {s : State} {m : MethodId} {args : Array Value} {below : List Frame} {meth : Method} {c : Code} {cells slots : Nat} {Q : State → Prop} {M pc : Nat} {w : Wd}
theorem g_call {H : Heap} {locs : List Loc} {LS : Array Slot} {st0 rest : List Value} {a : Array Value} {mc ms : Nat} {v : Option Value} {w1 : Wd} (hr : va_Run p l e R s m args below meth c H locs cells slots mc ms (F0 m pc LS st0) rest (Qg V v w1 a) (A0 V)) (hS : va_S (A0 V) s.heap H locs)
    (kk : ∀ (H1 : Heap) (locs1 : List Loc), HR V w1 H1 → va_S (A0 V) s.heap H1 locs1 → W p l e R s m args below meth c H1 locs1 (cells + mc) (slots + ms) Q (F0 m (pc + 3) LS ((v.map (cv V)).toList ++ rest))) : W p l e R s m args below meth c H locs cells slots Q (F0 m pc LS st0) := by
  intro T hT X
  obtain ⟨v', st₀, t, T', L, h0, X', hL, e1, e2, ⟨hv, hHR, hF⟩, st⟩ := hr T hT X
  have hv' : v' = v.map (cv V) := Outcome.returned.inj hv
  subst hv'
  obtain ⟨hz, hk⟩ := hF
  rw [h0] at hz hk
  obtain ⟨t2, a1, b1⟩ := kk T'.heap (locs ++ L) (by rw [e1]; exact hHR)
    ⟨Nat.le_trans hS.1 (by rw [e1]; exact hz), fun q h1 h2 => by rw [e1, hk q (Nat.lt_of_lt_of_le h1 hS.1) h2]; exact hS.2.1 q h1 h2, fun q hq => by
      rcases List.mem_append.mp hq with h | h
      · exact hS.2.2 q h
      · exact hL q h⟩ T' rfl X'
  exact ⟨t2, st t2 a1, b1⟩
theorem wG_gi {ws : List Jvm.Cond} (h : ∀ w ∈ ws, w ∈ wG) : GoodIn wG ws := fun w hw => ⟨h w hw, good_of_word (wG_good w (h w hw))⟩
theorem cat_sum {V : EvT} (hV : ∀ u, eS V u = .null ∨ ∃ a, eS V u = .ref a) (r : List Value) : ((r.map (cv V)).map fun v => v.category) = r.map fun v => v.category := by
  rw [List.map_map]
  apply List.map_congr_left
  intro x _
  exact cv_cat hV x
set_option maxHeartbeats 4000000 in
theorem j_call {n : Nat} (ih : RunOK V n) (C : CX V M p R s m args meth c) {x : XI} {ls : Ls} {st as r : List Value} {v : Option Value} {w1 : Wd} (hok : okX M pc x = true) (h9 : x.2.1 < 9990) (hik : ik x.1 = 1) (hnv : ∀ idx, x.1 = .invokevirtual idx → (pN x.2.1).name ≠ "<init>") (hlen : ls.length = pL M) (hcl : cla M x st w = some (as, r)) (hent : (entL as).length ≤ pL x.2.1) (hrun : run (eX V) n x.2.1 0 (ent x.2.1 as) [] w = some (v, w1))
    (hc : cells + (wn w1 - wn w) ≤ R.cells) (hz : slots + (wz w1 - wz w) ≤ R.slots)
    (kk : J V M p l e R s m args below meth c Q (cells + (wn w1 - wn w)) (slots + (wz w1 - wz w)) (pc + 3) ls (v.toList ++ r) w1) : J V M p l e R s m args below meth c Q cells slots pc ls st w := by
  intro LS H locs a b q
  have hd := okX_d hok
  have hE := C.2.2.2.2.2.1
  have hV := hE.2.2.2.2.2.2.2.2.2
  have hts := C.2.2.2.2.1
  have hfr : pK M ≤ R.frames := C.2.2.2.2.2.2.2.1
  have hlo : 40 * pK M ≤ R.locals := C.2.2.2.2.2.2.2.2.1
  obtain ⟨i, M', b', z, pp⟩ := x
  dsimp only at h9 hent hrun hik hd hnv
  have go : ∀ (H1 : Heap) (locs1 : List Loc), HR V w1 H1 → va_S (A0 V) s.heap H1 locs1 → W p l e R s m args below meth c H1 locs1 (cells + (wn w1 - wn w)) (slots + (wz w1 - wz w)) Q (F0 m (pc + 3) LS ((v.map (cv V)).toList ++ r.map (cv V))) := by
    intro H1 locs1 b1 q1
    have := kk LS H1 locs1 a b1 q1
    rw [List.map_append] at this
    cases v <;> exact this
  have hPU : ∀ U : State, U.heap = H → s.WarmedH U.vm → Pg V as w (as.map (cv V)).toArray U := fun U hU hW => ⟨rfl, hE.go q hU hW, by rw [hU]; exact b⟩
  have hcode : ∀ {M' : Nat}, M' < nM → Jvm.Cond.code (pN M') (pB M') (pL M') (pRt M') ∈ wG := fun h => wG_tb (ok_C h) rfl
  have hsub : ∀ {M' : Nat}, M' < nM → ∀ w0 ∈ (Jvm.Cond.code (pN M') (pB M') (pL M') (pRt M') :: wG), w0 ∈ wG := fun h w0 h0 => by
    rcases List.mem_cons.mp h0 with e | h1
    · rw [e]; exact hcode h
    · exact h1
  unfold cla at hcl
  dsimp only at hcl
  split at hcl
  · cases hcl
  rename_i hrk
  have hrk : pK M' < pK M := Classical.byContradiction hrk
  have hsz : LS.size = pL M := a.1.trans hlen
  have S : CallFix p m c (pB M) (pL M) s args wG (pN M).cls := ⟨C.1, C.2.1, C.2.2.1, C.2.2.2.1, hts⟩
  cases i <;> first | (exfalso; cases hik; done) | skip
  case invokestatic idx =>
    have hr := okX_r hok rfl
    dsimp only at hr
    dsimp only at hcl
    rw [if_pos h9, Bool.and_eq_true, Bool.and_eq_true, Bool.and_eq_true] at hr
    obtain ⟨⟨⟨hr1, hr2⟩, hr3⟩, hr4⟩ := hr
    have hl := of_decide_eq_true hr1
    have hM := of_decide_eq_true hr2
    have h99 := of_decide_eq_true hr3
    have hdesc := of_decide_eq_true hr4
    have hm := met_run ih hM hent hrun l
    have hokM := (ok_M hM).1
    unfold okM at hokM
    simp only [Bool.and_eq_true, decide_eq_true_eq] at hokM
    obtain ⟨⟨⟨⟨k1, k2⟩, k3⟩, k4⟩, k5⟩ := hokM
    rw [if_pos h99] at k5
    have k5 := of_decide_eq_true k5
    have hR : pK M' + 1 ≤ R.frames ∧ 8 + (pL M' + 11) + 40 * pK M' ≤ R.locals := ⟨by omega, by omega⟩
    split at hcl
    · rename_i hcc
      obtain ⟨hn, h8⟩ := hcc
      cases hcl
      have hst : st.map (cv V) = (((st.take b').reverse).map (cv V)).reverse ++ (st.drop b').map (cv V) := by
        rw [List.map_reverse, List.reverse_reverse, ← List.map_append, List.take_append_drop]
      by_cases hnest : z = 1
      · rw [if_pos hnest] at hl
        have hl0 : va_Nw (Jvm.Cond.methodLinkNest (pN M).cls idx (pN M') "NineWheel") s := hE.2.1 _ (tb_mem hl) rfl
        exact g_call (va_runSN S hm ⟨va_cnB b' hts (wG_gi (hsub hM)) rfl rfl rfl hl0 (hts _ (wG_tb k1 rfl)) ⟨k4.1, k4.2, hdesc⟩ hR, hts _ (wG_tb k5 rfl), trivial⟩ ⟨Pg_blind, hPU⟩ rfl (by simpa using hn) hsz hst (lv_room (by rw [cat_sum hV]; exact h8)) hd ⟨hc, hz⟩) q go
      · rw [if_neg hnest] at hl
        refine g_call (va_runS S hm (va_cwS b' hts (wG_gi (fun w0 h0 => ?_)) rfl rfl rfl ⟨k4.1, k4.2, hdesc⟩ hR) ⟨Pg_blind, hPU⟩ rfl (by simpa using hn) hsz hst (lv_room (by rw [cat_sum hV]; exact h8)) hd ⟨hc, hz⟩) q go
        unfold va_wsS at h0
        rcases List.mem_append.mp h0 with h1 | h1
        · simp only [List.mem_cons, List.not_mem_nil, or_false] at h1
          rcases h1 with rfl | rfl | rfl
          · exact wG_tb hl rfl
          · exact wG_tb k5 rfl
          · exact wG_tb k1 rfl
        · exact hsub hM w0 h1
    · cases hcl
  case invokevirtual idx =>
    have hr := okX_r hok rfl
    dsimp only at hr
    dsimp only at hcl
    rw [if_pos h9, Bool.and_eq_true, Bool.and_eq_true, Bool.and_eq_true] at hr
    obtain ⟨⟨⟨hr1, hr2⟩, hr3⟩, hr4⟩ := hr
    have hl := of_decide_eq_true hr1
    have hM := of_decide_eq_true hr2
    have h99 := of_decide_eq_true hr3
    have hdesc := of_decide_eq_true hr4
    have hm := met_run ih hM hent hrun l
    have hokM := (ok_M hM).1
    have hsel : Jvm.Cond.selects (pN M').cls (pN M') (pN M') ∈ wG := by
      rcases (ok_M hM).2 with h | h
      · rcases h with h | h
        · exact absurd h h99
        · exact absurd h (hnv idx rfl)
      · unfold okSel at h
        split at h
        · exact wG_tb (of_decide_eq_true h) rfl
        · have h1 := of_decide_eq_true h
          cases hq : lw_privs[(mrOf M').2.2.2.2.2.2.2.2.2 - 5000]? with
          | none => rw [hq] at h1; cases h1
          | some g =>
            rw [hq] at h1
            have h2 : g.1 = pN M' := Option.some.inj h1
            refine List.mem_filter.mpr ⟨List.mem_append_left _ (List.mem_map.mpr ⟨g, List.mem_of_getElem? hq, ?_⟩), rfl⟩
            rw [h2]
    unfold okM at hokM
    simp only [Bool.and_eq_true, decide_eq_true_eq] at hokM
    obtain ⟨⟨⟨⟨k1, k2⟩, k3⟩, k4⟩, k5⟩ := hokM
    rw [if_neg h99] at k5
    rw [Bool.and_eq_true, Bool.or_eq_true] at k5
    obtain ⟨k5, k6⟩ := k5
    have k5 := of_decide_eq_true k5
    have hR : pK M' + 1 ≤ R.frames ∧ 8 + (pL M' + 11) + 40 * pK M' ≤ R.locals := ⟨by omega, by omega⟩
    have hst : ∀ (u : Value) (r' : List Value), st.drop b' = u :: r' → st.map (cv V) = (((st.take b').reverse).map (cv V)).reverse ++ cv V u :: r'.map (cv V) := fun u r' e => by
      rw [List.map_reverse, List.reverse_reverse, ← List.map_cons, ← e, ← List.map_append, List.take_append_drop]
    have fin : ∀ (u : Value) (t : Nat), st.drop b' = u :: r → as = u :: (st.take b').reverse → cv V u = .ref t → (st.take b').length = b' → (r.map fun v => v.category).sum ≤ 8 → (∃ cellB : Cell, H[t]? = some cellB ∧ cellB.vm.isStatics = false ∧ s.vm.findClass (pN M').cls = some cellB.cls) → W p l e R s m args below meth c H locs cells slots Q (F0 m pc LS (st.map (cv V))) := by
      intro u t e1 e2 e3 hn h8 hrecv
      have hst1 := hst u r e1
      rw [e3] at hst1
      have has : as.map (cv V) = Value.ref t :: ((st.take b').reverse).map (cv V) := by rw [e2, List.map_cons, e3]
      rw [has] at hPU
      by_cases hnest : z = 1
      · rw [if_pos hnest] at hl
        have hl0 : va_Nw (Jvm.Cond.methodLinkNest (pN M).cls idx (pN M') "NineWheel") s := hE.2.1 _ (tb_mem hl) rfl
        exact g_call (va_runVN (C := (pN M').cls) (b := t) (As := ((st.take b').reverse).map (cv V)) S hm ⟨va_cnB b' hts (wG_gi (hsub hM)) rfl rfl rfl hl0 (hts _ (wG_tb k1 rfl)) ⟨k4.1, k4.2, hdesc⟩ hR, hts _ (wG_tb k5 rfl), hts _ hsel⟩ ⟨Pg_blind, hrecv, hPU⟩ rfl (by simpa using hn) hsz hst1 (lv_room (by rw [cat_sum hV]; exact h8)) hd ⟨hc, hz⟩) q go
      · rw [if_neg hnest] at hl
        exact g_call (va_runV (C := (pN M').cls) (b := t) (As := ((st.take b').reverse).map (cv V)) S hm (cwV b' hts (wG_gi (fun w0 h0 => by
          unfold wsV at h0
          rcases List.mem_append.mp h0 with h1 | h1
          · simp only [List.mem_cons, List.not_mem_nil, or_false] at h1
            rcases h1 with rfl | rfl | rfl | rfl
            · exact wG_tb hl rfl
            · exact wG_tb k5 rfl
            · exact hsel
            · exact wG_tb k1 rfl
          · exact hsub hM w0 h1)) rfl rfl rfl ⟨rfl, k4.1, k4.2, hdesc⟩ hR) ⟨Pg_blind, hrecv, hPU⟩ rfl (by simpa using hn) hsz hst1 (lv_room (by rw [cat_sum hV]; exact h8)) hd ⟨hc, hz⟩) q go
    split at hcl
    · rename_i k0 r' hdr
      split at hcl
      · rename_i hcc
        obtain ⟨hn, h8, hsh⟩ := hcc
        have e0 := Option.some.inj hcl
        have e1 : Value.ref k0 :: (st.take b').reverse = as := congrArg Prod.fst e0
        have e2 : r' = r := congrArg Prod.snd e0
        rw [e2] at hdr h8
        cases hs0 : wsh w k0 with
        | none => rw [hs0] at hsh; cases hsh
        | some q0 =>
          obtain ⟨kd, n0⟩ := q0
          rw [hs0] at hsh
          have hkd : kd = pC M' := Option.some.inj hsh
          subst hkd
          have h12 := (b.2 _ _ _ hs0).2.1
          have k7 : pC M' < 12 ∧ (pN M').cls = clR (pC M') := by
            rcases k6 with k | k
            · exact of_decide_eq_true k
            · have := (of_decide_eq_true k).1
              omega
          have hat := b.at hs0
          rw [cellE_obj k7.1] at hat
          refine fin (.ref k0) (eb V + k0) hdr e1.symm rfl hn h8 ?_
          rw [k7.2]
          exact va_recv hE.1 (va_one hat) (cl_at (pC M') k7.1) (q0 := 0) rfl
      · cases hcl
    · rename_i u r' hdr
      split at hcl
      · rename_i hcc
        obtain ⟨hn, h8, h50, u1, u2⟩ := hcc
        have e0 := Option.some.inj hcl
        have e3 : Value.float u :: (st.take b').reverse = as := congrArg Prod.fst e0
        have e4 : r' = r := congrArg Prod.snd e0
        rw [e4] at hdr h8
        have k7 : (pN M').cls = "java/lang/String" := by
          rcases k6 with k | k
          · have := (of_decide_eq_true k).1
            omega
          · exact (of_decide_eq_true k).2
        obtain ⟨t, e1, e2, -⟩ := hE.2.2.2.2.2.2.1 u u1 u2
        refine fin (.float u) t hdr e3.symm e1 hn h8 ?_
        rw [k7]
        obtain ⟨cell, g1, g2, g3, -⟩ := e2.kept q.2.1
        exact ⟨cell, g1, g2, g3⟩
      · cases hcl
    · cases hcl
  case invokespecial idx =>
    have hr := okX_r hok rfl
    dsimp only at hr
    dsimp only at hcl
    rw [if_pos h9, Bool.and_eq_true, Bool.and_eq_true, Bool.and_eq_true] at hr
    obtain ⟨⟨⟨hr1, hr2⟩, hr3⟩, hr4⟩ := hr
    have hl := of_decide_eq_true hr1
    have hM := of_decide_eq_true hr2
    obtain ⟨h99, hinit, hrt⟩ := of_decide_eq_true hr3
    have hdesc := of_decide_eq_true hr4
    have hm := met_run ih hM hent hrun l
    have hokM := (ok_M hM).1
    unfold okM at hokM
    simp only [Bool.and_eq_true, decide_eq_true_eq] at hokM
    obtain ⟨⟨⟨⟨k1, k2⟩, k3⟩, k4⟩, k5⟩ := hokM
    rw [if_neg h99] at k5
    rw [Bool.and_eq_true, Bool.or_eq_true] at k5
    obtain ⟨k5, k6⟩ := k5
    have k5 := of_decide_eq_true k5
    have hR : pK M' + 1 ≤ R.frames ∧ 8 + (pL M' + 11) + 40 * pK M' ≤ R.locals := ⟨by omega, by omega⟩
    split at hcl
    · rename_i k0 r' hdr
      split at hcl
      · rename_i hcc
        obtain ⟨hn, h8⟩ := hcc
        have e0 := Option.some.inj hcl
        have e1 : Value.ref k0 :: (st.take b').reverse = as := congrArg Prod.fst e0
        have e2 : r' = r := congrArg Prod.snd e0
        rw [e2] at hdr h8
        subst e1
        have hst1 : st.map (cv V) = (((st.take b').reverse).map (cv V)).reverse ++ Value.ref (eb V + k0) :: r.map (cv V) := by
          rw [List.map_reverse, List.reverse_reverse, show (Value.ref (eb V + k0) :: r.map (cv V)) = (Value.ref k0 :: r).map (cv V) from rfl, ← hdr, ← List.map_append, List.take_append_drop]
        by_cases hnest : z = 1
        · rw [if_pos hnest] at hl
          have hl0 : va_Nw (Jvm.Cond.methodLinkNest (pN M).cls idx (pN M') "NineWheel") s := hE.2.1 _ (tb_mem hl) rfl
          exact g_call (va_runIN (b := eb V + k0) (As := ((st.take b').reverse).map (cv V)) S hm ⟨va_cnB b' hts (wG_gi (hsub hM)) (by rw [hrt]) rfl rfl hl0 (hts _ (wG_tb k1 rfl)) ⟨k4.1, k4.2, hdesc⟩ hR, hinit, hts _ (wG_tb k5 rfl)⟩ ⟨Pg_blind, hPU⟩ rfl (by simpa using hn) hsz hst1 (lv_room (by rw [cat_sum hV]; exact h8)) hd ⟨hc, hz⟩) q go
        · rw [if_neg hnest] at hl
          exact g_call (va_runI (b := eb V + k0) (As := ((st.take b').reverse).map (cv V)) S hm (cwI b' hts (wG_gi (hsub hM)) (by rw [hrt]) rfl rfl (hts _ (wG_tb k1 rfl)) (hts _ (wG_tb hl rfl)) (hts _ (wG_tb k5 rfl)) hinit ⟨k4.1, k4.2, hdesc⟩ hR) ⟨Pg_blind, hPU⟩ rfl (by simpa using hn) hsz hst1 (lv_room (by rw [cat_sum hV]; exact h8)) hd ⟨hc, hz⟩) q go
      · cases hcl
    · cases hcl
end RC
theorem j_run (hMul : MulOK) (V : EvT) : ∀ n, RunOK V n := by
  intro n
  induction n with
  | zero => intro M pc ls st w rv w' h; cases h
  | succ n ih =>
    intro M pc ls st w rv w' h p l e R s m args below meth c Q cells slots C hlen hc hz hret
    unfold run at h
    split at h
    · cases h
    · rename_i x hx
      have hok := ok_fetch hx
      split at h
      · rename_i hcall
        split at h
        · cases h
        · rename_i as r hcl
          split at h
          · rename_i hent
            split at h
            · cases h
            · rename_i v w1 hrun
              have m1 := run_mono hrun
              have m2 := run_mono h
              have e1 : cells + (wn w1 - wn w) + (wn w' - wn w1) = cells + (wn w' - wn w) := by omega
              have e2 : slots + (wz w1 - wz w) + (wz w' - wz w1) = slots + (wz w' - wz w) := by omega
              refine j_call ih C hok hcall.1 hcall.2 (ok_nv hx hcall.1) hlen hcl hent hrun (by omega) (by omega) (ih M (pc + 3) ls (v.toList ++ r) w1 rv w' h p l e R s m args below meth c Q _ _ C hlen (by omega) (by omega) ?_)
              rw [e1, e2]
              exact hret
          · cases h
      · split at h
        · rename_i h2
          split at h
          · cases h
          · rename_i v hv
            cases h
            exact J_same rfl rfl (hret pc x ls st hx h2 hv)
        · split at h
          · cases h
          · rename_i pc' ls' st' w1 hs
            have m1 := sx_facts hs
            have m2 := run_mono h
            have e1 : cells + (wn w1 - wn w) + (wn w' - wn w1) = cells + (wn w' - wn w) := by omega
            have e2 : slots + (wz w1 - wz w) + (wz w' - wz w1) = slots + (wz w' - wz w) := by omega
            refine j_sx hMul C hok hlen hs (by omega) (by omega) (ih M pc' ls' st' w1 rv w' h p l e R s m args below meth c Q _ _ C (m1.2.trans hlen) (by omega) (by omega) ?_)
            rw [e1, e2]
            exact hret
