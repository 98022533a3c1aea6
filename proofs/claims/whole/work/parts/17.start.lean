/-! THE CLAIM OUT OF ONE WALK OF THE LAW'S BODY. Your part is whole_start (and what it stands on); all else here is the same for every law, but numbers. -/
def R_law : String := "NineWheelLaw"
def lw_P (b : Addr) (xs : List Int32) (args : Array Value) (s : State) : Prop := args = #[.ref b] ∧ s.IntsAt b xs ∧ xs.length ≤ 3072 ∧ (Jvm.Cond.and given_1 narrow_1).before args s = true
def lw_Q (_ : Array Value) (s : State) (o : Outcome) (t : State) : Prop := o = .returned (some (.int 1)) ∧ Framed s o t [] 600000 7302250
def lw_Z (below : List Frame) (a : Array Value) (s : State) : State → Prop := fun t => ∃ o, t.status = .running ∧ Ended t below o ∧ lw_Q a s o t
/-- the law's own end, with 1 on the stack, nothing written that was there before, its room as the claim has it -/
theorem lw_ret {p : Program} {l : Launch} {e : Env} {s : State} {m : MethodId} {below : List Frame} {meth : Method} {c : Code} {b : Nat} (hx : p.tables.exec = Jvm.exec) (hb : c.code = code) (hr : meth.sig.returnType = ret) (hlocks : meth.locks = false) {pc : Nat} {H : Heap} {ls : Array Slot} (hdg : decode code pc = .ok (.ireturn, 1)) : W p l e room_1 s m #[Value.ref b] below meth c H [] 600000 7302250 (lw_Z below #[Value.ref b] s) (F0 m pc ls [.int 1]) := by
  intro T hT X
  obtain ⟨fs, hret, hrun, hended, hW, hframe⟩ := X.leave (v := some (.int 1)) (hlocks := hlocks) (fun h => by rw [hr] at h; cases h)
  have hmeth' : T.vm.method? m = some meth := X.method'
  refine ⟨T.setFrames fs, ?_, .returned (some (.int 1)), hrun, hended, rfl, ⟨_, rfl⟩, hW, hframe⟩
  jvm_step X.here [X.here.top, hx, hb, hdg, hmeth', hr, ret, narrow_b1]
  (try refine ⟨rfl, ?_⟩); (try refine ⟨rfl, ?_⟩)
  first | (intro acts; rw [hret _ acts rfl rfl rfl]) | rw [hret _ _ rfl rfl rfl]
  exact Steps.refl _
/-- what holds at the law's entry: the machine, the code, the tables' words (any of lw_tbl by 'hts w (by decide +kernel)'), the script of L ints xs at the cell b, what the Statement gives of the start (any of its parts by flat_of_before) -/
def lw_At (p : Program) (s : State) (m : MethodId) (meth : Method) (c : Code) (b L : Nat) (xs : Nat → Int32) : Prop :=
  p.tables.exec = Jvm.exec ∧ c.code = code ∧ meth.sig.returnType = ret ∧ c.maxLocals = 4 ∧ s.vm.findClass R_law = some m.cls ∧ (∀ w ∈ lw_tbl, w.before #[Value.ref b] s = true) ∧ va_X b L xs s s.heap ∧ b < s.heap.size ∧ meth.locks = false ∧ (Jvm.Cond.and given_1 narrow_1).before #[Value.ref b] s = true
/-! THE LAW'S START: what stands still, the empty world -/
def W0 : Wd := (0, 0, fun _ => none, fun _ _ => 0, fun _ _ => 0, fun _ _ => none)
def narL : List Jvm.Cond := flatC (Jvm.Cond.and given_1 narrow_1)
def stmK (i : Nat) : Term := match strW[i]? with
  | some q => .string q.1 q.2.1
  | none => .arg 0
def txL : List Nat := stx.map List.length
theorem st_len : ∀ i, i < 16 → txL.getD i 0 < 2 ^ 31 ∧ txL.getD i 0 = (stx.getD i []).length := by decide +kernel
theorem st_ex : ∀ i, i < 16 → Cond.exactly (stmK i) "java/lang/String" ∈ narL := by decide +kernel
theorem st_co : ∀ i, i < 16 → Cond.eq (.field (stmK i) "java/lang/String" "coder" "B") (.int 0) ∈ narL := by decide +kernel
theorem st_ar : ∀ i, i < 16 → Cond.arrayOf (.field (stmK i) "java/lang/String" "value" "[B") .byte ∈ narL := by decide +kernel
theorem st_le : ∀ i, i < 16 → Cond.eq (.length (.field (stmK i) "java/lang/String" "value" "[B")) (.int (Int32.ofNat (txL.getD i 0))) ∈ narL := by decide +kernel
theorem st_el : ∀ i, i < 16 → ∀ j, j < txL.getD i 0 → Cond.eq (.elem (.field (stmK i) "java/lang/String" "value" "[B") (.int (Int32.ofNat j))) (.int ((stx.getD i []).getD j 0)) ∈ narL := by decide +kernel
theorem st_ne1 : ∀ i, i < 1 → Cond.not (Cond.eq (stmK i) (stmK 1)) ∈ narL := by decide +kernel
theorem st_ne2 : ∀ i, i < 2 → Cond.not (Cond.eq (stmK i) (stmK 2)) ∈ narL := by decide +kernel
theorem st_ne3 : ∀ i, i < 3 → Cond.not (Cond.eq (stmK i) (stmK 3)) ∈ narL := by decide +kernel
theorem st_ne4 : ∀ i, i < 4 → Cond.not (Cond.eq (stmK i) (stmK 4)) ∈ narL := by decide +kernel
theorem st_ne5 : ∀ i, i < 5 → Cond.not (Cond.eq (stmK i) (stmK 5)) ∈ narL := by decide +kernel
theorem st_ne6 : ∀ i, i < 6 → Cond.not (Cond.eq (stmK i) (stmK 6)) ∈ narL := by decide +kernel
theorem st_ne7 : ∀ i, i < 7 → Cond.not (Cond.eq (stmK i) (stmK 7)) ∈ narL := by decide +kernel
theorem st_ne8 : ∀ i, i < 8 → Cond.not (Cond.eq (stmK i) (stmK 8)) ∈ narL := by decide +kernel
theorem st_ne9 : ∀ i, i < 9 → Cond.not (Cond.eq (stmK i) (stmK 9)) ∈ narL := by decide +kernel
theorem st_ne10 : ∀ i, i < 10 → Cond.not (Cond.eq (stmK i) (stmK 10)) ∈ narL := by decide +kernel
theorem st_ne11 : ∀ i, i < 11 → Cond.not (Cond.eq (stmK i) (stmK 11)) ∈ narL := by decide +kernel
theorem st_ne12 : ∀ i, i < 12 → Cond.not (Cond.eq (stmK i) (stmK 12)) ∈ narL := by decide +kernel
theorem st_ne13 : ∀ i, i < 13 → Cond.not (Cond.eq (stmK i) (stmK 13)) ∈ narL := by decide +kernel
theorem st_ne14 : ∀ i, i < 14 → Cond.not (Cond.eq (stmK i) (stmK 14)) ∈ narL := by decide +kernel
theorem st_ne15 : ∀ i, i < 15 → Cond.not (Cond.eq (stmK i) (stmK 15)) ∈ narL := by decide +kernel
theorem st_ne : ∀ j, j < 16 → ∀ i, i < j → Cond.not (Cond.eq (stmK i) (stmK j)) ∈ narL := by
  intro j hj
  match j, hj with
  | 0, _ => exact fun i h => absurd h (Nat.not_lt_zero i)
  | 1, _ => exact st_ne1
  | 2, _ => exact st_ne2
  | 3, _ => exact st_ne3
  | 4, _ => exact st_ne4
  | 5, _ => exact st_ne5
  | 6, _ => exact st_ne6
  | 7, _ => exact st_ne7
  | 8, _ => exact st_ne8
  | 9, _ => exact st_ne9
  | 10, _ => exact st_ne10
  | 11, _ => exact st_ne11
  | 12, _ => exact st_ne12
  | 13, _ => exact st_ne13
  | 14, _ => exact st_ne14
  | 15, _ => exact st_ne15
  | j + 16, h => exact absurd h (by omega)
theorem st_rf : ∀ q ∈ strW, Cond.stringRef q.1 q.2.1 q.2.2 ∈ lw_tbl := by decide +kernel
theorem st_u : ∀ i, i < 16 → (UInt32.ofNat (16 + i)).toNat = 16 + i := by decide +kernel
def tbN (g : Nat) : Nat × List Int32 := match g with
  | 0 => (3, [0, -1, 1])
  | 1 => (8, [-1, -1, 0, 1, 1, 1, 0, -1])
  | _ => (8, [0, 1, 1, 1, 0, -1, -1, -1])
def tmS (g : Nat) : Term := .static (stN g).1 (stN g).2.1 (stN g).2.2
theorem tb_ar : ∀ g, g < 3 → Cond.arrayOf (tmS g) .int ∈ narL := by decide +kernel
theorem tb_le : ∀ g, g < 3 → (tbN g).1 < 2 ^ 31 ∧ Cond.eq (.length (tmS g)) (.int (Int32.ofNat (tbN g).1)) ∈ narL := by decide +kernel
theorem tb_el : ∀ g, g < 3 → ∀ j, j < (tbN g).1 → Cond.eq (.elem (tmS g) (.int (Int32.ofNat j))) (.int (tabL (tbN g).2 j)) ∈ narL := by decide +kernel
theorem stLsOK : ∀ g, g < 5 → Cond.laysStatic (stN g).1 (stN g).2.1 (stN g).2.2 ∈ lw_tbl ∧ Cond.initialized (stN g).1 ∈ lw_tbl := by
  intro g hg
  match g, hg with
  | 0, _ => exact ⟨List.mem_append_right _ (tb_mem (p := 770) (by decide +kernel)), List.mem_append_right _ (tb_mem (p := 1) (by decide +kernel))⟩
  | 1, _ => exact ⟨List.mem_append_right _ (tb_mem (p := 729) (by decide +kernel)), List.mem_append_right _ (tb_mem (p := 1) (by decide +kernel))⟩
  | 2, _ => exact ⟨List.mem_append_right _ (tb_mem (p := 731) (by decide +kernel)), List.mem_append_right _ (tb_mem (p := 1) (by decide +kernel))⟩
  | 3, _ => exact ⟨List.mem_append_right _ (tb_mem (p := 471) (by decide +kernel)), List.mem_append_right _ (tb_mem (p := 13) (by decide +kernel))⟩
  | 4, _ => exact ⟨List.mem_append_right _ (tb_mem (p := 487) (by decide +kernel)), List.mem_append_right _ (tb_mem (p := 15) (by decide +kernel))⟩
  | g + 5, h => exact absurd h (by omega)
def sgm (tt : Nat → Nat) (b : Nat) (sf : Value) (adK adV : Nat → Nat) (u : UInt32) : Value := if u.toNat < 3 then .ref (tt u.toNat) else if u.toNat = 3 then .ref b else if u.toNat = 4 then sf else if 16 ≤ u.toNat ∧ u.toNat < 32 then .ref (adK (u.toNat - 16)) else if 64 ≤ u.toNat ∧ u.toNat < 80 then .ref (adV (u.toNat - 64)) else .null
section SG
variable {tt : Nat → Nat} {b : Nat} {sf : Value} {adK adV : Nat → Nat} {u : UInt32}
theorem sgm_t (h : u.toNat < 3) : sgm tt b sf adK adV u = .ref (tt u.toNat) := if_pos h
theorem sgm_b (h : u.toNat = 3) : sgm tt b sf adK adV u = .ref b := by
  unfold sgm
  rw [if_neg (by omega), if_pos h]
theorem sgm_k (h : 16 ≤ u.toNat ∧ u.toNat < 32) : sgm tt b sf adK adV u = .ref (adK (u.toNat - 16)) := by
  unfold sgm
  rw [if_neg (by omega), if_neg (by omega), if_neg (by omega), if_pos h]
theorem sgm_v (h : 64 ≤ u.toNat ∧ u.toNat < 80) : sgm tt b sf adK adV u = .ref (adV (u.toNat - 64)) := by
  unfold sgm
  rw [if_neg (by omega), if_neg (by omega), if_neg (by omega), if_neg (by omega), if_pos h]
theorem sgm_r (h : sf.isRef = true) : sgm tt b sf adK adV u = .null ∨ ∃ a, sgm tt b sf adK adV u = .ref a := by
  unfold sgm
  split
  · exact Or.inr ⟨_, rfl⟩
  · split
    · exact Or.inr ⟨_, rfl⟩
    · split
      · cases sf with
        | ref a => exact Or.inr ⟨_, rfl⟩
        | null => exact Or.inl rfl
        | _ => cases h
      · split
        · exact Or.inr ⟨_, rfl⟩
        · split
          · exact Or.inr ⟨_, rfl⟩
          · exact Or.inl rfl
end SG
set_option maxHeartbeats 4000000 in
theorem law_env {s : State} {b L : Nat} {xs : Nat → Int32} (hts : ∀ w ∈ lw_tbl, w.before #[Value.ref b] s = true) (hX : va_X b L xs s s.heap) (hbl : b < s.heap.size) (hgv : (Jvm.Cond.and given_1 narrow_1).before #[Value.ref b] s = true) :
    ∃ V : EvT, eb V = s.heap.size ∧ eX V = (L, xs) ∧ eS V 3 = .ref b ∧ EnvP V s := by
  have hs : ∀ c ∈ narL, c.before #[Value.ref b] s = true := flat_of_before _ hgv
  have hA : ∀ a : Nat, a < s.heap.size → ¬ (fun q : Nat => s.heap.size ≤ q) a := fun a h => Nat.not_le.mpr h
  obtain ⟨adK, adV, hSt, hTe⟩ := vk_Sof (s := s) (args := #[Value.ref b]) (N := 16) (tm := stmK) (len := txL) (byt := stx) (A := fun q : Nat => s.heap.size ≤ q) (fun i hi => (st_len i hi).1) (fun i hi => hs _ (st_ex i hi)) (fun i hi => hs _ (st_co i hi)) (fun i hi => hs _ (st_ar i hi)) (fun i hi => hs _ (st_le i hi)) (fun i hi j hj => hs _ (st_el i hi j hj)) (fun i j hi hj hij => (Nat.lt_or_gt_of_ne hij).elim (fun q => Or.inl (hs _ (st_ne j hj i q))) (fun q => Or.inr (hs _ (st_ne i hi j q)))) hA
  have hT : ∀ g : Nat, ∃ t : Nat, g < 3 → (tmS g).eval #[Value.ref b] s none [] s = some (.ref t) ∧ va_T .int t (tbN g).1 (fun j => .int (tabL (tbN g).2 j)) (fun q : Nat => s.heap.size ≤ q) s s.heap := by
    intro g
    by_cases hg : g < 3
    · obtain ⟨t, h1, h2⟩ := va_Tof (s := s) (args := #[Value.ref b]) (tm := tmS g) (ty := .int) (N := (tbN g).1) (f := fun j => .int (tabL (tbN g).2 j)) (A := fun q : Nat => s.heap.size ≤ q) (tb_le g hg).1 (hs _ (tb_ar g hg)) (va_eqt (hs _ (tb_le g hg).2)) (fun j hj => va_eqt (hs _ (tb_el g hg j hj))) hA
      exact ⟨t, fun _ => ⟨h1, h2⟩⟩
    · exact ⟨0, fun h => absurd h hg⟩
  obtain ⟨tt, htt⟩ := Classical.axiomOfChoice hT
  obtain ⟨sf, hsf1, hsf2⟩ := Cond.isRef_spec (hs (.isRef (tmS 4)) (by decide +kernel))
  have htw : ∀ w ∈ wG, w.before #[Value.ref b] s = true := fun w hw => hts w (List.mem_filter.mp hw).1
  have hK : ∀ ci : Nat, ∃ q : ClassId × (Nat → Nat), ci < 12 → u_Kn s (clR ci) (clT ci) (NF ci) q.1 q.2 := by
    intro ci
    by_cases hc : ci < 12
    · obtain ⟨c, i, h⟩ := u_known (n := NF ci) htw (cl_in ci hc) (htw _ (cl_inst ci hc).1)
      exact ⟨(c, i), fun _ => h⟩
    · exact ⟨(0, fun _ => 0), fun h => absurd h hc⟩
  obtain ⟨dK, hdK⟩ := Classical.axiomOfChoice hK
  have ac : ∀ ty : FieldType, Cond.arrayClass ty ∈ lw_tbl → (∀ C, ty ≠ .object C) → ∃ cA, ArrOfT s cA ty ∧ va_RA s cA ty := by
    intro ty hm hne
    obtain ⟨c, k, comp, h1, h2, h3⟩ := Cond.arrayClass_spec (hts _ hm)
    refine ⟨c, fun n z => ⟨fun k h => (by cases h), k, h2, comp, h3⟩, ?_⟩
    cases ty <;> first | exact h1 | exact absurd rfl (hne _)
  have ao : ∀ C : String, Cond.arrayOver (.object C) ∈ lw_tbl → ∃ cA, ArrOfT s cA (.object C) ∧ va_RA s cA (.object C) := by
    intro C hm
    obtain ⟨comp, c, k, h1, _, h3, h4, h5⟩ := Cond.arrayOver_spec (hts _ hm)
    exact ⟨c, fun n z => ⟨fun k h => (by cases h), k, h3, comp, h4⟩, k, comp, h3, h4, h1, h5⟩
  have aa : ∃ cA, ArrOfT s cA (.array .int) ∧ va_RA s cA (.array .int) := by
    obtain ⟨comp, c, k, h1, _, h3, h4, h5⟩ := arrayOverA_spec (hts (.arrayOver (.array .int)) (by decide +kernel))
    exact ⟨c, fun n z => ⟨fun k h => (by cases h), k, h3, comp, h4⟩, h5⟩
  obtain ⟨c20, a20⟩ := ac .int (by decide +kernel) (fun C h => by cases h)
  obtain ⟨c21, a21⟩ := ac .byte (by decide +kernel) (fun C h => by cases h)
  obtain ⟨c22, a22⟩ := ac .boolean (by decide +kernel) (fun C h => by cases h)
  obtain ⟨c23, a23⟩ := ac .long (by decide +kernel) (fun C h => by cases h)
  obtain ⟨c24, a24⟩ := ao "NineWheel$Rule" (by decide +kernel)
  obtain ⟨c25, a25⟩ := ao "NineWheel$Held" (by decide +kernel)
  obtain ⟨c26, a26⟩ := aa
  have t1 : ∀ u : UInt32, u.toNat < 3 → sgm tt b sf adK adV u = .ref (tt u.toNat) := fun u h => sgm_t h
  have b1 : ∀ u : UInt32, u.toNat = 3 → sgm tt b sf adK adV u = .ref b := fun u h => sgm_b h
  have k1 : ∀ u : UInt32, 16 ≤ u.toNat ∧ u.toNat < 32 → sgm tt b sf adK adV u = .ref (adK (u.toNat - 16)) := fun u h => sgm_k h
  have v1 : ∀ u : UInt32, 64 ≤ u.toNat ∧ u.toNat < 80 → sgm tt b sf adK adV u = .ref (adV (u.toNat - 64)) := fun u h => sgm_v h
  have r1 : ∀ u : UInt32, sgm tt b sf adK adV u = .null ∨ ∃ a, sgm tt b sf adK adV u = .ref a := fun u => sgm_r hsf2
  refine ⟨(s.heap.size, (fun ci => (dK ci).1, fun ci => (dK ci).2), (fun k => match k with | 20 => c20 | 21 => c21 | 22 => c22 | 23 => c23 | 24 => c24 | 25 => c25 | _ => c26), sgm tt b sf adK adV, (L, xs)), rfl, rfl, b1 3 rfl, ?_⟩
  refine ⟨⟨fun c q hq => ?_, fun k q hk => ?_⟩, fun w hw hn => ?_, fun u n f e => ?_, fun u n f e => ?_, fun g v e => ?_, fun i q e => ?_, fun u g1 g2 => ?_, va_AO.of (hts _ (by decide +kernel)), ⟨va_AO.of (hts _ (by decide +kernel)), hts (.arrayOver (.array .int)) (by decide +kernel)⟩, r1⟩
  · have hc : c < 12 := (List.getElem?_eq_some_iff.mp hq).1
    rw [cl_at c hc] at hq
    cases hq
    exact hdK c hc
  · match k, hk with
    | 0, hk => cases hk; exact a20
    | 1, hk => cases hk; exact a21
    | 2, hk => cases hk; exact a22
    | 3, hk => cases hk; exact a23
    | 4, hk => cases hk; exact a24
    | 5, hk => cases hk; exact a25
    | 6, hk => cases hk; exact a26
    | k + 7, hk => cases hk
  · exact va_tabs (by cases w <;> first | rfl | cases hn) rfl (hts w (List.mem_append_right _ hw))
  · unfold tabN at e
    split at e
    · rename_i h
      cases e
      exact ⟨tt u.toNat, t1 u (by omega), by rw [h]; exact (htt 0 (by decide)).2⟩
    · split at e
      · rename_i h
        cases e
        exact ⟨tt u.toNat, t1 u (by omega), by rw [h]; exact (htt 1 (by decide)).2⟩
      · split at e
        · rename_i h
          cases e
          exact ⟨tt u.toNat, t1 u (by omega), by rw [h]; exact (htt 2 (by decide)).2⟩
        · split at e
          · rename_i h
            cases e
            refine ⟨b, b1 u h, ?_⟩
            obtain ⟨scr, h1, h2, h3, h4, h5⟩ := hX
            exact ⟨scr, h1, h2, h3, by rw [h4]; exact Nat.le_refl _, by rw [h4], h5, hA b hbl⟩
          · cases e
  · unfold tabS at e
    split at e
    · rename_i h
      cases e
      have hi : u.toNat - 64 < 16 := by omega
      refine ⟨adV (u.toNat - 64), v1 u h, ?_⟩
      rw [← (st_len _ hi).2]
      exact (hSt.1 _ hi).2.2.2
    · cases e
  · unfold statV at e
    split at e
    · rename_i h
      cases e
      have h3 : g = 0 ∨ g = 1 ∨ g = 2 := by omega
      rcases h3 with rfl | rfl | rfl
      · exact va_Zof (hts _ (stLsOK 0 (by decide)).1) (hts _ (stLsOK 0 (by decide)).2) (htt 0 (by decide)).1 hA
      · exact va_Zof (hts _ (stLsOK 1 (by decide)).1) (hts _ (stLsOK 1 (by decide)).2) (htt 1 (by decide)).1 hA
      · exact va_Zof (hts _ (stLsOK 2 (by decide)).1) (hts _ (stLsOK 2 (by decide)).2) (htt 2 (by decide)).1 hA
    · split at e
      · rename_i h
        cases e
        subst h
        exact va_Zof (hts _ (stLsOK 3 (by decide)).1) (hts _ (stLsOK 3 (by decide)).2) (va_eqt (hs (.eq (tmS 3) (.int 1)) (by decide +kernel))) hA
      · split at e
        · rename_i h
          cases e
          subst h
          exact va_Zof (hts _ (stLsOK 4 (by decide)).1) (hts _ (stLsOK 4 (by decide)).2) hsf1 hA
        · cases e
  · have hi : i < 16 := (List.getElem?_eq_some_iff.mp e).1
    have hu := st_u i hi
    refine ⟨adK i, (k1 (UInt32.ofNat (16 + i)) (by omega)).trans (by rw [hu, Nat.add_sub_cancel_left]), vk_R.of (hts _ (st_rf q (List.mem_of_getElem? e))) ?_⟩
    have h := hTe i hi
    unfold stmK at h
    rw [e] at h
    exact h
  · have hi : u.toNat - 16 < 16 := by omega
    have hu : (u + 48).toNat = u.toNat + 48 := by
      rw [UInt32.toNat_add]
      show (u.toNat + 48) % 2 ^ 32 = _
      omega
    obtain ⟨q1, q2, q3, -⟩ := hSt.1 _ hi
    refine ⟨adK (u.toNat - 16), k1 u ⟨g1, g2⟩, q1, q2, ?_⟩
    have h48 : sgm tt b sf adK adV (u + 48) = .ref (adV (u.toNat - 16)) := by
      rw [v1 (u + 48) (by omega), hu, show u.toNat + 48 - 64 = u.toNat - 16 by omega]
    show va_OF "java/lang/String" "value" "[B" (sgm tt b sf adK adV (u + 48)) _ _ s s.heap
    rw [h48]
    exact q3
theorem rtv_law {st : List Value} {a b : Nat} {z : Int} {q : Nat} (hv : rtv 272 (.ireturn, a, b, z, q) st = some (some (.int 1))) : st = [.int 1] := by
  match st, hv with
  | [.int v], hv =>
    have h1 : (if v = 0 ∨ v = 1 then some (some (Value.int v)) else none) = some (some (.int 1)) := hv
    split at h1
    · cases h1; rfl
    · cases h1
theorem rtv_law2 {st : List Value} {a b : Nat} {z : Int} {q : Nat} (hv : rtv 272 (.lreturn, a, b, z, q) st = some (some (.int 1))) : False := by
  match st, hv with
  | [.long v], hv =>
    have h1 : (if pRt 272 = some .long then some (some (Value.long v)) else none) = some (some (.int 1)) := hv
    split at h1
    · cases h1
    · cases h1
theorem rtv_law3 {st : List Value} {a b : Nat} {z : Int} {q : Nat} (hv : rtv 272 (.return_, a, b, z, q) st = some (some (.int 1))) : False := by
  match st, hv with
  | [], hv =>
    have h1 : (if pRt 272 = none then some none else none) = some (some (Value.int 1)) := hv
    split at h1
    · cases h1
    · cases h1
set_option maxHeartbeats 4000000 in
/-- the law comes to its end with true, if the evaluator says 1 -/
theorem law_start (hMul : MulOK) {p : Program} {e : Env} {s : State} {m : MethodId} {below : List Frame} {meth : Method} {c : Code} (l : Launch) {b L : Nat} {xs : Nat → Int32} (C0 : lw_At p s m meth c b L xs) {w1 : Wd} (hrn : Rn (L, xs) 272 0 [some (.float 3), none, none, none] [] W0 (some (.int 1), w1)) (hn : wn w1 ≤ 600000) (hz : wz w1 ≤ 7302250) :
    W p l e room_1 s m #[Value.ref b] below meth c s.heap [] 0 0 (lw_Z below #[Value.ref b] s) (entryFrame m ([Value.ref b] : List Value).toArray 4) := by
  obtain ⟨hx, hb, hr, hml, hown, hts, hX, hbl, hlocks, hgv⟩ := C0
  obtain ⟨V, hVb, hVX, hV3, hE⟩ := law_env hts hX hbl hgv
  obtain ⟨n, hrun⟩ := hrn
  rw [← hVX] at hrun
  have htw : ∀ w ∈ wG, w.before #[Value.ref b] s = true := fun w hw => hts w (List.mem_filter.mp hw).1
  have C : CX V 272 p room_1 s m #[Value.ref b] meth c := ⟨hx, hb, hml, hown, htw, hE, fun h => absurd h (by decide +kernel), by decide +kernel, by decide +kernel, by rw [hVb]; exact Nat.le_refl _⟩
  have hH : HR V W0 s.heap := ⟨by rw [hVb]; rfl, fun k kd n e => by cases e⟩
  have hLS := ent_LH (V := V) hE.2.2.2.2.2.2.2.2.2 (M := 272) (vs := [.float 3]) (Nat.le_of_ble_eq_true rfl)
  have hcv : ([Value.float 3].map (cv V)) = [Value.ref b] := by
    show [eS V 3] = _
    rw [hV3]
  rw [hcv] at hLS
  rw [lg_entry_eq]
  refine j_run hMul V n 272 0 [some (.float 3), none, none, none] [] W0 (some (.int 1)) w1 hrun p l e room_1 s m #[Value.ref b] below meth c (lw_Z below #[Value.ref b] s) 0 0 C rfl (by show 0 + (wn w1 - 0) ≤ 600000; omega) (by show 0 + (wz w1 - 0) ≤ 7302250; omega) ?_ _ s.heap [] hLS hH va_S.rf
  intro pc x ls st hf h2 hv LS H locs _ _ hS
  have hd := okX_d (ok_fetch hf)
  obtain ⟨i, a1, b1, z, pp⟩ := x
  cases i <;> first | (exfalso; cases h2; done) | skip
  case ireturn =>
    have hst : st = [.int 1] := rtv_law hv
    subst hst
    refine va_forget (fun q hq => ?_) ?_
    · have := hS.2.2 q hq
      have h3 : eb V ≤ q.base := this
      rw [hVb] at h3
      exact h3
    · exact W.widen (k := 600000) (n := 7302250) (by show 0 + (wn w1 - 0) ≤ 600000; omega) (by show 0 + (wz w1 - 0) ≤ 7302250; omega) (lw_ret hx hb hr hlocks hd)
  case lreturn => exact (rtv_law2 hv).elim
  case return_ => exact (rtv_law3 hv).elim
