/-! THE START: both alike -/
def sta_ls (w : Wd) : List Int32 := (List.range 64).map (wI w 68) ++ (List.range 64).map (wI w 14) ++ (List.range 6).map (wI w 35)
def sta_sc (w : Wd) : List Int32 := [wI w 67 6, wI w 67 0, wI w 67 1, wI w 67 3, wI w 67 4, wI w 67 5, wI w 67 15, wI w 67 16, wI w 67 37, wI w 67 56, wI w 67 60, wI w 94 0, wI w 94 1, wI w 67 34, wI w 47 2, wI w 3 0, wI w 3 1, wI w 3 3, wI w 3 4, wI w 3 5, wI w 3 6, wI w 3 7, wI w 0 6, wI w 1 1, wI w 1 5, wI w 34 3, wI w 34 4, wI w 39 5, wI w 43 5]
theorem sta_lsE : sta_ls nw_w1 = List.replicate 134 0 := nw_fact sta_ls (by decide +kernel)
theorem sta_scE : sta_sc nw_w1 = [0, 0, 4, -1, -1, 0, 0, -1, 0, 0, 0, 0, 0, 0, 0, 0, 4, 0, 0, 0, 0, 0, 0, 0, -1, 0, 0, 0, 0] := nw_fact sta_sc (by decide +kernel)
theorem sta_at {k : Nat} {v : Int32} (h : (sta_sc nw_w1)[k]? = some v) : [0, 0, 4, -1, -1, 0, 0, -1, 0, 0, 0, 0, 0, 0, 0, 0, 4, 0, 0, 0, 0, 0, 0, 0, -1, 0, 0, 0, 0][k]? = some v := by
  rw [← sta_scE]
  exact h
theorem sta_v {k : Nat} {v u : Int32} (h : (sta_sc nw_w1)[k]? = some v) (h2 : [0, 0, 4, -1, -1, 0, 0, -1, 0, 0, 0, 0, 0, 0, 0, 0, 4, 0, 0, 0, 0, 0, 0, 0, -1, 0, 0, 0, 0][k]? = some u) : v = u := Option.some.inj ((sta_at h).symm.trans h2)
theorem sta_r {k : Nat} {v : Int32} (hk : k < 134) (h : (sta_ls nw_w1)[k]? = some v) : v = 0 := by
  rw [sta_lsE, List.getElem?_replicate, if_pos hk] at h
  exact (Option.some.inj h).symm
theorem sta_rock {c : Nat} (hc : c < 64) : wI nw_w1 68 c = 0 := sta_r (k := c) (by omega) (by
  unfold sta_ls
  rw [List.getElem?_append_left (by simp; omega), List.getElem?_append_left (by simp; omega), List.getElem?_map, List.getElem?_range hc]
  rfl)
theorem sta_rockx {c : Nat} (hc : c < 64) : wI nw_w1 14 c = 0 := sta_r (k := 64 + c) (by omega) (by
  unfold sta_ls
  rw [List.getElem?_append_left (by simp; omega), List.getElem?_append_right (by simp), List.length_map, List.length_range, Nat.add_sub_cancel_left, List.getElem?_map, List.getElem?_range hc]
  rfl)
theorem sta_way {s : Nat} (hs : s < 6) : wI nw_w1 35 s = 0 := sta_r (k := 128 + s) (by omega) (by
  unfold sta_ls
  rw [List.getElem?_append_right (by simp), List.length_append, List.length_map, List.length_map, List.length_range, show 128 + s - (64 + 64) = s by omega, List.getElem?_map, List.getElem?_range hs]
  rfl)
theorem inv_start : INV (wI nw_w1) (wI nw_w1) := by
  have v0 : wI nw_w1 67 6 = 0 := sta_v (k := 0) rfl rfl
  have v1 : wI nw_w1 67 0 = 0 := sta_v (k := 1) rfl rfl
  have v2 : wI nw_w1 67 1 = 4 := sta_v (k := 2) rfl rfl
  have v3 : wI nw_w1 67 3 = -1 := sta_v (k := 3) rfl rfl
  have v4 : wI nw_w1 67 4 = -1 := sta_v (k := 4) rfl rfl
  have v5 : wI nw_w1 67 5 = 0 := sta_v (k := 5) rfl rfl
  have v6 : wI nw_w1 67 15 = 0 := sta_v (k := 6) rfl rfl
  have v7 : wI nw_w1 67 16 = -1 := sta_v (k := 7) rfl rfl
  have v8 : wI nw_w1 67 37 = 0 := sta_v (k := 8) rfl rfl
  have v9 : wI nw_w1 67 56 = 0 := sta_v (k := 9) rfl rfl
  have v10 : wI nw_w1 67 60 = 0 := sta_v (k := 10) rfl rfl
  have v11 : wI nw_w1 94 0 = 0 := sta_v (k := 11) rfl rfl
  have v12 : wI nw_w1 94 1 = 0 := sta_v (k := 12) rfl rfl
  have v13 : wI nw_w1 67 34 = 0 := sta_v (k := 13) rfl rfl
  have v14 : wI nw_w1 47 2 = 0 := sta_v (k := 14) rfl rfl
  have v15 : wI nw_w1 3 0 = 0 := sta_v (k := 15) rfl rfl
  have v16 : wI nw_w1 3 1 = 4 := sta_v (k := 16) rfl rfl
  have v17 : wI nw_w1 3 3 = 0 := sta_v (k := 17) rfl rfl
  have v18 : wI nw_w1 3 4 = 0 := sta_v (k := 18) rfl rfl
  have v19 : wI nw_w1 3 5 = 0 := sta_v (k := 19) rfl rfl
  have v20 : wI nw_w1 3 6 = 0 := sta_v (k := 20) rfl rfl
  have v21 : wI nw_w1 3 7 = 0 := sta_v (k := 21) rfl rfl
  have v22 : wI nw_w1 0 6 = 0 := sta_v (k := 22) rfl rfl
  have v23 : wI nw_w1 1 1 = 0 := sta_v (k := 23) rfl rfl
  have v24 : wI nw_w1 1 5 = -1 := sta_v (k := 24) rfl rfl
  have v25 : wI nw_w1 34 3 = 0 := sta_v (k := 25) rfl rfl
  have v26 : wI nw_w1 34 4 = 0 := sta_v (k := 26) rfl rfl
  have v27 : wI nw_w1 39 5 = 0 := sta_v (k := 27) rfl rfl
  have v28 : wI nw_w1 43 5 = 0 := sta_v (k := 28) rfl rfl
  have rk := @sta_rock
  have rx := @sta_rockx
  have wy := @sta_way
  generalize wI nw_w1 = I at *
  have z0 : (0 : Int32) = nI 0 := by decide +kernel
  have z4 : (4 : Int32) = nI 4 := by decide +kernel
  have c0 : (0 : Int32).toNatClampNeg = 0 := by decide +kernel
  have c4 : (4 : Int32).toNatClampNeg = 4 := by decide +kernel
  have cm : (-1 : Int32).toNatClampNeg = 0 := by decide +kernel
  have ns : nsN I = 0 := by unfold nsN; rw [v0, c0]
  have sh : shN I = 0 := by unfold shN; rw [v1, c0]
  have hd : hdN I = 4 := by unfold hdN; rw [v2, c4]
  have de : dEv I = 0 := by unfold dEv; rw [v4, cm]
  have lg : lagN I = 0 := by unfold lagN; rw [v5, c0]
  have tx : txN I = 0 := by unfold txN; rw [v6, c0]
  have nr : nrN I = 0 := by unfold nrN; rw [v8, c0]
  have ll : lgN I = 0 := by unfold lgN; rw [v9, c0]
  have rkN0 : ∀ c, c < 64 → rkN I c = 0 := fun c hc => by unfold rkN; rw [rk hc, c0]
  have noS : ∀ s, s < nsN I → False := fun s hs => by rw [ns] at hs; exact Nat.not_lt_zero _ hs
  refine ⟨MC.rf, ⟨⟨⟨by rw [ns, v0]; exact z0, by omega⟩, ⟨by rw [sh, v1]; exact z0, by omega⟩, ⟨by rw [hd, v2]; exact z4, by omega⟩, Or.inl ⟨v4, v3⟩, ⟨by rw [lg, v5]; exact z0, by omega⟩, fun s hs => (noS s hs).elim, fun c hc => ⟨by rw [rkN0 c hc, rk hc]; exact z0, by rw [rkN0 c hc]; decide⟩, by rw [sh]; exact rkN0 0 (by decide), fun s hs => (noS s hs).elim, fun s hs => (noS s hs).elim⟩, fun s hs => (noS s hs).elim, ⟨by rw [tx, v6]; exact z0, by omega⟩, fun i hi => ?_, ⟨by rw [nr, v8]; exact z0, by omega⟩, fun r hr => ?_, ⟨by rw [ll, v9]; exact z0, by omega⟩, ⟨0, by decide, by rw [v10]; exact z0⟩, fun i hi => Or.inl ?_⟩, Or.inl (by rw [v13]; exact z0), Or.inl (by rw [v14]; exact z0), ⟨⟨by rw [sh, v15]; exact z0, by rw [hd, v16]; exact z4, by rw [de, v17]; exact z0, fun z => absurd de z, by rw [lg, v18]; exact z0, by rw [ns, v19]; exact z0, ?_, ?_, fun s hs => (noS s hs).elim, fun s hs => (noS s hs).elim, fun s hs => (noS s hs).elim, fun s c hs => (noS s hs).elim, fun c hc => by rw [rkN0 c hc, rx hc]; exact z0⟩, ⟨fun s hs => (noS s hs).elim, fun s _ hs => by rw [wy hs]; exact z0⟩, ⟨by rw [nr, v22]; exact z0, fun r hr => ?_⟩, ⟨by rw [tx, v23]; exact z0, by rw [v24, v7], fun i hi => ?_⟩, ⟨by rw [ll, v25]; exact z0, fun i hi => ?_⟩, fun i hi => ⟨?_, fun z => ?_⟩⟩, 0, by decide, by rw [v10]; exact z0, by rw [v26]; exact z0⟩
  · rw [tx] at hi
    exact absurd hi (Nat.not_lt_zero _)
  · rw [nr] at hr
    exact absurd hr (Nat.not_lt_zero _)
  · rcases (show i = 0 ∨ i = 1 by omega) with rfl | rfl
    · rw [v11]; exact z0
    · rw [v12]; exact z0
  · unfold allN
    rw [ns, v20]
    exact z0
  · rw [v21, sumN_congr rkN0]
    decide +kernel
  · rw [nr] at hr
    exact absurd hr (Nat.not_lt_zero _)
  · rw [tx] at hi
    exact absurd hi (Nat.not_lt_zero _)
  · rw [ll] at hi
    exact absurd hi (Nat.not_lt_zero _)
  · rcases (show i = 0 ∨ i = 1 by omega) with rfl | rfl
    · rw [v11]; exact v27
    · rw [v12]; exact v28
  · rcases (show i = 0 ∨ i = 1 by omega) with rfl | rfl
    · rw [v11] at z
      exact absurd z (by decide +kernel)
    · rw [v12] at z
      exact absurd z (by decide +kernel)
