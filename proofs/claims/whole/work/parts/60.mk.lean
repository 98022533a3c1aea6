/-! THE WORLD BEHIND THE CONSTRUCTORS (by wip/tools/mkbase.py) -/
def nw_wC : Option Wd := ob (f174 (wn W0) (newC W0 10 (NF 10))) (fun p1 => ob (f109 (wn p1) (newC p1 11 (NF 11))) (fun p3 => some p3))
theorem nw_isS : nw_wC.isSome = true := by decide +kernel
theorem nw_ex : ∃ w, nw_wC = some w := Option.isSome_iff_exists.mp nw_isS
noncomputable def nw_w1 : Wd := Classical.choose nw_ex
theorem nw_wC_some : nw_wC = some nw_w1 := Classical.choose_spec nw_ex
theorem nw_fact {α : Type} (f : Wd → α) {v : α} (h : nw_wC.map f = some v) : f nw_w1 = v := by
  rw [nw_wC_some] at h
  exact Option.some.inj h
noncomputable def nwS : Nat → Option (Nat × Nat) := wsh nw_w1
noncomputable def nwR (ru : Nat) : Nat → Nat → Option Nat := u2 (wR nw_w1) 52 2 (some ru)
/-- a world of the constructed shape: its ints, its longs, the rule that is counted by -/
noncomputable def mW (I : Nat → Nat → Int32) (L : Nat → Nat → Int64) (ru : Nat) : Wd := (95, 25947, nwS, I, L, nwR ru)
theorem nw_ns : wn nw_w1 = 95 := nw_fact wn (by decide +kernel)
theorem nw_nz : wz nw_w1 = 25947 := nw_fact wz (by decide +kernel)
def nw_shl : List (Option (Nat × Nat)) := [some (10, 14), some (9, 6), some (21, 300), some (6, 13), some (20, 6), some (20, 6), some (20, 6), some (26, 6), some (20, 64), some (20, 64), some (20, 64), some (20, 64), some (20, 64), some (20, 64), some (22, 64), some (6, 13), some (20, 6), some (20, 6), some (20, 6), some (26, 6), some (20, 64), some (20, 64), some (20, 64), some (20, 64), some (20, 64), some (20, 64), some (22, 64), some (7, 3), some (24, 4), some (5, 5), some (5, 5), some (5, 5), some (5, 5), some (5, 5), some (3, 6), some (20, 6), some (20, 6), some (20, 40), some (25, 2), some (3, 6), some (20, 6), some (20, 6), some (20, 40), some (3, 6), some (20, 6), some (20, 6), some (20, 40), some (2, 7), some (20, 512), some (20, 512), some (20, 512), some (8, 7), some (0, 8), some (20, 512), some (20, 6), some (8, 7), some (4, 10), some (8, 7), some (20, 401), some (20, 400), some (1, 7), some (20, 64), some (20, 512), some (23, 512), some (20, 512), some (20, 512), some (20, 6), some (11, 63), some (22, 64), some (20, 6), some (20, 6), some (20, 384), some (20, 6), some (20, 6), some (20, 384), some (20, 6), some (20, 300), some (22, 64), some (20, 6), some (20, 6), some (20, 384), some (22, 64), some (20, 3072), some (20, 6), some (20, 20), some (20, 5), some (20, 401), some (20, 401), some (20, 401), some (20, 400), some (20, 40), some (20, 12800), some (20, 6), some (20, 120), some (22, 2)]
theorem nw_shE : (List.range 95).map nwS = nw_shl := nw_fact (fun w => (List.range 95).map (wsh w)) (by decide +kernel)
theorem nw_sh {k : Nat} (hk : k < 95) : some (nwS k) = nw_shl[k]? := by
  rw [← nw_shE, List.getElem?_map, List.getElem?_range hk]
  rfl
theorem sh_0 : nwS 0 = some (10, 14) := Option.some.inj ((nw_sh (by decide)).trans rfl)
theorem sh_1 : nwS 1 = some (9, 6) := Option.some.inj ((nw_sh (by decide)).trans rfl)
theorem sh_2 : nwS 2 = some (21, 300) := Option.some.inj ((nw_sh (by decide)).trans rfl)
theorem sh_3 : nwS 3 = some (6, 13) := Option.some.inj ((nw_sh (by decide)).trans rfl)
theorem sh_4 : nwS 4 = some (20, 6) := Option.some.inj ((nw_sh (by decide)).trans rfl)
theorem sh_5 : nwS 5 = some (20, 6) := Option.some.inj ((nw_sh (by decide)).trans rfl)
theorem sh_6 : nwS 6 = some (20, 6) := Option.some.inj ((nw_sh (by decide)).trans rfl)
theorem sh_7 : nwS 7 = some (26, 6) := Option.some.inj ((nw_sh (by decide)).trans rfl)
theorem sh_8 : nwS 8 = some (20, 64) := Option.some.inj ((nw_sh (by decide)).trans rfl)
theorem sh_9 : nwS 9 = some (20, 64) := Option.some.inj ((nw_sh (by decide)).trans rfl)
theorem sh_10 : nwS 10 = some (20, 64) := Option.some.inj ((nw_sh (by decide)).trans rfl)
theorem sh_11 : nwS 11 = some (20, 64) := Option.some.inj ((nw_sh (by decide)).trans rfl)
theorem sh_12 : nwS 12 = some (20, 64) := Option.some.inj ((nw_sh (by decide)).trans rfl)
theorem sh_13 : nwS 13 = some (20, 64) := Option.some.inj ((nw_sh (by decide)).trans rfl)
theorem sh_14 : nwS 14 = some (22, 64) := Option.some.inj ((nw_sh (by decide)).trans rfl)
theorem sh_15 : nwS 15 = some (6, 13) := Option.some.inj ((nw_sh (by decide)).trans rfl)
theorem sh_16 : nwS 16 = some (20, 6) := Option.some.inj ((nw_sh (by decide)).trans rfl)
theorem sh_17 : nwS 17 = some (20, 6) := Option.some.inj ((nw_sh (by decide)).trans rfl)
theorem sh_18 : nwS 18 = some (20, 6) := Option.some.inj ((nw_sh (by decide)).trans rfl)
theorem sh_19 : nwS 19 = some (26, 6) := Option.some.inj ((nw_sh (by decide)).trans rfl)
theorem sh_20 : nwS 20 = some (20, 64) := Option.some.inj ((nw_sh (by decide)).trans rfl)
theorem sh_21 : nwS 21 = some (20, 64) := Option.some.inj ((nw_sh (by decide)).trans rfl)
theorem sh_22 : nwS 22 = some (20, 64) := Option.some.inj ((nw_sh (by decide)).trans rfl)
theorem sh_23 : nwS 23 = some (20, 64) := Option.some.inj ((nw_sh (by decide)).trans rfl)
theorem sh_24 : nwS 24 = some (20, 64) := Option.some.inj ((nw_sh (by decide)).trans rfl)
theorem sh_25 : nwS 25 = some (20, 64) := Option.some.inj ((nw_sh (by decide)).trans rfl)
theorem sh_26 : nwS 26 = some (22, 64) := Option.some.inj ((nw_sh (by decide)).trans rfl)
theorem sh_27 : nwS 27 = some (7, 3) := Option.some.inj ((nw_sh (by decide)).trans rfl)
theorem sh_28 : nwS 28 = some (24, 4) := Option.some.inj ((nw_sh (by decide)).trans rfl)
theorem sh_29 : nwS 29 = some (5, 5) := Option.some.inj ((nw_sh (by decide)).trans rfl)
theorem sh_30 : nwS 30 = some (5, 5) := Option.some.inj ((nw_sh (by decide)).trans rfl)
theorem sh_31 : nwS 31 = some (5, 5) := Option.some.inj ((nw_sh (by decide)).trans rfl)
theorem sh_32 : nwS 32 = some (5, 5) := Option.some.inj ((nw_sh (by decide)).trans rfl)
theorem sh_33 : nwS 33 = some (5, 5) := Option.some.inj ((nw_sh (by decide)).trans rfl)
theorem sh_34 : nwS 34 = some (3, 6) := Option.some.inj ((nw_sh (by decide)).trans rfl)
theorem sh_35 : nwS 35 = some (20, 6) := Option.some.inj ((nw_sh (by decide)).trans rfl)
theorem sh_36 : nwS 36 = some (20, 6) := Option.some.inj ((nw_sh (by decide)).trans rfl)
theorem sh_37 : nwS 37 = some (20, 40) := Option.some.inj ((nw_sh (by decide)).trans rfl)
theorem sh_38 : nwS 38 = some (25, 2) := Option.some.inj ((nw_sh (by decide)).trans rfl)
theorem sh_39 : nwS 39 = some (3, 6) := Option.some.inj ((nw_sh (by decide)).trans rfl)
theorem sh_40 : nwS 40 = some (20, 6) := Option.some.inj ((nw_sh (by decide)).trans rfl)
theorem sh_41 : nwS 41 = some (20, 6) := Option.some.inj ((nw_sh (by decide)).trans rfl)
theorem sh_42 : nwS 42 = some (20, 40) := Option.some.inj ((nw_sh (by decide)).trans rfl)
theorem sh_43 : nwS 43 = some (3, 6) := Option.some.inj ((nw_sh (by decide)).trans rfl)
theorem sh_44 : nwS 44 = some (20, 6) := Option.some.inj ((nw_sh (by decide)).trans rfl)
theorem sh_45 : nwS 45 = some (20, 6) := Option.some.inj ((nw_sh (by decide)).trans rfl)
theorem sh_46 : nwS 46 = some (20, 40) := Option.some.inj ((nw_sh (by decide)).trans rfl)
theorem sh_47 : nwS 47 = some (2, 7) := Option.some.inj ((nw_sh (by decide)).trans rfl)
theorem sh_48 : nwS 48 = some (20, 512) := Option.some.inj ((nw_sh (by decide)).trans rfl)
theorem sh_49 : nwS 49 = some (20, 512) := Option.some.inj ((nw_sh (by decide)).trans rfl)
theorem sh_50 : nwS 50 = some (20, 512) := Option.some.inj ((nw_sh (by decide)).trans rfl)
theorem sh_51 : nwS 51 = some (8, 7) := Option.some.inj ((nw_sh (by decide)).trans rfl)
theorem sh_52 : nwS 52 = some (0, 8) := Option.some.inj ((nw_sh (by decide)).trans rfl)
theorem sh_53 : nwS 53 = some (20, 512) := Option.some.inj ((nw_sh (by decide)).trans rfl)
theorem sh_54 : nwS 54 = some (20, 6) := Option.some.inj ((nw_sh (by decide)).trans rfl)
theorem sh_55 : nwS 55 = some (8, 7) := Option.some.inj ((nw_sh (by decide)).trans rfl)
theorem sh_56 : nwS 56 = some (4, 10) := Option.some.inj ((nw_sh (by decide)).trans rfl)
theorem sh_57 : nwS 57 = some (8, 7) := Option.some.inj ((nw_sh (by decide)).trans rfl)
theorem sh_58 : nwS 58 = some (20, 401) := Option.some.inj ((nw_sh (by decide)).trans rfl)
theorem sh_59 : nwS 59 = some (20, 400) := Option.some.inj ((nw_sh (by decide)).trans rfl)
theorem sh_60 : nwS 60 = some (1, 7) := Option.some.inj ((nw_sh (by decide)).trans rfl)
theorem sh_61 : nwS 61 = some (20, 64) := Option.some.inj ((nw_sh (by decide)).trans rfl)
theorem sh_62 : nwS 62 = some (20, 512) := Option.some.inj ((nw_sh (by decide)).trans rfl)
theorem sh_63 : nwS 63 = some (23, 512) := Option.some.inj ((nw_sh (by decide)).trans rfl)
theorem sh_64 : nwS 64 = some (20, 512) := Option.some.inj ((nw_sh (by decide)).trans rfl)
theorem sh_65 : nwS 65 = some (20, 512) := Option.some.inj ((nw_sh (by decide)).trans rfl)
theorem sh_66 : nwS 66 = some (20, 6) := Option.some.inj ((nw_sh (by decide)).trans rfl)
theorem sh_67 : nwS 67 = some (11, 63) := Option.some.inj ((nw_sh (by decide)).trans rfl)
theorem sh_68 : nwS 68 = some (22, 64) := Option.some.inj ((nw_sh (by decide)).trans rfl)
theorem sh_69 : nwS 69 = some (20, 6) := Option.some.inj ((nw_sh (by decide)).trans rfl)
theorem sh_70 : nwS 70 = some (20, 6) := Option.some.inj ((nw_sh (by decide)).trans rfl)
theorem sh_71 : nwS 71 = some (20, 384) := Option.some.inj ((nw_sh (by decide)).trans rfl)
theorem sh_72 : nwS 72 = some (20, 6) := Option.some.inj ((nw_sh (by decide)).trans rfl)
theorem sh_73 : nwS 73 = some (20, 6) := Option.some.inj ((nw_sh (by decide)).trans rfl)
theorem sh_74 : nwS 74 = some (20, 384) := Option.some.inj ((nw_sh (by decide)).trans rfl)
theorem sh_75 : nwS 75 = some (20, 6) := Option.some.inj ((nw_sh (by decide)).trans rfl)
theorem sh_76 : nwS 76 = some (20, 300) := Option.some.inj ((nw_sh (by decide)).trans rfl)
theorem sh_77 : nwS 77 = some (22, 64) := Option.some.inj ((nw_sh (by decide)).trans rfl)
theorem sh_78 : nwS 78 = some (20, 6) := Option.some.inj ((nw_sh (by decide)).trans rfl)
theorem sh_79 : nwS 79 = some (20, 6) := Option.some.inj ((nw_sh (by decide)).trans rfl)
theorem sh_80 : nwS 80 = some (20, 384) := Option.some.inj ((nw_sh (by decide)).trans rfl)
theorem sh_81 : nwS 81 = some (22, 64) := Option.some.inj ((nw_sh (by decide)).trans rfl)
theorem sh_82 : nwS 82 = some (20, 3072) := Option.some.inj ((nw_sh (by decide)).trans rfl)
theorem sh_83 : nwS 83 = some (20, 6) := Option.some.inj ((nw_sh (by decide)).trans rfl)
theorem sh_84 : nwS 84 = some (20, 20) := Option.some.inj ((nw_sh (by decide)).trans rfl)
theorem sh_85 : nwS 85 = some (20, 5) := Option.some.inj ((nw_sh (by decide)).trans rfl)
theorem sh_86 : nwS 86 = some (20, 401) := Option.some.inj ((nw_sh (by decide)).trans rfl)
theorem sh_87 : nwS 87 = some (20, 401) := Option.some.inj ((nw_sh (by decide)).trans rfl)
theorem sh_88 : nwS 88 = some (20, 401) := Option.some.inj ((nw_sh (by decide)).trans rfl)
theorem sh_89 : nwS 89 = some (20, 400) := Option.some.inj ((nw_sh (by decide)).trans rfl)
theorem sh_90 : nwS 90 = some (20, 40) := Option.some.inj ((nw_sh (by decide)).trans rfl)
theorem sh_91 : nwS 91 = some (20, 12800) := Option.some.inj ((nw_sh (by decide)).trans rfl)
theorem sh_92 : nwS 92 = some (20, 6) := Option.some.inj ((nw_sh (by decide)).trans rfl)
theorem sh_93 : nwS 93 = some (20, 120) := Option.some.inj ((nw_sh (by decide)).trans rfl)
theorem sh_94 : nwS 94 = some (22, 2) := Option.some.inj ((nw_sh (by decide)).trans rfl)
def nw_rrl : List (Nat × Nat × Nat) := [(0, 0, 1), (0, 1, 3), (0, 2, 15), (0, 3, 27), (0, 4, 28), (0, 5, 33), (0, 7, 34), (0, 8, 38), (0, 9, 47), (0, 10, 52), (0, 11, 56), (0, 12, 60), (0, 13, 66), (1, 0, 2), (3, 8, 4), (3, 9, 5), (3, 10, 6), (3, 11, 7), (3, 12, 14), (7, 0, 8), (7, 1, 9), (7, 2, 10), (7, 3, 11), (7, 4, 12), (7, 5, 13), (15, 8, 16), (15, 9, 17), (15, 10, 18), (15, 11, 19), (15, 12, 26), (19, 0, 20), (19, 1, 21), (19, 2, 22), (19, 3, 23), (19, 4, 24), (19, 5, 25), (27, 0, 1), (27, 1, 15), (28, 0, 29), (28, 1, 30), (28, 2, 31), (28, 3, 32), (34, 0, 35), (34, 1, 36), (34, 2, 37), (38, 0, 39), (38, 1, 43), (39, 0, 40), (39, 1, 41), (39, 2, 42), (43, 0, 44), (43, 1, 45), (43, 2, 46), (47, 0, 3), (47, 1, 34), (47, 3, 48), (47, 4, 49), (47, 5, 50), (47, 6, 51), (52, 0, 3), (52, 1, 47), (52, 2, 33), (52, 5, 53), (52, 6, 54), (52, 7, 55), (56, 0, 3), (56, 1, 47), (56, 2, 52), (56, 3, 34), (56, 4, 57), (56, 5, 58), (56, 6, 59), (60, 0, 3), (60, 1, 52), (60, 2, 61), (60, 3, 62), (60, 4, 63), (60, 5, 64), (60, 6, 65), (67, 2, 68), (67, 7, 69), (67, 8, 70), (67, 9, 71), (67, 10, 72), (67, 11, 73), (67, 12, 74), (67, 13, 75), (67, 14, 76), (67, 24, 77), (67, 29, 78), (67, 30, 79), (67, 31, 80), (67, 32, 81), (67, 35, 82), (67, 36, 83), (67, 38, 84), (67, 44, 85), (67, 48, 86), (67, 49, 87), (67, 50, 88), (67, 51, 89), (67, 57, 90), (67, 58, 91), (67, 59, 92), (67, 61, 93), (67, 62, 94)]
theorem nw_rrE : nw_rrl.map (fun q => wR nw_w1 q.1 q.2.1) = nw_rrl.map (fun q => some q.2.2) := nw_fact (fun w => nw_rrl.map (fun q => wR w q.1 q.2.1)) (by decide +kernel)
theorem nw_rr : ∀ q, q ∈ nw_rrl → wR nw_w1 q.1 q.2.1 = some q.2.2 := List.map_inj_left.mp nw_rrE
theorem nw_w1_mW : nw_w1 = mW (wI nw_w1) (wL nw_w1) 33 := by
  have h : wR nw_w1 = nwR 33 := by
    funext k j
    unfold nwR u2
    by_cases h : k = 52 ∧ j = 2
    · rw [if_pos h, h.1, h.2]
      exact nw_rr (52, 2, 33) (by decide)
    · rw [if_neg h]
  show (wn nw_w1, wz nw_w1, wsh nw_w1, wI nw_w1, wL nw_w1, wR nw_w1) = (_, _, _, _, _, _)
  rw [nw_ns, nw_nz, h]
  rfl
theorem rr_of {k j r : Nat} (h : wR nw_w1 k j = some r) (hne : ¬ (k = 52 ∧ j = 2)) (ru : Nat) : nwR ru k j = some r := by
  unfold nwR u2
  rw [if_neg hne]
  exact h
theorem rr_at (ru : Nat) : nwR ru 52 2 = some ru := by
  unfold nwR u2
  exact if_pos ⟨rfl, rfl⟩
theorem rr_put (ru r : Nat) : u2 (nwR ru) 52 2 (some r) = nwR r := by
  funext k j
  unfold nwR u2
  by_cases h : k = 52 ∧ j = 2
  · rw [if_pos h, if_pos h]
  · rw [if_neg h, if_neg h, if_neg h]
theorem rr_0_0 (ru : Nat) : nwR ru 0 0 = some 1 := rr_of (nw_rr (0, 0, 1) (by decide)) (by decide) ru
theorem rr_0_1 (ru : Nat) : nwR ru 0 1 = some 3 := rr_of (nw_rr (0, 1, 3) (by decide)) (by decide) ru
theorem rr_0_2 (ru : Nat) : nwR ru 0 2 = some 15 := rr_of (nw_rr (0, 2, 15) (by decide)) (by decide) ru
theorem rr_0_3 (ru : Nat) : nwR ru 0 3 = some 27 := rr_of (nw_rr (0, 3, 27) (by decide)) (by decide) ru
theorem rr_0_4 (ru : Nat) : nwR ru 0 4 = some 28 := rr_of (nw_rr (0, 4, 28) (by decide)) (by decide) ru
theorem rr_0_5 (ru : Nat) : nwR ru 0 5 = some 33 := rr_of (nw_rr (0, 5, 33) (by decide)) (by decide) ru
theorem rr_0_7 (ru : Nat) : nwR ru 0 7 = some 34 := rr_of (nw_rr (0, 7, 34) (by decide)) (by decide) ru
theorem rr_0_8 (ru : Nat) : nwR ru 0 8 = some 38 := rr_of (nw_rr (0, 8, 38) (by decide)) (by decide) ru
theorem rr_0_9 (ru : Nat) : nwR ru 0 9 = some 47 := rr_of (nw_rr (0, 9, 47) (by decide)) (by decide) ru
theorem rr_0_10 (ru : Nat) : nwR ru 0 10 = some 52 := rr_of (nw_rr (0, 10, 52) (by decide)) (by decide) ru
theorem rr_0_11 (ru : Nat) : nwR ru 0 11 = some 56 := rr_of (nw_rr (0, 11, 56) (by decide)) (by decide) ru
theorem rr_0_12 (ru : Nat) : nwR ru 0 12 = some 60 := rr_of (nw_rr (0, 12, 60) (by decide)) (by decide) ru
theorem rr_0_13 (ru : Nat) : nwR ru 0 13 = some 66 := rr_of (nw_rr (0, 13, 66) (by decide)) (by decide) ru
theorem rr_1_0 (ru : Nat) : nwR ru 1 0 = some 2 := rr_of (nw_rr (1, 0, 2) (by decide)) (by decide) ru
theorem rr_3_8 (ru : Nat) : nwR ru 3 8 = some 4 := rr_of (nw_rr (3, 8, 4) (by decide)) (by decide) ru
theorem rr_3_9 (ru : Nat) : nwR ru 3 9 = some 5 := rr_of (nw_rr (3, 9, 5) (by decide)) (by decide) ru
theorem rr_3_10 (ru : Nat) : nwR ru 3 10 = some 6 := rr_of (nw_rr (3, 10, 6) (by decide)) (by decide) ru
theorem rr_3_11 (ru : Nat) : nwR ru 3 11 = some 7 := rr_of (nw_rr (3, 11, 7) (by decide)) (by decide) ru
theorem rr_3_12 (ru : Nat) : nwR ru 3 12 = some 14 := rr_of (nw_rr (3, 12, 14) (by decide)) (by decide) ru
theorem rr_7_0 (ru : Nat) : nwR ru 7 0 = some 8 := rr_of (nw_rr (7, 0, 8) (by decide)) (by decide) ru
theorem rr_7_1 (ru : Nat) : nwR ru 7 1 = some 9 := rr_of (nw_rr (7, 1, 9) (by decide)) (by decide) ru
theorem rr_7_2 (ru : Nat) : nwR ru 7 2 = some 10 := rr_of (nw_rr (7, 2, 10) (by decide)) (by decide) ru
theorem rr_7_3 (ru : Nat) : nwR ru 7 3 = some 11 := rr_of (nw_rr (7, 3, 11) (by decide)) (by decide) ru
theorem rr_7_4 (ru : Nat) : nwR ru 7 4 = some 12 := rr_of (nw_rr (7, 4, 12) (by decide)) (by decide) ru
theorem rr_7_5 (ru : Nat) : nwR ru 7 5 = some 13 := rr_of (nw_rr (7, 5, 13) (by decide)) (by decide) ru
theorem rr_15_8 (ru : Nat) : nwR ru 15 8 = some 16 := rr_of (nw_rr (15, 8, 16) (by decide)) (by decide) ru
theorem rr_15_9 (ru : Nat) : nwR ru 15 9 = some 17 := rr_of (nw_rr (15, 9, 17) (by decide)) (by decide) ru
theorem rr_15_10 (ru : Nat) : nwR ru 15 10 = some 18 := rr_of (nw_rr (15, 10, 18) (by decide)) (by decide) ru
theorem rr_15_11 (ru : Nat) : nwR ru 15 11 = some 19 := rr_of (nw_rr (15, 11, 19) (by decide)) (by decide) ru
theorem rr_15_12 (ru : Nat) : nwR ru 15 12 = some 26 := rr_of (nw_rr (15, 12, 26) (by decide)) (by decide) ru
theorem rr_19_0 (ru : Nat) : nwR ru 19 0 = some 20 := rr_of (nw_rr (19, 0, 20) (by decide)) (by decide) ru
theorem rr_19_1 (ru : Nat) : nwR ru 19 1 = some 21 := rr_of (nw_rr (19, 1, 21) (by decide)) (by decide) ru
theorem rr_19_2 (ru : Nat) : nwR ru 19 2 = some 22 := rr_of (nw_rr (19, 2, 22) (by decide)) (by decide) ru
theorem rr_19_3 (ru : Nat) : nwR ru 19 3 = some 23 := rr_of (nw_rr (19, 3, 23) (by decide)) (by decide) ru
theorem rr_19_4 (ru : Nat) : nwR ru 19 4 = some 24 := rr_of (nw_rr (19, 4, 24) (by decide)) (by decide) ru
theorem rr_19_5 (ru : Nat) : nwR ru 19 5 = some 25 := rr_of (nw_rr (19, 5, 25) (by decide)) (by decide) ru
theorem rr_27_0 (ru : Nat) : nwR ru 27 0 = some 1 := rr_of (nw_rr (27, 0, 1) (by decide)) (by decide) ru
theorem rr_27_1 (ru : Nat) : nwR ru 27 1 = some 15 := rr_of (nw_rr (27, 1, 15) (by decide)) (by decide) ru
theorem rr_28_0 (ru : Nat) : nwR ru 28 0 = some 29 := rr_of (nw_rr (28, 0, 29) (by decide)) (by decide) ru
theorem rr_28_1 (ru : Nat) : nwR ru 28 1 = some 30 := rr_of (nw_rr (28, 1, 30) (by decide)) (by decide) ru
theorem rr_28_2 (ru : Nat) : nwR ru 28 2 = some 31 := rr_of (nw_rr (28, 2, 31) (by decide)) (by decide) ru
theorem rr_28_3 (ru : Nat) : nwR ru 28 3 = some 32 := rr_of (nw_rr (28, 3, 32) (by decide)) (by decide) ru
theorem rr_34_0 (ru : Nat) : nwR ru 34 0 = some 35 := rr_of (nw_rr (34, 0, 35) (by decide)) (by decide) ru
theorem rr_34_1 (ru : Nat) : nwR ru 34 1 = some 36 := rr_of (nw_rr (34, 1, 36) (by decide)) (by decide) ru
theorem rr_34_2 (ru : Nat) : nwR ru 34 2 = some 37 := rr_of (nw_rr (34, 2, 37) (by decide)) (by decide) ru
theorem rr_38_0 (ru : Nat) : nwR ru 38 0 = some 39 := rr_of (nw_rr (38, 0, 39) (by decide)) (by decide) ru
theorem rr_38_1 (ru : Nat) : nwR ru 38 1 = some 43 := rr_of (nw_rr (38, 1, 43) (by decide)) (by decide) ru
theorem rr_39_0 (ru : Nat) : nwR ru 39 0 = some 40 := rr_of (nw_rr (39, 0, 40) (by decide)) (by decide) ru
theorem rr_39_1 (ru : Nat) : nwR ru 39 1 = some 41 := rr_of (nw_rr (39, 1, 41) (by decide)) (by decide) ru
theorem rr_39_2 (ru : Nat) : nwR ru 39 2 = some 42 := rr_of (nw_rr (39, 2, 42) (by decide)) (by decide) ru
theorem rr_43_0 (ru : Nat) : nwR ru 43 0 = some 44 := rr_of (nw_rr (43, 0, 44) (by decide)) (by decide) ru
theorem rr_43_1 (ru : Nat) : nwR ru 43 1 = some 45 := rr_of (nw_rr (43, 1, 45) (by decide)) (by decide) ru
theorem rr_43_2 (ru : Nat) : nwR ru 43 2 = some 46 := rr_of (nw_rr (43, 2, 46) (by decide)) (by decide) ru
theorem rr_47_0 (ru : Nat) : nwR ru 47 0 = some 3 := rr_of (nw_rr (47, 0, 3) (by decide)) (by decide) ru
theorem rr_47_1 (ru : Nat) : nwR ru 47 1 = some 34 := rr_of (nw_rr (47, 1, 34) (by decide)) (by decide) ru
theorem rr_47_3 (ru : Nat) : nwR ru 47 3 = some 48 := rr_of (nw_rr (47, 3, 48) (by decide)) (by decide) ru
theorem rr_47_4 (ru : Nat) : nwR ru 47 4 = some 49 := rr_of (nw_rr (47, 4, 49) (by decide)) (by decide) ru
theorem rr_47_5 (ru : Nat) : nwR ru 47 5 = some 50 := rr_of (nw_rr (47, 5, 50) (by decide)) (by decide) ru
theorem rr_47_6 (ru : Nat) : nwR ru 47 6 = some 51 := rr_of (nw_rr (47, 6, 51) (by decide)) (by decide) ru
theorem rr_52_0 (ru : Nat) : nwR ru 52 0 = some 3 := rr_of (nw_rr (52, 0, 3) (by decide)) (by decide) ru
theorem rr_52_1 (ru : Nat) : nwR ru 52 1 = some 47 := rr_of (nw_rr (52, 1, 47) (by decide)) (by decide) ru
theorem rr_52_5 (ru : Nat) : nwR ru 52 5 = some 53 := rr_of (nw_rr (52, 5, 53) (by decide)) (by decide) ru
theorem rr_52_6 (ru : Nat) : nwR ru 52 6 = some 54 := rr_of (nw_rr (52, 6, 54) (by decide)) (by decide) ru
theorem rr_52_7 (ru : Nat) : nwR ru 52 7 = some 55 := rr_of (nw_rr (52, 7, 55) (by decide)) (by decide) ru
theorem rr_56_0 (ru : Nat) : nwR ru 56 0 = some 3 := rr_of (nw_rr (56, 0, 3) (by decide)) (by decide) ru
theorem rr_56_1 (ru : Nat) : nwR ru 56 1 = some 47 := rr_of (nw_rr (56, 1, 47) (by decide)) (by decide) ru
theorem rr_56_2 (ru : Nat) : nwR ru 56 2 = some 52 := rr_of (nw_rr (56, 2, 52) (by decide)) (by decide) ru
theorem rr_56_3 (ru : Nat) : nwR ru 56 3 = some 34 := rr_of (nw_rr (56, 3, 34) (by decide)) (by decide) ru
theorem rr_56_4 (ru : Nat) : nwR ru 56 4 = some 57 := rr_of (nw_rr (56, 4, 57) (by decide)) (by decide) ru
theorem rr_56_5 (ru : Nat) : nwR ru 56 5 = some 58 := rr_of (nw_rr (56, 5, 58) (by decide)) (by decide) ru
theorem rr_56_6 (ru : Nat) : nwR ru 56 6 = some 59 := rr_of (nw_rr (56, 6, 59) (by decide)) (by decide) ru
theorem rr_60_0 (ru : Nat) : nwR ru 60 0 = some 3 := rr_of (nw_rr (60, 0, 3) (by decide)) (by decide) ru
theorem rr_60_1 (ru : Nat) : nwR ru 60 1 = some 52 := rr_of (nw_rr (60, 1, 52) (by decide)) (by decide) ru
theorem rr_60_2 (ru : Nat) : nwR ru 60 2 = some 61 := rr_of (nw_rr (60, 2, 61) (by decide)) (by decide) ru
theorem rr_60_3 (ru : Nat) : nwR ru 60 3 = some 62 := rr_of (nw_rr (60, 3, 62) (by decide)) (by decide) ru
theorem rr_60_4 (ru : Nat) : nwR ru 60 4 = some 63 := rr_of (nw_rr (60, 4, 63) (by decide)) (by decide) ru
theorem rr_60_5 (ru : Nat) : nwR ru 60 5 = some 64 := rr_of (nw_rr (60, 5, 64) (by decide)) (by decide) ru
theorem rr_60_6 (ru : Nat) : nwR ru 60 6 = some 65 := rr_of (nw_rr (60, 6, 65) (by decide)) (by decide) ru
theorem rr_67_2 (ru : Nat) : nwR ru 67 2 = some 68 := rr_of (nw_rr (67, 2, 68) (by decide)) (by decide) ru
theorem rr_67_7 (ru : Nat) : nwR ru 67 7 = some 69 := rr_of (nw_rr (67, 7, 69) (by decide)) (by decide) ru
theorem rr_67_8 (ru : Nat) : nwR ru 67 8 = some 70 := rr_of (nw_rr (67, 8, 70) (by decide)) (by decide) ru
theorem rr_67_9 (ru : Nat) : nwR ru 67 9 = some 71 := rr_of (nw_rr (67, 9, 71) (by decide)) (by decide) ru
theorem rr_67_10 (ru : Nat) : nwR ru 67 10 = some 72 := rr_of (nw_rr (67, 10, 72) (by decide)) (by decide) ru
theorem rr_67_11 (ru : Nat) : nwR ru 67 11 = some 73 := rr_of (nw_rr (67, 11, 73) (by decide)) (by decide) ru
theorem rr_67_12 (ru : Nat) : nwR ru 67 12 = some 74 := rr_of (nw_rr (67, 12, 74) (by decide)) (by decide) ru
theorem rr_67_13 (ru : Nat) : nwR ru 67 13 = some 75 := rr_of (nw_rr (67, 13, 75) (by decide)) (by decide) ru
theorem rr_67_14 (ru : Nat) : nwR ru 67 14 = some 76 := rr_of (nw_rr (67, 14, 76) (by decide)) (by decide) ru
theorem rr_67_24 (ru : Nat) : nwR ru 67 24 = some 77 := rr_of (nw_rr (67, 24, 77) (by decide)) (by decide) ru
theorem rr_67_29 (ru : Nat) : nwR ru 67 29 = some 78 := rr_of (nw_rr (67, 29, 78) (by decide)) (by decide) ru
theorem rr_67_30 (ru : Nat) : nwR ru 67 30 = some 79 := rr_of (nw_rr (67, 30, 79) (by decide)) (by decide) ru
theorem rr_67_31 (ru : Nat) : nwR ru 67 31 = some 80 := rr_of (nw_rr (67, 31, 80) (by decide)) (by decide) ru
theorem rr_67_32 (ru : Nat) : nwR ru 67 32 = some 81 := rr_of (nw_rr (67, 32, 81) (by decide)) (by decide) ru
theorem rr_67_35 (ru : Nat) : nwR ru 67 35 = some 82 := rr_of (nw_rr (67, 35, 82) (by decide)) (by decide) ru
theorem rr_67_36 (ru : Nat) : nwR ru 67 36 = some 83 := rr_of (nw_rr (67, 36, 83) (by decide)) (by decide) ru
theorem rr_67_38 (ru : Nat) : nwR ru 67 38 = some 84 := rr_of (nw_rr (67, 38, 84) (by decide)) (by decide) ru
theorem rr_67_44 (ru : Nat) : nwR ru 67 44 = some 85 := rr_of (nw_rr (67, 44, 85) (by decide)) (by decide) ru
theorem rr_67_48 (ru : Nat) : nwR ru 67 48 = some 86 := rr_of (nw_rr (67, 48, 86) (by decide)) (by decide) ru
theorem rr_67_49 (ru : Nat) : nwR ru 67 49 = some 87 := rr_of (nw_rr (67, 49, 87) (by decide)) (by decide) ru
theorem rr_67_50 (ru : Nat) : nwR ru 67 50 = some 88 := rr_of (nw_rr (67, 50, 88) (by decide)) (by decide) ru
theorem rr_67_51 (ru : Nat) : nwR ru 67 51 = some 89 := rr_of (nw_rr (67, 51, 89) (by decide)) (by decide) ru
theorem rr_67_57 (ru : Nat) : nwR ru 67 57 = some 90 := rr_of (nw_rr (67, 57, 90) (by decide)) (by decide) ru
theorem rr_67_58 (ru : Nat) : nwR ru 67 58 = some 91 := rr_of (nw_rr (67, 58, 91) (by decide)) (by decide) ru
theorem rr_67_59 (ru : Nat) : nwR ru 67 59 = some 92 := rr_of (nw_rr (67, 59, 92) (by decide)) (by decide) ru
theorem rr_67_61 (ru : Nat) : nwR ru 67 61 = some 93 := rr_of (nw_rr (67, 61, 93) (by decide)) (by decide) ru
theorem rr_67_62 (ru : Nat) : nwR ru 67 62 = some 94 := rr_of (nw_rr (67, 62, 94) (by decide)) (by decide) ru
/-! readers and writers of such a world -/
theorem wsh_mW (I : Nat → Nat → Int32) (L : Nat → Nat → Int64) (ru : Nat) : wsh (mW I L ru) = nwS := rfl
section
variable {I : Nat → Nat → Int32} {L : Nat → Nat → Int64} {ru : Nat} {kd k j n i r : Nat}
theorem gI_of (h : nwS k = some (kd, n)) : getI (mW I L ru) kd k j = some (I k j) := by
  unfold getI
  rw [wsh_mW, h]
  exact if_pos rfl
theorem gL_of (h : nwS k = some (kd, n)) : getL (mW I L ru) kd k j = some (L k j) := by
  unfold getL
  rw [wsh_mW, h]
  exact if_pos rfl
theorem gR_of (h : nwS k = some (kd, n)) (h2 : nwR ru k j = some r) : getR (mW I L ru) kd k j = some r := by
  unfold getR
  rw [wsh_mW, h]
  exact (if_pos rfl).trans h2
theorem pI_of {v : Int32} (h : nwS k = some (kd, n)) : putI (mW I L ru) kd k j v = some (mW (u2 I k j v) L ru) := by
  unfold putI
  rw [wsh_mW, h]
  exact if_pos rfl
theorem pZ_of {v : Int32} (h : nwS k = some (kd, n)) (hv : v = 0 ∨ v = 1) : putZ (mW I L ru) kd k j v = some (mW (u2 I k j v) L ru) := by
  unfold putZ
  rw [wsh_mW, h]
  exact if_pos ⟨rfl, hv⟩
theorem pL_of {v : Int64} (h : nwS k = some (kd, n)) : putL (mW I L ru) kd k j v = some (mW I (u2 L k j v) ru) := by
  unfold putL
  rw [wsh_mW, h]
  exact if_pos rfl
theorem pR_of (h : nwS 52 = some (kd, n)) : putR (mW I L ru) kd 52 2 r = some (mW I L r) := by
  unfold putR
  rw [wsh_mW, h]
  refine (if_pos rfl).trans ?_
  show some (_, _, _, _, _, u2 (nwR ru) 52 2 (some r)) = _
  rw [rr_put]
  rfl
theorem ix_ok (h : i < n) (hn : n < 2 ^ 31) : ¬ ((nI i : Int32) < 0 ∨ n ≤ (nI i).toNatClampNeg) := nI_in h hn
theorem aI_of (h : nwS k = some (20, n)) (hi : i < n) (hn : n < 2 ^ 31) : aldI (mW I L ru) k (nI i) = some (I k i) := by
  unfold aldI
  rw [wsh_mW, h]
  refine (if_pos ⟨rfl, nI_in hi hn⟩).trans ?_
  rw [nI_clamp (Nat.lt_trans hi hn)]
  rfl
theorem aB_of (h : nwS k = some (kd, n)) (hk : kd = 21 ∨ kd = 22) (hi : i < n) (hn : n < 2 ^ 31) : aldB (mW I L ru) k (nI i) = some (I k i) := by
  unfold aldB
  rw [wsh_mW, h]
  refine (if_pos ⟨hk, nI_in hi hn⟩).trans ?_
  rw [nI_clamp (Nat.lt_trans hi hn)]
  rfl
theorem aL_of (h : nwS k = some (23, n)) (hi : i < n) (hn : n < 2 ^ 31) : aldL (mW I L ru) k (nI i) = some (L k i) := by
  unfold aldL
  rw [wsh_mW, h]
  refine (if_pos ⟨rfl, nI_in hi hn⟩).trans ?_
  rw [nI_clamp (Nat.lt_trans hi hn)]
  rfl
theorem aR_of (h : nwS k = some (kd, n)) (hk : kd = 24 ∨ kd = 25 ∨ kd = 26) (hi : i < n) (hn : n < 2 ^ 31) (h2 : nwR ru k i = some r) : aldR (mW I L ru) k (nI i) = some r := by
  unfold aldR
  rw [wsh_mW, h]
  refine (if_pos ⟨hk, nI_in hi hn⟩).trans ?_
  rw [nI_clamp (Nat.lt_trans hi hn)]
  exact h2
theorem sI_of {v : Int32} (h : nwS k = some (20, n)) (hi : i < n) (hn : n < 2 ^ 31) : astI (mW I L ru) k (nI i) v = some (mW (u2 I k i v) L ru) := by
  unfold astI
  rw [wsh_mW, h]
  refine (if_pos ⟨rfl, nI_in hi hn⟩).trans ?_
  rw [nI_clamp (Nat.lt_trans hi hn)]
  rfl
theorem sZ_of {v : Int32} (h : nwS k = some (22, n)) (hi : i < n) (hn : n < 2 ^ 31) : astB (mW I L ru) k (nI i) v = some (mW (u2 I k i (v &&& 1)) L ru) := by
  unfold astB
  rw [wsh_mW, h]
  refine (if_pos ⟨Or.inr rfl, nI_in hi hn⟩).trans ?_
  rw [nI_clamp (Nat.lt_trans hi hn)]
  rfl
theorem sB_of {v : Int32} (h : nwS k = some (21, n)) (hi : i < n) (hn : n < 2 ^ 31) : astB (mW I L ru) k (nI i) v = some (mW (u2 I k i v.toInt8.toInt32) L ru) := by
  unfold astB
  rw [wsh_mW, h]
  refine (if_pos ⟨Or.inl rfl, nI_in hi hn⟩).trans ?_
  rw [nI_clamp (Nat.lt_trans hi hn)]
  rfl
theorem sL_of {v : Int64} (h : nwS k = some (23, n)) (hi : i < n) (hn : n < 2 ^ 31) : astL (mW I L ru) k (nI i) v = some (mW I (u2 L k i v) ru) := by
  unfold astL
  rw [wsh_mW, h]
  refine (if_pos ⟨rfl, nI_in hi hn⟩).trans ?_
  rw [nI_clamp (Nat.lt_trans hi hn)]
  rfl
theorem len_of (h : nwS k = some (kd, n)) (hk : 20 ≤ kd) : alen (mW I L ru) k = some (nI n) := by
  unfold alen
  rw [wsh_mW, h]
  exact if_pos hk
theorem cls_of (h : nwS k = some (kd, n)) : (nwS k).map (fun q => q.1) = some kd := by rw [h]; rfl
end
theorem gIx (I : Nat → Nat → Int32) (L : Nat → Nat → Int64) (ru : Nat) (j : Nat) :
  getI (mW I L ru) 10 0 j = some (I 0 j) ∧
  getI (mW I L ru) 9 1 j = some (I 1 j) ∧
  getI (mW I L ru) 6 3 j = some (I 3 j) ∧
  getI (mW I L ru) 6 15 j = some (I 15 j) ∧
  getI (mW I L ru) 7 27 j = some (I 27 j) ∧
  getI (mW I L ru) 5 29 j = some (I 29 j) ∧
  getI (mW I L ru) 5 30 j = some (I 30 j) ∧
  getI (mW I L ru) 5 31 j = some (I 31 j) ∧
  getI (mW I L ru) 5 32 j = some (I 32 j) ∧
  getI (mW I L ru) 5 33 j = some (I 33 j) ∧
  getI (mW I L ru) 3 34 j = some (I 34 j) ∧
  getI (mW I L ru) 3 39 j = some (I 39 j) ∧
  getI (mW I L ru) 3 43 j = some (I 43 j) ∧
  getI (mW I L ru) 2 47 j = some (I 47 j) ∧
  getI (mW I L ru) 8 51 j = some (I 51 j) ∧
  getI (mW I L ru) 0 52 j = some (I 52 j) ∧
  getI (mW I L ru) 8 55 j = some (I 55 j) ∧
  getI (mW I L ru) 4 56 j = some (I 56 j) ∧
  getI (mW I L ru) 8 57 j = some (I 57 j) ∧
  getI (mW I L ru) 1 60 j = some (I 60 j) :=
  ⟨gI_of sh_0, gI_of sh_1, gI_of sh_3, gI_of sh_15, gI_of sh_27, gI_of sh_29, gI_of sh_30, gI_of sh_31, gI_of sh_32, gI_of sh_33, gI_of sh_34, gI_of sh_39, gI_of sh_43, gI_of sh_47, gI_of sh_51, gI_of sh_52, gI_of sh_55, gI_of sh_56, gI_of sh_57, gI_of sh_60⟩
theorem pIx (I : Nat → Nat → Int32) (L : Nat → Nat → Int64) (ru : Nat) (j : Nat) (v : Int32) :
  putI (mW I L ru) 10 0 j v = some (mW (u2 I 0 j v) L ru) ∧
  putI (mW I L ru) 9 1 j v = some (mW (u2 I 1 j v) L ru) ∧
  putI (mW I L ru) 6 3 j v = some (mW (u2 I 3 j v) L ru) ∧
  putI (mW I L ru) 6 15 j v = some (mW (u2 I 15 j v) L ru) ∧
  putI (mW I L ru) 7 27 j v = some (mW (u2 I 27 j v) L ru) ∧
  putI (mW I L ru) 5 29 j v = some (mW (u2 I 29 j v) L ru) ∧
  putI (mW I L ru) 5 30 j v = some (mW (u2 I 30 j v) L ru) ∧
  putI (mW I L ru) 5 31 j v = some (mW (u2 I 31 j v) L ru) ∧
  putI (mW I L ru) 5 32 j v = some (mW (u2 I 32 j v) L ru) ∧
  putI (mW I L ru) 5 33 j v = some (mW (u2 I 33 j v) L ru) ∧
  putI (mW I L ru) 3 34 j v = some (mW (u2 I 34 j v) L ru) ∧
  putI (mW I L ru) 3 39 j v = some (mW (u2 I 39 j v) L ru) ∧
  putI (mW I L ru) 3 43 j v = some (mW (u2 I 43 j v) L ru) ∧
  putI (mW I L ru) 2 47 j v = some (mW (u2 I 47 j v) L ru) ∧
  putI (mW I L ru) 8 51 j v = some (mW (u2 I 51 j v) L ru) ∧
  putI (mW I L ru) 0 52 j v = some (mW (u2 I 52 j v) L ru) ∧
  putI (mW I L ru) 8 55 j v = some (mW (u2 I 55 j v) L ru) ∧
  putI (mW I L ru) 4 56 j v = some (mW (u2 I 56 j v) L ru) ∧
  putI (mW I L ru) 8 57 j v = some (mW (u2 I 57 j v) L ru) ∧
  putI (mW I L ru) 1 60 j v = some (mW (u2 I 60 j v) L ru) :=
  ⟨pI_of sh_0, pI_of sh_1, pI_of sh_3, pI_of sh_15, pI_of sh_27, pI_of sh_29, pI_of sh_30, pI_of sh_31, pI_of sh_32, pI_of sh_33, pI_of sh_34, pI_of sh_39, pI_of sh_43, pI_of sh_47, pI_of sh_51, pI_of sh_52, pI_of sh_55, pI_of sh_56, pI_of sh_57, pI_of sh_60⟩
theorem pZx (I : Nat → Nat → Int32) (L : Nat → Nat → Int64) (ru : Nat) (j : Nat) :
  putZ (mW I L ru) 10 0 j (nI 0) = some (mW (u2 I 0 j (nI 0)) L ru) ∧
  putZ (mW I L ru) 10 0 j (nI 1) = some (mW (u2 I 0 j (nI 1)) L ru) ∧
  putZ (mW I L ru) 9 1 j (nI 0) = some (mW (u2 I 1 j (nI 0)) L ru) ∧
  putZ (mW I L ru) 9 1 j (nI 1) = some (mW (u2 I 1 j (nI 1)) L ru) ∧
  putZ (mW I L ru) 6 3 j (nI 0) = some (mW (u2 I 3 j (nI 0)) L ru) ∧
  putZ (mW I L ru) 6 3 j (nI 1) = some (mW (u2 I 3 j (nI 1)) L ru) ∧
  putZ (mW I L ru) 6 15 j (nI 0) = some (mW (u2 I 15 j (nI 0)) L ru) ∧
  putZ (mW I L ru) 6 15 j (nI 1) = some (mW (u2 I 15 j (nI 1)) L ru) ∧
  putZ (mW I L ru) 7 27 j (nI 0) = some (mW (u2 I 27 j (nI 0)) L ru) ∧
  putZ (mW I L ru) 7 27 j (nI 1) = some (mW (u2 I 27 j (nI 1)) L ru) ∧
  putZ (mW I L ru) 5 29 j (nI 0) = some (mW (u2 I 29 j (nI 0)) L ru) ∧
  putZ (mW I L ru) 5 29 j (nI 1) = some (mW (u2 I 29 j (nI 1)) L ru) ∧
  putZ (mW I L ru) 5 30 j (nI 0) = some (mW (u2 I 30 j (nI 0)) L ru) ∧
  putZ (mW I L ru) 5 30 j (nI 1) = some (mW (u2 I 30 j (nI 1)) L ru) ∧
  putZ (mW I L ru) 5 31 j (nI 0) = some (mW (u2 I 31 j (nI 0)) L ru) ∧
  putZ (mW I L ru) 5 31 j (nI 1) = some (mW (u2 I 31 j (nI 1)) L ru) ∧
  putZ (mW I L ru) 5 32 j (nI 0) = some (mW (u2 I 32 j (nI 0)) L ru) ∧
  putZ (mW I L ru) 5 32 j (nI 1) = some (mW (u2 I 32 j (nI 1)) L ru) ∧
  putZ (mW I L ru) 5 33 j (nI 0) = some (mW (u2 I 33 j (nI 0)) L ru) ∧
  putZ (mW I L ru) 5 33 j (nI 1) = some (mW (u2 I 33 j (nI 1)) L ru) ∧
  putZ (mW I L ru) 3 34 j (nI 0) = some (mW (u2 I 34 j (nI 0)) L ru) ∧
  putZ (mW I L ru) 3 34 j (nI 1) = some (mW (u2 I 34 j (nI 1)) L ru) ∧
  putZ (mW I L ru) 3 39 j (nI 0) = some (mW (u2 I 39 j (nI 0)) L ru) ∧
  putZ (mW I L ru) 3 39 j (nI 1) = some (mW (u2 I 39 j (nI 1)) L ru) ∧
  putZ (mW I L ru) 3 43 j (nI 0) = some (mW (u2 I 43 j (nI 0)) L ru) ∧
  putZ (mW I L ru) 3 43 j (nI 1) = some (mW (u2 I 43 j (nI 1)) L ru) ∧
  putZ (mW I L ru) 2 47 j (nI 0) = some (mW (u2 I 47 j (nI 0)) L ru) ∧
  putZ (mW I L ru) 2 47 j (nI 1) = some (mW (u2 I 47 j (nI 1)) L ru) ∧
  putZ (mW I L ru) 8 51 j (nI 0) = some (mW (u2 I 51 j (nI 0)) L ru) ∧
  putZ (mW I L ru) 8 51 j (nI 1) = some (mW (u2 I 51 j (nI 1)) L ru) ∧
  putZ (mW I L ru) 0 52 j (nI 0) = some (mW (u2 I 52 j (nI 0)) L ru) ∧
  putZ (mW I L ru) 0 52 j (nI 1) = some (mW (u2 I 52 j (nI 1)) L ru) ∧
  putZ (mW I L ru) 8 55 j (nI 0) = some (mW (u2 I 55 j (nI 0)) L ru) ∧
  putZ (mW I L ru) 8 55 j (nI 1) = some (mW (u2 I 55 j (nI 1)) L ru) ∧
  putZ (mW I L ru) 4 56 j (nI 0) = some (mW (u2 I 56 j (nI 0)) L ru) ∧
  putZ (mW I L ru) 4 56 j (nI 1) = some (mW (u2 I 56 j (nI 1)) L ru) ∧
  putZ (mW I L ru) 8 57 j (nI 0) = some (mW (u2 I 57 j (nI 0)) L ru) ∧
  putZ (mW I L ru) 8 57 j (nI 1) = some (mW (u2 I 57 j (nI 1)) L ru) ∧
  putZ (mW I L ru) 1 60 j (nI 0) = some (mW (u2 I 60 j (nI 0)) L ru) ∧
  putZ (mW I L ru) 1 60 j (nI 1) = some (mW (u2 I 60 j (nI 1)) L ru) :=
  ⟨pZ_of sh_0 (Or.inl rfl), pZ_of sh_0 (Or.inr rfl), pZ_of sh_1 (Or.inl rfl), pZ_of sh_1 (Or.inr rfl), pZ_of sh_3 (Or.inl rfl), pZ_of sh_3 (Or.inr rfl), pZ_of sh_15 (Or.inl rfl), pZ_of sh_15 (Or.inr rfl), pZ_of sh_27 (Or.inl rfl), pZ_of sh_27 (Or.inr rfl), pZ_of sh_29 (Or.inl rfl), pZ_of sh_29 (Or.inr rfl), pZ_of sh_30 (Or.inl rfl), pZ_of sh_30 (Or.inr rfl), pZ_of sh_31 (Or.inl rfl), pZ_of sh_31 (Or.inr rfl), pZ_of sh_32 (Or.inl rfl), pZ_of sh_32 (Or.inr rfl), pZ_of sh_33 (Or.inl rfl), pZ_of sh_33 (Or.inr rfl), pZ_of sh_34 (Or.inl rfl), pZ_of sh_34 (Or.inr rfl), pZ_of sh_39 (Or.inl rfl), pZ_of sh_39 (Or.inr rfl), pZ_of sh_43 (Or.inl rfl), pZ_of sh_43 (Or.inr rfl), pZ_of sh_47 (Or.inl rfl), pZ_of sh_47 (Or.inr rfl), pZ_of sh_51 (Or.inl rfl), pZ_of sh_51 (Or.inr rfl), pZ_of sh_52 (Or.inl rfl), pZ_of sh_52 (Or.inr rfl), pZ_of sh_55 (Or.inl rfl), pZ_of sh_55 (Or.inr rfl), pZ_of sh_56 (Or.inl rfl), pZ_of sh_56 (Or.inr rfl), pZ_of sh_57 (Or.inl rfl), pZ_of sh_57 (Or.inr rfl), pZ_of sh_60 (Or.inl rfl), pZ_of sh_60 (Or.inr rfl)⟩
theorem gRx (I : Nat → Nat → Int32) (L : Nat → Nat → Int64) (ru : Nat)  :
  getR (mW I L ru) 10 0 0 = some 1 ∧
  getR (mW I L ru) 10 0 1 = some 3 ∧
  getR (mW I L ru) 10 0 2 = some 15 ∧
  getR (mW I L ru) 10 0 3 = some 27 ∧
  getR (mW I L ru) 10 0 4 = some 28 ∧
  getR (mW I L ru) 10 0 5 = some 33 ∧
  getR (mW I L ru) 10 0 7 = some 34 ∧
  getR (mW I L ru) 10 0 8 = some 38 ∧
  getR (mW I L ru) 10 0 9 = some 47 ∧
  getR (mW I L ru) 10 0 10 = some 52 ∧
  getR (mW I L ru) 10 0 11 = some 56 ∧
  getR (mW I L ru) 10 0 12 = some 60 ∧
  getR (mW I L ru) 10 0 13 = some 66 ∧
  getR (mW I L ru) 9 1 0 = some 2 ∧
  getR (mW I L ru) 6 3 8 = some 4 ∧
  getR (mW I L ru) 6 3 9 = some 5 ∧
  getR (mW I L ru) 6 3 10 = some 6 ∧
  getR (mW I L ru) 6 3 11 = some 7 ∧
  getR (mW I L ru) 6 3 12 = some 14 ∧
  getR (mW I L ru) 6 15 8 = some 16 ∧
  getR (mW I L ru) 6 15 9 = some 17 ∧
  getR (mW I L ru) 6 15 10 = some 18 ∧
  getR (mW I L ru) 6 15 11 = some 19 ∧
  getR (mW I L ru) 6 15 12 = some 26 ∧
  getR (mW I L ru) 7 27 0 = some 1 ∧
  getR (mW I L ru) 7 27 1 = some 15 ∧
  getR (mW I L ru) 3 34 0 = some 35 ∧
  getR (mW I L ru) 3 34 1 = some 36 ∧
  getR (mW I L ru) 3 34 2 = some 37 ∧
  getR (mW I L ru) 3 39 0 = some 40 ∧
  getR (mW I L ru) 3 39 1 = some 41 ∧
  getR (mW I L ru) 3 39 2 = some 42 ∧
  getR (mW I L ru) 3 43 0 = some 44 ∧
  getR (mW I L ru) 3 43 1 = some 45 ∧
  getR (mW I L ru) 3 43 2 = some 46 ∧
  getR (mW I L ru) 2 47 0 = some 3 ∧
  getR (mW I L ru) 2 47 1 = some 34 ∧
  getR (mW I L ru) 2 47 3 = some 48 ∧
  getR (mW I L ru) 2 47 4 = some 49 ∧
  getR (mW I L ru) 2 47 5 = some 50 ∧
  getR (mW I L ru) 2 47 6 = some 51 ∧
  getR (mW I L ru) 0 52 0 = some 3 ∧
  getR (mW I L ru) 0 52 1 = some 47 ∧
  getR (mW I L ru) 0 52 2 = some ru ∧
  getR (mW I L ru) 0 52 5 = some 53 ∧
  getR (mW I L ru) 0 52 6 = some 54 ∧
  getR (mW I L ru) 0 52 7 = some 55 ∧
  getR (mW I L ru) 4 56 0 = some 3 ∧
  getR (mW I L ru) 4 56 1 = some 47 ∧
  getR (mW I L ru) 4 56 2 = some 52 ∧
  getR (mW I L ru) 4 56 3 = some 34 ∧
  getR (mW I L ru) 4 56 4 = some 57 ∧
  getR (mW I L ru) 4 56 5 = some 58 ∧
  getR (mW I L ru) 4 56 6 = some 59 ∧
  getR (mW I L ru) 1 60 0 = some 3 ∧
  getR (mW I L ru) 1 60 1 = some 52 ∧
  getR (mW I L ru) 1 60 2 = some 61 ∧
  getR (mW I L ru) 1 60 3 = some 62 ∧
  getR (mW I L ru) 1 60 4 = some 63 ∧
  getR (mW I L ru) 1 60 5 = some 64 ∧
  getR (mW I L ru) 1 60 6 = some 65 :=
  ⟨gR_of sh_0 (rr_0_0 ru), gR_of sh_0 (rr_0_1 ru), gR_of sh_0 (rr_0_2 ru), gR_of sh_0 (rr_0_3 ru), gR_of sh_0 (rr_0_4 ru), gR_of sh_0 (rr_0_5 ru), gR_of sh_0 (rr_0_7 ru), gR_of sh_0 (rr_0_8 ru), gR_of sh_0 (rr_0_9 ru), gR_of sh_0 (rr_0_10 ru), gR_of sh_0 (rr_0_11 ru), gR_of sh_0 (rr_0_12 ru), gR_of sh_0 (rr_0_13 ru), gR_of sh_1 (rr_1_0 ru), gR_of sh_3 (rr_3_8 ru), gR_of sh_3 (rr_3_9 ru), gR_of sh_3 (rr_3_10 ru), gR_of sh_3 (rr_3_11 ru), gR_of sh_3 (rr_3_12 ru), gR_of sh_15 (rr_15_8 ru), gR_of sh_15 (rr_15_9 ru), gR_of sh_15 (rr_15_10 ru), gR_of sh_15 (rr_15_11 ru), gR_of sh_15 (rr_15_12 ru), gR_of sh_27 (rr_27_0 ru), gR_of sh_27 (rr_27_1 ru), gR_of sh_34 (rr_34_0 ru), gR_of sh_34 (rr_34_1 ru), gR_of sh_34 (rr_34_2 ru), gR_of sh_39 (rr_39_0 ru), gR_of sh_39 (rr_39_1 ru), gR_of sh_39 (rr_39_2 ru), gR_of sh_43 (rr_43_0 ru), gR_of sh_43 (rr_43_1 ru), gR_of sh_43 (rr_43_2 ru), gR_of sh_47 (rr_47_0 ru), gR_of sh_47 (rr_47_1 ru), gR_of sh_47 (rr_47_3 ru), gR_of sh_47 (rr_47_4 ru), gR_of sh_47 (rr_47_5 ru), gR_of sh_47 (rr_47_6 ru), gR_of sh_52 (rr_52_0 ru), gR_of sh_52 (rr_52_1 ru), gR_of sh_52 (rr_at ru), gR_of sh_52 (rr_52_5 ru), gR_of sh_52 (rr_52_6 ru), gR_of sh_52 (rr_52_7 ru), gR_of sh_56 (rr_56_0 ru), gR_of sh_56 (rr_56_1 ru), gR_of sh_56 (rr_56_2 ru), gR_of sh_56 (rr_56_3 ru), gR_of sh_56 (rr_56_4 ru), gR_of sh_56 (rr_56_5 ru), gR_of sh_56 (rr_56_6 ru), gR_of sh_60 (rr_60_0 ru), gR_of sh_60 (rr_60_1 ru), gR_of sh_60 (rr_60_2 ru), gR_of sh_60 (rr_60_3 ru), gR_of sh_60 (rr_60_4 ru), gR_of sh_60 (rr_60_5 ru), gR_of sh_60 (rr_60_6 ru)⟩
theorem aIx (I : Nat → Nat → Int32) (L : Nat → Nat → Int64) (ru : Nat) (i : Nat) :
  (i < 6 → aldI (mW I L ru) 4 (nI i) = some (I 4 i)) ∧
  (i < 6 → aldI (mW I L ru) 5 (nI i) = some (I 5 i)) ∧
  (i < 6 → aldI (mW I L ru) 6 (nI i) = some (I 6 i)) ∧
  (i < 64 → aldI (mW I L ru) 8 (nI i) = some (I 8 i)) ∧
  (i < 64 → aldI (mW I L ru) 9 (nI i) = some (I 9 i)) ∧
  (i < 64 → aldI (mW I L ru) 10 (nI i) = some (I 10 i)) ∧
  (i < 64 → aldI (mW I L ru) 11 (nI i) = some (I 11 i)) ∧
  (i < 64 → aldI (mW I L ru) 12 (nI i) = some (I 12 i)) ∧
  (i < 64 → aldI (mW I L ru) 13 (nI i) = some (I 13 i)) ∧
  (i < 6 → aldI (mW I L ru) 16 (nI i) = some (I 16 i)) ∧
  (i < 6 → aldI (mW I L ru) 17 (nI i) = some (I 17 i)) ∧
  (i < 6 → aldI (mW I L ru) 18 (nI i) = some (I 18 i)) ∧
  (i < 64 → aldI (mW I L ru) 20 (nI i) = some (I 20 i)) ∧
  (i < 64 → aldI (mW I L ru) 21 (nI i) = some (I 21 i)) ∧
  (i < 64 → aldI (mW I L ru) 22 (nI i) = some (I 22 i)) ∧
  (i < 64 → aldI (mW I L ru) 23 (nI i) = some (I 23 i)) ∧
  (i < 64 → aldI (mW I L ru) 24 (nI i) = some (I 24 i)) ∧
  (i < 64 → aldI (mW I L ru) 25 (nI i) = some (I 25 i)) ∧
  (i < 6 → aldI (mW I L ru) 35 (nI i) = some (I 35 i)) ∧
  (i < 6 → aldI (mW I L ru) 36 (nI i) = some (I 36 i)) ∧
  (i < 40 → aldI (mW I L ru) 37 (nI i) = some (I 37 i)) ∧
  (i < 6 → aldI (mW I L ru) 40 (nI i) = some (I 40 i)) ∧
  (i < 6 → aldI (mW I L ru) 41 (nI i) = some (I 41 i)) ∧
  (i < 40 → aldI (mW I L ru) 42 (nI i) = some (I 42 i)) ∧
  (i < 6 → aldI (mW I L ru) 44 (nI i) = some (I 44 i)) ∧
  (i < 6 → aldI (mW I L ru) 45 (nI i) = some (I 45 i)) ∧
  (i < 40 → aldI (mW I L ru) 46 (nI i) = some (I 46 i)) ∧
  (i < 512 → aldI (mW I L ru) 48 (nI i) = some (I 48 i)) ∧
  (i < 512 → aldI (mW I L ru) 49 (nI i) = some (I 49 i)) ∧
  (i < 512 → aldI (mW I L ru) 50 (nI i) = some (I 50 i)) ∧
  (i < 512 → aldI (mW I L ru) 53 (nI i) = some (I 53 i)) ∧
  (i < 6 → aldI (mW I L ru) 54 (nI i) = some (I 54 i)) ∧
  (i < 401 → aldI (mW I L ru) 58 (nI i) = some (I 58 i)) ∧
  (i < 400 → aldI (mW I L ru) 59 (nI i) = some (I 59 i)) ∧
  (i < 64 → aldI (mW I L ru) 61 (nI i) = some (I 61 i)) ∧
  (i < 512 → aldI (mW I L ru) 62 (nI i) = some (I 62 i)) ∧
  (i < 512 → aldI (mW I L ru) 64 (nI i) = some (I 64 i)) ∧
  (i < 512 → aldI (mW I L ru) 65 (nI i) = some (I 65 i)) ∧
  (i < 6 → aldI (mW I L ru) 66 (nI i) = some (I 66 i)) :=
  ⟨fun h => aI_of sh_4 h (by decide), fun h => aI_of sh_5 h (by decide), fun h => aI_of sh_6 h (by decide), fun h => aI_of sh_8 h (by decide), fun h => aI_of sh_9 h (by decide), fun h => aI_of sh_10 h (by decide), fun h => aI_of sh_11 h (by decide), fun h => aI_of sh_12 h (by decide), fun h => aI_of sh_13 h (by decide), fun h => aI_of sh_16 h (by decide), fun h => aI_of sh_17 h (by decide), fun h => aI_of sh_18 h (by decide), fun h => aI_of sh_20 h (by decide), fun h => aI_of sh_21 h (by decide), fun h => aI_of sh_22 h (by decide), fun h => aI_of sh_23 h (by decide), fun h => aI_of sh_24 h (by decide), fun h => aI_of sh_25 h (by decide), fun h => aI_of sh_35 h (by decide), fun h => aI_of sh_36 h (by decide), fun h => aI_of sh_37 h (by decide), fun h => aI_of sh_40 h (by decide), fun h => aI_of sh_41 h (by decide), fun h => aI_of sh_42 h (by decide), fun h => aI_of sh_44 h (by decide), fun h => aI_of sh_45 h (by decide), fun h => aI_of sh_46 h (by decide), fun h => aI_of sh_48 h (by decide), fun h => aI_of sh_49 h (by decide), fun h => aI_of sh_50 h (by decide), fun h => aI_of sh_53 h (by decide), fun h => aI_of sh_54 h (by decide), fun h => aI_of sh_58 h (by decide), fun h => aI_of sh_59 h (by decide), fun h => aI_of sh_61 h (by decide), fun h => aI_of sh_62 h (by decide), fun h => aI_of sh_64 h (by decide), fun h => aI_of sh_65 h (by decide), fun h => aI_of sh_66 h (by decide)⟩
theorem sIx (I : Nat → Nat → Int32) (L : Nat → Nat → Int64) (ru : Nat) (i : Nat) (v : Int32) :
  (i < 6 → astI (mW I L ru) 4 (nI i) v = some (mW (u2 I 4 i v) L ru)) ∧
  (i < 6 → astI (mW I L ru) 5 (nI i) v = some (mW (u2 I 5 i v) L ru)) ∧
  (i < 6 → astI (mW I L ru) 6 (nI i) v = some (mW (u2 I 6 i v) L ru)) ∧
  (i < 64 → astI (mW I L ru) 8 (nI i) v = some (mW (u2 I 8 i v) L ru)) ∧
  (i < 64 → astI (mW I L ru) 9 (nI i) v = some (mW (u2 I 9 i v) L ru)) ∧
  (i < 64 → astI (mW I L ru) 10 (nI i) v = some (mW (u2 I 10 i v) L ru)) ∧
  (i < 64 → astI (mW I L ru) 11 (nI i) v = some (mW (u2 I 11 i v) L ru)) ∧
  (i < 64 → astI (mW I L ru) 12 (nI i) v = some (mW (u2 I 12 i v) L ru)) ∧
  (i < 64 → astI (mW I L ru) 13 (nI i) v = some (mW (u2 I 13 i v) L ru)) ∧
  (i < 6 → astI (mW I L ru) 16 (nI i) v = some (mW (u2 I 16 i v) L ru)) ∧
  (i < 6 → astI (mW I L ru) 17 (nI i) v = some (mW (u2 I 17 i v) L ru)) ∧
  (i < 6 → astI (mW I L ru) 18 (nI i) v = some (mW (u2 I 18 i v) L ru)) ∧
  (i < 64 → astI (mW I L ru) 20 (nI i) v = some (mW (u2 I 20 i v) L ru)) ∧
  (i < 64 → astI (mW I L ru) 21 (nI i) v = some (mW (u2 I 21 i v) L ru)) ∧
  (i < 64 → astI (mW I L ru) 22 (nI i) v = some (mW (u2 I 22 i v) L ru)) ∧
  (i < 64 → astI (mW I L ru) 23 (nI i) v = some (mW (u2 I 23 i v) L ru)) ∧
  (i < 64 → astI (mW I L ru) 24 (nI i) v = some (mW (u2 I 24 i v) L ru)) ∧
  (i < 64 → astI (mW I L ru) 25 (nI i) v = some (mW (u2 I 25 i v) L ru)) ∧
  (i < 6 → astI (mW I L ru) 35 (nI i) v = some (mW (u2 I 35 i v) L ru)) ∧
  (i < 6 → astI (mW I L ru) 36 (nI i) v = some (mW (u2 I 36 i v) L ru)) ∧
  (i < 40 → astI (mW I L ru) 37 (nI i) v = some (mW (u2 I 37 i v) L ru)) ∧
  (i < 6 → astI (mW I L ru) 40 (nI i) v = some (mW (u2 I 40 i v) L ru)) ∧
  (i < 6 → astI (mW I L ru) 41 (nI i) v = some (mW (u2 I 41 i v) L ru)) ∧
  (i < 40 → astI (mW I L ru) 42 (nI i) v = some (mW (u2 I 42 i v) L ru)) ∧
  (i < 6 → astI (mW I L ru) 44 (nI i) v = some (mW (u2 I 44 i v) L ru)) ∧
  (i < 6 → astI (mW I L ru) 45 (nI i) v = some (mW (u2 I 45 i v) L ru)) ∧
  (i < 40 → astI (mW I L ru) 46 (nI i) v = some (mW (u2 I 46 i v) L ru)) ∧
  (i < 512 → astI (mW I L ru) 48 (nI i) v = some (mW (u2 I 48 i v) L ru)) ∧
  (i < 512 → astI (mW I L ru) 49 (nI i) v = some (mW (u2 I 49 i v) L ru)) ∧
  (i < 512 → astI (mW I L ru) 50 (nI i) v = some (mW (u2 I 50 i v) L ru)) ∧
  (i < 512 → astI (mW I L ru) 53 (nI i) v = some (mW (u2 I 53 i v) L ru)) ∧
  (i < 6 → astI (mW I L ru) 54 (nI i) v = some (mW (u2 I 54 i v) L ru)) ∧
  (i < 401 → astI (mW I L ru) 58 (nI i) v = some (mW (u2 I 58 i v) L ru)) ∧
  (i < 400 → astI (mW I L ru) 59 (nI i) v = some (mW (u2 I 59 i v) L ru)) ∧
  (i < 64 → astI (mW I L ru) 61 (nI i) v = some (mW (u2 I 61 i v) L ru)) ∧
  (i < 512 → astI (mW I L ru) 62 (nI i) v = some (mW (u2 I 62 i v) L ru)) ∧
  (i < 512 → astI (mW I L ru) 64 (nI i) v = some (mW (u2 I 64 i v) L ru)) ∧
  (i < 512 → astI (mW I L ru) 65 (nI i) v = some (mW (u2 I 65 i v) L ru)) ∧
  (i < 6 → astI (mW I L ru) 66 (nI i) v = some (mW (u2 I 66 i v) L ru)) :=
  ⟨fun h => sI_of sh_4 h (by decide), fun h => sI_of sh_5 h (by decide), fun h => sI_of sh_6 h (by decide), fun h => sI_of sh_8 h (by decide), fun h => sI_of sh_9 h (by decide), fun h => sI_of sh_10 h (by decide), fun h => sI_of sh_11 h (by decide), fun h => sI_of sh_12 h (by decide), fun h => sI_of sh_13 h (by decide), fun h => sI_of sh_16 h (by decide), fun h => sI_of sh_17 h (by decide), fun h => sI_of sh_18 h (by decide), fun h => sI_of sh_20 h (by decide), fun h => sI_of sh_21 h (by decide), fun h => sI_of sh_22 h (by decide), fun h => sI_of sh_23 h (by decide), fun h => sI_of sh_24 h (by decide), fun h => sI_of sh_25 h (by decide), fun h => sI_of sh_35 h (by decide), fun h => sI_of sh_36 h (by decide), fun h => sI_of sh_37 h (by decide), fun h => sI_of sh_40 h (by decide), fun h => sI_of sh_41 h (by decide), fun h => sI_of sh_42 h (by decide), fun h => sI_of sh_44 h (by decide), fun h => sI_of sh_45 h (by decide), fun h => sI_of sh_46 h (by decide), fun h => sI_of sh_48 h (by decide), fun h => sI_of sh_49 h (by decide), fun h => sI_of sh_50 h (by decide), fun h => sI_of sh_53 h (by decide), fun h => sI_of sh_54 h (by decide), fun h => sI_of sh_58 h (by decide), fun h => sI_of sh_59 h (by decide), fun h => sI_of sh_61 h (by decide), fun h => sI_of sh_62 h (by decide), fun h => sI_of sh_64 h (by decide), fun h => sI_of sh_65 h (by decide), fun h => sI_of sh_66 h (by decide)⟩
theorem aBx (I : Nat → Nat → Int32) (L : Nat → Nat → Int64) (ru : Nat) (i : Nat) :
  (i < 64 → aldB (mW I L ru) 14 (nI i) = some (I 14 i)) ∧
  (i < 64 → aldB (mW I L ru) 26 (nI i) = some (I 26 i)) ∧
  (i < 300 → aldB (mW I L ru) 2 (nI i) = some (I 2 i)) :=
  ⟨fun h => aB_of sh_14 (Or.inr rfl) h (by decide), fun h => aB_of sh_26 (Or.inr rfl) h (by decide), fun h => aB_of sh_2 (Or.inl rfl) h (by decide)⟩
theorem sBx (I : Nat → Nat → Int32) (L : Nat → Nat → Int64) (ru : Nat) (i : Nat) (v : Int32) :
  (i < 64 → astB (mW I L ru) 14 (nI i) v = some (mW (u2 I 14 i (v &&& 1)) L ru)) ∧
  (i < 64 → astB (mW I L ru) 26 (nI i) v = some (mW (u2 I 26 i (v &&& 1)) L ru)) ∧
  (i < 300 → astB (mW I L ru) 2 (nI i) v = some (mW (u2 I 2 i (v.toInt8.toInt32)) L ru)) :=
  ⟨fun h => sZ_of sh_14 h (by decide), fun h => sZ_of sh_26 h (by decide), fun h => sB_of sh_2 h (by decide)⟩
theorem lenx (I : Nat → Nat → Int32) (L : Nat → Nat → Int64) (ru : Nat)  :
  alen (mW I L ru) 4 = some (nI 6) ∧
  alen (mW I L ru) 5 = some (nI 6) ∧
  alen (mW I L ru) 6 = some (nI 6) ∧
  alen (mW I L ru) 8 = some (nI 64) ∧
  alen (mW I L ru) 9 = some (nI 64) ∧
  alen (mW I L ru) 10 = some (nI 64) ∧
  alen (mW I L ru) 11 = some (nI 64) ∧
  alen (mW I L ru) 12 = some (nI 64) ∧
  alen (mW I L ru) 13 = some (nI 64) ∧
  alen (mW I L ru) 16 = some (nI 6) ∧
  alen (mW I L ru) 17 = some (nI 6) ∧
  alen (mW I L ru) 18 = some (nI 6) ∧
  alen (mW I L ru) 20 = some (nI 64) ∧
  alen (mW I L ru) 21 = some (nI 64) ∧
  alen (mW I L ru) 22 = some (nI 64) ∧
  alen (mW I L ru) 23 = some (nI 64) ∧
  alen (mW I L ru) 24 = some (nI 64) ∧
  alen (mW I L ru) 25 = some (nI 64) ∧
  alen (mW I L ru) 35 = some (nI 6) ∧
  alen (mW I L ru) 36 = some (nI 6) ∧
  alen (mW I L ru) 37 = some (nI 40) ∧
  alen (mW I L ru) 40 = some (nI 6) ∧
  alen (mW I L ru) 41 = some (nI 6) ∧
  alen (mW I L ru) 42 = some (nI 40) ∧
  alen (mW I L ru) 44 = some (nI 6) ∧
  alen (mW I L ru) 45 = some (nI 6) ∧
  alen (mW I L ru) 46 = some (nI 40) ∧
  alen (mW I L ru) 48 = some (nI 512) ∧
  alen (mW I L ru) 49 = some (nI 512) ∧
  alen (mW I L ru) 50 = some (nI 512) ∧
  alen (mW I L ru) 53 = some (nI 512) ∧
  alen (mW I L ru) 54 = some (nI 6) ∧
  alen (mW I L ru) 58 = some (nI 401) ∧
  alen (mW I L ru) 59 = some (nI 400) ∧
  alen (mW I L ru) 61 = some (nI 64) ∧
  alen (mW I L ru) 62 = some (nI 512) ∧
  alen (mW I L ru) 64 = some (nI 512) ∧
  alen (mW I L ru) 65 = some (nI 512) ∧
  alen (mW I L ru) 66 = some (nI 6) ∧
  alen (mW I L ru) 14 = some (nI 64) ∧
  alen (mW I L ru) 26 = some (nI 64) ∧
  alen (mW I L ru) 2 = some (nI 300) ∧
  alen (mW I L ru) 63 = some (nI 512) :=
  ⟨len_of sh_4 (by decide), len_of sh_5 (by decide), len_of sh_6 (by decide), len_of sh_8 (by decide), len_of sh_9 (by decide), len_of sh_10 (by decide), len_of sh_11 (by decide), len_of sh_12 (by decide), len_of sh_13 (by decide), len_of sh_16 (by decide), len_of sh_17 (by decide), len_of sh_18 (by decide), len_of sh_20 (by decide), len_of sh_21 (by decide), len_of sh_22 (by decide), len_of sh_23 (by decide), len_of sh_24 (by decide), len_of sh_25 (by decide), len_of sh_35 (by decide), len_of sh_36 (by decide), len_of sh_37 (by decide), len_of sh_40 (by decide), len_of sh_41 (by decide), len_of sh_42 (by decide), len_of sh_44 (by decide), len_of sh_45 (by decide), len_of sh_46 (by decide), len_of sh_48 (by decide), len_of sh_49 (by decide), len_of sh_50 (by decide), len_of sh_53 (by decide), len_of sh_54 (by decide), len_of sh_58 (by decide), len_of sh_59 (by decide), len_of sh_61 (by decide), len_of sh_62 (by decide), len_of sh_64 (by decide), len_of sh_65 (by decide), len_of sh_66 (by decide), len_of sh_14 (by decide), len_of sh_26 (by decide), len_of sh_2 (by decide), len_of sh_63 (by decide)⟩
theorem clx :
  (nwS 0).map (fun q => q.1) = some 10 ∧
  (nwS 1).map (fun q => q.1) = some 9 ∧
  (nwS 3).map (fun q => q.1) = some 6 ∧
  (nwS 15).map (fun q => q.1) = some 6 ∧
  (nwS 27).map (fun q => q.1) = some 7 ∧
  (nwS 29).map (fun q => q.1) = some 5 ∧
  (nwS 30).map (fun q => q.1) = some 5 ∧
  (nwS 31).map (fun q => q.1) = some 5 ∧
  (nwS 32).map (fun q => q.1) = some 5 ∧
  (nwS 33).map (fun q => q.1) = some 5 ∧
  (nwS 34).map (fun q => q.1) = some 3 ∧
  (nwS 39).map (fun q => q.1) = some 3 ∧
  (nwS 43).map (fun q => q.1) = some 3 ∧
  (nwS 47).map (fun q => q.1) = some 2 ∧
  (nwS 51).map (fun q => q.1) = some 8 ∧
  (nwS 52).map (fun q => q.1) = some 0 ∧
  (nwS 55).map (fun q => q.1) = some 8 ∧
  (nwS 56).map (fun q => q.1) = some 4 ∧
  (nwS 57).map (fun q => q.1) = some 8 ∧
  (nwS 60).map (fun q => q.1) = some 1 :=
  ⟨cls_of sh_0, cls_of sh_1, cls_of sh_3, cls_of sh_15, cls_of sh_27, cls_of sh_29, cls_of sh_30, cls_of sh_31, cls_of sh_32, cls_of sh_33, cls_of sh_34, cls_of sh_39, cls_of sh_43, cls_of sh_47, cls_of sh_51, cls_of sh_52, cls_of sh_55, cls_of sh_56, cls_of sh_57, cls_of sh_60⟩
theorem gIm (I : Nat → Nat → Int32) (L : Nat → Nat → Int64) (ru : Nat) (j : Nat) :
  getI (mW I L ru) 11 67 j = some (I 67 j) :=
  gI_of sh_67
theorem pIm (I : Nat → Nat → Int32) (L : Nat → Nat → Int64) (ru : Nat) (j : Nat) (v : Int32) :
  putI (mW I L ru) 11 67 j v = some (mW (u2 I 67 j v) L ru) :=
  pI_of sh_67
theorem pZm (I : Nat → Nat → Int32) (L : Nat → Nat → Int64) (ru : Nat) (j : Nat) :
  putZ (mW I L ru) 11 67 j (nI 0) = some (mW (u2 I 67 j (nI 0)) L ru) ∧
  putZ (mW I L ru) 11 67 j (nI 1) = some (mW (u2 I 67 j (nI 1)) L ru) :=
  ⟨pZ_of sh_67 (Or.inl rfl), pZ_of sh_67 (Or.inr rfl)⟩
theorem gRm (I : Nat → Nat → Int32) (L : Nat → Nat → Int64) (ru : Nat)  :
  getR (mW I L ru) 11 67 2 = some 68 ∧
  getR (mW I L ru) 11 67 7 = some 69 ∧
  getR (mW I L ru) 11 67 8 = some 70 ∧
  getR (mW I L ru) 11 67 9 = some 71 ∧
  getR (mW I L ru) 11 67 10 = some 72 ∧
  getR (mW I L ru) 11 67 11 = some 73 ∧
  getR (mW I L ru) 11 67 12 = some 74 ∧
  getR (mW I L ru) 11 67 13 = some 75 ∧
  getR (mW I L ru) 11 67 14 = some 76 ∧
  getR (mW I L ru) 11 67 24 = some 77 ∧
  getR (mW I L ru) 11 67 29 = some 78 ∧
  getR (mW I L ru) 11 67 30 = some 79 ∧
  getR (mW I L ru) 11 67 31 = some 80 ∧
  getR (mW I L ru) 11 67 32 = some 81 ∧
  getR (mW I L ru) 11 67 35 = some 82 ∧
  getR (mW I L ru) 11 67 36 = some 83 ∧
  getR (mW I L ru) 11 67 38 = some 84 ∧
  getR (mW I L ru) 11 67 44 = some 85 ∧
  getR (mW I L ru) 11 67 48 = some 86 ∧
  getR (mW I L ru) 11 67 49 = some 87 ∧
  getR (mW I L ru) 11 67 50 = some 88 ∧
  getR (mW I L ru) 11 67 51 = some 89 ∧
  getR (mW I L ru) 11 67 57 = some 90 ∧
  getR (mW I L ru) 11 67 58 = some 91 ∧
  getR (mW I L ru) 11 67 59 = some 92 ∧
  getR (mW I L ru) 11 67 61 = some 93 ∧
  getR (mW I L ru) 11 67 62 = some 94 :=
  ⟨gR_of sh_67 (rr_67_2 ru), gR_of sh_67 (rr_67_7 ru), gR_of sh_67 (rr_67_8 ru), gR_of sh_67 (rr_67_9 ru), gR_of sh_67 (rr_67_10 ru), gR_of sh_67 (rr_67_11 ru), gR_of sh_67 (rr_67_12 ru), gR_of sh_67 (rr_67_13 ru), gR_of sh_67 (rr_67_14 ru), gR_of sh_67 (rr_67_24 ru), gR_of sh_67 (rr_67_29 ru), gR_of sh_67 (rr_67_30 ru), gR_of sh_67 (rr_67_31 ru), gR_of sh_67 (rr_67_32 ru), gR_of sh_67 (rr_67_35 ru), gR_of sh_67 (rr_67_36 ru), gR_of sh_67 (rr_67_38 ru), gR_of sh_67 (rr_67_44 ru), gR_of sh_67 (rr_67_48 ru), gR_of sh_67 (rr_67_49 ru), gR_of sh_67 (rr_67_50 ru), gR_of sh_67 (rr_67_51 ru), gR_of sh_67 (rr_67_57 ru), gR_of sh_67 (rr_67_58 ru), gR_of sh_67 (rr_67_59 ru), gR_of sh_67 (rr_67_61 ru), gR_of sh_67 (rr_67_62 ru)⟩
theorem aIm (I : Nat → Nat → Int32) (L : Nat → Nat → Int64) (ru : Nat) (i : Nat) :
  (i < 6 → aldI (mW I L ru) 69 (nI i) = some (I 69 i)) ∧
  (i < 6 → aldI (mW I L ru) 70 (nI i) = some (I 70 i)) ∧
  (i < 384 → aldI (mW I L ru) 71 (nI i) = some (I 71 i)) ∧
  (i < 6 → aldI (mW I L ru) 72 (nI i) = some (I 72 i)) ∧
  (i < 6 → aldI (mW I L ru) 73 (nI i) = some (I 73 i)) ∧
  (i < 384 → aldI (mW I L ru) 74 (nI i) = some (I 74 i)) ∧
  (i < 6 → aldI (mW I L ru) 75 (nI i) = some (I 75 i)) ∧
  (i < 300 → aldI (mW I L ru) 76 (nI i) = some (I 76 i)) ∧
  (i < 6 → aldI (mW I L ru) 78 (nI i) = some (I 78 i)) ∧
  (i < 6 → aldI (mW I L ru) 79 (nI i) = some (I 79 i)) ∧
  (i < 384 → aldI (mW I L ru) 80 (nI i) = some (I 80 i)) ∧
  (i < 3072 → aldI (mW I L ru) 82 (nI i) = some (I 82 i)) ∧
  (i < 6 → aldI (mW I L ru) 83 (nI i) = some (I 83 i)) ∧
  (i < 20 → aldI (mW I L ru) 84 (nI i) = some (I 84 i)) ∧
  (i < 5 → aldI (mW I L ru) 85 (nI i) = some (I 85 i)) ∧
  (i < 401 → aldI (mW I L ru) 86 (nI i) = some (I 86 i)) ∧
  (i < 401 → aldI (mW I L ru) 87 (nI i) = some (I 87 i)) ∧
  (i < 401 → aldI (mW I L ru) 88 (nI i) = some (I 88 i)) ∧
  (i < 400 → aldI (mW I L ru) 89 (nI i) = some (I 89 i)) ∧
  (i < 40 → aldI (mW I L ru) 90 (nI i) = some (I 90 i)) ∧
  (i < 12800 → aldI (mW I L ru) 91 (nI i) = some (I 91 i)) ∧
  (i < 6 → aldI (mW I L ru) 92 (nI i) = some (I 92 i)) ∧
  (i < 120 → aldI (mW I L ru) 93 (nI i) = some (I 93 i)) :=
  ⟨fun h => aI_of sh_69 h (by decide), fun h => aI_of sh_70 h (by decide), fun h => aI_of sh_71 h (by decide), fun h => aI_of sh_72 h (by decide), fun h => aI_of sh_73 h (by decide), fun h => aI_of sh_74 h (by decide), fun h => aI_of sh_75 h (by decide), fun h => aI_of sh_76 h (by decide), fun h => aI_of sh_78 h (by decide), fun h => aI_of sh_79 h (by decide), fun h => aI_of sh_80 h (by decide), fun h => aI_of sh_82 h (by decide), fun h => aI_of sh_83 h (by decide), fun h => aI_of sh_84 h (by decide), fun h => aI_of sh_85 h (by decide), fun h => aI_of sh_86 h (by decide), fun h => aI_of sh_87 h (by decide), fun h => aI_of sh_88 h (by decide), fun h => aI_of sh_89 h (by decide), fun h => aI_of sh_90 h (by decide), fun h => aI_of sh_91 h (by decide), fun h => aI_of sh_92 h (by decide), fun h => aI_of sh_93 h (by decide)⟩
theorem sIm (I : Nat → Nat → Int32) (L : Nat → Nat → Int64) (ru : Nat) (i : Nat) (v : Int32) :
  (i < 6 → astI (mW I L ru) 69 (nI i) v = some (mW (u2 I 69 i v) L ru)) ∧
  (i < 6 → astI (mW I L ru) 70 (nI i) v = some (mW (u2 I 70 i v) L ru)) ∧
  (i < 384 → astI (mW I L ru) 71 (nI i) v = some (mW (u2 I 71 i v) L ru)) ∧
  (i < 6 → astI (mW I L ru) 72 (nI i) v = some (mW (u2 I 72 i v) L ru)) ∧
  (i < 6 → astI (mW I L ru) 73 (nI i) v = some (mW (u2 I 73 i v) L ru)) ∧
  (i < 384 → astI (mW I L ru) 74 (nI i) v = some (mW (u2 I 74 i v) L ru)) ∧
  (i < 6 → astI (mW I L ru) 75 (nI i) v = some (mW (u2 I 75 i v) L ru)) ∧
  (i < 300 → astI (mW I L ru) 76 (nI i) v = some (mW (u2 I 76 i v) L ru)) ∧
  (i < 6 → astI (mW I L ru) 78 (nI i) v = some (mW (u2 I 78 i v) L ru)) ∧
  (i < 6 → astI (mW I L ru) 79 (nI i) v = some (mW (u2 I 79 i v) L ru)) ∧
  (i < 384 → astI (mW I L ru) 80 (nI i) v = some (mW (u2 I 80 i v) L ru)) ∧
  (i < 3072 → astI (mW I L ru) 82 (nI i) v = some (mW (u2 I 82 i v) L ru)) ∧
  (i < 6 → astI (mW I L ru) 83 (nI i) v = some (mW (u2 I 83 i v) L ru)) ∧
  (i < 20 → astI (mW I L ru) 84 (nI i) v = some (mW (u2 I 84 i v) L ru)) ∧
  (i < 5 → astI (mW I L ru) 85 (nI i) v = some (mW (u2 I 85 i v) L ru)) ∧
  (i < 401 → astI (mW I L ru) 86 (nI i) v = some (mW (u2 I 86 i v) L ru)) ∧
  (i < 401 → astI (mW I L ru) 87 (nI i) v = some (mW (u2 I 87 i v) L ru)) ∧
  (i < 401 → astI (mW I L ru) 88 (nI i) v = some (mW (u2 I 88 i v) L ru)) ∧
  (i < 400 → astI (mW I L ru) 89 (nI i) v = some (mW (u2 I 89 i v) L ru)) ∧
  (i < 40 → astI (mW I L ru) 90 (nI i) v = some (mW (u2 I 90 i v) L ru)) ∧
  (i < 12800 → astI (mW I L ru) 91 (nI i) v = some (mW (u2 I 91 i v) L ru)) ∧
  (i < 6 → astI (mW I L ru) 92 (nI i) v = some (mW (u2 I 92 i v) L ru)) ∧
  (i < 120 → astI (mW I L ru) 93 (nI i) v = some (mW (u2 I 93 i v) L ru)) :=
  ⟨fun h => sI_of sh_69 h (by decide), fun h => sI_of sh_70 h (by decide), fun h => sI_of sh_71 h (by decide), fun h => sI_of sh_72 h (by decide), fun h => sI_of sh_73 h (by decide), fun h => sI_of sh_74 h (by decide), fun h => sI_of sh_75 h (by decide), fun h => sI_of sh_76 h (by decide), fun h => sI_of sh_78 h (by decide), fun h => sI_of sh_79 h (by decide), fun h => sI_of sh_80 h (by decide), fun h => sI_of sh_82 h (by decide), fun h => sI_of sh_83 h (by decide), fun h => sI_of sh_84 h (by decide), fun h => sI_of sh_85 h (by decide), fun h => sI_of sh_86 h (by decide), fun h => sI_of sh_87 h (by decide), fun h => sI_of sh_88 h (by decide), fun h => sI_of sh_89 h (by decide), fun h => sI_of sh_90 h (by decide), fun h => sI_of sh_91 h (by decide), fun h => sI_of sh_92 h (by decide), fun h => sI_of sh_93 h (by decide)⟩
theorem aBm (I : Nat → Nat → Int32) (L : Nat → Nat → Int64) (ru : Nat) (i : Nat) :
  (i < 64 → aldB (mW I L ru) 68 (nI i) = some (I 68 i)) ∧
  (i < 64 → aldB (mW I L ru) 77 (nI i) = some (I 77 i)) ∧
  (i < 64 → aldB (mW I L ru) 81 (nI i) = some (I 81 i)) ∧
  (i < 2 → aldB (mW I L ru) 94 (nI i) = some (I 94 i)) :=
  ⟨fun h => aB_of sh_68 (Or.inr rfl) h (by decide), fun h => aB_of sh_77 (Or.inr rfl) h (by decide), fun h => aB_of sh_81 (Or.inr rfl) h (by decide), fun h => aB_of sh_94 (Or.inr rfl) h (by decide)⟩
theorem sBm (I : Nat → Nat → Int32) (L : Nat → Nat → Int64) (ru : Nat) (i : Nat) (v : Int32) :
  (i < 64 → astB (mW I L ru) 68 (nI i) v = some (mW (u2 I 68 i (v &&& 1)) L ru)) ∧
  (i < 64 → astB (mW I L ru) 77 (nI i) v = some (mW (u2 I 77 i (v &&& 1)) L ru)) ∧
  (i < 64 → astB (mW I L ru) 81 (nI i) v = some (mW (u2 I 81 i (v &&& 1)) L ru)) ∧
  (i < 2 → astB (mW I L ru) 94 (nI i) v = some (mW (u2 I 94 i (v &&& 1)) L ru)) :=
  ⟨fun h => sZ_of sh_68 h (by decide), fun h => sZ_of sh_77 h (by decide), fun h => sZ_of sh_81 h (by decide), fun h => sZ_of sh_94 h (by decide)⟩
theorem lenm (I : Nat → Nat → Int32) (L : Nat → Nat → Int64) (ru : Nat)  :
  alen (mW I L ru) 69 = some (nI 6) ∧
  alen (mW I L ru) 70 = some (nI 6) ∧
  alen (mW I L ru) 71 = some (nI 384) ∧
  alen (mW I L ru) 72 = some (nI 6) ∧
  alen (mW I L ru) 73 = some (nI 6) ∧
  alen (mW I L ru) 74 = some (nI 384) ∧
  alen (mW I L ru) 75 = some (nI 6) ∧
  alen (mW I L ru) 76 = some (nI 300) ∧
  alen (mW I L ru) 78 = some (nI 6) ∧
  alen (mW I L ru) 79 = some (nI 6) ∧
  alen (mW I L ru) 80 = some (nI 384) ∧
  alen (mW I L ru) 82 = some (nI 3072) ∧
  alen (mW I L ru) 83 = some (nI 6) ∧
  alen (mW I L ru) 84 = some (nI 20) ∧
  alen (mW I L ru) 85 = some (nI 5) ∧
  alen (mW I L ru) 86 = some (nI 401) ∧
  alen (mW I L ru) 87 = some (nI 401) ∧
  alen (mW I L ru) 88 = some (nI 401) ∧
  alen (mW I L ru) 89 = some (nI 400) ∧
  alen (mW I L ru) 90 = some (nI 40) ∧
  alen (mW I L ru) 91 = some (nI 12800) ∧
  alen (mW I L ru) 92 = some (nI 6) ∧
  alen (mW I L ru) 93 = some (nI 120) ∧
  alen (mW I L ru) 68 = some (nI 64) ∧
  alen (mW I L ru) 77 = some (nI 64) ∧
  alen (mW I L ru) 81 = some (nI 64) ∧
  alen (mW I L ru) 94 = some (nI 2) :=
  ⟨len_of sh_69 (by decide), len_of sh_70 (by decide), len_of sh_71 (by decide), len_of sh_72 (by decide), len_of sh_73 (by decide), len_of sh_74 (by decide), len_of sh_75 (by decide), len_of sh_76 (by decide), len_of sh_78 (by decide), len_of sh_79 (by decide), len_of sh_80 (by decide), len_of sh_82 (by decide), len_of sh_83 (by decide), len_of sh_84 (by decide), len_of sh_85 (by decide), len_of sh_86 (by decide), len_of sh_87 (by decide), len_of sh_88 (by decide), len_of sh_89 (by decide), len_of sh_90 (by decide), len_of sh_91 (by decide), len_of sh_92 (by decide), len_of sh_93 (by decide), len_of sh_68 (by decide), len_of sh_77 (by decide), len_of sh_81 (by decide), len_of sh_94 (by decide)⟩
theorem clm :
  (nwS 67).map (fun q => q.1) = some 11 :=
  cls_of sh_67
theorem aLx (I : Nat → Nat → Int32) (L : Nat → Nat → Int64) (ru : Nat) (i : Nat) (h : i < 512) : aldL (mW I L ru) 63 (nI i) = some (L 63 i) := aL_of sh_63 h (by decide)
theorem sLx (I : Nat → Nat → Int32) (L : Nat → Nat → Int64) (ru : Nat) (i : Nat) (v : Int64) (h : i < 512) : astL (mW I L ru) 63 (nI i) v = some (mW I (u2 L 63 i v) ru) := sL_of sh_63 h (by decide)
theorem gLm (I : Nat → Nat → Int32) (L : Nat → Nat → Int64) (ru : Nat) (j : Nat) : getL (mW I L ru) 11 67 j = some (L 67 j) := gL_of sh_67
theorem pLm (I : Nat → Nat → Int32) (L : Nat → Nat → Int64) (ru : Nat) (j : Nat) (v : Int64) : putL (mW I L ru) 11 67 j v = some (mW I (u2 L 67 j v) ru) := pL_of sh_67
theorem pRx (I : Nat → Nat → Int32) (L : Nat → Nat → Int64) (ru : Nat) (r : Nat) : putR (mW I L ru) 0 52 2 r = some (mW I L r) := pR_of sh_52
theorem ruleR (I : Nat → Nat → Int32) (L : Nat → Nat → Int64) (ru : Nat) (i : Nat) (h : i < 4) : aldR (mW I L ru) 28 (nI i) = some (29 + i) := by
  have hh : i = 0 ∨ i = 1 ∨ i = 2 ∨ i = 3 := by omega
  rcases hh with rfl | rfl | rfl | rfl
  · exact aR_of sh_28 (by decide) (by decide) (by decide) (rr_28_0 ru)
  · exact aR_of sh_28 (by decide) (by decide) (by decide) (rr_28_1 ru)
  · exact aR_of sh_28 (by decide) (by decide) (by decide) (rr_28_2 ru)
  · exact aR_of sh_28 (by decide) (by decide) (by decide) (rr_28_3 ru)
theorem ruleRS (i : Nat) (h : i < 4) : nwS (29 + i) = some (5, 5) := by
  have hh : i = 0 ∨ i = 1 ∨ i = 2 ∨ i = 3 := by omega
  rcases hh with rfl | rfl | rfl | rfl
  · exact sh_29
  · exact sh_30
  · exact sh_31
  · exact sh_32
theorem imgR (I : Nat → Nat → Int32) (L : Nat → Nat → Int64) (ru : Nat) (i : Nat) (h : i < 2) : aldR (mW I L ru) 38 (nI i) = some (39 + 4 * i) := by
  have hh : i = 0 ∨ i = 1 := by omega
  rcases hh with rfl | rfl
  · exact aR_of sh_38 (by decide) (by decide) (by decide) (rr_38_0 ru)
  · exact aR_of sh_38 (by decide) (by decide) (by decide) (rr_38_1 ru)
theorem imgRS (i : Nat) (h : i < 2) : nwS (39 + 4 * i) = some (3, 6) := by
  have hh : i = 0 ∨ i = 1 := by omega
  rcases hh with rfl | rfl
  · exact sh_39
  · exact sh_43
theorem wthR (I : Nat → Nat → Int32) (L : Nat → Nat → Int64) (ru : Nat) (i : Nat) (h : i < 6) : aldR (mW I L ru) 7 (nI i) = some (8 + i) := by
  have hh : i = 0 ∨ i = 1 ∨ i = 2 ∨ i = 3 ∨ i = 4 ∨ i = 5 := by omega
  rcases hh with rfl | rfl | rfl | rfl | rfl | rfl
  · exact aR_of sh_7 (by decide) (by decide) (by decide) (rr_7_0 ru)
  · exact aR_of sh_7 (by decide) (by decide) (by decide) (rr_7_1 ru)
  · exact aR_of sh_7 (by decide) (by decide) (by decide) (rr_7_2 ru)
  · exact aR_of sh_7 (by decide) (by decide) (by decide) (rr_7_3 ru)
  · exact aR_of sh_7 (by decide) (by decide) (by decide) (rr_7_4 ru)
  · exact aR_of sh_7 (by decide) (by decide) (by decide) (rr_7_5 ru)
theorem wthRS (i : Nat) (h : i < 6) : nwS (8 + i) = some (20, 64) := by
  have hh : i = 0 ∨ i = 1 ∨ i = 2 ∨ i = 3 ∨ i = 4 ∨ i = 5 := by omega
  rcases hh with rfl | rfl | rfl | rfl | rfl | rfl
  · exact sh_8
  · exact sh_9
  · exact sh_10
  · exact sh_11
  · exact sh_12
  · exact sh_13
theorem wthD (I : Nat → Nat → Int32) (L : Nat → Nat → Int64) (ru : Nat) (i : Nat) (h : i < 6) : aldR (mW I L ru) 19 (nI i) = some (20 + i) := by
  have hh : i = 0 ∨ i = 1 ∨ i = 2 ∨ i = 3 ∨ i = 4 ∨ i = 5 := by omega
  rcases hh with rfl | rfl | rfl | rfl | rfl | rfl
  · exact aR_of sh_19 (by decide) (by decide) (by decide) (rr_19_0 ru)
  · exact aR_of sh_19 (by decide) (by decide) (by decide) (rr_19_1 ru)
  · exact aR_of sh_19 (by decide) (by decide) (by decide) (rr_19_2 ru)
  · exact aR_of sh_19 (by decide) (by decide) (by decide) (rr_19_3 ru)
  · exact aR_of sh_19 (by decide) (by decide) (by decide) (rr_19_4 ru)
  · exact aR_of sh_19 (by decide) (by decide) (by decide) (rr_19_5 ru)
theorem wthDS (i : Nat) (h : i < 6) : nwS (20 + i) = some (20, 64) := by
  have hh : i = 0 ∨ i = 1 ∨ i = 2 ∨ i = 3 ∨ i = 4 ∨ i = 5 := by omega
  rcases hh with rfl | rfl | rfl | rfl | rfl | rfl
  · exact sh_20
  · exact sh_21
  · exact sh_22
  · exact sh_23
  · exact sh_24
  · exact sh_25
