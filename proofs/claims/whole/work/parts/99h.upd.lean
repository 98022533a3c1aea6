/-! BOTH TOGETHER: pictures that agree; the calls that change a little -/
/-- the sea is the same in both pictures -/
def AGs (A A' : St) : Prop := (∀ j, j ∈ [0, 1, 3, 4, 5, 6] → A' 67 j = A 67 j) ∧ ∀ k, k ∈ [68, 69, 70, 74, 75] → A' k = A k
section
variable {A A' : St}
theorem ag_ns (g : AGs A A') : nsN A' = nsN A := by unfold nsN; rw [g.1 6 (by decide)]
theorem ag_sh (g : AGs A A') : shN A' = shN A := by unfold shN; rw [g.1 0 (by decide)]
theorem ag_hd (g : AGs A A') : hdN A' = hdN A := by unfold hdN; rw [g.1 1 (by decide)]
theorem ag_de (g : AGs A A') : dEv A' = dEv A := by unfold dEv; rw [g.1 4 (by decide)]
theorem ag_dh (g : AGs A A') : dHd A' = dHd A := by unfold dHd; rw [g.1 3 (by decide)]
theorem ag_lag (g : AGs A A') : lagN A' = lagN A := by unfold lagN; rw [g.1 5 (by decide)]
theorem ag_per (g : AGs A A') : perN A' = perN A := funext fun s => by unfold perN; rw [g.2 69 (by decide)]
theorem ag_rk (g : AGs A A') : rkN A' = rkN A := funext fun s => by unfold rkN; rw [g.2 68 (by decide)]
theorem ag_gol (g : AGs A A') : golN A' = golN A := funext fun s => by unfold golN; rw [g.2 75 (by decide)]
theorem ag_all (g : AGs A A') : allN A' = allN A := by unfold allN; rw [ag_per g, ag_ns g]
theorem ag_wf (g : AGs A A') (h : WFs A) : WFs A' := by
  unfold WFs
  rw [ag_ns g, ag_sh g, ag_hd g, ag_de g, ag_dh g, ag_lag g, ag_per g, ag_rk g, g.1 0 (by decide), g.1 1 (by decide), g.1 3 (by decide), g.1 4 (by decide), g.1 5 (by decide), g.1 6 (by decide), g.2 68 (by decide), g.2 69 (by decide), g.2 74 (by decide), g.2 75 (by decide)]
  exact h
theorem ag_cs (g : AGs A A') {I : St} (h : CS I A) : CS I A' := by
  unfold CS
  rw [ag_ns g, ag_sh g, ag_hd g, ag_de g, ag_dh g, ag_lag g, ag_rk g, ag_all g, g.2 69 (by decide), g.2 70 (by decide), g.2 74 (by decide), g.2 75 (by decide)]
  exact h
theorem ag_off (g : AGs A A') : offN A' = offN A := funext fun s => funext fun c => funext fun h => funext fun k => by unfold offN; rw [ag_rk g, ag_gol g]
theorem ag_pln (g : AGs A A') : plnN A' = plnN A := funext fun s => funext fun c => funext fun h => by unfold plnN; rw [ag_off g, g.2 75 (by decide)]
theorem ag_wv (g : AGs A A') : wvZ A' = wvZ A := funext fun s => funext fun c => by unfold wvZ; rw [g.2 74 (by decide)]
theorem ag_fz (g : AGs A A') : fzZ A' = fzZ A := funext fun s => funext fun M => funext fun r => funext fun c => funext fun h => funext fun k => by unfold fzZ; rw [ag_rk g, ag_wv g]
theorem ag_bv (g : AGs A A') (s : Nat) : ∀ r, bvZ A' s r = bvZ A s r
  | 0 => rfl
  | r + 1 => by
    funext c h
    show fzZ A' s (bvZ A' s r) r c h (best3 (fun k => fzZ A' s (bvZ A' s r) r c h k)) = fzZ A s (bvZ A s r) r c h (best3 (fun k => fzZ A s (bvZ A s r) r c h k))
    rw [ag_bv g s r, ag_fz g]
theorem ag_ahd (g : AGs A A') : ahdN A' = ahdN A := funext fun s => funext fun r => funext fun c => funext fun h => by unfold ahdN; rw [ag_bv g, ag_fz g]
/-- and the ways -/
def AGw (A A' : St) : Prop := AGs A A' ∧ A' 72 = A 72 ∧ A' 73 = A 73
theorem ag_way (g : AGw A A') : wayN A' = wayN A := funext fun s => by unfold wayN; rw [g.2.1]
theorem ag_wby (g : AGw A A') : wByN A' = wByN A := funext fun s => by unfold wByN; rw [g.2.2]
theorem ag_tbc (g : AGw A A') : tbcN A' = tbcN A := funext fun s => funext fun c => funext fun h => by
  unfold tbcN tldN
  rw [ag_way g, ag_wby g, ag_pln g.1, ag_ahd g.1, g.2.2]
theorem ag_bl (g : AGw A A') : blD A' = blD A := funext fun m => funext fun s => by unfold blD; rw [ag_way g]
theorem ag_c3 (g : AGw A A') : c3N A' = c3N A := funext fun m => funext fun p => funext fun d => funext fun i => by unfold c3N; rw [ag_bl g, ag_per g.1]
theorem ag_pB (g : AGw A A') : pBN A' = pBN A := funext fun m => funext fun p => funext fun s => by unfold pBN; rw [ag_bl g, ag_c3 g, ag_ns g.1]
theorem ag_prs (g : AGw A A') : prsN A' = prsN A := funext fun c => funext fun h => by unfold prsN; rw [ag_pB g, ag_tbc g]
theorem ag_ch (g : AGw A A') {I : St} (h : CH I A) : CH I A' := by
  unfold CH
  rw [ag_ns g.1, g.2.1, g.2.2]
  exact h
theorem ag_pk (g : AGw A A') {I : St} (h : PK I A) : PK I A' := by
  unfold PK
  rw [ag_ns g.1, ag_prs g]
  exact h
theorem ag_cx (g : AGw A A') {I : St} (h : CXc I A) : CXc I A' := h.imp (fun z => z) fun z => ⟨z.1, ag_pk g z.2⟩
theorem ag_ca (g : AGw A A') {I : St} (h : CA I A) : CA I A' := by
  refine h.imp (fun z => z) fun z => ⟨z.1, ?_⟩
  have z := z.2
  unfold TB DN at z ⊢
  rw [ag_ns g.1, ag_rk g.1, ag_tbc g]
  exact z
end
/-- what a frame keeps of a picture -/
theorem mc_f {I A I2 : St} (hM : MC I A) {K F : List Nat} (f : Fr K F I I2) (h67 : 67 ∉ K) {j : Nat} (hj : j ∈ mcF) (hF : j ∉ F) : I2 67 j = A 67 j := (f.f h67 hF).trans (hM.1 j hj)
theorem mc_k {I A I2 : St} (hM : MC I A) {K F : List Nat} (f : Fr K F I I2) {k : Nat} (hk : k ∈ mcK) (hK : k ∉ K) : I2 k = A k := (f.at hK (fun e => absurd (e ▸ hk) (by decide))).trans (hM.2 k hk)
theorem ags_of {I A I2 : St} (hM : MC I A) {K F : List Nat} (f : Fr K F I I2) (h67 : 67 ∉ K) (hF : ∀ j, j ∈ [0, 1, 3, 4, 5, 6] → j ∉ F) (hK : ∀ k, k ∈ [68, 69, 70, 74, 75] → k ∉ K) : AGs A I2 :=
  ⟨fun j hj => mc_f hM f h67 ((show ∀ j, j ∈ [0, 1, 3, 4, 5, 6] → j ∈ mcF by decide) j hj) (hF j hj), fun k hk => mc_k hM f ((show ∀ k, k ∈ [68, 69, 70, 74, 75] → k ∈ mcK by decide) k hk) (hK k hk)⟩
theorem agw_of {I A I2 : St} (hM : MC I A) {K F : List Nat} (f : Fr K F I I2) (h67 : 67 ∉ K) (hF : ∀ j, j ∈ [0, 1, 3, 4, 5, 6] → j ∉ F) (hK : ∀ k, k ∈ [68, 69, 70, 74, 75, 72, 73] → k ∉ K) : AGw A I2 :=
  ⟨ags_of hM f h67 hF (fun k hk => hK k ((show ∀ k, k ∈ [68, 69, 70, 74, 75] → k ∈ [68, 69, 70, 74, 75, 72, 73] by decide) k hk)), mc_k hM f (by decide) (hK _ (by decide)), mc_k hM f (by decide) (hK _ (by decide))⟩
/-! parts of 'the rest is well formed', part by part -/
section
variable {A A' : St}
theorem wf_way (g : AGw A A') (h : WFr A) : ∀ s, s < nsN A' → wayOk (A' 72 s) (A' 73 s) := by
  rw [ag_ns g.1, g.2.1, g.2.2]
  exact h.1
theorem wf_tx (e : A' 67 15 = A 67 15) (h : WFr A) : A' 67 15 = nI (txN A') ∧ txN A' ≤ 300 := by
  unfold txN
  rw [e]
  exact h.2.1
theorem wf_ty (e : A' 67 15 = A 67 15) (e2 : A' 76 = A 76) (h : WFr A) : ∀ i, i < txN A' → ∃ b, b < 256 ∧ A' 76 i = nI b := by
  unfold txN
  rw [e, e2]
  exact h.2.2.1
theorem wf_nr (e : A' 67 37 = A 67 37) (h : WFr A) : A' 67 37 = nI (nrN A') ∧ nrN A' ≤ 4 := by
  unfold nrN
  rw [e]
  exact h.2.2.2.1
theorem wf_ru (e : A' 67 37 = A 67 37) (e2 : A' 84 = A 84) (h : WFr A) : ∀ r, r < nrN A' → ruleOk (ruRow A' r) := by
  unfold nrN ruRow
  rw [e, e2]
  exact h.2.2.2.2.1
theorem wf_lg (e : A' 67 56 = A 67 56) (h : WFr A) : A' 67 56 = nI (lgN A') ∧ lgN A' ≤ 40 := by
  unfold lgN
  rw [e]
  exact h.2.2.2.2.2.1
theorem wf_im (g : AGs A A') (e : A' 94 = A 94) (e2 : A' 93 = A 93) (h : WFr A) : ∀ i, i < 2 → A' 94 i = nI 0 ∨ (A' 94 i = nI 1 ∧ (∀ s, s < nsN A' → wayOk (A' 93 (60 * i + 2 + s)) (A' 93 (60 * i + 8 + s))) ∧ (∃ l, l ≤ 40 ∧ A' 93 (60 * i) = nI l) ∧ ∃ v, v < 2 ^ 31 ∧ A' 93 (60 * i + 1) = nI v) := by
  rw [ag_ns g, e, e2]
  exact h.2.2.2.2.2.2.2
theorem cr_ag (e : A' 67 37 = A 67 37) (e2 : A' 84 = A 84) {I : St} (h : CR I A) : CR I A' := by
  have e3 : ∀ r, ruN A' r = ruN A r := fun r => funext fun q => by unfold ruN ruRow; rw [e2]
  unfold CR nrN
  rw [e]
  exact ⟨h.1, fun r hr => by rw [e3]; exact h.2 r hr⟩
theorem ct_ag (e : A' 67 15 = A 67 15) (e1 : A' 67 16 = A 67 16) (e2 : A' 76 = A 76) {I : St} (h : CT I A) : CT I A' := by
  unfold CT txN
  rw [e, e1, e2]
  exact h
theorem cl_ag (e : A' 67 56 = A 67 56) (e2 : A' 90 = A 90) {I : St} (h : CL I A) : CL I A' := by
  unfold CL lgN
  rw [e, e2]
  exact h
theorem ci_ag (g : AGs A A') (e : A' 94 = A 94) (e2 : A' 93 = A 93) {I : St} (h : CI I A) : CI I A' := by
  unfold CI
  rw [ag_ns g, e, e2]
  exact h
end
section
variable {I A : St} {L : Lt} {ru n : Nat}
theorem q_seed (hI : INV I A) (x : Int32) : STEP I L ru (f37 0 x) (f62 67 x) := by
  have hI9 := hI
  obtain ⟨hM, hW, hC, hX, ⟨hS, hH, hR, hT, hL, hG⟩, sd, hsd, hs1, hs2⟩ := hI9
  have h6 := ns6 hW.1
  have h7 := p2_le (nsN A) (by omega)
  have h4 := nr4 hW
  by_cases h0 : x < 0
  · have h1 : ¬ nI 0 ≤ x := fun z => by
      have := Int32.not_le.mpr h0
      exact this z
    exact STEP.same hI (v := -nI 1000002) (by simp (config := { maxSteps := 2000000 }) (disch := omega) only [f37, ux_at, ux_kk, ux_jo, gIx, pIx, pZx, gRx, aIx, sIx, aBx, sBx, lenx, clx, wshS, obS, reduceIte, Nat.one_ne_zero, Nat.zero_ne_one, Nat.reduceEqDiff, not_true_eq_false, not_false_eq_true, Nat.le_refl, ng_le, ng_lt, ng_nle, ng_nlt, ng_eq, ng_eq2, Bool.false_eq_true, lit_nI, nI_add, pk_mul, nI_leI, nI_ltI, nI_eq, h1]) (by simp (config := { maxSteps := 2000000 }) (disch := omega) only [f62, ux_at, ux_kk, ux_jo, gIm, pIm, pZm, gRm, aIm, sIm, aBm, sBm, gLm, pLm, clm, wshS, obS, reduceIte, Nat.one_ne_zero, Nat.zero_ne_one, Nat.reduceEqDiff, not_true_eq_false, not_false_eq_true, Nat.le_refl, ng_le, ng_lt, ng_nle, ng_nlt, ng_eq, ng_eq2, Bool.false_eq_true, lit_nI, nI_add, pk_mul, nI_leI, nI_ltI, nI_eq, h1])
  · obtain ⟨j, hj, rfl⟩ := nI_of h0
    have f1 : Fr [34] [] I (u2 I 34 4 (nI j)) := Fr.rf.u (by decide)
    have f2 : Fr [] [60] (u2 I 34 4 (nI j)) (u2 (u2 I 34 4 (nI j)) 67 60 (nI j)) := Fr.rf.uf (by decide)
    have f3 : Fr [34] [60] I (u2 (u2 I 34 4 (nI j)) 67 60 (nI j)) := (f1.mono (by decide) (by decide)).tr (f2.mono (by decide) (by decide))
    refine ⟨nI sd, mW (u2 I 34 4 (nI j)) L ru, _, L, ru, A, ?_, ?_, rfl, hM.fr f3 (by decide) (by decide) (by decide), hW, hC.fr f3 (by decide) (by decide) (by decide), hX.fr f3 (by decide) (by decide), ⟨hS.fr hW.1 f3 (by decide), hH.fr f3 (by decide) (by decide), hR.fr h4 f3 (by decide), hT.fr f3 (by decide) (by decide), hL.of ?_ (f3.at (by decide) (by decide)), hG.fr f3 (by decide)⟩, j, hj, ux_at, ?_⟩
    · simp (config := { maxSteps := 2000000 }) (disch := omega) only [f37, ux_at, ux_kk, ux_jo, gIx, pIx, pZx, gRx, aIx, sIx, aBx, sBx, lenx, clx, wshS, obS, reduceIte, Nat.one_ne_zero, Nat.zero_ne_one, Nat.reduceEqDiff, not_true_eq_false, not_false_eq_true, Nat.le_refl, ng_le, ng_lt, ng_nle, ng_nlt, ng_eq, ng_eq2, Bool.false_eq_true, lit_nI, nI_add, pk_mul, nI_leI, nI_ltI, nI_eq, hs2, Nat.zero_le]
    · have e : (u2 I 34 4 (nI j)) 67 60 = nI sd := (ux_k (by decide)).trans hs1
      simp (config := { maxSteps := 2000000 }) (disch := omega) only [f62, ux_at, ux_kk, ux_jo, gIm, pIm, pZm, gRm, aIm, sIm, aBm, sBm, gLm, pLm, clm, wshS, obS, reduceIte, Nat.one_ne_zero, Nat.zero_ne_one, Nat.reduceEqDiff, not_true_eq_false, not_false_eq_true, Nat.le_refl, ng_le, ng_lt, ng_nle, ng_nlt, ng_eq, ng_eq2, Bool.false_eq_true, lit_nI, nI_add, pk_mul, nI_leI, nI_ltI, nI_eq, Nat.zero_le, hs1]
    · exact (ux_k (by decide)).trans (ux_j (by decide))
    · exact (ux_k (by decide)).trans ux_at
theorem q_clear (hI : INV I A) : STEP I L ru (f33 0) (f60 67) := by
  have hI9 := hI
  obtain ⟨hM, hW, hC, hX, ⟨hS, hH, hR, hT, hL, hG⟩, sd, hsd, hs1, hs2⟩ := hI9
  have h6 := ns6 hW.1
  have h7 := p2_le (nsN A) (by omega)
  have h4 := nr4 hW
  have f1 : Fr [34] [] I (u2 I 34 3 (nI 0)) := Fr.rf.u (by decide)
  have f2 : Fr [] [56] (u2 I 34 3 (nI 0)) (u2 (u2 I 34 3 (nI 0)) 67 56 (nI 0)) := Fr.rf.uf (by decide)
  have f3 : Fr [34] [56] I (u2 (u2 I 34 3 (nI 0)) 67 56 (nI 0)) := (f1.mono (by decide) (by decide)).tr (f2.mono (by decide) (by decide))
  generalize hI2 : u2 (u2 I 34 3 (nI 0)) 67 56 (nI 0) = I2 at *
  have g := agw_of hM f3 (by decide) (by decide) (by decide)
  have e15 := mc_f hM f3 (by decide) (j := 15) (by decide) (by decide)
  have e16 := mc_f hM f3 (by decide) (j := 16) (by decide) (by decide)
  have e37 := mc_f hM f3 (by decide) (j := 37) (by decide) (by decide)
  have kt := mc_k hM f3 (k := 76) (by decide) (by decide)
  have kr := mc_k hM f3 (k := 84) (by decide) (by decide)
  have ki := mc_k hM f3 (k := 93) (by decide) (by decide)
  have kk := mc_k hM f3 (k := 94) (by decide) (by decide)
  have e56 : I2 67 56 = nI 0 := by rw [← hI2]; exact ux_at
  have l0 : lgN I2 = 0 := by
    unfold lgN
    rw [e56]
    rfl
  have s60 : I2 67 60 = nI sd := (f3.f (by decide) (by decide)).trans hs1
  have s34 : I2 34 4 = nI sd := by
    rw [← hI2]
    exact (ux_k (by decide)).trans ((ux_j (by decide)).trans hs2)
  refine ⟨nI (lgN A), mW (u2 I 34 3 (nI 0)) L ru, I2, L, ru, I2, ?_, ?_, rfl, MC.rf, ⟨ag_wf g.1 hW.1, wf_way g hW.2, wf_tx e15 hW.2, wf_ty e15 kt hW.2, wf_nr e37 hW.2, wf_ru e37 kr hW.2, ⟨by rw [e56, l0], by omega⟩, ⟨sd, hsd, s60⟩, wf_im g.1 kk ki hW.2⟩, ag_ca g (hC.fr f3 (by decide) (by decide) (by decide)), ag_cx g (hX.fr f3 (by decide) (by decide)), ⟨ag_cs g.1 (hS.fr hW.1 f3 (by decide)), ag_ch g (hH.fr f3 (by decide) (by decide)), cr_ag e37 kr (hR.fr h4 f3 (by decide)), ct_ag e15 e16 kt (hT.fr f3 (by decide) (by decide)), ⟨?_, fun i hi => by rw [l0] at hi; omega⟩, ci_ag g.1 kk ki (hG.fr f3 (by decide))⟩, sd, hsd, s60, s34⟩
  · simp (config := { maxSteps := 2000000 }) (disch := omega) only [f33, ux_at, ux_kk, ux_jo, gIx, pIx, pZx, gRx, aIx, sIx, aBx, sBx, lenx, clx, wshS, obS, reduceIte, Nat.one_ne_zero, Nat.zero_ne_one, Nat.reduceEqDiff, not_true_eq_false, not_false_eq_true, Nat.le_refl, ng_le, ng_lt, ng_nle, ng_nlt, ng_eq, ng_eq2, Bool.false_eq_true, lit_nI, nI_add, pk_mul, nI_leI, nI_ltI, nI_eq, hL.1]
  · have e := hW.2.2.2.2.2.2.1.1
    rw [← hI2]
    simp (config := { maxSteps := 2000000 }) (disch := omega) only [f60, ux_at, ux_kk, ux_jo, gIm, pIm, pZm, gRm, aIm, sIm, aBm, sBm, gLm, pLm, clm, wshS, obS, reduceIte, Nat.one_ne_zero, Nat.zero_ne_one, Nat.reduceEqDiff, not_true_eq_false, not_false_eq_true, Nat.le_refl, ng_le, ng_lt, ng_nle, ng_nlt, ng_eq, ng_eq2, Bool.false_eq_true, lit_nI, nI_add, pk_mul, nI_leI, nI_ltI, nI_eq, mcA hM, e]
  · rw [l0, ← hI2]
    exact (ux_k (by decide)).trans ux_at
theorem q_log (hI : INV I A) (x : Int32) : STEP I L ru (f157 0 x) (f130 67 x) := by
  have hI9 := hI
  obtain ⟨hM, hW, hC, hX, ⟨hS, hH, hR, hT, hL, hG⟩, sd, hsd, hs1, hs2⟩ := hI9
  have h6 := ns6 hW.1
  have h7 := p2_le (nsN A) (by omega)
  have h4 := nr4 hW
  have e1 : (-1 : Int64) = -lN 1 := by decide +kernel
  have hlg := hW.2.2.2.2.2.2.1
  rcases ixt x with hx | ⟨k, hk, rfl⟩
  · have e2 := fun w => s40to (w := w) hx
    rw [e1] at e2
    exact STEP.same hI (v := -nI 1000002) (by simp (config := { maxSteps := 2000000 }) (disch := omega) only [f157, ux_at, ux_kk, ux_jo, gIx, pIx, pZx, gRx, aIx, sIx, aBx, sBx, lenx, clx, wshS, obS, reduceIte, Nat.one_ne_zero, Nat.zero_ne_one, Nat.reduceEqDiff, not_true_eq_false, not_false_eq_true, Nat.le_refl, ng_le, ng_lt, ng_nle, ng_nlt, ng_eq, ng_eq2, Bool.false_eq_true, lit_nI, nI_add, pk_mul, nI_leI, nI_ltI, nI_eq, x_noTurno hx]) (by simp (config := { maxSteps := 2000000 }) (disch := omega) only [f130, ux_at, ux_kk, ux_jo, gIm, pIm, pZm, gRm, aIm, sIm, aBm, sBm, gLm, pLm, clm, wshS, obS, reduceIte, Nat.one_ne_zero, Nat.zero_ne_one, Nat.reduceEqDiff, not_true_eq_false, not_false_eq_true, Nat.le_refl, ng_le, ng_lt, ng_nle, ng_nlt, ng_eq, ng_eq2, Bool.false_eq_true, lit_nI, nI_add, pk_mul, nI_leI, nI_ltI, nI_eq, lit_lN, e2])
  have e3 := fun w => s40t (w := w) k hk
  rw [e1] at e3
  by_cases q : lgN A = 40
  · have q2 : ¬ lgN A < 40 := by omega
    have q3 : A 67 56 = nI 40 := by rw [hlg.1, q]
    exact STEP.same hI (v := -nI 1000004) (by simp (config := { maxSteps := 2000000 }) (disch := omega) only [f157, ux_at, ux_kk, ux_jo, gIx, pIx, pZx, gRx, aIx, sIx, aBx, sBx, lenx, clx, wshS, obS, reduceIte, Nat.one_ne_zero, Nat.zero_ne_one, Nat.reduceEqDiff, not_true_eq_false, not_false_eq_true, Nat.le_refl, ng_le, ng_lt, ng_nle, ng_nlt, ng_eq, ng_eq2, Bool.false_eq_true, lit_nI, nI_add, pk_mul, nI_leI, nI_ltI, nI_eq, x_noTurn, hL.1, q2]) (by simp (config := { maxSteps := 2000000 }) (disch := omega) only [f130, ux_at, ux_kk, ux_jo, gIm, pIm, pZm, gRm, aIm, sIm, aBm, sBm, gLm, pLm, clm, wshS, obS, reduceIte, Nat.one_ne_zero, Nat.zero_ne_one, Nat.reduceEqDiff, not_true_eq_false, not_false_eq_true, Nat.le_refl, ng_le, ng_lt, ng_nle, ng_nlt, ng_eq, ng_eq2, Bool.false_eq_true, lit_nI, nI_add, pk_mul, nI_leI, nI_ltI, nI_eq, lit_lN, e3, mcA hM, q3])
  have q2 : lgN A < 40 := by omega
  have f1 : Fr [34, 37] [] I (u2 (u2 I 37 (lgN A) (tI k)) 34 3 (nI (lgN A + 1))) := (Fr.rf.u (by decide)).u (by decide)
  generalize hI1 : u2 (u2 I 37 (lgN A) (tI k)) 34 3 (nI (lgN A + 1)) = I1 at *
  have f2 : Fr [90] [56] I1 (u2 (u2 I1 90 (lgN A) (tI k)) 67 56 (nI (lgN A + 1))) := (Fr.rf.u (by decide)).uf (by decide)
  have hM1 := hM.fr f1 (by decide) (by decide) (by decide)
  generalize hI2 : u2 (u2 I1 90 (lgN A) (tI k)) 67 56 (nI (lgN A + 1)) = I2 at *
  have f3 : Fr [34, 37, 90] [56] I I2 := (f1.mono (by decide) (by decide)).tr (f2.mono (by decide) (by decide))
  have g := agw_of hM f3 (by decide) (by decide) (by decide)
  have e15 := mc_f hM f3 (by decide) (j := 15) (by decide) (by decide)
  have e16 := mc_f hM f3 (by decide) (j := 16) (by decide) (by decide)
  have e37 := mc_f hM f3 (by decide) (j := 37) (by decide) (by decide)
  have kt := mc_k hM f3 (k := 76) (by decide) (by decide)
  have kr := mc_k hM f3 (k := 84) (by decide) (by decide)
  have ki := mc_k hM f3 (k := 93) (by decide) (by decide)
  have kk := mc_k hM f3 (k := 94) (by decide) (by decide)
  have e56 : I2 67 56 = nI (lgN A + 1) := by rw [← hI2]; exact ux_at
  have l0 : lgN I2 = lgN A + 1 := by
    unfold lgN at *
    rw [e56]
    exact nI_clamp (by omega)
  have s60 : I2 67 60 = nI sd := (f3.f (by decide) (by decide)).trans hs1
  have s34 : I2 34 4 = nI sd := by
    rw [f2.at (by decide) (by decide), ← hI1]
    exact (ux_j (by decide)).trans ((ux_k (by decide)).trans hs2)
  refine ⟨nI (lgN A + 1), mW I1 L ru, I2, L, ru, I2, ?_, ?_, rfl, MC.rf, ⟨ag_wf g.1 hW.1, wf_way g hW.2, wf_tx e15 hW.2, wf_ty e15 kt hW.2, wf_nr e37 hW.2, wf_ru e37 kr hW.2, ⟨by rw [e56, l0], by omega⟩, ⟨sd, hsd, s60⟩, wf_im g.1 kk ki hW.2⟩, ag_ca g (hC.fr f3 (by decide) (by decide) (by decide)), ag_cx g (hX.fr f3 (by decide) (by decide)), ⟨ag_cs g.1 (hS.fr hW.1 f3 (by decide)), ag_ch g (hH.fr f3 (by decide) (by decide)), cr_ag e37 kr (hR.fr h4 f3 (by decide)), ct_ag e15 e16 kt (hT.fr f3 (by decide) (by decide)), ⟨?_, fun i hi => ?_⟩, ci_ag g.1 kk ki (hG.fr f3 (by decide))⟩, sd, hsd, s60, s34⟩
  · have z : (u2 I 37 (lgN A) (tI k)) 34 3 = nI (lgN A) := (ux_k (by decide)).trans hL.1
    have z9 : I1 34 3 = nI (lgN A + 1) := by rw [← hI1]; exact ux_at
    simp (config := { maxSteps := 2000000 }) (disch := omega) only [f157, f105, ux_at, ux_kk, ux_jo, gIx, pIx, pZx, gRx, aIx, sIx, aBx, sBx, lenx, clx, wshS, obS, reduceIte, Nat.one_ne_zero, Nat.zero_ne_one, Nat.reduceEqDiff, not_true_eq_false, not_false_eq_true, Nat.le_refl, ng_le, ng_lt, ng_nle, ng_nlt, ng_eq, ng_eq2, Bool.false_eq_true, lit_nI, nI_add, pk_mul, nI_leI, nI_ltI, nI_eq, x_noTurn, hL.1, q2, s0i, z, hI1, z9]
  · have z1 := mcA hM1
    simp (config := { maxSteps := 2000000 }) (disch := omega) only [f130, ux_at, ux_kk, ux_jo, gIm, pIm, pZm, gRm, aIm, sIm, aBm, sBm, gLm, pLm, clm, wshS, obS, reduceIte, Nat.one_ne_zero, Nat.zero_ne_one, Nat.reduceEqDiff, not_true_eq_false, not_false_eq_true, Nat.le_refl, ng_le, ng_lt, ng_nle, ng_nlt, ng_eq, ng_eq2, Bool.false_eq_true, lit_nI, nI_add, pk_mul, nI_leI, nI_ltI, nI_eq, lit_lN, e3, mcA hM1, hlg.1, q, hI2]
  · rw [l0, f2.at (by decide) (by decide), ← hI1]
    exact ux_at
  · rw [l0] at hi
    rw [f2.at (by decide) (by decide), ← hI2, ← hI1]
    refine (ux_k (by decide)).trans (Eq.trans ?_ (ux_k (by decide)).symm)
    rw [ux_if, ux_if]
    by_cases e : i = lgN A
    · rw [if_pos e, if_pos e]
    · rw [if_neg e, if_neg e, hL.2 i (by omega), hI1]
      exact (congrFun (hM1.2 90 (by decide)) i).symm
end
