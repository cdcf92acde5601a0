theorem nw_L_8 : bm_nw RL 8 10 := ⟨RX11, TX11, 17, rfl, rfl, by decide, iwX11, tyX11_ok, bm_Tin (i := 135) (by decide +kernel) (by decide +kernel), bm_Tin (i := 136) (by decide +kernel) (by decide +kernel), bm_Tin (i := 110) (by decide +kernel) (by decide +kernel)⟩
theorem nw_L_16 : bm_nw RL 16 11 := ⟨RX12, TX12, 47, rfl, rfl, by decide, iwX12, tyX12_ok, bm_Tin (i := 1391) (by decide +kernel) (by decide +kernel), bm_Tin (i := 1385) (by decide +kernel) (by decide +kernel), bm_Tin (i := 121) (by decide +kernel) (by decide +kernel)⟩
theorem mci_L_15 : bm_mc RL 3 15 m_X11_init 0 := ⟨⟨bm_Tin (i := 137) (by decide +kernel) (by decide +kernel), bm_Tin (i := 138) (by decide +kernel) (by decide +kernel), rfl, rfl⟩, bm_Tin (i := 110) (by decide +kernel) (by decide +kernel), bm_Tin (i := 139) (by decide +kernel) (by decide +kernel), ⟨by decide +kernel, by decide +kernel, by decide +kernel⟩, by decide⟩
theorem mci_L_18 : bm_mc RL 3 18 m_X12_init 0 := ⟨⟨bm_Tin (i := 1392) (by decide +kernel) (by decide +kernel), bm_Tin (i := 1393) (by decide +kernel) (by decide +kernel), rfl, rfl⟩, bm_Tin (i := 121) (by decide +kernel) (by decide +kernel), bm_Tin (i := 1394) (by decide +kernel) (by decide +kernel), ⟨by decide +kernel, by decide +kernel, by decide +kernel⟩, by decide⟩
def bm_M0 : bm_M := ((fun _ _ => 0), (fun _ _ => 0), (fun _ _ => none), fun _ _ => none)
def bm_Mi : bm_M := bm_z (i_X12_164 (bm_z (i_X11_0 (bm_z bm_M0 0)) 164)) 181
theorem bm_tr_mem {o f a : Nat} (h : bm_tr o f = some a) : (o, f, a) ∈ bm_trl := by
  unfold bm_tr at h
  cases hq : bm_trl.find? (fun q => q.1 == o && q.2.1 == f) with
  | none => rw [hq] at h; cases h
  | some q =>
    rw [hq] at h
    have h1 := List.mem_of_find?_eq_some hq
    have h2 := List.find?_some hq
    simp only [Bool.and_eq_true, beq_iff_eq] at h2
    obtain ⟨q1, q2, q3⟩ := q
    obtain ⟨rfl, rfl⟩ := h2
    cases h
    exact h1
set_option maxRecDepth 100000 in
theorem bm_Mi_R0 : (bm_trl.all fun q => decide (bm_Mi.2.2.1 q.1 q.2.1 = some q.2.2)) = true := by decide +kernel
theorem bm_all_mem {l : List (Nat × Nat × Nat)} {R : bm_TR} (h : (l.all fun q => decide (R q.1 q.2.1 = some q.2.2)) = true) {o f a : Nat} (hm : (o, f, a) ∈ l) : R o f = some a := of_decide_eq_true (List.all_eq_true.mp h _ hm)
theorem bm_Mi_R : bm_RR bm_Mi.2.2.1 := fun _ _ _ h => bm_all_mem bm_Mi_R0 (bm_tr_mem h)
set_option maxHeartbeats 4000000 in
set_option maxRecDepth 100000 in
theorem law_begin {L : bm_L} (hLN : L.2.1 ≤ 3072) (K : ∀ cx cy, cx ≤ 200 → cy ≤ 6000 → bm_VL L 182 23 [(0, .ref 1400), (1, .ref 0), (2, .ref 164), (3, .ref 181), (4, .int 0)] [] bm_Mi cx cy) : bm_VL L 0 0 [(0, .ref 1400)] [] bm_M0 0 0 := by
  have w0 : bm_wf 0 bm_M0 := ⟨fun o k x hx => (by cases hx), fun o k x hx => (by cases hx)⟩
  refine bl_new dL_law_0 nw_L_8 rfl w0 (by decide) rfl rfl (Nat.le_of_ble_eq_true rfl) (Nat.le_of_ble_eq_true rfl) ?_
  have w1 : bm_wf 1 (bm_z bm_M0 0) := bm_wf_z w0
  refine bl_dup dL_law_3 rfl ?_
  refine bl_callI (d := 0 + 3) (b := 0) (n2 := 164) (As := []) (by decide) dL_law_4 mci_L_15 (k_X11_0 (d := 0) w1) rfl rfl (Nat.le_of_ble_eq_true rfl) (by decide) (by decide +kernel) (by decide +kernel) rfl rfl ?_
  have w2 := wk_X11_0 w1
  refine bl_astore_n (ls1 := [(0, .ref 1400), (1, .ref 0)]) dL_law_7 (by decide) rfl rfl ?_
  refine bl_new dL_law_8 nw_L_16 rfl w2 (by decide) rfl rfl (by decide +kernel) (by decide +kernel) ?_
  have w3 : bm_wf 165 (bm_z (i_X11_0 (bm_z bm_M0 0)) 164) := bm_wf_z w2
  refine bl_dup dL_law_11 rfl ?_
  refine bl_callI (d := 0 + 1) (b := 164) (n2 := 181) (As := []) (by decide) dL_law_12 mci_L_18 (k_X12_164 (d := 0) w3) rfl rfl (Nat.le_of_ble_eq_true rfl) (by decide) (by decide +kernel) (by decide +kernel) rfl rfl ?_
  have w4 := wk_X12_164 w3
  refine bl_astore_n (ls1 := [(0, .ref 1400), (1, .ref 0), (2, .ref 164)]) dL_law_15 (by decide) rfl rfl ?_
  refine bl_iconst (v := 1) dL_law_16 (by decide) ?_
  refine bl_newa2 dL_law_17 rfl (by decide) (by decide) (by decide) w4 (by decide) rfl rfl (by decide +kernel) (by decide +kernel) ?_
  refine bl_astore_n (ls1 := [(0, .ref 1400), (1, .ref 0), (2, .ref 164), (3, .ref 181)]) dL_law_19 (by decide) rfl rfl ?_
  refine bl_iconst (v := 0) dL_law_20 (by decide) ?_
  refine bl_istore (ls1 := [(0, .ref 1400), (1, .ref 0), (2, .ref 164), (3, .ref 181), (4, .int 0)]) dL_law_21 (by decide) rfl rfl ?_
  exact K _ _ (by decide +kernel) (by decide +kernel)
