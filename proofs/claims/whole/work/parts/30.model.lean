set_option maxHeartbeats 4000000 in
set_option maxRecDepth 100000 in
theorem v0_X12_clears_l2 {lc : bm_L} {d n : Nat} {Q : Option Value → bm_M → Prop} {R : bm_TR} {J : bm_TJ} {W : bm_TR} (hN : 181 ≤ n) (hR : R 164 7 = some 167) : ∀ (k : Nat) (x1 : Int32) (I : bm_TI) (r : bm_TI), f_X12_clears_l2 k x1 I = some r → (∀ yy, yy = r → bm_V lc m_X12_clears d n n n 21 [(0, .ref 164)] [] (yy, J, R, W) Q) → bm_V lc m_X12_clears d n n n 2 [(0, .ref 164), (1, .int x1)] [] (I, J, R, W) Q := by
  intro k
  induction k with
  | zero => intro x1 I r h; cases (show (none : Option (bm_TI)) = some r from h)
  | succ k ih =>
    intro x1 I r h K0
    unfold f_X12_clears_l2 at h
    refine bv_iload_n dX12_clears_2 1 rfl ?_
    refine bv_bipush (v := 61) dX12_clears_3 (by decide) ?_
    refine bv_icmp_ge (tgt := 21) dX12_clears_5 (by decide) (fun cc => ?_) (fun cc => ?_)
    · replace h := bu_t h cc
      refine bw_ls (ls1 := [(0, .ref 164)]) [0] rfl ?_
      obtain rfl := Option.some.inj h
      exact K0 _ rfl
    · replace h := bu_f h cc
      refine bv_aload_n dX12_clears_8 0 rfl ?_
      refine bz_getA (a := 167) hN okL_164 hR dX12_clears_9 fl_12_37 rfl ?_
      refine bv_iload_n dX12_clears_12 1 rfl ?_
      refine bv_iconst (v := 0) dX12_clears_13 (by decide) ?_
      obtain ⟨r1, h⟩ := bu_ix h
      refine bz_iast hN rkL_167 r1 rfl dX12_clears_14 ?_
      refine bv_iinc (j := 1) (v := (x1 + 1)) (ls1 := [(0, .ref 164), (1, .int (x1 + 1))]) dX12_clears_15 rfl rfl (by decide) rfl rfl ?_
      refine bv_goto (tgt := 2) dX12_clears_18 (by decide) ?_
      exact ih _ _ _ h K0
set_option maxHeartbeats 4000000 in
set_option maxRecDepth 100000 in
theorem c0_X12_clears {lc : bm_L} {d n : Nat} {I : bm_TI} {J : bm_TJ} {R W : bm_TR} {v : bm_TI} (hN : 181 ≤ n) (hR : R 164 7 = some 167) (h : f_X12_clears I = some v) : bm_C lc m_X12_clears d n n [.ref 164] (I, J, R, W) (fun r M' => r = none ∧ M' = (v, J, R, W)) := by
  refine bm_C.ofV (by decide) (Nat.le_of_ble_eq_true rfl) ?_
  show bm_V lc m_X12_clears d n n n 0 [(0, .ref 164)] [] (I, J, R, W) _
  unfold f_X12_clears at h
  refine bv_iconst (v := 0) dX12_clears_0 (by decide) ?_
  refine bv_istore_n (ls1 := [(0, .ref 164), (1, .int 0)]) dX12_clears_1 (by decide) rfl rfl ?_
  obtain ⟨r1, p2, h⟩ := bu_bd h
  refine v0_X12_clears_l2 hN hR 1000 _ _ _ p2 (fun y3 hy => ?_)
  · subst hy
    refine bv_aload_n dX12_clears_21 0 rfl ?_
    refine bz_getA (a := 167) hN okL_164 hR dX12_clears_22 fl_12_37 rfl ?_
    refine bv_iconst (v := 3) dX12_clears_25 (by decide) ?_
    refine bv_iconst (v := 2) dX12_clears_26 (by decide) ?_
    refine bz_iast (j := 3) hN rkL_167 (bm_ix_in (by decide)) (by decide) dX12_clears_27 ?_
    refine bv_aload_n dX12_clears_28 0 rfl ?_
    refine bz_getA (a := 167) hN okL_164 hR dX12_clears_29 fl_12_37 rfl ?_
    refine bv_iconst (v := 4) dX12_clears_32 (by decide) ?_
    refine bv_bipush (v := 6) dX12_clears_33 (by decide) ?_
    refine bz_iast (j := 4) hN rkL_167 (bm_ix_in (by decide)) (by decide) dX12_clears_35 ?_
    obtain rfl := Option.some.inj h
    exact bv_vret dX12_clears_36 rfl ⟨rfl, rfl⟩
/-! the reference's constructor; clears() and copying in closed form -/
def a_fill (I : bm_TI) (o a b : Nat) (f : Nat → Int32) : bm_TI := fun q k => if q = o then (if a ≤ k ∧ k < b then f k else I q k) else I q k
theorem a_fill_step {I : bm_TI} {o a b : Nat} {f : Nat → Int32} (h : a < b) : a_fill (bm_uI I o a (f a)) o (a + 1) b f = a_fill I o a b f := by
  unfold a_fill bm_uI
  funext q k
  by_cases hq : q = o
  · simp only [hq, if_true]
    by_cases hk : k = a
    · subst hk
      have h1 : ¬ (k + 1 ≤ k ∧ k < b) := by omega
      have h2 : k ≤ k ∧ k < b := ⟨Nat.le_refl k, h⟩
      rw [if_neg h1, if_pos rfl, if_pos h2]
    · by_cases hr : a ≤ k ∧ k < b
      · have h1 : a + 1 ≤ k ∧ k < b := by omega
        rw [if_pos h1, if_pos hr]
      · have h1 : ¬ (a + 1 ≤ k ∧ k < b) := by omega
        rw [if_neg h1, if_neg hr, if_neg hk]
  · simp only [hq, if_false]
theorem a_fill_nil {I : bm_TI} {o a b : Nat} {f : Nat → Int32} (h : b ≤ a) : a_fill I o a b f = I := by
  unfold a_fill
  funext q k
  have h1 : ¬ (a ≤ k ∧ k < b) := by omega
  rw [if_neg h1]
  split <;> rfl
theorem bm_ix_nI {len j : Nat} (hj : j < len) (hl : len < 2 ^ 31) : bm_ix len (nI j) = true := by
  simp only [bm_ix, Bool.and_eq_true, decide_eq_true_eq]
  refine ⟨nI_pos (by omega), ?_⟩
  rw [nI_clamp (by omega)]
  exact hj
theorem pp_clears_l : ∀ (i j k : Nat) (I : bm_TI), j + i = 61 → i < k → f_X12_clears_l2 k (nI j) I = some (a_fill I 167 j 61 (fun _ => 0)) := by
  intro i
  induction i with
  | zero =>
    intro j k I hj hk
    obtain ⟨k, rfl⟩ : ∃ q, k = q + 1 := ⟨k - 1, by omega⟩
    unfold f_X12_clears_l2
    have h1 : (61 : Int32) ≤ nI j := by rw [show j = 61 by omega]; exact Int32.le_refl _
    rw [if_pos h1, a_fill_nil (by omega)]
  | succ i ih =>
    intro j k I hj hk
    obtain ⟨k, rfl⟩ : ∃ q, k = q + 1 := ⟨k - 1, by omega⟩
    unfold f_X12_clears_l2
    have h1 : ¬ (61 : Int32) ≤ nI j := nI_ge (a := j) (b := 61) (by omega) (by omega)
    rw [if_neg h1, if_pos (bm_ix_nI (by omega) (by decide)), nI_1, nI_clamp (by omega), ih (j + 1) k (bm_uI I 167 j 0) (by omega) (by omega), a_fill_step (f := fun _ => 0) (by omega)]
def a_clr (I : bm_TI) : bm_TI := bm_uI (bm_uI (a_fill I 167 0 61 (fun _ => 0)) 167 3 2) 167 4 6
theorem pp_clears (I : bm_TI) : f_X12_clears I = some (a_clr I) := by
  unfold f_X12_clears
  have h0 := pp_clears_l 61 0 1000 I (by omega) (by omega)
  rw [nI_0] at h0
  rw [h0]
  rfl
def bm_fill (M : bm_M) (o a b : Nat) (f : Nat → Int32) : bm_M := (a_fill M.1 o a b f, M.2)
def bm_clr (M : bm_M) : bm_M := (a_clr M.1, M.2)
theorem bm_fill_nil {M : bm_M} {o a b : Nat} {f : Nat → Int32} (h : b ≤ a) : bm_fill M o a b f = M := by
  unfold bm_fill
  rw [a_fill_nil h]
theorem bm_cp_step {M : bm_M} {j : Nat} (h : j < 61) : bm_sI (bm_fill M 166 0 j (M.1 167)) 166 j (M.1 167 j) = bm_fill M 166 0 (j + 1) (M.1 167) := by
  unfold bm_fill bm_sI a_fill
  congr 1
  funext q k
  by_cases hq : q = 166
  · simp only [hq, if_true]
    by_cases hk : k = j
    · subst hk
      have h2 : 0 ≤ k ∧ k < k + 1 := by omega
      rw [if_pos rfl, if_pos h2]
    · by_cases hr : 0 ≤ k ∧ k < j
      · have h1 : 0 ≤ k ∧ k < j + 1 := by omega
        rw [if_neg hk, if_pos hr, if_pos h1]
      · have h1 : ¬ (0 ≤ k ∧ k < j + 1) := by omega
        rw [if_neg hk, if_neg hr, if_neg h1]
  · simp only [hq, if_false]
theorem bm_fill_off {M : bm_M} {o a b q : Nat} {f : Nat → Int32} (h : q ≠ o) : (bm_fill M o a b f).1 q = M.1 q := by
  funext k
  simp [bm_fill, a_fill, h]
set_option maxHeartbeats 4000000 in
set_option maxRecDepth 100000 in
theorem v_model_loop {L : bm_L} {d : Nat} {Q : Option Value → bm_M → Prop} {M : bm_M} (hs : M.2.2.1 164 6 = some 166) (hh : M.2.2.1 164 7 = some 167) (K : bm_V L m_X12_init (d + 1) 165 181 181 519 [(0, .ref 164), (1, .int (nI 61))] [] (bm_fill M 166 0 61 (M.1 167)) Q) : ∀ (i j : Nat), j + i = 61 → bm_V L m_X12_init (d + 1) 165 181 181 495 [(0, .ref 164), (1, .int (nI j))] [] (bm_fill M 166 0 j (M.1 167)) Q := by
  intro i
  induction i with
  | zero =>
    intro j hj
    obtain rfl : j = 61 := by omega
    refine bv_iload_n dX12_init_495 1 rfl ?_
    refine bv_bipush (v := 61) dX12_init_496 (by decide) ?_
    exact bv_icmp_ge (tgt := 519) dX12_init_498 (by decide) (fun _ => K) (fun cc => absurd (Int32.le_refl _) cc)
  | succ i ih =>
    intro j hj
    refine bv_iload_n dX12_init_495 1 rfl ?_
    refine bv_bipush (v := 61) dX12_init_496 (by decide) ?_
    refine bv_icmp_ge (tgt := 519) dX12_init_498 (by decide) (fun cc => absurd cc (nI_ge (a := j) (b := 61) (by omega) (by omega))) (fun _ => ?_)
    refine bv_aload_n dX12_init_501 0 rfl ?_
    refine bv_getA (a := 166) dX12_init_502 fl_12_33 rfl (by decide) rfl hs ?_
    refine bv_iload_n dX12_init_505 1 rfl ?_
    refine bv_aload_n dX12_init_506 0 rfl ?_
    refine bv_getA (a := 167) dX12_init_507 fl_12_37 rfl (by decide) rfl hh ?_
    refine bv_iload_n dX12_init_510 1 rfl ?_
    refine bv_iald (len := 61) dX12_init_511 rfl (by decide) (vp_in_nI (by omega) (by omega)) ?_
    refine bv_iast (len := 287) dX12_init_512 rfl (by decide) (vp_in_nI (by omega) (by omega)) ?_
    refine bv_iinc (j := 1) (v := nI (j + 1)) (ls1 := [(0, .ref 164), (1, .int (nI (j + 1)))]) dX12_init_513 rfl (nI_1 j) (by decide) rfl rfl ?_
    refine bv_goto (tgt := 495) dX12_init_516 (by decide) ?_
    rw [nI_clamp (n := j) (by omega), bm_fill_off (by decide), bm_cp_step (by omega)]
    exact ih (j + 1) (by omega)
def i_mem12 (M : bm_M) : bm_M := (bm_sL (bm_sL (bm_sL (bm_sL (bm_sL (bm_sL (bm_sL (bm_sL (bm_sL (bm_sL (bm_sL (bm_sL (bm_sL (bm_sL (bm_sL (bm_sL (bm_sL (bm_sL (bm_sL (bm_sL (bm_sL (bm_sL (bm_sL (bm_sL (bm_sL (bm_sL (bm_sL (bm_sL (bm_sL (bm_sL (bm_sL (bm_sL (bm_sL (bm_sL (bm_sR (bm_z (bm_sR (bm_z (bm_sR (bm_z (bm_sR (bm_z (bm_sR (bm_z (bm_sR (bm_z (bm_sR (bm_z (bm_sI (bm_sI (bm_sI (bm_sI (bm_sR (bm_z (bm_sR (bm_z (bm_sR (bm_z (bm_sR (bm_z (bm_sR (bm_z (bm_sR (bm_z (bm_sR (bm_z (bm_sR (bm_z (bm_sR (bm_z M 165) 164 1 (some 165)) 166) 164 6 (some 166)) 167) 164 7 (some 167)) 168) 164 8 (some 168)) 169) 164 9 (some 169)) 170) 164 10 (some 170)) 171) 164 21 (some 171)) 172) 164 22 (some 172)) 173) 164 23 (some 173)) 164 25 (-1)) 164 26 (-1)) 164 27 (-1)) 164 28 (-1)) 174) 164 31 (some 174)) 175) 164 35 (some 175)) 176) 164 37 (some 176)) 177) 164 43 (some 177)) 178) 164 44 (some 178)) 179) 164 45 (some 179)) 180) 164 46 (some 180)) 170 (0 : Int32).toNatClampNeg 7168366) 170 (1 : Int32).toNatClampNeg 117026742756708) 170 (2 : Int32).toNatClampNeg 1735550329) 170 (3 : Int32).toNatClampNeg 504363246962) 170 (4 : Int32).toNatClampNeg 478660552050) 170 (5 : Int32).toNatClampNeg 1818584692) 170 (6 : Int32).toNatClampNeg 491394656372) 170 (7 : Int32).toNatClampNeg 1651471464) 170 (8 : Int32).toNatClampNeg 6713189) 170 (9 : Int32).toNatClampNeg 427020345714) 170 (10 : Int32).toNatClampNeg 1918986606) 170 (11 : Int32).toNatClampNeg 465624790131) 170 (12 : Int32).toNatClampNeg 444150998387) 170 (13 : Int32).toNatClampNeg 126909394808947) 170 (14 : Int32).toNatClampNeg 512735536499) 170 (15 : Int32).toNatClampNeg 495790814323) 170 (16 : Int32).toNatClampNeg 1735353715) 170 (17 : Int32).toNatClampNeg 1700885364) 170 (18 : Int32).toNatClampNeg 495791207528) 170 (19 : Int32).toNatClampNeg 2003137396) 170 (20 : Int32).toNatClampNeg 474316174440) 170 (21 : Int32).toNatClampNeg 1752135026) 170 (22 : Int32).toNatClampNeg 28530) 170 (23 : Int32).toNatClampNeg 6385252) 170 (24 : Int32).toNatClampNeg 7237492) 170 (25 : Int32).toNatClampNeg 107148367717744) 170 (26 : Int32).toNatClampNeg 126922448463204) 170 (27 : Int32).toNatClampNeg 1768189029) 170 (28 : Int32).toNatClampNeg 1936024947) 170 (29 : Int32).toNatClampNeg 6840691) 170 (30 : Int32).toNatClampNeg 1651666807) 170 (31 : Int32).toNatClampNeg 448377483876) 170 (32 : Int32).toNatClampNeg 1819243380) 170 (33 : Int32).toNatClampNeg 121450625394034)
def i_X12_164 (M : bm_M) : bm_M := bm_fill (bm_clr (i_mem12 M)) 166 0 61 ((bm_clr (i_mem12 M)).1 167)
theorem wk_mem12 {M : bm_M} (w0 : bm_wf 165 M) : bm_wf 181 (i_mem12 M) := by
  have w1 := bm_wf_z w0
  have w2 := bm_wf_sR (o := 164) (f := 1) w1 (by decide : 165 < 166)
  have w3 := bm_wf_z w2
  have w4 := bm_wf_sR (o := 164) (f := 6) w3 (by decide : 166 < 167)
  have w5 := bm_wf_z w4
  have w6 := bm_wf_sR (o := 164) (f := 7) w5 (by decide : 167 < 168)
  have w7 := bm_wf_z w6
  have w8 := bm_wf_sR (o := 164) (f := 8) w7 (by decide : 168 < 169)
  have w9 := bm_wf_z w8
  have w10 := bm_wf_sR (o := 164) (f := 9) w9 (by decide : 169 < 170)
  have w11 := bm_wf_z w10
  have w12 := bm_wf_sR (o := 164) (f := 10) w11 (by decide : 170 < 171)
  have w13 := bm_wf_z w12
  have w14 := bm_wf_sR (o := 164) (f := 21) w13 (by decide : 171 < 172)
  have w15 := bm_wf_z w14
  have w16 := bm_wf_sR (o := 164) (f := 22) w15 (by decide : 172 < 173)
  have w17 := bm_wf_z w16
  have w18 := bm_wf_sR (o := 164) (f := 23) w17 (by decide : 173 < 174)
  have w19 := bm_wf_z w18
  have w20 := bm_wf_sR (o := 164) (f := 31) w19 (by decide : 174 < 175)
  have w21 := bm_wf_z w20
  have w22 := bm_wf_sR (o := 164) (f := 35) w21 (by decide : 175 < 176)
  have w23 := bm_wf_z w22
  have w24 := bm_wf_sR (o := 164) (f := 37) w23 (by decide : 176 < 177)
  have w25 := bm_wf_z w24
  have w26 := bm_wf_sR (o := 164) (f := 43) w25 (by decide : 177 < 178)
  have w27 := bm_wf_z w26
  have w28 := bm_wf_sR (o := 164) (f := 44) w27 (by decide : 178 < 179)
  have w29 := bm_wf_z w28
  have w30 := bm_wf_sR (o := 164) (f := 45) w29 (by decide : 179 < 180)
  have w31 := bm_wf_z w30
  have w32 := bm_wf_sR (o := 164) (f := 46) w31 (by decide : 180 < 181)
  exact w32
theorem wk_X12_164 {M : bm_M} (w0 : bm_wf 165 M) : bm_wf 181 (i_X12_164 M) := wk_mem12 w0
set_option maxHeartbeats 4000000 in
set_option maxRecDepth 100000 in
theorem k_X12_164 {L : bm_L} {d : Nat} {M : bm_M} (w0 : bm_wf 165 M) : bm_C L m_X12_init (d + 1) 165 181 [.ref 164] M (fun r M' => r = none ∧ M' = i_X12_164 M) := by
  refine bm_C.ofV (by decide) (Nat.le_of_ble_eq_true rfl) ?_
  show bm_V L m_X12_init (d + 1) 165 181 165 0 [(0, .ref 164)] [] M _
  refine bv_aload_n dX12_init_0 0 rfl ?_
  refine bv_oini dX12_init_1 mwo_12_27 (by decide) ?_
  refine bv_aload_n dX12_init_4 0 rfl ?_
  refine bv_sipush (v := 940) dX12_init_5 (by decide) ?_
  refine bv_newa1 dX12_init_8 rfl (by decide) (by decide) (by decide) w0 (by decide) (by decide) rfl rfl ?_
  have w1 := bm_wf_z w0
  refine bv_putRF (v := some 165) dX12_init_10 fl_12_14 rfl (fun C T N h => (congrArg Prod.fst (Option.some.inj h)).symm) rfl (by decide) rfl ?_
  have w2 := bm_wf_sR (o := 164) (f := 1) w1 (by decide : 165 < 166)
  refine bv_aload_n dX12_init_13 0 rfl ?_
  refine bv_sipush (v := 287) dX12_init_14 (by decide) ?_
  refine bv_newa0 dX12_init_17 rfl (by decide) (by decide) (by decide) w2 (by decide) (by decide) rfl rfl ?_
  have w3 := bm_wf_z w2
  refine bv_putRF (v := some 166) dX12_init_19 fl_12_33 rfl (fun C T N h => (congrArg Prod.fst (Option.some.inj h)).symm) rfl (by decide) rfl ?_
  have w4 := bm_wf_sR (o := 164) (f := 6) w3 (by decide : 166 < 167)
  refine bv_aload_n dX12_init_22 0 rfl ?_
  refine bv_bipush (v := 61) dX12_init_23 (by decide) ?_
  refine bv_newa0 dX12_init_25 rfl (by decide) (by decide) (by decide) w4 (by decide) (by decide) rfl rfl ?_
  have w5 := bm_wf_z w4
  refine bv_putRF (v := some 167) dX12_init_27 fl_12_37 rfl (fun C T N h => (congrArg Prod.fst (Option.some.inj h)).symm) rfl (by decide) rfl ?_
  have w6 := bm_wf_sR (o := 164) (f := 7) w5 (by decide : 167 < 168)
  refine bv_aload_n dX12_init_30 0 rfl ?_
  refine bv_sipush (v := 135) dX12_init_31 (by decide) ?_
  refine bv_newa0 dX12_init_34 rfl (by decide) (by decide) (by decide) w6 (by decide) (by decide) rfl rfl ?_
  have w7 := bm_wf_z w6
  refine bv_putRF (v := some 168) dX12_init_36 fl_12_40 rfl (fun C T N h => (congrArg Prod.fst (Option.some.inj h)).symm) rfl (by decide) rfl ?_
  have w8 := bm_wf_sR (o := 164) (f := 8) w7 (by decide : 168 < 169)
  refine bv_aload_n dX12_init_39 0 rfl ?_
  refine bv_bipush (v := 30) dX12_init_40 (by decide) ?_
  refine bv_newa2 dX12_init_42 rfl (by decide) (by decide) (by decide) w8 (by decide) (by decide) rfl rfl ?_
  have w9 := bm_wf_z w8
  refine bv_putRF (v := some 169) dX12_init_44 fl_12_43 rfl (fun C T N h => (congrArg Prod.fst (Option.some.inj h)).symm) rfl (by decide) rfl ?_
  have w10 := bm_wf_sR (o := 164) (f := 9) w9 (by decide : 169 < 170)
  refine bv_aload_n dX12_init_47 0 rfl ?_
  refine bv_bipush (v := 34) dX12_init_48 (by decide) ?_
  refine bv_newa2 dX12_init_50 rfl (by decide) (by decide) (by decide) w10 (by decide) (by decide) rfl rfl ?_
  have w11 := bm_wf_z w10
  refine bv_putRF (v := some 170) dX12_init_52 fl_12_47 rfl (fun C T N h => (congrArg Prod.fst (Option.some.inj h)).symm) rfl (by decide) rfl ?_
  have w12 := bm_wf_sR (o := 164) (f := 10) w11 (by decide : 170 < 171)
  refine bv_aload_n dX12_init_55 0 rfl ?_
  refine bv_bipush (v := 8) dX12_init_56 (by decide) ?_
  refine bv_newa0 dX12_init_58 rfl (by decide) (by decide) (by decide) w12 (by decide) (by decide) rfl rfl ?_
  have w13 := bm_wf_z w12
  refine bv_putRF (v := some 171) dX12_init_60 fl_12_50 rfl (fun C T N h => (congrArg Prod.fst (Option.some.inj h)).symm) rfl (by decide) rfl ?_
  have w14 := bm_wf_sR (o := 164) (f := 21) w13 (by decide : 171 < 172)
  refine bv_aload_n dX12_init_63 0 rfl ?_
  refine bv_sipush (v := 360) dX12_init_64 (by decide) ?_
  refine bv_newa0 dX12_init_67 rfl (by decide) (by decide) (by decide) w14 (by decide) (by decide) rfl rfl ?_
  have w15 := bm_wf_z w14
  refine bv_putRF (v := some 172) dX12_init_69 fl_12_53 rfl (fun C T N h => (congrArg Prod.fst (Option.some.inj h)).symm) rfl (by decide) rfl ?_
  have w16 := bm_wf_sR (o := 164) (f := 22) w15 (by decide : 172 < 173)
  refine bv_aload_n dX12_init_72 0 rfl ?_
  refine bv_bipush (v := 45) dX12_init_73 (by decide) ?_
  refine bv_newa0 dX12_init_75 rfl (by decide) (by decide) (by decide) w16 (by decide) (by decide) rfl rfl ?_
  have w17 := bm_wf_z w16
  refine bv_putRF (v := some 173) dX12_init_77 fl_12_56 rfl (fun C T N h => (congrArg Prod.fst (Option.some.inj h)).symm) rfl (by decide) rfl ?_
  have w18 := bm_wf_sR (o := 164) (f := 23) w17 (by decide : 173 < 174)
  refine bv_aload_n dX12_init_80 0 rfl ?_
  refine bv_iconst (v := (-1)) dX12_init_81 (by decide) ?_
  refine bv_putI dX12_init_82 fl_12_59 rfl (by decide) rfl rfl rfl ?_
  refine bv_aload_n dX12_init_85 0 rfl ?_
  refine bv_iconst (v := (-1)) dX12_init_86 (by decide) ?_
  refine bv_putI dX12_init_87 fl_12_62 rfl (by decide) rfl rfl rfl ?_
  refine bv_aload_n dX12_init_90 0 rfl ?_
  refine bv_iconst (v := (-1)) dX12_init_91 (by decide) ?_
  refine bv_putI dX12_init_92 fl_12_65 rfl (by decide) rfl rfl rfl ?_
  refine bv_aload_n dX12_init_95 0 rfl ?_
  refine bv_iconst (v := (-1)) dX12_init_96 (by decide) ?_
  refine bv_putI dX12_init_97 fl_12_68 rfl (by decide) rfl rfl rfl ?_
  refine bv_aload_n dX12_init_100 0 rfl ?_
  refine bv_bipush (v := 48) dX12_init_101 (by decide) ?_
  refine bv_newa1 dX12_init_103 rfl (by decide) (by decide) (by decide) w18 (by decide) (by decide) rfl rfl ?_
  have w19 := bm_wf_z w18
  refine bv_putRF (v := some 174) dX12_init_105 fl_12_71 rfl (fun C T N h => (congrArg Prod.fst (Option.some.inj h)).symm) rfl (by decide) rfl ?_
  have w20 := bm_wf_sR (o := 164) (f := 31) w19 (by decide : 174 < 175)
  refine bv_aload_n dX12_init_108 0 rfl ?_
  refine bv_iconst (v := 4) dX12_init_109 (by decide) ?_
  refine bv_newa0 dX12_init_110 rfl (by decide) (by decide) (by decide) w20 (by decide) (by decide) rfl rfl ?_
  have w21 := bm_wf_z w20
  refine bv_putRF (v := some 175) dX12_init_112 fl_12_74 rfl (fun C T N h => (congrArg Prod.fst (Option.some.inj h)).symm) rfl (by decide) rfl ?_
  have w22 := bm_wf_sR (o := 164) (f := 35) w21 (by decide : 175 < 176)
  refine bv_aload_n dX12_init_115 0 rfl ?_
  refine bv_bipush (v := 45) dX12_init_116 (by decide) ?_
  refine bv_newa0 dX12_init_118 rfl (by decide) (by decide) (by decide) w22 (by decide) (by decide) rfl rfl ?_
  have w23 := bm_wf_z w22
  refine bv_putRF (v := some 176) dX12_init_120 fl_12_77 rfl (fun C T N h => (congrArg Prod.fst (Option.some.inj h)).symm) rfl (by decide) rfl ?_
  have w24 := bm_wf_sR (o := 164) (f := 37) w23 (by decide : 176 < 177)
  refine bv_aload_n dX12_init_123 0 rfl ?_
  refine bv_bipush (v := 45) dX12_init_124 (by decide) ?_
  refine bv_newa3 dX12_init_126 rfl (by decide) (by decide) (by decide) w24 (by decide) (by decide) rfl rfl ?_
  have w25 := bm_wf_z w24
  refine bv_putRF (v := some 177) dX12_init_128 fl_12_80 rfl (fun C T N h => (congrArg Prod.fst (Option.some.inj h)).symm) rfl (by decide) rfl ?_
  have w26 := bm_wf_sR (o := 164) (f := 43) w25 (by decide : 177 < 178)
  refine bv_aload_n dX12_init_131 0 rfl ?_
  refine bv_sipush (v := 574) dX12_init_132 (by decide) ?_
  refine bv_newa0 dX12_init_135 rfl (by decide) (by decide) (by decide) w26 (by decide) (by decide) rfl rfl ?_
  have w27 := bm_wf_z w26
  refine bv_putRF (v := some 178) dX12_init_137 fl_12_84 rfl (fun C T N h => (congrArg Prod.fst (Option.some.inj h)).symm) rfl (by decide) rfl ?_
  have w28 := bm_wf_sR (o := 164) (f := 44) w27 (by decide : 178 < 179)
  refine bv_aload_n dX12_init_140 0 rfl ?_
  refine bv_bipush (v := 30) dX12_init_141 (by decide) ?_
  refine bv_newa2 dX12_init_143 rfl (by decide) (by decide) (by decide) w28 (by decide) (by decide) rfl rfl ?_
  have w29 := bm_wf_z w28
  refine bv_putRF (v := some 179) dX12_init_145 fl_12_87 rfl (fun C T N h => (congrArg Prod.fst (Option.some.inj h)).symm) rfl (by decide) rfl ?_
  have w30 := bm_wf_sR (o := 164) (f := 45) w29 (by decide : 179 < 180)
  refine bv_aload_n dX12_init_148 0 rfl ?_
  refine bv_iconst (v := 2) dX12_init_149 (by decide) ?_
  refine bv_newa3 dX12_init_150 rfl (by decide) (by decide) (by decide) w30 (by decide) (by decide) rfl rfl ?_
  have w31 := bm_wf_z w30
  refine bv_putRF (v := some 180) dX12_init_152 fl_12_90 rfl (fun C T N h => (congrArg Prod.fst (Option.some.inj h)).symm) rfl (by decide) rfl ?_
  have w32 := bm_wf_sR (o := 164) (f := 46) w31 (by decide : 180 < 181)
  refine bv_aload_n dX12_init_155 0 rfl ?_
  refine bv_getA (a := 170) dX12_init_156 fl_12_47 rfl (by decide) rfl rfl ?_
  refine bv_iconst (v := 0) dX12_init_159 (by decide) ?_
  refine bv_ldc2 (v := 7168366) dX12_init_160 cst_12_93 ?_
  refine bv_last dX12_init_163 rfl (by decide) (by unfold vp_in; decide) ?_
  refine bv_aload_n dX12_init_164 0 rfl ?_
  refine bv_getA (a := 170) dX12_init_165 fl_12_47 rfl (by decide) rfl rfl ?_
  refine bv_iconst (v := 1) dX12_init_168 (by decide) ?_
  refine bv_ldc2 (v := 117026742756708) dX12_init_169 cst_12_95 ?_
  refine bv_last dX12_init_172 rfl (by decide) (by unfold vp_in; decide) ?_
  refine bv_aload_n dX12_init_173 0 rfl ?_
  refine bv_getA (a := 170) dX12_init_174 fl_12_47 rfl (by decide) rfl rfl ?_
  refine bv_iconst (v := 2) dX12_init_177 (by decide) ?_
  refine bv_ldc2 (v := 1735550329) dX12_init_178 cst_12_97 ?_
  refine bv_last dX12_init_181 rfl (by decide) (by unfold vp_in; decide) ?_
  refine bv_aload_n dX12_init_182 0 rfl ?_
  refine bv_getA (a := 170) dX12_init_183 fl_12_47 rfl (by decide) rfl rfl ?_
  refine bv_iconst (v := 3) dX12_init_186 (by decide) ?_
  refine bv_ldc2 (v := 504363246962) dX12_init_187 cst_12_99 ?_
  refine bv_last dX12_init_190 rfl (by decide) (by unfold vp_in; decide) ?_
  refine bv_aload_n dX12_init_191 0 rfl ?_
  refine bv_getA (a := 170) dX12_init_192 fl_12_47 rfl (by decide) rfl rfl ?_
  refine bv_iconst (v := 4) dX12_init_195 (by decide) ?_
  refine bv_ldc2 (v := 478660552050) dX12_init_196 cst_12_101 ?_
  refine bv_last dX12_init_199 rfl (by decide) (by unfold vp_in; decide) ?_
  refine bv_aload_n dX12_init_200 0 rfl ?_
  refine bv_getA (a := 170) dX12_init_201 fl_12_47 rfl (by decide) rfl rfl ?_
  refine bv_iconst (v := 5) dX12_init_204 (by decide) ?_
  refine bv_ldc2 (v := 1818584692) dX12_init_205 cst_12_103 ?_
  refine bv_last dX12_init_208 rfl (by decide) (by unfold vp_in; decide) ?_
  refine bv_aload_n dX12_init_209 0 rfl ?_
  refine bv_getA (a := 170) dX12_init_210 fl_12_47 rfl (by decide) rfl rfl ?_
  refine bv_bipush (v := 6) dX12_init_213 (by decide) ?_
  refine bv_ldc2 (v := 491394656372) dX12_init_215 cst_12_105 ?_
  refine bv_last dX12_init_218 rfl (by decide) (by unfold vp_in; decide) ?_
  refine bv_aload_n dX12_init_219 0 rfl ?_
  refine bv_getA (a := 170) dX12_init_220 fl_12_47 rfl (by decide) rfl rfl ?_
  refine bv_bipush (v := 7) dX12_init_223 (by decide) ?_
  refine bv_ldc2 (v := 1651471464) dX12_init_225 cst_12_107 ?_
  refine bv_last dX12_init_228 rfl (by decide) (by unfold vp_in; decide) ?_
  refine bv_aload_n dX12_init_229 0 rfl ?_
  refine bv_getA (a := 170) dX12_init_230 fl_12_47 rfl (by decide) rfl rfl ?_
  refine bv_bipush (v := 8) dX12_init_233 (by decide) ?_
  refine bv_ldc2 (v := 6713189) dX12_init_235 cst_12_109 ?_
  refine bv_last dX12_init_238 rfl (by decide) (by unfold vp_in; decide) ?_
  refine bv_aload_n dX12_init_239 0 rfl ?_
  refine bv_getA (a := 170) dX12_init_240 fl_12_47 rfl (by decide) rfl rfl ?_
  refine bv_bipush (v := 9) dX12_init_243 (by decide) ?_
  refine bv_ldc2 (v := 427020345714) dX12_init_245 cst_12_111 ?_
  refine bv_last dX12_init_248 rfl (by decide) (by unfold vp_in; decide) ?_
  refine bv_aload_n dX12_init_249 0 rfl ?_
  refine bv_getA (a := 170) dX12_init_250 fl_12_47 rfl (by decide) rfl rfl ?_
  refine bv_bipush (v := 10) dX12_init_253 (by decide) ?_
  refine bv_ldc2 (v := 1918986606) dX12_init_255 cst_12_113 ?_
  refine bv_last dX12_init_258 rfl (by decide) (by unfold vp_in; decide) ?_
  refine bv_aload_n dX12_init_259 0 rfl ?_
  refine bv_getA (a := 170) dX12_init_260 fl_12_47 rfl (by decide) rfl rfl ?_
  refine bv_bipush (v := 11) dX12_init_263 (by decide) ?_
  refine bv_ldc2 (v := 465624790131) dX12_init_265 cst_12_115 ?_
  refine bv_last dX12_init_268 rfl (by decide) (by unfold vp_in; decide) ?_
  refine bv_aload_n dX12_init_269 0 rfl ?_
  refine bv_getA (a := 170) dX12_init_270 fl_12_47 rfl (by decide) rfl rfl ?_
  refine bv_bipush (v := 12) dX12_init_273 (by decide) ?_
  refine bv_ldc2 (v := 444150998387) dX12_init_275 cst_12_117 ?_
  refine bv_last dX12_init_278 rfl (by decide) (by unfold vp_in; decide) ?_
  refine bv_aload_n dX12_init_279 0 rfl ?_
  refine bv_getA (a := 170) dX12_init_280 fl_12_47 rfl (by decide) rfl rfl ?_
  refine bv_bipush (v := 13) dX12_init_283 (by decide) ?_
  refine bv_ldc2 (v := 126909394808947) dX12_init_285 cst_12_119 ?_
  refine bv_last dX12_init_288 rfl (by decide) (by unfold vp_in; decide) ?_
  refine bv_aload_n dX12_init_289 0 rfl ?_
  refine bv_getA (a := 170) dX12_init_290 fl_12_47 rfl (by decide) rfl rfl ?_
  refine bv_bipush (v := 14) dX12_init_293 (by decide) ?_
  refine bv_ldc2 (v := 512735536499) dX12_init_295 cst_12_121 ?_
  refine bv_last dX12_init_298 rfl (by decide) (by unfold vp_in; decide) ?_
  refine bv_aload_n dX12_init_299 0 rfl ?_
  refine bv_getA (a := 170) dX12_init_300 fl_12_47 rfl (by decide) rfl rfl ?_
  refine bv_bipush (v := 15) dX12_init_303 (by decide) ?_
  refine bv_ldc2 (v := 495790814323) dX12_init_305 cst_12_123 ?_
  refine bv_last dX12_init_308 rfl (by decide) (by unfold vp_in; decide) ?_
  refine bv_aload_n dX12_init_309 0 rfl ?_
  refine bv_getA (a := 170) dX12_init_310 fl_12_47 rfl (by decide) rfl rfl ?_
  refine bv_bipush (v := 16) dX12_init_313 (by decide) ?_
  refine bv_ldc2 (v := 1735353715) dX12_init_315 cst_12_125 ?_
  refine bv_last dX12_init_318 rfl (by decide) (by unfold vp_in; decide) ?_
  refine bv_aload_n dX12_init_319 0 rfl ?_
  refine bv_getA (a := 170) dX12_init_320 fl_12_47 rfl (by decide) rfl rfl ?_
  refine bv_bipush (v := 17) dX12_init_323 (by decide) ?_
  refine bv_ldc2 (v := 1700885364) dX12_init_325 cst_12_127 ?_
  refine bv_last dX12_init_328 rfl (by decide) (by unfold vp_in; decide) ?_
  refine bv_aload_n dX12_init_329 0 rfl ?_
  refine bv_getA (a := 170) dX12_init_330 fl_12_47 rfl (by decide) rfl rfl ?_
  refine bv_bipush (v := 18) dX12_init_333 (by decide) ?_
  refine bv_ldc2 (v := 495791207528) dX12_init_335 cst_12_129 ?_
  refine bv_last dX12_init_338 rfl (by decide) (by unfold vp_in; decide) ?_
  refine bv_aload_n dX12_init_339 0 rfl ?_
  refine bv_getA (a := 170) dX12_init_340 fl_12_47 rfl (by decide) rfl rfl ?_
  refine bv_bipush (v := 19) dX12_init_343 (by decide) ?_
  refine bv_ldc2 (v := 2003137396) dX12_init_345 cst_12_131 ?_
  refine bv_last dX12_init_348 rfl (by decide) (by unfold vp_in; decide) ?_
  refine bv_aload_n dX12_init_349 0 rfl ?_
  refine bv_getA (a := 170) dX12_init_350 fl_12_47 rfl (by decide) rfl rfl ?_
  refine bv_bipush (v := 20) dX12_init_353 (by decide) ?_
  refine bv_ldc2 (v := 474316174440) dX12_init_355 cst_12_133 ?_
  refine bv_last dX12_init_358 rfl (by decide) (by unfold vp_in; decide) ?_
  refine bv_aload_n dX12_init_359 0 rfl ?_
  refine bv_getA (a := 170) dX12_init_360 fl_12_47 rfl (by decide) rfl rfl ?_
  refine bv_bipush (v := 21) dX12_init_363 (by decide) ?_
  refine bv_ldc2 (v := 1752135026) dX12_init_365 cst_12_135 ?_
  refine bv_last dX12_init_368 rfl (by decide) (by unfold vp_in; decide) ?_
  refine bv_aload_n dX12_init_369 0 rfl ?_
  refine bv_getA (a := 170) dX12_init_370 fl_12_47 rfl (by decide) rfl rfl ?_
  refine bv_bipush (v := 22) dX12_init_373 (by decide) ?_
  refine bv_ldc2 (v := 28530) dX12_init_375 cst_12_137 ?_
  refine bv_last dX12_init_378 rfl (by decide) (by unfold vp_in; decide) ?_
  refine bv_aload_n dX12_init_379 0 rfl ?_
  refine bv_getA (a := 170) dX12_init_380 fl_12_47 rfl (by decide) rfl rfl ?_
  refine bv_bipush (v := 23) dX12_init_383 (by decide) ?_
  refine bv_ldc2 (v := 6385252) dX12_init_385 cst_12_139 ?_
  refine bv_last dX12_init_388 rfl (by decide) (by unfold vp_in; decide) ?_
  refine bv_aload_n dX12_init_389 0 rfl ?_
  refine bv_getA (a := 170) dX12_init_390 fl_12_47 rfl (by decide) rfl rfl ?_
  refine bv_bipush (v := 24) dX12_init_393 (by decide) ?_
  refine bv_ldc2 (v := 7237492) dX12_init_395 cst_12_141 ?_
  refine bv_last dX12_init_398 rfl (by decide) (by unfold vp_in; decide) ?_
  refine bv_aload_n dX12_init_399 0 rfl ?_
  refine bv_getA (a := 170) dX12_init_400 fl_12_47 rfl (by decide) rfl rfl ?_
  refine bv_bipush (v := 25) dX12_init_403 (by decide) ?_
  refine bv_ldc2 (v := 107148367717744) dX12_init_405 cst_12_143 ?_
  refine bv_last dX12_init_408 rfl (by decide) (by unfold vp_in; decide) ?_
  refine bv_aload_n dX12_init_409 0 rfl ?_
  refine bv_getA (a := 170) dX12_init_410 fl_12_47 rfl (by decide) rfl rfl ?_
  refine bv_bipush (v := 26) dX12_init_413 (by decide) ?_
  refine bv_ldc2 (v := 126922448463204) dX12_init_415 cst_12_145 ?_
  refine bv_last dX12_init_418 rfl (by decide) (by unfold vp_in; decide) ?_
  refine bv_aload_n dX12_init_419 0 rfl ?_
  refine bv_getA (a := 170) dX12_init_420 fl_12_47 rfl (by decide) rfl rfl ?_
  refine bv_bipush (v := 27) dX12_init_423 (by decide) ?_
  refine bv_ldc2 (v := 1768189029) dX12_init_425 cst_12_147 ?_
  refine bv_last dX12_init_428 rfl (by decide) (by unfold vp_in; decide) ?_
  refine bv_aload_n dX12_init_429 0 rfl ?_
  refine bv_getA (a := 170) dX12_init_430 fl_12_47 rfl (by decide) rfl rfl ?_
  refine bv_bipush (v := 28) dX12_init_433 (by decide) ?_
  refine bv_ldc2 (v := 1936024947) dX12_init_435 cst_12_149 ?_
  refine bv_last dX12_init_438 rfl (by decide) (by unfold vp_in; decide) ?_
  refine bv_aload_n dX12_init_439 0 rfl ?_
  refine bv_getA (a := 170) dX12_init_440 fl_12_47 rfl (by decide) rfl rfl ?_
  refine bv_bipush (v := 29) dX12_init_443 (by decide) ?_
  refine bv_ldc2 (v := 6840691) dX12_init_445 cst_12_151 ?_
  refine bv_last dX12_init_448 rfl (by decide) (by unfold vp_in; decide) ?_
  refine bv_aload_n dX12_init_449 0 rfl ?_
  refine bv_getA (a := 170) dX12_init_450 fl_12_47 rfl (by decide) rfl rfl ?_
  refine bv_bipush (v := 30) dX12_init_453 (by decide) ?_
  refine bv_ldc2 (v := 1651666807) dX12_init_455 cst_12_153 ?_
  refine bv_last dX12_init_458 rfl (by decide) (by unfold vp_in; decide) ?_
  refine bv_aload_n dX12_init_459 0 rfl ?_
  refine bv_getA (a := 170) dX12_init_460 fl_12_47 rfl (by decide) rfl rfl ?_
  refine bv_bipush (v := 31) dX12_init_463 (by decide) ?_
  refine bv_ldc2 (v := 448377483876) dX12_init_465 cst_12_155 ?_
  refine bv_last dX12_init_468 rfl (by decide) (by unfold vp_in; decide) ?_
  refine bv_aload_n dX12_init_469 0 rfl ?_
  refine bv_getA (a := 170) dX12_init_470 fl_12_47 rfl (by decide) rfl rfl ?_
  refine bv_bipush (v := 32) dX12_init_473 (by decide) ?_
  refine bv_ldc2 (v := 1819243380) dX12_init_475 cst_12_157 ?_
  refine bv_last dX12_init_478 rfl (by decide) (by unfold vp_in; decide) ?_
  refine bv_aload_n dX12_init_479 0 rfl ?_
  refine bv_getA (a := 170) dX12_init_480 fl_12_47 rfl (by decide) rfl rfl ?_
  refine bv_bipush (v := 33) dX12_init_483 (by decide) ?_
  refine bv_ldc2 (v := 121450625394034) dX12_init_485 cst_12_159 ?_
  refine bv_last dX12_init_488 rfl (by decide) (by unfold vp_in; decide) ?_
  show bm_V L m_X12_init (d + 1) 165 181 181 489 [(0, .ref 164)] [] (i_mem12 M) _
  refine bv_aload_n dX12_init_489 0 rfl ?_
  refine bv_callV (n2 := 181) (b := 164) (ci := 11) (As := []) (by decide) rfl ⟨_, _, rfl⟩ dX12_init_490 mc_12_161 (c0_X12_clears (I := (i_mem12 M).1) (J := (i_mem12 M).2.1) (R := (i_mem12 M).2.2.1) (W := (i_mem12 M).2.2.2) (d := d) (Nat.le_refl 181) rfl (pp_clears _)) rfl rfl (by decide) (Nat.le_refl 181) (fun r M2 hq => ?_)
  obtain ⟨rfl, rfl⟩ := hq
  refine bv_iconst (v := 0) dX12_init_493 (by decide) ?_
  refine bv_istore_n (ls1 := [(0, .ref 164), (1, .int 0)]) dX12_init_494 (by decide) rfl rfl ?_
  have h1 := v_model_loop (L := L) (d := d) (M := bm_clr (i_mem12 M)) (Q := fun r M' => r = none ∧ M' = i_X12_164 M) rfl rfl (bv_vret dX12_init_519 rfl ⟨rfl, rfl⟩) 61 0 (by omega)
  rw [bm_fill_nil (Nat.le_refl 0), nI_0] at h1
  exact h1
