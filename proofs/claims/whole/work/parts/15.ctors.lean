def i_X9_1 (M : bm_M) : bm_M := (bm_sR (bm_z M 2) 1 0 (some 2))
theorem wk_X9_1 {M : bm_M} (w0 : bm_wf 2 M) : bm_wf 3 (i_X9_1 M) := by
  have w1 := bm_wf_z w0
  have w2 := bm_wf_sR (o := 1) (f := 0) w1 (by decide : 2 < 3)
  exact w2
set_option maxHeartbeats 4000000 in
set_option maxRecDepth 100000 in
theorem k_X9_1 {L : bm_L} {d : Nat} {M : bm_M} (w0 : bm_wf 2 M) : bm_C L m_X9_init (d + 1) 2 3 [.ref 1] M (fun r M' => r = none ∧ M' = i_X9_1 M) := by
  refine bm_C.ofV (by decide) (Nat.le_of_ble_eq_true rfl) ?_
  show bm_V L m_X9_init (d + 1) 2 3 2 0 [(0, .ref 1)] [] M _
  refine bv_aload_n dX9_init_0 0 rfl ?_
  refine bv_oini dX9_init_1 mwo_9_3 (by decide) ?_
  refine bv_aload_n dX9_init_4 0 rfl ?_
  refine bv_sipush (v := 940) dX9_init_5 (by decide) ?_
  refine bv_newa0 dX9_init_8 rfl (by decide) (by decide) (by decide) w0 (by decide) (by decide) rfl rfl ?_
  have w1 := bm_wf_z w0
  refine bv_putRF (v := some 2) dX9_init_10 fl_9_9 rfl (fun C T N h => (congrArg Prod.fst (Option.some.inj h)).symm) rfl (by decide) rfl ?_
  have w2 := bm_wf_sR (o := 1) (f := 0) w1 (by decide : 2 < 3)
  exact bv_vret dX9_init_13 rfl ⟨rfl, rfl⟩
def i_X5_3 (M : bm_M) : bm_M := (bm_sR M 3 0 (some 1))
theorem wk_X5_3 {M : bm_M} (w0 : bm_wf 4 M) : bm_wf 4 (i_X5_3 M) := by
  have w1 := bm_wf_sR (o := 3) (f := 0) w0 (by decide : 1 < 4)
  exact w1
set_option maxHeartbeats 4000000 in
set_option maxRecDepth 100000 in
theorem k_X5_3 {L : bm_L} {d : Nat} {M : bm_M} (w0 : bm_wf 4 M) : bm_C L m_X5_init (d + 1) 4 4 [.ref 3, .ref 1] M (fun r M' => r = none ∧ M' = i_X5_3 M) := by
  refine bm_C.ofV (by decide) (Nat.le_of_ble_eq_true rfl) ?_
  show bm_V L m_X5_init (d + 1) 4 4 4 0 [(0, .ref 3), (1, .ref 1)] [] M _
  refine bv_aload_n dX5_init_0 0 rfl ?_
  refine bv_oini dX5_init_1 mwo_5_3 (by decide) ?_
  refine bv_aload_n dX5_init_4 0 rfl ?_
  refine bv_aload_n dX5_init_5 1 rfl ?_
  refine bv_putRF (v := some 1) dX5_init_6 fl_5_9 rfl (fun C T N h => (congrArg Prod.fst (Option.some.inj h)).symm) rfl (by decide) rfl ?_
  have w1 := bm_wf_sR (o := 3) (f := 0) w0 (by decide : 1 < 4)
  exact bv_vret dX5_init_9 rfl ⟨rfl, rfl⟩
def i_X0_4 (M : bm_M) : bm_M := (bm_sI (bm_sI (bm_sR (bm_z (bm_sR (bm_z (bm_sR (bm_z (bm_sR (bm_z (bm_sR (bm_z (bm_sR (bm_z (bm_sR (bm_z (bm_sR (bm_z (bm_sR (bm_z (bm_sR (bm_z M 5) 4 0 (some 5)) 6) 4 1 (some 6)) 7) 4 2 (some 7)) 8) 4 3 (some 8)) 9) 4 4 (some 9)) 10) 4 5 (some 10)) 11) 4 6 (some 11)) 12) 4 7 (some 12)) 13) 4 8 (some 13)) 14) 4 9 (some 14)) 4 15 2) 4 16 6)
theorem wk_X0_4 {M : bm_M} (w0 : bm_wf 5 M) : bm_wf 15 (i_X0_4 M) := by
  have w1 := bm_wf_z w0
  have w2 := bm_wf_sR (o := 4) (f := 0) w1 (by decide : 5 < 6)
  have w3 := bm_wf_z w2
  have w4 := bm_wf_sR (o := 4) (f := 1) w3 (by decide : 6 < 7)
  have w5 := bm_wf_z w4
  have w6 := bm_wf_sR (o := 4) (f := 2) w5 (by decide : 7 < 8)
  have w7 := bm_wf_z w6
  have w8 := bm_wf_sR (o := 4) (f := 3) w7 (by decide : 8 < 9)
  have w9 := bm_wf_z w8
  have w10 := bm_wf_sR (o := 4) (f := 4) w9 (by decide : 9 < 10)
  have w11 := bm_wf_z w10
  have w12 := bm_wf_sR (o := 4) (f := 5) w11 (by decide : 10 < 11)
  have w13 := bm_wf_z w12
  have w14 := bm_wf_sR (o := 4) (f := 6) w13 (by decide : 11 < 12)
  have w15 := bm_wf_z w14
  have w16 := bm_wf_sR (o := 4) (f := 7) w15 (by decide : 12 < 13)
  have w17 := bm_wf_z w16
  have w18 := bm_wf_sR (o := 4) (f := 8) w17 (by decide : 13 < 14)
  have w19 := bm_wf_z w18
  have w20 := bm_wf_sR (o := 4) (f := 9) w19 (by decide : 14 < 15)
  exact w20
set_option maxHeartbeats 4000000 in
set_option maxRecDepth 100000 in
theorem k_X0_4 {L : bm_L} {d : Nat} {M : bm_M} (w0 : bm_wf 5 M) : bm_C L m_X0_init (d + 1) 5 15 [.ref 4] M (fun r M' => r = none ∧ M' = i_X0_4 M) := by
  refine bm_C.ofV (by decide) (Nat.le_of_ble_eq_true rfl) ?_
  show bm_V L m_X0_init (d + 1) 5 15 5 0 [(0, .ref 4)] [] M _
  refine bv_aload_n dX0_init_0 0 rfl ?_
  refine bv_oini dX0_init_1 mwo_0_3 (by decide) ?_
  refine bv_aload_n dX0_init_4 0 rfl ?_
  refine bv_bipush (v := 8) dX0_init_5 (by decide) ?_
  refine bv_newa2 dX0_init_7 rfl (by decide) (by decide) (by decide) w0 (by decide) (by decide) rfl rfl ?_
  have w1 := bm_wf_z w0
  refine bv_putRF (v := some 5) dX0_init_9 fl_0_9 rfl (fun C T N h => (congrArg Prod.fst (Option.some.inj h)).symm) rfl (by decide) rfl ?_
  have w2 := bm_wf_sR (o := 4) (f := 0) w1 (by decide : 5 < 6)
  refine bv_aload_n dX0_init_12 0 rfl ?_
  refine bv_bipush (v := 8) dX0_init_13 (by decide) ?_
  refine bv_newa0 dX0_init_15 rfl (by decide) (by decide) (by decide) w2 (by decide) (by decide) rfl rfl ?_
  have w3 := bm_wf_z w2
  refine bv_putRF (v := some 6) dX0_init_17 fl_0_15 rfl (fun C T N h => (congrArg Prod.fst (Option.some.inj h)).symm) rfl (by decide) rfl ?_
  have w4 := bm_wf_sR (o := 4) (f := 1) w3 (by decide : 6 < 7)
  refine bv_aload_n dX0_init_20 0 rfl ?_
  refine bv_bipush (v := 8) dX0_init_21 (by decide) ?_
  refine bv_newa0 dX0_init_23 rfl (by decide) (by decide) (by decide) w4 (by decide) (by decide) rfl rfl ?_
  have w5 := bm_wf_z w4
  refine bv_putRF (v := some 7) dX0_init_25 fl_0_19 rfl (fun C T N h => (congrArg Prod.fst (Option.some.inj h)).symm) rfl (by decide) rfl ?_
  have w6 := bm_wf_sR (o := 4) (f := 2) w5 (by decide : 7 < 8)
  refine bv_aload_n dX0_init_28 0 rfl ?_
  refine bv_bipush (v := 8) dX0_init_29 (by decide) ?_
  refine bv_newa0 dX0_init_31 rfl (by decide) (by decide) (by decide) w6 (by decide) (by decide) rfl rfl ?_
  have w7 := bm_wf_z w6
  refine bv_putRF (v := some 8) dX0_init_33 fl_0_22 rfl (fun C T N h => (congrArg Prod.fst (Option.some.inj h)).symm) rfl (by decide) rfl ?_
  have w8 := bm_wf_sR (o := 4) (f := 3) w7 (by decide : 8 < 9)
  refine bv_aload_n dX0_init_36 0 rfl ?_
  refine bv_bipush (v := 8) dX0_init_37 (by decide) ?_
  refine bv_newa0 dX0_init_39 rfl (by decide) (by decide) (by decide) w8 (by decide) (by decide) rfl rfl ?_
  have w9 := bm_wf_z w8
  refine bv_putRF (v := some 9) dX0_init_41 fl_0_25 rfl (fun C T N h => (congrArg Prod.fst (Option.some.inj h)).symm) rfl (by decide) rfl ?_
  have w10 := bm_wf_sR (o := 4) (f := 4) w9 (by decide : 9 < 10)
  refine bv_aload_n dX0_init_44 0 rfl ?_
  refine bv_bipush (v := 7) dX0_init_45 (by decide) ?_
  refine bv_newa2 dX0_init_47 rfl (by decide) (by decide) (by decide) w10 (by decide) (by decide) rfl rfl ?_
  have w11 := bm_wf_z w10
  refine bv_putRF (v := some 10) dX0_init_49 fl_0_28 rfl (fun C T N h => (congrArg Prod.fst (Option.some.inj h)).symm) rfl (by decide) rfl ?_
  have w12 := bm_wf_sR (o := 4) (f := 5) w11 (by decide : 10 < 11)
  refine bv_aload_n dX0_init_52 0 rfl ?_
  refine bv_bipush (v := 7) dX0_init_53 (by decide) ?_
  refine bv_newa0 dX0_init_55 rfl (by decide) (by decide) (by decide) w12 (by decide) (by decide) rfl rfl ?_
  have w13 := bm_wf_z w12
  refine bv_putRF (v := some 11) dX0_init_57 fl_0_31 rfl (fun C T N h => (congrArg Prod.fst (Option.some.inj h)).symm) rfl (by decide) rfl ?_
  have w14 := bm_wf_sR (o := 4) (f := 6) w13 (by decide : 11 < 12)
  refine bv_aload_n dX0_init_60 0 rfl ?_
  refine bv_bipush (v := 7) dX0_init_61 (by decide) ?_
  refine bv_newa0 dX0_init_63 rfl (by decide) (by decide) (by decide) w14 (by decide) (by decide) rfl rfl ?_
  have w15 := bm_wf_z w14
  refine bv_putRF (v := some 12) dX0_init_65 fl_0_34 rfl (fun C T N h => (congrArg Prod.fst (Option.some.inj h)).symm) rfl (by decide) rfl ?_
  have w16 := bm_wf_sR (o := 4) (f := 7) w15 (by decide : 12 < 13)
  refine bv_aload_n dX0_init_68 0 rfl ?_
  refine bv_iconst (v := 4) dX0_init_69 (by decide) ?_
  refine bv_newa0 dX0_init_70 rfl (by decide) (by decide) (by decide) w16 (by decide) (by decide) rfl rfl ?_
  have w17 := bm_wf_z w16
  refine bv_putRF (v := some 13) dX0_init_72 fl_0_37 rfl (fun C T N h => (congrArg Prod.fst (Option.some.inj h)).symm) rfl (by decide) rfl ?_
  have w18 := bm_wf_sR (o := 4) (f := 8) w17 (by decide : 13 < 14)
  refine bv_aload_n dX0_init_75 0 rfl ?_
  refine bv_iconst (v := 4) dX0_init_76 (by decide) ?_
  refine bv_newa0 dX0_init_77 rfl (by decide) (by decide) (by decide) w18 (by decide) (by decide) rfl rfl ?_
  have w19 := bm_wf_z w18
  refine bv_putRF (v := some 14) dX0_init_79 fl_0_40 rfl (fun C T N h => (congrArg Prod.fst (Option.some.inj h)).symm) rfl (by decide) rfl ?_
  have w20 := bm_wf_sR (o := 4) (f := 9) w19 (by decide : 14 < 15)
  refine bv_aload_n dX0_init_82 0 rfl ?_
  refine bv_iconst (v := 2) dX0_init_83 (by decide) ?_
  refine bv_putI dX0_init_84 fl_0_43 rfl (by decide) rfl rfl rfl ?_
  refine bv_aload_n dX0_init_87 0 rfl ?_
  refine bv_bipush (v := 6) dX0_init_88 (by decide) ?_
  refine bv_putI dX0_init_90 fl_0_47 rfl (by decide) rfl rfl rfl ?_
  exact bv_vret dX0_init_93 rfl ⟨rfl, rfl⟩
def i_X0_15 (M : bm_M) : bm_M := (bm_sI (bm_sI (bm_sR (bm_z (bm_sR (bm_z (bm_sR (bm_z (bm_sR (bm_z (bm_sR (bm_z (bm_sR (bm_z (bm_sR (bm_z (bm_sR (bm_z (bm_sR (bm_z (bm_sR (bm_z M 16) 15 0 (some 16)) 17) 15 1 (some 17)) 18) 15 2 (some 18)) 19) 15 3 (some 19)) 20) 15 4 (some 20)) 21) 15 5 (some 21)) 22) 15 6 (some 22)) 23) 15 7 (some 23)) 24) 15 8 (some 24)) 25) 15 9 (some 25)) 15 15 2) 15 16 6)
theorem wk_X0_15 {M : bm_M} (w0 : bm_wf 16 M) : bm_wf 26 (i_X0_15 M) := by
  have w1 := bm_wf_z w0
  have w2 := bm_wf_sR (o := 15) (f := 0) w1 (by decide : 16 < 17)
  have w3 := bm_wf_z w2
  have w4 := bm_wf_sR (o := 15) (f := 1) w3 (by decide : 17 < 18)
  have w5 := bm_wf_z w4
  have w6 := bm_wf_sR (o := 15) (f := 2) w5 (by decide : 18 < 19)
  have w7 := bm_wf_z w6
  have w8 := bm_wf_sR (o := 15) (f := 3) w7 (by decide : 19 < 20)
  have w9 := bm_wf_z w8
  have w10 := bm_wf_sR (o := 15) (f := 4) w9 (by decide : 20 < 21)
  have w11 := bm_wf_z w10
  have w12 := bm_wf_sR (o := 15) (f := 5) w11 (by decide : 21 < 22)
  have w13 := bm_wf_z w12
  have w14 := bm_wf_sR (o := 15) (f := 6) w13 (by decide : 22 < 23)
  have w15 := bm_wf_z w14
  have w16 := bm_wf_sR (o := 15) (f := 7) w15 (by decide : 23 < 24)
  have w17 := bm_wf_z w16
  have w18 := bm_wf_sR (o := 15) (f := 8) w17 (by decide : 24 < 25)
  have w19 := bm_wf_z w18
  have w20 := bm_wf_sR (o := 15) (f := 9) w19 (by decide : 25 < 26)
  exact w20
set_option maxHeartbeats 4000000 in
set_option maxRecDepth 100000 in
theorem k_X0_15 {L : bm_L} {d : Nat} {M : bm_M} (w0 : bm_wf 16 M) : bm_C L m_X0_init (d + 1) 16 26 [.ref 15] M (fun r M' => r = none ∧ M' = i_X0_15 M) := by
  refine bm_C.ofV (by decide) (Nat.le_of_ble_eq_true rfl) ?_
  show bm_V L m_X0_init (d + 1) 16 26 16 0 [(0, .ref 15)] [] M _
  refine bv_aload_n dX0_init_0 0 rfl ?_
  refine bv_oini dX0_init_1 mwo_0_3 (by decide) ?_
  refine bv_aload_n dX0_init_4 0 rfl ?_
  refine bv_bipush (v := 8) dX0_init_5 (by decide) ?_
  refine bv_newa2 dX0_init_7 rfl (by decide) (by decide) (by decide) w0 (by decide) (by decide) rfl rfl ?_
  have w1 := bm_wf_z w0
  refine bv_putRF (v := some 16) dX0_init_9 fl_0_9 rfl (fun C T N h => (congrArg Prod.fst (Option.some.inj h)).symm) rfl (by decide) rfl ?_
  have w2 := bm_wf_sR (o := 15) (f := 0) w1 (by decide : 16 < 17)
  refine bv_aload_n dX0_init_12 0 rfl ?_
  refine bv_bipush (v := 8) dX0_init_13 (by decide) ?_
  refine bv_newa0 dX0_init_15 rfl (by decide) (by decide) (by decide) w2 (by decide) (by decide) rfl rfl ?_
  have w3 := bm_wf_z w2
  refine bv_putRF (v := some 17) dX0_init_17 fl_0_15 rfl (fun C T N h => (congrArg Prod.fst (Option.some.inj h)).symm) rfl (by decide) rfl ?_
  have w4 := bm_wf_sR (o := 15) (f := 1) w3 (by decide : 17 < 18)
  refine bv_aload_n dX0_init_20 0 rfl ?_
  refine bv_bipush (v := 8) dX0_init_21 (by decide) ?_
  refine bv_newa0 dX0_init_23 rfl (by decide) (by decide) (by decide) w4 (by decide) (by decide) rfl rfl ?_
  have w5 := bm_wf_z w4
  refine bv_putRF (v := some 18) dX0_init_25 fl_0_19 rfl (fun C T N h => (congrArg Prod.fst (Option.some.inj h)).symm) rfl (by decide) rfl ?_
  have w6 := bm_wf_sR (o := 15) (f := 2) w5 (by decide : 18 < 19)
  refine bv_aload_n dX0_init_28 0 rfl ?_
  refine bv_bipush (v := 8) dX0_init_29 (by decide) ?_
  refine bv_newa0 dX0_init_31 rfl (by decide) (by decide) (by decide) w6 (by decide) (by decide) rfl rfl ?_
  have w7 := bm_wf_z w6
  refine bv_putRF (v := some 19) dX0_init_33 fl_0_22 rfl (fun C T N h => (congrArg Prod.fst (Option.some.inj h)).symm) rfl (by decide) rfl ?_
  have w8 := bm_wf_sR (o := 15) (f := 3) w7 (by decide : 19 < 20)
  refine bv_aload_n dX0_init_36 0 rfl ?_
  refine bv_bipush (v := 8) dX0_init_37 (by decide) ?_
  refine bv_newa0 dX0_init_39 rfl (by decide) (by decide) (by decide) w8 (by decide) (by decide) rfl rfl ?_
  have w9 := bm_wf_z w8
  refine bv_putRF (v := some 20) dX0_init_41 fl_0_25 rfl (fun C T N h => (congrArg Prod.fst (Option.some.inj h)).symm) rfl (by decide) rfl ?_
  have w10 := bm_wf_sR (o := 15) (f := 4) w9 (by decide : 20 < 21)
  refine bv_aload_n dX0_init_44 0 rfl ?_
  refine bv_bipush (v := 7) dX0_init_45 (by decide) ?_
  refine bv_newa2 dX0_init_47 rfl (by decide) (by decide) (by decide) w10 (by decide) (by decide) rfl rfl ?_
  have w11 := bm_wf_z w10
  refine bv_putRF (v := some 21) dX0_init_49 fl_0_28 rfl (fun C T N h => (congrArg Prod.fst (Option.some.inj h)).symm) rfl (by decide) rfl ?_
  have w12 := bm_wf_sR (o := 15) (f := 5) w11 (by decide : 21 < 22)
  refine bv_aload_n dX0_init_52 0 rfl ?_
  refine bv_bipush (v := 7) dX0_init_53 (by decide) ?_
  refine bv_newa0 dX0_init_55 rfl (by decide) (by decide) (by decide) w12 (by decide) (by decide) rfl rfl ?_
  have w13 := bm_wf_z w12
  refine bv_putRF (v := some 22) dX0_init_57 fl_0_31 rfl (fun C T N h => (congrArg Prod.fst (Option.some.inj h)).symm) rfl (by decide) rfl ?_
  have w14 := bm_wf_sR (o := 15) (f := 6) w13 (by decide : 22 < 23)
  refine bv_aload_n dX0_init_60 0 rfl ?_
  refine bv_bipush (v := 7) dX0_init_61 (by decide) ?_
  refine bv_newa0 dX0_init_63 rfl (by decide) (by decide) (by decide) w14 (by decide) (by decide) rfl rfl ?_
  have w15 := bm_wf_z w14
  refine bv_putRF (v := some 23) dX0_init_65 fl_0_34 rfl (fun C T N h => (congrArg Prod.fst (Option.some.inj h)).symm) rfl (by decide) rfl ?_
  have w16 := bm_wf_sR (o := 15) (f := 7) w15 (by decide : 23 < 24)
  refine bv_aload_n dX0_init_68 0 rfl ?_
  refine bv_iconst (v := 4) dX0_init_69 (by decide) ?_
  refine bv_newa0 dX0_init_70 rfl (by decide) (by decide) (by decide) w16 (by decide) (by decide) rfl rfl ?_
  have w17 := bm_wf_z w16
  refine bv_putRF (v := some 24) dX0_init_72 fl_0_37 rfl (fun C T N h => (congrArg Prod.fst (Option.some.inj h)).symm) rfl (by decide) rfl ?_
  have w18 := bm_wf_sR (o := 15) (f := 8) w17 (by decide : 24 < 25)
  refine bv_aload_n dX0_init_75 0 rfl ?_
  refine bv_iconst (v := 4) dX0_init_76 (by decide) ?_
  refine bv_newa0 dX0_init_77 rfl (by decide) (by decide) (by decide) w18 (by decide) (by decide) rfl rfl ?_
  have w19 := bm_wf_z w18
  refine bv_putRF (v := some 25) dX0_init_79 fl_0_40 rfl (fun C T N h => (congrArg Prod.fst (Option.some.inj h)).symm) rfl (by decide) rfl ?_
  have w20 := bm_wf_sR (o := 15) (f := 9) w19 (by decide : 25 < 26)
  refine bv_aload_n dX0_init_82 0 rfl ?_
  refine bv_iconst (v := 2) dX0_init_83 (by decide) ?_
  refine bv_putI dX0_init_84 fl_0_43 rfl (by decide) rfl rfl rfl ?_
  refine bv_aload_n dX0_init_87 0 rfl ?_
  refine bv_bipush (v := 6) dX0_init_88 (by decide) ?_
  refine bv_putI dX0_init_90 fl_0_47 rfl (by decide) rfl rfl rfl ?_
  exact bv_vret dX0_init_93 rfl ⟨rfl, rfl⟩
def i_X8_26 (M : bm_M) : bm_M := (bm_sR (bm_sR (bm_z (bm_sR (bm_z (bm_sR (bm_z (bm_sR (bm_z (bm_sR (bm_z (bm_sR (bm_z M 27) 26 1 (some 27)) 28) 26 2 (some 28)) 29) 26 3 (some 29)) 30) 26 4 (some 30)) 31) 26 5 (some 31)) 32) 26 6 (some 32)) 26 0 (some 4))
theorem wk_X8_26 {M : bm_M} (w0 : bm_wf 27 M) : bm_wf 33 (i_X8_26 M) := by
  have w1 := bm_wf_z w0
  have w2 := bm_wf_sR (o := 26) (f := 1) w1 (by decide : 27 < 28)
  have w3 := bm_wf_z w2
  have w4 := bm_wf_sR (o := 26) (f := 2) w3 (by decide : 28 < 29)
  have w5 := bm_wf_z w4
  have w6 := bm_wf_sR (o := 26) (f := 3) w5 (by decide : 29 < 30)
  have w7 := bm_wf_z w6
  have w8 := bm_wf_sR (o := 26) (f := 4) w7 (by decide : 30 < 31)
  have w9 := bm_wf_z w8
  have w10 := bm_wf_sR (o := 26) (f := 5) w9 (by decide : 31 < 32)
  have w11 := bm_wf_z w10
  have w12 := bm_wf_sR (o := 26) (f := 6) w11 (by decide : 32 < 33)
  have w13 := bm_wf_sR (o := 26) (f := 0) w12 (by decide : 4 < 33)
  exact w13
set_option maxHeartbeats 4000000 in
set_option maxRecDepth 100000 in
theorem k_X8_26 {L : bm_L} {d : Nat} {M : bm_M} (w0 : bm_wf 27 M) : bm_C L m_X8_init (d + 1) 27 33 [.ref 26, .ref 4] M (fun r M' => r = none ∧ M' = i_X8_26 M) := by
  refine bm_C.ofV (by decide) (Nat.le_of_ble_eq_true rfl) ?_
  show bm_V L m_X8_init (d + 1) 27 33 27 0 [(0, .ref 26), (1, .ref 4)] [] M _
  refine bv_aload_n dX8_init_0 0 rfl ?_
  refine bv_oini dX8_init_1 mwo_8_3 (by decide) ?_
  refine bv_aload_n dX8_init_4 0 rfl ?_
  refine bv_bipush (v := 8) dX8_init_5 (by decide) ?_
  refine bv_newa0 dX8_init_7 rfl (by decide) (by decide) (by decide) w0 (by decide) (by decide) rfl rfl ?_
  have w1 := bm_wf_z w0
  refine bv_putRF (v := some 27) dX8_init_9 fl_8_9 rfl (fun C T N h => (congrArg Prod.fst (Option.some.inj h)).symm) rfl (by decide) rfl ?_
  have w2 := bm_wf_sR (o := 26) (f := 1) w1 (by decide : 27 < 28)
  refine bv_aload_n dX8_init_12 0 rfl ?_
  refine bv_bipush (v := 8) dX8_init_13 (by decide) ?_
  refine bv_newa0 dX8_init_15 rfl (by decide) (by decide) (by decide) w2 (by decide) (by decide) rfl rfl ?_
  have w3 := bm_wf_z w2
  refine bv_putRF (v := some 28) dX8_init_17 fl_8_15 rfl (fun C T N h => (congrArg Prod.fst (Option.some.inj h)).symm) rfl (by decide) rfl ?_
  have w4 := bm_wf_sR (o := 26) (f := 2) w3 (by decide : 28 < 29)
  refine bv_aload_n dX8_init_20 0 rfl ?_
  refine bv_bipush (v := 8) dX8_init_21 (by decide) ?_
  refine bv_newa0 dX8_init_23 rfl (by decide) (by decide) (by decide) w4 (by decide) (by decide) rfl rfl ?_
  have w5 := bm_wf_z w4
  refine bv_putRF (v := some 29) dX8_init_25 fl_8_18 rfl (fun C T N h => (congrArg Prod.fst (Option.some.inj h)).symm) rfl (by decide) rfl ?_
  have w6 := bm_wf_sR (o := 26) (f := 3) w5 (by decide : 29 < 30)
  refine bv_aload_n dX8_init_28 0 rfl ?_
  refine bv_bipush (v := 8) dX8_init_29 (by decide) ?_
  refine bv_newa0 dX8_init_31 rfl (by decide) (by decide) (by decide) w6 (by decide) (by decide) rfl rfl ?_
  have w7 := bm_wf_z w6
  refine bv_putRF (v := some 30) dX8_init_33 fl_8_21 rfl (fun C T N h => (congrArg Prod.fst (Option.some.inj h)).symm) rfl (by decide) rfl ?_
  have w8 := bm_wf_sR (o := 26) (f := 4) w7 (by decide : 30 < 31)
  refine bv_aload_n dX8_init_36 0 rfl ?_
  refine bv_bipush (v := 8) dX8_init_37 (by decide) ?_
  refine bv_newa0 dX8_init_39 rfl (by decide) (by decide) (by decide) w8 (by decide) (by decide) rfl rfl ?_
  have w9 := bm_wf_z w8
  refine bv_putRF (v := some 31) dX8_init_41 fl_8_24 rfl (fun C T N h => (congrArg Prod.fst (Option.some.inj h)).symm) rfl (by decide) rfl ?_
  have w10 := bm_wf_sR (o := 26) (f := 5) w9 (by decide : 31 < 32)
  refine bv_aload_n dX8_init_44 0 rfl ?_
  refine bv_bipush (v := 8) dX8_init_45 (by decide) ?_
  refine bv_newa0 dX8_init_47 rfl (by decide) (by decide) (by decide) w10 (by decide) (by decide) rfl rfl ?_
  have w11 := bm_wf_z w10
  refine bv_putRF (v := some 32) dX8_init_49 fl_8_27 rfl (fun C T N h => (congrArg Prod.fst (Option.some.inj h)).symm) rfl (by decide) rfl ?_
  have w12 := bm_wf_sR (o := 26) (f := 6) w11 (by decide : 32 < 33)
  refine bv_aload_n dX8_init_52 0 rfl ?_
  refine bv_aload_n dX8_init_53 1 rfl ?_
  refine bv_putRF (v := some 4) dX8_init_54 fl_8_30 rfl (fun C T N h => (congrArg Prod.fst (Option.some.inj h)).symm) rfl (by decide) rfl ?_
  have w13 := bm_wf_sR (o := 26) (f := 0) w12 (by decide : 4 < 33)
  exact bv_vret dX8_init_57 rfl ⟨rfl, rfl⟩
def i_X8_33 (M : bm_M) : bm_M := (bm_sR (bm_sR (bm_z (bm_sR (bm_z (bm_sR (bm_z (bm_sR (bm_z (bm_sR (bm_z (bm_sR (bm_z M 34) 33 1 (some 34)) 35) 33 2 (some 35)) 36) 33 3 (some 36)) 37) 33 4 (some 37)) 38) 33 5 (some 38)) 39) 33 6 (some 39)) 33 0 (some 4))
theorem wk_X8_33 {M : bm_M} (w0 : bm_wf 34 M) : bm_wf 40 (i_X8_33 M) := by
  have w1 := bm_wf_z w0
  have w2 := bm_wf_sR (o := 33) (f := 1) w1 (by decide : 34 < 35)
  have w3 := bm_wf_z w2
  have w4 := bm_wf_sR (o := 33) (f := 2) w3 (by decide : 35 < 36)
  have w5 := bm_wf_z w4
  have w6 := bm_wf_sR (o := 33) (f := 3) w5 (by decide : 36 < 37)
  have w7 := bm_wf_z w6
  have w8 := bm_wf_sR (o := 33) (f := 4) w7 (by decide : 37 < 38)
  have w9 := bm_wf_z w8
  have w10 := bm_wf_sR (o := 33) (f := 5) w9 (by decide : 38 < 39)
  have w11 := bm_wf_z w10
  have w12 := bm_wf_sR (o := 33) (f := 6) w11 (by decide : 39 < 40)
  have w13 := bm_wf_sR (o := 33) (f := 0) w12 (by decide : 4 < 40)
  exact w13
set_option maxHeartbeats 4000000 in
set_option maxRecDepth 100000 in
theorem k_X8_33 {L : bm_L} {d : Nat} {M : bm_M} (w0 : bm_wf 34 M) : bm_C L m_X8_init (d + 1) 34 40 [.ref 33, .ref 4] M (fun r M' => r = none ∧ M' = i_X8_33 M) := by
  refine bm_C.ofV (by decide) (Nat.le_of_ble_eq_true rfl) ?_
  show bm_V L m_X8_init (d + 1) 34 40 34 0 [(0, .ref 33), (1, .ref 4)] [] M _
  refine bv_aload_n dX8_init_0 0 rfl ?_
  refine bv_oini dX8_init_1 mwo_8_3 (by decide) ?_
  refine bv_aload_n dX8_init_4 0 rfl ?_
  refine bv_bipush (v := 8) dX8_init_5 (by decide) ?_
  refine bv_newa0 dX8_init_7 rfl (by decide) (by decide) (by decide) w0 (by decide) (by decide) rfl rfl ?_
  have w1 := bm_wf_z w0
  refine bv_putRF (v := some 34) dX8_init_9 fl_8_9 rfl (fun C T N h => (congrArg Prod.fst (Option.some.inj h)).symm) rfl (by decide) rfl ?_
  have w2 := bm_wf_sR (o := 33) (f := 1) w1 (by decide : 34 < 35)
  refine bv_aload_n dX8_init_12 0 rfl ?_
  refine bv_bipush (v := 8) dX8_init_13 (by decide) ?_
  refine bv_newa0 dX8_init_15 rfl (by decide) (by decide) (by decide) w2 (by decide) (by decide) rfl rfl ?_
  have w3 := bm_wf_z w2
  refine bv_putRF (v := some 35) dX8_init_17 fl_8_15 rfl (fun C T N h => (congrArg Prod.fst (Option.some.inj h)).symm) rfl (by decide) rfl ?_
  have w4 := bm_wf_sR (o := 33) (f := 2) w3 (by decide : 35 < 36)
  refine bv_aload_n dX8_init_20 0 rfl ?_
  refine bv_bipush (v := 8) dX8_init_21 (by decide) ?_
  refine bv_newa0 dX8_init_23 rfl (by decide) (by decide) (by decide) w4 (by decide) (by decide) rfl rfl ?_
  have w5 := bm_wf_z w4
  refine bv_putRF (v := some 36) dX8_init_25 fl_8_18 rfl (fun C T N h => (congrArg Prod.fst (Option.some.inj h)).symm) rfl (by decide) rfl ?_
  have w6 := bm_wf_sR (o := 33) (f := 3) w5 (by decide : 36 < 37)
  refine bv_aload_n dX8_init_28 0 rfl ?_
  refine bv_bipush (v := 8) dX8_init_29 (by decide) ?_
  refine bv_newa0 dX8_init_31 rfl (by decide) (by decide) (by decide) w6 (by decide) (by decide) rfl rfl ?_
  have w7 := bm_wf_z w6
  refine bv_putRF (v := some 37) dX8_init_33 fl_8_21 rfl (fun C T N h => (congrArg Prod.fst (Option.some.inj h)).symm) rfl (by decide) rfl ?_
  have w8 := bm_wf_sR (o := 33) (f := 4) w7 (by decide : 37 < 38)
  refine bv_aload_n dX8_init_36 0 rfl ?_
  refine bv_bipush (v := 8) dX8_init_37 (by decide) ?_
  refine bv_newa0 dX8_init_39 rfl (by decide) (by decide) (by decide) w8 (by decide) (by decide) rfl rfl ?_
  have w9 := bm_wf_z w8
  refine bv_putRF (v := some 38) dX8_init_41 fl_8_24 rfl (fun C T N h => (congrArg Prod.fst (Option.some.inj h)).symm) rfl (by decide) rfl ?_
  have w10 := bm_wf_sR (o := 33) (f := 5) w9 (by decide : 38 < 39)
  refine bv_aload_n dX8_init_44 0 rfl ?_
  refine bv_bipush (v := 8) dX8_init_45 (by decide) ?_
  refine bv_newa0 dX8_init_47 rfl (by decide) (by decide) (by decide) w10 (by decide) (by decide) rfl rfl ?_
  have w11 := bm_wf_z w10
  refine bv_putRF (v := some 39) dX8_init_49 fl_8_27 rfl (fun C T N h => (congrArg Prod.fst (Option.some.inj h)).symm) rfl (by decide) rfl ?_
  have w12 := bm_wf_sR (o := 33) (f := 6) w11 (by decide : 39 < 40)
  refine bv_aload_n dX8_init_52 0 rfl ?_
  refine bv_aload_n dX8_init_53 1 rfl ?_
  refine bv_putRF (v := some 4) dX8_init_54 fl_8_30 rfl (fun C T N h => (congrArg Prod.fst (Option.some.inj h)).symm) rfl (by decide) rfl ?_
  have w13 := bm_wf_sR (o := 33) (f := 0) w12 (by decide : 4 < 40)
  exact bv_vret dX8_init_57 rfl ⟨rfl, rfl⟩
def i_X8_42 (M : bm_M) : bm_M := (bm_sR (bm_sR (bm_z (bm_sR (bm_z (bm_sR (bm_z (bm_sR (bm_z (bm_sR (bm_z (bm_sR (bm_z M 43) 42 1 (some 43)) 44) 42 2 (some 44)) 45) 42 3 (some 45)) 46) 42 4 (some 46)) 47) 42 5 (some 47)) 48) 42 6 (some 48)) 42 0 (some 4))
theorem wk_X8_42 {M : bm_M} (w0 : bm_wf 43 M) : bm_wf 49 (i_X8_42 M) := by
  have w1 := bm_wf_z w0
  have w2 := bm_wf_sR (o := 42) (f := 1) w1 (by decide : 43 < 44)
  have w3 := bm_wf_z w2
  have w4 := bm_wf_sR (o := 42) (f := 2) w3 (by decide : 44 < 45)
  have w5 := bm_wf_z w4
  have w6 := bm_wf_sR (o := 42) (f := 3) w5 (by decide : 45 < 46)
  have w7 := bm_wf_z w6
  have w8 := bm_wf_sR (o := 42) (f := 4) w7 (by decide : 46 < 47)
  have w9 := bm_wf_z w8
  have w10 := bm_wf_sR (o := 42) (f := 5) w9 (by decide : 47 < 48)
  have w11 := bm_wf_z w10
  have w12 := bm_wf_sR (o := 42) (f := 6) w11 (by decide : 48 < 49)
  have w13 := bm_wf_sR (o := 42) (f := 0) w12 (by decide : 4 < 49)
  exact w13
set_option maxHeartbeats 4000000 in
set_option maxRecDepth 100000 in
theorem k_X8_42 {L : bm_L} {d : Nat} {M : bm_M} (w0 : bm_wf 43 M) : bm_C L m_X8_init (d + 1) 43 49 [.ref 42, .ref 4] M (fun r M' => r = none ∧ M' = i_X8_42 M) := by
  refine bm_C.ofV (by decide) (Nat.le_of_ble_eq_true rfl) ?_
  show bm_V L m_X8_init (d + 1) 43 49 43 0 [(0, .ref 42), (1, .ref 4)] [] M _
  refine bv_aload_n dX8_init_0 0 rfl ?_
  refine bv_oini dX8_init_1 mwo_8_3 (by decide) ?_
  refine bv_aload_n dX8_init_4 0 rfl ?_
  refine bv_bipush (v := 8) dX8_init_5 (by decide) ?_
  refine bv_newa0 dX8_init_7 rfl (by decide) (by decide) (by decide) w0 (by decide) (by decide) rfl rfl ?_
  have w1 := bm_wf_z w0
  refine bv_putRF (v := some 43) dX8_init_9 fl_8_9 rfl (fun C T N h => (congrArg Prod.fst (Option.some.inj h)).symm) rfl (by decide) rfl ?_
  have w2 := bm_wf_sR (o := 42) (f := 1) w1 (by decide : 43 < 44)
  refine bv_aload_n dX8_init_12 0 rfl ?_
  refine bv_bipush (v := 8) dX8_init_13 (by decide) ?_
  refine bv_newa0 dX8_init_15 rfl (by decide) (by decide) (by decide) w2 (by decide) (by decide) rfl rfl ?_
  have w3 := bm_wf_z w2
  refine bv_putRF (v := some 44) dX8_init_17 fl_8_15 rfl (fun C T N h => (congrArg Prod.fst (Option.some.inj h)).symm) rfl (by decide) rfl ?_
  have w4 := bm_wf_sR (o := 42) (f := 2) w3 (by decide : 44 < 45)
  refine bv_aload_n dX8_init_20 0 rfl ?_
  refine bv_bipush (v := 8) dX8_init_21 (by decide) ?_
  refine bv_newa0 dX8_init_23 rfl (by decide) (by decide) (by decide) w4 (by decide) (by decide) rfl rfl ?_
  have w5 := bm_wf_z w4
  refine bv_putRF (v := some 45) dX8_init_25 fl_8_18 rfl (fun C T N h => (congrArg Prod.fst (Option.some.inj h)).symm) rfl (by decide) rfl ?_
  have w6 := bm_wf_sR (o := 42) (f := 3) w5 (by decide : 45 < 46)
  refine bv_aload_n dX8_init_28 0 rfl ?_
  refine bv_bipush (v := 8) dX8_init_29 (by decide) ?_
  refine bv_newa0 dX8_init_31 rfl (by decide) (by decide) (by decide) w6 (by decide) (by decide) rfl rfl ?_
  have w7 := bm_wf_z w6
  refine bv_putRF (v := some 46) dX8_init_33 fl_8_21 rfl (fun C T N h => (congrArg Prod.fst (Option.some.inj h)).symm) rfl (by decide) rfl ?_
  have w8 := bm_wf_sR (o := 42) (f := 4) w7 (by decide : 46 < 47)
  refine bv_aload_n dX8_init_36 0 rfl ?_
  refine bv_bipush (v := 8) dX8_init_37 (by decide) ?_
  refine bv_newa0 dX8_init_39 rfl (by decide) (by decide) (by decide) w8 (by decide) (by decide) rfl rfl ?_
  have w9 := bm_wf_z w8
  refine bv_putRF (v := some 47) dX8_init_41 fl_8_24 rfl (fun C T N h => (congrArg Prod.fst (Option.some.inj h)).symm) rfl (by decide) rfl ?_
  have w10 := bm_wf_sR (o := 42) (f := 5) w9 (by decide : 47 < 48)
  refine bv_aload_n dX8_init_44 0 rfl ?_
  refine bv_bipush (v := 8) dX8_init_45 (by decide) ?_
  refine bv_newa0 dX8_init_47 rfl (by decide) (by decide) (by decide) w10 (by decide) (by decide) rfl rfl ?_
  have w11 := bm_wf_z w10
  refine bv_putRF (v := some 48) dX8_init_49 fl_8_27 rfl (fun C T N h => (congrArg Prod.fst (Option.some.inj h)).symm) rfl (by decide) rfl ?_
  have w12 := bm_wf_sR (o := 42) (f := 6) w11 (by decide : 48 < 49)
  refine bv_aload_n dX8_init_52 0 rfl ?_
  refine bv_aload_n dX8_init_53 1 rfl ?_
  refine bv_putRF (v := some 4) dX8_init_54 fl_8_30 rfl (fun C T N h => (congrArg Prod.fst (Option.some.inj h)).symm) rfl (by decide) rfl ?_
  have w13 := bm_wf_sR (o := 42) (f := 0) w12 (by decide : 4 < 49)
  exact bv_vret dX8_init_57 rfl ⟨rfl, rfl⟩
def i_X8_49 (M : bm_M) : bm_M := (bm_sR (bm_sR (bm_z (bm_sR (bm_z (bm_sR (bm_z (bm_sR (bm_z (bm_sR (bm_z (bm_sR (bm_z M 50) 49 1 (some 50)) 51) 49 2 (some 51)) 52) 49 3 (some 52)) 53) 49 4 (some 53)) 54) 49 5 (some 54)) 55) 49 6 (some 55)) 49 0 (some 4))
theorem wk_X8_49 {M : bm_M} (w0 : bm_wf 50 M) : bm_wf 56 (i_X8_49 M) := by
  have w1 := bm_wf_z w0
  have w2 := bm_wf_sR (o := 49) (f := 1) w1 (by decide : 50 < 51)
  have w3 := bm_wf_z w2
  have w4 := bm_wf_sR (o := 49) (f := 2) w3 (by decide : 51 < 52)
  have w5 := bm_wf_z w4
  have w6 := bm_wf_sR (o := 49) (f := 3) w5 (by decide : 52 < 53)
  have w7 := bm_wf_z w6
  have w8 := bm_wf_sR (o := 49) (f := 4) w7 (by decide : 53 < 54)
  have w9 := bm_wf_z w8
  have w10 := bm_wf_sR (o := 49) (f := 5) w9 (by decide : 54 < 55)
  have w11 := bm_wf_z w10
  have w12 := bm_wf_sR (o := 49) (f := 6) w11 (by decide : 55 < 56)
  have w13 := bm_wf_sR (o := 49) (f := 0) w12 (by decide : 4 < 56)
  exact w13
set_option maxHeartbeats 4000000 in
set_option maxRecDepth 100000 in
theorem k_X8_49 {L : bm_L} {d : Nat} {M : bm_M} (w0 : bm_wf 50 M) : bm_C L m_X8_init (d + 1) 50 56 [.ref 49, .ref 4] M (fun r M' => r = none ∧ M' = i_X8_49 M) := by
  refine bm_C.ofV (by decide) (Nat.le_of_ble_eq_true rfl) ?_
  show bm_V L m_X8_init (d + 1) 50 56 50 0 [(0, .ref 49), (1, .ref 4)] [] M _
  refine bv_aload_n dX8_init_0 0 rfl ?_
  refine bv_oini dX8_init_1 mwo_8_3 (by decide) ?_
  refine bv_aload_n dX8_init_4 0 rfl ?_
  refine bv_bipush (v := 8) dX8_init_5 (by decide) ?_
  refine bv_newa0 dX8_init_7 rfl (by decide) (by decide) (by decide) w0 (by decide) (by decide) rfl rfl ?_
  have w1 := bm_wf_z w0
  refine bv_putRF (v := some 50) dX8_init_9 fl_8_9 rfl (fun C T N h => (congrArg Prod.fst (Option.some.inj h)).symm) rfl (by decide) rfl ?_
  have w2 := bm_wf_sR (o := 49) (f := 1) w1 (by decide : 50 < 51)
  refine bv_aload_n dX8_init_12 0 rfl ?_
  refine bv_bipush (v := 8) dX8_init_13 (by decide) ?_
  refine bv_newa0 dX8_init_15 rfl (by decide) (by decide) (by decide) w2 (by decide) (by decide) rfl rfl ?_
  have w3 := bm_wf_z w2
  refine bv_putRF (v := some 51) dX8_init_17 fl_8_15 rfl (fun C T N h => (congrArg Prod.fst (Option.some.inj h)).symm) rfl (by decide) rfl ?_
  have w4 := bm_wf_sR (o := 49) (f := 2) w3 (by decide : 51 < 52)
  refine bv_aload_n dX8_init_20 0 rfl ?_
  refine bv_bipush (v := 8) dX8_init_21 (by decide) ?_
  refine bv_newa0 dX8_init_23 rfl (by decide) (by decide) (by decide) w4 (by decide) (by decide) rfl rfl ?_
  have w5 := bm_wf_z w4
  refine bv_putRF (v := some 52) dX8_init_25 fl_8_18 rfl (fun C T N h => (congrArg Prod.fst (Option.some.inj h)).symm) rfl (by decide) rfl ?_
  have w6 := bm_wf_sR (o := 49) (f := 3) w5 (by decide : 52 < 53)
  refine bv_aload_n dX8_init_28 0 rfl ?_
  refine bv_bipush (v := 8) dX8_init_29 (by decide) ?_
  refine bv_newa0 dX8_init_31 rfl (by decide) (by decide) (by decide) w6 (by decide) (by decide) rfl rfl ?_
  have w7 := bm_wf_z w6
  refine bv_putRF (v := some 53) dX8_init_33 fl_8_21 rfl (fun C T N h => (congrArg Prod.fst (Option.some.inj h)).symm) rfl (by decide) rfl ?_
  have w8 := bm_wf_sR (o := 49) (f := 4) w7 (by decide : 53 < 54)
  refine bv_aload_n dX8_init_36 0 rfl ?_
  refine bv_bipush (v := 8) dX8_init_37 (by decide) ?_
  refine bv_newa0 dX8_init_39 rfl (by decide) (by decide) (by decide) w8 (by decide) (by decide) rfl rfl ?_
  have w9 := bm_wf_z w8
  refine bv_putRF (v := some 54) dX8_init_41 fl_8_24 rfl (fun C T N h => (congrArg Prod.fst (Option.some.inj h)).symm) rfl (by decide) rfl ?_
  have w10 := bm_wf_sR (o := 49) (f := 5) w9 (by decide : 54 < 55)
  refine bv_aload_n dX8_init_44 0 rfl ?_
  refine bv_bipush (v := 8) dX8_init_45 (by decide) ?_
  refine bv_newa0 dX8_init_47 rfl (by decide) (by decide) (by decide) w10 (by decide) (by decide) rfl rfl ?_
  have w11 := bm_wf_z w10
  refine bv_putRF (v := some 55) dX8_init_49 fl_8_27 rfl (fun C T N h => (congrArg Prod.fst (Option.some.inj h)).symm) rfl (by decide) rfl ?_
  have w12 := bm_wf_sR (o := 49) (f := 6) w11 (by decide : 55 < 56)
  refine bv_aload_n dX8_init_52 0 rfl ?_
  refine bv_aload_n dX8_init_53 1 rfl ?_
  refine bv_putRF (v := some 4) dX8_init_54 fl_8_30 rfl (fun C T N h => (congrArg Prod.fst (Option.some.inj h)).symm) rfl (by decide) rfl ?_
  have w13 := bm_wf_sR (o := 49) (f := 0) w12 (by decide : 4 < 56)
  exact bv_vret dX8_init_57 rfl ⟨rfl, rfl⟩
def i_X8_56 (M : bm_M) : bm_M := (bm_sR (bm_sR (bm_z (bm_sR (bm_z (bm_sR (bm_z (bm_sR (bm_z (bm_sR (bm_z (bm_sR (bm_z M 57) 56 1 (some 57)) 58) 56 2 (some 58)) 59) 56 3 (some 59)) 60) 56 4 (some 60)) 61) 56 5 (some 61)) 62) 56 6 (some 62)) 56 0 (some 4))
theorem wk_X8_56 {M : bm_M} (w0 : bm_wf 57 M) : bm_wf 63 (i_X8_56 M) := by
  have w1 := bm_wf_z w0
  have w2 := bm_wf_sR (o := 56) (f := 1) w1 (by decide : 57 < 58)
  have w3 := bm_wf_z w2
  have w4 := bm_wf_sR (o := 56) (f := 2) w3 (by decide : 58 < 59)
  have w5 := bm_wf_z w4
  have w6 := bm_wf_sR (o := 56) (f := 3) w5 (by decide : 59 < 60)
  have w7 := bm_wf_z w6
  have w8 := bm_wf_sR (o := 56) (f := 4) w7 (by decide : 60 < 61)
  have w9 := bm_wf_z w8
  have w10 := bm_wf_sR (o := 56) (f := 5) w9 (by decide : 61 < 62)
  have w11 := bm_wf_z w10
  have w12 := bm_wf_sR (o := 56) (f := 6) w11 (by decide : 62 < 63)
  have w13 := bm_wf_sR (o := 56) (f := 0) w12 (by decide : 4 < 63)
  exact w13
set_option maxHeartbeats 4000000 in
set_option maxRecDepth 100000 in
theorem k_X8_56 {L : bm_L} {d : Nat} {M : bm_M} (w0 : bm_wf 57 M) : bm_C L m_X8_init (d + 1) 57 63 [.ref 56, .ref 4] M (fun r M' => r = none ∧ M' = i_X8_56 M) := by
  refine bm_C.ofV (by decide) (Nat.le_of_ble_eq_true rfl) ?_
  show bm_V L m_X8_init (d + 1) 57 63 57 0 [(0, .ref 56), (1, .ref 4)] [] M _
  refine bv_aload_n dX8_init_0 0 rfl ?_
  refine bv_oini dX8_init_1 mwo_8_3 (by decide) ?_
  refine bv_aload_n dX8_init_4 0 rfl ?_
  refine bv_bipush (v := 8) dX8_init_5 (by decide) ?_
  refine bv_newa0 dX8_init_7 rfl (by decide) (by decide) (by decide) w0 (by decide) (by decide) rfl rfl ?_
  have w1 := bm_wf_z w0
  refine bv_putRF (v := some 57) dX8_init_9 fl_8_9 rfl (fun C T N h => (congrArg Prod.fst (Option.some.inj h)).symm) rfl (by decide) rfl ?_
  have w2 := bm_wf_sR (o := 56) (f := 1) w1 (by decide : 57 < 58)
  refine bv_aload_n dX8_init_12 0 rfl ?_
  refine bv_bipush (v := 8) dX8_init_13 (by decide) ?_
  refine bv_newa0 dX8_init_15 rfl (by decide) (by decide) (by decide) w2 (by decide) (by decide) rfl rfl ?_
  have w3 := bm_wf_z w2
  refine bv_putRF (v := some 58) dX8_init_17 fl_8_15 rfl (fun C T N h => (congrArg Prod.fst (Option.some.inj h)).symm) rfl (by decide) rfl ?_
  have w4 := bm_wf_sR (o := 56) (f := 2) w3 (by decide : 58 < 59)
  refine bv_aload_n dX8_init_20 0 rfl ?_
  refine bv_bipush (v := 8) dX8_init_21 (by decide) ?_
  refine bv_newa0 dX8_init_23 rfl (by decide) (by decide) (by decide) w4 (by decide) (by decide) rfl rfl ?_
  have w5 := bm_wf_z w4
  refine bv_putRF (v := some 59) dX8_init_25 fl_8_18 rfl (fun C T N h => (congrArg Prod.fst (Option.some.inj h)).symm) rfl (by decide) rfl ?_
  have w6 := bm_wf_sR (o := 56) (f := 3) w5 (by decide : 59 < 60)
  refine bv_aload_n dX8_init_28 0 rfl ?_
  refine bv_bipush (v := 8) dX8_init_29 (by decide) ?_
  refine bv_newa0 dX8_init_31 rfl (by decide) (by decide) (by decide) w6 (by decide) (by decide) rfl rfl ?_
  have w7 := bm_wf_z w6
  refine bv_putRF (v := some 60) dX8_init_33 fl_8_21 rfl (fun C T N h => (congrArg Prod.fst (Option.some.inj h)).symm) rfl (by decide) rfl ?_
  have w8 := bm_wf_sR (o := 56) (f := 4) w7 (by decide : 60 < 61)
  refine bv_aload_n dX8_init_36 0 rfl ?_
  refine bv_bipush (v := 8) dX8_init_37 (by decide) ?_
  refine bv_newa0 dX8_init_39 rfl (by decide) (by decide) (by decide) w8 (by decide) (by decide) rfl rfl ?_
  have w9 := bm_wf_z w8
  refine bv_putRF (v := some 61) dX8_init_41 fl_8_24 rfl (fun C T N h => (congrArg Prod.fst (Option.some.inj h)).symm) rfl (by decide) rfl ?_
  have w10 := bm_wf_sR (o := 56) (f := 5) w9 (by decide : 61 < 62)
  refine bv_aload_n dX8_init_44 0 rfl ?_
  refine bv_bipush (v := 8) dX8_init_45 (by decide) ?_
  refine bv_newa0 dX8_init_47 rfl (by decide) (by decide) (by decide) w10 (by decide) (by decide) rfl rfl ?_
  have w11 := bm_wf_z w10
  refine bv_putRF (v := some 62) dX8_init_49 fl_8_27 rfl (fun C T N h => (congrArg Prod.fst (Option.some.inj h)).symm) rfl (by decide) rfl ?_
  have w12 := bm_wf_sR (o := 56) (f := 6) w11 (by decide : 62 < 63)
  refine bv_aload_n dX8_init_52 0 rfl ?_
  refine bv_aload_n dX8_init_53 1 rfl ?_
  refine bv_putRF (v := some 4) dX8_init_54 fl_8_30 rfl (fun C T N h => (congrArg Prod.fst (Option.some.inj h)).symm) rfl (by decide) rfl ?_
  have w13 := bm_wf_sR (o := 56) (f := 0) w12 (by decide : 4 < 63)
  exact bv_vret dX8_init_57 rfl ⟨rfl, rfl⟩
def i_X8_63 (M : bm_M) : bm_M := (bm_sR (bm_sR (bm_z (bm_sR (bm_z (bm_sR (bm_z (bm_sR (bm_z (bm_sR (bm_z (bm_sR (bm_z M 64) 63 1 (some 64)) 65) 63 2 (some 65)) 66) 63 3 (some 66)) 67) 63 4 (some 67)) 68) 63 5 (some 68)) 69) 63 6 (some 69)) 63 0 (some 4))
theorem wk_X8_63 {M : bm_M} (w0 : bm_wf 64 M) : bm_wf 70 (i_X8_63 M) := by
  have w1 := bm_wf_z w0
  have w2 := bm_wf_sR (o := 63) (f := 1) w1 (by decide : 64 < 65)
  have w3 := bm_wf_z w2
  have w4 := bm_wf_sR (o := 63) (f := 2) w3 (by decide : 65 < 66)
  have w5 := bm_wf_z w4
  have w6 := bm_wf_sR (o := 63) (f := 3) w5 (by decide : 66 < 67)
  have w7 := bm_wf_z w6
  have w8 := bm_wf_sR (o := 63) (f := 4) w7 (by decide : 67 < 68)
  have w9 := bm_wf_z w8
  have w10 := bm_wf_sR (o := 63) (f := 5) w9 (by decide : 68 < 69)
  have w11 := bm_wf_z w10
  have w12 := bm_wf_sR (o := 63) (f := 6) w11 (by decide : 69 < 70)
  have w13 := bm_wf_sR (o := 63) (f := 0) w12 (by decide : 4 < 70)
  exact w13
set_option maxHeartbeats 4000000 in
set_option maxRecDepth 100000 in
theorem k_X8_63 {L : bm_L} {d : Nat} {M : bm_M} (w0 : bm_wf 64 M) : bm_C L m_X8_init (d + 1) 64 70 [.ref 63, .ref 4] M (fun r M' => r = none ∧ M' = i_X8_63 M) := by
  refine bm_C.ofV (by decide) (Nat.le_of_ble_eq_true rfl) ?_
  show bm_V L m_X8_init (d + 1) 64 70 64 0 [(0, .ref 63), (1, .ref 4)] [] M _
  refine bv_aload_n dX8_init_0 0 rfl ?_
  refine bv_oini dX8_init_1 mwo_8_3 (by decide) ?_
  refine bv_aload_n dX8_init_4 0 rfl ?_
  refine bv_bipush (v := 8) dX8_init_5 (by decide) ?_
  refine bv_newa0 dX8_init_7 rfl (by decide) (by decide) (by decide) w0 (by decide) (by decide) rfl rfl ?_
  have w1 := bm_wf_z w0
  refine bv_putRF (v := some 64) dX8_init_9 fl_8_9 rfl (fun C T N h => (congrArg Prod.fst (Option.some.inj h)).symm) rfl (by decide) rfl ?_
  have w2 := bm_wf_sR (o := 63) (f := 1) w1 (by decide : 64 < 65)
  refine bv_aload_n dX8_init_12 0 rfl ?_
  refine bv_bipush (v := 8) dX8_init_13 (by decide) ?_
  refine bv_newa0 dX8_init_15 rfl (by decide) (by decide) (by decide) w2 (by decide) (by decide) rfl rfl ?_
  have w3 := bm_wf_z w2
  refine bv_putRF (v := some 65) dX8_init_17 fl_8_15 rfl (fun C T N h => (congrArg Prod.fst (Option.some.inj h)).symm) rfl (by decide) rfl ?_
  have w4 := bm_wf_sR (o := 63) (f := 2) w3 (by decide : 65 < 66)
  refine bv_aload_n dX8_init_20 0 rfl ?_
  refine bv_bipush (v := 8) dX8_init_21 (by decide) ?_
  refine bv_newa0 dX8_init_23 rfl (by decide) (by decide) (by decide) w4 (by decide) (by decide) rfl rfl ?_
  have w5 := bm_wf_z w4
  refine bv_putRF (v := some 66) dX8_init_25 fl_8_18 rfl (fun C T N h => (congrArg Prod.fst (Option.some.inj h)).symm) rfl (by decide) rfl ?_
  have w6 := bm_wf_sR (o := 63) (f := 3) w5 (by decide : 66 < 67)
  refine bv_aload_n dX8_init_28 0 rfl ?_
  refine bv_bipush (v := 8) dX8_init_29 (by decide) ?_
  refine bv_newa0 dX8_init_31 rfl (by decide) (by decide) (by decide) w6 (by decide) (by decide) rfl rfl ?_
  have w7 := bm_wf_z w6
  refine bv_putRF (v := some 67) dX8_init_33 fl_8_21 rfl (fun C T N h => (congrArg Prod.fst (Option.some.inj h)).symm) rfl (by decide) rfl ?_
  have w8 := bm_wf_sR (o := 63) (f := 4) w7 (by decide : 67 < 68)
  refine bv_aload_n dX8_init_36 0 rfl ?_
  refine bv_bipush (v := 8) dX8_init_37 (by decide) ?_
  refine bv_newa0 dX8_init_39 rfl (by decide) (by decide) (by decide) w8 (by decide) (by decide) rfl rfl ?_
  have w9 := bm_wf_z w8
  refine bv_putRF (v := some 68) dX8_init_41 fl_8_24 rfl (fun C T N h => (congrArg Prod.fst (Option.some.inj h)).symm) rfl (by decide) rfl ?_
  have w10 := bm_wf_sR (o := 63) (f := 5) w9 (by decide : 68 < 69)
  refine bv_aload_n dX8_init_44 0 rfl ?_
  refine bv_bipush (v := 8) dX8_init_45 (by decide) ?_
  refine bv_newa0 dX8_init_47 rfl (by decide) (by decide) (by decide) w10 (by decide) (by decide) rfl rfl ?_
  have w11 := bm_wf_z w10
  refine bv_putRF (v := some 69) dX8_init_49 fl_8_27 rfl (fun C T N h => (congrArg Prod.fst (Option.some.inj h)).symm) rfl (by decide) rfl ?_
  have w12 := bm_wf_sR (o := 63) (f := 6) w11 (by decide : 69 < 70)
  refine bv_aload_n dX8_init_52 0 rfl ?_
  refine bv_aload_n dX8_init_53 1 rfl ?_
  refine bv_putRF (v := some 4) dX8_init_54 fl_8_30 rfl (fun C T N h => (congrArg Prod.fst (Option.some.inj h)).symm) rfl (by decide) rfl ?_
  have w13 := bm_wf_sR (o := 63) (f := 0) w12 (by decide : 4 < 70)
  exact bv_vret dX8_init_57 rfl ⟨rfl, rfl⟩
def i_X8_70 (M : bm_M) : bm_M := (bm_sR (bm_sR (bm_z (bm_sR (bm_z (bm_sR (bm_z (bm_sR (bm_z (bm_sR (bm_z (bm_sR (bm_z M 71) 70 1 (some 71)) 72) 70 2 (some 72)) 73) 70 3 (some 73)) 74) 70 4 (some 74)) 75) 70 5 (some 75)) 76) 70 6 (some 76)) 70 0 (some 4))
theorem wk_X8_70 {M : bm_M} (w0 : bm_wf 71 M) : bm_wf 77 (i_X8_70 M) := by
  have w1 := bm_wf_z w0
  have w2 := bm_wf_sR (o := 70) (f := 1) w1 (by decide : 71 < 72)
  have w3 := bm_wf_z w2
  have w4 := bm_wf_sR (o := 70) (f := 2) w3 (by decide : 72 < 73)
  have w5 := bm_wf_z w4
  have w6 := bm_wf_sR (o := 70) (f := 3) w5 (by decide : 73 < 74)
  have w7 := bm_wf_z w6
  have w8 := bm_wf_sR (o := 70) (f := 4) w7 (by decide : 74 < 75)
  have w9 := bm_wf_z w8
  have w10 := bm_wf_sR (o := 70) (f := 5) w9 (by decide : 75 < 76)
  have w11 := bm_wf_z w10
  have w12 := bm_wf_sR (o := 70) (f := 6) w11 (by decide : 76 < 77)
  have w13 := bm_wf_sR (o := 70) (f := 0) w12 (by decide : 4 < 77)
  exact w13
set_option maxHeartbeats 4000000 in
set_option maxRecDepth 100000 in
theorem k_X8_70 {L : bm_L} {d : Nat} {M : bm_M} (w0 : bm_wf 71 M) : bm_C L m_X8_init (d + 1) 71 77 [.ref 70, .ref 4] M (fun r M' => r = none ∧ M' = i_X8_70 M) := by
  refine bm_C.ofV (by decide) (Nat.le_of_ble_eq_true rfl) ?_
  show bm_V L m_X8_init (d + 1) 71 77 71 0 [(0, .ref 70), (1, .ref 4)] [] M _
  refine bv_aload_n dX8_init_0 0 rfl ?_
  refine bv_oini dX8_init_1 mwo_8_3 (by decide) ?_
  refine bv_aload_n dX8_init_4 0 rfl ?_
  refine bv_bipush (v := 8) dX8_init_5 (by decide) ?_
  refine bv_newa0 dX8_init_7 rfl (by decide) (by decide) (by decide) w0 (by decide) (by decide) rfl rfl ?_
  have w1 := bm_wf_z w0
  refine bv_putRF (v := some 71) dX8_init_9 fl_8_9 rfl (fun C T N h => (congrArg Prod.fst (Option.some.inj h)).symm) rfl (by decide) rfl ?_
  have w2 := bm_wf_sR (o := 70) (f := 1) w1 (by decide : 71 < 72)
  refine bv_aload_n dX8_init_12 0 rfl ?_
  refine bv_bipush (v := 8) dX8_init_13 (by decide) ?_
  refine bv_newa0 dX8_init_15 rfl (by decide) (by decide) (by decide) w2 (by decide) (by decide) rfl rfl ?_
  have w3 := bm_wf_z w2
  refine bv_putRF (v := some 72) dX8_init_17 fl_8_15 rfl (fun C T N h => (congrArg Prod.fst (Option.some.inj h)).symm) rfl (by decide) rfl ?_
  have w4 := bm_wf_sR (o := 70) (f := 2) w3 (by decide : 72 < 73)
  refine bv_aload_n dX8_init_20 0 rfl ?_
  refine bv_bipush (v := 8) dX8_init_21 (by decide) ?_
  refine bv_newa0 dX8_init_23 rfl (by decide) (by decide) (by decide) w4 (by decide) (by decide) rfl rfl ?_
  have w5 := bm_wf_z w4
  refine bv_putRF (v := some 73) dX8_init_25 fl_8_18 rfl (fun C T N h => (congrArg Prod.fst (Option.some.inj h)).symm) rfl (by decide) rfl ?_
  have w6 := bm_wf_sR (o := 70) (f := 3) w5 (by decide : 73 < 74)
  refine bv_aload_n dX8_init_28 0 rfl ?_
  refine bv_bipush (v := 8) dX8_init_29 (by decide) ?_
  refine bv_newa0 dX8_init_31 rfl (by decide) (by decide) (by decide) w6 (by decide) (by decide) rfl rfl ?_
  have w7 := bm_wf_z w6
  refine bv_putRF (v := some 74) dX8_init_33 fl_8_21 rfl (fun C T N h => (congrArg Prod.fst (Option.some.inj h)).symm) rfl (by decide) rfl ?_
  have w8 := bm_wf_sR (o := 70) (f := 4) w7 (by decide : 74 < 75)
  refine bv_aload_n dX8_init_36 0 rfl ?_
  refine bv_bipush (v := 8) dX8_init_37 (by decide) ?_
  refine bv_newa0 dX8_init_39 rfl (by decide) (by decide) (by decide) w8 (by decide) (by decide) rfl rfl ?_
  have w9 := bm_wf_z w8
  refine bv_putRF (v := some 75) dX8_init_41 fl_8_24 rfl (fun C T N h => (congrArg Prod.fst (Option.some.inj h)).symm) rfl (by decide) rfl ?_
  have w10 := bm_wf_sR (o := 70) (f := 5) w9 (by decide : 75 < 76)
  refine bv_aload_n dX8_init_44 0 rfl ?_
  refine bv_bipush (v := 8) dX8_init_45 (by decide) ?_
  refine bv_newa0 dX8_init_47 rfl (by decide) (by decide) (by decide) w10 (by decide) (by decide) rfl rfl ?_
  have w11 := bm_wf_z w10
  refine bv_putRF (v := some 76) dX8_init_49 fl_8_27 rfl (fun C T N h => (congrArg Prod.fst (Option.some.inj h)).symm) rfl (by decide) rfl ?_
  have w12 := bm_wf_sR (o := 70) (f := 6) w11 (by decide : 76 < 77)
  refine bv_aload_n dX8_init_52 0 rfl ?_
  refine bv_aload_n dX8_init_53 1 rfl ?_
  refine bv_putRF (v := some 4) dX8_init_54 fl_8_30 rfl (fun C T N h => (congrArg Prod.fst (Option.some.inj h)).symm) rfl (by decide) rfl ?_
  have w13 := bm_wf_sR (o := 70) (f := 0) w12 (by decide : 4 < 77)
  exact bv_vret dX8_init_57 rfl ⟨rfl, rfl⟩
def i_X8_77 (M : bm_M) : bm_M := (bm_sR (bm_sR (bm_z (bm_sR (bm_z (bm_sR (bm_z (bm_sR (bm_z (bm_sR (bm_z (bm_sR (bm_z M 78) 77 1 (some 78)) 79) 77 2 (some 79)) 80) 77 3 (some 80)) 81) 77 4 (some 81)) 82) 77 5 (some 82)) 83) 77 6 (some 83)) 77 0 (some 4))
theorem wk_X8_77 {M : bm_M} (w0 : bm_wf 78 M) : bm_wf 84 (i_X8_77 M) := by
  have w1 := bm_wf_z w0
  have w2 := bm_wf_sR (o := 77) (f := 1) w1 (by decide : 78 < 79)
  have w3 := bm_wf_z w2
  have w4 := bm_wf_sR (o := 77) (f := 2) w3 (by decide : 79 < 80)
  have w5 := bm_wf_z w4
  have w6 := bm_wf_sR (o := 77) (f := 3) w5 (by decide : 80 < 81)
  have w7 := bm_wf_z w6
  have w8 := bm_wf_sR (o := 77) (f := 4) w7 (by decide : 81 < 82)
  have w9 := bm_wf_z w8
  have w10 := bm_wf_sR (o := 77) (f := 5) w9 (by decide : 82 < 83)
  have w11 := bm_wf_z w10
  have w12 := bm_wf_sR (o := 77) (f := 6) w11 (by decide : 83 < 84)
  have w13 := bm_wf_sR (o := 77) (f := 0) w12 (by decide : 4 < 84)
  exact w13
set_option maxHeartbeats 4000000 in
set_option maxRecDepth 100000 in
theorem k_X8_77 {L : bm_L} {d : Nat} {M : bm_M} (w0 : bm_wf 78 M) : bm_C L m_X8_init (d + 1) 78 84 [.ref 77, .ref 4] M (fun r M' => r = none ∧ M' = i_X8_77 M) := by
  refine bm_C.ofV (by decide) (Nat.le_of_ble_eq_true rfl) ?_
  show bm_V L m_X8_init (d + 1) 78 84 78 0 [(0, .ref 77), (1, .ref 4)] [] M _
  refine bv_aload_n dX8_init_0 0 rfl ?_
  refine bv_oini dX8_init_1 mwo_8_3 (by decide) ?_
  refine bv_aload_n dX8_init_4 0 rfl ?_
  refine bv_bipush (v := 8) dX8_init_5 (by decide) ?_
  refine bv_newa0 dX8_init_7 rfl (by decide) (by decide) (by decide) w0 (by decide) (by decide) rfl rfl ?_
  have w1 := bm_wf_z w0
  refine bv_putRF (v := some 78) dX8_init_9 fl_8_9 rfl (fun C T N h => (congrArg Prod.fst (Option.some.inj h)).symm) rfl (by decide) rfl ?_
  have w2 := bm_wf_sR (o := 77) (f := 1) w1 (by decide : 78 < 79)
  refine bv_aload_n dX8_init_12 0 rfl ?_
  refine bv_bipush (v := 8) dX8_init_13 (by decide) ?_
  refine bv_newa0 dX8_init_15 rfl (by decide) (by decide) (by decide) w2 (by decide) (by decide) rfl rfl ?_
  have w3 := bm_wf_z w2
  refine bv_putRF (v := some 79) dX8_init_17 fl_8_15 rfl (fun C T N h => (congrArg Prod.fst (Option.some.inj h)).symm) rfl (by decide) rfl ?_
  have w4 := bm_wf_sR (o := 77) (f := 2) w3 (by decide : 79 < 80)
  refine bv_aload_n dX8_init_20 0 rfl ?_
  refine bv_bipush (v := 8) dX8_init_21 (by decide) ?_
  refine bv_newa0 dX8_init_23 rfl (by decide) (by decide) (by decide) w4 (by decide) (by decide) rfl rfl ?_
  have w5 := bm_wf_z w4
  refine bv_putRF (v := some 80) dX8_init_25 fl_8_18 rfl (fun C T N h => (congrArg Prod.fst (Option.some.inj h)).symm) rfl (by decide) rfl ?_
  have w6 := bm_wf_sR (o := 77) (f := 3) w5 (by decide : 80 < 81)
  refine bv_aload_n dX8_init_28 0 rfl ?_
  refine bv_bipush (v := 8) dX8_init_29 (by decide) ?_
  refine bv_newa0 dX8_init_31 rfl (by decide) (by decide) (by decide) w6 (by decide) (by decide) rfl rfl ?_
  have w7 := bm_wf_z w6
  refine bv_putRF (v := some 81) dX8_init_33 fl_8_21 rfl (fun C T N h => (congrArg Prod.fst (Option.some.inj h)).symm) rfl (by decide) rfl ?_
  have w8 := bm_wf_sR (o := 77) (f := 4) w7 (by decide : 81 < 82)
  refine bv_aload_n dX8_init_36 0 rfl ?_
  refine bv_bipush (v := 8) dX8_init_37 (by decide) ?_
  refine bv_newa0 dX8_init_39 rfl (by decide) (by decide) (by decide) w8 (by decide) (by decide) rfl rfl ?_
  have w9 := bm_wf_z w8
  refine bv_putRF (v := some 82) dX8_init_41 fl_8_24 rfl (fun C T N h => (congrArg Prod.fst (Option.some.inj h)).symm) rfl (by decide) rfl ?_
  have w10 := bm_wf_sR (o := 77) (f := 5) w9 (by decide : 82 < 83)
  refine bv_aload_n dX8_init_44 0 rfl ?_
  refine bv_bipush (v := 8) dX8_init_45 (by decide) ?_
  refine bv_newa0 dX8_init_47 rfl (by decide) (by decide) (by decide) w10 (by decide) (by decide) rfl rfl ?_
  have w11 := bm_wf_z w10
  refine bv_putRF (v := some 83) dX8_init_49 fl_8_27 rfl (fun C T N h => (congrArg Prod.fst (Option.some.inj h)).symm) rfl (by decide) rfl ?_
  have w12 := bm_wf_sR (o := 77) (f := 6) w11 (by decide : 83 < 84)
  refine bv_aload_n dX8_init_52 0 rfl ?_
  refine bv_aload_n dX8_init_53 1 rfl ?_
  refine bv_putRF (v := some 4) dX8_init_54 fl_8_30 rfl (fun C T N h => (congrArg Prod.fst (Option.some.inj h)).symm) rfl (by decide) rfl ?_
  have w13 := bm_wf_sR (o := 77) (f := 0) w12 (by decide : 4 < 84)
  exact bv_vret dX8_init_57 rfl ⟨rfl, rfl⟩
def i_X8_84 (M : bm_M) : bm_M := (bm_sR (bm_sR (bm_z (bm_sR (bm_z (bm_sR (bm_z (bm_sR (bm_z (bm_sR (bm_z (bm_sR (bm_z M 85) 84 1 (some 85)) 86) 84 2 (some 86)) 87) 84 3 (some 87)) 88) 84 4 (some 88)) 89) 84 5 (some 89)) 90) 84 6 (some 90)) 84 0 (some 4))
theorem wk_X8_84 {M : bm_M} (w0 : bm_wf 85 M) : bm_wf 91 (i_X8_84 M) := by
  have w1 := bm_wf_z w0
  have w2 := bm_wf_sR (o := 84) (f := 1) w1 (by decide : 85 < 86)
  have w3 := bm_wf_z w2
  have w4 := bm_wf_sR (o := 84) (f := 2) w3 (by decide : 86 < 87)
  have w5 := bm_wf_z w4
  have w6 := bm_wf_sR (o := 84) (f := 3) w5 (by decide : 87 < 88)
  have w7 := bm_wf_z w6
  have w8 := bm_wf_sR (o := 84) (f := 4) w7 (by decide : 88 < 89)
  have w9 := bm_wf_z w8
  have w10 := bm_wf_sR (o := 84) (f := 5) w9 (by decide : 89 < 90)
  have w11 := bm_wf_z w10
  have w12 := bm_wf_sR (o := 84) (f := 6) w11 (by decide : 90 < 91)
  have w13 := bm_wf_sR (o := 84) (f := 0) w12 (by decide : 4 < 91)
  exact w13
set_option maxHeartbeats 4000000 in
set_option maxRecDepth 100000 in
theorem k_X8_84 {L : bm_L} {d : Nat} {M : bm_M} (w0 : bm_wf 85 M) : bm_C L m_X8_init (d + 1) 85 91 [.ref 84, .ref 4] M (fun r M' => r = none ∧ M' = i_X8_84 M) := by
  refine bm_C.ofV (by decide) (Nat.le_of_ble_eq_true rfl) ?_
  show bm_V L m_X8_init (d + 1) 85 91 85 0 [(0, .ref 84), (1, .ref 4)] [] M _
  refine bv_aload_n dX8_init_0 0 rfl ?_
  refine bv_oini dX8_init_1 mwo_8_3 (by decide) ?_
  refine bv_aload_n dX8_init_4 0 rfl ?_
  refine bv_bipush (v := 8) dX8_init_5 (by decide) ?_
  refine bv_newa0 dX8_init_7 rfl (by decide) (by decide) (by decide) w0 (by decide) (by decide) rfl rfl ?_
  have w1 := bm_wf_z w0
  refine bv_putRF (v := some 85) dX8_init_9 fl_8_9 rfl (fun C T N h => (congrArg Prod.fst (Option.some.inj h)).symm) rfl (by decide) rfl ?_
  have w2 := bm_wf_sR (o := 84) (f := 1) w1 (by decide : 85 < 86)
  refine bv_aload_n dX8_init_12 0 rfl ?_
  refine bv_bipush (v := 8) dX8_init_13 (by decide) ?_
  refine bv_newa0 dX8_init_15 rfl (by decide) (by decide) (by decide) w2 (by decide) (by decide) rfl rfl ?_
  have w3 := bm_wf_z w2
  refine bv_putRF (v := some 86) dX8_init_17 fl_8_15 rfl (fun C T N h => (congrArg Prod.fst (Option.some.inj h)).symm) rfl (by decide) rfl ?_
  have w4 := bm_wf_sR (o := 84) (f := 2) w3 (by decide : 86 < 87)
  refine bv_aload_n dX8_init_20 0 rfl ?_
  refine bv_bipush (v := 8) dX8_init_21 (by decide) ?_
  refine bv_newa0 dX8_init_23 rfl (by decide) (by decide) (by decide) w4 (by decide) (by decide) rfl rfl ?_
  have w5 := bm_wf_z w4
  refine bv_putRF (v := some 87) dX8_init_25 fl_8_18 rfl (fun C T N h => (congrArg Prod.fst (Option.some.inj h)).symm) rfl (by decide) rfl ?_
  have w6 := bm_wf_sR (o := 84) (f := 3) w5 (by decide : 87 < 88)
  refine bv_aload_n dX8_init_28 0 rfl ?_
  refine bv_bipush (v := 8) dX8_init_29 (by decide) ?_
  refine bv_newa0 dX8_init_31 rfl (by decide) (by decide) (by decide) w6 (by decide) (by decide) rfl rfl ?_
  have w7 := bm_wf_z w6
  refine bv_putRF (v := some 88) dX8_init_33 fl_8_21 rfl (fun C T N h => (congrArg Prod.fst (Option.some.inj h)).symm) rfl (by decide) rfl ?_
  have w8 := bm_wf_sR (o := 84) (f := 4) w7 (by decide : 88 < 89)
  refine bv_aload_n dX8_init_36 0 rfl ?_
  refine bv_bipush (v := 8) dX8_init_37 (by decide) ?_
  refine bv_newa0 dX8_init_39 rfl (by decide) (by decide) (by decide) w8 (by decide) (by decide) rfl rfl ?_
  have w9 := bm_wf_z w8
  refine bv_putRF (v := some 89) dX8_init_41 fl_8_24 rfl (fun C T N h => (congrArg Prod.fst (Option.some.inj h)).symm) rfl (by decide) rfl ?_
  have w10 := bm_wf_sR (o := 84) (f := 5) w9 (by decide : 89 < 90)
  refine bv_aload_n dX8_init_44 0 rfl ?_
  refine bv_bipush (v := 8) dX8_init_45 (by decide) ?_
  refine bv_newa0 dX8_init_47 rfl (by decide) (by decide) (by decide) w10 (by decide) (by decide) rfl rfl ?_
  have w11 := bm_wf_z w10
  refine bv_putRF (v := some 90) dX8_init_49 fl_8_27 rfl (fun C T N h => (congrArg Prod.fst (Option.some.inj h)).symm) rfl (by decide) rfl ?_
  have w12 := bm_wf_sR (o := 84) (f := 6) w11 (by decide : 90 < 91)
  refine bv_aload_n dX8_init_52 0 rfl ?_
  refine bv_aload_n dX8_init_53 1 rfl ?_
  refine bv_putRF (v := some 4) dX8_init_54 fl_8_30 rfl (fun C T N h => (congrArg Prod.fst (Option.some.inj h)).symm) rfl (by decide) rfl ?_
  have w13 := bm_wf_sR (o := 84) (f := 0) w12 (by decide : 4 < 91)
  exact bv_vret dX8_init_57 rfl ⟨rfl, rfl⟩
def i_X8_91 (M : bm_M) : bm_M := (bm_sR (bm_sR (bm_z (bm_sR (bm_z (bm_sR (bm_z (bm_sR (bm_z (bm_sR (bm_z (bm_sR (bm_z M 92) 91 1 (some 92)) 93) 91 2 (some 93)) 94) 91 3 (some 94)) 95) 91 4 (some 95)) 96) 91 5 (some 96)) 97) 91 6 (some 97)) 91 0 (some 4))
theorem wk_X8_91 {M : bm_M} (w0 : bm_wf 92 M) : bm_wf 98 (i_X8_91 M) := by
  have w1 := bm_wf_z w0
  have w2 := bm_wf_sR (o := 91) (f := 1) w1 (by decide : 92 < 93)
  have w3 := bm_wf_z w2
  have w4 := bm_wf_sR (o := 91) (f := 2) w3 (by decide : 93 < 94)
  have w5 := bm_wf_z w4
  have w6 := bm_wf_sR (o := 91) (f := 3) w5 (by decide : 94 < 95)
  have w7 := bm_wf_z w6
  have w8 := bm_wf_sR (o := 91) (f := 4) w7 (by decide : 95 < 96)
  have w9 := bm_wf_z w8
  have w10 := bm_wf_sR (o := 91) (f := 5) w9 (by decide : 96 < 97)
  have w11 := bm_wf_z w10
  have w12 := bm_wf_sR (o := 91) (f := 6) w11 (by decide : 97 < 98)
  have w13 := bm_wf_sR (o := 91) (f := 0) w12 (by decide : 4 < 98)
  exact w13
set_option maxHeartbeats 4000000 in
set_option maxRecDepth 100000 in
theorem k_X8_91 {L : bm_L} {d : Nat} {M : bm_M} (w0 : bm_wf 92 M) : bm_C L m_X8_init (d + 1) 92 98 [.ref 91, .ref 4] M (fun r M' => r = none ∧ M' = i_X8_91 M) := by
  refine bm_C.ofV (by decide) (Nat.le_of_ble_eq_true rfl) ?_
  show bm_V L m_X8_init (d + 1) 92 98 92 0 [(0, .ref 91), (1, .ref 4)] [] M _
  refine bv_aload_n dX8_init_0 0 rfl ?_
  refine bv_oini dX8_init_1 mwo_8_3 (by decide) ?_
  refine bv_aload_n dX8_init_4 0 rfl ?_
  refine bv_bipush (v := 8) dX8_init_5 (by decide) ?_
  refine bv_newa0 dX8_init_7 rfl (by decide) (by decide) (by decide) w0 (by decide) (by decide) rfl rfl ?_
  have w1 := bm_wf_z w0
  refine bv_putRF (v := some 92) dX8_init_9 fl_8_9 rfl (fun C T N h => (congrArg Prod.fst (Option.some.inj h)).symm) rfl (by decide) rfl ?_
  have w2 := bm_wf_sR (o := 91) (f := 1) w1 (by decide : 92 < 93)
  refine bv_aload_n dX8_init_12 0 rfl ?_
  refine bv_bipush (v := 8) dX8_init_13 (by decide) ?_
  refine bv_newa0 dX8_init_15 rfl (by decide) (by decide) (by decide) w2 (by decide) (by decide) rfl rfl ?_
  have w3 := bm_wf_z w2
  refine bv_putRF (v := some 93) dX8_init_17 fl_8_15 rfl (fun C T N h => (congrArg Prod.fst (Option.some.inj h)).symm) rfl (by decide) rfl ?_
  have w4 := bm_wf_sR (o := 91) (f := 2) w3 (by decide : 93 < 94)
  refine bv_aload_n dX8_init_20 0 rfl ?_
  refine bv_bipush (v := 8) dX8_init_21 (by decide) ?_
  refine bv_newa0 dX8_init_23 rfl (by decide) (by decide) (by decide) w4 (by decide) (by decide) rfl rfl ?_
  have w5 := bm_wf_z w4
  refine bv_putRF (v := some 94) dX8_init_25 fl_8_18 rfl (fun C T N h => (congrArg Prod.fst (Option.some.inj h)).symm) rfl (by decide) rfl ?_
  have w6 := bm_wf_sR (o := 91) (f := 3) w5 (by decide : 94 < 95)
  refine bv_aload_n dX8_init_28 0 rfl ?_
  refine bv_bipush (v := 8) dX8_init_29 (by decide) ?_
  refine bv_newa0 dX8_init_31 rfl (by decide) (by decide) (by decide) w6 (by decide) (by decide) rfl rfl ?_
  have w7 := bm_wf_z w6
  refine bv_putRF (v := some 95) dX8_init_33 fl_8_21 rfl (fun C T N h => (congrArg Prod.fst (Option.some.inj h)).symm) rfl (by decide) rfl ?_
  have w8 := bm_wf_sR (o := 91) (f := 4) w7 (by decide : 95 < 96)
  refine bv_aload_n dX8_init_36 0 rfl ?_
  refine bv_bipush (v := 8) dX8_init_37 (by decide) ?_
  refine bv_newa0 dX8_init_39 rfl (by decide) (by decide) (by decide) w8 (by decide) (by decide) rfl rfl ?_
  have w9 := bm_wf_z w8
  refine bv_putRF (v := some 96) dX8_init_41 fl_8_24 rfl (fun C T N h => (congrArg Prod.fst (Option.some.inj h)).symm) rfl (by decide) rfl ?_
  have w10 := bm_wf_sR (o := 91) (f := 5) w9 (by decide : 96 < 97)
  refine bv_aload_n dX8_init_44 0 rfl ?_
  refine bv_bipush (v := 8) dX8_init_45 (by decide) ?_
  refine bv_newa0 dX8_init_47 rfl (by decide) (by decide) (by decide) w10 (by decide) (by decide) rfl rfl ?_
  have w11 := bm_wf_z w10
  refine bv_putRF (v := some 97) dX8_init_49 fl_8_27 rfl (fun C T N h => (congrArg Prod.fst (Option.some.inj h)).symm) rfl (by decide) rfl ?_
  have w12 := bm_wf_sR (o := 91) (f := 6) w11 (by decide : 97 < 98)
  refine bv_aload_n dX8_init_52 0 rfl ?_
  refine bv_aload_n dX8_init_53 1 rfl ?_
  refine bv_putRF (v := some 4) dX8_init_54 fl_8_30 rfl (fun C T N h => (congrArg Prod.fst (Option.some.inj h)).symm) rfl (by decide) rfl ?_
  have w13 := bm_wf_sR (o := 91) (f := 0) w12 (by decide : 4 < 98)
  exact bv_vret dX8_init_57 rfl ⟨rfl, rfl⟩
def i_X4_40 (M : bm_M) : bm_M := (bm_sR (i_X8_91 (bm_z (bm_sR (i_X8_84 (bm_z (bm_sR (i_X8_77 (bm_z (bm_sR (i_X8_70 (bm_z (bm_sR (i_X8_63 (bm_z (bm_sR (i_X8_56 (bm_z (bm_sR (i_X8_49 (bm_z (bm_sR (i_X8_42 (bm_z (bm_sR (bm_z M 41) 40 0 (some 41)) 42)) 41 (0 : Int32).toNatClampNeg (some 42)) 49)) 41 (1 : Int32).toNatClampNeg (some 49)) 56)) 41 (2 : Int32).toNatClampNeg (some 56)) 63)) 41 (3 : Int32).toNatClampNeg (some 63)) 70)) 41 (4 : Int32).toNatClampNeg (some 70)) 77)) 41 (5 : Int32).toNatClampNeg (some 77)) 84)) 41 (6 : Int32).toNatClampNeg (some 84)) 91)) 41 (7 : Int32).toNatClampNeg (some 91))
theorem wk_X4_40 {M : bm_M} (w0 : bm_wf 41 M) : bm_wf 98 (i_X4_40 M) := by
  have w1 := bm_wf_z w0
  have w2 := bm_wf_sR (o := 40) (f := 0) w1 (by decide : 41 < 42)
  have w3 := bm_wf_z w2
  have w4 := wk_X8_42 w3
  have w5 := bm_wf_sR (o := 41) (f := (0 : Int32).toNatClampNeg) w4 (by decide : 42 < 49)
  have w6 := bm_wf_z w5
  have w7 := wk_X8_49 w6
  have w8 := bm_wf_sR (o := 41) (f := (1 : Int32).toNatClampNeg) w7 (by decide : 49 < 56)
  have w9 := bm_wf_z w8
  have w10 := wk_X8_56 w9
  have w11 := bm_wf_sR (o := 41) (f := (2 : Int32).toNatClampNeg) w10 (by decide : 56 < 63)
  have w12 := bm_wf_z w11
  have w13 := wk_X8_63 w12
  have w14 := bm_wf_sR (o := 41) (f := (3 : Int32).toNatClampNeg) w13 (by decide : 63 < 70)
  have w15 := bm_wf_z w14
  have w16 := wk_X8_70 w15
  have w17 := bm_wf_sR (o := 41) (f := (4 : Int32).toNatClampNeg) w16 (by decide : 70 < 77)
  have w18 := bm_wf_z w17
  have w19 := wk_X8_77 w18
  have w20 := bm_wf_sR (o := 41) (f := (5 : Int32).toNatClampNeg) w19 (by decide : 77 < 84)
  have w21 := bm_wf_z w20
  have w22 := wk_X8_84 w21
  have w23 := bm_wf_sR (o := 41) (f := (6 : Int32).toNatClampNeg) w22 (by decide : 84 < 91)
  have w24 := bm_wf_z w23
  have w25 := wk_X8_91 w24
  have w26 := bm_wf_sR (o := 41) (f := (7 : Int32).toNatClampNeg) w25 (by decide : 91 < 98)
  exact w26
set_option maxHeartbeats 4000000 in
set_option maxRecDepth 100000 in
theorem k_X4_40 {L : bm_L} {d : Nat} {M : bm_M} (w0 : bm_wf 41 M) : bm_C L m_X4_init (d + 2) 41 98 [.ref 40, .ref 4] M (fun r M' => r = none ∧ M' = i_X4_40 M) := by
  refine bm_C.ofV (by decide) (Nat.le_of_ble_eq_true rfl) ?_
  show bm_V L m_X4_init (d + 2) 41 98 41 0 [(0, .ref 40), (1, .ref 4)] [] M _
  refine bv_aload_n dX4_init_0 0 rfl ?_
  refine bv_oini dX4_init_1 mwo_4_3 (by decide) ?_
  refine bv_aload_n dX4_init_4 0 rfl ?_
  refine bv_bipush (v := 8) dX4_init_5 (by decide) ?_
  refine bv_newq (t := 5) (C := "BrowArmy$State") dX4_init_7 ck_4_9 (List.mem_of_getElem? (i := 1) rfl) rfl (by decide) (by decide) rfl (by decide) (by decide) (by decide) w0 (by decide) (by decide) rfl rfl ?_
  have w1 := bm_wf_z w0
  refine bv_putRF (v := some 41) dX4_init_10 fl_4_11 rfl (fun C T N h => (congrArg Prod.fst (Option.some.inj h)).symm) rfl (by decide) rfl ?_
  have w2 := bm_wf_sR (o := 40) (f := 0) w1 (by decide : 41 < 42)
  refine bv_iconst (v := 0) dX4_init_13 (by decide) ?_
  refine bv_istore_n (ls1 := [(0, .ref 40), (1, .ref 4), (2, .int 0)]) dX4_init_14 (by decide) rfl rfl ?_
  refine bv_iload_n dX4_init_15 2 rfl ?_
  refine bv_bipush (v := 8) dX4_init_16 (by decide) ?_
  refine bv_icmp_ge (tgt := 41) dX4_init_18 (by decide) (fun cc => absurd cc (by decide)) (fun _ => ?_)
  refine bv_aload_n dX4_init_21 0 rfl ?_
  refine bv_getA (a := 41) dX4_init_22 fl_4_11 rfl (by decide) rfl rfl ?_
  refine bv_iload_n dX4_init_25 2 rfl ?_
  refine bv_new dX4_init_26 nw_4_9 rfl w2 (by decide) (by decide) rfl rfl ?_
  have w3 := bm_wf_z w2
  refine bv_dup dX4_init_29 rfl ?_
  refine bv_aload_n dX4_init_30 1 rfl ?_
  refine bv_callI (As := [.ref 4]) (b := 42) (n2 := 49) dX4_init_31 mci_4_17 (k_X8_42 (d := d + 0) w3) rfl rfl (Nat.le_of_ble_eq_true rfl) (by decide) (by decide) rfl rfl ?_
  have w4 := wk_X8_42 w3
  refine bv_aast (E := "BrowArmy$State") (ci := 8) dX4_init_34 rfl (by decide) (by decide) rfl (by decide) (by unfold vp_in; decide) (by decide) rfl ⟨_, _, rfl⟩ ?_
  have w5 := bm_wf_sR (o := 41) (f := (0 : Int32).toNatClampNeg) w4 (by decide : 42 < 49)
  refine bv_iinc (j := 2) (v := 1) (ls1 := [(0, .ref 40), (1, .ref 4), (2, .int 1)]) dX4_init_35 rfl (by decide) (by decide) rfl rfl ?_
  refine bv_goto (tgt := 15) dX4_init_38 (by decide) ?_
  refine bv_iload_n dX4_init_15 2 rfl ?_
  refine bv_bipush (v := 8) dX4_init_16 (by decide) ?_
  refine bv_icmp_ge (tgt := 41) dX4_init_18 (by decide) (fun cc => absurd cc (by decide)) (fun _ => ?_)
  refine bv_aload_n dX4_init_21 0 rfl ?_
  refine bv_getA (a := 41) dX4_init_22 fl_4_11 rfl (by decide) rfl rfl ?_
  refine bv_iload_n dX4_init_25 2 rfl ?_
  refine bv_new dX4_init_26 nw_4_9 rfl w5 (by decide) (by decide) rfl rfl ?_
  have w6 := bm_wf_z w5
  refine bv_dup dX4_init_29 rfl ?_
  refine bv_aload_n dX4_init_30 1 rfl ?_
  refine bv_callI (As := [.ref 4]) (b := 49) (n2 := 56) dX4_init_31 mci_4_17 (k_X8_49 (d := d + 0) w6) rfl rfl (Nat.le_of_ble_eq_true rfl) (by decide) (by decide) rfl rfl ?_
  have w7 := wk_X8_49 w6
  refine bv_aast (E := "BrowArmy$State") (ci := 8) dX4_init_34 rfl (by decide) (by decide) rfl (by decide) (by unfold vp_in; decide) (by decide) rfl ⟨_, _, rfl⟩ ?_
  have w8 := bm_wf_sR (o := 41) (f := (1 : Int32).toNatClampNeg) w7 (by decide : 49 < 56)
  refine bv_iinc (j := 2) (v := 2) (ls1 := [(0, .ref 40), (1, .ref 4), (2, .int 2)]) dX4_init_35 rfl (by decide) (by decide) rfl rfl ?_
  refine bv_goto (tgt := 15) dX4_init_38 (by decide) ?_
  refine bv_iload_n dX4_init_15 2 rfl ?_
  refine bv_bipush (v := 8) dX4_init_16 (by decide) ?_
  refine bv_icmp_ge (tgt := 41) dX4_init_18 (by decide) (fun cc => absurd cc (by decide)) (fun _ => ?_)
  refine bv_aload_n dX4_init_21 0 rfl ?_
  refine bv_getA (a := 41) dX4_init_22 fl_4_11 rfl (by decide) rfl rfl ?_
  refine bv_iload_n dX4_init_25 2 rfl ?_
  refine bv_new dX4_init_26 nw_4_9 rfl w8 (by decide) (by decide) rfl rfl ?_
  have w9 := bm_wf_z w8
  refine bv_dup dX4_init_29 rfl ?_
  refine bv_aload_n dX4_init_30 1 rfl ?_
  refine bv_callI (As := [.ref 4]) (b := 56) (n2 := 63) dX4_init_31 mci_4_17 (k_X8_56 (d := d + 0) w9) rfl rfl (Nat.le_of_ble_eq_true rfl) (by decide) (by decide) rfl rfl ?_
  have w10 := wk_X8_56 w9
  refine bv_aast (E := "BrowArmy$State") (ci := 8) dX4_init_34 rfl (by decide) (by decide) rfl (by decide) (by unfold vp_in; decide) (by decide) rfl ⟨_, _, rfl⟩ ?_
  have w11 := bm_wf_sR (o := 41) (f := (2 : Int32).toNatClampNeg) w10 (by decide : 56 < 63)
  refine bv_iinc (j := 2) (v := 3) (ls1 := [(0, .ref 40), (1, .ref 4), (2, .int 3)]) dX4_init_35 rfl (by decide) (by decide) rfl rfl ?_
  refine bv_goto (tgt := 15) dX4_init_38 (by decide) ?_
  refine bv_iload_n dX4_init_15 2 rfl ?_
  refine bv_bipush (v := 8) dX4_init_16 (by decide) ?_
  refine bv_icmp_ge (tgt := 41) dX4_init_18 (by decide) (fun cc => absurd cc (by decide)) (fun _ => ?_)
  refine bv_aload_n dX4_init_21 0 rfl ?_
  refine bv_getA (a := 41) dX4_init_22 fl_4_11 rfl (by decide) rfl rfl ?_
  refine bv_iload_n dX4_init_25 2 rfl ?_
  refine bv_new dX4_init_26 nw_4_9 rfl w11 (by decide) (by decide) rfl rfl ?_
  have w12 := bm_wf_z w11
  refine bv_dup dX4_init_29 rfl ?_
  refine bv_aload_n dX4_init_30 1 rfl ?_
  refine bv_callI (As := [.ref 4]) (b := 63) (n2 := 70) dX4_init_31 mci_4_17 (k_X8_63 (d := d + 0) w12) rfl rfl (Nat.le_of_ble_eq_true rfl) (by decide) (by decide) rfl rfl ?_
  have w13 := wk_X8_63 w12
  refine bv_aast (E := "BrowArmy$State") (ci := 8) dX4_init_34 rfl (by decide) (by decide) rfl (by decide) (by unfold vp_in; decide) (by decide) rfl ⟨_, _, rfl⟩ ?_
  have w14 := bm_wf_sR (o := 41) (f := (3 : Int32).toNatClampNeg) w13 (by decide : 63 < 70)
  refine bv_iinc (j := 2) (v := 4) (ls1 := [(0, .ref 40), (1, .ref 4), (2, .int 4)]) dX4_init_35 rfl (by decide) (by decide) rfl rfl ?_
  refine bv_goto (tgt := 15) dX4_init_38 (by decide) ?_
  refine bv_iload_n dX4_init_15 2 rfl ?_
  refine bv_bipush (v := 8) dX4_init_16 (by decide) ?_
  refine bv_icmp_ge (tgt := 41) dX4_init_18 (by decide) (fun cc => absurd cc (by decide)) (fun _ => ?_)
  refine bv_aload_n dX4_init_21 0 rfl ?_
  refine bv_getA (a := 41) dX4_init_22 fl_4_11 rfl (by decide) rfl rfl ?_
  refine bv_iload_n dX4_init_25 2 rfl ?_
  refine bv_new dX4_init_26 nw_4_9 rfl w14 (by decide) (by decide) rfl rfl ?_
  have w15 := bm_wf_z w14
  refine bv_dup dX4_init_29 rfl ?_
  refine bv_aload_n dX4_init_30 1 rfl ?_
  refine bv_callI (As := [.ref 4]) (b := 70) (n2 := 77) dX4_init_31 mci_4_17 (k_X8_70 (d := d + 0) w15) rfl rfl (Nat.le_of_ble_eq_true rfl) (by decide) (by decide) rfl rfl ?_
  have w16 := wk_X8_70 w15
  refine bv_aast (E := "BrowArmy$State") (ci := 8) dX4_init_34 rfl (by decide) (by decide) rfl (by decide) (by unfold vp_in; decide) (by decide) rfl ⟨_, _, rfl⟩ ?_
  have w17 := bm_wf_sR (o := 41) (f := (4 : Int32).toNatClampNeg) w16 (by decide : 70 < 77)
  refine bv_iinc (j := 2) (v := 5) (ls1 := [(0, .ref 40), (1, .ref 4), (2, .int 5)]) dX4_init_35 rfl (by decide) (by decide) rfl rfl ?_
  refine bv_goto (tgt := 15) dX4_init_38 (by decide) ?_
  refine bv_iload_n dX4_init_15 2 rfl ?_
  refine bv_bipush (v := 8) dX4_init_16 (by decide) ?_
  refine bv_icmp_ge (tgt := 41) dX4_init_18 (by decide) (fun cc => absurd cc (by decide)) (fun _ => ?_)
  refine bv_aload_n dX4_init_21 0 rfl ?_
  refine bv_getA (a := 41) dX4_init_22 fl_4_11 rfl (by decide) rfl rfl ?_
  refine bv_iload_n dX4_init_25 2 rfl ?_
  refine bv_new dX4_init_26 nw_4_9 rfl w17 (by decide) (by decide) rfl rfl ?_
  have w18 := bm_wf_z w17
  refine bv_dup dX4_init_29 rfl ?_
  refine bv_aload_n dX4_init_30 1 rfl ?_
  refine bv_callI (As := [.ref 4]) (b := 77) (n2 := 84) dX4_init_31 mci_4_17 (k_X8_77 (d := d + 0) w18) rfl rfl (Nat.le_of_ble_eq_true rfl) (by decide) (by decide) rfl rfl ?_
  have w19 := wk_X8_77 w18
  refine bv_aast (E := "BrowArmy$State") (ci := 8) dX4_init_34 rfl (by decide) (by decide) rfl (by decide) (by unfold vp_in; decide) (by decide) rfl ⟨_, _, rfl⟩ ?_
  have w20 := bm_wf_sR (o := 41) (f := (5 : Int32).toNatClampNeg) w19 (by decide : 77 < 84)
  refine bv_iinc (j := 2) (v := 6) (ls1 := [(0, .ref 40), (1, .ref 4), (2, .int 6)]) dX4_init_35 rfl (by decide) (by decide) rfl rfl ?_
  refine bv_goto (tgt := 15) dX4_init_38 (by decide) ?_
  refine bv_iload_n dX4_init_15 2 rfl ?_
  refine bv_bipush (v := 8) dX4_init_16 (by decide) ?_
  refine bv_icmp_ge (tgt := 41) dX4_init_18 (by decide) (fun cc => absurd cc (by decide)) (fun _ => ?_)
  refine bv_aload_n dX4_init_21 0 rfl ?_
  refine bv_getA (a := 41) dX4_init_22 fl_4_11 rfl (by decide) rfl rfl ?_
  refine bv_iload_n dX4_init_25 2 rfl ?_
  refine bv_new dX4_init_26 nw_4_9 rfl w20 (by decide) (by decide) rfl rfl ?_
  have w21 := bm_wf_z w20
  refine bv_dup dX4_init_29 rfl ?_
  refine bv_aload_n dX4_init_30 1 rfl ?_
  refine bv_callI (As := [.ref 4]) (b := 84) (n2 := 91) dX4_init_31 mci_4_17 (k_X8_84 (d := d + 0) w21) rfl rfl (Nat.le_of_ble_eq_true rfl) (by decide) (by decide) rfl rfl ?_
  have w22 := wk_X8_84 w21
  refine bv_aast (E := "BrowArmy$State") (ci := 8) dX4_init_34 rfl (by decide) (by decide) rfl (by decide) (by unfold vp_in; decide) (by decide) rfl ⟨_, _, rfl⟩ ?_
  have w23 := bm_wf_sR (o := 41) (f := (6 : Int32).toNatClampNeg) w22 (by decide : 84 < 91)
  refine bv_iinc (j := 2) (v := 7) (ls1 := [(0, .ref 40), (1, .ref 4), (2, .int 7)]) dX4_init_35 rfl (by decide) (by decide) rfl rfl ?_
  refine bv_goto (tgt := 15) dX4_init_38 (by decide) ?_
  refine bv_iload_n dX4_init_15 2 rfl ?_
  refine bv_bipush (v := 8) dX4_init_16 (by decide) ?_
  refine bv_icmp_ge (tgt := 41) dX4_init_18 (by decide) (fun cc => absurd cc (by decide)) (fun _ => ?_)
  refine bv_aload_n dX4_init_21 0 rfl ?_
  refine bv_getA (a := 41) dX4_init_22 fl_4_11 rfl (by decide) rfl rfl ?_
  refine bv_iload_n dX4_init_25 2 rfl ?_
  refine bv_new dX4_init_26 nw_4_9 rfl w23 (by decide) (by decide) rfl rfl ?_
  have w24 := bm_wf_z w23
  refine bv_dup dX4_init_29 rfl ?_
  refine bv_aload_n dX4_init_30 1 rfl ?_
  refine bv_callI (As := [.ref 4]) (b := 91) (n2 := 98) dX4_init_31 mci_4_17 (k_X8_91 (d := d + 0) w24) rfl rfl (Nat.le_of_ble_eq_true rfl) (by decide) (by decide) rfl rfl ?_
  have w25 := wk_X8_91 w24
  refine bv_aast (E := "BrowArmy$State") (ci := 8) dX4_init_34 rfl (by decide) (by decide) rfl (by decide) (by unfold vp_in; decide) (by decide) rfl ⟨_, _, rfl⟩ ?_
  have w26 := bm_wf_sR (o := 41) (f := (7 : Int32).toNatClampNeg) w25 (by decide : 91 < 98)
  refine bv_iinc (j := 2) (v := 8) (ls1 := [(0, .ref 40), (1, .ref 4), (2, .int 8)]) dX4_init_35 rfl (by decide) (by decide) rfl rfl ?_
  refine bv_goto (tgt := 15) dX4_init_38 (by decide) ?_
  refine bv_iload_n dX4_init_15 2 rfl ?_
  refine bv_bipush (v := 8) dX4_init_16 (by decide) ?_
  refine bv_icmp_ge (tgt := 41) dX4_init_18 (by decide) (fun _ => ?_) (fun cc => absurd (by decide) cc)
  exact bv_vret dX4_init_41 rfl ⟨rfl, rfl⟩
def i_X0_100 (M : bm_M) : bm_M := (bm_sI (bm_sI (bm_sR (bm_z (bm_sR (bm_z (bm_sR (bm_z (bm_sR (bm_z (bm_sR (bm_z (bm_sR (bm_z (bm_sR (bm_z (bm_sR (bm_z (bm_sR (bm_z (bm_sR (bm_z M 101) 100 0 (some 101)) 102) 100 1 (some 102)) 103) 100 2 (some 103)) 104) 100 3 (some 104)) 105) 100 4 (some 105)) 106) 100 5 (some 106)) 107) 100 6 (some 107)) 108) 100 7 (some 108)) 109) 100 8 (some 109)) 110) 100 9 (some 110)) 100 15 2) 100 16 6)
theorem wk_X0_100 {M : bm_M} (w0 : bm_wf 101 M) : bm_wf 111 (i_X0_100 M) := by
  have w1 := bm_wf_z w0
  have w2 := bm_wf_sR (o := 100) (f := 0) w1 (by decide : 101 < 102)
  have w3 := bm_wf_z w2
  have w4 := bm_wf_sR (o := 100) (f := 1) w3 (by decide : 102 < 103)
  have w5 := bm_wf_z w4
  have w6 := bm_wf_sR (o := 100) (f := 2) w5 (by decide : 103 < 104)
  have w7 := bm_wf_z w6
  have w8 := bm_wf_sR (o := 100) (f := 3) w7 (by decide : 104 < 105)
  have w9 := bm_wf_z w8
  have w10 := bm_wf_sR (o := 100) (f := 4) w9 (by decide : 105 < 106)
  have w11 := bm_wf_z w10
  have w12 := bm_wf_sR (o := 100) (f := 5) w11 (by decide : 106 < 107)
  have w13 := bm_wf_z w12
  have w14 := bm_wf_sR (o := 100) (f := 6) w13 (by decide : 107 < 108)
  have w15 := bm_wf_z w14
  have w16 := bm_wf_sR (o := 100) (f := 7) w15 (by decide : 108 < 109)
  have w17 := bm_wf_z w16
  have w18 := bm_wf_sR (o := 100) (f := 8) w17 (by decide : 109 < 110)
  have w19 := bm_wf_z w18
  have w20 := bm_wf_sR (o := 100) (f := 9) w19 (by decide : 110 < 111)
  exact w20
set_option maxHeartbeats 4000000 in
set_option maxRecDepth 100000 in
theorem k_X0_100 {L : bm_L} {d : Nat} {M : bm_M} (w0 : bm_wf 101 M) : bm_C L m_X0_init (d + 1) 101 111 [.ref 100] M (fun r M' => r = none ∧ M' = i_X0_100 M) := by
  refine bm_C.ofV (by decide) (Nat.le_of_ble_eq_true rfl) ?_
  show bm_V L m_X0_init (d + 1) 101 111 101 0 [(0, .ref 100)] [] M _
  refine bv_aload_n dX0_init_0 0 rfl ?_
  refine bv_oini dX0_init_1 mwo_0_3 (by decide) ?_
  refine bv_aload_n dX0_init_4 0 rfl ?_
  refine bv_bipush (v := 8) dX0_init_5 (by decide) ?_
  refine bv_newa2 dX0_init_7 rfl (by decide) (by decide) (by decide) w0 (by decide) (by decide) rfl rfl ?_
  have w1 := bm_wf_z w0
  refine bv_putRF (v := some 101) dX0_init_9 fl_0_9 rfl (fun C T N h => (congrArg Prod.fst (Option.some.inj h)).symm) rfl (by decide) rfl ?_
  have w2 := bm_wf_sR (o := 100) (f := 0) w1 (by decide : 101 < 102)
  refine bv_aload_n dX0_init_12 0 rfl ?_
  refine bv_bipush (v := 8) dX0_init_13 (by decide) ?_
  refine bv_newa0 dX0_init_15 rfl (by decide) (by decide) (by decide) w2 (by decide) (by decide) rfl rfl ?_
  have w3 := bm_wf_z w2
  refine bv_putRF (v := some 102) dX0_init_17 fl_0_15 rfl (fun C T N h => (congrArg Prod.fst (Option.some.inj h)).symm) rfl (by decide) rfl ?_
  have w4 := bm_wf_sR (o := 100) (f := 1) w3 (by decide : 102 < 103)
  refine bv_aload_n dX0_init_20 0 rfl ?_
  refine bv_bipush (v := 8) dX0_init_21 (by decide) ?_
  refine bv_newa0 dX0_init_23 rfl (by decide) (by decide) (by decide) w4 (by decide) (by decide) rfl rfl ?_
  have w5 := bm_wf_z w4
  refine bv_putRF (v := some 103) dX0_init_25 fl_0_19 rfl (fun C T N h => (congrArg Prod.fst (Option.some.inj h)).symm) rfl (by decide) rfl ?_
  have w6 := bm_wf_sR (o := 100) (f := 2) w5 (by decide : 103 < 104)
  refine bv_aload_n dX0_init_28 0 rfl ?_
  refine bv_bipush (v := 8) dX0_init_29 (by decide) ?_
  refine bv_newa0 dX0_init_31 rfl (by decide) (by decide) (by decide) w6 (by decide) (by decide) rfl rfl ?_
  have w7 := bm_wf_z w6
  refine bv_putRF (v := some 104) dX0_init_33 fl_0_22 rfl (fun C T N h => (congrArg Prod.fst (Option.some.inj h)).symm) rfl (by decide) rfl ?_
  have w8 := bm_wf_sR (o := 100) (f := 3) w7 (by decide : 104 < 105)
  refine bv_aload_n dX0_init_36 0 rfl ?_
  refine bv_bipush (v := 8) dX0_init_37 (by decide) ?_
  refine bv_newa0 dX0_init_39 rfl (by decide) (by decide) (by decide) w8 (by decide) (by decide) rfl rfl ?_
  have w9 := bm_wf_z w8
  refine bv_putRF (v := some 105) dX0_init_41 fl_0_25 rfl (fun C T N h => (congrArg Prod.fst (Option.some.inj h)).symm) rfl (by decide) rfl ?_
  have w10 := bm_wf_sR (o := 100) (f := 4) w9 (by decide : 105 < 106)
  refine bv_aload_n dX0_init_44 0 rfl ?_
  refine bv_bipush (v := 7) dX0_init_45 (by decide) ?_
  refine bv_newa2 dX0_init_47 rfl (by decide) (by decide) (by decide) w10 (by decide) (by decide) rfl rfl ?_
  have w11 := bm_wf_z w10
  refine bv_putRF (v := some 106) dX0_init_49 fl_0_28 rfl (fun C T N h => (congrArg Prod.fst (Option.some.inj h)).symm) rfl (by decide) rfl ?_
  have w12 := bm_wf_sR (o := 100) (f := 5) w11 (by decide : 106 < 107)
  refine bv_aload_n dX0_init_52 0 rfl ?_
  refine bv_bipush (v := 7) dX0_init_53 (by decide) ?_
  refine bv_newa0 dX0_init_55 rfl (by decide) (by decide) (by decide) w12 (by decide) (by decide) rfl rfl ?_
  have w13 := bm_wf_z w12
  refine bv_putRF (v := some 107) dX0_init_57 fl_0_31 rfl (fun C T N h => (congrArg Prod.fst (Option.some.inj h)).symm) rfl (by decide) rfl ?_
  have w14 := bm_wf_sR (o := 100) (f := 6) w13 (by decide : 107 < 108)
  refine bv_aload_n dX0_init_60 0 rfl ?_
  refine bv_bipush (v := 7) dX0_init_61 (by decide) ?_
  refine bv_newa0 dX0_init_63 rfl (by decide) (by decide) (by decide) w14 (by decide) (by decide) rfl rfl ?_
  have w15 := bm_wf_z w14
  refine bv_putRF (v := some 108) dX0_init_65 fl_0_34 rfl (fun C T N h => (congrArg Prod.fst (Option.some.inj h)).symm) rfl (by decide) rfl ?_
  have w16 := bm_wf_sR (o := 100) (f := 7) w15 (by decide : 108 < 109)
  refine bv_aload_n dX0_init_68 0 rfl ?_
  refine bv_iconst (v := 4) dX0_init_69 (by decide) ?_
  refine bv_newa0 dX0_init_70 rfl (by decide) (by decide) (by decide) w16 (by decide) (by decide) rfl rfl ?_
  have w17 := bm_wf_z w16
  refine bv_putRF (v := some 109) dX0_init_72 fl_0_37 rfl (fun C T N h => (congrArg Prod.fst (Option.some.inj h)).symm) rfl (by decide) rfl ?_
  have w18 := bm_wf_sR (o := 100) (f := 8) w17 (by decide : 109 < 110)
  refine bv_aload_n dX0_init_75 0 rfl ?_
  refine bv_iconst (v := 4) dX0_init_76 (by decide) ?_
  refine bv_newa0 dX0_init_77 rfl (by decide) (by decide) (by decide) w18 (by decide) (by decide) rfl rfl ?_
  have w19 := bm_wf_z w18
  refine bv_putRF (v := some 110) dX0_init_79 fl_0_40 rfl (fun C T N h => (congrArg Prod.fst (Option.some.inj h)).symm) rfl (by decide) rfl ?_
  have w20 := bm_wf_sR (o := 100) (f := 9) w19 (by decide : 110 < 111)
  refine bv_aload_n dX0_init_82 0 rfl ?_
  refine bv_iconst (v := 2) dX0_init_83 (by decide) ?_
  refine bv_putI dX0_init_84 fl_0_43 rfl (by decide) rfl rfl rfl ?_
  refine bv_aload_n dX0_init_87 0 rfl ?_
  refine bv_bipush (v := 6) dX0_init_88 (by decide) ?_
  refine bv_putI dX0_init_90 fl_0_47 rfl (by decide) rfl rfl rfl ?_
  exact bv_vret dX0_init_93 rfl ⟨rfl, rfl⟩
def i_X8_111 (M : bm_M) : bm_M := (bm_sR (bm_sR (bm_z (bm_sR (bm_z (bm_sR (bm_z (bm_sR (bm_z (bm_sR (bm_z (bm_sR (bm_z M 112) 111 1 (some 112)) 113) 111 2 (some 113)) 114) 111 3 (some 114)) 115) 111 4 (some 115)) 116) 111 5 (some 116)) 117) 111 6 (some 117)) 111 0 (some 100))
theorem wk_X8_111 {M : bm_M} (w0 : bm_wf 112 M) : bm_wf 118 (i_X8_111 M) := by
  have w1 := bm_wf_z w0
  have w2 := bm_wf_sR (o := 111) (f := 1) w1 (by decide : 112 < 113)
  have w3 := bm_wf_z w2
  have w4 := bm_wf_sR (o := 111) (f := 2) w3 (by decide : 113 < 114)
  have w5 := bm_wf_z w4
  have w6 := bm_wf_sR (o := 111) (f := 3) w5 (by decide : 114 < 115)
  have w7 := bm_wf_z w6
  have w8 := bm_wf_sR (o := 111) (f := 4) w7 (by decide : 115 < 116)
  have w9 := bm_wf_z w8
  have w10 := bm_wf_sR (o := 111) (f := 5) w9 (by decide : 116 < 117)
  have w11 := bm_wf_z w10
  have w12 := bm_wf_sR (o := 111) (f := 6) w11 (by decide : 117 < 118)
  have w13 := bm_wf_sR (o := 111) (f := 0) w12 (by decide : 100 < 118)
  exact w13
set_option maxHeartbeats 4000000 in
set_option maxRecDepth 100000 in
theorem k_X8_111 {L : bm_L} {d : Nat} {M : bm_M} (w0 : bm_wf 112 M) : bm_C L m_X8_init (d + 1) 112 118 [.ref 111, .ref 100] M (fun r M' => r = none ∧ M' = i_X8_111 M) := by
  refine bm_C.ofV (by decide) (Nat.le_of_ble_eq_true rfl) ?_
  show bm_V L m_X8_init (d + 1) 112 118 112 0 [(0, .ref 111), (1, .ref 100)] [] M _
  refine bv_aload_n dX8_init_0 0 rfl ?_
  refine bv_oini dX8_init_1 mwo_8_3 (by decide) ?_
  refine bv_aload_n dX8_init_4 0 rfl ?_
  refine bv_bipush (v := 8) dX8_init_5 (by decide) ?_
  refine bv_newa0 dX8_init_7 rfl (by decide) (by decide) (by decide) w0 (by decide) (by decide) rfl rfl ?_
  have w1 := bm_wf_z w0
  refine bv_putRF (v := some 112) dX8_init_9 fl_8_9 rfl (fun C T N h => (congrArg Prod.fst (Option.some.inj h)).symm) rfl (by decide) rfl ?_
  have w2 := bm_wf_sR (o := 111) (f := 1) w1 (by decide : 112 < 113)
  refine bv_aload_n dX8_init_12 0 rfl ?_
  refine bv_bipush (v := 8) dX8_init_13 (by decide) ?_
  refine bv_newa0 dX8_init_15 rfl (by decide) (by decide) (by decide) w2 (by decide) (by decide) rfl rfl ?_
  have w3 := bm_wf_z w2
  refine bv_putRF (v := some 113) dX8_init_17 fl_8_15 rfl (fun C T N h => (congrArg Prod.fst (Option.some.inj h)).symm) rfl (by decide) rfl ?_
  have w4 := bm_wf_sR (o := 111) (f := 2) w3 (by decide : 113 < 114)
  refine bv_aload_n dX8_init_20 0 rfl ?_
  refine bv_bipush (v := 8) dX8_init_21 (by decide) ?_
  refine bv_newa0 dX8_init_23 rfl (by decide) (by decide) (by decide) w4 (by decide) (by decide) rfl rfl ?_
  have w5 := bm_wf_z w4
  refine bv_putRF (v := some 114) dX8_init_25 fl_8_18 rfl (fun C T N h => (congrArg Prod.fst (Option.some.inj h)).symm) rfl (by decide) rfl ?_
  have w6 := bm_wf_sR (o := 111) (f := 3) w5 (by decide : 114 < 115)
  refine bv_aload_n dX8_init_28 0 rfl ?_
  refine bv_bipush (v := 8) dX8_init_29 (by decide) ?_
  refine bv_newa0 dX8_init_31 rfl (by decide) (by decide) (by decide) w6 (by decide) (by decide) rfl rfl ?_
  have w7 := bm_wf_z w6
  refine bv_putRF (v := some 115) dX8_init_33 fl_8_21 rfl (fun C T N h => (congrArg Prod.fst (Option.some.inj h)).symm) rfl (by decide) rfl ?_
  have w8 := bm_wf_sR (o := 111) (f := 4) w7 (by decide : 115 < 116)
  refine bv_aload_n dX8_init_36 0 rfl ?_
  refine bv_bipush (v := 8) dX8_init_37 (by decide) ?_
  refine bv_newa0 dX8_init_39 rfl (by decide) (by decide) (by decide) w8 (by decide) (by decide) rfl rfl ?_
  have w9 := bm_wf_z w8
  refine bv_putRF (v := some 116) dX8_init_41 fl_8_24 rfl (fun C T N h => (congrArg Prod.fst (Option.some.inj h)).symm) rfl (by decide) rfl ?_
  have w10 := bm_wf_sR (o := 111) (f := 5) w9 (by decide : 116 < 117)
  refine bv_aload_n dX8_init_44 0 rfl ?_
  refine bv_bipush (v := 8) dX8_init_45 (by decide) ?_
  refine bv_newa0 dX8_init_47 rfl (by decide) (by decide) (by decide) w10 (by decide) (by decide) rfl rfl ?_
  have w11 := bm_wf_z w10
  refine bv_putRF (v := some 117) dX8_init_49 fl_8_27 rfl (fun C T N h => (congrArg Prod.fst (Option.some.inj h)).symm) rfl (by decide) rfl ?_
  have w12 := bm_wf_sR (o := 111) (f := 6) w11 (by decide : 117 < 118)
  refine bv_aload_n dX8_init_52 0 rfl ?_
  refine bv_aload_n dX8_init_53 1 rfl ?_
  refine bv_putRF (v := some 100) dX8_init_54 fl_8_30 rfl (fun C T N h => (congrArg Prod.fst (Option.some.inj h)).symm) rfl (by decide) rfl ?_
  have w13 := bm_wf_sR (o := 111) (f := 0) w12 (by decide : 100 < 118)
  exact bv_vret dX8_init_57 rfl ⟨rfl, rfl⟩
def i_X7_118 (M : bm_M) : bm_M := (bm_sR (bm_z (bm_sR (bm_z (bm_sR (bm_z (bm_sR (bm_z M 119) 118 0 (some 119)) 120) 118 1 (some 120)) 121) 118 2 (some 121)) 122) 118 3 (some 122))
theorem wk_X7_118 {M : bm_M} (w0 : bm_wf 119 M) : bm_wf 123 (i_X7_118 M) := by
  have w1 := bm_wf_z w0
  have w2 := bm_wf_sR (o := 118) (f := 0) w1 (by decide : 119 < 120)
  have w3 := bm_wf_z w2
  have w4 := bm_wf_sR (o := 118) (f := 1) w3 (by decide : 120 < 121)
  have w5 := bm_wf_z w4
  have w6 := bm_wf_sR (o := 118) (f := 2) w5 (by decide : 121 < 122)
  have w7 := bm_wf_z w6
  have w8 := bm_wf_sR (o := 118) (f := 3) w7 (by decide : 122 < 123)
  exact w8
set_option maxHeartbeats 4000000 in
set_option maxRecDepth 100000 in
theorem k_X7_118 {L : bm_L} {d : Nat} {M : bm_M} (w0 : bm_wf 119 M) : bm_C L m_X7_init (d + 1) 119 123 [.ref 118] M (fun r M' => r = none ∧ M' = i_X7_118 M) := by
  refine bm_C.ofV (by decide) (Nat.le_of_ble_eq_true rfl) ?_
  show bm_V L m_X7_init (d + 1) 119 123 119 0 [(0, .ref 118)] [] M _
  refine bv_aload_n dX7_init_0 0 rfl ?_
  refine bv_oini dX7_init_1 mwo_7_3 (by decide) ?_
  refine bv_aload_n dX7_init_4 0 rfl ?_
  refine bv_bipush (v := 40) dX7_init_5 (by decide) ?_
  refine bv_newq (t := 4) (C := "BrowArmy$Word") dX7_init_7 ck_7_9 (List.mem_of_getElem? (i := 0) rfl) rfl (by decide) (by decide) rfl (by decide) (by decide) (by decide) w0 (by decide) (by decide) rfl rfl ?_
  have w1 := bm_wf_z w0
  refine bv_putRF (v := some 119) dX7_init_10 fl_7_11 rfl (fun C T N h => (congrArg Prod.fst (Option.some.inj h)).symm) rfl (by decide) rfl ?_
  have w2 := bm_wf_sR (o := 118) (f := 0) w1 (by decide : 119 < 120)
  refine bv_aload_n dX7_init_13 0 rfl ?_
  refine bv_bipush (v := 40) dX7_init_14 (by decide) ?_
  refine bv_newa0 dX7_init_16 rfl (by decide) (by decide) (by decide) w2 (by decide) (by decide) rfl rfl ?_
  have w3 := bm_wf_z w2
  refine bv_putRF (v := some 120) dX7_init_18 fl_7_17 rfl (fun C T N h => (congrArg Prod.fst (Option.some.inj h)).symm) rfl (by decide) rfl ?_
  have w4 := bm_wf_sR (o := 118) (f := 1) w3 (by decide : 120 < 121)
  refine bv_aload_n dX7_init_21 0 rfl ?_
  refine bv_bipush (v := 40) dX7_init_22 (by decide) ?_
  refine bv_newa0 dX7_init_24 rfl (by decide) (by decide) (by decide) w4 (by decide) (by decide) rfl rfl ?_
  have w5 := bm_wf_z w4
  refine bv_putRF (v := some 121) dX7_init_26 fl_7_21 rfl (fun C T N h => (congrArg Prod.fst (Option.some.inj h)).symm) rfl (by decide) rfl ?_
  have w6 := bm_wf_sR (o := 118) (f := 2) w5 (by decide : 121 < 122)
  refine bv_aload_n dX7_init_29 0 rfl ?_
  refine bv_bipush (v := 40) dX7_init_30 (by decide) ?_
  refine bv_newa0 dX7_init_32 rfl (by decide) (by decide) (by decide) w6 (by decide) (by decide) rfl rfl ?_
  have w7 := bm_wf_z w6
  refine bv_putRF (v := some 122) dX7_init_34 fl_7_24 rfl (fun C T N h => (congrArg Prod.fst (Option.some.inj h)).symm) rfl (by decide) rfl ?_
  have w8 := bm_wf_sR (o := 118) (f := 3) w7 (by decide : 122 < 123)
  exact bv_vret dX7_init_37 rfl ⟨rfl, rfl⟩
def i_X3_99 (M : bm_M) : bm_M := (bm_sR (i_X7_118 (bm_z (bm_sR (i_X8_111 (bm_z (bm_sR (i_X0_100 (bm_z M 100)) 99 0 (some 100)) 111)) 99 1 (some 111)) 118)) 99 2 (some 118))
theorem wk_X3_99 {M : bm_M} (w0 : bm_wf 100 M) : bm_wf 123 (i_X3_99 M) := by
  have w1 := bm_wf_z w0
  have w2 := wk_X0_100 w1
  have w3 := bm_wf_sR (o := 99) (f := 0) w2 (by decide : 100 < 111)
  have w4 := bm_wf_z w3
  have w5 := wk_X8_111 w4
  have w6 := bm_wf_sR (o := 99) (f := 1) w5 (by decide : 111 < 118)
  have w7 := bm_wf_z w6
  have w8 := wk_X7_118 w7
  have w9 := bm_wf_sR (o := 99) (f := 2) w8 (by decide : 118 < 123)
  exact w9
set_option maxHeartbeats 4000000 in
set_option maxRecDepth 100000 in
theorem k_X3_99 {L : bm_L} {d : Nat} {M : bm_M} (w0 : bm_wf 100 M) : bm_C L m_X3_init (d + 2) 100 123 [.ref 99] M (fun r M' => r = none ∧ M' = i_X3_99 M) := by
  refine bm_C.ofV (by decide) (Nat.le_of_ble_eq_true rfl) ?_
  show bm_V L m_X3_init (d + 2) 100 123 100 0 [(0, .ref 99)] [] M _
  refine bv_aload_n dX3_init_0 0 rfl ?_
  refine bv_oini dX3_init_1 mwo_3_1 (by decide) ?_
  refine bv_aload_n dX3_init_4 0 rfl ?_
  refine bv_new dX3_init_5 nw_3_7 rfl w0 (by decide) (by decide) rfl rfl ?_
  have w1 := bm_wf_z w0
  refine bv_dup dX3_init_8 rfl ?_
  refine bv_callIN (As := []) (b := 100) (n2 := 111) dX3_init_9 mci_3_9 (k_X0_100 (d := d + 0) w1) rfl rfl (Nat.le_of_ble_eq_true rfl) (by decide) (by decide) rfl rfl ?_
  have w2 := wk_X0_100 w1
  refine bv_putRF (v := some 100) dX3_init_12 fl_3_10 rfl (fun C T N h => (congrArg Prod.fst (Option.some.inj h)).symm) rfl (by decide) rfl ?_
  have w3 := bm_wf_sR (o := 99) (f := 0) w2 (by decide : 100 < 111)
  refine bv_aload_n dX3_init_15 0 rfl ?_
  refine bv_new dX3_init_16 nw_3_16 rfl w3 (by decide) (by decide) rfl rfl ?_
  have w4 := bm_wf_z w3
  refine bv_dup dX3_init_19 rfl ?_
  refine bv_aload_n dX3_init_20 0 rfl ?_
  refine bv_getA (a := 100) dX3_init_21 fl_3_10 rfl (by decide) rfl rfl ?_
  refine bv_callI (As := [.ref 100]) (b := 111) (n2 := 118) dX3_init_24 mci_3_18 (k_X8_111 (d := d + 0) w4) rfl rfl (Nat.le_of_ble_eq_true rfl) (by decide) (by decide) rfl rfl ?_
  have w5 := wk_X8_111 w4
  refine bv_putRF (v := some 111) dX3_init_27 fl_3_21 rfl (fun C T N h => (congrArg Prod.fst (Option.some.inj h)).symm) rfl (by decide) rfl ?_
  have w6 := bm_wf_sR (o := 99) (f := 1) w5 (by decide : 111 < 118)
  refine bv_aload_n dX3_init_30 0 rfl ?_
  refine bv_new dX3_init_31 nw_3_25 rfl w6 (by decide) (by decide) rfl rfl ?_
  have w7 := bm_wf_z w6
  refine bv_dup dX3_init_34 rfl ?_
  refine bv_callIN (As := []) (b := 118) (n2 := 123) dX3_init_35 mci_3_27 (k_X7_118 (d := d + 0) w7) rfl rfl (Nat.le_of_ble_eq_true rfl) (by decide) (by decide) rfl rfl ?_
  have w8 := wk_X7_118 w7
  refine bv_putRF (v := some 118) dX3_init_38 fl_3_28 rfl (fun C T N h => (congrArg Prod.fst (Option.some.inj h)).symm) rfl (by decide) rfl ?_
  have w9 := bm_wf_sR (o := 99) (f := 2) w8 (by decide : 118 < 123)
  exact bv_vret dX3_init_41 rfl ⟨rfl, rfl⟩
def i_X0_124 (M : bm_M) : bm_M := (bm_sI (bm_sI (bm_sR (bm_z (bm_sR (bm_z (bm_sR (bm_z (bm_sR (bm_z (bm_sR (bm_z (bm_sR (bm_z (bm_sR (bm_z (bm_sR (bm_z (bm_sR (bm_z (bm_sR (bm_z M 125) 124 0 (some 125)) 126) 124 1 (some 126)) 127) 124 2 (some 127)) 128) 124 3 (some 128)) 129) 124 4 (some 129)) 130) 124 5 (some 130)) 131) 124 6 (some 131)) 132) 124 7 (some 132)) 133) 124 8 (some 133)) 134) 124 9 (some 134)) 124 15 2) 124 16 6)
theorem wk_X0_124 {M : bm_M} (w0 : bm_wf 125 M) : bm_wf 135 (i_X0_124 M) := by
  have w1 := bm_wf_z w0
  have w2 := bm_wf_sR (o := 124) (f := 0) w1 (by decide : 125 < 126)
  have w3 := bm_wf_z w2
  have w4 := bm_wf_sR (o := 124) (f := 1) w3 (by decide : 126 < 127)
  have w5 := bm_wf_z w4
  have w6 := bm_wf_sR (o := 124) (f := 2) w5 (by decide : 127 < 128)
  have w7 := bm_wf_z w6
  have w8 := bm_wf_sR (o := 124) (f := 3) w7 (by decide : 128 < 129)
  have w9 := bm_wf_z w8
  have w10 := bm_wf_sR (o := 124) (f := 4) w9 (by decide : 129 < 130)
  have w11 := bm_wf_z w10
  have w12 := bm_wf_sR (o := 124) (f := 5) w11 (by decide : 130 < 131)
  have w13 := bm_wf_z w12
  have w14 := bm_wf_sR (o := 124) (f := 6) w13 (by decide : 131 < 132)
  have w15 := bm_wf_z w14
  have w16 := bm_wf_sR (o := 124) (f := 7) w15 (by decide : 132 < 133)
  have w17 := bm_wf_z w16
  have w18 := bm_wf_sR (o := 124) (f := 8) w17 (by decide : 133 < 134)
  have w19 := bm_wf_z w18
  have w20 := bm_wf_sR (o := 124) (f := 9) w19 (by decide : 134 < 135)
  exact w20
set_option maxHeartbeats 4000000 in
set_option maxRecDepth 100000 in
theorem k_X0_124 {L : bm_L} {d : Nat} {M : bm_M} (w0 : bm_wf 125 M) : bm_C L m_X0_init (d + 1) 125 135 [.ref 124] M (fun r M' => r = none ∧ M' = i_X0_124 M) := by
  refine bm_C.ofV (by decide) (Nat.le_of_ble_eq_true rfl) ?_
  show bm_V L m_X0_init (d + 1) 125 135 125 0 [(0, .ref 124)] [] M _
  refine bv_aload_n dX0_init_0 0 rfl ?_
  refine bv_oini dX0_init_1 mwo_0_3 (by decide) ?_
  refine bv_aload_n dX0_init_4 0 rfl ?_
  refine bv_bipush (v := 8) dX0_init_5 (by decide) ?_
  refine bv_newa2 dX0_init_7 rfl (by decide) (by decide) (by decide) w0 (by decide) (by decide) rfl rfl ?_
  have w1 := bm_wf_z w0
  refine bv_putRF (v := some 125) dX0_init_9 fl_0_9 rfl (fun C T N h => (congrArg Prod.fst (Option.some.inj h)).symm) rfl (by decide) rfl ?_
  have w2 := bm_wf_sR (o := 124) (f := 0) w1 (by decide : 125 < 126)
  refine bv_aload_n dX0_init_12 0 rfl ?_
  refine bv_bipush (v := 8) dX0_init_13 (by decide) ?_
  refine bv_newa0 dX0_init_15 rfl (by decide) (by decide) (by decide) w2 (by decide) (by decide) rfl rfl ?_
  have w3 := bm_wf_z w2
  refine bv_putRF (v := some 126) dX0_init_17 fl_0_15 rfl (fun C T N h => (congrArg Prod.fst (Option.some.inj h)).symm) rfl (by decide) rfl ?_
  have w4 := bm_wf_sR (o := 124) (f := 1) w3 (by decide : 126 < 127)
  refine bv_aload_n dX0_init_20 0 rfl ?_
  refine bv_bipush (v := 8) dX0_init_21 (by decide) ?_
  refine bv_newa0 dX0_init_23 rfl (by decide) (by decide) (by decide) w4 (by decide) (by decide) rfl rfl ?_
  have w5 := bm_wf_z w4
  refine bv_putRF (v := some 127) dX0_init_25 fl_0_19 rfl (fun C T N h => (congrArg Prod.fst (Option.some.inj h)).symm) rfl (by decide) rfl ?_
  have w6 := bm_wf_sR (o := 124) (f := 2) w5 (by decide : 127 < 128)
  refine bv_aload_n dX0_init_28 0 rfl ?_
  refine bv_bipush (v := 8) dX0_init_29 (by decide) ?_
  refine bv_newa0 dX0_init_31 rfl (by decide) (by decide) (by decide) w6 (by decide) (by decide) rfl rfl ?_
  have w7 := bm_wf_z w6
  refine bv_putRF (v := some 128) dX0_init_33 fl_0_22 rfl (fun C T N h => (congrArg Prod.fst (Option.some.inj h)).symm) rfl (by decide) rfl ?_
  have w8 := bm_wf_sR (o := 124) (f := 3) w7 (by decide : 128 < 129)
  refine bv_aload_n dX0_init_36 0 rfl ?_
  refine bv_bipush (v := 8) dX0_init_37 (by decide) ?_
  refine bv_newa0 dX0_init_39 rfl (by decide) (by decide) (by decide) w8 (by decide) (by decide) rfl rfl ?_
  have w9 := bm_wf_z w8
  refine bv_putRF (v := some 129) dX0_init_41 fl_0_25 rfl (fun C T N h => (congrArg Prod.fst (Option.some.inj h)).symm) rfl (by decide) rfl ?_
  have w10 := bm_wf_sR (o := 124) (f := 4) w9 (by decide : 129 < 130)
  refine bv_aload_n dX0_init_44 0 rfl ?_
  refine bv_bipush (v := 7) dX0_init_45 (by decide) ?_
  refine bv_newa2 dX0_init_47 rfl (by decide) (by decide) (by decide) w10 (by decide) (by decide) rfl rfl ?_
  have w11 := bm_wf_z w10
  refine bv_putRF (v := some 130) dX0_init_49 fl_0_28 rfl (fun C T N h => (congrArg Prod.fst (Option.some.inj h)).symm) rfl (by decide) rfl ?_
  have w12 := bm_wf_sR (o := 124) (f := 5) w11 (by decide : 130 < 131)
  refine bv_aload_n dX0_init_52 0 rfl ?_
  refine bv_bipush (v := 7) dX0_init_53 (by decide) ?_
  refine bv_newa0 dX0_init_55 rfl (by decide) (by decide) (by decide) w12 (by decide) (by decide) rfl rfl ?_
  have w13 := bm_wf_z w12
  refine bv_putRF (v := some 131) dX0_init_57 fl_0_31 rfl (fun C T N h => (congrArg Prod.fst (Option.some.inj h)).symm) rfl (by decide) rfl ?_
  have w14 := bm_wf_sR (o := 124) (f := 6) w13 (by decide : 131 < 132)
  refine bv_aload_n dX0_init_60 0 rfl ?_
  refine bv_bipush (v := 7) dX0_init_61 (by decide) ?_
  refine bv_newa0 dX0_init_63 rfl (by decide) (by decide) (by decide) w14 (by decide) (by decide) rfl rfl ?_
  have w15 := bm_wf_z w14
  refine bv_putRF (v := some 132) dX0_init_65 fl_0_34 rfl (fun C T N h => (congrArg Prod.fst (Option.some.inj h)).symm) rfl (by decide) rfl ?_
  have w16 := bm_wf_sR (o := 124) (f := 7) w15 (by decide : 132 < 133)
  refine bv_aload_n dX0_init_68 0 rfl ?_
  refine bv_iconst (v := 4) dX0_init_69 (by decide) ?_
  refine bv_newa0 dX0_init_70 rfl (by decide) (by decide) (by decide) w16 (by decide) (by decide) rfl rfl ?_
  have w17 := bm_wf_z w16
  refine bv_putRF (v := some 133) dX0_init_72 fl_0_37 rfl (fun C T N h => (congrArg Prod.fst (Option.some.inj h)).symm) rfl (by decide) rfl ?_
  have w18 := bm_wf_sR (o := 124) (f := 8) w17 (by decide : 133 < 134)
  refine bv_aload_n dX0_init_75 0 rfl ?_
  refine bv_iconst (v := 4) dX0_init_76 (by decide) ?_
  refine bv_newa0 dX0_init_77 rfl (by decide) (by decide) (by decide) w18 (by decide) (by decide) rfl rfl ?_
  have w19 := bm_wf_z w18
  refine bv_putRF (v := some 134) dX0_init_79 fl_0_40 rfl (fun C T N h => (congrArg Prod.fst (Option.some.inj h)).symm) rfl (by decide) rfl ?_
  have w20 := bm_wf_sR (o := 124) (f := 9) w19 (by decide : 134 < 135)
  refine bv_aload_n dX0_init_82 0 rfl ?_
  refine bv_iconst (v := 2) dX0_init_83 (by decide) ?_
  refine bv_putI dX0_init_84 fl_0_43 rfl (by decide) rfl rfl rfl ?_
  refine bv_aload_n dX0_init_87 0 rfl ?_
  refine bv_bipush (v := 6) dX0_init_88 (by decide) ?_
  refine bv_putI dX0_init_90 fl_0_47 rfl (by decide) rfl rfl rfl ?_
  exact bv_vret dX0_init_93 rfl ⟨rfl, rfl⟩
def i_X8_135 (M : bm_M) : bm_M := (bm_sR (bm_sR (bm_z (bm_sR (bm_z (bm_sR (bm_z (bm_sR (bm_z (bm_sR (bm_z (bm_sR (bm_z M 136) 135 1 (some 136)) 137) 135 2 (some 137)) 138) 135 3 (some 138)) 139) 135 4 (some 139)) 140) 135 5 (some 140)) 141) 135 6 (some 141)) 135 0 (some 124))
theorem wk_X8_135 {M : bm_M} (w0 : bm_wf 136 M) : bm_wf 142 (i_X8_135 M) := by
  have w1 := bm_wf_z w0
  have w2 := bm_wf_sR (o := 135) (f := 1) w1 (by decide : 136 < 137)
  have w3 := bm_wf_z w2
  have w4 := bm_wf_sR (o := 135) (f := 2) w3 (by decide : 137 < 138)
  have w5 := bm_wf_z w4
  have w6 := bm_wf_sR (o := 135) (f := 3) w5 (by decide : 138 < 139)
  have w7 := bm_wf_z w6
  have w8 := bm_wf_sR (o := 135) (f := 4) w7 (by decide : 139 < 140)
  have w9 := bm_wf_z w8
  have w10 := bm_wf_sR (o := 135) (f := 5) w9 (by decide : 140 < 141)
  have w11 := bm_wf_z w10
  have w12 := bm_wf_sR (o := 135) (f := 6) w11 (by decide : 141 < 142)
  have w13 := bm_wf_sR (o := 135) (f := 0) w12 (by decide : 124 < 142)
  exact w13
set_option maxHeartbeats 4000000 in
set_option maxRecDepth 100000 in
theorem k_X8_135 {L : bm_L} {d : Nat} {M : bm_M} (w0 : bm_wf 136 M) : bm_C L m_X8_init (d + 1) 136 142 [.ref 135, .ref 124] M (fun r M' => r = none ∧ M' = i_X8_135 M) := by
  refine bm_C.ofV (by decide) (Nat.le_of_ble_eq_true rfl) ?_
  show bm_V L m_X8_init (d + 1) 136 142 136 0 [(0, .ref 135), (1, .ref 124)] [] M _
  refine bv_aload_n dX8_init_0 0 rfl ?_
  refine bv_oini dX8_init_1 mwo_8_3 (by decide) ?_
  refine bv_aload_n dX8_init_4 0 rfl ?_
  refine bv_bipush (v := 8) dX8_init_5 (by decide) ?_
  refine bv_newa0 dX8_init_7 rfl (by decide) (by decide) (by decide) w0 (by decide) (by decide) rfl rfl ?_
  have w1 := bm_wf_z w0
  refine bv_putRF (v := some 136) dX8_init_9 fl_8_9 rfl (fun C T N h => (congrArg Prod.fst (Option.some.inj h)).symm) rfl (by decide) rfl ?_
  have w2 := bm_wf_sR (o := 135) (f := 1) w1 (by decide : 136 < 137)
  refine bv_aload_n dX8_init_12 0 rfl ?_
  refine bv_bipush (v := 8) dX8_init_13 (by decide) ?_
  refine bv_newa0 dX8_init_15 rfl (by decide) (by decide) (by decide) w2 (by decide) (by decide) rfl rfl ?_
  have w3 := bm_wf_z w2
  refine bv_putRF (v := some 137) dX8_init_17 fl_8_15 rfl (fun C T N h => (congrArg Prod.fst (Option.some.inj h)).symm) rfl (by decide) rfl ?_
  have w4 := bm_wf_sR (o := 135) (f := 2) w3 (by decide : 137 < 138)
  refine bv_aload_n dX8_init_20 0 rfl ?_
  refine bv_bipush (v := 8) dX8_init_21 (by decide) ?_
  refine bv_newa0 dX8_init_23 rfl (by decide) (by decide) (by decide) w4 (by decide) (by decide) rfl rfl ?_
  have w5 := bm_wf_z w4
  refine bv_putRF (v := some 138) dX8_init_25 fl_8_18 rfl (fun C T N h => (congrArg Prod.fst (Option.some.inj h)).symm) rfl (by decide) rfl ?_
  have w6 := bm_wf_sR (o := 135) (f := 3) w5 (by decide : 138 < 139)
  refine bv_aload_n dX8_init_28 0 rfl ?_
  refine bv_bipush (v := 8) dX8_init_29 (by decide) ?_
  refine bv_newa0 dX8_init_31 rfl (by decide) (by decide) (by decide) w6 (by decide) (by decide) rfl rfl ?_
  have w7 := bm_wf_z w6
  refine bv_putRF (v := some 139) dX8_init_33 fl_8_21 rfl (fun C T N h => (congrArg Prod.fst (Option.some.inj h)).symm) rfl (by decide) rfl ?_
  have w8 := bm_wf_sR (o := 135) (f := 4) w7 (by decide : 139 < 140)
  refine bv_aload_n dX8_init_36 0 rfl ?_
  refine bv_bipush (v := 8) dX8_init_37 (by decide) ?_
  refine bv_newa0 dX8_init_39 rfl (by decide) (by decide) (by decide) w8 (by decide) (by decide) rfl rfl ?_
  have w9 := bm_wf_z w8
  refine bv_putRF (v := some 140) dX8_init_41 fl_8_24 rfl (fun C T N h => (congrArg Prod.fst (Option.some.inj h)).symm) rfl (by decide) rfl ?_
  have w10 := bm_wf_sR (o := 135) (f := 5) w9 (by decide : 140 < 141)
  refine bv_aload_n dX8_init_44 0 rfl ?_
  refine bv_bipush (v := 8) dX8_init_45 (by decide) ?_
  refine bv_newa0 dX8_init_47 rfl (by decide) (by decide) (by decide) w10 (by decide) (by decide) rfl rfl ?_
  have w11 := bm_wf_z w10
  refine bv_putRF (v := some 141) dX8_init_49 fl_8_27 rfl (fun C T N h => (congrArg Prod.fst (Option.some.inj h)).symm) rfl (by decide) rfl ?_
  have w12 := bm_wf_sR (o := 135) (f := 6) w11 (by decide : 141 < 142)
  refine bv_aload_n dX8_init_52 0 rfl ?_
  refine bv_aload_n dX8_init_53 1 rfl ?_
  refine bv_putRF (v := some 124) dX8_init_54 fl_8_30 rfl (fun C T N h => (congrArg Prod.fst (Option.some.inj h)).symm) rfl (by decide) rfl ?_
  have w13 := bm_wf_sR (o := 135) (f := 0) w12 (by decide : 124 < 142)
  exact bv_vret dX8_init_57 rfl ⟨rfl, rfl⟩
def i_X7_142 (M : bm_M) : bm_M := (bm_sR (bm_z (bm_sR (bm_z (bm_sR (bm_z (bm_sR (bm_z M 143) 142 0 (some 143)) 144) 142 1 (some 144)) 145) 142 2 (some 145)) 146) 142 3 (some 146))
theorem wk_X7_142 {M : bm_M} (w0 : bm_wf 143 M) : bm_wf 147 (i_X7_142 M) := by
  have w1 := bm_wf_z w0
  have w2 := bm_wf_sR (o := 142) (f := 0) w1 (by decide : 143 < 144)
  have w3 := bm_wf_z w2
  have w4 := bm_wf_sR (o := 142) (f := 1) w3 (by decide : 144 < 145)
  have w5 := bm_wf_z w4
  have w6 := bm_wf_sR (o := 142) (f := 2) w5 (by decide : 145 < 146)
  have w7 := bm_wf_z w6
  have w8 := bm_wf_sR (o := 142) (f := 3) w7 (by decide : 146 < 147)
  exact w8
set_option maxHeartbeats 4000000 in
set_option maxRecDepth 100000 in
theorem k_X7_142 {L : bm_L} {d : Nat} {M : bm_M} (w0 : bm_wf 143 M) : bm_C L m_X7_init (d + 1) 143 147 [.ref 142] M (fun r M' => r = none ∧ M' = i_X7_142 M) := by
  refine bm_C.ofV (by decide) (Nat.le_of_ble_eq_true rfl) ?_
  show bm_V L m_X7_init (d + 1) 143 147 143 0 [(0, .ref 142)] [] M _
  refine bv_aload_n dX7_init_0 0 rfl ?_
  refine bv_oini dX7_init_1 mwo_7_3 (by decide) ?_
  refine bv_aload_n dX7_init_4 0 rfl ?_
  refine bv_bipush (v := 40) dX7_init_5 (by decide) ?_
  refine bv_newq (t := 4) (C := "BrowArmy$Word") dX7_init_7 ck_7_9 (List.mem_of_getElem? (i := 0) rfl) rfl (by decide) (by decide) rfl (by decide) (by decide) (by decide) w0 (by decide) (by decide) rfl rfl ?_
  have w1 := bm_wf_z w0
  refine bv_putRF (v := some 143) dX7_init_10 fl_7_11 rfl (fun C T N h => (congrArg Prod.fst (Option.some.inj h)).symm) rfl (by decide) rfl ?_
  have w2 := bm_wf_sR (o := 142) (f := 0) w1 (by decide : 143 < 144)
  refine bv_aload_n dX7_init_13 0 rfl ?_
  refine bv_bipush (v := 40) dX7_init_14 (by decide) ?_
  refine bv_newa0 dX7_init_16 rfl (by decide) (by decide) (by decide) w2 (by decide) (by decide) rfl rfl ?_
  have w3 := bm_wf_z w2
  refine bv_putRF (v := some 144) dX7_init_18 fl_7_17 rfl (fun C T N h => (congrArg Prod.fst (Option.some.inj h)).symm) rfl (by decide) rfl ?_
  have w4 := bm_wf_sR (o := 142) (f := 1) w3 (by decide : 144 < 145)
  refine bv_aload_n dX7_init_21 0 rfl ?_
  refine bv_bipush (v := 40) dX7_init_22 (by decide) ?_
  refine bv_newa0 dX7_init_24 rfl (by decide) (by decide) (by decide) w4 (by decide) (by decide) rfl rfl ?_
  have w5 := bm_wf_z w4
  refine bv_putRF (v := some 145) dX7_init_26 fl_7_21 rfl (fun C T N h => (congrArg Prod.fst (Option.some.inj h)).symm) rfl (by decide) rfl ?_
  have w6 := bm_wf_sR (o := 142) (f := 2) w5 (by decide : 145 < 146)
  refine bv_aload_n dX7_init_29 0 rfl ?_
  refine bv_bipush (v := 40) dX7_init_30 (by decide) ?_
  refine bv_newa0 dX7_init_32 rfl (by decide) (by decide) (by decide) w6 (by decide) (by decide) rfl rfl ?_
  have w7 := bm_wf_z w6
  refine bv_putRF (v := some 146) dX7_init_34 fl_7_24 rfl (fun C T N h => (congrArg Prod.fst (Option.some.inj h)).symm) rfl (by decide) rfl ?_
  have w8 := bm_wf_sR (o := 142) (f := 3) w7 (by decide : 146 < 147)
  exact bv_vret dX7_init_37 rfl ⟨rfl, rfl⟩
def i_X3_123 (M : bm_M) : bm_M := (bm_sR (i_X7_142 (bm_z (bm_sR (i_X8_135 (bm_z (bm_sR (i_X0_124 (bm_z M 124)) 123 0 (some 124)) 135)) 123 1 (some 135)) 142)) 123 2 (some 142))
theorem wk_X3_123 {M : bm_M} (w0 : bm_wf 124 M) : bm_wf 147 (i_X3_123 M) := by
  have w1 := bm_wf_z w0
  have w2 := wk_X0_124 w1
  have w3 := bm_wf_sR (o := 123) (f := 0) w2 (by decide : 124 < 135)
  have w4 := bm_wf_z w3
  have w5 := wk_X8_135 w4
  have w6 := bm_wf_sR (o := 123) (f := 1) w5 (by decide : 135 < 142)
  have w7 := bm_wf_z w6
  have w8 := wk_X7_142 w7
  have w9 := bm_wf_sR (o := 123) (f := 2) w8 (by decide : 142 < 147)
  exact w9
set_option maxHeartbeats 4000000 in
set_option maxRecDepth 100000 in
theorem k_X3_123 {L : bm_L} {d : Nat} {M : bm_M} (w0 : bm_wf 124 M) : bm_C L m_X3_init (d + 2) 124 147 [.ref 123] M (fun r M' => r = none ∧ M' = i_X3_123 M) := by
  refine bm_C.ofV (by decide) (Nat.le_of_ble_eq_true rfl) ?_
  show bm_V L m_X3_init (d + 2) 124 147 124 0 [(0, .ref 123)] [] M _
  refine bv_aload_n dX3_init_0 0 rfl ?_
  refine bv_oini dX3_init_1 mwo_3_1 (by decide) ?_
  refine bv_aload_n dX3_init_4 0 rfl ?_
  refine bv_new dX3_init_5 nw_3_7 rfl w0 (by decide) (by decide) rfl rfl ?_
  have w1 := bm_wf_z w0
  refine bv_dup dX3_init_8 rfl ?_
  refine bv_callIN (As := []) (b := 124) (n2 := 135) dX3_init_9 mci_3_9 (k_X0_124 (d := d + 0) w1) rfl rfl (Nat.le_of_ble_eq_true rfl) (by decide) (by decide) rfl rfl ?_
  have w2 := wk_X0_124 w1
  refine bv_putRF (v := some 124) dX3_init_12 fl_3_10 rfl (fun C T N h => (congrArg Prod.fst (Option.some.inj h)).symm) rfl (by decide) rfl ?_
  have w3 := bm_wf_sR (o := 123) (f := 0) w2 (by decide : 124 < 135)
  refine bv_aload_n dX3_init_15 0 rfl ?_
  refine bv_new dX3_init_16 nw_3_16 rfl w3 (by decide) (by decide) rfl rfl ?_
  have w4 := bm_wf_z w3
  refine bv_dup dX3_init_19 rfl ?_
  refine bv_aload_n dX3_init_20 0 rfl ?_
  refine bv_getA (a := 124) dX3_init_21 fl_3_10 rfl (by decide) rfl rfl ?_
  refine bv_callI (As := [.ref 124]) (b := 135) (n2 := 142) dX3_init_24 mci_3_18 (k_X8_135 (d := d + 0) w4) rfl rfl (Nat.le_of_ble_eq_true rfl) (by decide) (by decide) rfl rfl ?_
  have w5 := wk_X8_135 w4
  refine bv_putRF (v := some 135) dX3_init_27 fl_3_21 rfl (fun C T N h => (congrArg Prod.fst (Option.some.inj h)).symm) rfl (by decide) rfl ?_
  have w6 := bm_wf_sR (o := 123) (f := 1) w5 (by decide : 135 < 142)
  refine bv_aload_n dX3_init_30 0 rfl ?_
  refine bv_new dX3_init_31 nw_3_25 rfl w6 (by decide) (by decide) rfl rfl ?_
  have w7 := bm_wf_z w6
  refine bv_dup dX3_init_34 rfl ?_
  refine bv_callIN (As := []) (b := 142) (n2 := 147) dX3_init_35 mci_3_27 (k_X7_142 (d := d + 0) w7) rfl rfl (Nat.le_of_ble_eq_true rfl) (by decide) (by decide) rfl rfl ?_
  have w8 := wk_X7_142 w7
  refine bv_putRF (v := some 142) dX3_init_38 fl_3_28 rfl (fun C T N h => (congrArg Prod.fst (Option.some.inj h)).symm) rfl (by decide) rfl ?_
  have w9 := bm_wf_sR (o := 123) (f := 2) w8 (by decide : 142 < 147)
  exact bv_vret dX3_init_41 rfl ⟨rfl, rfl⟩
def i_X1_147 (M : bm_M) : bm_M := (bm_sI (bm_sI (bm_sI (bm_sI (bm_sR (bm_z (bm_sR (bm_z (bm_sR (bm_z M 148) 147 0 (some 148)) 149) 147 1 (some 149)) 150) 147 2 (some 150)) 147 4 (-1)) 147 5 (-1)) 147 6 (-1)) 147 7 (-1))
theorem wk_X1_147 {M : bm_M} (w0 : bm_wf 148 M) : bm_wf 151 (i_X1_147 M) := by
  have w1 := bm_wf_z w0
  have w2 := bm_wf_sR (o := 147) (f := 0) w1 (by decide : 148 < 149)
  have w3 := bm_wf_z w2
  have w4 := bm_wf_sR (o := 147) (f := 1) w3 (by decide : 149 < 150)
  have w5 := bm_wf_z w4
  have w6 := bm_wf_sR (o := 147) (f := 2) w5 (by decide : 150 < 151)
  exact w6
set_option maxHeartbeats 4000000 in
set_option maxRecDepth 100000 in
theorem k_X1_147 {L : bm_L} {d : Nat} {M : bm_M} (w0 : bm_wf 148 M) : bm_C L m_X1_init (d + 1) 148 151 [.ref 147] M (fun r M' => r = none ∧ M' = i_X1_147 M) := by
  refine bm_C.ofV (by decide) (Nat.le_of_ble_eq_true rfl) ?_
  show bm_V L m_X1_init (d + 1) 148 151 148 0 [(0, .ref 147)] [] M _
  refine bv_aload_n dX1_init_0 0 rfl ?_
  refine bv_oini dX1_init_1 mwo_1_3 (by decide) ?_
  refine bv_aload_n dX1_init_4 0 rfl ?_
  refine bv_bipush (v := 40) dX1_init_5 (by decide) ?_
  refine bv_newa0 dX1_init_7 rfl (by decide) (by decide) (by decide) w0 (by decide) (by decide) rfl rfl ?_
  have w1 := bm_wf_z w0
  refine bv_putRF (v := some 148) dX1_init_9 fl_1_9 rfl (fun C T N h => (congrArg Prod.fst (Option.some.inj h)).symm) rfl (by decide) rfl ?_
  have w2 := bm_wf_sR (o := 147) (f := 0) w1 (by decide : 148 < 149)
  refine bv_aload_n dX1_init_12 0 rfl ?_
  refine bv_bipush (v := 40) dX1_init_13 (by decide) ?_
  refine bv_newa0 dX1_init_15 rfl (by decide) (by decide) (by decide) w2 (by decide) (by decide) rfl rfl ?_
  have w3 := bm_wf_z w2
  refine bv_putRF (v := some 149) dX1_init_17 fl_1_15 rfl (fun C T N h => (congrArg Prod.fst (Option.some.inj h)).symm) rfl (by decide) rfl ?_
  have w4 := bm_wf_sR (o := 147) (f := 1) w3 (by decide : 149 < 150)
  refine bv_aload_n dX1_init_20 0 rfl ?_
  refine bv_bipush (v := 40) dX1_init_21 (by decide) ?_
  refine bv_newa0 dX1_init_23 rfl (by decide) (by decide) (by decide) w4 (by decide) (by decide) rfl rfl ?_
  have w5 := bm_wf_z w4
  refine bv_putRF (v := some 150) dX1_init_25 fl_1_18 rfl (fun C T N h => (congrArg Prod.fst (Option.some.inj h)).symm) rfl (by decide) rfl ?_
  have w6 := bm_wf_sR (o := 147) (f := 2) w5 (by decide : 150 < 151)
  refine bv_aload_n dX1_init_28 0 rfl ?_
  refine bv_iconst (v := (-1)) dX1_init_29 (by decide) ?_
  refine bv_putI dX1_init_30 fl_1_21 rfl (by decide) rfl rfl rfl ?_
  refine bv_aload_n dX1_init_33 0 rfl ?_
  refine bv_iconst (v := (-1)) dX1_init_34 (by decide) ?_
  refine bv_putI dX1_init_35 fl_1_25 rfl (by decide) rfl rfl rfl ?_
  refine bv_aload_n dX1_init_38 0 rfl ?_
  refine bv_iconst (v := (-1)) dX1_init_39 (by decide) ?_
  refine bv_putI dX1_init_40 fl_1_28 rfl (by decide) rfl rfl rfl ?_
  refine bv_aload_n dX1_init_43 0 rfl ?_
  refine bv_iconst (v := (-1)) dX1_init_44 (by decide) ?_
  refine bv_putI dX1_init_45 fl_1_31 rfl (by decide) rfl rfl rfl ?_
  exact bv_vret dX1_init_48 rfl ⟨rfl, rfl⟩
def i_X7_151 (M : bm_M) : bm_M := (bm_sR (bm_z (bm_sR (bm_z (bm_sR (bm_z (bm_sR (bm_z M 152) 151 0 (some 152)) 153) 151 1 (some 153)) 154) 151 2 (some 154)) 155) 151 3 (some 155))
theorem wk_X7_151 {M : bm_M} (w0 : bm_wf 152 M) : bm_wf 156 (i_X7_151 M) := by
  have w1 := bm_wf_z w0
  have w2 := bm_wf_sR (o := 151) (f := 0) w1 (by decide : 152 < 153)
  have w3 := bm_wf_z w2
  have w4 := bm_wf_sR (o := 151) (f := 1) w3 (by decide : 153 < 154)
  have w5 := bm_wf_z w4
  have w6 := bm_wf_sR (o := 151) (f := 2) w5 (by decide : 154 < 155)
  have w7 := bm_wf_z w6
  have w8 := bm_wf_sR (o := 151) (f := 3) w7 (by decide : 155 < 156)
  exact w8
set_option maxHeartbeats 4000000 in
set_option maxRecDepth 100000 in
theorem k_X7_151 {L : bm_L} {d : Nat} {M : bm_M} (w0 : bm_wf 152 M) : bm_C L m_X7_init (d + 1) 152 156 [.ref 151] M (fun r M' => r = none ∧ M' = i_X7_151 M) := by
  refine bm_C.ofV (by decide) (Nat.le_of_ble_eq_true rfl) ?_
  show bm_V L m_X7_init (d + 1) 152 156 152 0 [(0, .ref 151)] [] M _
  refine bv_aload_n dX7_init_0 0 rfl ?_
  refine bv_oini dX7_init_1 mwo_7_3 (by decide) ?_
  refine bv_aload_n dX7_init_4 0 rfl ?_
  refine bv_bipush (v := 40) dX7_init_5 (by decide) ?_
  refine bv_newq (t := 4) (C := "BrowArmy$Word") dX7_init_7 ck_7_9 (List.mem_of_getElem? (i := 0) rfl) rfl (by decide) (by decide) rfl (by decide) (by decide) (by decide) w0 (by decide) (by decide) rfl rfl ?_
  have w1 := bm_wf_z w0
  refine bv_putRF (v := some 152) dX7_init_10 fl_7_11 rfl (fun C T N h => (congrArg Prod.fst (Option.some.inj h)).symm) rfl (by decide) rfl ?_
  have w2 := bm_wf_sR (o := 151) (f := 0) w1 (by decide : 152 < 153)
  refine bv_aload_n dX7_init_13 0 rfl ?_
  refine bv_bipush (v := 40) dX7_init_14 (by decide) ?_
  refine bv_newa0 dX7_init_16 rfl (by decide) (by decide) (by decide) w2 (by decide) (by decide) rfl rfl ?_
  have w3 := bm_wf_z w2
  refine bv_putRF (v := some 153) dX7_init_18 fl_7_17 rfl (fun C T N h => (congrArg Prod.fst (Option.some.inj h)).symm) rfl (by decide) rfl ?_
  have w4 := bm_wf_sR (o := 151) (f := 1) w3 (by decide : 153 < 154)
  refine bv_aload_n dX7_init_21 0 rfl ?_
  refine bv_bipush (v := 40) dX7_init_22 (by decide) ?_
  refine bv_newa0 dX7_init_24 rfl (by decide) (by decide) (by decide) w4 (by decide) (by decide) rfl rfl ?_
  have w5 := bm_wf_z w4
  refine bv_putRF (v := some 154) dX7_init_26 fl_7_21 rfl (fun C T N h => (congrArg Prod.fst (Option.some.inj h)).symm) rfl (by decide) rfl ?_
  have w6 := bm_wf_sR (o := 151) (f := 2) w5 (by decide : 154 < 155)
  refine bv_aload_n dX7_init_29 0 rfl ?_
  refine bv_bipush (v := 40) dX7_init_30 (by decide) ?_
  refine bv_newa0 dX7_init_32 rfl (by decide) (by decide) (by decide) w6 (by decide) (by decide) rfl rfl ?_
  have w7 := bm_wf_z w6
  refine bv_putRF (v := some 155) dX7_init_34 fl_7_24 rfl (fun C T N h => (congrArg Prod.fst (Option.some.inj h)).symm) rfl (by decide) rfl ?_
  have w8 := bm_wf_sR (o := 151) (f := 3) w7 (by decide : 155 < 156)
  exact bv_vret dX7_init_37 rfl ⟨rfl, rfl⟩
def i_X7_156 (M : bm_M) : bm_M := (bm_sR (bm_z (bm_sR (bm_z (bm_sR (bm_z (bm_sR (bm_z M 157) 156 0 (some 157)) 158) 156 1 (some 158)) 159) 156 2 (some 159)) 160) 156 3 (some 160))
theorem wk_X7_156 {M : bm_M} (w0 : bm_wf 157 M) : bm_wf 161 (i_X7_156 M) := by
  have w1 := bm_wf_z w0
  have w2 := bm_wf_sR (o := 156) (f := 0) w1 (by decide : 157 < 158)
  have w3 := bm_wf_z w2
  have w4 := bm_wf_sR (o := 156) (f := 1) w3 (by decide : 158 < 159)
  have w5 := bm_wf_z w4
  have w6 := bm_wf_sR (o := 156) (f := 2) w5 (by decide : 159 < 160)
  have w7 := bm_wf_z w6
  have w8 := bm_wf_sR (o := 156) (f := 3) w7 (by decide : 160 < 161)
  exact w8
set_option maxHeartbeats 4000000 in
set_option maxRecDepth 100000 in
theorem k_X7_156 {L : bm_L} {d : Nat} {M : bm_M} (w0 : bm_wf 157 M) : bm_C L m_X7_init (d + 1) 157 161 [.ref 156] M (fun r M' => r = none ∧ M' = i_X7_156 M) := by
  refine bm_C.ofV (by decide) (Nat.le_of_ble_eq_true rfl) ?_
  show bm_V L m_X7_init (d + 1) 157 161 157 0 [(0, .ref 156)] [] M _
  refine bv_aload_n dX7_init_0 0 rfl ?_
  refine bv_oini dX7_init_1 mwo_7_3 (by decide) ?_
  refine bv_aload_n dX7_init_4 0 rfl ?_
  refine bv_bipush (v := 40) dX7_init_5 (by decide) ?_
  refine bv_newq (t := 4) (C := "BrowArmy$Word") dX7_init_7 ck_7_9 (List.mem_of_getElem? (i := 0) rfl) rfl (by decide) (by decide) rfl (by decide) (by decide) (by decide) w0 (by decide) (by decide) rfl rfl ?_
  have w1 := bm_wf_z w0
  refine bv_putRF (v := some 157) dX7_init_10 fl_7_11 rfl (fun C T N h => (congrArg Prod.fst (Option.some.inj h)).symm) rfl (by decide) rfl ?_
  have w2 := bm_wf_sR (o := 156) (f := 0) w1 (by decide : 157 < 158)
  refine bv_aload_n dX7_init_13 0 rfl ?_
  refine bv_bipush (v := 40) dX7_init_14 (by decide) ?_
  refine bv_newa0 dX7_init_16 rfl (by decide) (by decide) (by decide) w2 (by decide) (by decide) rfl rfl ?_
  have w3 := bm_wf_z w2
  refine bv_putRF (v := some 158) dX7_init_18 fl_7_17 rfl (fun C T N h => (congrArg Prod.fst (Option.some.inj h)).symm) rfl (by decide) rfl ?_
  have w4 := bm_wf_sR (o := 156) (f := 1) w3 (by decide : 158 < 159)
  refine bv_aload_n dX7_init_21 0 rfl ?_
  refine bv_bipush (v := 40) dX7_init_22 (by decide) ?_
  refine bv_newa0 dX7_init_24 rfl (by decide) (by decide) (by decide) w4 (by decide) (by decide) rfl rfl ?_
  have w5 := bm_wf_z w4
  refine bv_putRF (v := some 159) dX7_init_26 fl_7_21 rfl (fun C T N h => (congrArg Prod.fst (Option.some.inj h)).symm) rfl (by decide) rfl ?_
  have w6 := bm_wf_sR (o := 156) (f := 2) w5 (by decide : 159 < 160)
  refine bv_aload_n dX7_init_29 0 rfl ?_
  refine bv_bipush (v := 40) dX7_init_30 (by decide) ?_
  refine bv_newa0 dX7_init_32 rfl (by decide) (by decide) (by decide) w6 (by decide) (by decide) rfl rfl ?_
  have w7 := bm_wf_z w6
  refine bv_putRF (v := some 160) dX7_init_34 fl_7_24 rfl (fun C T N h => (congrArg Prod.fst (Option.some.inj h)).symm) rfl (by decide) rfl ?_
  have w8 := bm_wf_sR (o := 156) (f := 3) w7 (by decide : 160 < 161)
  exact bv_vret dX7_init_37 rfl ⟨rfl, rfl⟩
def i_X2_161 (M : bm_M) : bm_M := (bm_sI (bm_sI M 161 0 (-1)) 161 1 (-1))
theorem wk_X2_161 {M : bm_M} (w0 : bm_wf 162 M) : bm_wf 162 (i_X2_161 M) := by
  exact w0
set_option maxHeartbeats 4000000 in
set_option maxRecDepth 100000 in
theorem k_X2_161 {L : bm_L} {d : Nat} {M : bm_M} (w0 : bm_wf 162 M) : bm_C L m_X2_init (d + 1) 162 162 [.ref 161] M (fun r M' => r = none ∧ M' = i_X2_161 M) := by
  refine bm_C.ofV (by decide) (Nat.le_of_ble_eq_true rfl) ?_
  show bm_V L m_X2_init (d + 1) 162 162 162 0 [(0, .ref 161)] [] M _
  refine bv_aload_n dX2_init_0 0 rfl ?_
  refine bv_oini dX2_init_1 mwo_2_3 (by decide) ?_
  refine bv_aload_n dX2_init_4 0 rfl ?_
  refine bv_iconst (v := (-1)) dX2_init_5 (by decide) ?_
  refine bv_putI dX2_init_6 fl_2_9 rfl (by decide) rfl rfl rfl ?_
  refine bv_aload_n dX2_init_9 0 rfl ?_
  refine bv_iconst (v := (-1)) dX2_init_10 (by decide) ?_
  refine bv_putI dX2_init_11 fl_2_15 rfl (by decide) rfl rfl rfl ?_
  exact bv_vret dX2_init_14 rfl ⟨rfl, rfl⟩
def i_X6_162 (M : bm_M) : bm_M := (bm_sR (bm_z M 163) 162 0 (some 163))
theorem wk_X6_162 {M : bm_M} (w0 : bm_wf 163 M) : bm_wf 164 (i_X6_162 M) := by
  have w1 := bm_wf_z w0
  have w2 := bm_wf_sR (o := 162) (f := 0) w1 (by decide : 163 < 164)
  exact w2
set_option maxHeartbeats 4000000 in
set_option maxRecDepth 100000 in
theorem k_X6_162 {L : bm_L} {d : Nat} {M : bm_M} (w0 : bm_wf 163 M) : bm_C L m_X6_init (d + 1) 163 164 [.ref 162] M (fun r M' => r = none ∧ M' = i_X6_162 M) := by
  refine bm_C.ofV (by decide) (Nat.le_of_ble_eq_true rfl) ?_
  show bm_V L m_X6_init (d + 1) 163 164 163 0 [(0, .ref 162)] [] M _
  refine bv_aload_n dX6_init_0 0 rfl ?_
  refine bv_oini dX6_init_1 mwo_6_3 (by decide) ?_
  refine bv_aload_n dX6_init_4 0 rfl ?_
  refine bv_bipush (v := 64) dX6_init_5 (by decide) ?_
  refine bv_newa0 dX6_init_7 rfl (by decide) (by decide) (by decide) w0 (by decide) (by decide) rfl rfl ?_
  have w1 := bm_wf_z w0
  refine bv_putRF (v := some 163) dX6_init_9 fl_6_9 rfl (fun C T N h => (congrArg Prod.fst (Option.some.inj h)).symm) rfl (by decide) rfl ?_
  have w2 := bm_wf_sR (o := 162) (f := 0) w1 (by decide : 163 < 164)
  exact bv_vret dX6_init_12 rfl ⟨rfl, rfl⟩
def i_X11_0 (M : bm_M) : bm_M := (bm_sI (bm_sI (bm_sI (bm_sR (i_X6_162 (bm_z (bm_sR (i_X2_161 (bm_z (bm_sR (i_X7_156 (bm_z (bm_sR (i_X7_151 (bm_z (bm_sR (i_X1_147 (bm_z (bm_sR (i_X3_123 (bm_z (bm_sR (i_X3_99 (bm_z (bm_sR (bm_z (bm_sR (i_X4_40 (bm_z (bm_sR (i_X8_33 (bm_z (bm_sR (i_X8_26 (bm_z (bm_sR (i_X0_15 (bm_z (bm_sR (i_X0_4 (bm_z (bm_sR (i_X5_3 (bm_z (bm_sR (i_X9_1 (bm_z M 1)) 0 0 (some 1)) 3)) 0 1 (some 3)) 4)) 0 2 (some 4)) 15)) 0 3 (some 15)) 26)) 0 4 (some 26)) 33)) 0 5 (some 33)) 40)) 0 6 (some 40)) 98) 0 7 (some 98)) 99)) 98 (0 : Int32).toNatClampNeg (some 99)) 123)) 98 (1 : Int32).toNatClampNeg (some 123)) 147)) 0 8 (some 147)) 151)) 0 9 (some 151)) 156)) 0 10 (some 156)) 161)) 0 11 (some 161)) 162)) 0 12 (some 162)) 0 14 (-1)) 0 15 (-1)) 0 16 (-1))
theorem wk_X11_0 {M : bm_M} (w0 : bm_wf 1 M) : bm_wf 164 (i_X11_0 M) := by
  have w1 := bm_wf_z w0
  have w2 := wk_X9_1 w1
  have w3 := bm_wf_sR (o := 0) (f := 0) w2 (by decide : 1 < 3)
  have w4 := bm_wf_z w3
  have w5 := wk_X5_3 w4
  have w6 := bm_wf_sR (o := 0) (f := 1) w5 (by decide : 3 < 4)
  have w7 := bm_wf_z w6
  have w8 := wk_X0_4 w7
  have w9 := bm_wf_sR (o := 0) (f := 2) w8 (by decide : 4 < 15)
  have w10 := bm_wf_z w9
  have w11 := wk_X0_15 w10
  have w12 := bm_wf_sR (o := 0) (f := 3) w11 (by decide : 15 < 26)
  have w13 := bm_wf_z w12
  have w14 := wk_X8_26 w13
  have w15 := bm_wf_sR (o := 0) (f := 4) w14 (by decide : 26 < 33)
  have w16 := bm_wf_z w15
  have w17 := wk_X8_33 w16
  have w18 := bm_wf_sR (o := 0) (f := 5) w17 (by decide : 33 < 40)
  have w19 := bm_wf_z w18
  have w20 := wk_X4_40 w19
  have w21 := bm_wf_sR (o := 0) (f := 6) w20 (by decide : 40 < 98)
  have w22 := bm_wf_z w21
  have w23 := bm_wf_sR (o := 0) (f := 7) w22 (by decide : 98 < 99)
  have w24 := bm_wf_z w23
  have w25 := wk_X3_99 w24
  have w26 := bm_wf_sR (o := 98) (f := (0 : Int32).toNatClampNeg) w25 (by decide : 99 < 123)
  have w27 := bm_wf_z w26
  have w28 := wk_X3_123 w27
  have w29 := bm_wf_sR (o := 98) (f := (1 : Int32).toNatClampNeg) w28 (by decide : 123 < 147)
  have w30 := bm_wf_z w29
  have w31 := wk_X1_147 w30
  have w32 := bm_wf_sR (o := 0) (f := 8) w31 (by decide : 147 < 151)
  have w33 := bm_wf_z w32
  have w34 := wk_X7_151 w33
  have w35 := bm_wf_sR (o := 0) (f := 9) w34 (by decide : 151 < 156)
  have w36 := bm_wf_z w35
  have w37 := wk_X7_156 w36
  have w38 := bm_wf_sR (o := 0) (f := 10) w37 (by decide : 156 < 161)
  have w39 := bm_wf_z w38
  have w40 := wk_X2_161 w39
  have w41 := bm_wf_sR (o := 0) (f := 11) w40 (by decide : 161 < 162)
  have w42 := bm_wf_z w41
  have w43 := wk_X6_162 w42
  have w44 := bm_wf_sR (o := 0) (f := 12) w43 (by decide : 162 < 164)
  exact w44
set_option maxHeartbeats 4000000 in
set_option maxRecDepth 100000 in
theorem k_X11_0 {L : bm_L} {d : Nat} {M : bm_M} (w0 : bm_wf 1 M) : bm_C L m_X11_init (d + 3) 1 164 [.ref 0] M (fun r M' => r = none ∧ M' = i_X11_0 M) := by
  refine bm_C.ofV (by decide) (Nat.le_of_ble_eq_true rfl) ?_
  show bm_V L m_X11_init (d + 3) 1 164 1 0 [(0, .ref 0)] [] M _
  refine bv_aload_n dX11_init_0 0 rfl ?_
  refine bv_oini dX11_init_1 mwo_11_3 (by decide) ?_
  refine bv_aload_n dX11_init_4 0 rfl ?_
  refine bv_new dX11_init_5 nw_11_9 rfl w0 (by decide) (by decide) rfl rfl ?_
  have w1 := bm_wf_z w0
  refine bv_dup dX11_init_8 rfl ?_
  refine bv_callIN (As := []) (b := 1) (n2 := 3) dX11_init_9 mci_11_11 (k_X9_1 (d := d + 1) w1) rfl rfl (Nat.le_of_ble_eq_true rfl) (by decide) (by decide) rfl rfl ?_
  have w2 := wk_X9_1 w1
  refine bv_putRF (v := some 1) dX11_init_12 fl_11_12 rfl (fun C T N h => (congrArg Prod.fst (Option.some.inj h)).symm) rfl (by decide) rfl ?_
  have w3 := bm_wf_sR (o := 0) (f := 0) w2 (by decide : 1 < 3)
  refine bv_aload_n dX11_init_15 0 rfl ?_
  refine bv_new dX11_init_16 nw_11_16 rfl w3 (by decide) (by decide) rfl rfl ?_
  have w4 := bm_wf_z w3
  refine bv_dup dX11_init_19 rfl ?_
  refine bv_aload_n dX11_init_20 0 rfl ?_
  refine bv_getA (a := 1) dX11_init_21 fl_11_12 rfl (by decide) rfl rfl ?_
  refine bv_callI (As := [.ref 1]) (b := 3) (n2 := 4) dX11_init_24 mci_11_18 (k_X5_3 (d := d + 1) w4) rfl rfl (Nat.le_of_ble_eq_true rfl) (by decide) (by decide) rfl rfl ?_
  have w5 := wk_X5_3 w4
  refine bv_putRF (v := some 3) dX11_init_27 fl_11_21 rfl (fun C T N h => (congrArg Prod.fst (Option.some.inj h)).symm) rfl (by decide) rfl ?_
  have w6 := bm_wf_sR (o := 0) (f := 1) w5 (by decide : 3 < 4)
  refine bv_aload_n dX11_init_30 0 rfl ?_
  refine bv_new dX11_init_31 nw_11_25 rfl w6 (by decide) (by decide) rfl rfl ?_
  have w7 := bm_wf_z w6
  refine bv_dup dX11_init_34 rfl ?_
  refine bv_callIN (As := []) (b := 4) (n2 := 15) dX11_init_35 mci_11_27 (k_X0_4 (d := d + 1) w7) rfl rfl (Nat.le_of_ble_eq_true rfl) (by decide) (by decide) rfl rfl ?_
  have w8 := wk_X0_4 w7
  refine bv_putRF (v := some 4) dX11_init_38 fl_11_28 rfl (fun C T N h => (congrArg Prod.fst (Option.some.inj h)).symm) rfl (by decide) rfl ?_
  have w9 := bm_wf_sR (o := 0) (f := 2) w8 (by decide : 4 < 15)
  refine bv_aload_n dX11_init_41 0 rfl ?_
  refine bv_new dX11_init_42 nw_11_25 rfl w9 (by decide) (by decide) rfl rfl ?_
  have w10 := bm_wf_z w9
  refine bv_dup dX11_init_45 rfl ?_
  refine bv_callIN (As := []) (b := 15) (n2 := 26) dX11_init_46 mci_11_27 (k_X0_15 (d := d + 1) w10) rfl rfl (Nat.le_of_ble_eq_true rfl) (by decide) (by decide) rfl rfl ?_
  have w11 := wk_X0_15 w10
  refine bv_putRF (v := some 15) dX11_init_49 fl_11_32 rfl (fun C T N h => (congrArg Prod.fst (Option.some.inj h)).symm) rfl (by decide) rfl ?_
  have w12 := bm_wf_sR (o := 0) (f := 3) w11 (by decide : 15 < 26)
  refine bv_aload_n dX11_init_52 0 rfl ?_
  refine bv_new dX11_init_53 nw_11_35 rfl w12 (by decide) (by decide) rfl rfl ?_
  have w13 := bm_wf_z w12
  refine bv_dup dX11_init_56 rfl ?_
  refine bv_aload_n dX11_init_57 0 rfl ?_
  refine bv_getA (a := 4) dX11_init_58 fl_11_28 rfl (by decide) rfl rfl ?_
  refine bv_callI (As := [.ref 4]) (b := 26) (n2 := 33) dX11_init_61 mci_11_37 (k_X8_26 (d := d + 1) w13) rfl rfl (Nat.le_of_ble_eq_true rfl) (by decide) (by decide) rfl rfl ?_
  have w14 := wk_X8_26 w13
  refine bv_putRF (v := some 26) dX11_init_64 fl_11_40 rfl (fun C T N h => (congrArg Prod.fst (Option.some.inj h)).symm) rfl (by decide) rfl ?_
  have w15 := bm_wf_sR (o := 0) (f := 4) w14 (by decide : 26 < 33)
  refine bv_aload_n dX11_init_67 0 rfl ?_
  refine bv_new dX11_init_68 nw_11_35 rfl w15 (by decide) (by decide) rfl rfl ?_
  have w16 := bm_wf_z w15
  refine bv_dup dX11_init_71 rfl ?_
  refine bv_aload_n dX11_init_72 0 rfl ?_
  refine bv_getA (a := 4) dX11_init_73 fl_11_28 rfl (by decide) rfl rfl ?_
  refine bv_callI (As := [.ref 4]) (b := 33) (n2 := 40) dX11_init_76 mci_11_37 (k_X8_33 (d := d + 1) w16) rfl rfl (Nat.le_of_ble_eq_true rfl) (by decide) (by decide) rfl rfl ?_
  have w17 := wk_X8_33 w16
  refine bv_putRF (v := some 33) dX11_init_79 fl_11_44 rfl (fun C T N h => (congrArg Prod.fst (Option.some.inj h)).symm) rfl (by decide) rfl ?_
  have w18 := bm_wf_sR (o := 0) (f := 5) w17 (by decide : 33 < 40)
  refine bv_aload_n dX11_init_82 0 rfl ?_
  refine bv_new dX11_init_83 nw_11_47 rfl w18 (by decide) (by decide) rfl rfl ?_
  have w19 := bm_wf_z w18
  refine bv_dup dX11_init_86 rfl ?_
  refine bv_aload_n dX11_init_87 0 rfl ?_
  refine bv_getA (a := 4) dX11_init_88 fl_11_28 rfl (by decide) rfl rfl ?_
  refine bv_callI (As := [.ref 4]) (b := 40) (n2 := 98) dX11_init_91 mci_11_49 (k_X4_40 (d := d + 0) w19) rfl rfl (Nat.le_of_ble_eq_true rfl) (by decide) (by decide) rfl rfl ?_
  have w20 := wk_X4_40 w19
  refine bv_putRF (v := some 40) dX11_init_94 fl_11_50 rfl (fun C T N h => (congrArg Prod.fst (Option.some.inj h)).symm) rfl (by decide) rfl ?_
  have w21 := bm_wf_sR (o := 0) (f := 6) w20 (by decide : 40 < 98)
  refine bv_aload_n dX11_init_97 0 rfl ?_
  refine bv_iconst (v := 2) dX11_init_98 (by decide) ?_
  refine bv_newq (t := 6) (C := "BrowArmy$Image") dX11_init_99 ck_11_54 (List.mem_of_getElem? (i := 2) rfl) rfl (by decide) (by decide) rfl (by decide) (by decide) (by decide) w21 (by decide) (by decide) rfl rfl ?_
  have w22 := bm_wf_z w21
  refine bv_putRF (v := some 98) dX11_init_102 fl_11_56 rfl (fun C T N h => (congrArg Prod.fst (Option.some.inj h)).symm) rfl (by decide) rfl ?_
  have w23 := bm_wf_sR (o := 0) (f := 7) w22 (by decide : 98 < 99)
  refine bv_iconst (v := 0) dX11_init_105 (by decide) ?_
  refine bv_istore_n (ls1 := [(0, .ref 0), (1, .int 0)]) dX11_init_106 (by decide) rfl rfl ?_
  refine bv_iload_n dX11_init_107 1 rfl ?_
  refine bv_iconst (v := 2) dX11_init_108 (by decide) ?_
  refine bv_icmp_ge (tgt := 131) dX11_init_109 (by decide) (fun cc => absurd cc (by decide)) (fun _ => ?_)
  refine bv_aload_n dX11_init_112 0 rfl ?_
  refine bv_getA (a := 98) dX11_init_113 fl_11_56 rfl (by decide) rfl rfl ?_
  refine bv_iload_n dX11_init_116 1 rfl ?_
  refine bv_new dX11_init_117 nw_11_54 rfl w23 (by decide) (by decide) rfl rfl ?_
  have w24 := bm_wf_z w23
  refine bv_dup dX11_init_120 rfl ?_
  refine bv_callI (As := []) (b := 99) (n2 := 123) dX11_init_121 mci_11_60 (k_X3_99 (d := d + 0) w24) rfl rfl (Nat.le_of_ble_eq_true rfl) (by decide) (by decide) rfl rfl ?_
  have w25 := wk_X3_99 w24
  refine bv_aast (E := "BrowArmy$Image") (ci := 3) dX11_init_124 rfl (by decide) (by decide) rfl (by decide) (by unfold vp_in; decide) (by decide) rfl ⟨_, _, rfl⟩ ?_
  have w26 := bm_wf_sR (o := 98) (f := (0 : Int32).toNatClampNeg) w25 (by decide : 99 < 123)
  refine bv_iinc (j := 1) (v := 1) (ls1 := [(0, .ref 0), (1, .int 1)]) dX11_init_125 rfl (by decide) (by decide) rfl rfl ?_
  refine bv_goto (tgt := 107) dX11_init_128 (by decide) ?_
  refine bv_iload_n dX11_init_107 1 rfl ?_
  refine bv_iconst (v := 2) dX11_init_108 (by decide) ?_
  refine bv_icmp_ge (tgt := 131) dX11_init_109 (by decide) (fun cc => absurd cc (by decide)) (fun _ => ?_)
  refine bv_aload_n dX11_init_112 0 rfl ?_
  refine bv_getA (a := 98) dX11_init_113 fl_11_56 rfl (by decide) rfl rfl ?_
  refine bv_iload_n dX11_init_116 1 rfl ?_
  refine bv_new dX11_init_117 nw_11_54 rfl w26 (by decide) (by decide) rfl rfl ?_
  have w27 := bm_wf_z w26
  refine bv_dup dX11_init_120 rfl ?_
  refine bv_callI (As := []) (b := 123) (n2 := 147) dX11_init_121 mci_11_60 (k_X3_123 (d := d + 0) w27) rfl rfl (Nat.le_of_ble_eq_true rfl) (by decide) (by decide) rfl rfl ?_
  have w28 := wk_X3_123 w27
  refine bv_aast (E := "BrowArmy$Image") (ci := 3) dX11_init_124 rfl (by decide) (by decide) rfl (by decide) (by unfold vp_in; decide) (by decide) rfl ⟨_, _, rfl⟩ ?_
  have w29 := bm_wf_sR (o := 98) (f := (1 : Int32).toNatClampNeg) w28 (by decide : 123 < 147)
  refine bv_iinc (j := 1) (v := 2) (ls1 := [(0, .ref 0), (1, .int 2)]) dX11_init_125 rfl (by decide) (by decide) rfl rfl ?_
  refine bv_goto (tgt := 107) dX11_init_128 (by decide) ?_
  refine bv_iload_n dX11_init_107 1 rfl ?_
  refine bv_iconst (v := 2) dX11_init_108 (by decide) ?_
  refine bv_icmp_ge (tgt := 131) dX11_init_109 (by decide) (fun _ => ?_) (fun cc => absurd (by decide) cc)
  refine bv_aload_n dX11_init_131 0 rfl ?_
  refine bv_new dX11_init_132 nw_11_61 rfl w29 (by decide) (by decide) rfl rfl ?_
  have w30 := bm_wf_z w29
  refine bv_dup dX11_init_135 rfl ?_
  refine bv_callIN (As := []) (b := 147) (n2 := 151) dX11_init_136 mci_11_63 (k_X1_147 (d := d + 1) w30) rfl rfl (Nat.le_of_ble_eq_true rfl) (by decide) (by decide) rfl rfl ?_
  have w31 := wk_X1_147 w30
  refine bv_putRF (v := some 147) dX11_init_139 fl_11_64 rfl (fun C T N h => (congrArg Prod.fst (Option.some.inj h)).symm) rfl (by decide) rfl ?_
  have w32 := bm_wf_sR (o := 0) (f := 8) w31 (by decide : 147 < 151)
  refine bv_aload_n dX11_init_142 0 rfl ?_
  refine bv_new dX11_init_143 nw_11_68 rfl w32 (by decide) (by decide) rfl rfl ?_
  have w33 := bm_wf_z w32
  refine bv_dup dX11_init_146 rfl ?_
  refine bv_callIN (As := []) (b := 151) (n2 := 156) dX11_init_147 mci_11_70 (k_X7_151 (d := d + 1) w33) rfl rfl (Nat.le_of_ble_eq_true rfl) (by decide) (by decide) rfl rfl ?_
  have w34 := wk_X7_151 w33
  refine bv_putRF (v := some 151) dX11_init_150 fl_11_71 rfl (fun C T N h => (congrArg Prod.fst (Option.some.inj h)).symm) rfl (by decide) rfl ?_
  have w35 := bm_wf_sR (o := 0) (f := 9) w34 (by decide : 151 < 156)
  refine bv_aload_n dX11_init_153 0 rfl ?_
  refine bv_new dX11_init_154 nw_11_68 rfl w35 (by decide) (by decide) rfl rfl ?_
  have w36 := bm_wf_z w35
  refine bv_dup dX11_init_157 rfl ?_
  refine bv_callIN (As := []) (b := 156) (n2 := 161) dX11_init_158 mci_11_70 (k_X7_156 (d := d + 1) w36) rfl rfl (Nat.le_of_ble_eq_true rfl) (by decide) (by decide) rfl rfl ?_
  have w37 := wk_X7_156 w36
  refine bv_putRF (v := some 156) dX11_init_161 fl_11_75 rfl (fun C T N h => (congrArg Prod.fst (Option.some.inj h)).symm) rfl (by decide) rfl ?_
  have w38 := bm_wf_sR (o := 0) (f := 10) w37 (by decide : 156 < 161)
  refine bv_aload_n dX11_init_164 0 rfl ?_
  refine bv_new dX11_init_165 nw_11_78 rfl w38 (by decide) (by decide) rfl rfl ?_
  have w39 := bm_wf_z w38
  refine bv_dup dX11_init_168 rfl ?_
  refine bv_callIN (As := []) (b := 161) (n2 := 162) dX11_init_169 mci_11_80 (k_X2_161 (d := d + 1) w39) rfl rfl (Nat.le_of_ble_eq_true rfl) (by decide) (by decide) rfl rfl ?_
  have w40 := wk_X2_161 w39
  refine bv_putRF (v := some 161) dX11_init_172 fl_11_81 rfl (fun C T N h => (congrArg Prod.fst (Option.some.inj h)).symm) rfl (by decide) rfl ?_
  have w41 := bm_wf_sR (o := 0) (f := 11) w40 (by decide : 161 < 162)
  refine bv_aload_n dX11_init_175 0 rfl ?_
  refine bv_new dX11_init_176 nw_11_85 rfl w41 (by decide) (by decide) rfl rfl ?_
  have w42 := bm_wf_z w41
  refine bv_dup dX11_init_179 rfl ?_
  refine bv_callIN (As := []) (b := 162) (n2 := 164) dX11_init_180 mci_11_87 (k_X6_162 (d := d + 1) w42) rfl rfl (Nat.le_of_ble_eq_true rfl) (by decide) (by decide) rfl rfl ?_
  have w43 := wk_X6_162 w42
  refine bv_putRF (v := some 162) dX11_init_183 fl_11_88 rfl (fun C T N h => (congrArg Prod.fst (Option.some.inj h)).symm) rfl (by decide) rfl ?_
  have w44 := bm_wf_sR (o := 0) (f := 12) w43 (by decide : 162 < 164)
  refine bv_aload_n dX11_init_186 0 rfl ?_
  refine bv_iconst (v := (-1)) dX11_init_187 (by decide) ?_
  refine bv_putI dX11_init_188 fl_11_92 rfl (by decide) rfl rfl rfl ?_
  refine bv_aload_n dX11_init_191 0 rfl ?_
  refine bv_iconst (v := (-1)) dX11_init_192 (by decide) ?_
  refine bv_putI dX11_init_193 fl_11_96 rfl (by decide) rfl rfl rfl ?_
  refine bv_aload_n dX11_init_196 0 rfl ?_
  refine bv_iconst (v := (-1)) dX11_init_197 (by decide) ?_
  refine bv_putI dX11_init_198 fl_11_99 rfl (by decide) rfl rfl rfl ?_
  exact bv_vret dX11_init_201 rfl ⟨rfl, rfl⟩
