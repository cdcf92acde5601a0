def f_X12_lays (I : bm_TI) (x1 : Int32) : Option (bm_TI) := (if bm_ix 48 (I 164 32) = true then some (bm_uI (bm_uI I 174 ((I 164 32).toNatClampNeg) (vp_nar .byte x1.toInt8.toInt32)) 164 32 (((bm_uI I 174 ((I 164 32).toNatClampNeg) (vp_nar .byte x1.toInt8.toInt32)) 164 32) + 1)) else none)
set_option maxHeartbeats 4000000 in
set_option maxRecDepth 100000 in
theorem c_X12_lays {lc : bm_L} {d n : Nat} {I : bm_TI} {J : bm_TJ} {R W : bm_TR} {x1 : Int32} {v : bm_TI} (hN : 181 ≤ n) (hR : bm_RR R) (h : f_X12_lays I x1 = some v) : bm_C lc m_X12_lays d n n [.ref 164, .int x1] (I, J, R, W) (fun r M' => r = none ∧ M' = (v, J, R, W)) := by
  refine bm_C.ofV (by decide) (Nat.le_of_ble_eq_true rfl) ?_
  show bm_V lc m_X12_lays d n n n 0 [(0, .ref 164), (1, .int x1)] [] (I, J, R, W) _
  unfold f_X12_lays at h
  refine bv_aload_n dX12_lays_0 0 rfl ?_
  refine bz_getA (a := 174) hN okL_164 (hR _ _ _ r0_164_31) dX12_lays_1 fl_12_71 rfl ?_
  refine bv_aload_n dX12_lays_4 0 rfl ?_
  refine bz_getI hN okL_164 dX12_lays_5 fl_12_407 rfl ?_
  refine bv_iload_n dX12_lays_8 1 rfl ?_
  refine bv_i2b dX12_lays_9 ?_
  obtain ⟨r1, h⟩ := bu_ix h
  refine bz_bast hN rkL_174 r1 rfl dX12_lays_10 ?_
  refine bv_aload_n dX12_lays_11 0 rfl ?_
  refine bv_dup dX12_lays_12 rfl ?_
  refine bz_getI hN okL_164 dX12_lays_13 fl_12_407 rfl ?_
  refine bv_iconst (v := 1) dX12_lays_16 (by decide) ?_
  refine bv_iadd dX12_lays_17 ?_
  refine bz_putI hN okL_164 dX12_lays_18 fl_12_407 rfl ?_
  obtain rfl := Option.some.inj h
  exact bv_vret dX12_lays_21 rfl ⟨rfl, rfl⟩
def f_X12_spells_l3 (x1 : Int64) : Nat → Int32 → bm_TI → Option (bm_TI)
  | 0, _, _ => none
  | k + 1, x3, I => (if x3 < 0 then some I else (if (lg_cmp ((bm_lshr x1 x3) &&& 255) 0) = 0 then f_X12_spells_l3 x1 k (x3 + (-8)) I else ((f_X12_lays I (((bm_lshr x1 x3) &&& 255).toInt32)).bind fun v1 => f_X12_spells_l3 x1 k (x3 + (-8)) v1)))
set_option maxHeartbeats 4000000 in
set_option maxRecDepth 100000 in
theorem v_X12_spells_l3 {lc : bm_L} {d n : Nat} {Q : Option Value → bm_M → Prop} {R : bm_TR} {J : bm_TJ} {W : bm_TR} {x1 : Int64} (hN : 181 ≤ n) (hR : bm_RR R) : ∀ (k : Nat) (x3 : Int32) (I : bm_TI) (r : bm_TI), f_X12_spells_l3 x1 k x3 I = some r → (∀ yy, yy = r → bm_V lc m_X12_spells (d + 1) n n n 37 [] [] (yy, J, R, W) Q) → bm_V lc m_X12_spells (d + 1) n n n 3 [(0, .ref 164), (1, .long x1), (3, .int x3)] [] (I, J, R, W) Q := by
  intro k
  induction k with
  | zero => intro x3 I r h; cases (show (none : Option (bm_TI)) = some r from h)
  | succ k ih =>
    intro x3 I r h K0
    unfold f_X12_spells_l3 at h
    refine bv_iload_n dX12_spells_3 2 rfl ?_
    refine bv_if_lt (tgt := 37) dX12_spells_4 (by decide) (fun cc => ?_) (fun cc => ?_)
    · replace h := bu_t h cc
      refine bw_ls (ls1 := []) [] rfl ?_
      obtain rfl := Option.some.inj h
      exact K0 _ rfl
    · replace h := bu_f h cc
      refine bv_lload_n dX12_spells_7 1 rfl ?_
      refine bv_iload_n dX12_spells_8 2 rfl ?_
      refine bv_lshr dX12_spells_9 ?_
      refine bv_ldc2 (v := 255) dX12_spells_10 cst_12_410 ?_
      refine bv_land dX12_spells_13 ?_
      refine bv_lconst (v := 0) dX12_spells_14 (by decide) ?_
      refine bv_lcmp dX12_spells_15 ?_
      refine bv_if_eq (tgt := 31) dX12_spells_16 (by decide) (fun cc => ?_) (fun cc => ?_)
      · replace h := bu_t h cc
        refine bv_iinc (j := 2) (v := (x3 + (-8))) (ls1 := [(0, .ref 164), (1, .long x1), (3, .int (x3 + (-8)))]) dX12_spells_31 rfl rfl (by decide) rfl rfl ?_
        refine bv_goto (tgt := 3) dX12_spells_34 (by decide) ?_
        exact ih _ _ _ h K0
      · replace h := bu_f h cc
        refine bv_aload_n dX12_spells_19 0 rfl ?_
        refine bv_lload_n dX12_spells_20 1 rfl ?_
        refine bv_iload_n dX12_spells_21 2 rfl ?_
        refine bv_lshr dX12_spells_22 ?_
        refine bv_ldc2 (v := 255) dX12_spells_23 cst_12_410 ?_
        refine bv_land dX12_spells_26 ?_
        refine bv_l2i dX12_spells_27 ?_
        obtain ⟨v1, p2, h⟩ := bu_bd h
        refine bw_callVv (As := [.int ((bm_lshr x1 x3) &&& 255).toInt32]) hN okL_164 ⟨_, _, rfl⟩ dX12_spells_28 mc_12_412 (c_X12_lays (d := d + 0) hN hR p2) rfl rfl (by decide) ?_
        refine bv_iinc (j := 2) (v := (x3 + (-8))) (ls1 := [(0, .ref 164), (1, .long x1), (3, .int (x3 + (-8)))]) dX12_spells_31 rfl rfl (by decide) rfl rfl ?_
        refine bv_goto (tgt := 3) dX12_spells_34 (by decide) ?_
        exact ih _ _ _ h K0
def f_X12_spells (I : bm_TI) (x1 : Int64) : Option (bm_TI) := ((f_X12_spells_l3 x1 1000 56 I).bind fun y3 => some y3)
set_option maxHeartbeats 4000000 in
set_option maxRecDepth 100000 in
theorem c_X12_spells {lc : bm_L} {d n : Nat} {I : bm_TI} {J : bm_TJ} {R W : bm_TR} {x1 : Int64} {v : bm_TI} (hN : 181 ≤ n) (hR : bm_RR R) (h : f_X12_spells I x1 = some v) : bm_C lc m_X12_spells (d + 1) n n [.ref 164, .long x1] (I, J, R, W) (fun r M' => r = none ∧ M' = (v, J, R, W)) := by
  refine bm_C.ofV (by decide) (Nat.le_of_ble_eq_true rfl) ?_
  show bm_V lc m_X12_spells (d + 1) n n n 0 [(0, .ref 164), (1, .long x1)] [] (I, J, R, W) _
  unfold f_X12_spells at h
  refine bv_bipush (v := 56) dX12_spells_0 (by decide) ?_
  refine bv_istore_n (ls1 := [(0, .ref 164), (1, .long x1), (3, .int 56)]) dX12_spells_2 (by decide) rfl rfl ?_
  obtain ⟨r1, p2, h⟩ := bu_bd h
  refine v_X12_spells_l3 hN hR 1000 _ _ _ p2 (fun y3 hy => ?_)
  · subst hy
    obtain rfl := Option.some.inj h
    exact bv_vret dX12_spells_37 rfl ⟨rfl, rfl⟩
def f_X12_says (I : bm_TI) (x1 : Int64) : Option (bm_TI) := ((f_X12_lays I 32).bind fun v1 => ((f_X12_spells v1 x1).bind fun v3 => some v3))
set_option maxHeartbeats 4000000 in
set_option maxRecDepth 100000 in
theorem c_X12_says {lc : bm_L} {d n : Nat} {I : bm_TI} {J : bm_TJ} {R W : bm_TR} {x1 : Int64} {v : bm_TI} (hN : 181 ≤ n) (hR : bm_RR R) (h : f_X12_says I x1 = some v) : bm_C lc m_X12_says (d + 2) n n [.ref 164, .long x1] (I, J, R, W) (fun r M' => r = none ∧ M' = (v, J, R, W)) := by
  refine bm_C.ofV (by decide) (Nat.le_of_ble_eq_true rfl) ?_
  show bm_V lc m_X12_says (d + 2) n n n 0 [(0, .ref 164), (1, .long x1)] [] (I, J, R, W) _
  unfold f_X12_says at h
  refine bv_aload_n dX12_says_0 0 rfl ?_
  refine bv_bipush (v := 32) dX12_says_1 (by decide) ?_
  obtain ⟨v1, p2, h⟩ := bu_bd h
  refine bw_callVv (As := [.int 32]) hN okL_164 ⟨_, _, rfl⟩ dX12_says_3 mc_12_412 (c_X12_lays (d := d + 1) hN hR p2) rfl rfl (by decide) ?_
  refine bv_aload_n dX12_says_6 0 rfl ?_
  refine bv_lload_n dX12_says_7 1 rfl ?_
  obtain ⟨v3, p4, h⟩ := bu_bd h
  refine bw_callVv (As := [.long x1]) hN okL_164 ⟨_, _, rfl⟩ dX12_says_8 mc_12_415 (c_X12_spells (d := d + 0) hN hR p4) rfl rfl (by decide) ?_
  obtain rfl := Option.some.inj h
  exact bv_vret dX12_says_11 rfl ⟨rfl, rfl⟩
def f_X12_report (I : bm_TI) (J : bm_TJ) (x1 : Int32) : Option (Int32 × bm_TI) := ((f_X12_isMan (bm_uI I 164 0 0) x1).bind fun v1 => (if v1 = true then (if bm_ix 30 x1 = true then ((f_X12_spells (bm_uI (bm_uI I 164 0 0) 164 32 0) (J 169 x1.toNatClampNeg)).bind fun v4 => (if bm_ix 287 (90 + x1) = true then (if (v4 166 (90 + x1).toNatClampNeg) ≤ 0 then ((f_X12_says v4 1768189029).bind fun v7 => (if (v7 166 (90 + x1).toNatClampNeg) ≤ 0 then (if bm_ix 287 (82 + x1) = true then (if (v7 166 (82 + x1).toNatClampNeg) ≤ 0 then (if (f_X12_bitOf (v7 166 63) x1) = true then ((f_X12_says v7 107148367717744).bind fun v10 => some ((v10 164 32), v10)) else some ((v7 164 32), v7)) else ((f_X12_says v7 448377483876).bind fun v12 => (if bm_ix 34 (4 + (v12 166 (82 + x1).toNatClampNeg)) = true then ((f_X12_says v12 (J 170 (4 + (v12 166 (82 + x1).toNatClampNeg)).toNatClampNeg)).bind fun v15 => (if (f_X12_bitOf (v15 166 63) x1) = true then ((f_X12_says v15 107148367717744).bind fun v17 => some ((v17 164 32), v17)) else some ((v15 164 32), v15))) else none))) else none) else (if bm_ix 30 (7 + (v7 166 (90 + x1).toNatClampNeg)) = true then ((f_X12_says v7 (J 169 (7 + (v7 166 (90 + x1).toNatClampNeg)).toNatClampNeg)).bind fun v20 => (if bm_ix 287 (82 + x1) = true then (if (v20 166 (82 + x1).toNatClampNeg) ≤ 0 then (if (f_X12_bitOf (v20 166 63) x1) = true then ((f_X12_says v20 107148367717744).bind fun v23 => some ((v23 164 32), v23)) else some ((v20 164 32), v20)) else ((f_X12_says v20 448377483876).bind fun v25 => (if bm_ix 34 (4 + (v25 166 (82 + x1).toNatClampNeg)) = true then ((f_X12_says v25 (J 170 (4 + (v25 166 (82 + x1).toNatClampNeg)).toNatClampNeg)).bind fun v28 => (if (f_X12_bitOf (v28 166 63) x1) = true then ((f_X12_says v28 107148367717744).bind fun v30 => some ((v30 164 32), v30)) else some ((v28 164 32), v28))) else none))) else none)) else none))) else ((f_X12_says v4 6840691).bind fun v32 => (if (v32 166 (90 + x1).toNatClampNeg) ≤ 0 then (if bm_ix 287 (82 + x1) = true then (if (v32 166 (82 + x1).toNatClampNeg) ≤ 0 then (if (f_X12_bitOf (v32 166 63) x1) = true then ((f_X12_says v32 107148367717744).bind fun v35 => some ((v35 164 32), v35)) else some ((v32 164 32), v32)) else ((f_X12_says v32 448377483876).bind fun v37 => (if bm_ix 34 (4 + (v37 166 (82 + x1).toNatClampNeg)) = true then ((f_X12_says v37 (J 170 (4 + (v37 166 (82 + x1).toNatClampNeg)).toNatClampNeg)).bind fun v40 => (if (f_X12_bitOf (v40 166 63) x1) = true then ((f_X12_says v40 107148367717744).bind fun v42 => some ((v42 164 32), v42)) else some ((v40 164 32), v40))) else none))) else none) else (if bm_ix 30 (7 + (v32 166 (90 + x1).toNatClampNeg)) = true then ((f_X12_says v32 (J 169 (7 + (v32 166 (90 + x1).toNatClampNeg)).toNatClampNeg)).bind fun v45 => (if bm_ix 287 (82 + x1) = true then (if (v45 166 (82 + x1).toNatClampNeg) ≤ 0 then (if (f_X12_bitOf (v45 166 63) x1) = true then ((f_X12_says v45 107148367717744).bind fun v48 => some ((v48 164 32), v48)) else some ((v45 164 32), v45)) else ((f_X12_says v45 448377483876).bind fun v50 => (if bm_ix 34 (4 + (v50 166 (82 + x1).toNatClampNeg)) = true then ((f_X12_says v50 (J 170 (4 + (v50 166 (82 + x1).toNatClampNeg)).toNatClampNeg)).bind fun v53 => (if (f_X12_bitOf (v53 166 63) x1) = true then ((f_X12_says v53 107148367717744).bind fun v55 => some ((v55 164 32), v55)) else some ((v53 164 32), v53))) else none))) else none)) else none)))) else none)) else none) else some ((-1), (bm_uI I 164 0 0))))
set_option maxHeartbeats 4000000 in
set_option maxRecDepth 100000 in
theorem c_X12_report {lc : bm_L} {d n : Nat} {I : bm_TI} {J : bm_TJ} {R W : bm_TR} {x1 : Int32} {v : Int32 × bm_TI} (hN : 181 ≤ n) (hR : bm_RR R) (h : f_X12_report I J x1 = some v) : bm_C lc m_X12_report (d + 3) n n [.ref 164, .int x1] (I, J, R, W) (fun r M' => r = some (.int v.1) ∧ M' = (v.2, J, R, W)) := by
  refine bm_C.ofV (by decide) (Nat.le_of_ble_eq_true rfl) ?_
  show bm_V lc m_X12_report (d + 3) n n n 0 [(0, .ref 164), (1, .int x1)] [] (I, J, R, W) _
  unfold f_X12_report at h
  refine bv_aload_n dX12_report_0 0 rfl ?_
  refine bv_iconst (v := 0) dX12_report_1 (by decide) ?_
  refine bz_putI hN okL_164 dX12_report_2 fl_12_1 rfl ?_
  refine bv_aload_n dX12_report_5 0 rfl ?_
  refine bv_iload_n dX12_report_6 1 rfl ?_
  obtain ⟨v1, p2, h⟩ := bu_bd h
  refine bw_callV (As := [.int x1]) hN okL_164 ⟨_, _, rfl⟩ dX12_report_7 mc_12_303 (c_X12_isMan (d := d + 1) hN hR p2) rfl rfl (by decide) ?_
  refine bw_ifB_ne (b := v1) (tgt := 15) dX12_report_10 (by decide) (fun cc => ?_) (fun cc => ?_)
  · replace h := bu_bt h cc
    refine bv_aload_n dX12_report_15 0 rfl ?_
    refine bv_iconst (v := 0) dX12_report_16 (by decide) ?_
    refine bz_putI hN okL_164 dX12_report_17 fl_12_407 rfl ?_
    refine bv_aload_n dX12_report_20 0 rfl ?_
    refine bv_aload_n dX12_report_21 0 rfl ?_
    refine bz_getA (a := 169) hN okL_164 (hR _ _ _ r0_164_9) dX12_report_22 fl_12_43 rfl ?_
    refine bv_iload_n dX12_report_25 1 rfl ?_
    obtain ⟨r3, h⟩ := bu_ix h
    refine bz_lald hN rkL_169 r3 rfl dX12_report_26 ?_
    obtain ⟨v4, p5, h⟩ := bu_bd h
    refine bw_callVv (As := [.long (J 169 x1.toNatClampNeg)]) hN okL_164 ⟨_, _, rfl⟩ dX12_report_27 mc_12_415 (c_X12_spells (d := d + 1) hN hR p5) rfl rfl (by decide) ?_
    refine bv_aload_n dX12_report_30 0 rfl ?_
    refine bv_aload_n dX12_report_31 0 rfl ?_
    refine bz_getA (a := 166) hN okL_164 (hR _ _ _ r0_164_6) dX12_report_32 fl_12_33 rfl ?_
    refine bv_bipush (v := 90) dX12_report_35 (by decide) ?_
    refine bv_iload_n dX12_report_37 1 rfl ?_
    refine bv_iadd dX12_report_38 ?_
    obtain ⟨r6, h⟩ := bu_ix h
    refine bz_iald hN rkL_166 r6 rfl dX12_report_39 ?_
    refine bv_if_le (tgt := 49) dX12_report_40 (by decide) (fun cc => ?_) (fun cc => ?_)
    · replace h := bu_t h cc
      refine bv_ldc2 (v := 1768189029) dX12_report_49 cst_12_147 ?_
      obtain ⟨v7, p8, h⟩ := bu_bd h
      refine bw_callVv (As := [.long 1768189029]) hN okL_164 ⟨_, _, rfl⟩ dX12_report_52 mc_12_419 (c_X12_says (d := d + 0) hN hR p8) rfl rfl (by decide) ?_
      refine bv_aload_n dX12_report_55 0 rfl ?_
      refine bz_getA (a := 166) hN okL_164 (hR _ _ _ r0_164_6) dX12_report_56 fl_12_33 rfl ?_
      refine bv_bipush (v := 90) dX12_report_59 (by decide) ?_
      refine bv_iload_n dX12_report_61 1 rfl ?_
      refine bv_iadd dX12_report_62 ?_
      refine bz_iald hN rkL_166 r6 rfl dX12_report_63 ?_
      refine bv_if_le (tgt := 88) dX12_report_64 (by decide) (fun cc => ?_) (fun cc => ?_)
      · replace h := bu_t h cc
        refine bv_aload_n dX12_report_88 0 rfl ?_
        refine bz_getA (a := 166) hN okL_164 (hR _ _ _ r0_164_6) dX12_report_89 fl_12_33 rfl ?_
        refine bv_bipush (v := 82) dX12_report_92 (by decide) ?_
        refine bv_iload_n dX12_report_94 1 rfl ?_
        refine bv_iadd dX12_report_95 ?_
        obtain ⟨r9, h⟩ := bu_ix h
        refine bz_iald hN rkL_166 r9 rfl dX12_report_96 ?_
        refine bv_if_le (tgt := 127) dX12_report_97 (by decide) (fun cc => ?_) (fun cc => ?_)
        · replace h := bu_t h cc
          refine bv_aload_n dX12_report_127 0 rfl ?_
          refine bz_getA (a := 166) hN okL_164 (hR _ _ _ r0_164_6) dX12_report_128 fl_12_33 rfl ?_
          refine bv_bipush (v := 63) dX12_report_131 (by decide) ?_
          refine bz_iald (j := 63) hN rkL_166 (bm_ix_in (by decide)) (by decide) dX12_report_133 ?_
          refine bv_iload_n dX12_report_134 1 rfl ?_
          refine bw_callS (As := [.int (v7 166 63), .int x1]) dX12_report_135 mc_12_231 (c_X12_bitOf (d := d + 2) hN hR rfl) rfl rfl (by decide) ?_
          refine bw_ifB_eq (b := (f_X12_bitOf (v7 166 63) x1)) (tgt := 148) dX12_report_138 (by decide) (fun cc => ?_) (fun cc => ?_)
          · replace h := bu_bf h cc
            refine bv_aload_n dX12_report_148 0 rfl ?_
            refine bz_getI hN okL_164 dX12_report_149 fl_12_407 rfl ?_
            obtain rfl := Option.some.inj h
            exact bv_iret (x := (v7 164 32)) dX12_report_152 rfl ⟨rfl, rfl⟩
          · replace h := bu_bt h cc
            refine bv_aload_n dX12_report_141 0 rfl ?_
            refine bv_ldc2 (v := 107148367717744) dX12_report_142 cst_12_143 ?_
            obtain ⟨v10, p11, h⟩ := bu_bd h
            refine bw_callVv (As := [.long 107148367717744]) hN okL_164 ⟨_, _, rfl⟩ dX12_report_145 mc_12_419 (c_X12_says (d := d + 0) hN hR p11) rfl rfl (by decide) ?_
            refine bv_aload_n dX12_report_148 0 rfl ?_
            refine bz_getI hN okL_164 dX12_report_149 fl_12_407 rfl ?_
            obtain rfl := Option.some.inj h
            exact bv_iret (x := (v10 164 32)) dX12_report_152 rfl ⟨rfl, rfl⟩
        · replace h := bu_f h cc
          refine bv_aload_n dX12_report_100 0 rfl ?_
          refine bv_ldc2 (v := 448377483876) dX12_report_101 cst_12_155 ?_
          obtain ⟨v12, p13, h⟩ := bu_bd h
          refine bw_callVv (As := [.long 448377483876]) hN okL_164 ⟨_, _, rfl⟩ dX12_report_104 mc_12_419 (c_X12_says (d := d + 0) hN hR p13) rfl rfl (by decide) ?_
          refine bv_aload_n dX12_report_107 0 rfl ?_
          refine bv_aload_n dX12_report_108 0 rfl ?_
          refine bz_getA (a := 170) hN okL_164 (hR _ _ _ r0_164_10) dX12_report_109 fl_12_47 rfl ?_
          refine bv_iconst (v := 4) dX12_report_112 (by decide) ?_
          refine bv_aload_n dX12_report_113 0 rfl ?_
          refine bz_getA (a := 166) hN okL_164 (hR _ _ _ r0_164_6) dX12_report_114 fl_12_33 rfl ?_
          refine bv_bipush (v := 82) dX12_report_117 (by decide) ?_
          refine bv_iload_n dX12_report_119 1 rfl ?_
          refine bv_iadd dX12_report_120 ?_
          refine bz_iald hN rkL_166 r9 rfl dX12_report_121 ?_
          refine bv_iadd dX12_report_122 ?_
          obtain ⟨r14, h⟩ := bu_ix h
          refine bz_lald hN rkL_170 r14 rfl dX12_report_123 ?_
          obtain ⟨v15, p16, h⟩ := bu_bd h
          refine bw_callVv (As := [.long (J 170 (4 + (v12 166 (82 + x1).toNatClampNeg)).toNatClampNeg)]) hN okL_164 ⟨_, _, rfl⟩ dX12_report_124 mc_12_419 (c_X12_says (d := d + 0) hN hR p16) rfl rfl (by decide) ?_
          refine bv_aload_n dX12_report_127 0 rfl ?_
          refine bz_getA (a := 166) hN okL_164 (hR _ _ _ r0_164_6) dX12_report_128 fl_12_33 rfl ?_
          refine bv_bipush (v := 63) dX12_report_131 (by decide) ?_
          refine bz_iald (j := 63) hN rkL_166 (bm_ix_in (by decide)) (by decide) dX12_report_133 ?_
          refine bv_iload_n dX12_report_134 1 rfl ?_
          refine bw_callS (As := [.int (v15 166 63), .int x1]) dX12_report_135 mc_12_231 (c_X12_bitOf (d := d + 2) hN hR rfl) rfl rfl (by decide) ?_
          refine bw_ifB_eq (b := (f_X12_bitOf (v15 166 63) x1)) (tgt := 148) dX12_report_138 (by decide) (fun cc => ?_) (fun cc => ?_)
          · replace h := bu_bf h cc
            refine bv_aload_n dX12_report_148 0 rfl ?_
            refine bz_getI hN okL_164 dX12_report_149 fl_12_407 rfl ?_
            obtain rfl := Option.some.inj h
            exact bv_iret (x := (v15 164 32)) dX12_report_152 rfl ⟨rfl, rfl⟩
          · replace h := bu_bt h cc
            refine bv_aload_n dX12_report_141 0 rfl ?_
            refine bv_ldc2 (v := 107148367717744) dX12_report_142 cst_12_143 ?_
            obtain ⟨v17, p18, h⟩ := bu_bd h
            refine bw_callVv (As := [.long 107148367717744]) hN okL_164 ⟨_, _, rfl⟩ dX12_report_145 mc_12_419 (c_X12_says (d := d + 0) hN hR p18) rfl rfl (by decide) ?_
            refine bv_aload_n dX12_report_148 0 rfl ?_
            refine bz_getI hN okL_164 dX12_report_149 fl_12_407 rfl ?_
            obtain rfl := Option.some.inj h
            exact bv_iret (x := (v17 164 32)) dX12_report_152 rfl ⟨rfl, rfl⟩
      · replace h := bu_f h cc
        refine bv_aload_n dX12_report_67 0 rfl ?_
        refine bv_aload_n dX12_report_68 0 rfl ?_
        refine bz_getA (a := 169) hN okL_164 (hR _ _ _ r0_164_9) dX12_report_69 fl_12_43 rfl ?_
        refine bv_bipush (v := 7) dX12_report_72 (by decide) ?_
        refine bv_aload_n dX12_report_74 0 rfl ?_
        refine bz_getA (a := 166) hN okL_164 (hR _ _ _ r0_164_6) dX12_report_75 fl_12_33 rfl ?_
        refine bv_bipush (v := 90) dX12_report_78 (by decide) ?_
        refine bv_iload_n dX12_report_80 1 rfl ?_
        refine bv_iadd dX12_report_81 ?_
        refine bz_iald hN rkL_166 r6 rfl dX12_report_82 ?_
        refine bv_iadd dX12_report_83 ?_
        obtain ⟨r19, h⟩ := bu_ix h
        refine bz_lald hN rkL_169 r19 rfl dX12_report_84 ?_
        obtain ⟨v20, p21, h⟩ := bu_bd h
        refine bw_callVv (As := [.long (J 169 (7 + (v7 166 (90 + x1).toNatClampNeg)).toNatClampNeg)]) hN okL_164 ⟨_, _, rfl⟩ dX12_report_85 mc_12_419 (c_X12_says (d := d + 0) hN hR p21) rfl rfl (by decide) ?_
        refine bv_aload_n dX12_report_88 0 rfl ?_
        refine bz_getA (a := 166) hN okL_164 (hR _ _ _ r0_164_6) dX12_report_89 fl_12_33 rfl ?_
        refine bv_bipush (v := 82) dX12_report_92 (by decide) ?_
        refine bv_iload_n dX12_report_94 1 rfl ?_
        refine bv_iadd dX12_report_95 ?_
        obtain ⟨r22, h⟩ := bu_ix h
        refine bz_iald hN rkL_166 r22 rfl dX12_report_96 ?_
        refine bv_if_le (tgt := 127) dX12_report_97 (by decide) (fun cc => ?_) (fun cc => ?_)
        · replace h := bu_t h cc
          refine bv_aload_n dX12_report_127 0 rfl ?_
          refine bz_getA (a := 166) hN okL_164 (hR _ _ _ r0_164_6) dX12_report_128 fl_12_33 rfl ?_
          refine bv_bipush (v := 63) dX12_report_131 (by decide) ?_
          refine bz_iald (j := 63) hN rkL_166 (bm_ix_in (by decide)) (by decide) dX12_report_133 ?_
          refine bv_iload_n dX12_report_134 1 rfl ?_
          refine bw_callS (As := [.int (v20 166 63), .int x1]) dX12_report_135 mc_12_231 (c_X12_bitOf (d := d + 2) hN hR rfl) rfl rfl (by decide) ?_
          refine bw_ifB_eq (b := (f_X12_bitOf (v20 166 63) x1)) (tgt := 148) dX12_report_138 (by decide) (fun cc => ?_) (fun cc => ?_)
          · replace h := bu_bf h cc
            refine bv_aload_n dX12_report_148 0 rfl ?_
            refine bz_getI hN okL_164 dX12_report_149 fl_12_407 rfl ?_
            obtain rfl := Option.some.inj h
            exact bv_iret (x := (v20 164 32)) dX12_report_152 rfl ⟨rfl, rfl⟩
          · replace h := bu_bt h cc
            refine bv_aload_n dX12_report_141 0 rfl ?_
            refine bv_ldc2 (v := 107148367717744) dX12_report_142 cst_12_143 ?_
            obtain ⟨v23, p24, h⟩ := bu_bd h
            refine bw_callVv (As := [.long 107148367717744]) hN okL_164 ⟨_, _, rfl⟩ dX12_report_145 mc_12_419 (c_X12_says (d := d + 0) hN hR p24) rfl rfl (by decide) ?_
            refine bv_aload_n dX12_report_148 0 rfl ?_
            refine bz_getI hN okL_164 dX12_report_149 fl_12_407 rfl ?_
            obtain rfl := Option.some.inj h
            exact bv_iret (x := (v23 164 32)) dX12_report_152 rfl ⟨rfl, rfl⟩
        · replace h := bu_f h cc
          refine bv_aload_n dX12_report_100 0 rfl ?_
          refine bv_ldc2 (v := 448377483876) dX12_report_101 cst_12_155 ?_
          obtain ⟨v25, p26, h⟩ := bu_bd h
          refine bw_callVv (As := [.long 448377483876]) hN okL_164 ⟨_, _, rfl⟩ dX12_report_104 mc_12_419 (c_X12_says (d := d + 0) hN hR p26) rfl rfl (by decide) ?_
          refine bv_aload_n dX12_report_107 0 rfl ?_
          refine bv_aload_n dX12_report_108 0 rfl ?_
          refine bz_getA (a := 170) hN okL_164 (hR _ _ _ r0_164_10) dX12_report_109 fl_12_47 rfl ?_
          refine bv_iconst (v := 4) dX12_report_112 (by decide) ?_
          refine bv_aload_n dX12_report_113 0 rfl ?_
          refine bz_getA (a := 166) hN okL_164 (hR _ _ _ r0_164_6) dX12_report_114 fl_12_33 rfl ?_
          refine bv_bipush (v := 82) dX12_report_117 (by decide) ?_
          refine bv_iload_n dX12_report_119 1 rfl ?_
          refine bv_iadd dX12_report_120 ?_
          refine bz_iald hN rkL_166 r22 rfl dX12_report_121 ?_
          refine bv_iadd dX12_report_122 ?_
          obtain ⟨r27, h⟩ := bu_ix h
          refine bz_lald hN rkL_170 r27 rfl dX12_report_123 ?_
          obtain ⟨v28, p29, h⟩ := bu_bd h
          refine bw_callVv (As := [.long (J 170 (4 + (v25 166 (82 + x1).toNatClampNeg)).toNatClampNeg)]) hN okL_164 ⟨_, _, rfl⟩ dX12_report_124 mc_12_419 (c_X12_says (d := d + 0) hN hR p29) rfl rfl (by decide) ?_
          refine bv_aload_n dX12_report_127 0 rfl ?_
          refine bz_getA (a := 166) hN okL_164 (hR _ _ _ r0_164_6) dX12_report_128 fl_12_33 rfl ?_
          refine bv_bipush (v := 63) dX12_report_131 (by decide) ?_
          refine bz_iald (j := 63) hN rkL_166 (bm_ix_in (by decide)) (by decide) dX12_report_133 ?_
          refine bv_iload_n dX12_report_134 1 rfl ?_
          refine bw_callS (As := [.int (v28 166 63), .int x1]) dX12_report_135 mc_12_231 (c_X12_bitOf (d := d + 2) hN hR rfl) rfl rfl (by decide) ?_
          refine bw_ifB_eq (b := (f_X12_bitOf (v28 166 63) x1)) (tgt := 148) dX12_report_138 (by decide) (fun cc => ?_) (fun cc => ?_)
          · replace h := bu_bf h cc
            refine bv_aload_n dX12_report_148 0 rfl ?_
            refine bz_getI hN okL_164 dX12_report_149 fl_12_407 rfl ?_
            obtain rfl := Option.some.inj h
            exact bv_iret (x := (v28 164 32)) dX12_report_152 rfl ⟨rfl, rfl⟩
          · replace h := bu_bt h cc
            refine bv_aload_n dX12_report_141 0 rfl ?_
            refine bv_ldc2 (v := 107148367717744) dX12_report_142 cst_12_143 ?_
            obtain ⟨v30, p31, h⟩ := bu_bd h
            refine bw_callVv (As := [.long 107148367717744]) hN okL_164 ⟨_, _, rfl⟩ dX12_report_145 mc_12_419 (c_X12_says (d := d + 0) hN hR p31) rfl rfl (by decide) ?_
            refine bv_aload_n dX12_report_148 0 rfl ?_
            refine bz_getI hN okL_164 dX12_report_149 fl_12_407 rfl ?_
            obtain rfl := Option.some.inj h
            exact bv_iret (x := (v30 164 32)) dX12_report_152 rfl ⟨rfl, rfl⟩
    · replace h := bu_f h cc
      refine bv_ldc2 (v := 6840691) dX12_report_43 cst_12_151 ?_
      refine bv_goto (tgt := 52) dX12_report_46 (by decide) ?_
      obtain ⟨v32, p33, h⟩ := bu_bd h
      refine bw_callVv (As := [.long 6840691]) hN okL_164 ⟨_, _, rfl⟩ dX12_report_52 mc_12_419 (c_X12_says (d := d + 0) hN hR p33) rfl rfl (by decide) ?_
      refine bv_aload_n dX12_report_55 0 rfl ?_
      refine bz_getA (a := 166) hN okL_164 (hR _ _ _ r0_164_6) dX12_report_56 fl_12_33 rfl ?_
      refine bv_bipush (v := 90) dX12_report_59 (by decide) ?_
      refine bv_iload_n dX12_report_61 1 rfl ?_
      refine bv_iadd dX12_report_62 ?_
      refine bz_iald hN rkL_166 r6 rfl dX12_report_63 ?_
      refine bv_if_le (tgt := 88) dX12_report_64 (by decide) (fun cc => ?_) (fun cc => ?_)
      · replace h := bu_t h cc
        refine bv_aload_n dX12_report_88 0 rfl ?_
        refine bz_getA (a := 166) hN okL_164 (hR _ _ _ r0_164_6) dX12_report_89 fl_12_33 rfl ?_
        refine bv_bipush (v := 82) dX12_report_92 (by decide) ?_
        refine bv_iload_n dX12_report_94 1 rfl ?_
        refine bv_iadd dX12_report_95 ?_
        obtain ⟨r34, h⟩ := bu_ix h
        refine bz_iald hN rkL_166 r34 rfl dX12_report_96 ?_
        refine bv_if_le (tgt := 127) dX12_report_97 (by decide) (fun cc => ?_) (fun cc => ?_)
        · replace h := bu_t h cc
          refine bv_aload_n dX12_report_127 0 rfl ?_
          refine bz_getA (a := 166) hN okL_164 (hR _ _ _ r0_164_6) dX12_report_128 fl_12_33 rfl ?_
          refine bv_bipush (v := 63) dX12_report_131 (by decide) ?_
          refine bz_iald (j := 63) hN rkL_166 (bm_ix_in (by decide)) (by decide) dX12_report_133 ?_
          refine bv_iload_n dX12_report_134 1 rfl ?_
          refine bw_callS (As := [.int (v32 166 63), .int x1]) dX12_report_135 mc_12_231 (c_X12_bitOf (d := d + 2) hN hR rfl) rfl rfl (by decide) ?_
          refine bw_ifB_eq (b := (f_X12_bitOf (v32 166 63) x1)) (tgt := 148) dX12_report_138 (by decide) (fun cc => ?_) (fun cc => ?_)
          · replace h := bu_bf h cc
            refine bv_aload_n dX12_report_148 0 rfl ?_
            refine bz_getI hN okL_164 dX12_report_149 fl_12_407 rfl ?_
            obtain rfl := Option.some.inj h
            exact bv_iret (x := (v32 164 32)) dX12_report_152 rfl ⟨rfl, rfl⟩
          · replace h := bu_bt h cc
            refine bv_aload_n dX12_report_141 0 rfl ?_
            refine bv_ldc2 (v := 107148367717744) dX12_report_142 cst_12_143 ?_
            obtain ⟨v35, p36, h⟩ := bu_bd h
            refine bw_callVv (As := [.long 107148367717744]) hN okL_164 ⟨_, _, rfl⟩ dX12_report_145 mc_12_419 (c_X12_says (d := d + 0) hN hR p36) rfl rfl (by decide) ?_
            refine bv_aload_n dX12_report_148 0 rfl ?_
            refine bz_getI hN okL_164 dX12_report_149 fl_12_407 rfl ?_
            obtain rfl := Option.some.inj h
            exact bv_iret (x := (v35 164 32)) dX12_report_152 rfl ⟨rfl, rfl⟩
        · replace h := bu_f h cc
          refine bv_aload_n dX12_report_100 0 rfl ?_
          refine bv_ldc2 (v := 448377483876) dX12_report_101 cst_12_155 ?_
          obtain ⟨v37, p38, h⟩ := bu_bd h
          refine bw_callVv (As := [.long 448377483876]) hN okL_164 ⟨_, _, rfl⟩ dX12_report_104 mc_12_419 (c_X12_says (d := d + 0) hN hR p38) rfl rfl (by decide) ?_
          refine bv_aload_n dX12_report_107 0 rfl ?_
          refine bv_aload_n dX12_report_108 0 rfl ?_
          refine bz_getA (a := 170) hN okL_164 (hR _ _ _ r0_164_10) dX12_report_109 fl_12_47 rfl ?_
          refine bv_iconst (v := 4) dX12_report_112 (by decide) ?_
          refine bv_aload_n dX12_report_113 0 rfl ?_
          refine bz_getA (a := 166) hN okL_164 (hR _ _ _ r0_164_6) dX12_report_114 fl_12_33 rfl ?_
          refine bv_bipush (v := 82) dX12_report_117 (by decide) ?_
          refine bv_iload_n dX12_report_119 1 rfl ?_
          refine bv_iadd dX12_report_120 ?_
          refine bz_iald hN rkL_166 r34 rfl dX12_report_121 ?_
          refine bv_iadd dX12_report_122 ?_
          obtain ⟨r39, h⟩ := bu_ix h
          refine bz_lald hN rkL_170 r39 rfl dX12_report_123 ?_
          obtain ⟨v40, p41, h⟩ := bu_bd h
          refine bw_callVv (As := [.long (J 170 (4 + (v37 166 (82 + x1).toNatClampNeg)).toNatClampNeg)]) hN okL_164 ⟨_, _, rfl⟩ dX12_report_124 mc_12_419 (c_X12_says (d := d + 0) hN hR p41) rfl rfl (by decide) ?_
          refine bv_aload_n dX12_report_127 0 rfl ?_
          refine bz_getA (a := 166) hN okL_164 (hR _ _ _ r0_164_6) dX12_report_128 fl_12_33 rfl ?_
          refine bv_bipush (v := 63) dX12_report_131 (by decide) ?_
          refine bz_iald (j := 63) hN rkL_166 (bm_ix_in (by decide)) (by decide) dX12_report_133 ?_
          refine bv_iload_n dX12_report_134 1 rfl ?_
          refine bw_callS (As := [.int (v40 166 63), .int x1]) dX12_report_135 mc_12_231 (c_X12_bitOf (d := d + 2) hN hR rfl) rfl rfl (by decide) ?_
          refine bw_ifB_eq (b := (f_X12_bitOf (v40 166 63) x1)) (tgt := 148) dX12_report_138 (by decide) (fun cc => ?_) (fun cc => ?_)
          · replace h := bu_bf h cc
            refine bv_aload_n dX12_report_148 0 rfl ?_
            refine bz_getI hN okL_164 dX12_report_149 fl_12_407 rfl ?_
            obtain rfl := Option.some.inj h
            exact bv_iret (x := (v40 164 32)) dX12_report_152 rfl ⟨rfl, rfl⟩
          · replace h := bu_bt h cc
            refine bv_aload_n dX12_report_141 0 rfl ?_
            refine bv_ldc2 (v := 107148367717744) dX12_report_142 cst_12_143 ?_
            obtain ⟨v42, p43, h⟩ := bu_bd h
            refine bw_callVv (As := [.long 107148367717744]) hN okL_164 ⟨_, _, rfl⟩ dX12_report_145 mc_12_419 (c_X12_says (d := d + 0) hN hR p43) rfl rfl (by decide) ?_
            refine bv_aload_n dX12_report_148 0 rfl ?_
            refine bz_getI hN okL_164 dX12_report_149 fl_12_407 rfl ?_
            obtain rfl := Option.some.inj h
            exact bv_iret (x := (v42 164 32)) dX12_report_152 rfl ⟨rfl, rfl⟩
      · replace h := bu_f h cc
        refine bv_aload_n dX12_report_67 0 rfl ?_
        refine bv_aload_n dX12_report_68 0 rfl ?_
        refine bz_getA (a := 169) hN okL_164 (hR _ _ _ r0_164_9) dX12_report_69 fl_12_43 rfl ?_
        refine bv_bipush (v := 7) dX12_report_72 (by decide) ?_
        refine bv_aload_n dX12_report_74 0 rfl ?_
        refine bz_getA (a := 166) hN okL_164 (hR _ _ _ r0_164_6) dX12_report_75 fl_12_33 rfl ?_
        refine bv_bipush (v := 90) dX12_report_78 (by decide) ?_
        refine bv_iload_n dX12_report_80 1 rfl ?_
        refine bv_iadd dX12_report_81 ?_
        refine bz_iald hN rkL_166 r6 rfl dX12_report_82 ?_
        refine bv_iadd dX12_report_83 ?_
        obtain ⟨r44, h⟩ := bu_ix h
        refine bz_lald hN rkL_169 r44 rfl dX12_report_84 ?_
        obtain ⟨v45, p46, h⟩ := bu_bd h
        refine bw_callVv (As := [.long (J 169 (7 + (v32 166 (90 + x1).toNatClampNeg)).toNatClampNeg)]) hN okL_164 ⟨_, _, rfl⟩ dX12_report_85 mc_12_419 (c_X12_says (d := d + 0) hN hR p46) rfl rfl (by decide) ?_
        refine bv_aload_n dX12_report_88 0 rfl ?_
        refine bz_getA (a := 166) hN okL_164 (hR _ _ _ r0_164_6) dX12_report_89 fl_12_33 rfl ?_
        refine bv_bipush (v := 82) dX12_report_92 (by decide) ?_
        refine bv_iload_n dX12_report_94 1 rfl ?_
        refine bv_iadd dX12_report_95 ?_
        obtain ⟨r47, h⟩ := bu_ix h
        refine bz_iald hN rkL_166 r47 rfl dX12_report_96 ?_
        refine bv_if_le (tgt := 127) dX12_report_97 (by decide) (fun cc => ?_) (fun cc => ?_)
        · replace h := bu_t h cc
          refine bv_aload_n dX12_report_127 0 rfl ?_
          refine bz_getA (a := 166) hN okL_164 (hR _ _ _ r0_164_6) dX12_report_128 fl_12_33 rfl ?_
          refine bv_bipush (v := 63) dX12_report_131 (by decide) ?_
          refine bz_iald (j := 63) hN rkL_166 (bm_ix_in (by decide)) (by decide) dX12_report_133 ?_
          refine bv_iload_n dX12_report_134 1 rfl ?_
          refine bw_callS (As := [.int (v45 166 63), .int x1]) dX12_report_135 mc_12_231 (c_X12_bitOf (d := d + 2) hN hR rfl) rfl rfl (by decide) ?_
          refine bw_ifB_eq (b := (f_X12_bitOf (v45 166 63) x1)) (tgt := 148) dX12_report_138 (by decide) (fun cc => ?_) (fun cc => ?_)
          · replace h := bu_bf h cc
            refine bv_aload_n dX12_report_148 0 rfl ?_
            refine bz_getI hN okL_164 dX12_report_149 fl_12_407 rfl ?_
            obtain rfl := Option.some.inj h
            exact bv_iret (x := (v45 164 32)) dX12_report_152 rfl ⟨rfl, rfl⟩
          · replace h := bu_bt h cc
            refine bv_aload_n dX12_report_141 0 rfl ?_
            refine bv_ldc2 (v := 107148367717744) dX12_report_142 cst_12_143 ?_
            obtain ⟨v48, p49, h⟩ := bu_bd h
            refine bw_callVv (As := [.long 107148367717744]) hN okL_164 ⟨_, _, rfl⟩ dX12_report_145 mc_12_419 (c_X12_says (d := d + 0) hN hR p49) rfl rfl (by decide) ?_
            refine bv_aload_n dX12_report_148 0 rfl ?_
            refine bz_getI hN okL_164 dX12_report_149 fl_12_407 rfl ?_
            obtain rfl := Option.some.inj h
            exact bv_iret (x := (v48 164 32)) dX12_report_152 rfl ⟨rfl, rfl⟩
        · replace h := bu_f h cc
          refine bv_aload_n dX12_report_100 0 rfl ?_
          refine bv_ldc2 (v := 448377483876) dX12_report_101 cst_12_155 ?_
          obtain ⟨v50, p51, h⟩ := bu_bd h
          refine bw_callVv (As := [.long 448377483876]) hN okL_164 ⟨_, _, rfl⟩ dX12_report_104 mc_12_419 (c_X12_says (d := d + 0) hN hR p51) rfl rfl (by decide) ?_
          refine bv_aload_n dX12_report_107 0 rfl ?_
          refine bv_aload_n dX12_report_108 0 rfl ?_
          refine bz_getA (a := 170) hN okL_164 (hR _ _ _ r0_164_10) dX12_report_109 fl_12_47 rfl ?_
          refine bv_iconst (v := 4) dX12_report_112 (by decide) ?_
          refine bv_aload_n dX12_report_113 0 rfl ?_
          refine bz_getA (a := 166) hN okL_164 (hR _ _ _ r0_164_6) dX12_report_114 fl_12_33 rfl ?_
          refine bv_bipush (v := 82) dX12_report_117 (by decide) ?_
          refine bv_iload_n dX12_report_119 1 rfl ?_
          refine bv_iadd dX12_report_120 ?_
          refine bz_iald hN rkL_166 r47 rfl dX12_report_121 ?_
          refine bv_iadd dX12_report_122 ?_
          obtain ⟨r52, h⟩ := bu_ix h
          refine bz_lald hN rkL_170 r52 rfl dX12_report_123 ?_
          obtain ⟨v53, p54, h⟩ := bu_bd h
          refine bw_callVv (As := [.long (J 170 (4 + (v50 166 (82 + x1).toNatClampNeg)).toNatClampNeg)]) hN okL_164 ⟨_, _, rfl⟩ dX12_report_124 mc_12_419 (c_X12_says (d := d + 0) hN hR p54) rfl rfl (by decide) ?_
          refine bv_aload_n dX12_report_127 0 rfl ?_
          refine bz_getA (a := 166) hN okL_164 (hR _ _ _ r0_164_6) dX12_report_128 fl_12_33 rfl ?_
          refine bv_bipush (v := 63) dX12_report_131 (by decide) ?_
          refine bz_iald (j := 63) hN rkL_166 (bm_ix_in (by decide)) (by decide) dX12_report_133 ?_
          refine bv_iload_n dX12_report_134 1 rfl ?_
          refine bw_callS (As := [.int (v53 166 63), .int x1]) dX12_report_135 mc_12_231 (c_X12_bitOf (d := d + 2) hN hR rfl) rfl rfl (by decide) ?_
          refine bw_ifB_eq (b := (f_X12_bitOf (v53 166 63) x1)) (tgt := 148) dX12_report_138 (by decide) (fun cc => ?_) (fun cc => ?_)
          · replace h := bu_bf h cc
            refine bv_aload_n dX12_report_148 0 rfl ?_
            refine bz_getI hN okL_164 dX12_report_149 fl_12_407 rfl ?_
            obtain rfl := Option.some.inj h
            exact bv_iret (x := (v53 164 32)) dX12_report_152 rfl ⟨rfl, rfl⟩
          · replace h := bu_bt h cc
            refine bv_aload_n dX12_report_141 0 rfl ?_
            refine bv_ldc2 (v := 107148367717744) dX12_report_142 cst_12_143 ?_
            obtain ⟨v55, p56, h⟩ := bu_bd h
            refine bw_callVv (As := [.long 107148367717744]) hN okL_164 ⟨_, _, rfl⟩ dX12_report_145 mc_12_419 (c_X12_says (d := d + 0) hN hR p56) rfl rfl (by decide) ?_
            refine bv_aload_n dX12_report_148 0 rfl ?_
            refine bz_getI hN okL_164 dX12_report_149 fl_12_407 rfl ?_
            obtain rfl := Option.some.inj h
            exact bv_iret (x := (v55 164 32)) dX12_report_152 rfl ⟨rfl, rfl⟩
  · replace h := bu_bf h cc
    refine bv_iconst (v := (-1)) dX12_report_13 (by decide) ?_
    obtain rfl := Option.some.inj h
    exact bv_iret (x := (-1)) dX12_report_14 rfl ⟨rfl, rfl⟩
def f_X12_byteAt (I : bm_TI) (x1 : Int32) : Option (Int32 × bm_TI) := (if (f_X12_isIn x1 0 (((bm_uI I 164 0 0) 164 32) - 1)) = true then (if bm_ix 48 x1 = true then some (((bm_uI I 164 0 0) 174 x1.toNatClampNeg), (bm_uI I 164 0 0)) else none) else some ((-1), (bm_uI I 164 0 0)))
set_option maxHeartbeats 4000000 in
set_option maxRecDepth 100000 in
theorem c_X12_byteAt {lc : bm_L} {d n : Nat} {I : bm_TI} {J : bm_TJ} {R W : bm_TR} {x1 : Int32} {v : Int32 × bm_TI} (hN : 181 ≤ n) (hR : bm_RR R) (h : f_X12_byteAt I x1 = some v) : bm_C lc m_X12_byteAt (d + 1) n n [.ref 164, .int x1] (I, J, R, W) (fun r M' => r = some (.int v.1) ∧ M' = (v.2, J, R, W)) := by
  refine bm_C.ofV (by decide) (Nat.le_of_ble_eq_true rfl) ?_
  show bm_V lc m_X12_byteAt (d + 1) n n n 0 [(0, .ref 164), (1, .int x1)] [] (I, J, R, W) _
  unfold f_X12_byteAt at h
  refine bv_aload_n dX12_byteAt_0 0 rfl ?_
  refine bv_iconst (v := 0) dX12_byteAt_1 (by decide) ?_
  refine bz_putI hN okL_164 dX12_byteAt_2 fl_12_1 rfl ?_
  refine bv_iload_n dX12_byteAt_5 1 rfl ?_
  refine bv_iconst (v := 0) dX12_byteAt_6 (by decide) ?_
  refine bv_aload_n dX12_byteAt_7 0 rfl ?_
  refine bz_getI hN okL_164 dX12_byteAt_8 fl_12_407 rfl ?_
  refine bv_iconst (v := 1) dX12_byteAt_11 (by decide) ?_
  refine bv_isub dX12_byteAt_12 ?_
  refine bw_callS (As := [.int x1, .int 0, .int (((bm_uI I 164 0 0) 164 32) - 1)]) dX12_byteAt_13 mc_12_206 (c_X12_isIn (d := d + 0) hN hR rfl) rfl rfl (by decide) ?_
  refine bw_ifB_eq (b := (f_X12_isIn x1 0 (((bm_uI I 164 0 0) 164 32) - 1))) (tgt := 28) dX12_byteAt_16 (by decide) (fun cc => ?_) (fun cc => ?_)
  · replace h := bu_bf h cc
    refine bv_iconst (v := (-1)) dX12_byteAt_28 (by decide) ?_
    obtain rfl := Option.some.inj h
    exact bv_iret (x := (-1)) dX12_byteAt_29 rfl ⟨rfl, rfl⟩
  · replace h := bu_bt h cc
    refine bv_aload_n dX12_byteAt_19 0 rfl ?_
    refine bz_getA (a := 174) hN okL_164 (hR _ _ _ r0_164_31) dX12_byteAt_20 fl_12_71 rfl ?_
    refine bv_iload_n dX12_byteAt_23 1 rfl ?_
    obtain ⟨r1, h⟩ := bu_ix h
    refine bz_bald hN rkL_174 r1 rfl dX12_byteAt_24 ?_
    refine bv_goto (tgt := 29) dX12_byteAt_25 (by decide) ?_
    obtain rfl := Option.some.inj h
    exact bv_iret (x := ((bm_uI I 164 0 0) 174 x1.toNatClampNeg)) dX12_byteAt_29 rfl ⟨rfl, rfl⟩
def f_X12_draw (I : bm_TI) (x1 : Int32) : Option (Int32 × bm_TI) := (if ¬ x1 = 0 then some ((bm_rem (bm_iushr ((bm_uI I 164 33 (((I 164 33) * 1103515245) + 12345)) 164 33) 8) x1), (bm_uI I 164 33 (((I 164 33) * 1103515245) + 12345))) else none)
set_option maxHeartbeats 4000000 in
set_option maxRecDepth 100000 in
theorem c_X12_draw {lc : bm_L} {d n : Nat} {I : bm_TI} {J : bm_TJ} {R W : bm_TR} {x1 : Int32} {v : Int32 × bm_TI} (hN : 181 ≤ n) (hR : bm_RR R) (h : f_X12_draw I x1 = some v) : bm_C lc m_X12_draw d n n [.ref 164, .int x1] (I, J, R, W) (fun r M' => r = some (.int v.1) ∧ M' = (v.2, J, R, W)) := by
  refine bm_C.ofV (by decide) (Nat.le_of_ble_eq_true rfl) ?_
  show bm_V lc m_X12_draw d n n n 0 [(0, .ref 164), (1, .int x1)] [] (I, J, R, W) _
  unfold f_X12_draw at h
  refine bv_aload_n dX12_draw_0 0 rfl ?_
  refine bv_aload_n dX12_draw_1 0 rfl ?_
  refine bz_getI hN okL_164 dX12_draw_2 fl_12_422 rfl ?_
  refine bv_ldcw (v := 1103515245) dX12_draw_5 cst_12_425 ?_
  refine bv_imul dX12_draw_8 ?_
  refine bv_sipush (v := 12345) dX12_draw_9 (by decide) ?_
  refine bv_iadd dX12_draw_12 ?_
  refine bz_putI hN okL_164 dX12_draw_13 fl_12_422 rfl ?_
  refine bv_aload_n dX12_draw_16 0 rfl ?_
  refine bz_getI hN okL_164 dX12_draw_17 fl_12_422 rfl ?_
  refine bv_bipush (v := 8) dX12_draw_20 (by decide) ?_
  refine bv_iushr dX12_draw_22 ?_
  refine bv_iload_n dX12_draw_23 1 rfl ?_
  obtain ⟨z1, h⟩ := bu_gp h
  refine bv_irem dX12_draw_24 z1 ?_
  obtain rfl := Option.some.inj h
  exact bv_iret (x := (bm_rem (bm_iushr ((bm_uI I 164 33 (((I 164 33) * 1103515245) + 12345)) 164 33) 8) x1)) dX12_draw_25 rfl ⟨rfl, rfl⟩
def f_X12_drawMan (I : bm_TI) (x1 : Int32) : Option (bm_TI) := ((f_X12_draw I 8).bind fun v1 => (if v1.1 = 0 then ((f_X12_draw v1.2 3).bind fun v57 => ((f_X12_browOf v57.2 x1).bind fun v59 => (if v59 ≤ 0 then (if v1.1 = 1 then (if v1.1 = 2 then ((f_X12_draw (bm_uI v57.2 166 63 ((v57.2 166 63) ^^^ (bm_ishl 1 x1))) 4).bind fun v95 => ((f_X12_whyGo v95.2 x1 v95.1).bind fun v97 => (if v97 = 0 then ((f_X12_goes v95.2 x1 v95.1).bind fun v106 => (if v1.1 = 3 then (if (v106 166 1) ≤ 0 then some v106 else ((f_X12_draw v106 (v106 166 1)).bind fun v108 => (if bm_ix 287 (31 + x1) = true then (if (v108.2 166 (31 + x1).toNatClampNeg) = 0 then ((f_X12_browOf v108.2 x1).bind fun v111 => (if v111 ≤ 0 then some v108.2 else ((f_X12_gives v108.2 x1 v108.1).bind fun v113 => some v113))) else some v108.2) else none))) else some v106)) else (if v1.1 = 3 then (if (v95.2 166 1) ≤ 0 then some v95.2 else ((f_X12_draw v95.2 (v95.2 166 1)).bind fun v99 => (if bm_ix 287 (31 + x1) = true then (if (v99.2 166 (31 + x1).toNatClampNeg) = 0 then ((f_X12_browOf v99.2 x1).bind fun v102 => (if v102 ≤ 0 then some v99.2 else ((f_X12_gives v99.2 x1 v99.1).bind fun v104 => some v104))) else some v99.2) else none))) else some v95.2)))) else (if v1.1 = 3 then (if ((bm_uI v57.2 166 63 ((v57.2 166 63) ^^^ (bm_ishl 1 x1))) 166 1) ≤ 0 then some (bm_uI v57.2 166 63 ((v57.2 166 63) ^^^ (bm_ishl 1 x1))) else ((f_X12_draw (bm_uI v57.2 166 63 ((v57.2 166 63) ^^^ (bm_ishl 1 x1))) ((bm_uI v57.2 166 63 ((v57.2 166 63) ^^^ (bm_ishl 1 x1))) 166 1)).bind fun v88 => (if bm_ix 287 (31 + x1) = true then (if (v88.2 166 (31 + x1).toNatClampNeg) = 0 then ((f_X12_browOf v88.2 x1).bind fun v91 => (if v91 ≤ 0 then some v88.2 else ((f_X12_gives v88.2 x1 v88.1).bind fun v93 => some v93))) else some v88.2) else none))) else some (bm_uI v57.2 166 63 ((v57.2 166 63) ^^^ (bm_ishl 1 x1))))) else (if v1.1 = 2 then ((f_X12_draw v57.2 4).bind fun v68 => ((f_X12_whyGo v68.2 x1 v68.1).bind fun v70 => (if v70 = 0 then ((f_X12_goes v68.2 x1 v68.1).bind fun v79 => (if v1.1 = 3 then (if (v79 166 1) ≤ 0 then some v79 else ((f_X12_draw v79 (v79 166 1)).bind fun v81 => (if bm_ix 287 (31 + x1) = true then (if (v81.2 166 (31 + x1).toNatClampNeg) = 0 then ((f_X12_browOf v81.2 x1).bind fun v84 => (if v84 ≤ 0 then some v81.2 else ((f_X12_gives v81.2 x1 v81.1).bind fun v86 => some v86))) else some v81.2) else none))) else some v79)) else (if v1.1 = 3 then (if (v68.2 166 1) ≤ 0 then some v68.2 else ((f_X12_draw v68.2 (v68.2 166 1)).bind fun v72 => (if bm_ix 287 (31 + x1) = true then (if (v72.2 166 (31 + x1).toNatClampNeg) = 0 then ((f_X12_browOf v72.2 x1).bind fun v75 => (if v75 ≤ 0 then some v72.2 else ((f_X12_gives v72.2 x1 v72.1).bind fun v77 => some v77))) else some v72.2) else none))) else some v68.2)))) else (if v1.1 = 3 then (if (v57.2 166 1) ≤ 0 then some v57.2 else ((f_X12_draw v57.2 (v57.2 166 1)).bind fun v61 => (if bm_ix 287 (31 + x1) = true then (if (v61.2 166 (31 + x1).toNatClampNeg) = 0 then ((f_X12_browOf v61.2 x1).bind fun v64 => (if v64 ≤ 0 then some v61.2 else ((f_X12_gives v61.2 x1 v61.1).bind fun v66 => some v66))) else some v61.2) else none))) else some v57.2))) else ((f_X12_lifts v57.2 x1 (v57.1 + 1)).bind fun v115 => (if v1.1 = 1 then (if v1.1 = 2 then ((f_X12_draw (bm_uI v115 166 63 ((v115 166 63) ^^^ (bm_ishl 1 x1))) 4).bind fun v151 => ((f_X12_whyGo v151.2 x1 v151.1).bind fun v153 => (if v153 = 0 then ((f_X12_goes v151.2 x1 v151.1).bind fun v162 => (if v1.1 = 3 then (if (v162 166 1) ≤ 0 then some v162 else ((f_X12_draw v162 (v162 166 1)).bind fun v164 => (if bm_ix 287 (31 + x1) = true then (if (v164.2 166 (31 + x1).toNatClampNeg) = 0 then ((f_X12_browOf v164.2 x1).bind fun v167 => (if v167 ≤ 0 then some v164.2 else ((f_X12_gives v164.2 x1 v164.1).bind fun v169 => some v169))) else some v164.2) else none))) else some v162)) else (if v1.1 = 3 then (if (v151.2 166 1) ≤ 0 then some v151.2 else ((f_X12_draw v151.2 (v151.2 166 1)).bind fun v155 => (if bm_ix 287 (31 + x1) = true then (if (v155.2 166 (31 + x1).toNatClampNeg) = 0 then ((f_X12_browOf v155.2 x1).bind fun v158 => (if v158 ≤ 0 then some v155.2 else ((f_X12_gives v155.2 x1 v155.1).bind fun v160 => some v160))) else some v155.2) else none))) else some v151.2)))) else (if v1.1 = 3 then (if ((bm_uI v115 166 63 ((v115 166 63) ^^^ (bm_ishl 1 x1))) 166 1) ≤ 0 then some (bm_uI v115 166 63 ((v115 166 63) ^^^ (bm_ishl 1 x1))) else ((f_X12_draw (bm_uI v115 166 63 ((v115 166 63) ^^^ (bm_ishl 1 x1))) ((bm_uI v115 166 63 ((v115 166 63) ^^^ (bm_ishl 1 x1))) 166 1)).bind fun v144 => (if bm_ix 287 (31 + x1) = true then (if (v144.2 166 (31 + x1).toNatClampNeg) = 0 then ((f_X12_browOf v144.2 x1).bind fun v147 => (if v147 ≤ 0 then some v144.2 else ((f_X12_gives v144.2 x1 v144.1).bind fun v149 => some v149))) else some v144.2) else none))) else some (bm_uI v115 166 63 ((v115 166 63) ^^^ (bm_ishl 1 x1))))) else (if v1.1 = 2 then ((f_X12_draw v115 4).bind fun v124 => ((f_X12_whyGo v124.2 x1 v124.1).bind fun v126 => (if v126 = 0 then ((f_X12_goes v124.2 x1 v124.1).bind fun v135 => (if v1.1 = 3 then (if (v135 166 1) ≤ 0 then some v135 else ((f_X12_draw v135 (v135 166 1)).bind fun v137 => (if bm_ix 287 (31 + x1) = true then (if (v137.2 166 (31 + x1).toNatClampNeg) = 0 then ((f_X12_browOf v137.2 x1).bind fun v140 => (if v140 ≤ 0 then some v137.2 else ((f_X12_gives v137.2 x1 v137.1).bind fun v142 => some v142))) else some v137.2) else none))) else some v135)) else (if v1.1 = 3 then (if (v124.2 166 1) ≤ 0 then some v124.2 else ((f_X12_draw v124.2 (v124.2 166 1)).bind fun v128 => (if bm_ix 287 (31 + x1) = true then (if (v128.2 166 (31 + x1).toNatClampNeg) = 0 then ((f_X12_browOf v128.2 x1).bind fun v131 => (if v131 ≤ 0 then some v128.2 else ((f_X12_gives v128.2 x1 v128.1).bind fun v133 => some v133))) else some v128.2) else none))) else some v124.2)))) else (if v1.1 = 3 then (if (v115 166 1) ≤ 0 then some v115 else ((f_X12_draw v115 (v115 166 1)).bind fun v117 => (if bm_ix 287 (31 + x1) = true then (if (v117.2 166 (31 + x1).toNatClampNeg) = 0 then ((f_X12_browOf v117.2 x1).bind fun v120 => (if v120 ≤ 0 then some v117.2 else ((f_X12_gives v117.2 x1 v117.1).bind fun v122 => some v122))) else some v117.2) else none))) else some v115))))))) else (if v1.1 = 1 then (if v1.1 = 2 then ((f_X12_draw (bm_uI v1.2 166 63 ((v1.2 166 63) ^^^ (bm_ishl 1 x1))) 4).bind fun v37 => ((f_X12_whyGo v37.2 x1 v37.1).bind fun v39 => (if v39 = 0 then ((f_X12_goes v37.2 x1 v37.1).bind fun v48 => (if v1.1 = 3 then (if (v48 166 1) ≤ 0 then some v48 else ((f_X12_draw v48 (v48 166 1)).bind fun v50 => (if bm_ix 287 (31 + x1) = true then (if (v50.2 166 (31 + x1).toNatClampNeg) = 0 then ((f_X12_browOf v50.2 x1).bind fun v53 => (if v53 ≤ 0 then some v50.2 else ((f_X12_gives v50.2 x1 v50.1).bind fun v55 => some v55))) else some v50.2) else none))) else some v48)) else (if v1.1 = 3 then (if (v37.2 166 1) ≤ 0 then some v37.2 else ((f_X12_draw v37.2 (v37.2 166 1)).bind fun v41 => (if bm_ix 287 (31 + x1) = true then (if (v41.2 166 (31 + x1).toNatClampNeg) = 0 then ((f_X12_browOf v41.2 x1).bind fun v44 => (if v44 ≤ 0 then some v41.2 else ((f_X12_gives v41.2 x1 v41.1).bind fun v46 => some v46))) else some v41.2) else none))) else some v37.2)))) else (if v1.1 = 3 then (if ((bm_uI v1.2 166 63 ((v1.2 166 63) ^^^ (bm_ishl 1 x1))) 166 1) ≤ 0 then some (bm_uI v1.2 166 63 ((v1.2 166 63) ^^^ (bm_ishl 1 x1))) else ((f_X12_draw (bm_uI v1.2 166 63 ((v1.2 166 63) ^^^ (bm_ishl 1 x1))) ((bm_uI v1.2 166 63 ((v1.2 166 63) ^^^ (bm_ishl 1 x1))) 166 1)).bind fun v30 => (if bm_ix 287 (31 + x1) = true then (if (v30.2 166 (31 + x1).toNatClampNeg) = 0 then ((f_X12_browOf v30.2 x1).bind fun v33 => (if v33 ≤ 0 then some v30.2 else ((f_X12_gives v30.2 x1 v30.1).bind fun v35 => some v35))) else some v30.2) else none))) else some (bm_uI v1.2 166 63 ((v1.2 166 63) ^^^ (bm_ishl 1 x1))))) else (if v1.1 = 2 then ((f_X12_draw v1.2 4).bind fun v10 => ((f_X12_whyGo v10.2 x1 v10.1).bind fun v12 => (if v12 = 0 then ((f_X12_goes v10.2 x1 v10.1).bind fun v21 => (if v1.1 = 3 then (if (v21 166 1) ≤ 0 then some v21 else ((f_X12_draw v21 (v21 166 1)).bind fun v23 => (if bm_ix 287 (31 + x1) = true then (if (v23.2 166 (31 + x1).toNatClampNeg) = 0 then ((f_X12_browOf v23.2 x1).bind fun v26 => (if v26 ≤ 0 then some v23.2 else ((f_X12_gives v23.2 x1 v23.1).bind fun v28 => some v28))) else some v23.2) else none))) else some v21)) else (if v1.1 = 3 then (if (v10.2 166 1) ≤ 0 then some v10.2 else ((f_X12_draw v10.2 (v10.2 166 1)).bind fun v14 => (if bm_ix 287 (31 + x1) = true then (if (v14.2 166 (31 + x1).toNatClampNeg) = 0 then ((f_X12_browOf v14.2 x1).bind fun v17 => (if v17 ≤ 0 then some v14.2 else ((f_X12_gives v14.2 x1 v14.1).bind fun v19 => some v19))) else some v14.2) else none))) else some v10.2)))) else (if v1.1 = 3 then (if (v1.2 166 1) ≤ 0 then some v1.2 else ((f_X12_draw v1.2 (v1.2 166 1)).bind fun v3 => (if bm_ix 287 (31 + x1) = true then (if (v3.2 166 (31 + x1).toNatClampNeg) = 0 then ((f_X12_browOf v3.2 x1).bind fun v6 => (if v6 ≤ 0 then some v3.2 else ((f_X12_gives v3.2 x1 v3.1).bind fun v8 => some v8))) else some v3.2) else none))) else some v1.2)))))
set_option maxHeartbeats 4000000 in
set_option maxRecDepth 100000 in
theorem c_X12_drawMan {lc : bm_L} {d n : Nat} {I : bm_TI} {J : bm_TJ} {R W : bm_TR} {x1 : Int32} {v : bm_TI} (hN : 181 ≤ n) (hR : bm_RR R) (h : f_X12_drawMan I x1 = some v) : bm_C lc m_X12_drawMan (d + 8) n n [.ref 164, .int x1] (I, J, R, W) (fun r M' => r = none ∧ M' = (v, J, R, W)) := by
  refine bm_C.ofV (by decide) (Nat.le_of_ble_eq_true rfl) ?_
  show bm_V lc m_X12_drawMan (d + 8) n n n 0 [(0, .ref 164), (1, .int x1)] [] (I, J, R, W) _
  unfold f_X12_drawMan at h
  refine bv_aload_n dX12_drawMan_0 0 rfl ?_
  refine bv_bipush (v := 8) dX12_drawMan_1 (by decide) ?_
  obtain ⟨v1, p2, h⟩ := bu_bd h
  refine bw_callV (As := [.int 8]) hN okL_164 ⟨_, _, rfl⟩ dX12_drawMan_3 mc_12_426 (c_X12_draw (d := d + 7) hN hR p2) rfl rfl (by decide) ?_
  refine bv_istore_n (ls1 := [(0, .ref 164), (1, .int x1), (2, .int v1.1)]) dX12_drawMan_6 (by decide) rfl rfl ?_
  refine bv_iload_n dX12_drawMan_7 2 rfl ?_
  refine bv_if_ne (tgt := 33) dX12_drawMan_8 (by decide) (fun cc => ?_) (fun cc => ?_)
  · replace h := bu_f h cc
    refine bv_iload_n dX12_drawMan_33 2 rfl ?_
    refine bv_iconst (v := 1) dX12_drawMan_34 (by decide) ?_
    refine bv_icmp_ne (tgt := 51) dX12_drawMan_35 (by decide) (fun cc => ?_) (fun cc => ?_)
    · replace h := bu_f h cc
      refine bv_iload_n dX12_drawMan_51 2 rfl ?_
      refine bv_iconst (v := 2) dX12_drawMan_52 (by decide) ?_
      refine bv_icmp_ne (tgt := 77) dX12_drawMan_53 (by decide) (fun cc => ?_) (fun cc => ?_)
      · replace h := bu_f h cc
        refine bv_iload_n dX12_drawMan_77 2 rfl ?_
        refine bv_iconst (v := 3) dX12_drawMan_78 (by decide) ?_
        refine bv_icmp_ne (tgt := 128) dX12_drawMan_79 (by decide) (fun cc => ?_) (fun cc => ?_)
        · replace h := bu_f h cc
          obtain rfl := Option.some.inj h
          exact bv_vret dX12_drawMan_128 rfl ⟨rfl, rfl⟩
        · replace h := bu_t h cc
          refine bv_aload_n dX12_drawMan_82 0 rfl ?_
          refine bz_getA (a := 166) hN okL_164 (hR _ _ _ r0_164_6) dX12_drawMan_83 fl_12_33 rfl ?_
          refine bv_iconst (v := 1) dX12_drawMan_86 (by decide) ?_
          refine bz_iald (j := 1) hN rkL_166 (bm_ix_in (by decide)) (by decide) dX12_drawMan_87 ?_
          refine bv_if_le (tgt := 128) dX12_drawMan_88 (by decide) (fun cc => ?_) (fun cc => ?_)
          · replace h := bu_t h cc
            obtain rfl := Option.some.inj h
            exact bv_vret dX12_drawMan_128 rfl ⟨rfl, rfl⟩
          · replace h := bu_f h cc
            refine bv_aload_n dX12_drawMan_91 0 rfl ?_
            refine bv_aload_n dX12_drawMan_92 0 rfl ?_
            refine bz_getA (a := 166) hN okL_164 (hR _ _ _ r0_164_6) dX12_drawMan_93 fl_12_33 rfl ?_
            refine bv_iconst (v := 1) dX12_drawMan_96 (by decide) ?_
            refine bz_iald (j := 1) hN rkL_166 (bm_ix_in (by decide)) (by decide) dX12_drawMan_97 ?_
            obtain ⟨v3, p4, h⟩ := bu_bd h
            refine bw_callV (As := [.int (v1.2 166 1)]) hN okL_164 ⟨_, _, rfl⟩ dX12_drawMan_98 mc_12_426 (c_X12_draw (d := d + 7) hN hR p4) rfl rfl (by decide) ?_
            refine bv_istore_n (ls1 := [(0, .ref 164), (1, .int x1), (2, .int v1.1), (3, .int v3.1)]) dX12_drawMan_101 (by decide) rfl rfl ?_
            refine bv_aload_n dX12_drawMan_102 0 rfl ?_
            refine bz_getA (a := 166) hN okL_164 (hR _ _ _ r0_164_6) dX12_drawMan_103 fl_12_33 rfl ?_
            refine bv_bipush (v := 31) dX12_drawMan_106 (by decide) ?_
            refine bv_iload_n dX12_drawMan_108 1 rfl ?_
            refine bv_iadd dX12_drawMan_109 ?_
            obtain ⟨r5, h⟩ := bu_ix h
            refine bz_iald hN rkL_166 r5 rfl dX12_drawMan_110 ?_
            refine bv_if_ne (tgt := 128) dX12_drawMan_111 (by decide) (fun cc => ?_) (fun cc => ?_)
            · replace h := bu_f h cc
              obtain rfl := Option.some.inj h
              exact bv_vret dX12_drawMan_128 rfl ⟨rfl, rfl⟩
            · replace h := bu_t h cc
              refine bv_aload_n dX12_drawMan_114 0 rfl ?_
              refine bv_iload_n dX12_drawMan_115 1 rfl ?_
              obtain ⟨v6, p7, h⟩ := bu_bd h
              refine bw_callV (As := [.int x1]) hN okL_164 ⟨_, _, rfl⟩ dX12_drawMan_116 mc_12_290 (c_X12_browOf (d := d + 6) hN hR p7) rfl rfl (by decide) ?_
              refine bv_if_le (tgt := 128) dX12_drawMan_119 (by decide) (fun cc => ?_) (fun cc => ?_)
              · replace h := bu_t h cc
                obtain rfl := Option.some.inj h
                exact bv_vret dX12_drawMan_128 rfl ⟨rfl, rfl⟩
              · replace h := bu_f h cc
                refine bv_aload_n dX12_drawMan_122 0 rfl ?_
                refine bv_iload_n dX12_drawMan_123 1 rfl ?_
                refine bv_iload_n dX12_drawMan_124 3 rfl ?_
                obtain ⟨v8, p9, h⟩ := bu_bd h
                refine bw_callVv (As := [.int x1, .int v3.1]) hN okL_164 ⟨_, _, rfl⟩ dX12_drawMan_125 mc_12_332 (c_X12_gives (d := d + 0) hN hR p9) rfl rfl (by decide) ?_
                obtain rfl := Option.some.inj h
                exact bv_vret dX12_drawMan_128 rfl ⟨rfl, rfl⟩
      · replace h := bu_t h cc
        refine bv_aload_n dX12_drawMan_56 0 rfl ?_
        refine bv_iconst (v := 4) dX12_drawMan_57 (by decide) ?_
        obtain ⟨v10, p11, h⟩ := bu_bd h
        refine bw_callV (As := [.int 4]) hN okL_164 ⟨_, _, rfl⟩ dX12_drawMan_58 mc_12_426 (c_X12_draw (d := d + 7) hN hR p11) rfl rfl (by decide) ?_
        refine bv_istore_n (ls1 := [(0, .ref 164), (1, .int x1), (2, .int v1.1), (3, .int v10.1)]) dX12_drawMan_61 (by decide) rfl rfl ?_
        refine bv_aload_n dX12_drawMan_62 0 rfl ?_
        refine bv_iload_n dX12_drawMan_63 1 rfl ?_
        refine bv_iload_n dX12_drawMan_64 3 rfl ?_
        obtain ⟨v12, p13, h⟩ := bu_bd h
        refine bw_callV (As := [.int x1, .int v10.1]) hN okL_164 ⟨_, _, rfl⟩ dX12_drawMan_65 mc_12_351 (c_X12_whyGo (d := d + 6) hN hR p13) rfl rfl (by decide) ?_
        refine bv_if_ne (tgt := 77) dX12_drawMan_68 (by decide) (fun cc => ?_) (fun cc => ?_)
        · replace h := bu_f h cc
          refine bv_iload_n dX12_drawMan_77 2 rfl ?_
          refine bv_iconst (v := 3) dX12_drawMan_78 (by decide) ?_
          refine bv_icmp_ne (tgt := 128) dX12_drawMan_79 (by decide) (fun cc => ?_) (fun cc => ?_)
          · replace h := bu_f h cc
            obtain rfl := Option.some.inj h
            exact bv_vret dX12_drawMan_128 rfl ⟨rfl, rfl⟩
          · replace h := bu_t h cc
            refine bv_aload_n dX12_drawMan_82 0 rfl ?_
            refine bz_getA (a := 166) hN okL_164 (hR _ _ _ r0_164_6) dX12_drawMan_83 fl_12_33 rfl ?_
            refine bv_iconst (v := 1) dX12_drawMan_86 (by decide) ?_
            refine bz_iald (j := 1) hN rkL_166 (bm_ix_in (by decide)) (by decide) dX12_drawMan_87 ?_
            refine bv_if_le (tgt := 128) dX12_drawMan_88 (by decide) (fun cc => ?_) (fun cc => ?_)
            · replace h := bu_t h cc
              obtain rfl := Option.some.inj h
              exact bv_vret dX12_drawMan_128 rfl ⟨rfl, rfl⟩
            · replace h := bu_f h cc
              refine bv_aload_n dX12_drawMan_91 0 rfl ?_
              refine bv_aload_n dX12_drawMan_92 0 rfl ?_
              refine bz_getA (a := 166) hN okL_164 (hR _ _ _ r0_164_6) dX12_drawMan_93 fl_12_33 rfl ?_
              refine bv_iconst (v := 1) dX12_drawMan_96 (by decide) ?_
              refine bz_iald (j := 1) hN rkL_166 (bm_ix_in (by decide)) (by decide) dX12_drawMan_97 ?_
              obtain ⟨v14, p15, h⟩ := bu_bd h
              refine bw_callV (As := [.int (v10.2 166 1)]) hN okL_164 ⟨_, _, rfl⟩ dX12_drawMan_98 mc_12_426 (c_X12_draw (d := d + 7) hN hR p15) rfl rfl (by decide) ?_
              refine bv_istore_n (ls1 := [(0, .ref 164), (1, .int x1), (2, .int v1.1), (3, .int v14.1)]) dX12_drawMan_101 (by decide) rfl rfl ?_
              refine bv_aload_n dX12_drawMan_102 0 rfl ?_
              refine bz_getA (a := 166) hN okL_164 (hR _ _ _ r0_164_6) dX12_drawMan_103 fl_12_33 rfl ?_
              refine bv_bipush (v := 31) dX12_drawMan_106 (by decide) ?_
              refine bv_iload_n dX12_drawMan_108 1 rfl ?_
              refine bv_iadd dX12_drawMan_109 ?_
              obtain ⟨r16, h⟩ := bu_ix h
              refine bz_iald hN rkL_166 r16 rfl dX12_drawMan_110 ?_
              refine bv_if_ne (tgt := 128) dX12_drawMan_111 (by decide) (fun cc => ?_) (fun cc => ?_)
              · replace h := bu_f h cc
                obtain rfl := Option.some.inj h
                exact bv_vret dX12_drawMan_128 rfl ⟨rfl, rfl⟩
              · replace h := bu_t h cc
                refine bv_aload_n dX12_drawMan_114 0 rfl ?_
                refine bv_iload_n dX12_drawMan_115 1 rfl ?_
                obtain ⟨v17, p18, h⟩ := bu_bd h
                refine bw_callV (As := [.int x1]) hN okL_164 ⟨_, _, rfl⟩ dX12_drawMan_116 mc_12_290 (c_X12_browOf (d := d + 6) hN hR p18) rfl rfl (by decide) ?_
                refine bv_if_le (tgt := 128) dX12_drawMan_119 (by decide) (fun cc => ?_) (fun cc => ?_)
                · replace h := bu_t h cc
                  obtain rfl := Option.some.inj h
                  exact bv_vret dX12_drawMan_128 rfl ⟨rfl, rfl⟩
                · replace h := bu_f h cc
                  refine bv_aload_n dX12_drawMan_122 0 rfl ?_
                  refine bv_iload_n dX12_drawMan_123 1 rfl ?_
                  refine bv_iload_n dX12_drawMan_124 3 rfl ?_
                  obtain ⟨v19, p20, h⟩ := bu_bd h
                  refine bw_callVv (As := [.int x1, .int v14.1]) hN okL_164 ⟨_, _, rfl⟩ dX12_drawMan_125 mc_12_332 (c_X12_gives (d := d + 0) hN hR p20) rfl rfl (by decide) ?_
                  obtain rfl := Option.some.inj h
                  exact bv_vret dX12_drawMan_128 rfl ⟨rfl, rfl⟩
        · replace h := bu_t h cc
          refine bv_aload_n dX12_drawMan_71 0 rfl ?_
          refine bv_iload_n dX12_drawMan_72 1 rfl ?_
          refine bv_iload_n dX12_drawMan_73 3 rfl ?_
          obtain ⟨v21, p22, h⟩ := bu_bd h
          refine bw_callVv (As := [.int x1, .int v10.1]) hN okL_164 ⟨_, _, rfl⟩ dX12_drawMan_74 mc_12_354 (c_X12_goes (d := d + 6) hN hR p22) rfl rfl (by decide) ?_
          refine bv_iload_n dX12_drawMan_77 2 rfl ?_
          refine bv_iconst (v := 3) dX12_drawMan_78 (by decide) ?_
          refine bv_icmp_ne (tgt := 128) dX12_drawMan_79 (by decide) (fun cc => ?_) (fun cc => ?_)
          · replace h := bu_f h cc
            obtain rfl := Option.some.inj h
            exact bv_vret dX12_drawMan_128 rfl ⟨rfl, rfl⟩
          · replace h := bu_t h cc
            refine bv_aload_n dX12_drawMan_82 0 rfl ?_
            refine bz_getA (a := 166) hN okL_164 (hR _ _ _ r0_164_6) dX12_drawMan_83 fl_12_33 rfl ?_
            refine bv_iconst (v := 1) dX12_drawMan_86 (by decide) ?_
            refine bz_iald (j := 1) hN rkL_166 (bm_ix_in (by decide)) (by decide) dX12_drawMan_87 ?_
            refine bv_if_le (tgt := 128) dX12_drawMan_88 (by decide) (fun cc => ?_) (fun cc => ?_)
            · replace h := bu_t h cc
              obtain rfl := Option.some.inj h
              exact bv_vret dX12_drawMan_128 rfl ⟨rfl, rfl⟩
            · replace h := bu_f h cc
              refine bv_aload_n dX12_drawMan_91 0 rfl ?_
              refine bv_aload_n dX12_drawMan_92 0 rfl ?_
              refine bz_getA (a := 166) hN okL_164 (hR _ _ _ r0_164_6) dX12_drawMan_93 fl_12_33 rfl ?_
              refine bv_iconst (v := 1) dX12_drawMan_96 (by decide) ?_
              refine bz_iald (j := 1) hN rkL_166 (bm_ix_in (by decide)) (by decide) dX12_drawMan_97 ?_
              obtain ⟨v23, p24, h⟩ := bu_bd h
              refine bw_callV (As := [.int (v21 166 1)]) hN okL_164 ⟨_, _, rfl⟩ dX12_drawMan_98 mc_12_426 (c_X12_draw (d := d + 7) hN hR p24) rfl rfl (by decide) ?_
              refine bv_istore_n (ls1 := [(0, .ref 164), (1, .int x1), (2, .int v1.1), (3, .int v23.1)]) dX12_drawMan_101 (by decide) rfl rfl ?_
              refine bv_aload_n dX12_drawMan_102 0 rfl ?_
              refine bz_getA (a := 166) hN okL_164 (hR _ _ _ r0_164_6) dX12_drawMan_103 fl_12_33 rfl ?_
              refine bv_bipush (v := 31) dX12_drawMan_106 (by decide) ?_
              refine bv_iload_n dX12_drawMan_108 1 rfl ?_
              refine bv_iadd dX12_drawMan_109 ?_
              obtain ⟨r25, h⟩ := bu_ix h
              refine bz_iald hN rkL_166 r25 rfl dX12_drawMan_110 ?_
              refine bv_if_ne (tgt := 128) dX12_drawMan_111 (by decide) (fun cc => ?_) (fun cc => ?_)
              · replace h := bu_f h cc
                obtain rfl := Option.some.inj h
                exact bv_vret dX12_drawMan_128 rfl ⟨rfl, rfl⟩
              · replace h := bu_t h cc
                refine bv_aload_n dX12_drawMan_114 0 rfl ?_
                refine bv_iload_n dX12_drawMan_115 1 rfl ?_
                obtain ⟨v26, p27, h⟩ := bu_bd h
                refine bw_callV (As := [.int x1]) hN okL_164 ⟨_, _, rfl⟩ dX12_drawMan_116 mc_12_290 (c_X12_browOf (d := d + 6) hN hR p27) rfl rfl (by decide) ?_
                refine bv_if_le (tgt := 128) dX12_drawMan_119 (by decide) (fun cc => ?_) (fun cc => ?_)
                · replace h := bu_t h cc
                  obtain rfl := Option.some.inj h
                  exact bv_vret dX12_drawMan_128 rfl ⟨rfl, rfl⟩
                · replace h := bu_f h cc
                  refine bv_aload_n dX12_drawMan_122 0 rfl ?_
                  refine bv_iload_n dX12_drawMan_123 1 rfl ?_
                  refine bv_iload_n dX12_drawMan_124 3 rfl ?_
                  obtain ⟨v28, p29, h⟩ := bu_bd h
                  refine bw_callVv (As := [.int x1, .int v23.1]) hN okL_164 ⟨_, _, rfl⟩ dX12_drawMan_125 mc_12_332 (c_X12_gives (d := d + 0) hN hR p29) rfl rfl (by decide) ?_
                  obtain rfl := Option.some.inj h
                  exact bv_vret dX12_drawMan_128 rfl ⟨rfl, rfl⟩
    · replace h := bu_t h cc
      refine bv_aload_n dX12_drawMan_38 0 rfl ?_
      refine bz_getA (a := 166) hN okL_164 (hR _ _ _ r0_164_6) dX12_drawMan_39 fl_12_33 rfl ?_
      refine bv_bipush (v := 63) dX12_drawMan_42 (by decide) ?_
      refine bv_dup2 dX12_drawMan_44 rfl rfl ?_
      refine bz_iald (j := 63) hN rkL_166 (bm_ix_in (by decide)) (by decide) dX12_drawMan_45 ?_
      refine bv_iconst (v := 1) dX12_drawMan_46 (by decide) ?_
      refine bv_iload_n dX12_drawMan_47 1 rfl ?_
      refine bv_ishl dX12_drawMan_48 ?_
      refine bv_ixor dX12_drawMan_49 ?_
      refine bz_iast (j := 63) hN rkL_166 (bm_ix_in (by decide)) (by decide) dX12_drawMan_50 ?_
      refine bv_iload_n dX12_drawMan_51 2 rfl ?_
      refine bv_iconst (v := 2) dX12_drawMan_52 (by decide) ?_
      refine bv_icmp_ne (tgt := 77) dX12_drawMan_53 (by decide) (fun cc => ?_) (fun cc => ?_)
      · replace h := bu_f h cc
        refine bv_iload_n dX12_drawMan_77 2 rfl ?_
        refine bv_iconst (v := 3) dX12_drawMan_78 (by decide) ?_
        refine bv_icmp_ne (tgt := 128) dX12_drawMan_79 (by decide) (fun cc => ?_) (fun cc => ?_)
        · replace h := bu_f h cc
          obtain rfl := Option.some.inj h
          exact bv_vret dX12_drawMan_128 rfl ⟨rfl, rfl⟩
        · replace h := bu_t h cc
          refine bv_aload_n dX12_drawMan_82 0 rfl ?_
          refine bz_getA (a := 166) hN okL_164 (hR _ _ _ r0_164_6) dX12_drawMan_83 fl_12_33 rfl ?_
          refine bv_iconst (v := 1) dX12_drawMan_86 (by decide) ?_
          refine bz_iald (j := 1) hN rkL_166 (bm_ix_in (by decide)) (by decide) dX12_drawMan_87 ?_
          refine bv_if_le (tgt := 128) dX12_drawMan_88 (by decide) (fun cc => ?_) (fun cc => ?_)
          · replace h := bu_t h cc
            obtain rfl := Option.some.inj h
            exact bv_vret dX12_drawMan_128 rfl ⟨rfl, rfl⟩
          · replace h := bu_f h cc
            refine bv_aload_n dX12_drawMan_91 0 rfl ?_
            refine bv_aload_n dX12_drawMan_92 0 rfl ?_
            refine bz_getA (a := 166) hN okL_164 (hR _ _ _ r0_164_6) dX12_drawMan_93 fl_12_33 rfl ?_
            refine bv_iconst (v := 1) dX12_drawMan_96 (by decide) ?_
            refine bz_iald (j := 1) hN rkL_166 (bm_ix_in (by decide)) (by decide) dX12_drawMan_97 ?_
            obtain ⟨v30, p31, h⟩ := bu_bd h
            refine bw_callV (As := [.int ((bm_uI v1.2 166 63 ((v1.2 166 63) ^^^ (bm_ishl 1 x1))) 166 1)]) hN okL_164 ⟨_, _, rfl⟩ dX12_drawMan_98 mc_12_426 (c_X12_draw (d := d + 7) hN hR p31) rfl rfl (by decide) ?_
            refine bv_istore_n (ls1 := [(0, .ref 164), (1, .int x1), (2, .int v1.1), (3, .int v30.1)]) dX12_drawMan_101 (by decide) rfl rfl ?_
            refine bv_aload_n dX12_drawMan_102 0 rfl ?_
            refine bz_getA (a := 166) hN okL_164 (hR _ _ _ r0_164_6) dX12_drawMan_103 fl_12_33 rfl ?_
            refine bv_bipush (v := 31) dX12_drawMan_106 (by decide) ?_
            refine bv_iload_n dX12_drawMan_108 1 rfl ?_
            refine bv_iadd dX12_drawMan_109 ?_
            obtain ⟨r32, h⟩ := bu_ix h
            refine bz_iald hN rkL_166 r32 rfl dX12_drawMan_110 ?_
            refine bv_if_ne (tgt := 128) dX12_drawMan_111 (by decide) (fun cc => ?_) (fun cc => ?_)
            · replace h := bu_f h cc
              obtain rfl := Option.some.inj h
              exact bv_vret dX12_drawMan_128 rfl ⟨rfl, rfl⟩
            · replace h := bu_t h cc
              refine bv_aload_n dX12_drawMan_114 0 rfl ?_
              refine bv_iload_n dX12_drawMan_115 1 rfl ?_
              obtain ⟨v33, p34, h⟩ := bu_bd h
              refine bw_callV (As := [.int x1]) hN okL_164 ⟨_, _, rfl⟩ dX12_drawMan_116 mc_12_290 (c_X12_browOf (d := d + 6) hN hR p34) rfl rfl (by decide) ?_
              refine bv_if_le (tgt := 128) dX12_drawMan_119 (by decide) (fun cc => ?_) (fun cc => ?_)
              · replace h := bu_t h cc
                obtain rfl := Option.some.inj h
                exact bv_vret dX12_drawMan_128 rfl ⟨rfl, rfl⟩
              · replace h := bu_f h cc
                refine bv_aload_n dX12_drawMan_122 0 rfl ?_
                refine bv_iload_n dX12_drawMan_123 1 rfl ?_
                refine bv_iload_n dX12_drawMan_124 3 rfl ?_
                obtain ⟨v35, p36, h⟩ := bu_bd h
                refine bw_callVv (As := [.int x1, .int v30.1]) hN okL_164 ⟨_, _, rfl⟩ dX12_drawMan_125 mc_12_332 (c_X12_gives (d := d + 0) hN hR p36) rfl rfl (by decide) ?_
                obtain rfl := Option.some.inj h
                exact bv_vret dX12_drawMan_128 rfl ⟨rfl, rfl⟩
      · replace h := bu_t h cc
        refine bv_aload_n dX12_drawMan_56 0 rfl ?_
        refine bv_iconst (v := 4) dX12_drawMan_57 (by decide) ?_
        obtain ⟨v37, p38, h⟩ := bu_bd h
        refine bw_callV (As := [.int 4]) hN okL_164 ⟨_, _, rfl⟩ dX12_drawMan_58 mc_12_426 (c_X12_draw (d := d + 7) hN hR p38) rfl rfl (by decide) ?_
        refine bv_istore_n (ls1 := [(0, .ref 164), (1, .int x1), (2, .int v1.1), (3, .int v37.1)]) dX12_drawMan_61 (by decide) rfl rfl ?_
        refine bv_aload_n dX12_drawMan_62 0 rfl ?_
        refine bv_iload_n dX12_drawMan_63 1 rfl ?_
        refine bv_iload_n dX12_drawMan_64 3 rfl ?_
        obtain ⟨v39, p40, h⟩ := bu_bd h
        refine bw_callV (As := [.int x1, .int v37.1]) hN okL_164 ⟨_, _, rfl⟩ dX12_drawMan_65 mc_12_351 (c_X12_whyGo (d := d + 6) hN hR p40) rfl rfl (by decide) ?_
        refine bv_if_ne (tgt := 77) dX12_drawMan_68 (by decide) (fun cc => ?_) (fun cc => ?_)
        · replace h := bu_f h cc
          refine bv_iload_n dX12_drawMan_77 2 rfl ?_
          refine bv_iconst (v := 3) dX12_drawMan_78 (by decide) ?_
          refine bv_icmp_ne (tgt := 128) dX12_drawMan_79 (by decide) (fun cc => ?_) (fun cc => ?_)
          · replace h := bu_f h cc
            obtain rfl := Option.some.inj h
            exact bv_vret dX12_drawMan_128 rfl ⟨rfl, rfl⟩
          · replace h := bu_t h cc
            refine bv_aload_n dX12_drawMan_82 0 rfl ?_
            refine bz_getA (a := 166) hN okL_164 (hR _ _ _ r0_164_6) dX12_drawMan_83 fl_12_33 rfl ?_
            refine bv_iconst (v := 1) dX12_drawMan_86 (by decide) ?_
            refine bz_iald (j := 1) hN rkL_166 (bm_ix_in (by decide)) (by decide) dX12_drawMan_87 ?_
            refine bv_if_le (tgt := 128) dX12_drawMan_88 (by decide) (fun cc => ?_) (fun cc => ?_)
            · replace h := bu_t h cc
              obtain rfl := Option.some.inj h
              exact bv_vret dX12_drawMan_128 rfl ⟨rfl, rfl⟩
            · replace h := bu_f h cc
              refine bv_aload_n dX12_drawMan_91 0 rfl ?_
              refine bv_aload_n dX12_drawMan_92 0 rfl ?_
              refine bz_getA (a := 166) hN okL_164 (hR _ _ _ r0_164_6) dX12_drawMan_93 fl_12_33 rfl ?_
              refine bv_iconst (v := 1) dX12_drawMan_96 (by decide) ?_
              refine bz_iald (j := 1) hN rkL_166 (bm_ix_in (by decide)) (by decide) dX12_drawMan_97 ?_
              obtain ⟨v41, p42, h⟩ := bu_bd h
              refine bw_callV (As := [.int (v37.2 166 1)]) hN okL_164 ⟨_, _, rfl⟩ dX12_drawMan_98 mc_12_426 (c_X12_draw (d := d + 7) hN hR p42) rfl rfl (by decide) ?_
              refine bv_istore_n (ls1 := [(0, .ref 164), (1, .int x1), (2, .int v1.1), (3, .int v41.1)]) dX12_drawMan_101 (by decide) rfl rfl ?_
              refine bv_aload_n dX12_drawMan_102 0 rfl ?_
              refine bz_getA (a := 166) hN okL_164 (hR _ _ _ r0_164_6) dX12_drawMan_103 fl_12_33 rfl ?_
              refine bv_bipush (v := 31) dX12_drawMan_106 (by decide) ?_
              refine bv_iload_n dX12_drawMan_108 1 rfl ?_
              refine bv_iadd dX12_drawMan_109 ?_
              obtain ⟨r43, h⟩ := bu_ix h
              refine bz_iald hN rkL_166 r43 rfl dX12_drawMan_110 ?_
              refine bv_if_ne (tgt := 128) dX12_drawMan_111 (by decide) (fun cc => ?_) (fun cc => ?_)
              · replace h := bu_f h cc
                obtain rfl := Option.some.inj h
                exact bv_vret dX12_drawMan_128 rfl ⟨rfl, rfl⟩
              · replace h := bu_t h cc
                refine bv_aload_n dX12_drawMan_114 0 rfl ?_
                refine bv_iload_n dX12_drawMan_115 1 rfl ?_
                obtain ⟨v44, p45, h⟩ := bu_bd h
                refine bw_callV (As := [.int x1]) hN okL_164 ⟨_, _, rfl⟩ dX12_drawMan_116 mc_12_290 (c_X12_browOf (d := d + 6) hN hR p45) rfl rfl (by decide) ?_
                refine bv_if_le (tgt := 128) dX12_drawMan_119 (by decide) (fun cc => ?_) (fun cc => ?_)
                · replace h := bu_t h cc
                  obtain rfl := Option.some.inj h
                  exact bv_vret dX12_drawMan_128 rfl ⟨rfl, rfl⟩
                · replace h := bu_f h cc
                  refine bv_aload_n dX12_drawMan_122 0 rfl ?_
                  refine bv_iload_n dX12_drawMan_123 1 rfl ?_
                  refine bv_iload_n dX12_drawMan_124 3 rfl ?_
                  obtain ⟨v46, p47, h⟩ := bu_bd h
                  refine bw_callVv (As := [.int x1, .int v41.1]) hN okL_164 ⟨_, _, rfl⟩ dX12_drawMan_125 mc_12_332 (c_X12_gives (d := d + 0) hN hR p47) rfl rfl (by decide) ?_
                  obtain rfl := Option.some.inj h
                  exact bv_vret dX12_drawMan_128 rfl ⟨rfl, rfl⟩
        · replace h := bu_t h cc
          refine bv_aload_n dX12_drawMan_71 0 rfl ?_
          refine bv_iload_n dX12_drawMan_72 1 rfl ?_
          refine bv_iload_n dX12_drawMan_73 3 rfl ?_
          obtain ⟨v48, p49, h⟩ := bu_bd h
          refine bw_callVv (As := [.int x1, .int v37.1]) hN okL_164 ⟨_, _, rfl⟩ dX12_drawMan_74 mc_12_354 (c_X12_goes (d := d + 6) hN hR p49) rfl rfl (by decide) ?_
          refine bv_iload_n dX12_drawMan_77 2 rfl ?_
          refine bv_iconst (v := 3) dX12_drawMan_78 (by decide) ?_
          refine bv_icmp_ne (tgt := 128) dX12_drawMan_79 (by decide) (fun cc => ?_) (fun cc => ?_)
          · replace h := bu_f h cc
            obtain rfl := Option.some.inj h
            exact bv_vret dX12_drawMan_128 rfl ⟨rfl, rfl⟩
          · replace h := bu_t h cc
            refine bv_aload_n dX12_drawMan_82 0 rfl ?_
            refine bz_getA (a := 166) hN okL_164 (hR _ _ _ r0_164_6) dX12_drawMan_83 fl_12_33 rfl ?_
            refine bv_iconst (v := 1) dX12_drawMan_86 (by decide) ?_
            refine bz_iald (j := 1) hN rkL_166 (bm_ix_in (by decide)) (by decide) dX12_drawMan_87 ?_
            refine bv_if_le (tgt := 128) dX12_drawMan_88 (by decide) (fun cc => ?_) (fun cc => ?_)
            · replace h := bu_t h cc
              obtain rfl := Option.some.inj h
              exact bv_vret dX12_drawMan_128 rfl ⟨rfl, rfl⟩
            · replace h := bu_f h cc
              refine bv_aload_n dX12_drawMan_91 0 rfl ?_
              refine bv_aload_n dX12_drawMan_92 0 rfl ?_
              refine bz_getA (a := 166) hN okL_164 (hR _ _ _ r0_164_6) dX12_drawMan_93 fl_12_33 rfl ?_
              refine bv_iconst (v := 1) dX12_drawMan_96 (by decide) ?_
              refine bz_iald (j := 1) hN rkL_166 (bm_ix_in (by decide)) (by decide) dX12_drawMan_97 ?_
              obtain ⟨v50, p51, h⟩ := bu_bd h
              refine bw_callV (As := [.int (v48 166 1)]) hN okL_164 ⟨_, _, rfl⟩ dX12_drawMan_98 mc_12_426 (c_X12_draw (d := d + 7) hN hR p51) rfl rfl (by decide) ?_
              refine bv_istore_n (ls1 := [(0, .ref 164), (1, .int x1), (2, .int v1.1), (3, .int v50.1)]) dX12_drawMan_101 (by decide) rfl rfl ?_
              refine bv_aload_n dX12_drawMan_102 0 rfl ?_
              refine bz_getA (a := 166) hN okL_164 (hR _ _ _ r0_164_6) dX12_drawMan_103 fl_12_33 rfl ?_
              refine bv_bipush (v := 31) dX12_drawMan_106 (by decide) ?_
              refine bv_iload_n dX12_drawMan_108 1 rfl ?_
              refine bv_iadd dX12_drawMan_109 ?_
              obtain ⟨r52, h⟩ := bu_ix h
              refine bz_iald hN rkL_166 r52 rfl dX12_drawMan_110 ?_
              refine bv_if_ne (tgt := 128) dX12_drawMan_111 (by decide) (fun cc => ?_) (fun cc => ?_)
              · replace h := bu_f h cc
                obtain rfl := Option.some.inj h
                exact bv_vret dX12_drawMan_128 rfl ⟨rfl, rfl⟩
              · replace h := bu_t h cc
                refine bv_aload_n dX12_drawMan_114 0 rfl ?_
                refine bv_iload_n dX12_drawMan_115 1 rfl ?_
                obtain ⟨v53, p54, h⟩ := bu_bd h
                refine bw_callV (As := [.int x1]) hN okL_164 ⟨_, _, rfl⟩ dX12_drawMan_116 mc_12_290 (c_X12_browOf (d := d + 6) hN hR p54) rfl rfl (by decide) ?_
                refine bv_if_le (tgt := 128) dX12_drawMan_119 (by decide) (fun cc => ?_) (fun cc => ?_)
                · replace h := bu_t h cc
                  obtain rfl := Option.some.inj h
                  exact bv_vret dX12_drawMan_128 rfl ⟨rfl, rfl⟩
                · replace h := bu_f h cc
                  refine bv_aload_n dX12_drawMan_122 0 rfl ?_
                  refine bv_iload_n dX12_drawMan_123 1 rfl ?_
                  refine bv_iload_n dX12_drawMan_124 3 rfl ?_
                  obtain ⟨v55, p56, h⟩ := bu_bd h
                  refine bw_callVv (As := [.int x1, .int v50.1]) hN okL_164 ⟨_, _, rfl⟩ dX12_drawMan_125 mc_12_332 (c_X12_gives (d := d + 0) hN hR p56) rfl rfl (by decide) ?_
                  obtain rfl := Option.some.inj h
                  exact bv_vret dX12_drawMan_128 rfl ⟨rfl, rfl⟩
  · replace h := bu_t h cc
    refine bv_aload_n dX12_drawMan_11 0 rfl ?_
    refine bv_iconst (v := 3) dX12_drawMan_12 (by decide) ?_
    obtain ⟨v57, p58, h⟩ := bu_bd h
    refine bw_callV (As := [.int 3]) hN okL_164 ⟨_, _, rfl⟩ dX12_drawMan_13 mc_12_426 (c_X12_draw (d := d + 7) hN hR p58) rfl rfl (by decide) ?_
    refine bv_iconst (v := 1) dX12_drawMan_16 (by decide) ?_
    refine bv_iadd dX12_drawMan_17 ?_
    refine bv_istore_n (ls1 := [(0, .ref 164), (1, .int x1), (2, .int v1.1), (3, .int (v57.1 + 1))]) dX12_drawMan_18 (by decide) rfl rfl ?_
    refine bv_aload_n dX12_drawMan_19 0 rfl ?_
    refine bv_iload_n dX12_drawMan_20 1 rfl ?_
    obtain ⟨v59, p60, h⟩ := bu_bd h
    refine bw_callV (As := [.int x1]) hN okL_164 ⟨_, _, rfl⟩ dX12_drawMan_21 mc_12_290 (c_X12_browOf (d := d + 6) hN hR p60) rfl rfl (by decide) ?_
    refine bv_if_le (tgt := 33) dX12_drawMan_24 (by decide) (fun cc => ?_) (fun cc => ?_)
    · replace h := bu_t h cc
      refine bv_iload_n dX12_drawMan_33 2 rfl ?_
      refine bv_iconst (v := 1) dX12_drawMan_34 (by decide) ?_
      refine bv_icmp_ne (tgt := 51) dX12_drawMan_35 (by decide) (fun cc => ?_) (fun cc => ?_)
      · replace h := bu_f h cc
        refine bv_iload_n dX12_drawMan_51 2 rfl ?_
        refine bv_iconst (v := 2) dX12_drawMan_52 (by decide) ?_
        refine bv_icmp_ne (tgt := 77) dX12_drawMan_53 (by decide) (fun cc => ?_) (fun cc => ?_)
        · replace h := bu_f h cc
          refine bv_iload_n dX12_drawMan_77 2 rfl ?_
          refine bv_iconst (v := 3) dX12_drawMan_78 (by decide) ?_
          refine bv_icmp_ne (tgt := 128) dX12_drawMan_79 (by decide) (fun cc => ?_) (fun cc => ?_)
          · replace h := bu_f h cc
            obtain rfl := Option.some.inj h
            exact bv_vret dX12_drawMan_128 rfl ⟨rfl, rfl⟩
          · replace h := bu_t h cc
            refine bv_aload_n dX12_drawMan_82 0 rfl ?_
            refine bz_getA (a := 166) hN okL_164 (hR _ _ _ r0_164_6) dX12_drawMan_83 fl_12_33 rfl ?_
            refine bv_iconst (v := 1) dX12_drawMan_86 (by decide) ?_
            refine bz_iald (j := 1) hN rkL_166 (bm_ix_in (by decide)) (by decide) dX12_drawMan_87 ?_
            refine bv_if_le (tgt := 128) dX12_drawMan_88 (by decide) (fun cc => ?_) (fun cc => ?_)
            · replace h := bu_t h cc
              obtain rfl := Option.some.inj h
              exact bv_vret dX12_drawMan_128 rfl ⟨rfl, rfl⟩
            · replace h := bu_f h cc
              refine bv_aload_n dX12_drawMan_91 0 rfl ?_
              refine bv_aload_n dX12_drawMan_92 0 rfl ?_
              refine bz_getA (a := 166) hN okL_164 (hR _ _ _ r0_164_6) dX12_drawMan_93 fl_12_33 rfl ?_
              refine bv_iconst (v := 1) dX12_drawMan_96 (by decide) ?_
              refine bz_iald (j := 1) hN rkL_166 (bm_ix_in (by decide)) (by decide) dX12_drawMan_97 ?_
              obtain ⟨v61, p62, h⟩ := bu_bd h
              refine bw_callV (As := [.int (v57.2 166 1)]) hN okL_164 ⟨_, _, rfl⟩ dX12_drawMan_98 mc_12_426 (c_X12_draw (d := d + 7) hN hR p62) rfl rfl (by decide) ?_
              refine bv_istore_n (ls1 := [(0, .ref 164), (1, .int x1), (2, .int v1.1), (3, .int v61.1)]) dX12_drawMan_101 (by decide) rfl rfl ?_
              refine bv_aload_n dX12_drawMan_102 0 rfl ?_
              refine bz_getA (a := 166) hN okL_164 (hR _ _ _ r0_164_6) dX12_drawMan_103 fl_12_33 rfl ?_
              refine bv_bipush (v := 31) dX12_drawMan_106 (by decide) ?_
              refine bv_iload_n dX12_drawMan_108 1 rfl ?_
              refine bv_iadd dX12_drawMan_109 ?_
              obtain ⟨r63, h⟩ := bu_ix h
              refine bz_iald hN rkL_166 r63 rfl dX12_drawMan_110 ?_
              refine bv_if_ne (tgt := 128) dX12_drawMan_111 (by decide) (fun cc => ?_) (fun cc => ?_)
              · replace h := bu_f h cc
                obtain rfl := Option.some.inj h
                exact bv_vret dX12_drawMan_128 rfl ⟨rfl, rfl⟩
              · replace h := bu_t h cc
                refine bv_aload_n dX12_drawMan_114 0 rfl ?_
                refine bv_iload_n dX12_drawMan_115 1 rfl ?_
                obtain ⟨v64, p65, h⟩ := bu_bd h
                refine bw_callV (As := [.int x1]) hN okL_164 ⟨_, _, rfl⟩ dX12_drawMan_116 mc_12_290 (c_X12_browOf (d := d + 6) hN hR p65) rfl rfl (by decide) ?_
                refine bv_if_le (tgt := 128) dX12_drawMan_119 (by decide) (fun cc => ?_) (fun cc => ?_)
                · replace h := bu_t h cc
                  obtain rfl := Option.some.inj h
                  exact bv_vret dX12_drawMan_128 rfl ⟨rfl, rfl⟩
                · replace h := bu_f h cc
                  refine bv_aload_n dX12_drawMan_122 0 rfl ?_
                  refine bv_iload_n dX12_drawMan_123 1 rfl ?_
                  refine bv_iload_n dX12_drawMan_124 3 rfl ?_
                  obtain ⟨v66, p67, h⟩ := bu_bd h
                  refine bw_callVv (As := [.int x1, .int v61.1]) hN okL_164 ⟨_, _, rfl⟩ dX12_drawMan_125 mc_12_332 (c_X12_gives (d := d + 0) hN hR p67) rfl rfl (by decide) ?_
                  obtain rfl := Option.some.inj h
                  exact bv_vret dX12_drawMan_128 rfl ⟨rfl, rfl⟩
        · replace h := bu_t h cc
          refine bv_aload_n dX12_drawMan_56 0 rfl ?_
          refine bv_iconst (v := 4) dX12_drawMan_57 (by decide) ?_
          obtain ⟨v68, p69, h⟩ := bu_bd h
          refine bw_callV (As := [.int 4]) hN okL_164 ⟨_, _, rfl⟩ dX12_drawMan_58 mc_12_426 (c_X12_draw (d := d + 7) hN hR p69) rfl rfl (by decide) ?_
          refine bv_istore_n (ls1 := [(0, .ref 164), (1, .int x1), (2, .int v1.1), (3, .int v68.1)]) dX12_drawMan_61 (by decide) rfl rfl ?_
          refine bv_aload_n dX12_drawMan_62 0 rfl ?_
          refine bv_iload_n dX12_drawMan_63 1 rfl ?_
          refine bv_iload_n dX12_drawMan_64 3 rfl ?_
          obtain ⟨v70, p71, h⟩ := bu_bd h
          refine bw_callV (As := [.int x1, .int v68.1]) hN okL_164 ⟨_, _, rfl⟩ dX12_drawMan_65 mc_12_351 (c_X12_whyGo (d := d + 6) hN hR p71) rfl rfl (by decide) ?_
          refine bv_if_ne (tgt := 77) dX12_drawMan_68 (by decide) (fun cc => ?_) (fun cc => ?_)
          · replace h := bu_f h cc
            refine bv_iload_n dX12_drawMan_77 2 rfl ?_
            refine bv_iconst (v := 3) dX12_drawMan_78 (by decide) ?_
            refine bv_icmp_ne (tgt := 128) dX12_drawMan_79 (by decide) (fun cc => ?_) (fun cc => ?_)
            · replace h := bu_f h cc
              obtain rfl := Option.some.inj h
              exact bv_vret dX12_drawMan_128 rfl ⟨rfl, rfl⟩
            · replace h := bu_t h cc
              refine bv_aload_n dX12_drawMan_82 0 rfl ?_
              refine bz_getA (a := 166) hN okL_164 (hR _ _ _ r0_164_6) dX12_drawMan_83 fl_12_33 rfl ?_
              refine bv_iconst (v := 1) dX12_drawMan_86 (by decide) ?_
              refine bz_iald (j := 1) hN rkL_166 (bm_ix_in (by decide)) (by decide) dX12_drawMan_87 ?_
              refine bv_if_le (tgt := 128) dX12_drawMan_88 (by decide) (fun cc => ?_) (fun cc => ?_)
              · replace h := bu_t h cc
                obtain rfl := Option.some.inj h
                exact bv_vret dX12_drawMan_128 rfl ⟨rfl, rfl⟩
              · replace h := bu_f h cc
                refine bv_aload_n dX12_drawMan_91 0 rfl ?_
                refine bv_aload_n dX12_drawMan_92 0 rfl ?_
                refine bz_getA (a := 166) hN okL_164 (hR _ _ _ r0_164_6) dX12_drawMan_93 fl_12_33 rfl ?_
                refine bv_iconst (v := 1) dX12_drawMan_96 (by decide) ?_
                refine bz_iald (j := 1) hN rkL_166 (bm_ix_in (by decide)) (by decide) dX12_drawMan_97 ?_
                obtain ⟨v72, p73, h⟩ := bu_bd h
                refine bw_callV (As := [.int (v68.2 166 1)]) hN okL_164 ⟨_, _, rfl⟩ dX12_drawMan_98 mc_12_426 (c_X12_draw (d := d + 7) hN hR p73) rfl rfl (by decide) ?_
                refine bv_istore_n (ls1 := [(0, .ref 164), (1, .int x1), (2, .int v1.1), (3, .int v72.1)]) dX12_drawMan_101 (by decide) rfl rfl ?_
                refine bv_aload_n dX12_drawMan_102 0 rfl ?_
                refine bz_getA (a := 166) hN okL_164 (hR _ _ _ r0_164_6) dX12_drawMan_103 fl_12_33 rfl ?_
                refine bv_bipush (v := 31) dX12_drawMan_106 (by decide) ?_
                refine bv_iload_n dX12_drawMan_108 1 rfl ?_
                refine bv_iadd dX12_drawMan_109 ?_
                obtain ⟨r74, h⟩ := bu_ix h
                refine bz_iald hN rkL_166 r74 rfl dX12_drawMan_110 ?_
                refine bv_if_ne (tgt := 128) dX12_drawMan_111 (by decide) (fun cc => ?_) (fun cc => ?_)
                · replace h := bu_f h cc
                  obtain rfl := Option.some.inj h
                  exact bv_vret dX12_drawMan_128 rfl ⟨rfl, rfl⟩
                · replace h := bu_t h cc
                  refine bv_aload_n dX12_drawMan_114 0 rfl ?_
                  refine bv_iload_n dX12_drawMan_115 1 rfl ?_
                  obtain ⟨v75, p76, h⟩ := bu_bd h
                  refine bw_callV (As := [.int x1]) hN okL_164 ⟨_, _, rfl⟩ dX12_drawMan_116 mc_12_290 (c_X12_browOf (d := d + 6) hN hR p76) rfl rfl (by decide) ?_
                  refine bv_if_le (tgt := 128) dX12_drawMan_119 (by decide) (fun cc => ?_) (fun cc => ?_)
                  · replace h := bu_t h cc
                    obtain rfl := Option.some.inj h
                    exact bv_vret dX12_drawMan_128 rfl ⟨rfl, rfl⟩
                  · replace h := bu_f h cc
                    refine bv_aload_n dX12_drawMan_122 0 rfl ?_
                    refine bv_iload_n dX12_drawMan_123 1 rfl ?_
                    refine bv_iload_n dX12_drawMan_124 3 rfl ?_
                    obtain ⟨v77, p78, h⟩ := bu_bd h
                    refine bw_callVv (As := [.int x1, .int v72.1]) hN okL_164 ⟨_, _, rfl⟩ dX12_drawMan_125 mc_12_332 (c_X12_gives (d := d + 0) hN hR p78) rfl rfl (by decide) ?_
                    obtain rfl := Option.some.inj h
                    exact bv_vret dX12_drawMan_128 rfl ⟨rfl, rfl⟩
          · replace h := bu_t h cc
            refine bv_aload_n dX12_drawMan_71 0 rfl ?_
            refine bv_iload_n dX12_drawMan_72 1 rfl ?_
            refine bv_iload_n dX12_drawMan_73 3 rfl ?_
            obtain ⟨v79, p80, h⟩ := bu_bd h
            refine bw_callVv (As := [.int x1, .int v68.1]) hN okL_164 ⟨_, _, rfl⟩ dX12_drawMan_74 mc_12_354 (c_X12_goes (d := d + 6) hN hR p80) rfl rfl (by decide) ?_
            refine bv_iload_n dX12_drawMan_77 2 rfl ?_
            refine bv_iconst (v := 3) dX12_drawMan_78 (by decide) ?_
            refine bv_icmp_ne (tgt := 128) dX12_drawMan_79 (by decide) (fun cc => ?_) (fun cc => ?_)
            · replace h := bu_f h cc
              obtain rfl := Option.some.inj h
              exact bv_vret dX12_drawMan_128 rfl ⟨rfl, rfl⟩
            · replace h := bu_t h cc
              refine bv_aload_n dX12_drawMan_82 0 rfl ?_
              refine bz_getA (a := 166) hN okL_164 (hR _ _ _ r0_164_6) dX12_drawMan_83 fl_12_33 rfl ?_
              refine bv_iconst (v := 1) dX12_drawMan_86 (by decide) ?_
              refine bz_iald (j := 1) hN rkL_166 (bm_ix_in (by decide)) (by decide) dX12_drawMan_87 ?_
              refine bv_if_le (tgt := 128) dX12_drawMan_88 (by decide) (fun cc => ?_) (fun cc => ?_)
              · replace h := bu_t h cc
                obtain rfl := Option.some.inj h
                exact bv_vret dX12_drawMan_128 rfl ⟨rfl, rfl⟩
              · replace h := bu_f h cc
                refine bv_aload_n dX12_drawMan_91 0 rfl ?_
                refine bv_aload_n dX12_drawMan_92 0 rfl ?_
                refine bz_getA (a := 166) hN okL_164 (hR _ _ _ r0_164_6) dX12_drawMan_93 fl_12_33 rfl ?_
                refine bv_iconst (v := 1) dX12_drawMan_96 (by decide) ?_
                refine bz_iald (j := 1) hN rkL_166 (bm_ix_in (by decide)) (by decide) dX12_drawMan_97 ?_
                obtain ⟨v81, p82, h⟩ := bu_bd h
                refine bw_callV (As := [.int (v79 166 1)]) hN okL_164 ⟨_, _, rfl⟩ dX12_drawMan_98 mc_12_426 (c_X12_draw (d := d + 7) hN hR p82) rfl rfl (by decide) ?_
                refine bv_istore_n (ls1 := [(0, .ref 164), (1, .int x1), (2, .int v1.1), (3, .int v81.1)]) dX12_drawMan_101 (by decide) rfl rfl ?_
                refine bv_aload_n dX12_drawMan_102 0 rfl ?_
                refine bz_getA (a := 166) hN okL_164 (hR _ _ _ r0_164_6) dX12_drawMan_103 fl_12_33 rfl ?_
                refine bv_bipush (v := 31) dX12_drawMan_106 (by decide) ?_
                refine bv_iload_n dX12_drawMan_108 1 rfl ?_
                refine bv_iadd dX12_drawMan_109 ?_
                obtain ⟨r83, h⟩ := bu_ix h
                refine bz_iald hN rkL_166 r83 rfl dX12_drawMan_110 ?_
                refine bv_if_ne (tgt := 128) dX12_drawMan_111 (by decide) (fun cc => ?_) (fun cc => ?_)
                · replace h := bu_f h cc
                  obtain rfl := Option.some.inj h
                  exact bv_vret dX12_drawMan_128 rfl ⟨rfl, rfl⟩
                · replace h := bu_t h cc
                  refine bv_aload_n dX12_drawMan_114 0 rfl ?_
                  refine bv_iload_n dX12_drawMan_115 1 rfl ?_
                  obtain ⟨v84, p85, h⟩ := bu_bd h
                  refine bw_callV (As := [.int x1]) hN okL_164 ⟨_, _, rfl⟩ dX12_drawMan_116 mc_12_290 (c_X12_browOf (d := d + 6) hN hR p85) rfl rfl (by decide) ?_
                  refine bv_if_le (tgt := 128) dX12_drawMan_119 (by decide) (fun cc => ?_) (fun cc => ?_)
                  · replace h := bu_t h cc
                    obtain rfl := Option.some.inj h
                    exact bv_vret dX12_drawMan_128 rfl ⟨rfl, rfl⟩
                  · replace h := bu_f h cc
                    refine bv_aload_n dX12_drawMan_122 0 rfl ?_
                    refine bv_iload_n dX12_drawMan_123 1 rfl ?_
                    refine bv_iload_n dX12_drawMan_124 3 rfl ?_
                    obtain ⟨v86, p87, h⟩ := bu_bd h
                    refine bw_callVv (As := [.int x1, .int v81.1]) hN okL_164 ⟨_, _, rfl⟩ dX12_drawMan_125 mc_12_332 (c_X12_gives (d := d + 0) hN hR p87) rfl rfl (by decide) ?_
                    obtain rfl := Option.some.inj h
                    exact bv_vret dX12_drawMan_128 rfl ⟨rfl, rfl⟩
      · replace h := bu_t h cc
        refine bv_aload_n dX12_drawMan_38 0 rfl ?_
        refine bz_getA (a := 166) hN okL_164 (hR _ _ _ r0_164_6) dX12_drawMan_39 fl_12_33 rfl ?_
        refine bv_bipush (v := 63) dX12_drawMan_42 (by decide) ?_
        refine bv_dup2 dX12_drawMan_44 rfl rfl ?_
        refine bz_iald (j := 63) hN rkL_166 (bm_ix_in (by decide)) (by decide) dX12_drawMan_45 ?_
        refine bv_iconst (v := 1) dX12_drawMan_46 (by decide) ?_
        refine bv_iload_n dX12_drawMan_47 1 rfl ?_
        refine bv_ishl dX12_drawMan_48 ?_
        refine bv_ixor dX12_drawMan_49 ?_
        refine bz_iast (j := 63) hN rkL_166 (bm_ix_in (by decide)) (by decide) dX12_drawMan_50 ?_
        refine bv_iload_n dX12_drawMan_51 2 rfl ?_
        refine bv_iconst (v := 2) dX12_drawMan_52 (by decide) ?_
        refine bv_icmp_ne (tgt := 77) dX12_drawMan_53 (by decide) (fun cc => ?_) (fun cc => ?_)
        · replace h := bu_f h cc
          refine bv_iload_n dX12_drawMan_77 2 rfl ?_
          refine bv_iconst (v := 3) dX12_drawMan_78 (by decide) ?_
          refine bv_icmp_ne (tgt := 128) dX12_drawMan_79 (by decide) (fun cc => ?_) (fun cc => ?_)
          · replace h := bu_f h cc
            obtain rfl := Option.some.inj h
            exact bv_vret dX12_drawMan_128 rfl ⟨rfl, rfl⟩
          · replace h := bu_t h cc
            refine bv_aload_n dX12_drawMan_82 0 rfl ?_
            refine bz_getA (a := 166) hN okL_164 (hR _ _ _ r0_164_6) dX12_drawMan_83 fl_12_33 rfl ?_
            refine bv_iconst (v := 1) dX12_drawMan_86 (by decide) ?_
            refine bz_iald (j := 1) hN rkL_166 (bm_ix_in (by decide)) (by decide) dX12_drawMan_87 ?_
            refine bv_if_le (tgt := 128) dX12_drawMan_88 (by decide) (fun cc => ?_) (fun cc => ?_)
            · replace h := bu_t h cc
              obtain rfl := Option.some.inj h
              exact bv_vret dX12_drawMan_128 rfl ⟨rfl, rfl⟩
            · replace h := bu_f h cc
              refine bv_aload_n dX12_drawMan_91 0 rfl ?_
              refine bv_aload_n dX12_drawMan_92 0 rfl ?_
              refine bz_getA (a := 166) hN okL_164 (hR _ _ _ r0_164_6) dX12_drawMan_93 fl_12_33 rfl ?_
              refine bv_iconst (v := 1) dX12_drawMan_96 (by decide) ?_
              refine bz_iald (j := 1) hN rkL_166 (bm_ix_in (by decide)) (by decide) dX12_drawMan_97 ?_
              obtain ⟨v88, p89, h⟩ := bu_bd h
              refine bw_callV (As := [.int ((bm_uI v57.2 166 63 ((v57.2 166 63) ^^^ (bm_ishl 1 x1))) 166 1)]) hN okL_164 ⟨_, _, rfl⟩ dX12_drawMan_98 mc_12_426 (c_X12_draw (d := d + 7) hN hR p89) rfl rfl (by decide) ?_
              refine bv_istore_n (ls1 := [(0, .ref 164), (1, .int x1), (2, .int v1.1), (3, .int v88.1)]) dX12_drawMan_101 (by decide) rfl rfl ?_
              refine bv_aload_n dX12_drawMan_102 0 rfl ?_
              refine bz_getA (a := 166) hN okL_164 (hR _ _ _ r0_164_6) dX12_drawMan_103 fl_12_33 rfl ?_
              refine bv_bipush (v := 31) dX12_drawMan_106 (by decide) ?_
              refine bv_iload_n dX12_drawMan_108 1 rfl ?_
              refine bv_iadd dX12_drawMan_109 ?_
              obtain ⟨r90, h⟩ := bu_ix h
              refine bz_iald hN rkL_166 r90 rfl dX12_drawMan_110 ?_
              refine bv_if_ne (tgt := 128) dX12_drawMan_111 (by decide) (fun cc => ?_) (fun cc => ?_)
              · replace h := bu_f h cc
                obtain rfl := Option.some.inj h
                exact bv_vret dX12_drawMan_128 rfl ⟨rfl, rfl⟩
              · replace h := bu_t h cc
                refine bv_aload_n dX12_drawMan_114 0 rfl ?_
                refine bv_iload_n dX12_drawMan_115 1 rfl ?_
                obtain ⟨v91, p92, h⟩ := bu_bd h
                refine bw_callV (As := [.int x1]) hN okL_164 ⟨_, _, rfl⟩ dX12_drawMan_116 mc_12_290 (c_X12_browOf (d := d + 6) hN hR p92) rfl rfl (by decide) ?_
                refine bv_if_le (tgt := 128) dX12_drawMan_119 (by decide) (fun cc => ?_) (fun cc => ?_)
                · replace h := bu_t h cc
                  obtain rfl := Option.some.inj h
                  exact bv_vret dX12_drawMan_128 rfl ⟨rfl, rfl⟩
                · replace h := bu_f h cc
                  refine bv_aload_n dX12_drawMan_122 0 rfl ?_
                  refine bv_iload_n dX12_drawMan_123 1 rfl ?_
                  refine bv_iload_n dX12_drawMan_124 3 rfl ?_
                  obtain ⟨v93, p94, h⟩ := bu_bd h
                  refine bw_callVv (As := [.int x1, .int v88.1]) hN okL_164 ⟨_, _, rfl⟩ dX12_drawMan_125 mc_12_332 (c_X12_gives (d := d + 0) hN hR p94) rfl rfl (by decide) ?_
                  obtain rfl := Option.some.inj h
                  exact bv_vret dX12_drawMan_128 rfl ⟨rfl, rfl⟩
        · replace h := bu_t h cc
          refine bv_aload_n dX12_drawMan_56 0 rfl ?_
          refine bv_iconst (v := 4) dX12_drawMan_57 (by decide) ?_
          obtain ⟨v95, p96, h⟩ := bu_bd h
          refine bw_callV (As := [.int 4]) hN okL_164 ⟨_, _, rfl⟩ dX12_drawMan_58 mc_12_426 (c_X12_draw (d := d + 7) hN hR p96) rfl rfl (by decide) ?_
          refine bv_istore_n (ls1 := [(0, .ref 164), (1, .int x1), (2, .int v1.1), (3, .int v95.1)]) dX12_drawMan_61 (by decide) rfl rfl ?_
          refine bv_aload_n dX12_drawMan_62 0 rfl ?_
          refine bv_iload_n dX12_drawMan_63 1 rfl ?_
          refine bv_iload_n dX12_drawMan_64 3 rfl ?_
          obtain ⟨v97, p98, h⟩ := bu_bd h
          refine bw_callV (As := [.int x1, .int v95.1]) hN okL_164 ⟨_, _, rfl⟩ dX12_drawMan_65 mc_12_351 (c_X12_whyGo (d := d + 6) hN hR p98) rfl rfl (by decide) ?_
          refine bv_if_ne (tgt := 77) dX12_drawMan_68 (by decide) (fun cc => ?_) (fun cc => ?_)
          · replace h := bu_f h cc
            refine bv_iload_n dX12_drawMan_77 2 rfl ?_
            refine bv_iconst (v := 3) dX12_drawMan_78 (by decide) ?_
            refine bv_icmp_ne (tgt := 128) dX12_drawMan_79 (by decide) (fun cc => ?_) (fun cc => ?_)
            · replace h := bu_f h cc
              obtain rfl := Option.some.inj h
              exact bv_vret dX12_drawMan_128 rfl ⟨rfl, rfl⟩
            · replace h := bu_t h cc
              refine bv_aload_n dX12_drawMan_82 0 rfl ?_
              refine bz_getA (a := 166) hN okL_164 (hR _ _ _ r0_164_6) dX12_drawMan_83 fl_12_33 rfl ?_
              refine bv_iconst (v := 1) dX12_drawMan_86 (by decide) ?_
              refine bz_iald (j := 1) hN rkL_166 (bm_ix_in (by decide)) (by decide) dX12_drawMan_87 ?_
              refine bv_if_le (tgt := 128) dX12_drawMan_88 (by decide) (fun cc => ?_) (fun cc => ?_)
              · replace h := bu_t h cc
                obtain rfl := Option.some.inj h
                exact bv_vret dX12_drawMan_128 rfl ⟨rfl, rfl⟩
              · replace h := bu_f h cc
                refine bv_aload_n dX12_drawMan_91 0 rfl ?_
                refine bv_aload_n dX12_drawMan_92 0 rfl ?_
                refine bz_getA (a := 166) hN okL_164 (hR _ _ _ r0_164_6) dX12_drawMan_93 fl_12_33 rfl ?_
                refine bv_iconst (v := 1) dX12_drawMan_96 (by decide) ?_
                refine bz_iald (j := 1) hN rkL_166 (bm_ix_in (by decide)) (by decide) dX12_drawMan_97 ?_
                obtain ⟨v99, p100, h⟩ := bu_bd h
                refine bw_callV (As := [.int (v95.2 166 1)]) hN okL_164 ⟨_, _, rfl⟩ dX12_drawMan_98 mc_12_426 (c_X12_draw (d := d + 7) hN hR p100) rfl rfl (by decide) ?_
                refine bv_istore_n (ls1 := [(0, .ref 164), (1, .int x1), (2, .int v1.1), (3, .int v99.1)]) dX12_drawMan_101 (by decide) rfl rfl ?_
                refine bv_aload_n dX12_drawMan_102 0 rfl ?_
                refine bz_getA (a := 166) hN okL_164 (hR _ _ _ r0_164_6) dX12_drawMan_103 fl_12_33 rfl ?_
                refine bv_bipush (v := 31) dX12_drawMan_106 (by decide) ?_
                refine bv_iload_n dX12_drawMan_108 1 rfl ?_
                refine bv_iadd dX12_drawMan_109 ?_
                obtain ⟨r101, h⟩ := bu_ix h
                refine bz_iald hN rkL_166 r101 rfl dX12_drawMan_110 ?_
                refine bv_if_ne (tgt := 128) dX12_drawMan_111 (by decide) (fun cc => ?_) (fun cc => ?_)
                · replace h := bu_f h cc
                  obtain rfl := Option.some.inj h
                  exact bv_vret dX12_drawMan_128 rfl ⟨rfl, rfl⟩
                · replace h := bu_t h cc
                  refine bv_aload_n dX12_drawMan_114 0 rfl ?_
                  refine bv_iload_n dX12_drawMan_115 1 rfl ?_
                  obtain ⟨v102, p103, h⟩ := bu_bd h
                  refine bw_callV (As := [.int x1]) hN okL_164 ⟨_, _, rfl⟩ dX12_drawMan_116 mc_12_290 (c_X12_browOf (d := d + 6) hN hR p103) rfl rfl (by decide) ?_
                  refine bv_if_le (tgt := 128) dX12_drawMan_119 (by decide) (fun cc => ?_) (fun cc => ?_)
                  · replace h := bu_t h cc
                    obtain rfl := Option.some.inj h
                    exact bv_vret dX12_drawMan_128 rfl ⟨rfl, rfl⟩
                  · replace h := bu_f h cc
                    refine bv_aload_n dX12_drawMan_122 0 rfl ?_
                    refine bv_iload_n dX12_drawMan_123 1 rfl ?_
                    refine bv_iload_n dX12_drawMan_124 3 rfl ?_
                    obtain ⟨v104, p105, h⟩ := bu_bd h
                    refine bw_callVv (As := [.int x1, .int v99.1]) hN okL_164 ⟨_, _, rfl⟩ dX12_drawMan_125 mc_12_332 (c_X12_gives (d := d + 0) hN hR p105) rfl rfl (by decide) ?_
                    obtain rfl := Option.some.inj h
                    exact bv_vret dX12_drawMan_128 rfl ⟨rfl, rfl⟩
          · replace h := bu_t h cc
            refine bv_aload_n dX12_drawMan_71 0 rfl ?_
            refine bv_iload_n dX12_drawMan_72 1 rfl ?_
            refine bv_iload_n dX12_drawMan_73 3 rfl ?_
            obtain ⟨v106, p107, h⟩ := bu_bd h
            refine bw_callVv (As := [.int x1, .int v95.1]) hN okL_164 ⟨_, _, rfl⟩ dX12_drawMan_74 mc_12_354 (c_X12_goes (d := d + 6) hN hR p107) rfl rfl (by decide) ?_
            refine bv_iload_n dX12_drawMan_77 2 rfl ?_
            refine bv_iconst (v := 3) dX12_drawMan_78 (by decide) ?_
            refine bv_icmp_ne (tgt := 128) dX12_drawMan_79 (by decide) (fun cc => ?_) (fun cc => ?_)
            · replace h := bu_f h cc
              obtain rfl := Option.some.inj h
              exact bv_vret dX12_drawMan_128 rfl ⟨rfl, rfl⟩
            · replace h := bu_t h cc
              refine bv_aload_n dX12_drawMan_82 0 rfl ?_
              refine bz_getA (a := 166) hN okL_164 (hR _ _ _ r0_164_6) dX12_drawMan_83 fl_12_33 rfl ?_
              refine bv_iconst (v := 1) dX12_drawMan_86 (by decide) ?_
              refine bz_iald (j := 1) hN rkL_166 (bm_ix_in (by decide)) (by decide) dX12_drawMan_87 ?_
              refine bv_if_le (tgt := 128) dX12_drawMan_88 (by decide) (fun cc => ?_) (fun cc => ?_)
              · replace h := bu_t h cc
                obtain rfl := Option.some.inj h
                exact bv_vret dX12_drawMan_128 rfl ⟨rfl, rfl⟩
              · replace h := bu_f h cc
                refine bv_aload_n dX12_drawMan_91 0 rfl ?_
                refine bv_aload_n dX12_drawMan_92 0 rfl ?_
                refine bz_getA (a := 166) hN okL_164 (hR _ _ _ r0_164_6) dX12_drawMan_93 fl_12_33 rfl ?_
                refine bv_iconst (v := 1) dX12_drawMan_96 (by decide) ?_
                refine bz_iald (j := 1) hN rkL_166 (bm_ix_in (by decide)) (by decide) dX12_drawMan_97 ?_
                obtain ⟨v108, p109, h⟩ := bu_bd h
                refine bw_callV (As := [.int (v106 166 1)]) hN okL_164 ⟨_, _, rfl⟩ dX12_drawMan_98 mc_12_426 (c_X12_draw (d := d + 7) hN hR p109) rfl rfl (by decide) ?_
                refine bv_istore_n (ls1 := [(0, .ref 164), (1, .int x1), (2, .int v1.1), (3, .int v108.1)]) dX12_drawMan_101 (by decide) rfl rfl ?_
                refine bv_aload_n dX12_drawMan_102 0 rfl ?_
                refine bz_getA (a := 166) hN okL_164 (hR _ _ _ r0_164_6) dX12_drawMan_103 fl_12_33 rfl ?_
                refine bv_bipush (v := 31) dX12_drawMan_106 (by decide) ?_
                refine bv_iload_n dX12_drawMan_108 1 rfl ?_
                refine bv_iadd dX12_drawMan_109 ?_
                obtain ⟨r110, h⟩ := bu_ix h
                refine bz_iald hN rkL_166 r110 rfl dX12_drawMan_110 ?_
                refine bv_if_ne (tgt := 128) dX12_drawMan_111 (by decide) (fun cc => ?_) (fun cc => ?_)
                · replace h := bu_f h cc
                  obtain rfl := Option.some.inj h
                  exact bv_vret dX12_drawMan_128 rfl ⟨rfl, rfl⟩
                · replace h := bu_t h cc
                  refine bv_aload_n dX12_drawMan_114 0 rfl ?_
                  refine bv_iload_n dX12_drawMan_115 1 rfl ?_
                  obtain ⟨v111, p112, h⟩ := bu_bd h
                  refine bw_callV (As := [.int x1]) hN okL_164 ⟨_, _, rfl⟩ dX12_drawMan_116 mc_12_290 (c_X12_browOf (d := d + 6) hN hR p112) rfl rfl (by decide) ?_
                  refine bv_if_le (tgt := 128) dX12_drawMan_119 (by decide) (fun cc => ?_) (fun cc => ?_)
                  · replace h := bu_t h cc
                    obtain rfl := Option.some.inj h
                    exact bv_vret dX12_drawMan_128 rfl ⟨rfl, rfl⟩
                  · replace h := bu_f h cc
                    refine bv_aload_n dX12_drawMan_122 0 rfl ?_
                    refine bv_iload_n dX12_drawMan_123 1 rfl ?_
                    refine bv_iload_n dX12_drawMan_124 3 rfl ?_
                    obtain ⟨v113, p114, h⟩ := bu_bd h
                    refine bw_callVv (As := [.int x1, .int v108.1]) hN okL_164 ⟨_, _, rfl⟩ dX12_drawMan_125 mc_12_332 (c_X12_gives (d := d + 0) hN hR p114) rfl rfl (by decide) ?_
                    obtain rfl := Option.some.inj h
                    exact bv_vret dX12_drawMan_128 rfl ⟨rfl, rfl⟩
    · replace h := bu_f h cc
      refine bv_aload_n dX12_drawMan_27 0 rfl ?_
      refine bv_iload_n dX12_drawMan_28 1 rfl ?_
      refine bv_iload_n dX12_drawMan_29 3 rfl ?_
      obtain ⟨v115, p116, h⟩ := bu_bd h
      refine bw_callVv (As := [.int x1, .int (v57.1 + 1)]) hN okL_164 ⟨_, _, rfl⟩ dX12_drawMan_30 mc_12_329 (c_X12_lifts (d := d + 1) hN hR p116) rfl rfl (by decide) ?_
      refine bv_iload_n dX12_drawMan_33 2 rfl ?_
      refine bv_iconst (v := 1) dX12_drawMan_34 (by decide) ?_
      refine bv_icmp_ne (tgt := 51) dX12_drawMan_35 (by decide) (fun cc => ?_) (fun cc => ?_)
      · replace h := bu_f h cc
        refine bv_iload_n dX12_drawMan_51 2 rfl ?_
        refine bv_iconst (v := 2) dX12_drawMan_52 (by decide) ?_
        refine bv_icmp_ne (tgt := 77) dX12_drawMan_53 (by decide) (fun cc => ?_) (fun cc => ?_)
        · replace h := bu_f h cc
          refine bv_iload_n dX12_drawMan_77 2 rfl ?_
          refine bv_iconst (v := 3) dX12_drawMan_78 (by decide) ?_
          refine bv_icmp_ne (tgt := 128) dX12_drawMan_79 (by decide) (fun cc => ?_) (fun cc => ?_)
          · replace h := bu_f h cc
            obtain rfl := Option.some.inj h
            exact bv_vret dX12_drawMan_128 rfl ⟨rfl, rfl⟩
          · replace h := bu_t h cc
            refine bv_aload_n dX12_drawMan_82 0 rfl ?_
            refine bz_getA (a := 166) hN okL_164 (hR _ _ _ r0_164_6) dX12_drawMan_83 fl_12_33 rfl ?_
            refine bv_iconst (v := 1) dX12_drawMan_86 (by decide) ?_
            refine bz_iald (j := 1) hN rkL_166 (bm_ix_in (by decide)) (by decide) dX12_drawMan_87 ?_
            refine bv_if_le (tgt := 128) dX12_drawMan_88 (by decide) (fun cc => ?_) (fun cc => ?_)
            · replace h := bu_t h cc
              obtain rfl := Option.some.inj h
              exact bv_vret dX12_drawMan_128 rfl ⟨rfl, rfl⟩
            · replace h := bu_f h cc
              refine bv_aload_n dX12_drawMan_91 0 rfl ?_
              refine bv_aload_n dX12_drawMan_92 0 rfl ?_
              refine bz_getA (a := 166) hN okL_164 (hR _ _ _ r0_164_6) dX12_drawMan_93 fl_12_33 rfl ?_
              refine bv_iconst (v := 1) dX12_drawMan_96 (by decide) ?_
              refine bz_iald (j := 1) hN rkL_166 (bm_ix_in (by decide)) (by decide) dX12_drawMan_97 ?_
              obtain ⟨v117, p118, h⟩ := bu_bd h
              refine bw_callV (As := [.int (v115 166 1)]) hN okL_164 ⟨_, _, rfl⟩ dX12_drawMan_98 mc_12_426 (c_X12_draw (d := d + 7) hN hR p118) rfl rfl (by decide) ?_
              refine bv_istore_n (ls1 := [(0, .ref 164), (1, .int x1), (2, .int v1.1), (3, .int v117.1)]) dX12_drawMan_101 (by decide) rfl rfl ?_
              refine bv_aload_n dX12_drawMan_102 0 rfl ?_
              refine bz_getA (a := 166) hN okL_164 (hR _ _ _ r0_164_6) dX12_drawMan_103 fl_12_33 rfl ?_
              refine bv_bipush (v := 31) dX12_drawMan_106 (by decide) ?_
              refine bv_iload_n dX12_drawMan_108 1 rfl ?_
              refine bv_iadd dX12_drawMan_109 ?_
              obtain ⟨r119, h⟩ := bu_ix h
              refine bz_iald hN rkL_166 r119 rfl dX12_drawMan_110 ?_
              refine bv_if_ne (tgt := 128) dX12_drawMan_111 (by decide) (fun cc => ?_) (fun cc => ?_)
              · replace h := bu_f h cc
                obtain rfl := Option.some.inj h
                exact bv_vret dX12_drawMan_128 rfl ⟨rfl, rfl⟩
              · replace h := bu_t h cc
                refine bv_aload_n dX12_drawMan_114 0 rfl ?_
                refine bv_iload_n dX12_drawMan_115 1 rfl ?_
                obtain ⟨v120, p121, h⟩ := bu_bd h
                refine bw_callV (As := [.int x1]) hN okL_164 ⟨_, _, rfl⟩ dX12_drawMan_116 mc_12_290 (c_X12_browOf (d := d + 6) hN hR p121) rfl rfl (by decide) ?_
                refine bv_if_le (tgt := 128) dX12_drawMan_119 (by decide) (fun cc => ?_) (fun cc => ?_)
                · replace h := bu_t h cc
                  obtain rfl := Option.some.inj h
                  exact bv_vret dX12_drawMan_128 rfl ⟨rfl, rfl⟩
                · replace h := bu_f h cc
                  refine bv_aload_n dX12_drawMan_122 0 rfl ?_
                  refine bv_iload_n dX12_drawMan_123 1 rfl ?_
                  refine bv_iload_n dX12_drawMan_124 3 rfl ?_
                  obtain ⟨v122, p123, h⟩ := bu_bd h
                  refine bw_callVv (As := [.int x1, .int v117.1]) hN okL_164 ⟨_, _, rfl⟩ dX12_drawMan_125 mc_12_332 (c_X12_gives (d := d + 0) hN hR p123) rfl rfl (by decide) ?_
                  obtain rfl := Option.some.inj h
                  exact bv_vret dX12_drawMan_128 rfl ⟨rfl, rfl⟩
        · replace h := bu_t h cc
          refine bv_aload_n dX12_drawMan_56 0 rfl ?_
          refine bv_iconst (v := 4) dX12_drawMan_57 (by decide) ?_
          obtain ⟨v124, p125, h⟩ := bu_bd h
          refine bw_callV (As := [.int 4]) hN okL_164 ⟨_, _, rfl⟩ dX12_drawMan_58 mc_12_426 (c_X12_draw (d := d + 7) hN hR p125) rfl rfl (by decide) ?_
          refine bv_istore_n (ls1 := [(0, .ref 164), (1, .int x1), (2, .int v1.1), (3, .int v124.1)]) dX12_drawMan_61 (by decide) rfl rfl ?_
          refine bv_aload_n dX12_drawMan_62 0 rfl ?_
          refine bv_iload_n dX12_drawMan_63 1 rfl ?_
          refine bv_iload_n dX12_drawMan_64 3 rfl ?_
          obtain ⟨v126, p127, h⟩ := bu_bd h
          refine bw_callV (As := [.int x1, .int v124.1]) hN okL_164 ⟨_, _, rfl⟩ dX12_drawMan_65 mc_12_351 (c_X12_whyGo (d := d + 6) hN hR p127) rfl rfl (by decide) ?_
          refine bv_if_ne (tgt := 77) dX12_drawMan_68 (by decide) (fun cc => ?_) (fun cc => ?_)
          · replace h := bu_f h cc
            refine bv_iload_n dX12_drawMan_77 2 rfl ?_
            refine bv_iconst (v := 3) dX12_drawMan_78 (by decide) ?_
            refine bv_icmp_ne (tgt := 128) dX12_drawMan_79 (by decide) (fun cc => ?_) (fun cc => ?_)
            · replace h := bu_f h cc
              obtain rfl := Option.some.inj h
              exact bv_vret dX12_drawMan_128 rfl ⟨rfl, rfl⟩
            · replace h := bu_t h cc
              refine bv_aload_n dX12_drawMan_82 0 rfl ?_
              refine bz_getA (a := 166) hN okL_164 (hR _ _ _ r0_164_6) dX12_drawMan_83 fl_12_33 rfl ?_
              refine bv_iconst (v := 1) dX12_drawMan_86 (by decide) ?_
              refine bz_iald (j := 1) hN rkL_166 (bm_ix_in (by decide)) (by decide) dX12_drawMan_87 ?_
              refine bv_if_le (tgt := 128) dX12_drawMan_88 (by decide) (fun cc => ?_) (fun cc => ?_)
              · replace h := bu_t h cc
                obtain rfl := Option.some.inj h
                exact bv_vret dX12_drawMan_128 rfl ⟨rfl, rfl⟩
              · replace h := bu_f h cc
                refine bv_aload_n dX12_drawMan_91 0 rfl ?_
                refine bv_aload_n dX12_drawMan_92 0 rfl ?_
                refine bz_getA (a := 166) hN okL_164 (hR _ _ _ r0_164_6) dX12_drawMan_93 fl_12_33 rfl ?_
                refine bv_iconst (v := 1) dX12_drawMan_96 (by decide) ?_
                refine bz_iald (j := 1) hN rkL_166 (bm_ix_in (by decide)) (by decide) dX12_drawMan_97 ?_
                obtain ⟨v128, p129, h⟩ := bu_bd h
                refine bw_callV (As := [.int (v124.2 166 1)]) hN okL_164 ⟨_, _, rfl⟩ dX12_drawMan_98 mc_12_426 (c_X12_draw (d := d + 7) hN hR p129) rfl rfl (by decide) ?_
                refine bv_istore_n (ls1 := [(0, .ref 164), (1, .int x1), (2, .int v1.1), (3, .int v128.1)]) dX12_drawMan_101 (by decide) rfl rfl ?_
                refine bv_aload_n dX12_drawMan_102 0 rfl ?_
                refine bz_getA (a := 166) hN okL_164 (hR _ _ _ r0_164_6) dX12_drawMan_103 fl_12_33 rfl ?_
                refine bv_bipush (v := 31) dX12_drawMan_106 (by decide) ?_
                refine bv_iload_n dX12_drawMan_108 1 rfl ?_
                refine bv_iadd dX12_drawMan_109 ?_
                obtain ⟨r130, h⟩ := bu_ix h
                refine bz_iald hN rkL_166 r130 rfl dX12_drawMan_110 ?_
                refine bv_if_ne (tgt := 128) dX12_drawMan_111 (by decide) (fun cc => ?_) (fun cc => ?_)
                · replace h := bu_f h cc
                  obtain rfl := Option.some.inj h
                  exact bv_vret dX12_drawMan_128 rfl ⟨rfl, rfl⟩
                · replace h := bu_t h cc
                  refine bv_aload_n dX12_drawMan_114 0 rfl ?_
                  refine bv_iload_n dX12_drawMan_115 1 rfl ?_
                  obtain ⟨v131, p132, h⟩ := bu_bd h
                  refine bw_callV (As := [.int x1]) hN okL_164 ⟨_, _, rfl⟩ dX12_drawMan_116 mc_12_290 (c_X12_browOf (d := d + 6) hN hR p132) rfl rfl (by decide) ?_
                  refine bv_if_le (tgt := 128) dX12_drawMan_119 (by decide) (fun cc => ?_) (fun cc => ?_)
                  · replace h := bu_t h cc
                    obtain rfl := Option.some.inj h
                    exact bv_vret dX12_drawMan_128 rfl ⟨rfl, rfl⟩
                  · replace h := bu_f h cc
                    refine bv_aload_n dX12_drawMan_122 0 rfl ?_
                    refine bv_iload_n dX12_drawMan_123 1 rfl ?_
                    refine bv_iload_n dX12_drawMan_124 3 rfl ?_
                    obtain ⟨v133, p134, h⟩ := bu_bd h
                    refine bw_callVv (As := [.int x1, .int v128.1]) hN okL_164 ⟨_, _, rfl⟩ dX12_drawMan_125 mc_12_332 (c_X12_gives (d := d + 0) hN hR p134) rfl rfl (by decide) ?_
                    obtain rfl := Option.some.inj h
                    exact bv_vret dX12_drawMan_128 rfl ⟨rfl, rfl⟩
          · replace h := bu_t h cc
            refine bv_aload_n dX12_drawMan_71 0 rfl ?_
            refine bv_iload_n dX12_drawMan_72 1 rfl ?_
            refine bv_iload_n dX12_drawMan_73 3 rfl ?_
            obtain ⟨v135, p136, h⟩ := bu_bd h
            refine bw_callVv (As := [.int x1, .int v124.1]) hN okL_164 ⟨_, _, rfl⟩ dX12_drawMan_74 mc_12_354 (c_X12_goes (d := d + 6) hN hR p136) rfl rfl (by decide) ?_
            refine bv_iload_n dX12_drawMan_77 2 rfl ?_
            refine bv_iconst (v := 3) dX12_drawMan_78 (by decide) ?_
            refine bv_icmp_ne (tgt := 128) dX12_drawMan_79 (by decide) (fun cc => ?_) (fun cc => ?_)
            · replace h := bu_f h cc
              obtain rfl := Option.some.inj h
              exact bv_vret dX12_drawMan_128 rfl ⟨rfl, rfl⟩
            · replace h := bu_t h cc
              refine bv_aload_n dX12_drawMan_82 0 rfl ?_
              refine bz_getA (a := 166) hN okL_164 (hR _ _ _ r0_164_6) dX12_drawMan_83 fl_12_33 rfl ?_
              refine bv_iconst (v := 1) dX12_drawMan_86 (by decide) ?_
              refine bz_iald (j := 1) hN rkL_166 (bm_ix_in (by decide)) (by decide) dX12_drawMan_87 ?_
              refine bv_if_le (tgt := 128) dX12_drawMan_88 (by decide) (fun cc => ?_) (fun cc => ?_)
              · replace h := bu_t h cc
                obtain rfl := Option.some.inj h
                exact bv_vret dX12_drawMan_128 rfl ⟨rfl, rfl⟩
              · replace h := bu_f h cc
                refine bv_aload_n dX12_drawMan_91 0 rfl ?_
                refine bv_aload_n dX12_drawMan_92 0 rfl ?_
                refine bz_getA (a := 166) hN okL_164 (hR _ _ _ r0_164_6) dX12_drawMan_93 fl_12_33 rfl ?_
                refine bv_iconst (v := 1) dX12_drawMan_96 (by decide) ?_
                refine bz_iald (j := 1) hN rkL_166 (bm_ix_in (by decide)) (by decide) dX12_drawMan_97 ?_
                obtain ⟨v137, p138, h⟩ := bu_bd h
                refine bw_callV (As := [.int (v135 166 1)]) hN okL_164 ⟨_, _, rfl⟩ dX12_drawMan_98 mc_12_426 (c_X12_draw (d := d + 7) hN hR p138) rfl rfl (by decide) ?_
                refine bv_istore_n (ls1 := [(0, .ref 164), (1, .int x1), (2, .int v1.1), (3, .int v137.1)]) dX12_drawMan_101 (by decide) rfl rfl ?_
                refine bv_aload_n dX12_drawMan_102 0 rfl ?_
                refine bz_getA (a := 166) hN okL_164 (hR _ _ _ r0_164_6) dX12_drawMan_103 fl_12_33 rfl ?_
                refine bv_bipush (v := 31) dX12_drawMan_106 (by decide) ?_
                refine bv_iload_n dX12_drawMan_108 1 rfl ?_
                refine bv_iadd dX12_drawMan_109 ?_
                obtain ⟨r139, h⟩ := bu_ix h
                refine bz_iald hN rkL_166 r139 rfl dX12_drawMan_110 ?_
                refine bv_if_ne (tgt := 128) dX12_drawMan_111 (by decide) (fun cc => ?_) (fun cc => ?_)
                · replace h := bu_f h cc
                  obtain rfl := Option.some.inj h
                  exact bv_vret dX12_drawMan_128 rfl ⟨rfl, rfl⟩
                · replace h := bu_t h cc
                  refine bv_aload_n dX12_drawMan_114 0 rfl ?_
                  refine bv_iload_n dX12_drawMan_115 1 rfl ?_
                  obtain ⟨v140, p141, h⟩ := bu_bd h
                  refine bw_callV (As := [.int x1]) hN okL_164 ⟨_, _, rfl⟩ dX12_drawMan_116 mc_12_290 (c_X12_browOf (d := d + 6) hN hR p141) rfl rfl (by decide) ?_
                  refine bv_if_le (tgt := 128) dX12_drawMan_119 (by decide) (fun cc => ?_) (fun cc => ?_)
                  · replace h := bu_t h cc
                    obtain rfl := Option.some.inj h
                    exact bv_vret dX12_drawMan_128 rfl ⟨rfl, rfl⟩
                  · replace h := bu_f h cc
                    refine bv_aload_n dX12_drawMan_122 0 rfl ?_
                    refine bv_iload_n dX12_drawMan_123 1 rfl ?_
                    refine bv_iload_n dX12_drawMan_124 3 rfl ?_
                    obtain ⟨v142, p143, h⟩ := bu_bd h
                    refine bw_callVv (As := [.int x1, .int v137.1]) hN okL_164 ⟨_, _, rfl⟩ dX12_drawMan_125 mc_12_332 (c_X12_gives (d := d + 0) hN hR p143) rfl rfl (by decide) ?_
                    obtain rfl := Option.some.inj h
                    exact bv_vret dX12_drawMan_128 rfl ⟨rfl, rfl⟩
      · replace h := bu_t h cc
        refine bv_aload_n dX12_drawMan_38 0 rfl ?_
        refine bz_getA (a := 166) hN okL_164 (hR _ _ _ r0_164_6) dX12_drawMan_39 fl_12_33 rfl ?_
        refine bv_bipush (v := 63) dX12_drawMan_42 (by decide) ?_
        refine bv_dup2 dX12_drawMan_44 rfl rfl ?_
        refine bz_iald (j := 63) hN rkL_166 (bm_ix_in (by decide)) (by decide) dX12_drawMan_45 ?_
        refine bv_iconst (v := 1) dX12_drawMan_46 (by decide) ?_
        refine bv_iload_n dX12_drawMan_47 1 rfl ?_
        refine bv_ishl dX12_drawMan_48 ?_
        refine bv_ixor dX12_drawMan_49 ?_
        refine bz_iast (j := 63) hN rkL_166 (bm_ix_in (by decide)) (by decide) dX12_drawMan_50 ?_
        refine bv_iload_n dX12_drawMan_51 2 rfl ?_
        refine bv_iconst (v := 2) dX12_drawMan_52 (by decide) ?_
        refine bv_icmp_ne (tgt := 77) dX12_drawMan_53 (by decide) (fun cc => ?_) (fun cc => ?_)
        · replace h := bu_f h cc
          refine bv_iload_n dX12_drawMan_77 2 rfl ?_
          refine bv_iconst (v := 3) dX12_drawMan_78 (by decide) ?_
          refine bv_icmp_ne (tgt := 128) dX12_drawMan_79 (by decide) (fun cc => ?_) (fun cc => ?_)
          · replace h := bu_f h cc
            obtain rfl := Option.some.inj h
            exact bv_vret dX12_drawMan_128 rfl ⟨rfl, rfl⟩
          · replace h := bu_t h cc
            refine bv_aload_n dX12_drawMan_82 0 rfl ?_
            refine bz_getA (a := 166) hN okL_164 (hR _ _ _ r0_164_6) dX12_drawMan_83 fl_12_33 rfl ?_
            refine bv_iconst (v := 1) dX12_drawMan_86 (by decide) ?_
            refine bz_iald (j := 1) hN rkL_166 (bm_ix_in (by decide)) (by decide) dX12_drawMan_87 ?_
            refine bv_if_le (tgt := 128) dX12_drawMan_88 (by decide) (fun cc => ?_) (fun cc => ?_)
            · replace h := bu_t h cc
              obtain rfl := Option.some.inj h
              exact bv_vret dX12_drawMan_128 rfl ⟨rfl, rfl⟩
            · replace h := bu_f h cc
              refine bv_aload_n dX12_drawMan_91 0 rfl ?_
              refine bv_aload_n dX12_drawMan_92 0 rfl ?_
              refine bz_getA (a := 166) hN okL_164 (hR _ _ _ r0_164_6) dX12_drawMan_93 fl_12_33 rfl ?_
              refine bv_iconst (v := 1) dX12_drawMan_96 (by decide) ?_
              refine bz_iald (j := 1) hN rkL_166 (bm_ix_in (by decide)) (by decide) dX12_drawMan_97 ?_
              obtain ⟨v144, p145, h⟩ := bu_bd h
              refine bw_callV (As := [.int ((bm_uI v115 166 63 ((v115 166 63) ^^^ (bm_ishl 1 x1))) 166 1)]) hN okL_164 ⟨_, _, rfl⟩ dX12_drawMan_98 mc_12_426 (c_X12_draw (d := d + 7) hN hR p145) rfl rfl (by decide) ?_
              refine bv_istore_n (ls1 := [(0, .ref 164), (1, .int x1), (2, .int v1.1), (3, .int v144.1)]) dX12_drawMan_101 (by decide) rfl rfl ?_
              refine bv_aload_n dX12_drawMan_102 0 rfl ?_
              refine bz_getA (a := 166) hN okL_164 (hR _ _ _ r0_164_6) dX12_drawMan_103 fl_12_33 rfl ?_
              refine bv_bipush (v := 31) dX12_drawMan_106 (by decide) ?_
              refine bv_iload_n dX12_drawMan_108 1 rfl ?_
              refine bv_iadd dX12_drawMan_109 ?_
              obtain ⟨r146, h⟩ := bu_ix h
              refine bz_iald hN rkL_166 r146 rfl dX12_drawMan_110 ?_
              refine bv_if_ne (tgt := 128) dX12_drawMan_111 (by decide) (fun cc => ?_) (fun cc => ?_)
              · replace h := bu_f h cc
                obtain rfl := Option.some.inj h
                exact bv_vret dX12_drawMan_128 rfl ⟨rfl, rfl⟩
              · replace h := bu_t h cc
                refine bv_aload_n dX12_drawMan_114 0 rfl ?_
                refine bv_iload_n dX12_drawMan_115 1 rfl ?_
                obtain ⟨v147, p148, h⟩ := bu_bd h
                refine bw_callV (As := [.int x1]) hN okL_164 ⟨_, _, rfl⟩ dX12_drawMan_116 mc_12_290 (c_X12_browOf (d := d + 6) hN hR p148) rfl rfl (by decide) ?_
                refine bv_if_le (tgt := 128) dX12_drawMan_119 (by decide) (fun cc => ?_) (fun cc => ?_)
                · replace h := bu_t h cc
                  obtain rfl := Option.some.inj h
                  exact bv_vret dX12_drawMan_128 rfl ⟨rfl, rfl⟩
                · replace h := bu_f h cc
                  refine bv_aload_n dX12_drawMan_122 0 rfl ?_
                  refine bv_iload_n dX12_drawMan_123 1 rfl ?_
                  refine bv_iload_n dX12_drawMan_124 3 rfl ?_
                  obtain ⟨v149, p150, h⟩ := bu_bd h
                  refine bw_callVv (As := [.int x1, .int v144.1]) hN okL_164 ⟨_, _, rfl⟩ dX12_drawMan_125 mc_12_332 (c_X12_gives (d := d + 0) hN hR p150) rfl rfl (by decide) ?_
                  obtain rfl := Option.some.inj h
                  exact bv_vret dX12_drawMan_128 rfl ⟨rfl, rfl⟩
        · replace h := bu_t h cc
          refine bv_aload_n dX12_drawMan_56 0 rfl ?_
          refine bv_iconst (v := 4) dX12_drawMan_57 (by decide) ?_
          obtain ⟨v151, p152, h⟩ := bu_bd h
          refine bw_callV (As := [.int 4]) hN okL_164 ⟨_, _, rfl⟩ dX12_drawMan_58 mc_12_426 (c_X12_draw (d := d + 7) hN hR p152) rfl rfl (by decide) ?_
          refine bv_istore_n (ls1 := [(0, .ref 164), (1, .int x1), (2, .int v1.1), (3, .int v151.1)]) dX12_drawMan_61 (by decide) rfl rfl ?_
          refine bv_aload_n dX12_drawMan_62 0 rfl ?_
          refine bv_iload_n dX12_drawMan_63 1 rfl ?_
          refine bv_iload_n dX12_drawMan_64 3 rfl ?_
          obtain ⟨v153, p154, h⟩ := bu_bd h
          refine bw_callV (As := [.int x1, .int v151.1]) hN okL_164 ⟨_, _, rfl⟩ dX12_drawMan_65 mc_12_351 (c_X12_whyGo (d := d + 6) hN hR p154) rfl rfl (by decide) ?_
          refine bv_if_ne (tgt := 77) dX12_drawMan_68 (by decide) (fun cc => ?_) (fun cc => ?_)
          · replace h := bu_f h cc
            refine bv_iload_n dX12_drawMan_77 2 rfl ?_
            refine bv_iconst (v := 3) dX12_drawMan_78 (by decide) ?_
            refine bv_icmp_ne (tgt := 128) dX12_drawMan_79 (by decide) (fun cc => ?_) (fun cc => ?_)
            · replace h := bu_f h cc
              obtain rfl := Option.some.inj h
              exact bv_vret dX12_drawMan_128 rfl ⟨rfl, rfl⟩
            · replace h := bu_t h cc
              refine bv_aload_n dX12_drawMan_82 0 rfl ?_
              refine bz_getA (a := 166) hN okL_164 (hR _ _ _ r0_164_6) dX12_drawMan_83 fl_12_33 rfl ?_
              refine bv_iconst (v := 1) dX12_drawMan_86 (by decide) ?_
              refine bz_iald (j := 1) hN rkL_166 (bm_ix_in (by decide)) (by decide) dX12_drawMan_87 ?_
              refine bv_if_le (tgt := 128) dX12_drawMan_88 (by decide) (fun cc => ?_) (fun cc => ?_)
              · replace h := bu_t h cc
                obtain rfl := Option.some.inj h
                exact bv_vret dX12_drawMan_128 rfl ⟨rfl, rfl⟩
              · replace h := bu_f h cc
                refine bv_aload_n dX12_drawMan_91 0 rfl ?_
                refine bv_aload_n dX12_drawMan_92 0 rfl ?_
                refine bz_getA (a := 166) hN okL_164 (hR _ _ _ r0_164_6) dX12_drawMan_93 fl_12_33 rfl ?_
                refine bv_iconst (v := 1) dX12_drawMan_96 (by decide) ?_
                refine bz_iald (j := 1) hN rkL_166 (bm_ix_in (by decide)) (by decide) dX12_drawMan_97 ?_
                obtain ⟨v155, p156, h⟩ := bu_bd h
                refine bw_callV (As := [.int (v151.2 166 1)]) hN okL_164 ⟨_, _, rfl⟩ dX12_drawMan_98 mc_12_426 (c_X12_draw (d := d + 7) hN hR p156) rfl rfl (by decide) ?_
                refine bv_istore_n (ls1 := [(0, .ref 164), (1, .int x1), (2, .int v1.1), (3, .int v155.1)]) dX12_drawMan_101 (by decide) rfl rfl ?_
                refine bv_aload_n dX12_drawMan_102 0 rfl ?_
                refine bz_getA (a := 166) hN okL_164 (hR _ _ _ r0_164_6) dX12_drawMan_103 fl_12_33 rfl ?_
                refine bv_bipush (v := 31) dX12_drawMan_106 (by decide) ?_
                refine bv_iload_n dX12_drawMan_108 1 rfl ?_
                refine bv_iadd dX12_drawMan_109 ?_
                obtain ⟨r157, h⟩ := bu_ix h
                refine bz_iald hN rkL_166 r157 rfl dX12_drawMan_110 ?_
                refine bv_if_ne (tgt := 128) dX12_drawMan_111 (by decide) (fun cc => ?_) (fun cc => ?_)
                · replace h := bu_f h cc
                  obtain rfl := Option.some.inj h
                  exact bv_vret dX12_drawMan_128 rfl ⟨rfl, rfl⟩
                · replace h := bu_t h cc
                  refine bv_aload_n dX12_drawMan_114 0 rfl ?_
                  refine bv_iload_n dX12_drawMan_115 1 rfl ?_
                  obtain ⟨v158, p159, h⟩ := bu_bd h
                  refine bw_callV (As := [.int x1]) hN okL_164 ⟨_, _, rfl⟩ dX12_drawMan_116 mc_12_290 (c_X12_browOf (d := d + 6) hN hR p159) rfl rfl (by decide) ?_
                  refine bv_if_le (tgt := 128) dX12_drawMan_119 (by decide) (fun cc => ?_) (fun cc => ?_)
                  · replace h := bu_t h cc
                    obtain rfl := Option.some.inj h
                    exact bv_vret dX12_drawMan_128 rfl ⟨rfl, rfl⟩
                  · replace h := bu_f h cc
                    refine bv_aload_n dX12_drawMan_122 0 rfl ?_
                    refine bv_iload_n dX12_drawMan_123 1 rfl ?_
                    refine bv_iload_n dX12_drawMan_124 3 rfl ?_
                    obtain ⟨v160, p161, h⟩ := bu_bd h
                    refine bw_callVv (As := [.int x1, .int v155.1]) hN okL_164 ⟨_, _, rfl⟩ dX12_drawMan_125 mc_12_332 (c_X12_gives (d := d + 0) hN hR p161) rfl rfl (by decide) ?_
                    obtain rfl := Option.some.inj h
                    exact bv_vret dX12_drawMan_128 rfl ⟨rfl, rfl⟩
          · replace h := bu_t h cc
            refine bv_aload_n dX12_drawMan_71 0 rfl ?_
            refine bv_iload_n dX12_drawMan_72 1 rfl ?_
            refine bv_iload_n dX12_drawMan_73 3 rfl ?_
            obtain ⟨v162, p163, h⟩ := bu_bd h
            refine bw_callVv (As := [.int x1, .int v151.1]) hN okL_164 ⟨_, _, rfl⟩ dX12_drawMan_74 mc_12_354 (c_X12_goes (d := d + 6) hN hR p163) rfl rfl (by decide) ?_
            refine bv_iload_n dX12_drawMan_77 2 rfl ?_
            refine bv_iconst (v := 3) dX12_drawMan_78 (by decide) ?_
            refine bv_icmp_ne (tgt := 128) dX12_drawMan_79 (by decide) (fun cc => ?_) (fun cc => ?_)
            · replace h := bu_f h cc
              obtain rfl := Option.some.inj h
              exact bv_vret dX12_drawMan_128 rfl ⟨rfl, rfl⟩
            · replace h := bu_t h cc
              refine bv_aload_n dX12_drawMan_82 0 rfl ?_
              refine bz_getA (a := 166) hN okL_164 (hR _ _ _ r0_164_6) dX12_drawMan_83 fl_12_33 rfl ?_
              refine bv_iconst (v := 1) dX12_drawMan_86 (by decide) ?_
              refine bz_iald (j := 1) hN rkL_166 (bm_ix_in (by decide)) (by decide) dX12_drawMan_87 ?_
              refine bv_if_le (tgt := 128) dX12_drawMan_88 (by decide) (fun cc => ?_) (fun cc => ?_)
              · replace h := bu_t h cc
                obtain rfl := Option.some.inj h
                exact bv_vret dX12_drawMan_128 rfl ⟨rfl, rfl⟩
              · replace h := bu_f h cc
                refine bv_aload_n dX12_drawMan_91 0 rfl ?_
                refine bv_aload_n dX12_drawMan_92 0 rfl ?_
                refine bz_getA (a := 166) hN okL_164 (hR _ _ _ r0_164_6) dX12_drawMan_93 fl_12_33 rfl ?_
                refine bv_iconst (v := 1) dX12_drawMan_96 (by decide) ?_
                refine bz_iald (j := 1) hN rkL_166 (bm_ix_in (by decide)) (by decide) dX12_drawMan_97 ?_
                obtain ⟨v164, p165, h⟩ := bu_bd h
                refine bw_callV (As := [.int (v162 166 1)]) hN okL_164 ⟨_, _, rfl⟩ dX12_drawMan_98 mc_12_426 (c_X12_draw (d := d + 7) hN hR p165) rfl rfl (by decide) ?_
                refine bv_istore_n (ls1 := [(0, .ref 164), (1, .int x1), (2, .int v1.1), (3, .int v164.1)]) dX12_drawMan_101 (by decide) rfl rfl ?_
                refine bv_aload_n dX12_drawMan_102 0 rfl ?_
                refine bz_getA (a := 166) hN okL_164 (hR _ _ _ r0_164_6) dX12_drawMan_103 fl_12_33 rfl ?_
                refine bv_bipush (v := 31) dX12_drawMan_106 (by decide) ?_
                refine bv_iload_n dX12_drawMan_108 1 rfl ?_
                refine bv_iadd dX12_drawMan_109 ?_
                obtain ⟨r166, h⟩ := bu_ix h
                refine bz_iald hN rkL_166 r166 rfl dX12_drawMan_110 ?_
                refine bv_if_ne (tgt := 128) dX12_drawMan_111 (by decide) (fun cc => ?_) (fun cc => ?_)
                · replace h := bu_f h cc
                  obtain rfl := Option.some.inj h
                  exact bv_vret dX12_drawMan_128 rfl ⟨rfl, rfl⟩
                · replace h := bu_t h cc
                  refine bv_aload_n dX12_drawMan_114 0 rfl ?_
                  refine bv_iload_n dX12_drawMan_115 1 rfl ?_
                  obtain ⟨v167, p168, h⟩ := bu_bd h
                  refine bw_callV (As := [.int x1]) hN okL_164 ⟨_, _, rfl⟩ dX12_drawMan_116 mc_12_290 (c_X12_browOf (d := d + 6) hN hR p168) rfl rfl (by decide) ?_
                  refine bv_if_le (tgt := 128) dX12_drawMan_119 (by decide) (fun cc => ?_) (fun cc => ?_)
                  · replace h := bu_t h cc
                    obtain rfl := Option.some.inj h
                    exact bv_vret dX12_drawMan_128 rfl ⟨rfl, rfl⟩
                  · replace h := bu_f h cc
                    refine bv_aload_n dX12_drawMan_122 0 rfl ?_
                    refine bv_iload_n dX12_drawMan_123 1 rfl ?_
                    refine bv_iload_n dX12_drawMan_124 3 rfl ?_
                    obtain ⟨v169, p170, h⟩ := bu_bd h
                    refine bw_callVv (As := [.int x1, .int v164.1]) hN okL_164 ⟨_, _, rfl⟩ dX12_drawMan_125 mc_12_332 (c_X12_gives (d := d + 0) hN hR p170) rfl rfl (by decide) ?_
                    obtain rfl := Option.some.inj h
                    exact bv_vret dX12_drawMan_128 rfl ⟨rfl, rfl⟩
def f_X12_draws_l28 (x1 : Int32) (x3 : Int32) : Nat → Int32 → bm_TI → Option (bm_TI)
  | 0, _, _ => none
  | k + 1, x4, I => (if (I 166 0) ≤ x4 then some I else ((f_X12_drawMan I x4).bind fun v1 => f_X12_draws_l28 x1 x3 k (x4 + 1) v1))
set_option maxHeartbeats 4000000 in
set_option maxRecDepth 100000 in
theorem v_X12_draws_l28 {lc : bm_L} {d n : Nat} {Q : Option Value → bm_M → Prop} {R : bm_TR} {J : bm_TJ} {W : bm_TR} {x1 : Int32} {x3 : Int32} (hN : 181 ≤ n) (hR : bm_RR R) : ∀ (k : Nat) (x4 : Int32) (I : bm_TI) (r : bm_TI), f_X12_draws_l28 x1 x3 k x4 I = some r → (∀ yy, yy = r → bm_V lc m_X12_draws (d + 9) n n n 51 [(0, .ref 164), (1, .int x1), (3, .int x3)] [] (yy, J, R, W) Q) → bm_V lc m_X12_draws (d + 9) n n n 28 [(0, .ref 164), (1, .int x1), (3, .int x3), (4, .int x4)] [] (I, J, R, W) Q := by
  intro k
  induction k with
  | zero => intro x4 I r h; cases (show (none : Option (bm_TI)) = some r from h)
  | succ k ih =>
    intro x4 I r h K0
    unfold f_X12_draws_l28 at h
    refine bv_iload dX12_draws_28 3 rfl ?_
    refine bv_aload_n dX12_draws_30 0 rfl ?_
    refine bz_getA (a := 166) hN okL_164 (hR _ _ _ r0_164_6) dX12_draws_31 fl_12_33 rfl ?_
    refine bv_iconst (v := 0) dX12_draws_34 (by decide) ?_
    refine bz_iald (j := 0) hN rkL_166 (bm_ix_in (by decide)) (by decide) dX12_draws_35 ?_
    refine bv_icmp_ge (tgt := 51) dX12_draws_36 (by decide) (fun cc => ?_) (fun cc => ?_)
    · replace h := bu_t h cc
      refine bw_ls (ls1 := [(0, .ref 164), (1, .int x1), (3, .int x3)]) [0, 1, 2] rfl ?_
      obtain rfl := Option.some.inj h
      exact K0 _ rfl
    · replace h := bu_f h cc
      refine bv_aload_n dX12_draws_39 0 rfl ?_
      refine bv_iload dX12_draws_40 3 rfl ?_
      obtain ⟨v1, p2, h⟩ := bu_bd h
      refine bw_callVv (As := [.int x4]) hN okL_164 ⟨_, _, rfl⟩ dX12_draws_42 mc_12_429 (c_X12_drawMan (d := d + 0) hN hR p2) rfl rfl (by decide) ?_
      refine bv_iinc (j := 3) (v := (x4 + 1)) (ls1 := [(0, .ref 164), (1, .int x1), (3, .int x3), (4, .int (x4 + 1))]) dX12_draws_45 rfl rfl (by decide) rfl rfl ?_
      refine bv_goto (tgt := 28) dX12_draws_48 (by decide) ?_
      exact ih _ _ _ h K0
def f_X12_draws_l7 (x1 : Int32) : Nat → Int32 → bm_TI → Option (Int32 × bm_TI)
  | 0, _, _ => none
  | k + 1, x3, I => (if x1 ≤ x3 then some (x3, I) else (if 400 ≤ (I 166 61) then some (x3, I) else ((f_X12_draws_l28 x1 x3 1000 0 I).bind fun y3 => ((f_X12_hour y3).bind fun v4 => f_X12_draws_l7 x1 k (x3 + 1) v4))))
set_option maxHeartbeats 4000000 in
set_option maxRecDepth 100000 in
theorem v_X12_draws_l7 {lc : bm_L} {d n : Nat} {Q : Option Value → bm_M → Prop} {R : bm_TR} {J : bm_TJ} {W : bm_TR} {x1 : Int32} (hN : 181 ≤ n) (hR : bm_RR R) : ∀ (k : Nat) (x3 : Int32) (I : bm_TI) (r : Int32 × bm_TI), f_X12_draws_l7 x1 k x3 I = some r → (∀ yy, yy = r → bm_V lc m_X12_draws (d + 9) n n n 61 [(3, .int yy.1)] [] (yy.2, J, R, W) Q) → bm_V lc m_X12_draws (d + 9) n n n 7 [(0, .ref 164), (1, .int x1), (3, .int x3)] [] (I, J, R, W) Q := by
  intro k
  induction k with
  | zero => intro x3 I r h; cases (show (none : Option (Int32 × bm_TI)) = some r from h)
  | succ k ih =>
    intro x3 I r h K0
    unfold f_X12_draws_l7 at h
    refine bv_iload_n dX12_draws_7 2 rfl ?_
    refine bv_iload_n dX12_draws_8 1 rfl ?_
    refine bv_icmp_ge (tgt := 61) dX12_draws_9 (by decide) (fun cc => ?_) (fun cc => ?_)
    · replace h := bu_t h cc
      refine bw_ls (ls1 := [(3, .int x3)]) [2] rfl ?_
      obtain rfl := Option.some.inj h
      exact K0 _ rfl
    · replace h := bu_f h cc
      refine bv_aload_n dX12_draws_12 0 rfl ?_
      refine bz_getA (a := 166) hN okL_164 (hR _ _ _ r0_164_6) dX12_draws_13 fl_12_33 rfl ?_
      refine bv_bipush (v := 61) dX12_draws_16 (by decide) ?_
      refine bz_iald (j := 61) hN rkL_166 (bm_ix_in (by decide)) (by decide) dX12_draws_18 ?_
      refine bv_sipush (v := 400) dX12_draws_19 (by decide) ?_
      refine bv_icmp_ge (tgt := 61) dX12_draws_22 (by decide) (fun cc => ?_) (fun cc => ?_)
      · replace h := bu_t h cc
        refine bw_ls (ls1 := [(3, .int x3)]) [2] rfl ?_
        obtain rfl := Option.some.inj h
        exact K0 _ rfl
      · replace h := bu_f h cc
        refine bv_iconst (v := 0) dX12_draws_25 (by decide) ?_
        refine bv_istore (ls1 := [(0, .ref 164), (1, .int x1), (3, .int x3), (4, .int 0)]) dX12_draws_26 (by decide) rfl rfl ?_
        obtain ⟨r1, p2, h⟩ := bu_bd h
        refine v_X12_draws_l28 hN hR 1000 _ _ _ p2 (fun y3 hy => ?_)
        · subst hy
          refine bv_aload_n dX12_draws_51 0 rfl ?_
          obtain ⟨v4, p5, h⟩ := bu_bd h
          refine bw_callVv (As := []) hN okL_164 ⟨_, _, rfl⟩ dX12_draws_52 mc_12_335 (c_X12_hour (d := d + 0) hN hR p5) rfl rfl (by decide) ?_
          refine bv_iinc (j := 2) (v := (x3 + 1)) (ls1 := [(0, .ref 164), (1, .int x1), (3, .int (x3 + 1))]) dX12_draws_55 rfl rfl (by decide) rfl rfl ?_
          refine bv_goto (tgt := 7) dX12_draws_58 (by decide) ?_
          exact ih _ _ _ h K0
def f_X12_draws (I : bm_TI) (x1 : Int32) (x2 : Int32) : Option (Int32 × bm_TI) := ((f_X12_draws_l7 x1 1000 0 (bm_uI I 164 33 x2)).bind fun y3 => some (y3.1, y3.2))
set_option maxHeartbeats 4000000 in
set_option maxRecDepth 100000 in
theorem c_X12_draws {lc : bm_L} {d n : Nat} {I : bm_TI} {J : bm_TJ} {R W : bm_TR} {x1 : Int32} {x2 : Int32} {v : Int32 × bm_TI} (hN : 181 ≤ n) (hR : bm_RR R) (h : f_X12_draws I x1 x2 = some v) : bm_C lc m_X12_draws (d + 9) n n [.ref 164, .int x1, .int x2] (I, J, R, W) (fun r M' => r = some (.int v.1) ∧ M' = (v.2, J, R, W)) := by
  refine bm_C.ofV (by decide) (Nat.le_of_ble_eq_true rfl) ?_
  show bm_V lc m_X12_draws (d + 9) n n n 0 [(0, .ref 164), (1, .int x1), (2, .int x2)] [] (I, J, R, W) _
  unfold f_X12_draws at h
  refine bv_aload_n dX12_draws_0 0 rfl ?_
  refine bv_iload_n dX12_draws_1 2 rfl ?_
  refine bz_putI hN okL_164 dX12_draws_2 fl_12_422 rfl ?_
  refine bv_iconst (v := 0) dX12_draws_5 (by decide) ?_
  refine bv_istore_n (ls1 := [(0, .ref 164), (1, .int x1), (2, .int x2), (3, .int 0)]) dX12_draws_6 (by decide) rfl rfl ?_
  refine bw_ls (ls1 := [(0, .ref 164), (1, .int x1), (3, .int 0)]) [0, 1, 3] rfl ?_
  obtain ⟨r1, p2, h⟩ := bu_bd h
  refine v_X12_draws_l7 hN hR 1000 _ _ _ p2 (fun y3 hy => ?_)
  · subst hy
    refine bv_iload_n dX12_draws_61 0 rfl ?_
    obtain rfl := Option.some.inj h
    exact bv_iret (x := y3.1) dX12_draws_62 rfl ⟨rfl, rfl⟩
def f_X12_drawn (I : bm_TI) (x1 : Int32) (x2 : Int32) : Option (Int32 × bm_TI) := (if (f_X12_isIn x1 1 60) = true then (if 400 ≤ ((bm_uI I 164 0 0) 166 61) then ((f_X12_draws (bm_uI I 164 0 0) x1 x2).bind fun v1 => some (v1.1, v1.2)) else ((f_X12_keep (bm_uI I 164 0 0)).bind fun v3 => ((f_X12_draws v3 x1 x2).bind fun v5 => some (v5.1, v5.2)))) else some ((-1), (bm_uI I 164 0 0)))
set_option maxHeartbeats 4000000 in
set_option maxRecDepth 100000 in
theorem c_X12_drawn {lc : bm_L} {d n : Nat} {I : bm_TI} {J : bm_TJ} {R W : bm_TR} {x1 : Int32} {x2 : Int32} {v : Int32 × bm_TI} (hN : 181 ≤ n) (hR : bm_RR R) (h : f_X12_drawn I x1 x2 = some v) : bm_C lc m_X12_drawn (d + 10) n n [.ref 164, .int x1, .int x2] (I, J, R, W) (fun r M' => r = some (.int v.1) ∧ M' = (v.2, J, R, W)) := by
  refine bm_C.ofV (by decide) (Nat.le_of_ble_eq_true rfl) ?_
  show bm_V lc m_X12_drawn (d + 10) n n n 0 [(0, .ref 164), (1, .int x1), (2, .int x2)] [] (I, J, R, W) _
  unfold f_X12_drawn at h
  refine bv_aload_n dX12_drawn_0 0 rfl ?_
  refine bv_iconst (v := 0) dX12_drawn_1 (by decide) ?_
  refine bz_putI hN okL_164 dX12_drawn_2 fl_12_1 rfl ?_
  refine bv_iload_n dX12_drawn_5 1 rfl ?_
  refine bv_iconst (v := 1) dX12_drawn_6 (by decide) ?_
  refine bv_bipush (v := 60) dX12_drawn_7 (by decide) ?_
  refine bw_callS (As := [.int x1, .int 1, .int 60]) dX12_drawn_9 mc_12_206 (c_X12_isIn (d := d + 9) hN hR rfl) rfl rfl (by decide) ?_
  refine bw_ifB_ne (b := (f_X12_isIn x1 1 60)) (tgt := 17) dX12_drawn_12 (by decide) (fun cc => ?_) (fun cc => ?_)
  · replace h := bu_bt h cc
    refine bv_aload_n dX12_drawn_17 0 rfl ?_
    refine bz_getA (a := 166) hN okL_164 (hR _ _ _ r0_164_6) dX12_drawn_18 fl_12_33 rfl ?_
    refine bv_bipush (v := 61) dX12_drawn_21 (by decide) ?_
    refine bz_iald (j := 61) hN rkL_166 (bm_ix_in (by decide)) (by decide) dX12_drawn_23 ?_
    refine bv_sipush (v := 400) dX12_drawn_24 (by decide) ?_
    refine bv_icmp_ge (tgt := 34) dX12_drawn_27 (by decide) (fun cc => ?_) (fun cc => ?_)
    · replace h := bu_t h cc
      refine bv_aload_n dX12_drawn_34 0 rfl ?_
      refine bv_iload_n dX12_drawn_35 1 rfl ?_
      refine bv_iload_n dX12_drawn_36 2 rfl ?_
      obtain ⟨v1, p2, h⟩ := bu_bd h
      refine bw_callV (As := [.int x1, .int x2]) hN okL_164 ⟨_, _, rfl⟩ dX12_drawn_37 mc_12_432 (c_X12_draws (d := d + 0) hN hR p2) rfl rfl (by decide) ?_
      obtain rfl := Option.some.inj h
      exact bv_iret (x := v1.1) dX12_drawn_40 rfl ⟨rfl, rfl⟩
    · replace h := bu_f h cc
      refine bv_aload_n dX12_drawn_30 0 rfl ?_
      obtain ⟨v3, p4, h⟩ := bu_bd h
      refine bw_callVv (As := []) hN okL_164 ⟨_, _, rfl⟩ dX12_drawn_31 mc_12_344 (c_X12_keep (d := d + 9) hN hR p4) rfl rfl (by decide) ?_
      refine bv_aload_n dX12_drawn_34 0 rfl ?_
      refine bv_iload_n dX12_drawn_35 1 rfl ?_
      refine bv_iload_n dX12_drawn_36 2 rfl ?_
      obtain ⟨v5, p6, h⟩ := bu_bd h
      refine bw_callV (As := [.int x1, .int x2]) hN okL_164 ⟨_, _, rfl⟩ dX12_drawn_37 mc_12_432 (c_X12_draws (d := d + 0) hN hR p6) rfl rfl (by decide) ?_
      obtain rfl := Option.some.inj h
      exact bv_iret (x := v5.1) dX12_drawn_40 rfl ⟨rfl, rfl⟩
  · replace h := bu_bf h cc
    refine bv_iconst (v := (-1)) dX12_drawn_15 (by decide) ?_
    obtain rfl := Option.some.inj h
    exact bv_iret (x := (-1)) dX12_drawn_16 rfl ⟨rfl, rfl⟩
def f_X12_odds_l35 (x1 : Int32) (x2 : Int32) (x3 : Int32) : Nat → Int32 → Int32 → bm_TI → Option (Int32 × bm_TI)
  | 0, _, _, _ => none
  | k + 1, x4, x5, I => (if x2 ≤ x5 then some (x4, I) else ((f_X12_draws I 20 (x3 + x5)).bind fun v1 => (if bm_ix 287 (90 + x1) = true then (if (v1.2 166 (90 + x1).toNatClampNeg) ≤ 0 then ((f_X12_back v1.2).bind fun v4 => f_X12_odds_l35 x1 x2 x3 k (x4 + 0) (x5 + 1) v4) else ((f_X12_back v1.2).bind fun v6 => f_X12_odds_l35 x1 x2 x3 k (x4 + 1) (x5 + 1) v6)) else none)))
set_option maxHeartbeats 4000000 in
set_option maxRecDepth 100000 in
theorem v_X12_odds_l35 {lc : bm_L} {d n : Nat} {Q : Option Value → bm_M → Prop} {R : bm_TR} {J : bm_TJ} {W : bm_TR} {x1 : Int32} {x2 : Int32} {x3 : Int32} (hN : 181 ≤ n) (hR : bm_RR R) : ∀ (k : Nat) (x4 : Int32) (x5 : Int32) (I : bm_TI) (r : Int32 × bm_TI), f_X12_odds_l35 x1 x2 x3 k x4 x5 I = some r → (∀ yy, yy = r → bm_V lc m_X12_odds (d + 10) n n n 84 [(4, .int yy.1)] [] (yy.2, J, R, W) Q) → bm_V lc m_X12_odds (d + 10) n n n 35 [(0, .ref 164), (1, .int x1), (2, .int x2), (3, .int x3), (4, .int x4), (5, .int x5)] [] (I, J, R, W) Q := by
  intro k
  induction k with
  | zero => intro x4 x5 I r h; cases (show (none : Option (Int32 × bm_TI)) = some r from h)
  | succ k ih =>
    intro x4 x5 I r h K0
    unfold f_X12_odds_l35 at h
    refine bv_iload dX12_odds_35 5 rfl ?_
    refine bv_iload_n dX12_odds_37 2 rfl ?_
    refine bv_icmp_ge (tgt := 84) dX12_odds_38 (by decide) (fun cc => ?_) (fun cc => ?_)
    · replace h := bu_t h cc
      refine bw_ls (ls1 := [(4, .int x4)]) [4] rfl ?_
      obtain rfl := Option.some.inj h
      exact K0 _ rfl
    · replace h := bu_f h cc
      refine bv_aload_n dX12_odds_41 0 rfl ?_
      refine bv_bipush (v := 20) dX12_odds_42 (by decide) ?_
      refine bv_iload_n dX12_odds_44 3 rfl ?_
      refine bv_iload dX12_odds_45 5 rfl ?_
      refine bv_iadd dX12_odds_47 ?_
      obtain ⟨v1, p2, h⟩ := bu_bd h
      refine bw_callV (As := [.int 20, .int (x3 + x5)]) hN okL_164 ⟨_, _, rfl⟩ dX12_odds_48 mc_12_432 (c_X12_draws (d := d + 0) hN hR p2) rfl rfl (by decide) ?_
      refine bv_pop dX12_odds_51 rfl ?_
      refine bv_iload dX12_odds_52 4 rfl ?_
      refine bv_aload_n dX12_odds_54 0 rfl ?_
      refine bz_getA (a := 166) hN okL_164 (hR _ _ _ r0_164_6) dX12_odds_55 fl_12_33 rfl ?_
      refine bv_bipush (v := 90) dX12_odds_58 (by decide) ?_
      refine bv_iload_n dX12_odds_60 1 rfl ?_
      refine bv_iadd dX12_odds_61 ?_
      obtain ⟨r3, h⟩ := bu_ix h
      refine bz_iald hN rkL_166 r3 rfl dX12_odds_62 ?_
      refine bv_if_le (tgt := 70) dX12_odds_63 (by decide) (fun cc => ?_) (fun cc => ?_)
      · replace h := bu_t h cc
        refine bv_iconst (v := 0) dX12_odds_70 (by decide) ?_
        refine bv_iadd dX12_odds_71 ?_
        refine bv_istore (ls1 := [(0, .ref 164), (1, .int x1), (2, .int x2), (3, .int x3), (4, .int (x4 + 0)), (5, .int x5)]) dX12_odds_72 (by decide) rfl rfl ?_
        refine bv_aload_n dX12_odds_74 0 rfl ?_
        obtain ⟨v4, p5, h⟩ := bu_bd h
        refine bw_callVv (As := []) hN okL_164 ⟨_, _, rfl⟩ dX12_odds_75 mc_12_369 (c_X12_back (d := d + 9) hN hR p5) rfl rfl (by decide) ?_
        refine bv_iinc (j := 5) (v := (x5 + 1)) (ls1 := [(0, .ref 164), (1, .int x1), (2, .int x2), (3, .int x3), (4, .int (x4 + 0)), (5, .int (x5 + 1))]) dX12_odds_78 rfl rfl (by decide) rfl rfl ?_
        refine bv_goto (tgt := 35) dX12_odds_81 (by decide) ?_
        exact ih _ _ _ _ h K0
      · replace h := bu_f h cc
        refine bv_iconst (v := 1) dX12_odds_66 (by decide) ?_
        refine bv_goto (tgt := 71) dX12_odds_67 (by decide) ?_
        refine bv_iadd dX12_odds_71 ?_
        refine bv_istore (ls1 := [(0, .ref 164), (1, .int x1), (2, .int x2), (3, .int x3), (4, .int (x4 + 1)), (5, .int x5)]) dX12_odds_72 (by decide) rfl rfl ?_
        refine bv_aload_n dX12_odds_74 0 rfl ?_
        obtain ⟨v6, p7, h⟩ := bu_bd h
        refine bw_callVv (As := []) hN okL_164 ⟨_, _, rfl⟩ dX12_odds_75 mc_12_369 (c_X12_back (d := d + 9) hN hR p7) rfl rfl (by decide) ?_
        refine bv_iinc (j := 5) (v := (x5 + 1)) (ls1 := [(0, .ref 164), (1, .int x1), (2, .int x2), (3, .int x3), (4, .int (x4 + 1)), (5, .int (x5 + 1))]) dX12_odds_78 rfl rfl (by decide) rfl rfl ?_
        refine bv_goto (tgt := 35) dX12_odds_81 (by decide) ?_
        exact ih _ _ _ _ h K0
def f_X12_odds (I : bm_TI) (x1 : Int32) (x2 : Int32) (x3 : Int32) : Option (Int32 × bm_TI) := ((f_X12_isMan (bm_uI I 164 0 0) x1).bind fun v1 => (if v1 = true then (if (f_X12_isIn x2 1 30) = true then ((f_X12_tries (bm_uI I 164 0 0)).bind fun v3 => ((f_X12_odds_l35 x1 x2 x3 1000 0 0 v3).bind fun y7 => some (y7.1, y7.2))) else some ((-1), (bm_uI I 164 0 0))) else some ((-1), (bm_uI I 164 0 0))))
set_option maxHeartbeats 4000000 in
set_option maxRecDepth 100000 in
theorem c_X12_odds {lc : bm_L} {d n : Nat} {I : bm_TI} {J : bm_TJ} {R W : bm_TR} {x1 : Int32} {x2 : Int32} {x3 : Int32} {v : Int32 × bm_TI} (hN : 181 ≤ n) (hR : bm_RR R) (h : f_X12_odds I x1 x2 x3 = some v) : bm_C lc m_X12_odds (d + 10) n n [.ref 164, .int x1, .int x2, .int x3] (I, J, R, W) (fun r M' => r = some (.int v.1) ∧ M' = (v.2, J, R, W)) := by
  refine bm_C.ofV (by decide) (Nat.le_of_ble_eq_true rfl) ?_
  show bm_V lc m_X12_odds (d + 10) n n n 0 [(0, .ref 164), (1, .int x1), (2, .int x2), (3, .int x3)] [] (I, J, R, W) _
  unfold f_X12_odds at h
  refine bv_aload_n dX12_odds_0 0 rfl ?_
  refine bv_iconst (v := 0) dX12_odds_1 (by decide) ?_
  refine bz_putI hN okL_164 dX12_odds_2 fl_12_1 rfl ?_
  refine bv_aload_n dX12_odds_5 0 rfl ?_
  refine bv_iload_n dX12_odds_6 1 rfl ?_
  obtain ⟨v1, p2, h⟩ := bu_bd h
  refine bw_callV (As := [.int x1]) hN okL_164 ⟨_, _, rfl⟩ dX12_odds_7 mc_12_303 (c_X12_isMan (d := d + 8) hN hR p2) rfl rfl (by decide) ?_
  refine bw_ifB_eq (b := v1) (tgt := 23) dX12_odds_10 (by decide) (fun cc => ?_) (fun cc => ?_)
  · replace h := bu_bf h cc
    refine bv_iconst (v := (-1)) dX12_odds_23 (by decide) ?_
    obtain rfl := Option.some.inj h
    exact bv_iret (x := (-1)) dX12_odds_24 rfl ⟨rfl, rfl⟩
  · replace h := bu_bt h cc
    refine bv_iload_n dX12_odds_13 2 rfl ?_
    refine bv_iconst (v := 1) dX12_odds_14 (by decide) ?_
    refine bv_bipush (v := 30) dX12_odds_15 (by decide) ?_
    refine bw_callS (As := [.int x2, .int 1, .int 30]) dX12_odds_17 mc_12_206 (c_X12_isIn (d := d + 9) hN hR rfl) rfl rfl (by decide) ?_
    refine bw_ifB_ne (b := (f_X12_isIn x2 1 30)) (tgt := 25) dX12_odds_20 (by decide) (fun cc => ?_) (fun cc => ?_)
    · replace h := bu_bt h cc
      refine bv_aload_n dX12_odds_25 0 rfl ?_
      obtain ⟨v3, p4, h⟩ := bu_bd h
      refine bw_callVv (As := []) hN okL_164 ⟨_, _, rfl⟩ dX12_odds_26 mc_12_366 (c_X12_tries (d := d + 9) hN hR p4) rfl rfl (by decide) ?_
      refine bv_iconst (v := 0) dX12_odds_29 (by decide) ?_
      refine bv_istore (ls1 := [(0, .ref 164), (1, .int x1), (2, .int x2), (3, .int x3), (4, .int 0)]) dX12_odds_30 (by decide) rfl rfl ?_
      refine bv_iconst (v := 0) dX12_odds_32 (by decide) ?_
      refine bv_istore (ls1 := [(0, .ref 164), (1, .int x1), (2, .int x2), (3, .int x3), (4, .int 0), (5, .int 0)]) dX12_odds_33 (by decide) rfl rfl ?_
      obtain ⟨r5, p6, h⟩ := bu_bd h
      refine v_X12_odds_l35 hN hR 1000 _ _ _ _ p6 (fun y7 hy => ?_)
      · subst hy
        refine bv_iload dX12_odds_84 0 rfl ?_
        obtain rfl := Option.some.inj h
        exact bv_iret (x := y7.1) dX12_odds_86 rfl ⟨rfl, rfl⟩
    · replace h := bu_bf h cc
      refine bv_iconst (v := (-1)) dX12_odds_23 (by decide) ?_
      obtain rfl := Option.some.inj h
      exact bv_iret (x := (-1)) dX12_odds_24 rfl ⟨rfl, rfl⟩
def f_X12_bookLine (I : bm_TI) (J : bm_TJ) : Option (Bool × bm_TI × bm_TJ) := ((f_X12_isWord I J 1752135026).bind fun v1 => (if v1 = true then (if (I 164 34) = 40 then ((f_X12_bad I 4).bind fun v33 => some (v33.1, v33.2, J)) else ((f_X12_next I J).bind fun v3 => (if bm_ix 135 (3 * (I 164 34)) = true then (if v1 = true then ((f_X12_takes (bm_uI v3.1 168 ((3 * (I 164 34)).toNatClampNeg) 6) v3.2 1 60).bind fun v30 => (if v30.1 = true then (if bm_ix 135 ((3 * (I 164 34)) + 1) = true then some (true, (bm_uI v30.2.1 168 (((3 * (I 164 34)) + 1).toNatClampNeg) (v30.2.1 164 18)), v30.2.2) else none) else some (false, v30.2.1, v30.2.2))) else ((f_X12_isOneOf (bm_uI v3.1 168 ((3 * (I 164 34)).toNatClampNeg) 6) v3.2 11 6).bind fun v6 => (if v6.1 = true then ((f_X12_next v6.2 v3.2).bind fun v8 => (if bm_ix 135 ((3 * (I 164 34)) + 1) = true then (if (f_X12_isIn (v6.2 164 18) 2 4) = true then some (true, (bm_uI (bm_uI v8.1 168 ((3 * (I 164 34)).toNatClampNeg) (v6.2 164 18)) 168 (((3 * (I 164 34)) + 1).toNatClampNeg) (I 164 18)), v8.2) else (if (v6.2 164 18) = 1 then ((f_X12_takesName (bm_uI (bm_uI v8.1 168 ((3 * (I 164 34)).toNatClampNeg) (v6.2 164 18)) 168 (((3 * (I 164 34)) + 1).toNatClampNeg) (I 164 18)) v8.2 8 ((bm_uI (bm_uI v8.1 168 ((3 * (I 164 34)).toNatClampNeg) (v6.2 164 18)) 168 (((3 * (I 164 34)) + 1).toNatClampNeg) (I 164 18)) 166 1)).bind fun v27 => (if v27.1 = true then (if bm_ix 135 ((3 * (I 164 34)) + 2) = true then some (true, (bm_uI v27.2.1 168 (((3 * (I 164 34)) + 2).toNatClampNeg) (v27.2.1 164 18)), v27.2.2) else none) else some (false, v27.2.1, v27.2.2))) else (if (v6.2 164 18) = 0 then ((f_X12_isOneOf (bm_uI (bm_uI v8.1 168 ((3 * (I 164 34)).toNatClampNeg) (v6.2 164 18)) 168 (((3 * (I 164 34)) + 1).toNatClampNeg) (I 164 18)) v8.2 5 3).bind fun v19 => (if v19.1 = true then (if (v6.2 164 18) = 0 then (if bm_ix 135 ((3 * (I 164 34)) + 2) = true then ((f_X12_next (bm_uI v19.2 168 (((3 * (I 164 34)) + 2).toNatClampNeg) ((v19.2 164 18) + 1)) v8.2).bind fun v25 => some (true, v25.1, v25.2)) else none) else (if bm_ix 135 ((3 * (I 164 34)) + 2) = true then ((f_X12_next (bm_uI v19.2 168 (((3 * (I 164 34)) + 2).toNatClampNeg) (v19.2 164 18)) v8.2).bind fun v22 => some (true, v22.1, v22.2)) else none)) else some (false, v19.2, v8.2))) else ((f_X12_isOneOf (bm_uI (bm_uI v8.1 168 ((3 * (I 164 34)).toNatClampNeg) (v6.2 164 18)) 168 (((3 * (I 164 34)) + 1).toNatClampNeg) (I 164 18)) v8.2 17 4).bind fun v11 => (if v11.1 = true then (if (v6.2 164 18) = 0 then (if bm_ix 135 ((3 * (I 164 34)) + 2) = true then ((f_X12_next (bm_uI v11.2 168 (((3 * (I 164 34)) + 2).toNatClampNeg) ((v11.2 164 18) + 1)) v8.2).bind fun v17 => some (true, v17.1, v17.2)) else none) else (if bm_ix 135 ((3 * (I 164 34)) + 2) = true then ((f_X12_next (bm_uI v11.2 168 (((3 * (I 164 34)) + 2).toNatClampNeg) (v11.2 164 18)) v8.2).bind fun v14 => some (true, v14.1, v14.2)) else none)) else some (false, v11.2, v8.2)))))) else none)) else some (false, v6.2, v3.2)))) else none))) else ((f_X12_looksAt I J 0 (I 166 0)).bind fun v35 => (if v35.1 = true then (if (v35.2 164 34) = 40 then ((f_X12_bad v35.2 4).bind fun v67 => some (v67.1, v67.2, J)) else ((f_X12_next v35.2 J).bind fun v37 => (if bm_ix 135 (3 * (I 164 34)) = true then (if v1 = true then ((f_X12_takes (bm_uI v37.1 168 ((3 * (I 164 34)).toNatClampNeg) 6) v37.2 1 60).bind fun v64 => (if v64.1 = true then (if bm_ix 135 ((3 * (I 164 34)) + 1) = true then some (true, (bm_uI v64.2.1 168 (((3 * (I 164 34)) + 1).toNatClampNeg) (v64.2.1 164 18)), v64.2.2) else none) else some (false, v64.2.1, v64.2.2))) else ((f_X12_isOneOf (bm_uI v37.1 168 ((3 * (I 164 34)).toNatClampNeg) 6) v37.2 11 6).bind fun v40 => (if v40.1 = true then ((f_X12_next v40.2 v37.2).bind fun v42 => (if bm_ix 135 ((3 * (I 164 34)) + 1) = true then (if (f_X12_isIn (v40.2 164 18) 2 4) = true then some (true, (bm_uI (bm_uI v42.1 168 ((3 * (I 164 34)).toNatClampNeg) (v40.2 164 18)) 168 (((3 * (I 164 34)) + 1).toNatClampNeg) (v35.2 164 18)), v42.2) else (if (v40.2 164 18) = 1 then ((f_X12_takesName (bm_uI (bm_uI v42.1 168 ((3 * (I 164 34)).toNatClampNeg) (v40.2 164 18)) 168 (((3 * (I 164 34)) + 1).toNatClampNeg) (v35.2 164 18)) v42.2 8 ((bm_uI (bm_uI v42.1 168 ((3 * (I 164 34)).toNatClampNeg) (v40.2 164 18)) 168 (((3 * (I 164 34)) + 1).toNatClampNeg) (v35.2 164 18)) 166 1)).bind fun v61 => (if v61.1 = true then (if bm_ix 135 ((3 * (I 164 34)) + 2) = true then some (true, (bm_uI v61.2.1 168 (((3 * (I 164 34)) + 2).toNatClampNeg) (v61.2.1 164 18)), v61.2.2) else none) else some (false, v61.2.1, v61.2.2))) else (if (v40.2 164 18) = 0 then ((f_X12_isOneOf (bm_uI (bm_uI v42.1 168 ((3 * (I 164 34)).toNatClampNeg) (v40.2 164 18)) 168 (((3 * (I 164 34)) + 1).toNatClampNeg) (v35.2 164 18)) v42.2 5 3).bind fun v53 => (if v53.1 = true then (if (v40.2 164 18) = 0 then (if bm_ix 135 ((3 * (I 164 34)) + 2) = true then ((f_X12_next (bm_uI v53.2 168 (((3 * (I 164 34)) + 2).toNatClampNeg) ((v53.2 164 18) + 1)) v42.2).bind fun v59 => some (true, v59.1, v59.2)) else none) else (if bm_ix 135 ((3 * (I 164 34)) + 2) = true then ((f_X12_next (bm_uI v53.2 168 (((3 * (I 164 34)) + 2).toNatClampNeg) (v53.2 164 18)) v42.2).bind fun v56 => some (true, v56.1, v56.2)) else none)) else some (false, v53.2, v42.2))) else ((f_X12_isOneOf (bm_uI (bm_uI v42.1 168 ((3 * (I 164 34)).toNatClampNeg) (v40.2 164 18)) 168 (((3 * (I 164 34)) + 1).toNatClampNeg) (v35.2 164 18)) v42.2 17 4).bind fun v45 => (if v45.1 = true then (if (v40.2 164 18) = 0 then (if bm_ix 135 ((3 * (I 164 34)) + 2) = true then ((f_X12_next (bm_uI v45.2 168 (((3 * (I 164 34)) + 2).toNatClampNeg) ((v45.2 164 18) + 1)) v42.2).bind fun v51 => some (true, v51.1, v51.2)) else none) else (if bm_ix 135 ((3 * (I 164 34)) + 2) = true then ((f_X12_next (bm_uI v45.2 168 (((3 * (I 164 34)) + 2).toNatClampNeg) (v45.2 164 18)) v42.2).bind fun v48 => some (true, v48.1, v48.2)) else none)) else some (false, v45.2, v42.2)))))) else none)) else some (false, v40.2, v37.2)))) else none))) else some (false, v35.2, J)))))
set_option maxHeartbeats 4000000 in
set_option maxRecDepth 100000 in
theorem c_X12_bookLine {lc : bm_L} {d n : Nat} {I : bm_TI} {J : bm_TJ} {R W : bm_TR} {v : Bool × bm_TI × bm_TJ} (hN : 181 ≤ n) (hR : bm_RR R) (h : f_X12_bookLine I J = some v) : bm_C lc m_X12_bookLine (d + 3) n n [.ref 164] (I, J, R, W) (fun r M' => r = some (.int (bm_bi v.1)) ∧ M' = (v.2.1, v.2.2, R, W)) := by
  refine bm_C.ofV (by decide) (Nat.le_of_ble_eq_true rfl) ?_
  show bm_V lc m_X12_bookLine (d + 3) n n n 0 [(0, .ref 164)] [] (I, J, R, W) _
  unfold f_X12_bookLine at h
  refine bv_iconst (v := 3) dX12_bookLine_0 (by decide) ?_
  refine bv_aload_n dX12_bookLine_1 0 rfl ?_
  refine bz_getI hN okL_164 dX12_bookLine_2 fl_12_435 rfl ?_
  refine bv_imul dX12_bookLine_5 ?_
  refine bv_istore_n (ls1 := [(0, .ref 164), (1, .int (3 * (I 164 34)))]) dX12_bookLine_6 (by decide) rfl rfl ?_
  refine bv_aload_n dX12_bookLine_7 0 rfl ?_
  refine bv_ldc2 (v := 1752135026) dX12_bookLine_8 cst_12_135 ?_
  obtain ⟨v1, p2, h⟩ := bu_bd h
  refine bw_callV (As := [.long 1752135026]) hN okL_164 ⟨_, _, rfl⟩ dX12_bookLine_11 mc_12_237 (c_X12_isWord (d := d + 2) hN hR p2) rfl rfl (by decide) ?_
  refine bv_istore_n (ls1 := [(0, .ref 164), (1, .int (3 * (I 164 34))), (2, .int (bm_bi v1))]) dX12_bookLine_14 (by decide) rfl rfl ?_
  refine bv_iload_n dX12_bookLine_15 2 rfl ?_
  refine bw_ifB_ne (b := v1) (tgt := 35) dX12_bookLine_16 (by decide) (fun cc => ?_) (fun cc => ?_)
  · replace h := bu_bt h cc
    refine bv_aload_n dX12_bookLine_35 0 rfl ?_
    refine bz_getI hN okL_164 dX12_bookLine_36 fl_12_435 rfl ?_
    refine bv_bipush (v := 40) dX12_bookLine_39 (by decide) ?_
    refine bv_icmp_ne (tgt := 50) dX12_bookLine_41 (by decide) (fun cc => ?_) (fun cc => ?_)
    · replace h := bu_f h cc
      refine bv_aload_n dX12_bookLine_50 0 rfl ?_
      refine bz_getI hN okL_164 dX12_bookLine_51 fl_12_210 rfl ?_
      refine bv_istore_n (ls1 := [(0, .ref 164), (1, .int (3 * (I 164 34))), (2, .int (bm_bi v1)), (3, .int (I 164 18))]) dX12_bookLine_54 (by decide) rfl rfl ?_
      refine bv_aload_n dX12_bookLine_55 0 rfl ?_
      obtain ⟨v3, p4, h⟩ := bu_bd h
      refine bw_callVv (As := []) hN okL_164 ⟨_, _, rfl⟩ dX12_bookLine_56 mc_12_203 (c_X12_next (d := d + 1) hN hR p4) rfl rfl (by decide) ?_
      refine bv_aload_n dX12_bookLine_59 0 rfl ?_
      refine bz_getA (a := 168) hN okL_164 (hR _ _ _ r0_164_8) dX12_bookLine_60 fl_12_40 rfl ?_
      refine bv_iload_n dX12_bookLine_63 1 rfl ?_
      refine bv_bipush (v := 6) dX12_bookLine_64 (by decide) ?_
      obtain ⟨r5, h⟩ := bu_ix h
      refine bz_iast hN rkL_168 r5 rfl dX12_bookLine_66 ?_
      refine bv_iload_n dX12_bookLine_67 2 rfl ?_
      refine bw_ifB_eq (b := v1) (tgt := 97) dX12_bookLine_68 (by decide) (fun cc => ?_) (fun cc => ?_)
      · replace h := bu_bf h cc
        refine bv_aload_n dX12_bookLine_97 0 rfl ?_
        refine bv_bipush (v := 11) dX12_bookLine_98 (by decide) ?_
        refine bv_bipush (v := 6) dX12_bookLine_100 (by decide) ?_
        obtain ⟨v6, p7, h⟩ := bu_bd h
        refine bw_callV (As := [.int 11, .int 6]) hN okL_164 ⟨_, _, rfl⟩ dX12_bookLine_102 mc_12_261 (c_X12_isOneOf (d := d + 1) hN hR p7) rfl rfl (by decide) ?_
        refine bw_ifB_ne (b := v6.1) (tgt := 110) dX12_bookLine_105 (by decide) (fun cc => ?_) (fun cc => ?_)
        · replace h := bu_bt h cc
          refine bv_aload_n dX12_bookLine_110 0 rfl ?_
          refine bz_getI hN okL_164 dX12_bookLine_111 fl_12_210 rfl ?_
          refine bv_istore (ls1 := [(0, .ref 164), (1, .int (3 * (I 164 34))), (2, .int (bm_bi v1)), (3, .int (I 164 18)), (4, .int (v6.2 164 18))]) dX12_bookLine_114 (by decide) rfl rfl ?_
          refine bv_aload_n dX12_bookLine_116 0 rfl ?_
          obtain ⟨v8, p9, h⟩ := bu_bd h
          refine bw_callVv (As := []) hN okL_164 ⟨_, _, rfl⟩ dX12_bookLine_117 mc_12_203 (c_X12_next (d := d + 1) hN hR p9) rfl rfl (by decide) ?_
          refine bv_aload_n dX12_bookLine_120 0 rfl ?_
          refine bz_getA (a := 168) hN okL_164 (hR _ _ _ r0_164_8) dX12_bookLine_121 fl_12_40 rfl ?_
          refine bv_iload_n dX12_bookLine_124 1 rfl ?_
          refine bv_iload dX12_bookLine_125 4 rfl ?_
          refine bz_iast hN rkL_168 r5 rfl dX12_bookLine_127 ?_
          refine bv_aload_n dX12_bookLine_128 0 rfl ?_
          refine bz_getA (a := 168) hN okL_164 (hR _ _ _ r0_164_8) dX12_bookLine_129 fl_12_40 rfl ?_
          refine bv_iload_n dX12_bookLine_132 1 rfl ?_
          refine bv_iconst (v := 1) dX12_bookLine_133 (by decide) ?_
          refine bv_iadd dX12_bookLine_134 ?_
          refine bv_iload_n dX12_bookLine_135 3 rfl ?_
          obtain ⟨r10, h⟩ := bu_ix h
          refine bz_iast hN rkL_168 r10 rfl dX12_bookLine_136 ?_
          refine bv_iload dX12_bookLine_137 4 rfl ?_
          refine bv_iconst (v := 2) dX12_bookLine_139 (by decide) ?_
          refine bv_iconst (v := 4) dX12_bookLine_140 (by decide) ?_
          refine bw_callS (As := [.int (v6.2 164 18), .int 2, .int 4]) dX12_bookLine_141 mc_12_206 (c_X12_isIn (d := d + 2) hN hR rfl) rfl rfl (by decide) ?_
          refine bw_ifB_eq (b := (f_X12_isIn (v6.2 164 18) 2 4)) (tgt := 149) dX12_bookLine_144 (by decide) (fun cc => ?_) (fun cc => ?_)
          · replace h := bu_bf h cc
            refine bv_iload dX12_bookLine_149 4 rfl ?_
            refine bv_iconst (v := 1) dX12_bookLine_151 (by decide) ?_
            refine bv_icmp_ne (tgt := 186) dX12_bookLine_152 (by decide) (fun cc => ?_) (fun cc => ?_)
            · replace h := bu_f h cc
              refine bv_iload dX12_bookLine_186 4 rfl ?_
              refine bv_if_ne (tgt := 200) dX12_bookLine_188 (by decide) (fun cc => ?_) (fun cc => ?_)
              · replace h := bu_f h cc
                refine bv_aload_n dX12_bookLine_200 0 rfl ?_
                refine bv_bipush (v := 17) dX12_bookLine_201 (by decide) ?_
                refine bv_iconst (v := 4) dX12_bookLine_203 (by decide) ?_
                obtain ⟨v11, p12, h⟩ := bu_bd h
                refine bw_callV (As := [.int 17, .int 4]) hN okL_164 ⟨_, _, rfl⟩ dX12_bookLine_204 mc_12_261 (c_X12_isOneOf (d := d + 1) hN hR p12) rfl rfl (by decide) ?_
                refine bv_istore (ls1 := [(0, .ref 164), (1, .int (3 * (I 164 34))), (2, .int (bm_bi v1)), (3, .int (I 164 18)), (4, .int (v6.2 164 18)), (5, .int (bm_bi v11.1))]) dX12_bookLine_207 (by decide) rfl rfl ?_
                refine bv_iload dX12_bookLine_209 5 rfl ?_
                refine bw_ifB_ne (b := v11.1) (tgt := 216) dX12_bookLine_211 (by decide) (fun cc => ?_) (fun cc => ?_)
                · replace h := bu_bt h cc
                  refine bv_aload_n dX12_bookLine_216 0 rfl ?_
                  refine bz_getA (a := 168) hN okL_164 (hR _ _ _ r0_164_8) dX12_bookLine_217 fl_12_40 rfl ?_
                  refine bv_iload_n dX12_bookLine_220 1 rfl ?_
                  refine bv_iconst (v := 2) dX12_bookLine_221 (by decide) ?_
                  refine bv_iadd dX12_bookLine_222 ?_
                  refine bv_iload dX12_bookLine_223 4 rfl ?_
                  refine bv_if_ne (tgt := 237) dX12_bookLine_225 (by decide) (fun cc => ?_) (fun cc => ?_)
                  · replace h := bu_f h cc
                    refine bv_aload_n dX12_bookLine_237 0 rfl ?_
                    refine bz_getI hN okL_164 dX12_bookLine_238 fl_12_210 rfl ?_
                    obtain ⟨r13, h⟩ := bu_ix h
                    refine bz_iast hN rkL_168 r13 rfl dX12_bookLine_241 ?_
                    refine bv_aload_n dX12_bookLine_242 0 rfl ?_
                    obtain ⟨v14, p15, h⟩ := bu_bd h
                    refine bw_callVv (As := []) hN okL_164 ⟨_, _, rfl⟩ dX12_bookLine_243 mc_12_203 (c_X12_next (d := d + 1) hN hR p15) rfl rfl (by decide) ?_
                    refine bv_iconst (v := 1) dX12_bookLine_246 (by decide) ?_
                    obtain rfl := Option.some.inj h
                    exact bw_bret (b := true) dX12_bookLine_247 rfl ⟨rfl, rfl⟩
                  · replace h := bu_t h cc
                    refine bv_aload_n dX12_bookLine_228 0 rfl ?_
                    refine bz_getI hN okL_164 dX12_bookLine_229 fl_12_210 rfl ?_
                    refine bv_iconst (v := 1) dX12_bookLine_232 (by decide) ?_
                    refine bv_iadd dX12_bookLine_233 ?_
                    refine bv_goto (tgt := 241) dX12_bookLine_234 (by decide) ?_
                    obtain ⟨r16, h⟩ := bu_ix h
                    refine bz_iast hN rkL_168 r16 rfl dX12_bookLine_241 ?_
                    refine bv_aload_n dX12_bookLine_242 0 rfl ?_
                    obtain ⟨v17, p18, h⟩ := bu_bd h
                    refine bw_callVv (As := []) hN okL_164 ⟨_, _, rfl⟩ dX12_bookLine_243 mc_12_203 (c_X12_next (d := d + 1) hN hR p18) rfl rfl (by decide) ?_
                    refine bv_iconst (v := 1) dX12_bookLine_246 (by decide) ?_
                    obtain rfl := Option.some.inj h
                    exact bw_bret (b := true) dX12_bookLine_247 rfl ⟨rfl, rfl⟩
                · replace h := bu_bf h cc
                  refine bv_iconst (v := 0) dX12_bookLine_214 (by decide) ?_
                  obtain rfl := Option.some.inj h
                  exact bw_bret (b := false) dX12_bookLine_215 rfl ⟨rfl, rfl⟩
              · replace h := bu_t h cc
                refine bv_aload_n dX12_bookLine_191 0 rfl ?_
                refine bv_iconst (v := 5) dX12_bookLine_192 (by decide) ?_
                refine bv_iconst (v := 3) dX12_bookLine_193 (by decide) ?_
                obtain ⟨v19, p20, h⟩ := bu_bd h
                refine bw_callV (As := [.int 5, .int 3]) hN okL_164 ⟨_, _, rfl⟩ dX12_bookLine_194 mc_12_261 (c_X12_isOneOf (d := d + 1) hN hR p20) rfl rfl (by decide) ?_
                refine bv_goto (tgt := 207) dX12_bookLine_197 (by decide) ?_
                refine bv_istore (ls1 := [(0, .ref 164), (1, .int (3 * (I 164 34))), (2, .int (bm_bi v1)), (3, .int (I 164 18)), (4, .int (v6.2 164 18)), (5, .int (bm_bi v19.1))]) dX12_bookLine_207 (by decide) rfl rfl ?_
                refine bv_iload dX12_bookLine_209 5 rfl ?_
                refine bw_ifB_ne (b := v19.1) (tgt := 216) dX12_bookLine_211 (by decide) (fun cc => ?_) (fun cc => ?_)
                · replace h := bu_bt h cc
                  refine bv_aload_n dX12_bookLine_216 0 rfl ?_
                  refine bz_getA (a := 168) hN okL_164 (hR _ _ _ r0_164_8) dX12_bookLine_217 fl_12_40 rfl ?_
                  refine bv_iload_n dX12_bookLine_220 1 rfl ?_
                  refine bv_iconst (v := 2) dX12_bookLine_221 (by decide) ?_
                  refine bv_iadd dX12_bookLine_222 ?_
                  refine bv_iload dX12_bookLine_223 4 rfl ?_
                  refine bv_if_ne (tgt := 237) dX12_bookLine_225 (by decide) (fun cc => ?_) (fun cc => ?_)
                  · replace h := bu_f h cc
                    refine bv_aload_n dX12_bookLine_237 0 rfl ?_
                    refine bz_getI hN okL_164 dX12_bookLine_238 fl_12_210 rfl ?_
                    obtain ⟨r21, h⟩ := bu_ix h
                    refine bz_iast hN rkL_168 r21 rfl dX12_bookLine_241 ?_
                    refine bv_aload_n dX12_bookLine_242 0 rfl ?_
                    obtain ⟨v22, p23, h⟩ := bu_bd h
                    refine bw_callVv (As := []) hN okL_164 ⟨_, _, rfl⟩ dX12_bookLine_243 mc_12_203 (c_X12_next (d := d + 1) hN hR p23) rfl rfl (by decide) ?_
                    refine bv_iconst (v := 1) dX12_bookLine_246 (by decide) ?_
                    obtain rfl := Option.some.inj h
                    exact bw_bret (b := true) dX12_bookLine_247 rfl ⟨rfl, rfl⟩
                  · replace h := bu_t h cc
                    refine bv_aload_n dX12_bookLine_228 0 rfl ?_
                    refine bz_getI hN okL_164 dX12_bookLine_229 fl_12_210 rfl ?_
                    refine bv_iconst (v := 1) dX12_bookLine_232 (by decide) ?_
                    refine bv_iadd dX12_bookLine_233 ?_
                    refine bv_goto (tgt := 241) dX12_bookLine_234 (by decide) ?_
                    obtain ⟨r24, h⟩ := bu_ix h
                    refine bz_iast hN rkL_168 r24 rfl dX12_bookLine_241 ?_
                    refine bv_aload_n dX12_bookLine_242 0 rfl ?_
                    obtain ⟨v25, p26, h⟩ := bu_bd h
                    refine bw_callVv (As := []) hN okL_164 ⟨_, _, rfl⟩ dX12_bookLine_243 mc_12_203 (c_X12_next (d := d + 1) hN hR p26) rfl rfl (by decide) ?_
                    refine bv_iconst (v := 1) dX12_bookLine_246 (by decide) ?_
                    obtain rfl := Option.some.inj h
                    exact bw_bret (b := true) dX12_bookLine_247 rfl ⟨rfl, rfl⟩
                · replace h := bu_bf h cc
                  refine bv_iconst (v := 0) dX12_bookLine_214 (by decide) ?_
                  obtain rfl := Option.some.inj h
                  exact bw_bret (b := false) dX12_bookLine_215 rfl ⟨rfl, rfl⟩
            · replace h := bu_t h cc
              refine bv_aload_n dX12_bookLine_155 0 rfl ?_
              refine bv_bipush (v := 8) dX12_bookLine_156 (by decide) ?_
              refine bv_aload_n dX12_bookLine_158 0 rfl ?_
              refine bz_getA (a := 166) hN okL_164 (hR _ _ _ r0_164_6) dX12_bookLine_159 fl_12_33 rfl ?_
              refine bv_iconst (v := 1) dX12_bookLine_162 (by decide) ?_
              refine bz_iald (j := 1) hN rkL_166 (bm_ix_in (by decide)) (by decide) dX12_bookLine_163 ?_
              obtain ⟨v27, p28, h⟩ := bu_bd h
              refine bw_callV (As := [.int 8, .int ((bm_uI (bm_uI v8.1 168 ((3 * (I 164 34)).toNatClampNeg) (v6.2 164 18)) 168 (((3 * (I 164 34)) + 1).toNatClampNeg) (I 164 18)) 166 1)]) hN okL_164 ⟨_, _, rfl⟩ dX12_bookLine_164 mc_12_438 (c_X12_takesName (d := d + 0) hN hR p28) rfl rfl (by decide) ?_
              refine bw_ifB_ne (b := v27.1) (tgt := 172) dX12_bookLine_167 (by decide) (fun cc => ?_) (fun cc => ?_)
              · replace h := bu_bt h cc
                refine bv_aload_n dX12_bookLine_172 0 rfl ?_
                refine bz_getA (a := 168) hN okL_164 (hR _ _ _ r0_164_8) dX12_bookLine_173 fl_12_40 rfl ?_
                refine bv_iload_n dX12_bookLine_176 1 rfl ?_
                refine bv_iconst (v := 2) dX12_bookLine_177 (by decide) ?_
                refine bv_iadd dX12_bookLine_178 ?_
                refine bv_aload_n dX12_bookLine_179 0 rfl ?_
                refine bz_getI hN okL_164 dX12_bookLine_180 fl_12_210 rfl ?_
                obtain ⟨r29, h⟩ := bu_ix h
                refine bz_iast hN rkL_168 r29 rfl dX12_bookLine_183 ?_
                refine bv_iconst (v := 1) dX12_bookLine_184 (by decide) ?_
                obtain rfl := Option.some.inj h
                exact bw_bret (b := true) dX12_bookLine_185 rfl ⟨rfl, rfl⟩
              · replace h := bu_bf h cc
                refine bv_iconst (v := 0) dX12_bookLine_170 (by decide) ?_
                obtain rfl := Option.some.inj h
                exact bw_bret (b := false) dX12_bookLine_171 rfl ⟨rfl, rfl⟩
          · replace h := bu_bt h cc
            refine bv_iconst (v := 1) dX12_bookLine_147 (by decide) ?_
            obtain rfl := Option.some.inj h
            exact bw_bret (b := true) dX12_bookLine_148 rfl ⟨rfl, rfl⟩
        · replace h := bu_bf h cc
          refine bv_iconst (v := 0) dX12_bookLine_108 (by decide) ?_
          obtain rfl := Option.some.inj h
          exact bw_bret (b := false) dX12_bookLine_109 rfl ⟨rfl, rfl⟩
      · replace h := bu_bt h cc
        refine bv_aload_n dX12_bookLine_71 0 rfl ?_
        refine bv_iconst (v := 1) dX12_bookLine_72 (by decide) ?_
        refine bv_bipush (v := 60) dX12_bookLine_73 (by decide) ?_
        obtain ⟨v30, p31, h⟩ := bu_bd h
        refine bw_callV (As := [.int 1, .int 60]) hN okL_164 ⟨_, _, rfl⟩ dX12_bookLine_75 mc_12_213 (c_X12_takes (d := d + 0) hN hR p31) rfl rfl (by decide) ?_
        refine bw_ifB_ne (b := v30.1) (tgt := 83) dX12_bookLine_78 (by decide) (fun cc => ?_) (fun cc => ?_)
        · replace h := bu_bt h cc
          refine bv_aload_n dX12_bookLine_83 0 rfl ?_
          refine bz_getA (a := 168) hN okL_164 (hR _ _ _ r0_164_8) dX12_bookLine_84 fl_12_40 rfl ?_
          refine bv_iload_n dX12_bookLine_87 1 rfl ?_
          refine bv_iconst (v := 1) dX12_bookLine_88 (by decide) ?_
          refine bv_iadd dX12_bookLine_89 ?_
          refine bv_aload_n dX12_bookLine_90 0 rfl ?_
          refine bz_getI hN okL_164 dX12_bookLine_91 fl_12_210 rfl ?_
          obtain ⟨r32, h⟩ := bu_ix h
          refine bz_iast hN rkL_168 r32 rfl dX12_bookLine_94 ?_
          refine bv_iconst (v := 1) dX12_bookLine_95 (by decide) ?_
          obtain rfl := Option.some.inj h
          exact bw_bret (b := true) dX12_bookLine_96 rfl ⟨rfl, rfl⟩
        · replace h := bu_bf h cc
          refine bv_iconst (v := 0) dX12_bookLine_81 (by decide) ?_
          obtain rfl := Option.some.inj h
          exact bw_bret (b := false) dX12_bookLine_82 rfl ⟨rfl, rfl⟩
    · replace h := bu_t h cc
      refine bv_aload_n dX12_bookLine_44 0 rfl ?_
      refine bv_iconst (v := 4) dX12_bookLine_45 (by decide) ?_
      obtain ⟨v33, p34, h⟩ := bu_bd h
      refine bw_callV (As := [.int 4]) hN okL_164 ⟨_, _, rfl⟩ dX12_bookLine_46 mc_12_200 (c_X12_bad (d := d + 2) hN hR p34) rfl rfl (by decide) ?_
      obtain rfl := Option.some.inj h
      exact bw_bret (b := v33.1) dX12_bookLine_49 rfl ⟨rfl, rfl⟩
  · replace h := bu_bf h cc
    refine bv_aload_n dX12_bookLine_19 0 rfl ?_
    refine bv_iconst (v := 0) dX12_bookLine_20 (by decide) ?_
    refine bv_aload_n dX12_bookLine_21 0 rfl ?_
    refine bz_getA (a := 166) hN okL_164 (hR _ _ _ r0_164_6) dX12_bookLine_22 fl_12_33 rfl ?_
    refine bv_iconst (v := 0) dX12_bookLine_25 (by decide) ?_
    refine bz_iald (j := 0) hN rkL_166 (bm_ix_in (by decide)) (by decide) dX12_bookLine_26 ?_
    obtain ⟨v35, p36, h⟩ := bu_bd h
    refine bw_callV (As := [.int 0, .int (I 166 0)]) hN okL_164 ⟨_, _, rfl⟩ dX12_bookLine_27 mc_12_225 (c_X12_looksAt (d := d + 1) hN hR p36) rfl rfl (by decide) ?_
    refine bw_ifB_ne (b := v35.1) (tgt := 35) dX12_bookLine_30 (by decide) (fun cc => ?_) (fun cc => ?_)
    · replace h := bu_bt h cc
      refine bv_aload_n dX12_bookLine_35 0 rfl ?_
      refine bz_getI hN okL_164 dX12_bookLine_36 fl_12_435 rfl ?_
      refine bv_bipush (v := 40) dX12_bookLine_39 (by decide) ?_
      refine bv_icmp_ne (tgt := 50) dX12_bookLine_41 (by decide) (fun cc => ?_) (fun cc => ?_)
      · replace h := bu_f h cc
        refine bv_aload_n dX12_bookLine_50 0 rfl ?_
        refine bz_getI hN okL_164 dX12_bookLine_51 fl_12_210 rfl ?_
        refine bv_istore_n (ls1 := [(0, .ref 164), (1, .int (3 * (I 164 34))), (2, .int (bm_bi v1)), (3, .int (v35.2 164 18))]) dX12_bookLine_54 (by decide) rfl rfl ?_
        refine bv_aload_n dX12_bookLine_55 0 rfl ?_
        obtain ⟨v37, p38, h⟩ := bu_bd h
        refine bw_callVv (As := []) hN okL_164 ⟨_, _, rfl⟩ dX12_bookLine_56 mc_12_203 (c_X12_next (d := d + 1) hN hR p38) rfl rfl (by decide) ?_
        refine bv_aload_n dX12_bookLine_59 0 rfl ?_
        refine bz_getA (a := 168) hN okL_164 (hR _ _ _ r0_164_8) dX12_bookLine_60 fl_12_40 rfl ?_
        refine bv_iload_n dX12_bookLine_63 1 rfl ?_
        refine bv_bipush (v := 6) dX12_bookLine_64 (by decide) ?_
        obtain ⟨r39, h⟩ := bu_ix h
        refine bz_iast hN rkL_168 r39 rfl dX12_bookLine_66 ?_
        refine bv_iload_n dX12_bookLine_67 2 rfl ?_
        refine bw_ifB_eq (b := v1) (tgt := 97) dX12_bookLine_68 (by decide) (fun cc => ?_) (fun cc => ?_)
        · replace h := bu_bf h cc
          refine bv_aload_n dX12_bookLine_97 0 rfl ?_
          refine bv_bipush (v := 11) dX12_bookLine_98 (by decide) ?_
          refine bv_bipush (v := 6) dX12_bookLine_100 (by decide) ?_
          obtain ⟨v40, p41, h⟩ := bu_bd h
          refine bw_callV (As := [.int 11, .int 6]) hN okL_164 ⟨_, _, rfl⟩ dX12_bookLine_102 mc_12_261 (c_X12_isOneOf (d := d + 1) hN hR p41) rfl rfl (by decide) ?_
          refine bw_ifB_ne (b := v40.1) (tgt := 110) dX12_bookLine_105 (by decide) (fun cc => ?_) (fun cc => ?_)
          · replace h := bu_bt h cc
            refine bv_aload_n dX12_bookLine_110 0 rfl ?_
            refine bz_getI hN okL_164 dX12_bookLine_111 fl_12_210 rfl ?_
            refine bv_istore (ls1 := [(0, .ref 164), (1, .int (3 * (I 164 34))), (2, .int (bm_bi v1)), (3, .int (v35.2 164 18)), (4, .int (v40.2 164 18))]) dX12_bookLine_114 (by decide) rfl rfl ?_
            refine bv_aload_n dX12_bookLine_116 0 rfl ?_
            obtain ⟨v42, p43, h⟩ := bu_bd h
            refine bw_callVv (As := []) hN okL_164 ⟨_, _, rfl⟩ dX12_bookLine_117 mc_12_203 (c_X12_next (d := d + 1) hN hR p43) rfl rfl (by decide) ?_
            refine bv_aload_n dX12_bookLine_120 0 rfl ?_
            refine bz_getA (a := 168) hN okL_164 (hR _ _ _ r0_164_8) dX12_bookLine_121 fl_12_40 rfl ?_
            refine bv_iload_n dX12_bookLine_124 1 rfl ?_
            refine bv_iload dX12_bookLine_125 4 rfl ?_
            refine bz_iast hN rkL_168 r39 rfl dX12_bookLine_127 ?_
            refine bv_aload_n dX12_bookLine_128 0 rfl ?_
            refine bz_getA (a := 168) hN okL_164 (hR _ _ _ r0_164_8) dX12_bookLine_129 fl_12_40 rfl ?_
            refine bv_iload_n dX12_bookLine_132 1 rfl ?_
            refine bv_iconst (v := 1) dX12_bookLine_133 (by decide) ?_
            refine bv_iadd dX12_bookLine_134 ?_
            refine bv_iload_n dX12_bookLine_135 3 rfl ?_
            obtain ⟨r44, h⟩ := bu_ix h
            refine bz_iast hN rkL_168 r44 rfl dX12_bookLine_136 ?_
            refine bv_iload dX12_bookLine_137 4 rfl ?_
            refine bv_iconst (v := 2) dX12_bookLine_139 (by decide) ?_
            refine bv_iconst (v := 4) dX12_bookLine_140 (by decide) ?_
            refine bw_callS (As := [.int (v40.2 164 18), .int 2, .int 4]) dX12_bookLine_141 mc_12_206 (c_X12_isIn (d := d + 2) hN hR rfl) rfl rfl (by decide) ?_
            refine bw_ifB_eq (b := (f_X12_isIn (v40.2 164 18) 2 4)) (tgt := 149) dX12_bookLine_144 (by decide) (fun cc => ?_) (fun cc => ?_)
            · replace h := bu_bf h cc
              refine bv_iload dX12_bookLine_149 4 rfl ?_
              refine bv_iconst (v := 1) dX12_bookLine_151 (by decide) ?_
              refine bv_icmp_ne (tgt := 186) dX12_bookLine_152 (by decide) (fun cc => ?_) (fun cc => ?_)
              · replace h := bu_f h cc
                refine bv_iload dX12_bookLine_186 4 rfl ?_
                refine bv_if_ne (tgt := 200) dX12_bookLine_188 (by decide) (fun cc => ?_) (fun cc => ?_)
                · replace h := bu_f h cc
                  refine bv_aload_n dX12_bookLine_200 0 rfl ?_
                  refine bv_bipush (v := 17) dX12_bookLine_201 (by decide) ?_
                  refine bv_iconst (v := 4) dX12_bookLine_203 (by decide) ?_
                  obtain ⟨v45, p46, h⟩ := bu_bd h
                  refine bw_callV (As := [.int 17, .int 4]) hN okL_164 ⟨_, _, rfl⟩ dX12_bookLine_204 mc_12_261 (c_X12_isOneOf (d := d + 1) hN hR p46) rfl rfl (by decide) ?_
                  refine bv_istore (ls1 := [(0, .ref 164), (1, .int (3 * (I 164 34))), (2, .int (bm_bi v1)), (3, .int (v35.2 164 18)), (4, .int (v40.2 164 18)), (5, .int (bm_bi v45.1))]) dX12_bookLine_207 (by decide) rfl rfl ?_
                  refine bv_iload dX12_bookLine_209 5 rfl ?_
                  refine bw_ifB_ne (b := v45.1) (tgt := 216) dX12_bookLine_211 (by decide) (fun cc => ?_) (fun cc => ?_)
                  · replace h := bu_bt h cc
                    refine bv_aload_n dX12_bookLine_216 0 rfl ?_
                    refine bz_getA (a := 168) hN okL_164 (hR _ _ _ r0_164_8) dX12_bookLine_217 fl_12_40 rfl ?_
                    refine bv_iload_n dX12_bookLine_220 1 rfl ?_
                    refine bv_iconst (v := 2) dX12_bookLine_221 (by decide) ?_
                    refine bv_iadd dX12_bookLine_222 ?_
                    refine bv_iload dX12_bookLine_223 4 rfl ?_
                    refine bv_if_ne (tgt := 237) dX12_bookLine_225 (by decide) (fun cc => ?_) (fun cc => ?_)
                    · replace h := bu_f h cc
                      refine bv_aload_n dX12_bookLine_237 0 rfl ?_
                      refine bz_getI hN okL_164 dX12_bookLine_238 fl_12_210 rfl ?_
                      obtain ⟨r47, h⟩ := bu_ix h
                      refine bz_iast hN rkL_168 r47 rfl dX12_bookLine_241 ?_
                      refine bv_aload_n dX12_bookLine_242 0 rfl ?_
                      obtain ⟨v48, p49, h⟩ := bu_bd h
                      refine bw_callVv (As := []) hN okL_164 ⟨_, _, rfl⟩ dX12_bookLine_243 mc_12_203 (c_X12_next (d := d + 1) hN hR p49) rfl rfl (by decide) ?_
                      refine bv_iconst (v := 1) dX12_bookLine_246 (by decide) ?_
                      obtain rfl := Option.some.inj h
                      exact bw_bret (b := true) dX12_bookLine_247 rfl ⟨rfl, rfl⟩
                    · replace h := bu_t h cc
                      refine bv_aload_n dX12_bookLine_228 0 rfl ?_
                      refine bz_getI hN okL_164 dX12_bookLine_229 fl_12_210 rfl ?_
                      refine bv_iconst (v := 1) dX12_bookLine_232 (by decide) ?_
                      refine bv_iadd dX12_bookLine_233 ?_
                      refine bv_goto (tgt := 241) dX12_bookLine_234 (by decide) ?_
                      obtain ⟨r50, h⟩ := bu_ix h
                      refine bz_iast hN rkL_168 r50 rfl dX12_bookLine_241 ?_
                      refine bv_aload_n dX12_bookLine_242 0 rfl ?_
                      obtain ⟨v51, p52, h⟩ := bu_bd h
                      refine bw_callVv (As := []) hN okL_164 ⟨_, _, rfl⟩ dX12_bookLine_243 mc_12_203 (c_X12_next (d := d + 1) hN hR p52) rfl rfl (by decide) ?_
                      refine bv_iconst (v := 1) dX12_bookLine_246 (by decide) ?_
                      obtain rfl := Option.some.inj h
                      exact bw_bret (b := true) dX12_bookLine_247 rfl ⟨rfl, rfl⟩
                  · replace h := bu_bf h cc
                    refine bv_iconst (v := 0) dX12_bookLine_214 (by decide) ?_
                    obtain rfl := Option.some.inj h
                    exact bw_bret (b := false) dX12_bookLine_215 rfl ⟨rfl, rfl⟩
                · replace h := bu_t h cc
                  refine bv_aload_n dX12_bookLine_191 0 rfl ?_
                  refine bv_iconst (v := 5) dX12_bookLine_192 (by decide) ?_
                  refine bv_iconst (v := 3) dX12_bookLine_193 (by decide) ?_
                  obtain ⟨v53, p54, h⟩ := bu_bd h
                  refine bw_callV (As := [.int 5, .int 3]) hN okL_164 ⟨_, _, rfl⟩ dX12_bookLine_194 mc_12_261 (c_X12_isOneOf (d := d + 1) hN hR p54) rfl rfl (by decide) ?_
                  refine bv_goto (tgt := 207) dX12_bookLine_197 (by decide) ?_
                  refine bv_istore (ls1 := [(0, .ref 164), (1, .int (3 * (I 164 34))), (2, .int (bm_bi v1)), (3, .int (v35.2 164 18)), (4, .int (v40.2 164 18)), (5, .int (bm_bi v53.1))]) dX12_bookLine_207 (by decide) rfl rfl ?_
                  refine bv_iload dX12_bookLine_209 5 rfl ?_
                  refine bw_ifB_ne (b := v53.1) (tgt := 216) dX12_bookLine_211 (by decide) (fun cc => ?_) (fun cc => ?_)
                  · replace h := bu_bt h cc
                    refine bv_aload_n dX12_bookLine_216 0 rfl ?_
                    refine bz_getA (a := 168) hN okL_164 (hR _ _ _ r0_164_8) dX12_bookLine_217 fl_12_40 rfl ?_
                    refine bv_iload_n dX12_bookLine_220 1 rfl ?_
                    refine bv_iconst (v := 2) dX12_bookLine_221 (by decide) ?_
                    refine bv_iadd dX12_bookLine_222 ?_
                    refine bv_iload dX12_bookLine_223 4 rfl ?_
                    refine bv_if_ne (tgt := 237) dX12_bookLine_225 (by decide) (fun cc => ?_) (fun cc => ?_)
                    · replace h := bu_f h cc
                      refine bv_aload_n dX12_bookLine_237 0 rfl ?_
                      refine bz_getI hN okL_164 dX12_bookLine_238 fl_12_210 rfl ?_
                      obtain ⟨r55, h⟩ := bu_ix h
                      refine bz_iast hN rkL_168 r55 rfl dX12_bookLine_241 ?_
                      refine bv_aload_n dX12_bookLine_242 0 rfl ?_
                      obtain ⟨v56, p57, h⟩ := bu_bd h
                      refine bw_callVv (As := []) hN okL_164 ⟨_, _, rfl⟩ dX12_bookLine_243 mc_12_203 (c_X12_next (d := d + 1) hN hR p57) rfl rfl (by decide) ?_
                      refine bv_iconst (v := 1) dX12_bookLine_246 (by decide) ?_
                      obtain rfl := Option.some.inj h
                      exact bw_bret (b := true) dX12_bookLine_247 rfl ⟨rfl, rfl⟩
                    · replace h := bu_t h cc
                      refine bv_aload_n dX12_bookLine_228 0 rfl ?_
                      refine bz_getI hN okL_164 dX12_bookLine_229 fl_12_210 rfl ?_
                      refine bv_iconst (v := 1) dX12_bookLine_232 (by decide) ?_
                      refine bv_iadd dX12_bookLine_233 ?_
                      refine bv_goto (tgt := 241) dX12_bookLine_234 (by decide) ?_
                      obtain ⟨r58, h⟩ := bu_ix h
                      refine bz_iast hN rkL_168 r58 rfl dX12_bookLine_241 ?_
                      refine bv_aload_n dX12_bookLine_242 0 rfl ?_
                      obtain ⟨v59, p60, h⟩ := bu_bd h
                      refine bw_callVv (As := []) hN okL_164 ⟨_, _, rfl⟩ dX12_bookLine_243 mc_12_203 (c_X12_next (d := d + 1) hN hR p60) rfl rfl (by decide) ?_
                      refine bv_iconst (v := 1) dX12_bookLine_246 (by decide) ?_
                      obtain rfl := Option.some.inj h
                      exact bw_bret (b := true) dX12_bookLine_247 rfl ⟨rfl, rfl⟩
                  · replace h := bu_bf h cc
                    refine bv_iconst (v := 0) dX12_bookLine_214 (by decide) ?_
                    obtain rfl := Option.some.inj h
                    exact bw_bret (b := false) dX12_bookLine_215 rfl ⟨rfl, rfl⟩
              · replace h := bu_t h cc
                refine bv_aload_n dX12_bookLine_155 0 rfl ?_
                refine bv_bipush (v := 8) dX12_bookLine_156 (by decide) ?_
                refine bv_aload_n dX12_bookLine_158 0 rfl ?_
                refine bz_getA (a := 166) hN okL_164 (hR _ _ _ r0_164_6) dX12_bookLine_159 fl_12_33 rfl ?_
                refine bv_iconst (v := 1) dX12_bookLine_162 (by decide) ?_
                refine bz_iald (j := 1) hN rkL_166 (bm_ix_in (by decide)) (by decide) dX12_bookLine_163 ?_
                obtain ⟨v61, p62, h⟩ := bu_bd h
                refine bw_callV (As := [.int 8, .int ((bm_uI (bm_uI v42.1 168 ((3 * (I 164 34)).toNatClampNeg) (v40.2 164 18)) 168 (((3 * (I 164 34)) + 1).toNatClampNeg) (v35.2 164 18)) 166 1)]) hN okL_164 ⟨_, _, rfl⟩ dX12_bookLine_164 mc_12_438 (c_X12_takesName (d := d + 0) hN hR p62) rfl rfl (by decide) ?_
                refine bw_ifB_ne (b := v61.1) (tgt := 172) dX12_bookLine_167 (by decide) (fun cc => ?_) (fun cc => ?_)
                · replace h := bu_bt h cc
                  refine bv_aload_n dX12_bookLine_172 0 rfl ?_
                  refine bz_getA (a := 168) hN okL_164 (hR _ _ _ r0_164_8) dX12_bookLine_173 fl_12_40 rfl ?_
                  refine bv_iload_n dX12_bookLine_176 1 rfl ?_
                  refine bv_iconst (v := 2) dX12_bookLine_177 (by decide) ?_
                  refine bv_iadd dX12_bookLine_178 ?_
                  refine bv_aload_n dX12_bookLine_179 0 rfl ?_
                  refine bz_getI hN okL_164 dX12_bookLine_180 fl_12_210 rfl ?_
                  obtain ⟨r63, h⟩ := bu_ix h
                  refine bz_iast hN rkL_168 r63 rfl dX12_bookLine_183 ?_
                  refine bv_iconst (v := 1) dX12_bookLine_184 (by decide) ?_
                  obtain rfl := Option.some.inj h
                  exact bw_bret (b := true) dX12_bookLine_185 rfl ⟨rfl, rfl⟩
                · replace h := bu_bf h cc
                  refine bv_iconst (v := 0) dX12_bookLine_170 (by decide) ?_
                  obtain rfl := Option.some.inj h
                  exact bw_bret (b := false) dX12_bookLine_171 rfl ⟨rfl, rfl⟩
            · replace h := bu_bt h cc
              refine bv_iconst (v := 1) dX12_bookLine_147 (by decide) ?_
              obtain rfl := Option.some.inj h
              exact bw_bret (b := true) dX12_bookLine_148 rfl ⟨rfl, rfl⟩
          · replace h := bu_bf h cc
            refine bv_iconst (v := 0) dX12_bookLine_108 (by decide) ?_
            obtain rfl := Option.some.inj h
            exact bw_bret (b := false) dX12_bookLine_109 rfl ⟨rfl, rfl⟩
        · replace h := bu_bt h cc
          refine bv_aload_n dX12_bookLine_71 0 rfl ?_
          refine bv_iconst (v := 1) dX12_bookLine_72 (by decide) ?_
          refine bv_bipush (v := 60) dX12_bookLine_73 (by decide) ?_
          obtain ⟨v64, p65, h⟩ := bu_bd h
          refine bw_callV (As := [.int 1, .int 60]) hN okL_164 ⟨_, _, rfl⟩ dX12_bookLine_75 mc_12_213 (c_X12_takes (d := d + 0) hN hR p65) rfl rfl (by decide) ?_
          refine bw_ifB_ne (b := v64.1) (tgt := 83) dX12_bookLine_78 (by decide) (fun cc => ?_) (fun cc => ?_)
          · replace h := bu_bt h cc
            refine bv_aload_n dX12_bookLine_83 0 rfl ?_
            refine bz_getA (a := 168) hN okL_164 (hR _ _ _ r0_164_8) dX12_bookLine_84 fl_12_40 rfl ?_
            refine bv_iload_n dX12_bookLine_87 1 rfl ?_
            refine bv_iconst (v := 1) dX12_bookLine_88 (by decide) ?_
            refine bv_iadd dX12_bookLine_89 ?_
            refine bv_aload_n dX12_bookLine_90 0 rfl ?_
            refine bz_getI hN okL_164 dX12_bookLine_91 fl_12_210 rfl ?_
            obtain ⟨r66, h⟩ := bu_ix h
            refine bz_iast hN rkL_168 r66 rfl dX12_bookLine_94 ?_
            refine bv_iconst (v := 1) dX12_bookLine_95 (by decide) ?_
            obtain rfl := Option.some.inj h
            exact bw_bret (b := true) dX12_bookLine_96 rfl ⟨rfl, rfl⟩
          · replace h := bu_bf h cc
            refine bv_iconst (v := 0) dX12_bookLine_81 (by decide) ?_
            obtain rfl := Option.some.inj h
            exact bw_bret (b := false) dX12_bookLine_82 rfl ⟨rfl, rfl⟩
      · replace h := bu_t h cc
        refine bv_aload_n dX12_bookLine_44 0 rfl ?_
        refine bv_iconst (v := 4) dX12_bookLine_45 (by decide) ?_
        obtain ⟨v67, p68, h⟩ := bu_bd h
        refine bw_callV (As := [.int 4]) hN okL_164 ⟨_, _, rfl⟩ dX12_bookLine_46 mc_12_200 (c_X12_bad (d := d + 2) hN hR p68) rfl rfl (by decide) ?_
        obtain rfl := Option.some.inj h
        exact bw_bret (b := v67.1) dX12_bookLine_49 rfl ⟨rfl, rfl⟩
    · replace h := bu_bf h cc
      refine bv_iconst (v := 0) dX12_bookLine_33 (by decide) ?_
      obtain rfl := Option.some.inj h
      exact bw_bret (b := false) dX12_bookLine_34 rfl ⟨rfl, rfl⟩
def f_X12_does (I : bm_TI) (x1 : Int32) (x2 : Int32) (x3 : Int32) : Option (Int32 × bm_TI) := (if x1 = 0 then ((f_X12_browOf I x2).bind fun v2 => (if v2 = 0 then some (1, I) else ((f_X12_lifts I x2 x3).bind fun v4 => some (0, v4)))) else (if x1 = 1 then ((f_X12_browOf I x2).bind fun v7 => (if v7 = 0 then some (11, I) else ((f_X12_gives I x2 x3).bind fun v9 => some (0, v9)))) else (if x1 = 2 then (if x1 = 2 then (if (bm_bi (f_X12_bitOf (I 166 63) x2)) = 1 then some (((10 * x1) + 1), I) else some (0, (bm_uI I 166 63 ((I 166 63) ^^^ (bm_ishl 1 x2))))) else (if (bm_bi (f_X12_bitOf (I 166 63) x2)) = 0 then some (((10 * x1) + 1), I) else some (0, (bm_uI I 166 63 ((I 166 63) ^^^ (bm_ishl 1 x2)))))) else (if x1 = 3 then (if x1 = 2 then (if (bm_bi (f_X12_bitOf (I 166 63) x2)) = 1 then some (((10 * x1) + 1), I) else some (0, (bm_uI I 166 63 ((I 166 63) ^^^ (bm_ishl 1 x2))))) else (if (bm_bi (f_X12_bitOf (I 166 63) x2)) = 0 then some (((10 * x1) + 1), I) else some (0, (bm_uI I 166 63 ((I 166 63) ^^^ (bm_ishl 1 x2)))))) else (if x1 = 4 then (if (f_X12_bitOf (I 166 64) x2) = true then some (41, I) else some (0, (bm_uI I 166 64 ((I 166 64) ||| (bm_ishl 1 x2))))) else (if x1 = 5 then ((f_X12_whyGo I x2 x3).bind fun v15 => (if v15 ≤ 0 then ((f_X12_goes I x2 x3).bind fun v17 => some (0, v17)) else some (51, I))) else (if ((I 166 61) + x2) ≤ 400 then ((f_X12_goesOn I x2).bind fun v19 => some (0, v19.2)) else some (61, I))))))))
set_option maxHeartbeats 4000000 in
set_option maxRecDepth 100000 in
theorem c_X12_does {lc : bm_L} {d n : Nat} {I : bm_TI} {J : bm_TJ} {R W : bm_TR} {x1 : Int32} {x2 : Int32} {x3 : Int32} {v : Int32 × bm_TI} (hN : 181 ≤ n) (hR : bm_RR R) (h : f_X12_does I x1 x2 x3 = some v) : bm_C lc m_X12_does (d + 10) n n [.ref 164, .int x1, .int x2, .int x3] (I, J, R, W) (fun r M' => r = some (.int v.1) ∧ M' = (v.2, J, R, W)) := by
  refine bm_C.ofV (by decide) (Nat.le_of_ble_eq_true rfl) ?_
  show bm_V lc m_X12_does (d + 10) n n n 0 [(0, .ref 164), (1, .int x1), (2, .int x2), (3, .int x3)] [] (I, J, R, W) _
  unfold f_X12_does at h
  refine bv_iload_n dX12_does_0 1 rfl ?_
  by_cases c1 : x1 = 0
  · replace h := bu_t h c1
    refine bv_tableIn (tgt := 40) dX12_does_1 (by rw [c1]; decide) (by rw [c1]; decide) (by rw [c1]; rfl) (by decide) ?_
    refine bv_aload_n dX12_does_40 0 rfl ?_
    refine bv_iload_n dX12_does_41 2 rfl ?_
    obtain ⟨v2, p3, h⟩ := bu_bd h
    refine bw_callV (As := [.int x2]) hN okL_164 ⟨_, _, rfl⟩ dX12_does_42 mc_12_290 (c_X12_browOf (d := d + 8) hN hR p3) rfl rfl (by decide) ?_
    refine bv_if_ne (tgt := 50) dX12_does_45 (by decide) (fun cc => ?_) (fun cc => ?_)
    · replace h := bu_f h cc
      refine bv_aload_n dX12_does_50 0 rfl ?_
      refine bv_iload_n dX12_does_51 2 rfl ?_
      refine bv_iload_n dX12_does_52 3 rfl ?_
      obtain ⟨v4, p5, h⟩ := bu_bd h
      refine bw_callVv (As := [.int x2, .int x3]) hN okL_164 ⟨_, _, rfl⟩ dX12_does_53 mc_12_329 (c_X12_lifts (d := d + 3) hN hR p5) rfl rfl (by decide) ?_
      refine bv_iconst (v := 0) dX12_does_56 (by decide) ?_
      obtain rfl := Option.some.inj h
      exact bv_iret (x := 0) dX12_does_57 rfl ⟨rfl, rfl⟩
    · replace h := bu_t h cc
      refine bv_iconst (v := 1) dX12_does_48 (by decide) ?_
      obtain rfl := Option.some.inj h
      exact bv_iret (x := 1) dX12_does_49 rfl ⟨rfl, rfl⟩
  · replace h := bu_f h c1
    by_cases c6 : x1 = 1
    · replace h := bu_t h c6
      refine bv_tableIn (tgt := 58) dX12_does_1 (by rw [c6]; decide) (by rw [c6]; decide) (by rw [c6]; rfl) (by decide) ?_
      refine bv_aload_n dX12_does_58 0 rfl ?_
      refine bv_iload_n dX12_does_59 2 rfl ?_
      obtain ⟨v7, p8, h⟩ := bu_bd h
      refine bw_callV (As := [.int x2]) hN okL_164 ⟨_, _, rfl⟩ dX12_does_60 mc_12_290 (c_X12_browOf (d := d + 8) hN hR p8) rfl rfl (by decide) ?_
      refine bv_if_ne (tgt := 69) dX12_does_63 (by decide) (fun cc => ?_) (fun cc => ?_)
      · replace h := bu_f h cc
        refine bv_aload_n dX12_does_69 0 rfl ?_
        refine bv_iload_n dX12_does_70 2 rfl ?_
        refine bv_iload_n dX12_does_71 3 rfl ?_
        obtain ⟨v9, p10, h⟩ := bu_bd h
        refine bw_callVv (As := [.int x2, .int x3]) hN okL_164 ⟨_, _, rfl⟩ dX12_does_72 mc_12_332 (c_X12_gives (d := d + 2) hN hR p10) rfl rfl (by decide) ?_
        refine bv_iconst (v := 0) dX12_does_75 (by decide) ?_
        obtain rfl := Option.some.inj h
        exact bv_iret (x := 0) dX12_does_76 rfl ⟨rfl, rfl⟩
      · replace h := bu_t h cc
        refine bv_bipush (v := 11) dX12_does_66 (by decide) ?_
        obtain rfl := Option.some.inj h
        exact bv_iret (x := 11) dX12_does_68 rfl ⟨rfl, rfl⟩
    · replace h := bu_f h c6
      by_cases c11 : x1 = 2
      · replace h := bu_t h c11
        refine bv_tableIn (tgt := 77) dX12_does_1 (by rw [c11]; decide) (by rw [c11]; decide) (by rw [c11]; rfl) (by decide) ?_
        refine bv_aload_n dX12_does_77 0 rfl ?_
        refine bz_getA (a := 166) hN okL_164 (hR _ _ _ r0_164_6) dX12_does_78 fl_12_33 rfl ?_
        refine bv_bipush (v := 63) dX12_does_81 (by decide) ?_
        refine bz_iald (j := 63) hN rkL_166 (bm_ix_in (by decide)) (by decide) dX12_does_83 ?_
        refine bv_iload_n dX12_does_84 2 rfl ?_
        refine bw_callS (As := [.int (I 166 63), .int x2]) dX12_does_85 mc_12_231 (c_X12_bitOf (d := d + 9) hN hR rfl) rfl rfl (by decide) ?_
        refine bv_iload_n dX12_does_88 1 rfl ?_
        refine bv_iconst (v := 2) dX12_does_89 (by decide) ?_
        refine bv_icmp_ne (tgt := 97) dX12_does_90 (by decide) (fun cc => ?_) (fun cc => ?_)
        · replace h := bu_f h cc
          refine bv_iconst (v := 0) dX12_does_97 (by decide) ?_
          refine bv_icmp_ne (tgt := 108) dX12_does_98 (by decide) (fun cc => ?_) (fun cc => ?_)
          · replace h := bu_f h cc
            refine bv_aload_n dX12_does_108 0 rfl ?_
            refine bz_getA (a := 166) hN okL_164 (hR _ _ _ r0_164_6) dX12_does_109 fl_12_33 rfl ?_
            refine bv_bipush (v := 63) dX12_does_112 (by decide) ?_
            refine bv_dup2 dX12_does_114 rfl rfl ?_
            refine bz_iald (j := 63) hN rkL_166 (bm_ix_in (by decide)) (by decide) dX12_does_115 ?_
            refine bv_iconst (v := 1) dX12_does_116 (by decide) ?_
            refine bv_iload_n dX12_does_117 2 rfl ?_
            refine bv_ishl dX12_does_118 ?_
            refine bv_ixor dX12_does_119 ?_
            refine bz_iast (j := 63) hN rkL_166 (bm_ix_in (by decide)) (by decide) dX12_does_120 ?_
            refine bv_iconst (v := 0) dX12_does_121 (by decide) ?_
            obtain rfl := Option.some.inj h
            exact bv_iret (x := 0) dX12_does_122 rfl ⟨rfl, rfl⟩
          · replace h := bu_t h cc
            refine bv_bipush (v := 10) dX12_does_101 (by decide) ?_
            refine bv_iload_n dX12_does_103 1 rfl ?_
            refine bv_imul dX12_does_104 ?_
            refine bv_iconst (v := 1) dX12_does_105 (by decide) ?_
            refine bv_iadd dX12_does_106 ?_
            obtain rfl := Option.some.inj h
            exact bv_iret (x := ((10 * x1) + 1)) dX12_does_107 rfl ⟨rfl, rfl⟩
        · replace h := bu_t h cc
          refine bv_iconst (v := 1) dX12_does_93 (by decide) ?_
          refine bv_goto (tgt := 98) dX12_does_94 (by decide) ?_
          refine bv_icmp_ne (tgt := 108) dX12_does_98 (by decide) (fun cc => ?_) (fun cc => ?_)
          · replace h := bu_f h cc
            refine bv_aload_n dX12_does_108 0 rfl ?_
            refine bz_getA (a := 166) hN okL_164 (hR _ _ _ r0_164_6) dX12_does_109 fl_12_33 rfl ?_
            refine bv_bipush (v := 63) dX12_does_112 (by decide) ?_
            refine bv_dup2 dX12_does_114 rfl rfl ?_
            refine bz_iald (j := 63) hN rkL_166 (bm_ix_in (by decide)) (by decide) dX12_does_115 ?_
            refine bv_iconst (v := 1) dX12_does_116 (by decide) ?_
            refine bv_iload_n dX12_does_117 2 rfl ?_
            refine bv_ishl dX12_does_118 ?_
            refine bv_ixor dX12_does_119 ?_
            refine bz_iast (j := 63) hN rkL_166 (bm_ix_in (by decide)) (by decide) dX12_does_120 ?_
            refine bv_iconst (v := 0) dX12_does_121 (by decide) ?_
            obtain rfl := Option.some.inj h
            exact bv_iret (x := 0) dX12_does_122 rfl ⟨rfl, rfl⟩
          · replace h := bu_t h cc
            refine bv_bipush (v := 10) dX12_does_101 (by decide) ?_
            refine bv_iload_n dX12_does_103 1 rfl ?_
            refine bv_imul dX12_does_104 ?_
            refine bv_iconst (v := 1) dX12_does_105 (by decide) ?_
            refine bv_iadd dX12_does_106 ?_
            obtain rfl := Option.some.inj h
            exact bv_iret (x := ((10 * x1) + 1)) dX12_does_107 rfl ⟨rfl, rfl⟩
      · replace h := bu_f h c11
        by_cases c12 : x1 = 3
        · replace h := bu_t h c12
          refine bv_tableIn (tgt := 77) dX12_does_1 (by rw [c12]; decide) (by rw [c12]; decide) (by rw [c12]; rfl) (by decide) ?_
          refine bv_aload_n dX12_does_77 0 rfl ?_
          refine bz_getA (a := 166) hN okL_164 (hR _ _ _ r0_164_6) dX12_does_78 fl_12_33 rfl ?_
          refine bv_bipush (v := 63) dX12_does_81 (by decide) ?_
          refine bz_iald (j := 63) hN rkL_166 (bm_ix_in (by decide)) (by decide) dX12_does_83 ?_
          refine bv_iload_n dX12_does_84 2 rfl ?_
          refine bw_callS (As := [.int (I 166 63), .int x2]) dX12_does_85 mc_12_231 (c_X12_bitOf (d := d + 9) hN hR rfl) rfl rfl (by decide) ?_
          refine bv_iload_n dX12_does_88 1 rfl ?_
          refine bv_iconst (v := 2) dX12_does_89 (by decide) ?_
          refine bv_icmp_ne (tgt := 97) dX12_does_90 (by decide) (fun cc => ?_) (fun cc => ?_)
          · replace h := bu_f h cc
            refine bv_iconst (v := 0) dX12_does_97 (by decide) ?_
            refine bv_icmp_ne (tgt := 108) dX12_does_98 (by decide) (fun cc => ?_) (fun cc => ?_)
            · replace h := bu_f h cc
              refine bv_aload_n dX12_does_108 0 rfl ?_
              refine bz_getA (a := 166) hN okL_164 (hR _ _ _ r0_164_6) dX12_does_109 fl_12_33 rfl ?_
              refine bv_bipush (v := 63) dX12_does_112 (by decide) ?_
              refine bv_dup2 dX12_does_114 rfl rfl ?_
              refine bz_iald (j := 63) hN rkL_166 (bm_ix_in (by decide)) (by decide) dX12_does_115 ?_
              refine bv_iconst (v := 1) dX12_does_116 (by decide) ?_
              refine bv_iload_n dX12_does_117 2 rfl ?_
              refine bv_ishl dX12_does_118 ?_
              refine bv_ixor dX12_does_119 ?_
              refine bz_iast (j := 63) hN rkL_166 (bm_ix_in (by decide)) (by decide) dX12_does_120 ?_
              refine bv_iconst (v := 0) dX12_does_121 (by decide) ?_
              obtain rfl := Option.some.inj h
              exact bv_iret (x := 0) dX12_does_122 rfl ⟨rfl, rfl⟩
            · replace h := bu_t h cc
              refine bv_bipush (v := 10) dX12_does_101 (by decide) ?_
              refine bv_iload_n dX12_does_103 1 rfl ?_
              refine bv_imul dX12_does_104 ?_
              refine bv_iconst (v := 1) dX12_does_105 (by decide) ?_
              refine bv_iadd dX12_does_106 ?_
              obtain rfl := Option.some.inj h
              exact bv_iret (x := ((10 * x1) + 1)) dX12_does_107 rfl ⟨rfl, rfl⟩
          · replace h := bu_t h cc
            refine bv_iconst (v := 1) dX12_does_93 (by decide) ?_
            refine bv_goto (tgt := 98) dX12_does_94 (by decide) ?_
            refine bv_icmp_ne (tgt := 108) dX12_does_98 (by decide) (fun cc => ?_) (fun cc => ?_)
            · replace h := bu_f h cc
              refine bv_aload_n dX12_does_108 0 rfl ?_
              refine bz_getA (a := 166) hN okL_164 (hR _ _ _ r0_164_6) dX12_does_109 fl_12_33 rfl ?_
              refine bv_bipush (v := 63) dX12_does_112 (by decide) ?_
              refine bv_dup2 dX12_does_114 rfl rfl ?_
              refine bz_iald (j := 63) hN rkL_166 (bm_ix_in (by decide)) (by decide) dX12_does_115 ?_
              refine bv_iconst (v := 1) dX12_does_116 (by decide) ?_
              refine bv_iload_n dX12_does_117 2 rfl ?_
              refine bv_ishl dX12_does_118 ?_
              refine bv_ixor dX12_does_119 ?_
              refine bz_iast (j := 63) hN rkL_166 (bm_ix_in (by decide)) (by decide) dX12_does_120 ?_
              refine bv_iconst (v := 0) dX12_does_121 (by decide) ?_
              obtain rfl := Option.some.inj h
              exact bv_iret (x := 0) dX12_does_122 rfl ⟨rfl, rfl⟩
            · replace h := bu_t h cc
              refine bv_bipush (v := 10) dX12_does_101 (by decide) ?_
              refine bv_iload_n dX12_does_103 1 rfl ?_
              refine bv_imul dX12_does_104 ?_
              refine bv_iconst (v := 1) dX12_does_105 (by decide) ?_
              refine bv_iadd dX12_does_106 ?_
              obtain rfl := Option.some.inj h
              exact bv_iret (x := ((10 * x1) + 1)) dX12_does_107 rfl ⟨rfl, rfl⟩
        · replace h := bu_f h c12
          by_cases c13 : x1 = 4
          · replace h := bu_t h c13
            refine bv_tableIn (tgt := 123) dX12_does_1 (by rw [c13]; decide) (by rw [c13]; decide) (by rw [c13]; rfl) (by decide) ?_
            refine bv_aload_n dX12_does_123 0 rfl ?_
            refine bz_getA (a := 166) hN okL_164 (hR _ _ _ r0_164_6) dX12_does_124 fl_12_33 rfl ?_
            refine bv_bipush (v := 64) dX12_does_127 (by decide) ?_
            refine bz_iald (j := 64) hN rkL_166 (bm_ix_in (by decide)) (by decide) dX12_does_129 ?_
            refine bv_iload_n dX12_does_130 2 rfl ?_
            refine bw_callS (As := [.int (I 166 64), .int x2]) dX12_does_131 mc_12_231 (c_X12_bitOf (d := d + 9) hN hR rfl) rfl rfl (by decide) ?_
            refine bw_ifB_eq (b := (f_X12_bitOf (I 166 64) x2)) (tgt := 140) dX12_does_134 (by decide) (fun cc => ?_) (fun cc => ?_)
            · replace h := bu_bf h cc
              refine bv_aload_n dX12_does_140 0 rfl ?_
              refine bz_getA (a := 166) hN okL_164 (hR _ _ _ r0_164_6) dX12_does_141 fl_12_33 rfl ?_
              refine bv_bipush (v := 64) dX12_does_144 (by decide) ?_
              refine bv_dup2 dX12_does_146 rfl rfl ?_
              refine bz_iald (j := 64) hN rkL_166 (bm_ix_in (by decide)) (by decide) dX12_does_147 ?_
              refine bv_iconst (v := 1) dX12_does_148 (by decide) ?_
              refine bv_iload_n dX12_does_149 2 rfl ?_
              refine bv_ishl dX12_does_150 ?_
              refine bv_ior dX12_does_151 ?_
              refine bz_iast (j := 64) hN rkL_166 (bm_ix_in (by decide)) (by decide) dX12_does_152 ?_
              refine bv_iconst (v := 0) dX12_does_153 (by decide) ?_
              obtain rfl := Option.some.inj h
              exact bv_iret (x := 0) dX12_does_154 rfl ⟨rfl, rfl⟩
            · replace h := bu_bt h cc
              refine bv_bipush (v := 41) dX12_does_137 (by decide) ?_
              obtain rfl := Option.some.inj h
              exact bv_iret (x := 41) dX12_does_139 rfl ⟨rfl, rfl⟩
          · replace h := bu_f h c13
            by_cases c14 : x1 = 5
            · replace h := bu_t h c14
              refine bv_tableIn (tgt := 155) dX12_does_1 (by rw [c14]; decide) (by rw [c14]; decide) (by rw [c14]; rfl) (by decide) ?_
              refine bv_aload_n dX12_does_155 0 rfl ?_
              refine bv_iload_n dX12_does_156 2 rfl ?_
              refine bv_iload_n dX12_does_157 3 rfl ?_
              obtain ⟨v15, p16, h⟩ := bu_bd h
              refine bw_callV (As := [.int x2, .int x3]) hN okL_164 ⟨_, _, rfl⟩ dX12_does_158 mc_12_351 (c_X12_whyGo (d := d + 8) hN hR p16) rfl rfl (by decide) ?_
              refine bv_if_le (tgt := 167) dX12_does_161 (by decide) (fun cc => ?_) (fun cc => ?_)
              · replace h := bu_t h cc
                refine bv_aload_n dX12_does_167 0 rfl ?_
                refine bv_iload_n dX12_does_168 2 rfl ?_
                refine bv_iload_n dX12_does_169 3 rfl ?_
                obtain ⟨v17, p18, h⟩ := bu_bd h
                refine bw_callVv (As := [.int x2, .int x3]) hN okL_164 ⟨_, _, rfl⟩ dX12_does_170 mc_12_354 (c_X12_goes (d := d + 8) hN hR p18) rfl rfl (by decide) ?_
                refine bv_iconst (v := 0) dX12_does_173 (by decide) ?_
                obtain rfl := Option.some.inj h
                exact bv_iret (x := 0) dX12_does_174 rfl ⟨rfl, rfl⟩
              · replace h := bu_f h cc
                refine bv_bipush (v := 51) dX12_does_164 (by decide) ?_
                obtain rfl := Option.some.inj h
                exact bv_iret (x := 51) dX12_does_166 rfl ⟨rfl, rfl⟩
            · replace h := bu_f h c14
              refine bv_tableOut (tgt := 175) dX12_does_1 (bm_sw (k := 6) (by decide) (fun j hj => by match j, hj with | 0, _ => exact c1 | 1, _ => exact c6 | 2, _ => exact c11 | 3, _ => exact c12 | 4, _ => exact c13 | 5, _ => exact c14)) (by decide) ?_
              refine bv_aload_n dX12_does_175 0 rfl ?_
              refine bz_getA (a := 166) hN okL_164 (hR _ _ _ r0_164_6) dX12_does_176 fl_12_33 rfl ?_
              refine bv_bipush (v := 61) dX12_does_179 (by decide) ?_
              refine bz_iald (j := 61) hN rkL_166 (bm_ix_in (by decide)) (by decide) dX12_does_181 ?_
              refine bv_iload_n dX12_does_182 2 rfl ?_
              refine bv_iadd dX12_does_183 ?_
              refine bv_sipush (v := 400) dX12_does_184 (by decide) ?_
              refine bv_icmp_le (tgt := 193) dX12_does_187 (by decide) (fun cc => ?_) (fun cc => ?_)
              · replace h := bu_t h cc
                refine bv_aload_n dX12_does_193 0 rfl ?_
                refine bv_iload_n dX12_does_194 2 rfl ?_
                obtain ⟨v19, p20, h⟩ := bu_bd h
                refine bw_callV (As := [.int x2]) hN okL_164 ⟨_, _, rfl⟩ dX12_does_195 mc_12_357 (c_X12_goesOn (d := d + 0) hN hR p20) rfl rfl (by decide) ?_
                refine bv_pop dX12_does_198 rfl ?_
                refine bv_iconst (v := 0) dX12_does_199 (by decide) ?_
                obtain rfl := Option.some.inj h
                exact bv_iret (x := 0) dX12_does_200 rfl ⟨rfl, rfl⟩
              · replace h := bu_f h cc
                refine bv_bipush (v := 61) dX12_does_190 (by decide) ?_
                obtain rfl := Option.some.inj h
                exact bv_iret (x := 61) dX12_does_192 rfl ⟨rfl, rfl⟩
def f_X12_book_l39 (x1 : Int32) : Nat → bm_TI → bm_TJ → Option (((bm_TI × bm_TJ) ⊕ (bm_TI × bm_TJ)))
  | 0, _, _ => none
  | k + 1, I, J => (if (I 164 11) = 0 then some (Sum.inr (I, J)) else ((f_X12_bookLine I J).bind fun v1 => (if v1.1 = true then ((f_X12_sign v1.2.1 v1.2.2 59).bind fun v3 => (if v3.1 = true then f_X12_book_l39 x1 k (bm_uI v3.2.1 164 34 ((v3.2.1 164 34) + 1)) v3.2.2 else some (Sum.inl (v3.2.1, v3.2.2)))) else some (Sum.inl (v1.2.1, v1.2.2)))))
set_option maxHeartbeats 4000000 in
set_option maxRecDepth 100000 in
theorem v_X12_book_l39 {lc : bm_L} {d n : Nat} {Q : Option Value → bm_M → Prop} {R : bm_TR} {W : bm_TR} {x1 : Int32} (hN : 181 ≤ n) (hR : bm_RR R) : ∀ (k : Nat) (I : bm_TI) (J : bm_TJ) (r : ((bm_TI × bm_TJ) ⊕ (bm_TI × bm_TJ))), f_X12_book_l39 x1 k I J = some r → (∀ yy, (Sum.inl yy) = r → bm_V lc m_X12_book (d + 11) n n n 62 [(0, .ref 164)] [] (yy.1, yy.2, R, W) Q) → (∀ yy, (Sum.inr yy) = r → bm_V lc m_X12_book (d + 11) n n n 83 [(0, .ref 164), (1, .int x1)] [] (yy.1, yy.2, R, W) Q) → bm_V lc m_X12_book (d + 11) n n n 39 [(0, .ref 164), (1, .int x1)] [] (I, J, R, W) Q := by
  intro k
  induction k with
  | zero => intro I J r h; cases (show (none : Option (((bm_TI × bm_TJ) ⊕ (bm_TI × bm_TJ)))) = some r from h)
  | succ k ih =>
    intro I J r h K0 K1
    unfold f_X12_book_l39 at h
    refine bv_aload_n dX12_book_39 0 rfl ?_
    refine bz_getI hN okL_164 dX12_book_40 fl_12_174 rfl ?_
    refine bv_if_eq (tgt := 83) dX12_book_43 (by decide) (fun cc => ?_) (fun cc => ?_)
    · replace h := bu_t h cc
      obtain rfl := Option.some.inj h
      exact K1 _ rfl
    · replace h := bu_f h cc
      refine bv_aload_n dX12_book_46 0 rfl ?_
      obtain ⟨v1, p2, h⟩ := bu_bd h
      refine bw_callV (As := []) hN okL_164 ⟨_, _, rfl⟩ dX12_book_47 mc_12_441 (c_X12_bookLine (d := d + 7) hN hR p2) rfl rfl (by decide) ?_
      refine bw_ifB_eq (b := v1.1) (tgt := 62) dX12_book_50 (by decide) (fun cc => ?_) (fun cc => ?_)
      · replace h := bu_bf h cc
        refine bw_ls (ls1 := [(0, .ref 164)]) [0] rfl ?_
        obtain rfl := Option.some.inj h
        exact K0 _ rfl
      · replace h := bu_bt h cc
        refine bv_aload_n dX12_book_53 0 rfl ?_
        refine bv_bipush (v := 59) dX12_book_54 (by decide) ?_
        obtain ⟨v3, p4, h⟩ := bu_bd h
        refine bw_callV (As := [.int 59]) hN okL_164 ⟨_, _, rfl⟩ dX12_book_56 mc_12_273 (c_X12_sign (d := d + 8) hN hR p4) rfl rfl (by decide) ?_
        refine bw_ifB_ne (b := v3.1) (tgt := 70) dX12_book_59 (by decide) (fun cc => ?_) (fun cc => ?_)
        · replace h := bu_bt h cc
          refine bv_aload_n dX12_book_70 0 rfl ?_
          refine bv_dup dX12_book_71 rfl ?_
          refine bz_getI hN okL_164 dX12_book_72 fl_12_435 rfl ?_
          refine bv_iconst (v := 1) dX12_book_75 (by decide) ?_
          refine bv_iadd dX12_book_76 ?_
          refine bz_putI hN okL_164 dX12_book_77 fl_12_435 rfl ?_
          refine bv_goto (tgt := 39) dX12_book_80 (by decide) ?_
          exact ih _ _ _ h K0 K1
        · replace h := bu_bf h cc
          refine bw_ls (ls1 := [(0, .ref 164)]) [0] rfl ?_
          obtain rfl := Option.some.inj h
          exact K0 _ rfl
def f_X12_book_l89 (x1 : Int32) : Nat → Int32 → bm_TI → Option (bm_TI)
  | 0, _, _ => none
  | k + 1, x2, I => (if 4 ≤ x2 then some I else (if bm_ix 4 x2 = true then f_X12_book_l89 x1 k (x2 + 1) (bm_uI I 175 x2.toNatClampNeg 0) else none))
set_option maxHeartbeats 4000000 in
set_option maxRecDepth 100000 in
theorem v_X12_book_l89 {lc : bm_L} {d n : Nat} {Q : Option Value → bm_M → Prop} {R : bm_TR} {J : bm_TJ} {W : bm_TR} {x1 : Int32} (hN : 181 ≤ n) (hR : bm_RR R) : ∀ (k : Nat) (x2 : Int32) (I : bm_TI) (r : bm_TI), f_X12_book_l89 x1 k x2 I = some r → (∀ yy, yy = r → bm_V lc m_X12_book (d + 11) n n n 107 [(0, .ref 164), (1, .int x1)] [] (yy, J, R, W) Q) → bm_V lc m_X12_book (d + 11) n n n 89 [(0, .ref 164), (1, .int x1), (2, .int x2)] [] (I, J, R, W) Q := by
  intro k
  induction k with
  | zero => intro x2 I r h; cases (show (none : Option (bm_TI)) = some r from h)
  | succ k ih =>
    intro x2 I r h K0
    unfold f_X12_book_l89 at h
    refine bv_iload_n dX12_book_89 2 rfl ?_
    refine bv_iconst (v := 4) dX12_book_90 (by decide) ?_
    refine bv_icmp_ge (tgt := 107) dX12_book_91 (by decide) (fun cc => ?_) (fun cc => ?_)
    · replace h := bu_t h cc
      refine bw_ls (ls1 := [(0, .ref 164), (1, .int x1)]) [0, 1] rfl ?_
      obtain rfl := Option.some.inj h
      exact K0 _ rfl
    · replace h := bu_f h cc
      refine bv_aload_n dX12_book_94 0 rfl ?_
      refine bz_getA (a := 175) hN okL_164 (hR _ _ _ r0_164_35) dX12_book_95 fl_12_74 rfl ?_
      refine bv_iload_n dX12_book_98 2 rfl ?_
      refine bv_iconst (v := 0) dX12_book_99 (by decide) ?_
      obtain ⟨r1, h⟩ := bu_ix h
      refine bz_iast hN rkL_175 r1 rfl dX12_book_100 ?_
      refine bv_iinc (j := 2) (v := (x2 + 1)) (ls1 := [(0, .ref 164), (1, .int x1), (2, .int (x2 + 1))]) dX12_book_101 rfl rfl (by decide) rfl rfl ?_
      refine bv_goto (tgt := 89) dX12_book_104 (by decide) ?_
      exact ih _ _ _ h K0
def f_X12_book_l111 (x1 : Int32) : Nat → Int32 → Int32 → bm_TI → Option (Int32 × bm_TI)
  | 0, _, _, _ => none
  | k + 1, x2, x3, I => (if (I 164 34) ≤ x3 then some (x2, I) else (if 0 ≤ x2 then some (x2, I) else (if bm_ix 135 (3 * x3) = true then (if bm_ix 135 ((3 * x3) + 1) = true then (if bm_ix 135 ((3 * x3) + 2) = true then ((f_X12_does I (I 168 (3 * x3).toNatClampNeg) (I 168 ((3 * x3) + 1).toNatClampNeg) (I 168 ((3 * x3) + 2).toNatClampNeg)).bind fun v4 => (if ((bm_uI v4.2 175 0 v4.1) 175 0) ≤ 0 then f_X12_book_l111 x1 k x2 (x3 + 1) (bm_uI (bm_uI v4.2 175 0 v4.1) 175 1 (((bm_uI v4.2 175 0 v4.1) 175 1) + 1)) else f_X12_book_l111 x1 k x3 (x3 + 1) (bm_uI v4.2 175 0 v4.1))) else none) else none) else none)))
set_option maxHeartbeats 4000000 in
set_option maxRecDepth 100000 in
theorem v_X12_book_l111 {lc : bm_L} {d n : Nat} {Q : Option Value → bm_M → Prop} {R : bm_TR} {J : bm_TJ} {W : bm_TR} {x1 : Int32} (hN : 181 ≤ n) (hR : bm_RR R) : ∀ (k : Nat) (x2 : Int32) (x3 : Int32) (I : bm_TI) (r : Int32 × bm_TI), f_X12_book_l111 x1 k x2 x3 I = some r → (∀ yy, yy = r → bm_V lc m_X12_book (d + 11) n n n 191 [(0, .ref 164), (1, .int x1), (2, .int yy.1)] [] (yy.2, J, R, W) Q) → bm_V lc m_X12_book (d + 11) n n n 111 [(0, .ref 164), (1, .int x1), (2, .int x2), (3, .int x3)] [] (I, J, R, W) Q := by
  intro k
  induction k with
  | zero => intro x2 x3 I r h; cases (show (none : Option (Int32 × bm_TI)) = some r from h)
  | succ k ih =>
    intro x2 x3 I r h K0
    unfold f_X12_book_l111 at h
    refine bv_iload_n dX12_book_111 3 rfl ?_
    refine bv_aload_n dX12_book_112 0 rfl ?_
    refine bz_getI hN okL_164 dX12_book_113 fl_12_435 rfl ?_
    refine bv_icmp_ge (tgt := 191) dX12_book_116 (by decide) (fun cc => ?_) (fun cc => ?_)
    · replace h := bu_t h cc
      refine bw_ls (ls1 := [(0, .ref 164), (1, .int x1), (2, .int x2)]) [0, 1, 2] rfl ?_
      obtain rfl := Option.some.inj h
      exact K0 _ rfl
    · replace h := bu_f h cc
      refine bv_iload_n dX12_book_119 2 rfl ?_
      refine bv_if_ge (tgt := 191) dX12_book_120 (by decide) (fun cc => ?_) (fun cc => ?_)
      · replace h := bu_t h cc
        refine bw_ls (ls1 := [(0, .ref 164), (1, .int x1), (2, .int x2)]) [0, 1, 2] rfl ?_
        obtain rfl := Option.some.inj h
        exact K0 _ rfl
      · replace h := bu_f h cc
        refine bv_aload_n dX12_book_123 0 rfl ?_
        refine bz_getA (a := 175) hN okL_164 (hR _ _ _ r0_164_35) dX12_book_124 fl_12_74 rfl ?_
        refine bv_iconst (v := 0) dX12_book_127 (by decide) ?_
        refine bv_aload_n dX12_book_128 0 rfl ?_
        refine bv_aload_n dX12_book_129 0 rfl ?_
        refine bz_getA (a := 168) hN okL_164 (hR _ _ _ r0_164_8) dX12_book_130 fl_12_40 rfl ?_
        refine bv_iconst (v := 3) dX12_book_133 (by decide) ?_
        refine bv_iload_n dX12_book_134 3 rfl ?_
        refine bv_imul dX12_book_135 ?_
        obtain ⟨r1, h⟩ := bu_ix h
        refine bz_iald hN rkL_168 r1 rfl dX12_book_136 ?_
        refine bv_aload_n dX12_book_137 0 rfl ?_
        refine bz_getA (a := 168) hN okL_164 (hR _ _ _ r0_164_8) dX12_book_138 fl_12_40 rfl ?_
        refine bv_iconst (v := 3) dX12_book_141 (by decide) ?_
        refine bv_iload_n dX12_book_142 3 rfl ?_
        refine bv_imul dX12_book_143 ?_
        refine bv_iconst (v := 1) dX12_book_144 (by decide) ?_
        refine bv_iadd dX12_book_145 ?_
        obtain ⟨r2, h⟩ := bu_ix h
        refine bz_iald hN rkL_168 r2 rfl dX12_book_146 ?_
        refine bv_aload_n dX12_book_147 0 rfl ?_
        refine bz_getA (a := 168) hN okL_164 (hR _ _ _ r0_164_8) dX12_book_148 fl_12_40 rfl ?_
        refine bv_iconst (v := 3) dX12_book_151 (by decide) ?_
        refine bv_iload_n dX12_book_152 3 rfl ?_
        refine bv_imul dX12_book_153 ?_
        refine bv_iconst (v := 2) dX12_book_154 (by decide) ?_
        refine bv_iadd dX12_book_155 ?_
        obtain ⟨r3, h⟩ := bu_ix h
        refine bz_iald hN rkL_168 r3 rfl dX12_book_156 ?_
        obtain ⟨v4, p5, h⟩ := bu_bd h
        refine bw_callV (As := [.int (I 168 (3 * x3).toNatClampNeg), .int (I 168 ((3 * x3) + 1).toNatClampNeg), .int (I 168 ((3 * x3) + 2).toNatClampNeg)]) hN okL_164 ⟨_, _, rfl⟩ dX12_book_157 mc_12_444 (c_X12_does (d := d + 0) hN hR p5) rfl rfl (Nat.le_of_ble_eq_true rfl) ?_
        refine bz_iast (j := 0) hN rkL_175 (bm_ix_in (by decide)) (by decide) dX12_book_160 ?_
        refine bv_aload_n dX12_book_161 0 rfl ?_
        refine bz_getA (a := 175) hN okL_164 (hR _ _ _ r0_164_35) dX12_book_162 fl_12_74 rfl ?_
        refine bv_iconst (v := 0) dX12_book_165 (by decide) ?_
        refine bz_iald (j := 0) hN rkL_175 (bm_ix_in (by decide)) (by decide) dX12_book_166 ?_
        refine bv_if_le (tgt := 175) dX12_book_167 (by decide) (fun cc => ?_) (fun cc => ?_)
        · replace h := bu_t h cc
          refine bv_aload_n dX12_book_175 0 rfl ?_
          refine bz_getA (a := 175) hN okL_164 (hR _ _ _ r0_164_35) dX12_book_176 fl_12_74 rfl ?_
          refine bv_iconst (v := 1) dX12_book_179 (by decide) ?_
          refine bv_dup2 dX12_book_180 rfl rfl ?_
          refine bz_iald (j := 1) hN rkL_175 (bm_ix_in (by decide)) (by decide) dX12_book_181 ?_
          refine bv_iconst (v := 1) dX12_book_182 (by decide) ?_
          refine bv_iadd dX12_book_183 ?_
          refine bz_iast (j := 1) hN rkL_175 (bm_ix_in (by decide)) (by decide) dX12_book_184 ?_
          refine bv_iinc (j := 3) (v := (x3 + 1)) (ls1 := [(0, .ref 164), (1, .int x1), (2, .int x2), (3, .int (x3 + 1))]) dX12_book_185 rfl rfl (by decide) rfl rfl ?_
          refine bv_goto (tgt := 111) dX12_book_188 (by decide) ?_
          exact ih _ _ _ _ h K0
        · replace h := bu_f h cc
          refine bv_iload_n dX12_book_170 3 rfl ?_
          refine bv_istore_n (ls1 := [(0, .ref 164), (1, .int x1), (2, .int x3), (3, .int x3)]) dX12_book_171 (by decide) rfl rfl ?_
          refine bv_goto (tgt := 185) dX12_book_172 (by decide) ?_
          refine bv_iinc (j := 3) (v := (x3 + 1)) (ls1 := [(0, .ref 164), (1, .int x1), (2, .int x3), (3, .int (x3 + 1))]) dX12_book_185 rfl rfl (by decide) rfl rfl ?_
          refine bv_goto (tgt := 111) dX12_book_188 (by decide) ?_
          exact ih _ _ _ _ h K0
def f_X12_book_l239 (x1 : Int32) (x2 : Int32) : Nat → Int32 → bm_TI → Option (bm_TI)
  | 0, _, _ => none
  | k + 1, x3, I => (if 45 ≤ x3 then some I else (if bm_ix 45 x3 = true then (if bm_ix 360 ((45 * ((I 164 24) - 1)) + x3) = true then f_X12_book_l239 x1 x2 k (x3 + 1) (bm_uI I 172 (((45 * ((I 164 24) - 1)) + x3).toNatClampNeg) (I 173 x3.toNatClampNeg)) else none) else none))
set_option maxHeartbeats 4000000 in
set_option maxRecDepth 100000 in
theorem v_X12_book_l239 {lc : bm_L} {d n : Nat} {Q : Option Value → bm_M → Prop} {R : bm_TR} {J : bm_TJ} {W : bm_TR} {x1 : Int32} {x2 : Int32} (hN : 181 ≤ n) (hR : bm_RR R) : ∀ (k : Nat) (x3 : Int32) (I : bm_TI) (r : bm_TI), f_X12_book_l239 x1 x2 k x3 I = some r → (∀ yy, yy = r → bm_V lc m_X12_book (d + 11) n n n 273 [(0, .ref 164), (1, .int x1), (2, .int x2)] [] (yy, J, R, W) Q) → bm_V lc m_X12_book (d + 11) n n n 239 [(0, .ref 164), (1, .int x1), (2, .int x2), (3, .int x3)] [] (I, J, R, W) Q := by
  intro k
  induction k with
  | zero => intro x3 I r h; cases (show (none : Option (bm_TI)) = some r from h)
  | succ k ih =>
    intro x3 I r h K0
    unfold f_X12_book_l239 at h
    refine bv_iload_n dX12_book_239 3 rfl ?_
    refine bv_bipush (v := 45) dX12_book_240 (by decide) ?_
    refine bv_icmp_ge (tgt := 273) dX12_book_242 (by decide) (fun cc => ?_) (fun cc => ?_)
    · replace h := bu_t h cc
      refine bw_ls (ls1 := [(0, .ref 164), (1, .int x1), (2, .int x2)]) [0, 1, 2] rfl ?_
      obtain rfl := Option.some.inj h
      exact K0 _ rfl
    · replace h := bu_f h cc
      refine bv_aload_n dX12_book_245 0 rfl ?_
      refine bz_getA (a := 172) hN okL_164 (hR _ _ _ r0_164_22) dX12_book_246 fl_12_53 rfl ?_
      refine bv_bipush (v := 45) dX12_book_249 (by decide) ?_
      refine bv_aload_n dX12_book_251 0 rfl ?_
      refine bz_getI hN okL_164 dX12_book_252 fl_12_276 rfl ?_
      refine bv_iconst (v := 1) dX12_book_255 (by decide) ?_
      refine bv_isub dX12_book_256 ?_
      refine bv_imul dX12_book_257 ?_
      refine bv_iload_n dX12_book_258 3 rfl ?_
      refine bv_iadd dX12_book_259 ?_
      refine bv_aload_n dX12_book_260 0 rfl ?_
      refine bz_getA (a := 173) hN okL_164 (hR _ _ _ r0_164_23) dX12_book_261 fl_12_56 rfl ?_
      refine bv_iload_n dX12_book_264 3 rfl ?_
      obtain ⟨r1, h⟩ := bu_ix h
      refine bz_iald hN rkL_173 r1 rfl dX12_book_265 ?_
      obtain ⟨r2, h⟩ := bu_ix h
      refine bz_iast hN rkL_172 r2 rfl dX12_book_266 ?_
      refine bv_iinc (j := 3) (v := (x3 + 1)) (ls1 := [(0, .ref 164), (1, .int x1), (2, .int x2), (3, .int (x3 + 1))]) dX12_book_267 rfl rfl (by decide) rfl rfl ?_
      refine bv_goto (tgt := 239) dX12_book_270 (by decide) ?_
      exact ih _ _ _ h K0
def f_X12_book (I : bm_TI) (J : bm_TJ) (x1 : Int32) : Option (Int32 × bm_TI × bm_TJ) := (if (f_X12_isIn x1 0 1) = true then ((f_X12_taken (bm_uI I 164 0 0) 400).bind fun v1 => ((f_X12_next (bm_uI (bm_uI v1 164 15 0) 164 34 0) J).bind fun v3 => ((f_X12_book_l39 x1 1000 v3.1 v3.2).bind fun rr => match rr with | (Sum.inl y7) => some (((-2) - (y7.1 164 16)), y7.1, y7.2) | (Sum.inr y7) => ((f_X12_tries y7.1).bind fun v8 => ((f_X12_book_l89 x1 1000 0 v8).bind fun y12 => ((f_X12_book_l111 x1 1000 (-1) 0 y12).bind fun y15 => ((f_X12_orderly (bm_uI y15.2 175 2 (y15.2 166 61))).bind fun v16 => (if x1 = 1 then (if ((bm_uI (bm_uI (bm_uI y15.2 175 2 (y15.2 166 61)) 175 3 v16) 164 36 (bm_bi true)) 175 1) ≤ 0 then (if x1 = 0 then ((f_X12_back (bm_uI (bm_uI (bm_uI y15.2 175 2 (y15.2 166 61)) 175 3 v16) 164 36 (bm_bi true))).bind fun v20 => some (y15.1, v20, y7.2)) else some (y15.1, (bm_uI (bm_uI (bm_uI y15.2 175 2 (y15.2 166 61)) 175 3 v16) 164 36 (bm_bi true)), y7.2)) else ((f_X12_keep (bm_uI (bm_uI (bm_uI y15.2 175 2 (y15.2 166 61)) 175 3 v16) 164 36 (bm_bi true))).bind fun v22 => ((f_X12_book_l239 x1 y15.1 1000 0 v22).bind fun y26 => (if x1 = 0 then ((f_X12_back y26).bind fun v27 => some (y15.1, v27, y7.2)) else some (y15.1, y26, y7.2))))) else (if x1 = 0 then ((f_X12_back (bm_uI (bm_uI (bm_uI y15.2 175 2 (y15.2 166 61)) 175 3 v16) 164 36 (bm_bi true))).bind fun v18 => some (y15.1, v18, y7.2)) else some (y15.1, (bm_uI (bm_uI (bm_uI y15.2 175 2 (y15.2 166 61)) 175 3 v16) 164 36 (bm_bi true)), y7.2)))))))))) else some ((-1000), (bm_uI I 164 0 0), J))
set_option maxHeartbeats 4000000 in
set_option maxRecDepth 100000 in
theorem c_X12_book {lc : bm_L} {d n : Nat} {I : bm_TI} {J : bm_TJ} {R W : bm_TR} {x1 : Int32} {v : Int32 × bm_TI × bm_TJ} (hN : 181 ≤ n) (hR : bm_RR R) (h : f_X12_book I J x1 = some v) : bm_C lc m_X12_book (d + 11) n n [.ref 164, .int x1] (I, J, R, W) (fun r M' => r = some (.int v.1) ∧ M' = (v.2.1, v.2.2, R, W)) := by
  refine bm_C.ofV (by decide) (Nat.le_of_ble_eq_true rfl) ?_
  show bm_V lc m_X12_book (d + 11) n n n 0 [(0, .ref 164), (1, .int x1)] [] (I, J, R, W) _
  unfold f_X12_book at h
  refine bv_aload_n dX12_book_0 0 rfl ?_
  refine bv_iconst (v := 0) dX12_book_1 (by decide) ?_
  refine bz_putI hN okL_164 dX12_book_2 fl_12_1 rfl ?_
  refine bv_iload_n dX12_book_5 1 rfl ?_
  refine bv_iconst (v := 0) dX12_book_6 (by decide) ?_
  refine bv_iconst (v := 1) dX12_book_7 (by decide) ?_
  refine bw_callS (As := [.int x1, .int 0, .int 1]) dX12_book_8 mc_12_206 (c_X12_isIn (d := d + 10) hN hR rfl) rfl rfl (by decide) ?_
  refine bw_ifB_ne (b := (f_X12_isIn x1 0 1)) (tgt := 18) dX12_book_11 (by decide) (fun cc => ?_) (fun cc => ?_)
  · replace h := bu_bt h cc
    refine bv_aload_n dX12_book_18 0 rfl ?_
    refine bv_sipush (v := 400) dX12_book_19 (by decide) ?_
    obtain ⟨v1, p2, h⟩ := bu_bd h
    refine bw_callVv (As := [.int 400]) hN okL_164 ⟨_, _, rfl⟩ dX12_book_22 mc_12_264 (c_X12_taken (d := d + 10) hN hR p2) rfl rfl (by decide) ?_
    refine bv_aload_n dX12_book_25 0 rfl ?_
    refine bv_iconst (v := 0) dX12_book_26 (by decide) ?_
    refine bz_putI hN okL_164 dX12_book_27 fl_12_191 rfl ?_
    refine bv_aload_n dX12_book_30 0 rfl ?_
    refine bv_iconst (v := 0) dX12_book_31 (by decide) ?_
    refine bz_putI hN okL_164 dX12_book_32 fl_12_435 rfl ?_
    refine bv_aload_n dX12_book_35 0 rfl ?_
    obtain ⟨v3, p4, h⟩ := bu_bd h
    refine bw_callVv (As := []) hN okL_164 ⟨_, _, rfl⟩ dX12_book_36 mc_12_203 (c_X12_next (d := d + 9) hN hR p4) rfl rfl (by decide) ?_
    obtain ⟨r5, p6, h⟩ := bu_bd h
    refine v_X12_book_l39 hN hR 1000 _ _ _ p6 (fun y7 hy => ?_) (fun y7 hy => ?_)
    · subst hy
      refine bv_bipush (v := (-2)) dX12_book_62 (by decide) ?_
      refine bv_aload_n dX12_book_64 0 rfl ?_
      refine bz_getI hN okL_164 dX12_book_65 fl_12_194 rfl ?_
      refine bv_isub dX12_book_68 ?_
      obtain rfl := Option.some.inj h
      exact bv_iret (x := ((-2) - (y7.1 164 16))) dX12_book_69 rfl ⟨rfl, rfl⟩
    · subst hy
      refine bv_aload_n dX12_book_83 0 rfl ?_
      obtain ⟨v8, p9, h⟩ := bu_bd h
      refine bw_callVv (As := []) hN okL_164 ⟨_, _, rfl⟩ dX12_book_84 mc_12_366 (c_X12_tries (d := d + 10) hN hR p9) rfl rfl (by decide) ?_
      refine bv_iconst (v := 0) dX12_book_87 (by decide) ?_
      refine bv_istore_n (ls1 := [(0, .ref 164), (1, .int x1), (2, .int 0)]) dX12_book_88 (by decide) rfl rfl ?_
      obtain ⟨r10, p11, h⟩ := bu_bd h
      refine v_X12_book_l89 hN hR 1000 _ _ _ p11 (fun y12 hy => ?_)
      · subst hy
        refine bv_iconst (v := (-1)) dX12_book_107 (by decide) ?_
        refine bv_istore_n (ls1 := [(0, .ref 164), (1, .int x1), (2, .int (-1))]) dX12_book_108 (by decide) rfl rfl ?_
        refine bv_iconst (v := 0) dX12_book_109 (by decide) ?_
        refine bv_istore_n (ls1 := [(0, .ref 164), (1, .int x1), (2, .int (-1)), (3, .int 0)]) dX12_book_110 (by decide) rfl rfl ?_
        obtain ⟨r13, p14, h⟩ := bu_bd h
        refine v_X12_book_l111 hN hR 1000 _ _ _ _ p14 (fun y15 hy => ?_)
        · subst hy
          refine bv_aload_n dX12_book_191 0 rfl ?_
          refine bz_getA (a := 175) hN okL_164 (hR _ _ _ r0_164_35) dX12_book_192 fl_12_74 rfl ?_
          refine bv_iconst (v := 2) dX12_book_195 (by decide) ?_
          refine bv_aload_n dX12_book_196 0 rfl ?_
          refine bz_getA (a := 166) hN okL_164 (hR _ _ _ r0_164_6) dX12_book_197 fl_12_33 rfl ?_
          refine bv_bipush (v := 61) dX12_book_200 (by decide) ?_
          refine bz_iald (j := 61) hN rkL_166 (bm_ix_in (by decide)) (by decide) dX12_book_202 ?_
          refine bz_iast (j := 2) hN rkL_175 (bm_ix_in (by decide)) (by decide) dX12_book_203 ?_
          refine bv_aload_n dX12_book_204 0 rfl ?_
          refine bz_getA (a := 175) hN okL_164 (hR _ _ _ r0_164_35) dX12_book_205 fl_12_74 rfl ?_
          refine bv_iconst (v := 3) dX12_book_208 (by decide) ?_
          refine bv_aload_n dX12_book_209 0 rfl ?_
          obtain ⟨v16, p17, h⟩ := bu_bd h
          refine bw_callV (As := []) hN okL_164 ⟨_, _, rfl⟩ dX12_book_210 mc_12_316 (c_X12_orderly (d := d + 10) hN hR p17) rfl rfl (Nat.le_of_ble_eq_true rfl) ?_
          refine bz_iast (j := 3) hN rkL_175 (bm_ix_in (by decide)) (by decide) dX12_book_213 ?_
          refine bv_aload_n dX12_book_214 0 rfl ?_
          refine bv_iconst (v := 1) dX12_book_215 (by decide) ?_
          refine bz_putB (v := true) hN okL_164 dX12_book_216 fl_12_447 rfl ?_
          refine bv_iload_n dX12_book_219 1 rfl ?_
          refine bv_iconst (v := 1) dX12_book_220 (by decide) ?_
          refine bv_icmp_ne (tgt := 273) dX12_book_221 (by decide) (fun cc => ?_) (fun cc => ?_)
          · replace h := bu_f h cc
            refine bv_iload_n dX12_book_273 1 rfl ?_
            refine bv_if_ne (tgt := 281) dX12_book_274 (by decide) (fun cc => ?_) (fun cc => ?_)
            · replace h := bu_f h cc
              refine bv_iload_n dX12_book_281 2 rfl ?_
              obtain rfl := Option.some.inj h
              exact bv_iret (x := y15.1) dX12_book_282 rfl ⟨rfl, rfl⟩
            · replace h := bu_t h cc
              refine bv_aload_n dX12_book_277 0 rfl ?_
              obtain ⟨v18, p19, h⟩ := bu_bd h
              refine bw_callVv (As := []) hN okL_164 ⟨_, _, rfl⟩ dX12_book_278 mc_12_369 (c_X12_back (d := d + 10) hN hR p19) rfl rfl (by decide) ?_
              refine bv_iload_n dX12_book_281 2 rfl ?_
              obtain rfl := Option.some.inj h
              exact bv_iret (x := y15.1) dX12_book_282 rfl ⟨rfl, rfl⟩
          · replace h := bu_t h cc
            refine bv_aload_n dX12_book_224 0 rfl ?_
            refine bz_getA (a := 175) hN okL_164 (hR _ _ _ r0_164_35) dX12_book_225 fl_12_74 rfl ?_
            refine bv_iconst (v := 1) dX12_book_228 (by decide) ?_
            refine bz_iald (j := 1) hN rkL_175 (bm_ix_in (by decide)) (by decide) dX12_book_229 ?_
            refine bv_if_le (tgt := 273) dX12_book_230 (by decide) (fun cc => ?_) (fun cc => ?_)
            · replace h := bu_t h cc
              refine bv_iload_n dX12_book_273 1 rfl ?_
              refine bv_if_ne (tgt := 281) dX12_book_274 (by decide) (fun cc => ?_) (fun cc => ?_)
              · replace h := bu_f h cc
                refine bv_iload_n dX12_book_281 2 rfl ?_
                obtain rfl := Option.some.inj h
                exact bv_iret (x := y15.1) dX12_book_282 rfl ⟨rfl, rfl⟩
              · replace h := bu_t h cc
                refine bv_aload_n dX12_book_277 0 rfl ?_
                obtain ⟨v20, p21, h⟩ := bu_bd h
                refine bw_callVv (As := []) hN okL_164 ⟨_, _, rfl⟩ dX12_book_278 mc_12_369 (c_X12_back (d := d + 10) hN hR p21) rfl rfl (by decide) ?_
                refine bv_iload_n dX12_book_281 2 rfl ?_
                obtain rfl := Option.some.inj h
                exact bv_iret (x := y15.1) dX12_book_282 rfl ⟨rfl, rfl⟩
            · replace h := bu_f h cc
              refine bv_aload_n dX12_book_233 0 rfl ?_
              obtain ⟨v22, p23, h⟩ := bu_bd h
              refine bw_callVv (As := []) hN okL_164 ⟨_, _, rfl⟩ dX12_book_234 mc_12_344 (c_X12_keep (d := d + 10) hN hR p23) rfl rfl (by decide) ?_
              refine bv_iconst (v := 0) dX12_book_237 (by decide) ?_
              refine bv_istore_n (ls1 := [(0, .ref 164), (1, .int x1), (2, .int y15.1), (3, .int 0)]) dX12_book_238 (by decide) rfl rfl ?_
              obtain ⟨r24, p25, h⟩ := bu_bd h
              refine v_X12_book_l239 hN hR 1000 _ _ _ p25 (fun y26 hy => ?_)
              · subst hy
                refine bv_iload_n dX12_book_273 1 rfl ?_
                refine bv_if_ne (tgt := 281) dX12_book_274 (by decide) (fun cc => ?_) (fun cc => ?_)
                · replace h := bu_f h cc
                  refine bv_iload_n dX12_book_281 2 rfl ?_
                  obtain rfl := Option.some.inj h
                  exact bv_iret (x := y15.1) dX12_book_282 rfl ⟨rfl, rfl⟩
                · replace h := bu_t h cc
                  refine bv_aload_n dX12_book_277 0 rfl ?_
                  obtain ⟨v27, p28, h⟩ := bu_bd h
                  refine bw_callVv (As := []) hN okL_164 ⟨_, _, rfl⟩ dX12_book_278 mc_12_369 (c_X12_back (d := d + 10) hN hR p28) rfl rfl (by decide) ?_
                  refine bv_iload_n dX12_book_281 2 rfl ?_
                  obtain rfl := Option.some.inj h
                  exact bv_iret (x := y15.1) dX12_book_282 rfl ⟨rfl, rfl⟩
  · replace h := bu_bf h cc
    refine bv_sipush (v := (-1000)) dX12_book_14 (by decide) ?_
    obtain rfl := Option.some.inj h
    exact bv_iret (x := (-1000)) dX12_book_17 rfl ⟨rfl, rfl⟩
def f_X12_told (I : bm_TI) (x1 : Int32) : Option (Int32 × bm_TI) := (if ((bm_uI I 164 0 0) 164 36) = 0 then some ((-1), (bm_uI I 164 0 0)) else (if (f_X12_isIn x1 0 3) = true then (if bm_ix 4 x1 = true then some (((bm_uI I 164 0 0) 175 x1.toNatClampNeg), (bm_uI I 164 0 0)) else none) else some ((-1), (bm_uI I 164 0 0))))
set_option maxHeartbeats 4000000 in
set_option maxRecDepth 100000 in
theorem c_X12_told {lc : bm_L} {d n : Nat} {I : bm_TI} {J : bm_TJ} {R W : bm_TR} {x1 : Int32} {v : Int32 × bm_TI} (hN : 181 ≤ n) (hR : bm_RR R) (h : f_X12_told I x1 = some v) : bm_C lc m_X12_told (d + 1) n n [.ref 164, .int x1] (I, J, R, W) (fun r M' => r = some (.int v.1) ∧ M' = (v.2, J, R, W)) := by
  refine bm_C.ofV (by decide) (Nat.le_of_ble_eq_true rfl) ?_
  show bm_V lc m_X12_told (d + 1) n n n 0 [(0, .ref 164), (1, .int x1)] [] (I, J, R, W) _
  unfold f_X12_told at h
  refine bv_aload_n dX12_told_0 0 rfl ?_
  refine bv_iconst (v := 0) dX12_told_1 (by decide) ?_
  refine bz_putI hN okL_164 dX12_told_2 fl_12_1 rfl ?_
  refine bv_aload_n dX12_told_5 0 rfl ?_
  refine bz_getI hN okL_164 dX12_told_6 fl_12_447 rfl ?_
  refine bv_if_eq (tgt := 30) dX12_told_9 (by decide) (fun cc => ?_) (fun cc => ?_)
  · replace h := bu_t h cc
    refine bv_iconst (v := (-1)) dX12_told_30 (by decide) ?_
    obtain rfl := Option.some.inj h
    exact bv_iret (x := (-1)) dX12_told_31 rfl ⟨rfl, rfl⟩
  · replace h := bu_f h cc
    refine bv_iload_n dX12_told_12 1 rfl ?_
    refine bv_iconst (v := 0) dX12_told_13 (by decide) ?_
    refine bv_iconst (v := 3) dX12_told_14 (by decide) ?_
    refine bw_callS (As := [.int x1, .int 0, .int 3]) dX12_told_15 mc_12_206 (c_X12_isIn (d := d + 0) hN hR rfl) rfl rfl (by decide) ?_
    refine bw_ifB_eq (b := (f_X12_isIn x1 0 3)) (tgt := 30) dX12_told_18 (by decide) (fun cc => ?_) (fun cc => ?_)
    · replace h := bu_bf h cc
      refine bv_iconst (v := (-1)) dX12_told_30 (by decide) ?_
      obtain rfl := Option.some.inj h
      exact bv_iret (x := (-1)) dX12_told_31 rfl ⟨rfl, rfl⟩
    · replace h := bu_bt h cc
      refine bv_aload_n dX12_told_21 0 rfl ?_
      refine bz_getA (a := 175) hN okL_164 (hR _ _ _ r0_164_35) dX12_told_22 fl_12_74 rfl ?_
      refine bv_iload_n dX12_told_25 1 rfl ?_
      obtain ⟨r1, h⟩ := bu_ix h
      refine bz_iald hN rkL_175 r1 rfl dX12_told_26 ?_
      refine bv_goto (tgt := 31) dX12_told_27 (by decide) ?_
      obtain rfl := Option.some.inj h
      exact bv_iret (x := ((bm_uI I 164 0 0) 175 x1.toNatClampNeg)) dX12_told_31 rfl ⟨rfl, rfl⟩
