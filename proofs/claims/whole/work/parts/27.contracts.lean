def f_X12_putCode (I : bm_TI) (x1 : Int32) (x2 : Int32) (x3 : Int32) : Option (bm_TI) := (if bm_ix 135 (3 * (I 164 38)) = true then (if bm_ix 135 ((3 * ((bm_uI I 168 ((3 * (I 164 38)).toNatClampNeg) x1) 164 38)) + 1) = true then (if bm_ix 135 ((3 * ((bm_uI (bm_uI I 168 ((3 * (I 164 38)).toNatClampNeg) x1) 168 (((3 * ((bm_uI I 168 ((3 * (I 164 38)).toNatClampNeg) x1) 164 38)) + 1).toNatClampNeg) x2) 164 38)) + 2) = true then some (bm_uI (bm_uI (bm_uI (bm_uI I 168 ((3 * (I 164 38)).toNatClampNeg) x1) 168 (((3 * ((bm_uI I 168 ((3 * (I 164 38)).toNatClampNeg) x1) 164 38)) + 1).toNatClampNeg) x2) 168 (((3 * ((bm_uI (bm_uI I 168 ((3 * (I 164 38)).toNatClampNeg) x1) 168 (((3 * ((bm_uI I 168 ((3 * (I 164 38)).toNatClampNeg) x1) 164 38)) + 1).toNatClampNeg) x2) 164 38)) + 2).toNatClampNeg) x3) 164 38 (((bm_uI (bm_uI (bm_uI I 168 ((3 * (I 164 38)).toNatClampNeg) x1) 168 (((3 * ((bm_uI I 168 ((3 * (I 164 38)).toNatClampNeg) x1) 164 38)) + 1).toNatClampNeg) x2) 168 (((3 * ((bm_uI (bm_uI I 168 ((3 * (I 164 38)).toNatClampNeg) x1) 168 (((3 * ((bm_uI I 168 ((3 * (I 164 38)).toNatClampNeg) x1) 164 38)) + 1).toNatClampNeg) x2) 164 38)) + 2).toNatClampNeg) x3) 164 38) + 1)) else none) else none) else none)
set_option maxHeartbeats 4000000 in
set_option maxRecDepth 100000 in
theorem c_X12_putCode {lc : bm_L} {d n : Nat} {I : bm_TI} {J : bm_TJ} {R W : bm_TR} {x1 : Int32} {x2 : Int32} {x3 : Int32} {v : bm_TI} (hN : 181 ≤ n) (hR : bm_RR R) (h : f_X12_putCode I x1 x2 x3 = some v) : bm_C lc m_X12_putCode d n n [.ref 164, .int x1, .int x2, .int x3] (I, J, R, W) (fun r M' => r = none ∧ M' = (v, J, R, W)) := by
  refine bm_C.ofV (by decide) (Nat.le_of_ble_eq_true rfl) ?_
  show bm_V lc m_X12_putCode d n n n 0 [(0, .ref 164), (1, .int x1), (2, .int x2), (3, .int x3)] [] (I, J, R, W) _
  unfold f_X12_putCode at h
  refine bv_aload_n dX12_putCode_0 0 rfl ?_
  refine bz_getA (a := 168) hN okL_164 (hR _ _ _ r0_164_8) dX12_putCode_1 fl_12_40 rfl ?_
  refine bv_iconst (v := 3) dX12_putCode_4 (by decide) ?_
  refine bv_aload_n dX12_putCode_5 0 rfl ?_
  refine bz_getI hN okL_164 dX12_putCode_6 fl_12_450 rfl ?_
  refine bv_imul dX12_putCode_9 ?_
  refine bv_iload_n dX12_putCode_10 1 rfl ?_
  obtain ⟨r1, h⟩ := bu_ix h
  refine bz_iast hN rkL_168 r1 rfl dX12_putCode_11 ?_
  refine bv_aload_n dX12_putCode_12 0 rfl ?_
  refine bz_getA (a := 168) hN okL_164 (hR _ _ _ r0_164_8) dX12_putCode_13 fl_12_40 rfl ?_
  refine bv_iconst (v := 3) dX12_putCode_16 (by decide) ?_
  refine bv_aload_n dX12_putCode_17 0 rfl ?_
  refine bz_getI hN okL_164 dX12_putCode_18 fl_12_450 rfl ?_
  refine bv_imul dX12_putCode_21 ?_
  refine bv_iconst (v := 1) dX12_putCode_22 (by decide) ?_
  refine bv_iadd dX12_putCode_23 ?_
  refine bv_iload_n dX12_putCode_24 2 rfl ?_
  obtain ⟨r2, h⟩ := bu_ix h
  refine bz_iast hN rkL_168 r2 rfl dX12_putCode_25 ?_
  refine bv_aload_n dX12_putCode_26 0 rfl ?_
  refine bz_getA (a := 168) hN okL_164 (hR _ _ _ r0_164_8) dX12_putCode_27 fl_12_40 rfl ?_
  refine bv_iconst (v := 3) dX12_putCode_30 (by decide) ?_
  refine bv_aload_n dX12_putCode_31 0 rfl ?_
  refine bz_getI hN okL_164 dX12_putCode_32 fl_12_450 rfl ?_
  refine bv_imul dX12_putCode_35 ?_
  refine bv_iconst (v := 2) dX12_putCode_36 (by decide) ?_
  refine bv_iadd dX12_putCode_37 ?_
  refine bv_iload_n dX12_putCode_38 3 rfl ?_
  obtain ⟨r3, h⟩ := bu_ix h
  refine bz_iast hN rkL_168 r3 rfl dX12_putCode_39 ?_
  refine bv_aload_n dX12_putCode_40 0 rfl ?_
  refine bv_dup dX12_putCode_41 rfl ?_
  refine bz_getI hN okL_164 dX12_putCode_42 fl_12_450 rfl ?_
  refine bv_iconst (v := 1) dX12_putCode_45 (by decide) ?_
  refine bv_iadd dX12_putCode_46 ?_
  refine bz_putI hN okL_164 dX12_putCode_47 fl_12_450 rfl ?_
  obtain rfl := Option.some.inj h
  exact bv_vret dX12_putCode_50 rfl ⟨rfl, rfl⟩
def f_X12_joins_l0 (x1 : Int32) : Nat → bm_TI → Option (bm_TI)
  | 0, _ => none
  | k + 1, I => (if (I 164 40) ≤ 0 then some I else (if bm_ix 45 ((I 164 40) - 1) = true then (if (I 176 ((I 164 40) - 1).toNatClampNeg) = 21 then (if bm_ix 45 ((bm_uI I 164 40 ((I 164 40) - 1)) 164 40) = true then ((f_X12_putCode (bm_uI I 164 40 ((I 164 40) - 1)) ((bm_uI I 164 40 ((I 164 40) - 1)) 176 ((bm_uI I 164 40 ((I 164 40) - 1)) 164 40).toNatClampNeg) 0 0).bind fun v3 => f_X12_joins_l0 x1 k v3) else none) else (if (I 176 ((I 164 40) - 1).toNatClampNeg) = 22 then (if x1 = 22 then (if bm_ix 45 ((bm_uI I 164 40 ((I 164 40) - 1)) 164 40) = true then ((f_X12_putCode (bm_uI I 164 40 ((I 164 40) - 1)) ((bm_uI I 164 40 ((I 164 40) - 1)) 176 ((bm_uI I 164 40 ((I 164 40) - 1)) 164 40).toNatClampNeg) 0 0).bind fun v6 => f_X12_joins_l0 x1 k v6) else none) else some I) else some I)) else none))
set_option maxHeartbeats 4000000 in
set_option maxRecDepth 100000 in
theorem v_X12_joins_l0 {lc : bm_L} {d n : Nat} {Q : Option Value → bm_M → Prop} {R : bm_TR} {J : bm_TJ} {W : bm_TR} {x1 : Int32} (hN : 181 ≤ n) (hR : bm_RR R) : ∀ (k : Nat) (I : bm_TI) (r : bm_TI), f_X12_joins_l0 x1 k I = some r → (∀ yy, yy = r → bm_V lc m_X12_joins (d + 1) n n n 73 [] [] (yy, J, R, W) Q) → bm_V lc m_X12_joins (d + 1) n n n 0 [(0, .ref 164), (1, .int x1)] [] (I, J, R, W) Q := by
  intro k
  induction k with
  | zero => intro I r h; cases (show (none : Option (bm_TI)) = some r from h)
  | succ k ih =>
    intro I r h K0
    unfold f_X12_joins_l0 at h
    refine bv_aload_n dX12_joins_0 0 rfl ?_
    refine bz_getI hN okL_164 dX12_joins_1 fl_12_453 rfl ?_
    refine bv_if_le (tgt := 73) dX12_joins_4 (by decide) (fun cc => ?_) (fun cc => ?_)
    · replace h := bu_t h cc
      refine bw_ls (ls1 := []) [] rfl ?_
      obtain rfl := Option.some.inj h
      exact K0 _ rfl
    · replace h := bu_f h cc
      refine bv_aload_n dX12_joins_7 0 rfl ?_
      refine bz_getA (a := 176) hN okL_164 (hR _ _ _ r0_164_37) dX12_joins_8 fl_12_77 rfl ?_
      refine bv_aload_n dX12_joins_11 0 rfl ?_
      refine bz_getI hN okL_164 dX12_joins_12 fl_12_453 rfl ?_
      refine bv_iconst (v := 1) dX12_joins_15 (by decide) ?_
      refine bv_isub dX12_joins_16 ?_
      obtain ⟨r1, h⟩ := bu_ix h
      refine bz_iald hN rkL_176 r1 rfl dX12_joins_17 ?_
      refine bv_bipush (v := 21) dX12_joins_18 (by decide) ?_
      refine bv_icmp_eq (tgt := 45) dX12_joins_20 (by decide) (fun cc => ?_) (fun cc => ?_)
      · replace h := bu_t h cc
        refine bv_aload_n dX12_joins_45 0 rfl ?_
        refine bv_dup dX12_joins_46 rfl ?_
        refine bz_getI hN okL_164 dX12_joins_47 fl_12_453 rfl ?_
        refine bv_iconst (v := 1) dX12_joins_50 (by decide) ?_
        refine bv_isub dX12_joins_51 ?_
        refine bz_putI hN okL_164 dX12_joins_52 fl_12_453 rfl ?_
        refine bv_aload_n dX12_joins_55 0 rfl ?_
        refine bv_aload_n dX12_joins_56 0 rfl ?_
        refine bz_getA (a := 176) hN okL_164 (hR _ _ _ r0_164_37) dX12_joins_57 fl_12_77 rfl ?_
        refine bv_aload_n dX12_joins_60 0 rfl ?_
        refine bz_getI hN okL_164 dX12_joins_61 fl_12_453 rfl ?_
        obtain ⟨r2, h⟩ := bu_ix h
        refine bz_iald hN rkL_176 r2 rfl dX12_joins_64 ?_
        refine bv_iconst (v := 0) dX12_joins_65 (by decide) ?_
        refine bv_iconst (v := 0) dX12_joins_66 (by decide) ?_
        obtain ⟨v3, p4, h⟩ := bu_bd h
        refine bw_callVv (As := [.int ((bm_uI I 164 40 ((I 164 40) - 1)) 176 ((bm_uI I 164 40 ((I 164 40) - 1)) 164 40).toNatClampNeg), .int 0, .int 0]) hN okL_164 ⟨_, _, rfl⟩ dX12_joins_67 mc_12_456 (c_X12_putCode (d := d + 0) hN hR p4) rfl rfl (by decide) ?_
        refine bv_goto (tgt := 0) dX12_joins_70 (by decide) ?_
        exact ih _ _ h K0
      · replace h := bu_f h cc
        refine bv_aload_n dX12_joins_23 0 rfl ?_
        refine bz_getA (a := 176) hN okL_164 (hR _ _ _ r0_164_37) dX12_joins_24 fl_12_77 rfl ?_
        refine bv_aload_n dX12_joins_27 0 rfl ?_
        refine bz_getI hN okL_164 dX12_joins_28 fl_12_453 rfl ?_
        refine bv_iconst (v := 1) dX12_joins_31 (by decide) ?_
        refine bv_isub dX12_joins_32 ?_
        refine bz_iald hN rkL_176 r1 rfl dX12_joins_33 ?_
        refine bv_bipush (v := 22) dX12_joins_34 (by decide) ?_
        refine bv_icmp_ne (tgt := 73) dX12_joins_36 (by decide) (fun cc => ?_) (fun cc => ?_)
        · replace h := bu_f h cc
          refine bw_ls (ls1 := []) [] rfl ?_
          obtain rfl := Option.some.inj h
          exact K0 _ rfl
        · replace h := bu_t h cc
          refine bv_iload_n dX12_joins_39 1 rfl ?_
          refine bv_bipush (v := 22) dX12_joins_40 (by decide) ?_
          refine bv_icmp_ne (tgt := 73) dX12_joins_42 (by decide) (fun cc => ?_) (fun cc => ?_)
          · replace h := bu_f h cc
            refine bw_ls (ls1 := []) [] rfl ?_
            obtain rfl := Option.some.inj h
            exact K0 _ rfl
          · replace h := bu_t h cc
            refine bv_aload_n dX12_joins_45 0 rfl ?_
            refine bv_dup dX12_joins_46 rfl ?_
            refine bz_getI hN okL_164 dX12_joins_47 fl_12_453 rfl ?_
            refine bv_iconst (v := 1) dX12_joins_50 (by decide) ?_
            refine bv_isub dX12_joins_51 ?_
            refine bz_putI hN okL_164 dX12_joins_52 fl_12_453 rfl ?_
            refine bv_aload_n dX12_joins_55 0 rfl ?_
            refine bv_aload_n dX12_joins_56 0 rfl ?_
            refine bz_getA (a := 176) hN okL_164 (hR _ _ _ r0_164_37) dX12_joins_57 fl_12_77 rfl ?_
            refine bv_aload_n dX12_joins_60 0 rfl ?_
            refine bz_getI hN okL_164 dX12_joins_61 fl_12_453 rfl ?_
            obtain ⟨r5, h⟩ := bu_ix h
            refine bz_iald hN rkL_176 r5 rfl dX12_joins_64 ?_
            refine bv_iconst (v := 0) dX12_joins_65 (by decide) ?_
            refine bv_iconst (v := 0) dX12_joins_66 (by decide) ?_
            obtain ⟨v6, p7, h⟩ := bu_bd h
            refine bw_callVv (As := [.int ((bm_uI I 164 40 ((I 164 40) - 1)) 176 ((bm_uI I 164 40 ((I 164 40) - 1)) 164 40).toNatClampNeg), .int 0, .int 0]) hN okL_164 ⟨_, _, rfl⟩ dX12_joins_67 mc_12_456 (c_X12_putCode (d := d + 0) hN hR p7) rfl rfl (by decide) ?_
            refine bv_goto (tgt := 0) dX12_joins_70 (by decide) ?_
            exact ih _ _ h K0
def f_X12_joins (I : bm_TI) (x1 : Int32) : Option (bm_TI) := ((f_X12_joins_l0 x1 1000 I).bind fun y3 => some y3)
set_option maxHeartbeats 4000000 in
set_option maxRecDepth 100000 in
theorem c_X12_joins {lc : bm_L} {d n : Nat} {I : bm_TI} {J : bm_TJ} {R W : bm_TR} {x1 : Int32} {v : bm_TI} (hN : 181 ≤ n) (hR : bm_RR R) (h : f_X12_joins I x1 = some v) : bm_C lc m_X12_joins (d + 1) n n [.ref 164, .int x1] (I, J, R, W) (fun r M' => r = none ∧ M' = (v, J, R, W)) := by
  refine bm_C.ofV (by decide) (Nat.le_of_ble_eq_true rfl) ?_
  show bm_V lc m_X12_joins (d + 1) n n n 0 [(0, .ref 164), (1, .int x1)] [] (I, J, R, W) _
  unfold f_X12_joins at h
  obtain ⟨r1, p2, h⟩ := bu_bd h
  refine v_X12_joins_l0 hN hR 1000 _ _ p2 (fun y3 hy => ?_)
  · subst hy
    obtain rfl := Option.some.inj h
    exact bv_vret dX12_joins_73 rfl ⟨rfl, rfl⟩
def f_X12_nots_l0 : Nat → bm_TI → Option (bm_TI)
  | 0, _ => none
  | k + 1, I => (if (I 164 40) ≤ 0 then some I else (if bm_ix 45 ((I 164 40) - 1) = true then (if (I 176 ((I 164 40) - 1).toNatClampNeg) = 20 then ((f_X12_putCode (bm_uI (bm_uI I 164 40 ((I 164 40) - 1)) 164 41 (((bm_uI I 164 40 ((I 164 40) - 1)) 164 41) - 1)) 20 0 0).bind fun v2 => f_X12_nots_l0 k v2) else some I) else none))
set_option maxHeartbeats 4000000 in
set_option maxRecDepth 100000 in
theorem v_X12_nots_l0 {lc : bm_L} {d n : Nat} {Q : Option Value → bm_M → Prop} {R : bm_TR} {J : bm_TJ} {W : bm_TR} (hN : 181 ≤ n) (hR : bm_RR R) : ∀ (k : Nat) (I : bm_TI) (r : bm_TI), f_X12_nots_l0 k I = some r → (∀ yy, yy = r → bm_V lc m_X12_nots (d + 1) n n n 54 [] [] (yy, J, R, W) Q) → bm_V lc m_X12_nots (d + 1) n n n 0 [(0, .ref 164)] [] (I, J, R, W) Q := by
  intro k
  induction k with
  | zero => intro I r h; cases (show (none : Option (bm_TI)) = some r from h)
  | succ k ih =>
    intro I r h K0
    unfold f_X12_nots_l0 at h
    refine bv_aload_n dX12_nots_0 0 rfl ?_
    refine bz_getI hN okL_164 dX12_nots_1 fl_12_453 rfl ?_
    refine bv_if_le (tgt := 54) dX12_nots_4 (by decide) (fun cc => ?_) (fun cc => ?_)
    · replace h := bu_t h cc
      refine bw_ls (ls1 := []) [] rfl ?_
      obtain rfl := Option.some.inj h
      exact K0 _ rfl
    · replace h := bu_f h cc
      refine bv_aload_n dX12_nots_7 0 rfl ?_
      refine bz_getA (a := 176) hN okL_164 (hR _ _ _ r0_164_37) dX12_nots_8 fl_12_77 rfl ?_
      refine bv_aload_n dX12_nots_11 0 rfl ?_
      refine bz_getI hN okL_164 dX12_nots_12 fl_12_453 rfl ?_
      refine bv_iconst (v := 1) dX12_nots_15 (by decide) ?_
      refine bv_isub dX12_nots_16 ?_
      obtain ⟨r1, h⟩ := bu_ix h
      refine bz_iald hN rkL_176 r1 rfl dX12_nots_17 ?_
      refine bv_bipush (v := 20) dX12_nots_18 (by decide) ?_
      refine bv_icmp_ne (tgt := 54) dX12_nots_20 (by decide) (fun cc => ?_) (fun cc => ?_)
      · replace h := bu_f h cc
        refine bw_ls (ls1 := []) [] rfl ?_
        obtain rfl := Option.some.inj h
        exact K0 _ rfl
      · replace h := bu_t h cc
        refine bv_aload_n dX12_nots_23 0 rfl ?_
        refine bv_dup dX12_nots_24 rfl ?_
        refine bz_getI hN okL_164 dX12_nots_25 fl_12_453 rfl ?_
        refine bv_iconst (v := 1) dX12_nots_28 (by decide) ?_
        refine bv_isub dX12_nots_29 ?_
        refine bz_putI hN okL_164 dX12_nots_30 fl_12_453 rfl ?_
        refine bv_aload_n dX12_nots_33 0 rfl ?_
        refine bv_dup dX12_nots_34 rfl ?_
        refine bz_getI hN okL_164 dX12_nots_35 fl_12_460 rfl ?_
        refine bv_iconst (v := 1) dX12_nots_38 (by decide) ?_
        refine bv_isub dX12_nots_39 ?_
        refine bz_putI hN okL_164 dX12_nots_40 fl_12_460 rfl ?_
        refine bv_aload_n dX12_nots_43 0 rfl ?_
        refine bv_bipush (v := 20) dX12_nots_44 (by decide) ?_
        refine bv_iconst (v := 0) dX12_nots_46 (by decide) ?_
        refine bv_iconst (v := 0) dX12_nots_47 (by decide) ?_
        obtain ⟨v2, p3, h⟩ := bu_bd h
        refine bw_callVv (As := [.int 20, .int 0, .int 0]) hN okL_164 ⟨_, _, rfl⟩ dX12_nots_48 mc_12_456 (c_X12_putCode (d := d + 0) hN hR p3) rfl rfl (by decide) ?_
        refine bv_goto (tgt := 0) dX12_nots_51 (by decide) ?_
        exact ih _ _ h K0
def f_X12_nots (I : bm_TI) : Option (bm_TI) := ((f_X12_nots_l0 1000 I).bind fun y3 => some y3)
set_option maxHeartbeats 4000000 in
set_option maxRecDepth 100000 in
theorem c_X12_nots {lc : bm_L} {d n : Nat} {I : bm_TI} {J : bm_TJ} {R W : bm_TR} {v : bm_TI} (hN : 181 ≤ n) (hR : bm_RR R) (h : f_X12_nots I = some v) : bm_C lc m_X12_nots (d + 1) n n [.ref 164] (I, J, R, W) (fun r M' => r = none ∧ M' = (v, J, R, W)) := by
  refine bm_C.ofV (by decide) (Nat.le_of_ble_eq_true rfl) ?_
  show bm_V lc m_X12_nots (d + 1) n n n 0 [(0, .ref 164)] [] (I, J, R, W) _
  unfold f_X12_nots at h
  obtain ⟨r1, p2, h⟩ := bu_bd h
  refine v_X12_nots_l0 hN hR 1000 _ _ p2 (fun y3 hy => ?_)
  · subst hy
    obtain rfl := Option.some.inj h
    exact bv_vret dX12_nots_54 rfl ⟨rfl, rfl⟩
def f_X12_leafOf (I : bm_TI) (J : bm_TJ) : Option (Int32) := ((f_X12_isWord I J 107148367717744).bind fun v1 => (if v1 = true then some 0 else ((f_X12_isWord I J 126922448463204).bind fun v3 => (if v3 = true then some 1 else ((f_X12_isWord I J 117026742756708).bind fun v5 => (if v5 = true then some 2 else ((f_X12_isWord I J 1735550329).bind fun v7 => (if v7 = true then some 3 else ((f_X12_isWord I J 1768189029).bind fun v9 => (if v9 = true then some 4 else ((f_X12_isWord I J 504363246962).bind fun v11 => (if v11 = true then some 5 else ((f_X12_isWord I J 1936024947).bind fun v13 => (if v13 = true then some 6 else ((f_X12_isWord I J 6840691).bind fun v15 => (if v15 = true then some 7 else ((f_X12_isWord I J 1651666807).bind fun v17 => (if v17 = true then some 8 else ((f_X12_isWord I J 448377483876).bind fun v19 => (if v19 = true then some 9 else ((f_X12_isWord I J 1819243380).bind fun v21 => (if v21 = true then some 10 else ((f_X12_isWord I J 121450625394034).bind fun v23 => (if v23 = true then some 11 else some (-1)))))))))))))))))))))))))
set_option maxHeartbeats 4000000 in
set_option maxRecDepth 100000 in
theorem c_X12_leafOf {lc : bm_L} {d n : Nat} {I : bm_TI} {J : bm_TJ} {R W : bm_TR} {v : Int32} (hN : 181 ≤ n) (hR : bm_RR R) (h : f_X12_leafOf I J = some v) : bm_C lc m_X12_leafOf (d + 1) n n [.ref 164] (I, J, R, W) (fun r M' => r = some (.int v) ∧ M' = (I, J, R, W)) := by
  refine bm_C.ofV (by decide) (Nat.le_of_ble_eq_true rfl) ?_
  show bm_V lc m_X12_leafOf (d + 1) n n n 0 [(0, .ref 164)] [] (I, J, R, W) _
  unfold f_X12_leafOf at h
  refine bv_aload_n dX12_leafOf_0 0 rfl ?_
  refine bv_ldc2 (v := 107148367717744) dX12_leafOf_1 cst_12_143 ?_
  obtain ⟨v1, p2, h⟩ := bu_bd h
  refine bw_callV (As := [.long 107148367717744]) hN okL_164 ⟨_, _, rfl⟩ dX12_leafOf_4 mc_12_237 (c_X12_isWord (d := d + 0) hN hR p2) rfl rfl (by decide) ?_
  refine bw_ifB_eq (b := v1) (tgt := 14) dX12_leafOf_7 (by decide) (fun cc => ?_) (fun cc => ?_)
  · replace h := bu_bf h cc
    refine bv_aload_n dX12_leafOf_14 0 rfl ?_
    refine bv_ldc2 (v := 126922448463204) dX12_leafOf_15 cst_12_145 ?_
    obtain ⟨v3, p4, h⟩ := bu_bd h
    refine bw_callV (As := [.long 126922448463204]) hN okL_164 ⟨_, _, rfl⟩ dX12_leafOf_18 mc_12_237 (c_X12_isWord (d := d + 0) hN hR p4) rfl rfl (by decide) ?_
    refine bw_ifB_eq (b := v3) (tgt := 28) dX12_leafOf_21 (by decide) (fun cc => ?_) (fun cc => ?_)
    · replace h := bu_bf h cc
      refine bv_aload_n dX12_leafOf_28 0 rfl ?_
      refine bv_ldc2 (v := 117026742756708) dX12_leafOf_29 cst_12_95 ?_
      obtain ⟨v5, p6, h⟩ := bu_bd h
      refine bw_callV (As := [.long 117026742756708]) hN okL_164 ⟨_, _, rfl⟩ dX12_leafOf_32 mc_12_237 (c_X12_isWord (d := d + 0) hN hR p6) rfl rfl (by decide) ?_
      refine bw_ifB_eq (b := v5) (tgt := 42) dX12_leafOf_35 (by decide) (fun cc => ?_) (fun cc => ?_)
      · replace h := bu_bf h cc
        refine bv_aload_n dX12_leafOf_42 0 rfl ?_
        refine bv_ldc2 (v := 1735550329) dX12_leafOf_43 cst_12_97 ?_
        obtain ⟨v7, p8, h⟩ := bu_bd h
        refine bw_callV (As := [.long 1735550329]) hN okL_164 ⟨_, _, rfl⟩ dX12_leafOf_46 mc_12_237 (c_X12_isWord (d := d + 0) hN hR p8) rfl rfl (by decide) ?_
        refine bw_ifB_eq (b := v7) (tgt := 56) dX12_leafOf_49 (by decide) (fun cc => ?_) (fun cc => ?_)
        · replace h := bu_bf h cc
          refine bv_aload_n dX12_leafOf_56 0 rfl ?_
          refine bv_ldc2 (v := 1768189029) dX12_leafOf_57 cst_12_147 ?_
          obtain ⟨v9, p10, h⟩ := bu_bd h
          refine bw_callV (As := [.long 1768189029]) hN okL_164 ⟨_, _, rfl⟩ dX12_leafOf_60 mc_12_237 (c_X12_isWord (d := d + 0) hN hR p10) rfl rfl (by decide) ?_
          refine bw_ifB_eq (b := v9) (tgt := 70) dX12_leafOf_63 (by decide) (fun cc => ?_) (fun cc => ?_)
          · replace h := bu_bf h cc
            refine bv_aload_n dX12_leafOf_70 0 rfl ?_
            refine bv_ldc2 (v := 504363246962) dX12_leafOf_71 cst_12_99 ?_
            obtain ⟨v11, p12, h⟩ := bu_bd h
            refine bw_callV (As := [.long 504363246962]) hN okL_164 ⟨_, _, rfl⟩ dX12_leafOf_74 mc_12_237 (c_X12_isWord (d := d + 0) hN hR p12) rfl rfl (by decide) ?_
            refine bw_ifB_eq (b := v11) (tgt := 84) dX12_leafOf_77 (by decide) (fun cc => ?_) (fun cc => ?_)
            · replace h := bu_bf h cc
              refine bv_aload_n dX12_leafOf_84 0 rfl ?_
              refine bv_ldc2 (v := 1936024947) dX12_leafOf_85 cst_12_149 ?_
              obtain ⟨v13, p14, h⟩ := bu_bd h
              refine bw_callV (As := [.long 1936024947]) hN okL_164 ⟨_, _, rfl⟩ dX12_leafOf_88 mc_12_237 (c_X12_isWord (d := d + 0) hN hR p14) rfl rfl (by decide) ?_
              refine bw_ifB_eq (b := v13) (tgt := 99) dX12_leafOf_91 (by decide) (fun cc => ?_) (fun cc => ?_)
              · replace h := bu_bf h cc
                refine bv_aload_n dX12_leafOf_99 0 rfl ?_
                refine bv_ldc2 (v := 6840691) dX12_leafOf_100 cst_12_151 ?_
                obtain ⟨v15, p16, h⟩ := bu_bd h
                refine bw_callV (As := [.long 6840691]) hN okL_164 ⟨_, _, rfl⟩ dX12_leafOf_103 mc_12_237 (c_X12_isWord (d := d + 0) hN hR p16) rfl rfl (by decide) ?_
                refine bw_ifB_eq (b := v15) (tgt := 114) dX12_leafOf_106 (by decide) (fun cc => ?_) (fun cc => ?_)
                · replace h := bu_bf h cc
                  refine bv_aload_n dX12_leafOf_114 0 rfl ?_
                  refine bv_ldc2 (v := 1651666807) dX12_leafOf_115 cst_12_153 ?_
                  obtain ⟨v17, p18, h⟩ := bu_bd h
                  refine bw_callV (As := [.long 1651666807]) hN okL_164 ⟨_, _, rfl⟩ dX12_leafOf_118 mc_12_237 (c_X12_isWord (d := d + 0) hN hR p18) rfl rfl (by decide) ?_
                  refine bw_ifB_eq (b := v17) (tgt := 129) dX12_leafOf_121 (by decide) (fun cc => ?_) (fun cc => ?_)
                  · replace h := bu_bf h cc
                    refine bv_aload_n dX12_leafOf_129 0 rfl ?_
                    refine bv_ldc2 (v := 448377483876) dX12_leafOf_130 cst_12_155 ?_
                    obtain ⟨v19, p20, h⟩ := bu_bd h
                    refine bw_callV (As := [.long 448377483876]) hN okL_164 ⟨_, _, rfl⟩ dX12_leafOf_133 mc_12_237 (c_X12_isWord (d := d + 0) hN hR p20) rfl rfl (by decide) ?_
                    refine bw_ifB_eq (b := v19) (tgt := 144) dX12_leafOf_136 (by decide) (fun cc => ?_) (fun cc => ?_)
                    · replace h := bu_bf h cc
                      refine bv_aload_n dX12_leafOf_144 0 rfl ?_
                      refine bv_ldc2 (v := 1819243380) dX12_leafOf_145 cst_12_157 ?_
                      obtain ⟨v21, p22, h⟩ := bu_bd h
                      refine bw_callV (As := [.long 1819243380]) hN okL_164 ⟨_, _, rfl⟩ dX12_leafOf_148 mc_12_237 (c_X12_isWord (d := d + 0) hN hR p22) rfl rfl (by decide) ?_
                      refine bw_ifB_eq (b := v21) (tgt := 159) dX12_leafOf_151 (by decide) (fun cc => ?_) (fun cc => ?_)
                      · replace h := bu_bf h cc
                        refine bv_aload_n dX12_leafOf_159 0 rfl ?_
                        refine bv_ldc2 (v := 121450625394034) dX12_leafOf_160 cst_12_159 ?_
                        obtain ⟨v23, p24, h⟩ := bu_bd h
                        refine bw_callV (As := [.long 121450625394034]) hN okL_164 ⟨_, _, rfl⟩ dX12_leafOf_163 mc_12_237 (c_X12_isWord (d := d + 0) hN hR p24) rfl rfl (by decide) ?_
                        refine bw_ifB_eq (b := v23) (tgt := 174) dX12_leafOf_166 (by decide) (fun cc => ?_) (fun cc => ?_)
                        · replace h := bu_bf h cc
                          refine bv_iconst (v := (-1)) dX12_leafOf_174 (by decide) ?_
                          obtain rfl := Option.some.inj h
                          exact bv_iret (x := (-1)) dX12_leafOf_175 rfl ⟨rfl, rfl⟩
                        · replace h := bu_bt h cc
                          refine bv_bipush (v := 11) dX12_leafOf_169 (by decide) ?_
                          refine bv_goto (tgt := 175) dX12_leafOf_171 (by decide) ?_
                          obtain rfl := Option.some.inj h
                          exact bv_iret (x := 11) dX12_leafOf_175 rfl ⟨rfl, rfl⟩
                      · replace h := bu_bt h cc
                        refine bv_bipush (v := 10) dX12_leafOf_154 (by decide) ?_
                        refine bv_goto (tgt := 175) dX12_leafOf_156 (by decide) ?_
                        obtain rfl := Option.some.inj h
                        exact bv_iret (x := 10) dX12_leafOf_175 rfl ⟨rfl, rfl⟩
                    · replace h := bu_bt h cc
                      refine bv_bipush (v := 9) dX12_leafOf_139 (by decide) ?_
                      refine bv_goto (tgt := 175) dX12_leafOf_141 (by decide) ?_
                      obtain rfl := Option.some.inj h
                      exact bv_iret (x := 9) dX12_leafOf_175 rfl ⟨rfl, rfl⟩
                  · replace h := bu_bt h cc
                    refine bv_bipush (v := 8) dX12_leafOf_124 (by decide) ?_
                    refine bv_goto (tgt := 175) dX12_leafOf_126 (by decide) ?_
                    obtain rfl := Option.some.inj h
                    exact bv_iret (x := 8) dX12_leafOf_175 rfl ⟨rfl, rfl⟩
                · replace h := bu_bt h cc
                  refine bv_bipush (v := 7) dX12_leafOf_109 (by decide) ?_
                  refine bv_goto (tgt := 175) dX12_leafOf_111 (by decide) ?_
                  obtain rfl := Option.some.inj h
                  exact bv_iret (x := 7) dX12_leafOf_175 rfl ⟨rfl, rfl⟩
              · replace h := bu_bt h cc
                refine bv_bipush (v := 6) dX12_leafOf_94 (by decide) ?_
                refine bv_goto (tgt := 175) dX12_leafOf_96 (by decide) ?_
                obtain rfl := Option.some.inj h
                exact bv_iret (x := 6) dX12_leafOf_175 rfl ⟨rfl, rfl⟩
            · replace h := bu_bt h cc
              refine bv_iconst (v := 5) dX12_leafOf_80 (by decide) ?_
              refine bv_goto (tgt := 175) dX12_leafOf_81 (by decide) ?_
              obtain rfl := Option.some.inj h
              exact bv_iret (x := 5) dX12_leafOf_175 rfl ⟨rfl, rfl⟩
          · replace h := bu_bt h cc
            refine bv_iconst (v := 4) dX12_leafOf_66 (by decide) ?_
            refine bv_goto (tgt := 175) dX12_leafOf_67 (by decide) ?_
            obtain rfl := Option.some.inj h
            exact bv_iret (x := 4) dX12_leafOf_175 rfl ⟨rfl, rfl⟩
        · replace h := bu_bt h cc
          refine bv_iconst (v := 3) dX12_leafOf_52 (by decide) ?_
          refine bv_goto (tgt := 175) dX12_leafOf_53 (by decide) ?_
          obtain rfl := Option.some.inj h
          exact bv_iret (x := 3) dX12_leafOf_175 rfl ⟨rfl, rfl⟩
      · replace h := bu_bt h cc
        refine bv_iconst (v := 2) dX12_leafOf_38 (by decide) ?_
        refine bv_goto (tgt := 175) dX12_leafOf_39 (by decide) ?_
        obtain rfl := Option.some.inj h
        exact bv_iret (x := 2) dX12_leafOf_175 rfl ⟨rfl, rfl⟩
    · replace h := bu_bt h cc
      refine bv_iconst (v := 1) dX12_leafOf_24 (by decide) ?_
      refine bv_goto (tgt := 175) dX12_leafOf_25 (by decide) ?_
      obtain rfl := Option.some.inj h
      exact bv_iret (x := 1) dX12_leafOf_175 rfl ⟨rfl, rfl⟩
  · replace h := bu_bt h cc
    refine bv_iconst (v := 0) dX12_leafOf_10 (by decide) ?_
    refine bv_goto (tgt := 175) dX12_leafOf_11 (by decide) ?_
    obtain rfl := Option.some.inj h
    exact bv_iret (x := 0) dX12_leafOf_175 rfl ⟨rfl, rfl⟩
def f_X12_operand (I : bm_TI) (J : bm_TJ) : Option (Bool × bm_TI × bm_TJ) := ((f_X12_isWord I J 7237492).bind fun v1 => ((f_X12_isSign I 40).bind fun v3 => ((f_X12_leafOf I J).bind fun v5 => (if v1 = true then (if (I 164 39) = 20 then ((f_X12_bad I 4).bind fun v7 => some (v7.1, v7.2, J)) else (if (I 164 41) ≤ 8 then ((f_X12_next (bm_uI I 164 39 ((I 164 39) + 1)) J).bind fun v9 => (if v1 = true then (if v1 = true then (if bm_ix 45 (v9.1 164 40) = true then some (true, (bm_uI (bm_uI (bm_uI v9.1 176 ((v9.1 164 40).toNatClampNeg) 20) 164 40 (((bm_uI v9.1 176 ((v9.1 164 40).toNatClampNeg) 20) 164 40) + 1)) 164 41 (((bm_uI (bm_uI v9.1 176 ((v9.1 164 40).toNatClampNeg) 20) 164 40 (((bm_uI v9.1 176 ((v9.1 164 40).toNatClampNeg) 20) 164 40) + 1)) 164 41) + 1)), v9.2) else none) else (if bm_ix 45 (v9.1 164 40) = true then some (true, (bm_uI (bm_uI (bm_uI v9.1 176 ((v9.1 164 40).toNatClampNeg) 23) 164 40 (((bm_uI v9.1 176 ((v9.1 164 40).toNatClampNeg) 23) 164 40) + 1)) 164 41 (((bm_uI (bm_uI v9.1 176 ((v9.1 164 40).toNatClampNeg) 23) 164 40 (((bm_uI v9.1 176 ((v9.1 164 40).toNatClampNeg) 23) 164 40) + 1)) 164 41) + 1)), v9.2) else none)) else (if v3 = true then (if v1 = true then (if bm_ix 45 (v9.1 164 40) = true then some (true, (bm_uI (bm_uI (bm_uI v9.1 176 ((v9.1 164 40).toNatClampNeg) 20) 164 40 (((bm_uI v9.1 176 ((v9.1 164 40).toNatClampNeg) 20) 164 40) + 1)) 164 41 (((bm_uI (bm_uI v9.1 176 ((v9.1 164 40).toNatClampNeg) 20) 164 40 (((bm_uI v9.1 176 ((v9.1 164 40).toNatClampNeg) 20) 164 40) + 1)) 164 41) + 1)), v9.2) else none) else (if bm_ix 45 (v9.1 164 40) = true then some (true, (bm_uI (bm_uI (bm_uI v9.1 176 ((v9.1 164 40).toNatClampNeg) 23) 164 40 (((bm_uI v9.1 176 ((v9.1 164 40).toNatClampNeg) 23) 164 40) + 1)) 164 41 (((bm_uI (bm_uI v9.1 176 ((v9.1 164 40).toNatClampNeg) 23) 164 40 (((bm_uI v9.1 176 ((v9.1 164 40).toNatClampNeg) 23) 164 40) + 1)) 164 41) + 1)), v9.2) else none)) else (if 5 ≤ v5 then (if 8 ≤ v5 then (if ((bm_uI v9.1 164 42 (bm_bi true)) 164 11) = 3 then (if ((bm_uI v9.1 164 42 (bm_bi true)) 164 14) < 60 then ((f_X12_bad (bm_uI v9.1 164 42 (bm_bi true)) 1).bind fun v15 => some (v15.1, v15.2, v9.2)) else (if ((bm_uI v9.1 164 42 (bm_bi true)) 164 14) ≤ 62 then ((f_X12_next (bm_uI v9.1 164 42 (bm_bi true)) v9.2).bind fun v17 => (if (v17.1 164 11) = 2 then ((f_X12_putCode v17.1 v5 ((bm_uI v9.1 164 42 (bm_bi true)) 164 14) (v17.1 164 14)).bind fun v19 => ((f_X12_next v19 v17.2).bind fun v21 => some (true, v21.1, v21.2))) else ((f_X12_bad v17.1 1).bind fun v23 => some (v23.1, v23.2, v17.2)))) else ((f_X12_bad (bm_uI v9.1 164 42 (bm_bi true)) 1).bind fun v25 => some (v25.1, v25.2, v9.2)))) else ((f_X12_bad (bm_uI v9.1 164 42 (bm_bi true)) 1).bind fun v13 => some (v13.1, v13.2, v9.2))) else (if 7 ≤ v5 then ((f_X12_looksAt (bm_uI v9.1 164 42 (bm_bi true)) v9.2 8 ((bm_uI v9.1 164 42 (bm_bi true)) 166 1)).bind fun v27 => (if v27.1 = true then ((f_X12_putCode v27.2 v5 0 (v27.2 164 18)).bind fun v29 => ((f_X12_next v29 v9.2).bind fun v31 => some (true, v31.1, v31.2))) else some (false, v27.2, v9.2))) else ((f_X12_looksAt (bm_uI v9.1 164 42 (bm_bi true)) v9.2 0 ((bm_uI v9.1 164 42 (bm_bi true)) 166 0)).bind fun v33 => (if v33.1 = true then ((f_X12_putCode v33.2 v5 0 (v33.2 164 18)).bind fun v35 => ((f_X12_next v35 v9.2).bind fun v37 => some (true, v37.1, v37.2))) else some (false, v33.2, v9.2))))) else ((f_X12_putCode (bm_uI v9.1 164 42 (bm_bi true)) v5 0 0).bind fun v39 => some (true, v39, v9.2)))))) else ((f_X12_bad I 4).bind fun v43 => some (v43.1, v43.2, J)))) else (if v3 = true then (if (I 164 39) = 20 then ((f_X12_bad I 4).bind fun v45 => some (v45.1, v45.2, J)) else (if (I 164 41) ≤ 8 then ((f_X12_next (bm_uI I 164 39 ((I 164 39) + 1)) J).bind fun v47 => (if v1 = true then (if v1 = true then (if bm_ix 45 (v47.1 164 40) = true then some (true, (bm_uI (bm_uI (bm_uI v47.1 176 ((v47.1 164 40).toNatClampNeg) 20) 164 40 (((bm_uI v47.1 176 ((v47.1 164 40).toNatClampNeg) 20) 164 40) + 1)) 164 41 (((bm_uI (bm_uI v47.1 176 ((v47.1 164 40).toNatClampNeg) 20) 164 40 (((bm_uI v47.1 176 ((v47.1 164 40).toNatClampNeg) 20) 164 40) + 1)) 164 41) + 1)), v47.2) else none) else (if bm_ix 45 (v47.1 164 40) = true then some (true, (bm_uI (bm_uI (bm_uI v47.1 176 ((v47.1 164 40).toNatClampNeg) 23) 164 40 (((bm_uI v47.1 176 ((v47.1 164 40).toNatClampNeg) 23) 164 40) + 1)) 164 41 (((bm_uI (bm_uI v47.1 176 ((v47.1 164 40).toNatClampNeg) 23) 164 40 (((bm_uI v47.1 176 ((v47.1 164 40).toNatClampNeg) 23) 164 40) + 1)) 164 41) + 1)), v47.2) else none)) else (if v3 = true then (if v1 = true then (if bm_ix 45 (v47.1 164 40) = true then some (true, (bm_uI (bm_uI (bm_uI v47.1 176 ((v47.1 164 40).toNatClampNeg) 20) 164 40 (((bm_uI v47.1 176 ((v47.1 164 40).toNatClampNeg) 20) 164 40) + 1)) 164 41 (((bm_uI (bm_uI v47.1 176 ((v47.1 164 40).toNatClampNeg) 20) 164 40 (((bm_uI v47.1 176 ((v47.1 164 40).toNatClampNeg) 20) 164 40) + 1)) 164 41) + 1)), v47.2) else none) else (if bm_ix 45 (v47.1 164 40) = true then some (true, (bm_uI (bm_uI (bm_uI v47.1 176 ((v47.1 164 40).toNatClampNeg) 23) 164 40 (((bm_uI v47.1 176 ((v47.1 164 40).toNatClampNeg) 23) 164 40) + 1)) 164 41 (((bm_uI (bm_uI v47.1 176 ((v47.1 164 40).toNatClampNeg) 23) 164 40 (((bm_uI v47.1 176 ((v47.1 164 40).toNatClampNeg) 23) 164 40) + 1)) 164 41) + 1)), v47.2) else none)) else (if 5 ≤ v5 then (if 8 ≤ v5 then (if ((bm_uI v47.1 164 42 (bm_bi true)) 164 11) = 3 then (if ((bm_uI v47.1 164 42 (bm_bi true)) 164 14) < 60 then ((f_X12_bad (bm_uI v47.1 164 42 (bm_bi true)) 1).bind fun v53 => some (v53.1, v53.2, v47.2)) else (if ((bm_uI v47.1 164 42 (bm_bi true)) 164 14) ≤ 62 then ((f_X12_next (bm_uI v47.1 164 42 (bm_bi true)) v47.2).bind fun v55 => (if (v55.1 164 11) = 2 then ((f_X12_putCode v55.1 v5 ((bm_uI v47.1 164 42 (bm_bi true)) 164 14) (v55.1 164 14)).bind fun v57 => ((f_X12_next v57 v55.2).bind fun v59 => some (true, v59.1, v59.2))) else ((f_X12_bad v55.1 1).bind fun v61 => some (v61.1, v61.2, v55.2)))) else ((f_X12_bad (bm_uI v47.1 164 42 (bm_bi true)) 1).bind fun v63 => some (v63.1, v63.2, v47.2)))) else ((f_X12_bad (bm_uI v47.1 164 42 (bm_bi true)) 1).bind fun v51 => some (v51.1, v51.2, v47.2))) else (if 7 ≤ v5 then ((f_X12_looksAt (bm_uI v47.1 164 42 (bm_bi true)) v47.2 8 ((bm_uI v47.1 164 42 (bm_bi true)) 166 1)).bind fun v65 => (if v65.1 = true then ((f_X12_putCode v65.2 v5 0 (v65.2 164 18)).bind fun v67 => ((f_X12_next v67 v47.2).bind fun v69 => some (true, v69.1, v69.2))) else some (false, v65.2, v47.2))) else ((f_X12_looksAt (bm_uI v47.1 164 42 (bm_bi true)) v47.2 0 ((bm_uI v47.1 164 42 (bm_bi true)) 166 0)).bind fun v71 => (if v71.1 = true then ((f_X12_putCode v71.2 v5 0 (v71.2 164 18)).bind fun v73 => ((f_X12_next v73 v47.2).bind fun v75 => some (true, v75.1, v75.2))) else some (false, v71.2, v47.2))))) else ((f_X12_putCode (bm_uI v47.1 164 42 (bm_bi true)) v5 0 0).bind fun v77 => some (true, v77, v47.2)))))) else ((f_X12_bad I 4).bind fun v81 => some (v81.1, v81.2, J)))) else (if 0 ≤ v5 then (if (I 164 39) = 20 then ((f_X12_bad I 4).bind fun v83 => some (v83.1, v83.2, J)) else (if (I 164 41) ≤ 8 then ((f_X12_next (bm_uI I 164 39 ((I 164 39) + 1)) J).bind fun v85 => (if v1 = true then (if v1 = true then (if bm_ix 45 (v85.1 164 40) = true then some (true, (bm_uI (bm_uI (bm_uI v85.1 176 ((v85.1 164 40).toNatClampNeg) 20) 164 40 (((bm_uI v85.1 176 ((v85.1 164 40).toNatClampNeg) 20) 164 40) + 1)) 164 41 (((bm_uI (bm_uI v85.1 176 ((v85.1 164 40).toNatClampNeg) 20) 164 40 (((bm_uI v85.1 176 ((v85.1 164 40).toNatClampNeg) 20) 164 40) + 1)) 164 41) + 1)), v85.2) else none) else (if bm_ix 45 (v85.1 164 40) = true then some (true, (bm_uI (bm_uI (bm_uI v85.1 176 ((v85.1 164 40).toNatClampNeg) 23) 164 40 (((bm_uI v85.1 176 ((v85.1 164 40).toNatClampNeg) 23) 164 40) + 1)) 164 41 (((bm_uI (bm_uI v85.1 176 ((v85.1 164 40).toNatClampNeg) 23) 164 40 (((bm_uI v85.1 176 ((v85.1 164 40).toNatClampNeg) 23) 164 40) + 1)) 164 41) + 1)), v85.2) else none)) else (if v3 = true then (if v1 = true then (if bm_ix 45 (v85.1 164 40) = true then some (true, (bm_uI (bm_uI (bm_uI v85.1 176 ((v85.1 164 40).toNatClampNeg) 20) 164 40 (((bm_uI v85.1 176 ((v85.1 164 40).toNatClampNeg) 20) 164 40) + 1)) 164 41 (((bm_uI (bm_uI v85.1 176 ((v85.1 164 40).toNatClampNeg) 20) 164 40 (((bm_uI v85.1 176 ((v85.1 164 40).toNatClampNeg) 20) 164 40) + 1)) 164 41) + 1)), v85.2) else none) else (if bm_ix 45 (v85.1 164 40) = true then some (true, (bm_uI (bm_uI (bm_uI v85.1 176 ((v85.1 164 40).toNatClampNeg) 23) 164 40 (((bm_uI v85.1 176 ((v85.1 164 40).toNatClampNeg) 23) 164 40) + 1)) 164 41 (((bm_uI (bm_uI v85.1 176 ((v85.1 164 40).toNatClampNeg) 23) 164 40 (((bm_uI v85.1 176 ((v85.1 164 40).toNatClampNeg) 23) 164 40) + 1)) 164 41) + 1)), v85.2) else none)) else (if 5 ≤ v5 then (if 8 ≤ v5 then (if ((bm_uI v85.1 164 42 (bm_bi true)) 164 11) = 3 then (if ((bm_uI v85.1 164 42 (bm_bi true)) 164 14) < 60 then ((f_X12_bad (bm_uI v85.1 164 42 (bm_bi true)) 1).bind fun v91 => some (v91.1, v91.2, v85.2)) else (if ((bm_uI v85.1 164 42 (bm_bi true)) 164 14) ≤ 62 then ((f_X12_next (bm_uI v85.1 164 42 (bm_bi true)) v85.2).bind fun v93 => (if (v93.1 164 11) = 2 then ((f_X12_putCode v93.1 v5 ((bm_uI v85.1 164 42 (bm_bi true)) 164 14) (v93.1 164 14)).bind fun v95 => ((f_X12_next v95 v93.2).bind fun v97 => some (true, v97.1, v97.2))) else ((f_X12_bad v93.1 1).bind fun v99 => some (v99.1, v99.2, v93.2)))) else ((f_X12_bad (bm_uI v85.1 164 42 (bm_bi true)) 1).bind fun v101 => some (v101.1, v101.2, v85.2)))) else ((f_X12_bad (bm_uI v85.1 164 42 (bm_bi true)) 1).bind fun v89 => some (v89.1, v89.2, v85.2))) else (if 7 ≤ v5 then ((f_X12_looksAt (bm_uI v85.1 164 42 (bm_bi true)) v85.2 8 ((bm_uI v85.1 164 42 (bm_bi true)) 166 1)).bind fun v103 => (if v103.1 = true then ((f_X12_putCode v103.2 v5 0 (v103.2 164 18)).bind fun v105 => ((f_X12_next v105 v85.2).bind fun v107 => some (true, v107.1, v107.2))) else some (false, v103.2, v85.2))) else ((f_X12_looksAt (bm_uI v85.1 164 42 (bm_bi true)) v85.2 0 ((bm_uI v85.1 164 42 (bm_bi true)) 166 0)).bind fun v109 => (if v109.1 = true then ((f_X12_putCode v109.2 v5 0 (v109.2 164 18)).bind fun v111 => ((f_X12_next v111 v85.2).bind fun v113 => some (true, v113.1, v113.2))) else some (false, v109.2, v85.2))))) else ((f_X12_putCode (bm_uI v85.1 164 42 (bm_bi true)) v5 0 0).bind fun v115 => some (true, v115, v85.2)))))) else ((f_X12_bad I 4).bind fun v119 => some (v119.1, v119.2, J)))) else ((f_X12_bad I 1).bind fun v121 => some (v121.1, v121.2, J))))))))
set_option maxHeartbeats 4000000 in
set_option maxRecDepth 100000 in
theorem c_X12_operand {lc : bm_L} {d n : Nat} {I : bm_TI} {J : bm_TJ} {R W : bm_TR} {v : Bool × bm_TI × bm_TJ} (hN : 181 ≤ n) (hR : bm_RR R) (h : f_X12_operand I J = some v) : bm_C lc m_X12_operand (d + 2) n n [.ref 164] (I, J, R, W) (fun r M' => r = some (.int (bm_bi v.1)) ∧ M' = (v.2.1, v.2.2, R, W)) := by
  refine bm_C.ofV (by decide) (Nat.le_of_ble_eq_true rfl) ?_
  show bm_V lc m_X12_operand (d + 2) n n n 0 [(0, .ref 164)] [] (I, J, R, W) _
  unfold f_X12_operand at h
  refine bv_aload_n dX12_operand_0 0 rfl ?_
  refine bv_ldc2 (v := 7237492) dX12_operand_1 cst_12_141 ?_
  obtain ⟨v1, p2, h⟩ := bu_bd h
  refine bw_callV (As := [.long 7237492]) hN okL_164 ⟨_, _, rfl⟩ dX12_operand_4 mc_12_237 (c_X12_isWord (d := d + 1) hN hR p2) rfl rfl (by decide) ?_
  refine bv_istore_n (ls1 := [(0, .ref 164), (1, .int (bm_bi v1))]) dX12_operand_7 (by decide) rfl rfl ?_
  refine bv_aload_n dX12_operand_8 0 rfl ?_
  refine bv_bipush (v := 40) dX12_operand_9 (by decide) ?_
  obtain ⟨v3, p4, h⟩ := bu_bd h
  refine bw_callV (As := [.int 40]) hN okL_164 ⟨_, _, rfl⟩ dX12_operand_11 mc_12_197 (c_X12_isSign (d := d + 1) hN hR p4) rfl rfl (by decide) ?_
  refine bv_istore_n (ls1 := [(0, .ref 164), (1, .int (bm_bi v1)), (2, .int (bm_bi v3))]) dX12_operand_14 (by decide) rfl rfl ?_
  refine bv_aload_n dX12_operand_15 0 rfl ?_
  obtain ⟨v5, p6, h⟩ := bu_bd h
  refine bw_callV (As := []) hN okL_164 ⟨_, _, rfl⟩ dX12_operand_16 mc_12_463 (c_X12_leafOf (d := d + 0) hN hR p6) rfl rfl (by decide) ?_
  refine bv_istore_n (ls1 := [(0, .ref 164), (1, .int (bm_bi v1)), (2, .int (bm_bi v3)), (3, .int v5)]) dX12_operand_19 (by decide) rfl rfl ?_
  refine bv_iload_n dX12_operand_20 1 rfl ?_
  refine bw_ifB_ne (b := v1) (tgt := 38) dX12_operand_21 (by decide) (fun cc => ?_) (fun cc => ?_)
  · replace h := bu_bt h cc
    refine bv_aload_n dX12_operand_38 0 rfl ?_
    refine bz_getI hN okL_164 dX12_operand_39 fl_12_466 rfl ?_
    refine bv_bipush (v := 20) dX12_operand_42 (by decide) ?_
    refine bv_icmp_eq (tgt := 56) dX12_operand_44 (by decide) (fun cc => ?_) (fun cc => ?_)
    · replace h := bu_t h cc
      refine bv_aload_n dX12_operand_56 0 rfl ?_
      refine bv_iconst (v := 4) dX12_operand_57 (by decide) ?_
      obtain ⟨v7, p8, h⟩ := bu_bd h
      refine bw_callV (As := [.int 4]) hN okL_164 ⟨_, _, rfl⟩ dX12_operand_58 mc_12_200 (c_X12_bad (d := d + 1) hN hR p8) rfl rfl (by decide) ?_
      obtain rfl := Option.some.inj h
      exact bw_bret (b := v7.1) dX12_operand_61 rfl ⟨rfl, rfl⟩
    · replace h := bu_f h cc
      refine bv_aload_n dX12_operand_47 0 rfl ?_
      refine bz_getI hN okL_164 dX12_operand_48 fl_12_460 rfl ?_
      refine bv_bipush (v := 8) dX12_operand_51 (by decide) ?_
      refine bv_icmp_le (tgt := 62) dX12_operand_53 (by decide) (fun cc => ?_) (fun cc => ?_)
      · replace h := bu_t h cc
        refine bv_aload_n dX12_operand_62 0 rfl ?_
        refine bv_dup dX12_operand_63 rfl ?_
        refine bz_getI hN okL_164 dX12_operand_64 fl_12_466 rfl ?_
        refine bv_iconst (v := 1) dX12_operand_67 (by decide) ?_
        refine bv_iadd dX12_operand_68 ?_
        refine bz_putI hN okL_164 dX12_operand_69 fl_12_466 rfl ?_
        refine bv_aload_n dX12_operand_72 0 rfl ?_
        obtain ⟨v9, p10, h⟩ := bu_bd h
        refine bw_callVv (As := []) hN okL_164 ⟨_, _, rfl⟩ dX12_operand_73 mc_12_203 (c_X12_next (d := d + 0) hN hR p10) rfl rfl (by decide) ?_
        refine bv_iload_n dX12_operand_76 1 rfl ?_
        refine bw_ifB_ne (b := v1) (tgt := 84) dX12_operand_77 (by decide) (fun cc => ?_) (fun cc => ?_)
        · replace h := bu_bt h cc
          refine bv_aload_n dX12_operand_84 0 rfl ?_
          refine bz_getA (a := 176) hN okL_164 (hR _ _ _ r0_164_37) dX12_operand_85 fl_12_77 rfl ?_
          refine bv_aload_n dX12_operand_88 0 rfl ?_
          refine bz_getI hN okL_164 dX12_operand_89 fl_12_453 rfl ?_
          refine bv_iload_n dX12_operand_92 1 rfl ?_
          refine bw_ifB_eq (b := v1) (tgt := 101) dX12_operand_93 (by decide) (fun cc => ?_) (fun cc => ?_)
          · replace h := bu_bf h cc
            refine bv_bipush (v := 23) dX12_operand_101 (by decide) ?_
            obtain ⟨r11, h⟩ := bu_ix h
            refine bz_iast hN rkL_176 r11 rfl dX12_operand_103 ?_
            refine bv_aload_n dX12_operand_104 0 rfl ?_
            refine bv_dup dX12_operand_105 rfl ?_
            refine bz_getI hN okL_164 dX12_operand_106 fl_12_453 rfl ?_
            refine bv_iconst (v := 1) dX12_operand_109 (by decide) ?_
            refine bv_iadd dX12_operand_110 ?_
            refine bz_putI hN okL_164 dX12_operand_111 fl_12_453 rfl ?_
            refine bv_aload_n dX12_operand_114 0 rfl ?_
            refine bv_dup dX12_operand_115 rfl ?_
            refine bz_getI hN okL_164 dX12_operand_116 fl_12_460 rfl ?_
            refine bv_iconst (v := 1) dX12_operand_119 (by decide) ?_
            refine bv_iadd dX12_operand_120 ?_
            refine bz_putI hN okL_164 dX12_operand_121 fl_12_460 rfl ?_
            refine bv_iconst (v := 1) dX12_operand_124 (by decide) ?_
            obtain rfl := Option.some.inj h
            exact bw_bret (b := true) dX12_operand_125 rfl ⟨rfl, rfl⟩
          · replace h := bu_bt h cc
            refine bv_bipush (v := 20) dX12_operand_96 (by decide) ?_
            refine bv_goto (tgt := 103) dX12_operand_98 (by decide) ?_
            obtain ⟨r12, h⟩ := bu_ix h
            refine bz_iast hN rkL_176 r12 rfl dX12_operand_103 ?_
            refine bv_aload_n dX12_operand_104 0 rfl ?_
            refine bv_dup dX12_operand_105 rfl ?_
            refine bz_getI hN okL_164 dX12_operand_106 fl_12_453 rfl ?_
            refine bv_iconst (v := 1) dX12_operand_109 (by decide) ?_
            refine bv_iadd dX12_operand_110 ?_
            refine bz_putI hN okL_164 dX12_operand_111 fl_12_453 rfl ?_
            refine bv_aload_n dX12_operand_114 0 rfl ?_
            refine bv_dup dX12_operand_115 rfl ?_
            refine bz_getI hN okL_164 dX12_operand_116 fl_12_460 rfl ?_
            refine bv_iconst (v := 1) dX12_operand_119 (by decide) ?_
            refine bv_iadd dX12_operand_120 ?_
            refine bz_putI hN okL_164 dX12_operand_121 fl_12_460 rfl ?_
            refine bv_iconst (v := 1) dX12_operand_124 (by decide) ?_
            obtain rfl := Option.some.inj h
            exact bw_bret (b := true) dX12_operand_125 rfl ⟨rfl, rfl⟩
        · replace h := bu_bf h cc
          refine bv_iload_n dX12_operand_80 2 rfl ?_
          refine bw_ifB_eq (b := v3) (tgt := 126) dX12_operand_81 (by decide) (fun cc => ?_) (fun cc => ?_)
          · replace h := bu_bf h cc
            refine bv_aload_n dX12_operand_126 0 rfl ?_
            refine bv_iconst (v := 1) dX12_operand_127 (by decide) ?_
            refine bz_putB (v := true) hN okL_164 dX12_operand_128 fl_12_469 rfl ?_
            refine bv_iload_n dX12_operand_131 3 rfl ?_
            refine bv_iconst (v := 5) dX12_operand_132 (by decide) ?_
            refine bv_icmp_ge (tgt := 145) dX12_operand_133 (by decide) (fun cc => ?_) (fun cc => ?_)
            · replace h := bu_t h cc
              refine bv_iload_n dX12_operand_145 3 rfl ?_
              refine bv_bipush (v := 8) dX12_operand_146 (by decide) ?_
              refine bv_icmp_ge (tgt := 208) dX12_operand_148 (by decide) (fun cc => ?_) (fun cc => ?_)
              · replace h := bu_t h cc
                refine bv_aload_n dX12_operand_208 0 rfl ?_
                refine bz_getI hN okL_164 dX12_operand_209 fl_12_174 rfl ?_
                refine bv_iconst (v := 3) dX12_operand_212 (by decide) ?_
                refine bv_icmp_ne (tgt := 234) dX12_operand_213 (by decide) (fun cc => ?_) (fun cc => ?_)
                · replace h := bu_f h cc
                  refine bv_aload_n dX12_operand_234 0 rfl ?_
                  refine bv_iconst (v := 1) dX12_operand_235 (by decide) ?_
                  obtain ⟨v13, p14, h⟩ := bu_bd h
                  refine bw_callV (As := [.int 1]) hN okL_164 ⟨_, _, rfl⟩ dX12_operand_236 mc_12_200 (c_X12_bad (d := d + 1) hN hR p14) rfl rfl (by decide) ?_
                  obtain rfl := Option.some.inj h
                  exact bw_bret (b := v13.1) dX12_operand_239 rfl ⟨rfl, rfl⟩
                · replace h := bu_t h cc
                  refine bv_aload_n dX12_operand_216 0 rfl ?_
                  refine bz_getI hN okL_164 dX12_operand_217 fl_12_184 rfl ?_
                  refine bv_bipush (v := 60) dX12_operand_220 (by decide) ?_
                  refine bv_icmp_lt (tgt := 234) dX12_operand_222 (by decide) (fun cc => ?_) (fun cc => ?_)
                  · replace h := bu_t h cc
                    refine bv_aload_n dX12_operand_234 0 rfl ?_
                    refine bv_iconst (v := 1) dX12_operand_235 (by decide) ?_
                    obtain ⟨v15, p16, h⟩ := bu_bd h
                    refine bw_callV (As := [.int 1]) hN okL_164 ⟨_, _, rfl⟩ dX12_operand_236 mc_12_200 (c_X12_bad (d := d + 1) hN hR p16) rfl rfl (by decide) ?_
                    obtain rfl := Option.some.inj h
                    exact bw_bret (b := v15.1) dX12_operand_239 rfl ⟨rfl, rfl⟩
                  · replace h := bu_f h cc
                    refine bv_aload_n dX12_operand_225 0 rfl ?_
                    refine bz_getI hN okL_164 dX12_operand_226 fl_12_184 rfl ?_
                    refine bv_bipush (v := 62) dX12_operand_229 (by decide) ?_
                    refine bv_icmp_le (tgt := 240) dX12_operand_231 (by decide) (fun cc => ?_) (fun cc => ?_)
                    · replace h := bu_t h cc
                      refine bv_aload_n dX12_operand_240 0 rfl ?_
                      refine bz_getI hN okL_164 dX12_operand_241 fl_12_184 rfl ?_
                      refine bv_istore (ls1 := [(0, .ref 164), (1, .int (bm_bi v1)), (2, .int (bm_bi v3)), (3, .int v5), (4, .int ((bm_uI v9.1 164 42 (bm_bi true)) 164 14))]) dX12_operand_244 (by decide) rfl rfl ?_
                      refine bv_aload_n dX12_operand_246 0 rfl ?_
                      obtain ⟨v17, p18, h⟩ := bu_bd h
                      refine bw_callVv (As := []) hN okL_164 ⟨_, _, rfl⟩ dX12_operand_247 mc_12_203 (c_X12_next (d := d + 0) hN hR p18) rfl rfl (by decide) ?_
                      refine bv_aload_n dX12_operand_250 0 rfl ?_
                      refine bz_getI hN okL_164 dX12_operand_251 fl_12_174 rfl ?_
                      refine bv_iconst (v := 2) dX12_operand_254 (by decide) ?_
                      refine bv_icmp_eq (tgt := 264) dX12_operand_255 (by decide) (fun cc => ?_) (fun cc => ?_)
                      · replace h := bu_t h cc
                        refine bv_aload_n dX12_operand_264 0 rfl ?_
                        refine bv_iload_n dX12_operand_265 3 rfl ?_
                        refine bv_iload dX12_operand_266 4 rfl ?_
                        refine bv_aload_n dX12_operand_268 0 rfl ?_
                        refine bz_getI hN okL_164 dX12_operand_269 fl_12_184 rfl ?_
                        obtain ⟨v19, p20, h⟩ := bu_bd h
                        refine bw_callVv (As := [.int v5, .int ((bm_uI v9.1 164 42 (bm_bi true)) 164 14), .int (v17.1 164 14)]) hN okL_164 ⟨_, _, rfl⟩ dX12_operand_272 mc_12_456 (c_X12_putCode (d := d + 1) hN hR p20) rfl rfl (by decide) ?_
                        refine bv_aload_n dX12_operand_275 0 rfl ?_
                        obtain ⟨v21, p22, h⟩ := bu_bd h
                        refine bw_callVv (As := []) hN okL_164 ⟨_, _, rfl⟩ dX12_operand_276 mc_12_203 (c_X12_next (d := d + 0) hN hR p22) rfl rfl (by decide) ?_
                        refine bv_iconst (v := 1) dX12_operand_279 (by decide) ?_
                        obtain rfl := Option.some.inj h
                        exact bw_bret (b := true) dX12_operand_280 rfl ⟨rfl, rfl⟩
                      · replace h := bu_f h cc
                        refine bv_aload_n dX12_operand_258 0 rfl ?_
                        refine bv_iconst (v := 1) dX12_operand_259 (by decide) ?_
                        obtain ⟨v23, p24, h⟩ := bu_bd h
                        refine bw_callV (As := [.int 1]) hN okL_164 ⟨_, _, rfl⟩ dX12_operand_260 mc_12_200 (c_X12_bad (d := d + 1) hN hR p24) rfl rfl (by decide) ?_
                        obtain rfl := Option.some.inj h
                        exact bw_bret (b := v23.1) dX12_operand_263 rfl ⟨rfl, rfl⟩
                    · replace h := bu_f h cc
                      refine bv_aload_n dX12_operand_234 0 rfl ?_
                      refine bv_iconst (v := 1) dX12_operand_235 (by decide) ?_
                      obtain ⟨v25, p26, h⟩ := bu_bd h
                      refine bw_callV (As := [.int 1]) hN okL_164 ⟨_, _, rfl⟩ dX12_operand_236 mc_12_200 (c_X12_bad (d := d + 1) hN hR p26) rfl rfl (by decide) ?_
                      obtain rfl := Option.some.inj h
                      exact bw_bret (b := v25.1) dX12_operand_239 rfl ⟨rfl, rfl⟩
              · replace h := bu_f h cc
                refine bv_iload_n dX12_operand_151 3 rfl ?_
                refine bv_bipush (v := 7) dX12_operand_152 (by decide) ?_
                refine bv_icmp_ge (tgt := 171) dX12_operand_154 (by decide) (fun cc => ?_) (fun cc => ?_)
                · replace h := bu_t h cc
                  refine bv_aload_n dX12_operand_171 0 rfl ?_
                  refine bv_bipush (v := 8) dX12_operand_172 (by decide) ?_
                  refine bv_aload_n dX12_operand_174 0 rfl ?_
                  refine bz_getA (a := 166) hN okL_164 (hR _ _ _ r0_164_6) dX12_operand_175 fl_12_33 rfl ?_
                  refine bv_iconst (v := 1) dX12_operand_178 (by decide) ?_
                  refine bz_iald (j := 1) hN rkL_166 (bm_ix_in (by decide)) (by decide) dX12_operand_179 ?_
                  obtain ⟨v27, p28, h⟩ := bu_bd h
                  refine bw_callV (As := [.int 8, .int ((bm_uI v9.1 164 42 (bm_bi true)) 166 1)]) hN okL_164 ⟨_, _, rfl⟩ dX12_operand_180 mc_12_225 (c_X12_looksAt (d := d + 0) hN hR p28) rfl rfl (by decide) ?_
                  refine bv_istore (ls1 := [(0, .ref 164), (1, .int (bm_bi v1)), (2, .int (bm_bi v3)), (3, .int v5), (4, .int (bm_bi v27.1))]) dX12_operand_183 (by decide) rfl rfl ?_
                  refine bv_iload dX12_operand_185 4 rfl ?_
                  refine bw_ifB_ne (b := v27.1) (tgt := 192) dX12_operand_187 (by decide) (fun cc => ?_) (fun cc => ?_)
                  · replace h := bu_bt h cc
                    refine bv_aload_n dX12_operand_192 0 rfl ?_
                    refine bv_iload_n dX12_operand_193 3 rfl ?_
                    refine bv_iconst (v := 0) dX12_operand_194 (by decide) ?_
                    refine bv_aload_n dX12_operand_195 0 rfl ?_
                    refine bz_getI hN okL_164 dX12_operand_196 fl_12_210 rfl ?_
                    obtain ⟨v29, p30, h⟩ := bu_bd h
                    refine bw_callVv (As := [.int v5, .int 0, .int (v27.2 164 18)]) hN okL_164 ⟨_, _, rfl⟩ dX12_operand_199 mc_12_456 (c_X12_putCode (d := d + 1) hN hR p30) rfl rfl (by decide) ?_
                    refine bv_aload_n dX12_operand_202 0 rfl ?_
                    obtain ⟨v31, p32, h⟩ := bu_bd h
                    refine bw_callVv (As := []) hN okL_164 ⟨_, _, rfl⟩ dX12_operand_203 mc_12_203 (c_X12_next (d := d + 0) hN hR p32) rfl rfl (by decide) ?_
                    refine bv_iconst (v := 1) dX12_operand_206 (by decide) ?_
                    obtain rfl := Option.some.inj h
                    exact bw_bret (b := true) dX12_operand_207 rfl ⟨rfl, rfl⟩
                  · replace h := bu_bf h cc
                    refine bv_iconst (v := 0) dX12_operand_190 (by decide) ?_
                    obtain rfl := Option.some.inj h
                    exact bw_bret (b := false) dX12_operand_191 rfl ⟨rfl, rfl⟩
                · replace h := bu_f h cc
                  refine bv_aload_n dX12_operand_157 0 rfl ?_
                  refine bv_iconst (v := 0) dX12_operand_158 (by decide) ?_
                  refine bv_aload_n dX12_operand_159 0 rfl ?_
                  refine bz_getA (a := 166) hN okL_164 (hR _ _ _ r0_164_6) dX12_operand_160 fl_12_33 rfl ?_
                  refine bv_iconst (v := 0) dX12_operand_163 (by decide) ?_
                  refine bz_iald (j := 0) hN rkL_166 (bm_ix_in (by decide)) (by decide) dX12_operand_164 ?_
                  obtain ⟨v33, p34, h⟩ := bu_bd h
                  refine bw_callV (As := [.int 0, .int ((bm_uI v9.1 164 42 (bm_bi true)) 166 0)]) hN okL_164 ⟨_, _, rfl⟩ dX12_operand_165 mc_12_225 (c_X12_looksAt (d := d + 0) hN hR p34) rfl rfl (by decide) ?_
                  refine bv_goto (tgt := 183) dX12_operand_168 (by decide) ?_
                  refine bv_istore (ls1 := [(0, .ref 164), (1, .int (bm_bi v1)), (2, .int (bm_bi v3)), (3, .int v5), (4, .int (bm_bi v33.1))]) dX12_operand_183 (by decide) rfl rfl ?_
                  refine bv_iload dX12_operand_185 4 rfl ?_
                  refine bw_ifB_ne (b := v33.1) (tgt := 192) dX12_operand_187 (by decide) (fun cc => ?_) (fun cc => ?_)
                  · replace h := bu_bt h cc
                    refine bv_aload_n dX12_operand_192 0 rfl ?_
                    refine bv_iload_n dX12_operand_193 3 rfl ?_
                    refine bv_iconst (v := 0) dX12_operand_194 (by decide) ?_
                    refine bv_aload_n dX12_operand_195 0 rfl ?_
                    refine bz_getI hN okL_164 dX12_operand_196 fl_12_210 rfl ?_
                    obtain ⟨v35, p36, h⟩ := bu_bd h
                    refine bw_callVv (As := [.int v5, .int 0, .int (v33.2 164 18)]) hN okL_164 ⟨_, _, rfl⟩ dX12_operand_199 mc_12_456 (c_X12_putCode (d := d + 1) hN hR p36) rfl rfl (by decide) ?_
                    refine bv_aload_n dX12_operand_202 0 rfl ?_
                    obtain ⟨v37, p38, h⟩ := bu_bd h
                    refine bw_callVv (As := []) hN okL_164 ⟨_, _, rfl⟩ dX12_operand_203 mc_12_203 (c_X12_next (d := d + 0) hN hR p38) rfl rfl (by decide) ?_
                    refine bv_iconst (v := 1) dX12_operand_206 (by decide) ?_
                    obtain rfl := Option.some.inj h
                    exact bw_bret (b := true) dX12_operand_207 rfl ⟨rfl, rfl⟩
                  · replace h := bu_bf h cc
                    refine bv_iconst (v := 0) dX12_operand_190 (by decide) ?_
                    obtain rfl := Option.some.inj h
                    exact bw_bret (b := false) dX12_operand_191 rfl ⟨rfl, rfl⟩
            · replace h := bu_f h cc
              refine bv_aload_n dX12_operand_136 0 rfl ?_
              refine bv_iload_n dX12_operand_137 3 rfl ?_
              refine bv_iconst (v := 0) dX12_operand_138 (by decide) ?_
              refine bv_iconst (v := 0) dX12_operand_139 (by decide) ?_
              obtain ⟨v39, p40, h⟩ := bu_bd h
              refine bw_callVv (As := [.int v5, .int 0, .int 0]) hN okL_164 ⟨_, _, rfl⟩ dX12_operand_140 mc_12_456 (c_X12_putCode (d := d + 1) hN hR p40) rfl rfl (by decide) ?_
              refine bv_iconst (v := 1) dX12_operand_143 (by decide) ?_
              obtain rfl := Option.some.inj h
              exact bw_bret (b := true) dX12_operand_144 rfl ⟨rfl, rfl⟩
          · replace h := bu_bt h cc
            refine bv_aload_n dX12_operand_84 0 rfl ?_
            refine bz_getA (a := 176) hN okL_164 (hR _ _ _ r0_164_37) dX12_operand_85 fl_12_77 rfl ?_
            refine bv_aload_n dX12_operand_88 0 rfl ?_
            refine bz_getI hN okL_164 dX12_operand_89 fl_12_453 rfl ?_
            refine bv_iload_n dX12_operand_92 1 rfl ?_
            refine bw_ifB_eq (b := v1) (tgt := 101) dX12_operand_93 (by decide) (fun cc => ?_) (fun cc => ?_)
            · replace h := bu_bf h cc
              refine bv_bipush (v := 23) dX12_operand_101 (by decide) ?_
              obtain ⟨r41, h⟩ := bu_ix h
              refine bz_iast hN rkL_176 r41 rfl dX12_operand_103 ?_
              refine bv_aload_n dX12_operand_104 0 rfl ?_
              refine bv_dup dX12_operand_105 rfl ?_
              refine bz_getI hN okL_164 dX12_operand_106 fl_12_453 rfl ?_
              refine bv_iconst (v := 1) dX12_operand_109 (by decide) ?_
              refine bv_iadd dX12_operand_110 ?_
              refine bz_putI hN okL_164 dX12_operand_111 fl_12_453 rfl ?_
              refine bv_aload_n dX12_operand_114 0 rfl ?_
              refine bv_dup dX12_operand_115 rfl ?_
              refine bz_getI hN okL_164 dX12_operand_116 fl_12_460 rfl ?_
              refine bv_iconst (v := 1) dX12_operand_119 (by decide) ?_
              refine bv_iadd dX12_operand_120 ?_
              refine bz_putI hN okL_164 dX12_operand_121 fl_12_460 rfl ?_
              refine bv_iconst (v := 1) dX12_operand_124 (by decide) ?_
              obtain rfl := Option.some.inj h
              exact bw_bret (b := true) dX12_operand_125 rfl ⟨rfl, rfl⟩
            · replace h := bu_bt h cc
              refine bv_bipush (v := 20) dX12_operand_96 (by decide) ?_
              refine bv_goto (tgt := 103) dX12_operand_98 (by decide) ?_
              obtain ⟨r42, h⟩ := bu_ix h
              refine bz_iast hN rkL_176 r42 rfl dX12_operand_103 ?_
              refine bv_aload_n dX12_operand_104 0 rfl ?_
              refine bv_dup dX12_operand_105 rfl ?_
              refine bz_getI hN okL_164 dX12_operand_106 fl_12_453 rfl ?_
              refine bv_iconst (v := 1) dX12_operand_109 (by decide) ?_
              refine bv_iadd dX12_operand_110 ?_
              refine bz_putI hN okL_164 dX12_operand_111 fl_12_453 rfl ?_
              refine bv_aload_n dX12_operand_114 0 rfl ?_
              refine bv_dup dX12_operand_115 rfl ?_
              refine bz_getI hN okL_164 dX12_operand_116 fl_12_460 rfl ?_
              refine bv_iconst (v := 1) dX12_operand_119 (by decide) ?_
              refine bv_iadd dX12_operand_120 ?_
              refine bz_putI hN okL_164 dX12_operand_121 fl_12_460 rfl ?_
              refine bv_iconst (v := 1) dX12_operand_124 (by decide) ?_
              obtain rfl := Option.some.inj h
              exact bw_bret (b := true) dX12_operand_125 rfl ⟨rfl, rfl⟩
      · replace h := bu_f h cc
        refine bv_aload_n dX12_operand_56 0 rfl ?_
        refine bv_iconst (v := 4) dX12_operand_57 (by decide) ?_
        obtain ⟨v43, p44, h⟩ := bu_bd h
        refine bw_callV (As := [.int 4]) hN okL_164 ⟨_, _, rfl⟩ dX12_operand_58 mc_12_200 (c_X12_bad (d := d + 1) hN hR p44) rfl rfl (by decide) ?_
        obtain rfl := Option.some.inj h
        exact bw_bret (b := v43.1) dX12_operand_61 rfl ⟨rfl, rfl⟩
  · replace h := bu_bf h cc
    refine bv_iload_n dX12_operand_24 2 rfl ?_
    refine bw_ifB_ne (b := v3) (tgt := 38) dX12_operand_25 (by decide) (fun cc => ?_) (fun cc => ?_)
    · replace h := bu_bt h cc
      refine bv_aload_n dX12_operand_38 0 rfl ?_
      refine bz_getI hN okL_164 dX12_operand_39 fl_12_466 rfl ?_
      refine bv_bipush (v := 20) dX12_operand_42 (by decide) ?_
      refine bv_icmp_eq (tgt := 56) dX12_operand_44 (by decide) (fun cc => ?_) (fun cc => ?_)
      · replace h := bu_t h cc
        refine bv_aload_n dX12_operand_56 0 rfl ?_
        refine bv_iconst (v := 4) dX12_operand_57 (by decide) ?_
        obtain ⟨v45, p46, h⟩ := bu_bd h
        refine bw_callV (As := [.int 4]) hN okL_164 ⟨_, _, rfl⟩ dX12_operand_58 mc_12_200 (c_X12_bad (d := d + 1) hN hR p46) rfl rfl (by decide) ?_
        obtain rfl := Option.some.inj h
        exact bw_bret (b := v45.1) dX12_operand_61 rfl ⟨rfl, rfl⟩
      · replace h := bu_f h cc
        refine bv_aload_n dX12_operand_47 0 rfl ?_
        refine bz_getI hN okL_164 dX12_operand_48 fl_12_460 rfl ?_
        refine bv_bipush (v := 8) dX12_operand_51 (by decide) ?_
        refine bv_icmp_le (tgt := 62) dX12_operand_53 (by decide) (fun cc => ?_) (fun cc => ?_)
        · replace h := bu_t h cc
          refine bv_aload_n dX12_operand_62 0 rfl ?_
          refine bv_dup dX12_operand_63 rfl ?_
          refine bz_getI hN okL_164 dX12_operand_64 fl_12_466 rfl ?_
          refine bv_iconst (v := 1) dX12_operand_67 (by decide) ?_
          refine bv_iadd dX12_operand_68 ?_
          refine bz_putI hN okL_164 dX12_operand_69 fl_12_466 rfl ?_
          refine bv_aload_n dX12_operand_72 0 rfl ?_
          obtain ⟨v47, p48, h⟩ := bu_bd h
          refine bw_callVv (As := []) hN okL_164 ⟨_, _, rfl⟩ dX12_operand_73 mc_12_203 (c_X12_next (d := d + 0) hN hR p48) rfl rfl (by decide) ?_
          refine bv_iload_n dX12_operand_76 1 rfl ?_
          refine bw_ifB_ne (b := v1) (tgt := 84) dX12_operand_77 (by decide) (fun cc => ?_) (fun cc => ?_)
          · replace h := bu_bt h cc
            refine bv_aload_n dX12_operand_84 0 rfl ?_
            refine bz_getA (a := 176) hN okL_164 (hR _ _ _ r0_164_37) dX12_operand_85 fl_12_77 rfl ?_
            refine bv_aload_n dX12_operand_88 0 rfl ?_
            refine bz_getI hN okL_164 dX12_operand_89 fl_12_453 rfl ?_
            refine bv_iload_n dX12_operand_92 1 rfl ?_
            refine bw_ifB_eq (b := v1) (tgt := 101) dX12_operand_93 (by decide) (fun cc => ?_) (fun cc => ?_)
            · replace h := bu_bf h cc
              refine bv_bipush (v := 23) dX12_operand_101 (by decide) ?_
              obtain ⟨r49, h⟩ := bu_ix h
              refine bz_iast hN rkL_176 r49 rfl dX12_operand_103 ?_
              refine bv_aload_n dX12_operand_104 0 rfl ?_
              refine bv_dup dX12_operand_105 rfl ?_
              refine bz_getI hN okL_164 dX12_operand_106 fl_12_453 rfl ?_
              refine bv_iconst (v := 1) dX12_operand_109 (by decide) ?_
              refine bv_iadd dX12_operand_110 ?_
              refine bz_putI hN okL_164 dX12_operand_111 fl_12_453 rfl ?_
              refine bv_aload_n dX12_operand_114 0 rfl ?_
              refine bv_dup dX12_operand_115 rfl ?_
              refine bz_getI hN okL_164 dX12_operand_116 fl_12_460 rfl ?_
              refine bv_iconst (v := 1) dX12_operand_119 (by decide) ?_
              refine bv_iadd dX12_operand_120 ?_
              refine bz_putI hN okL_164 dX12_operand_121 fl_12_460 rfl ?_
              refine bv_iconst (v := 1) dX12_operand_124 (by decide) ?_
              obtain rfl := Option.some.inj h
              exact bw_bret (b := true) dX12_operand_125 rfl ⟨rfl, rfl⟩
            · replace h := bu_bt h cc
              refine bv_bipush (v := 20) dX12_operand_96 (by decide) ?_
              refine bv_goto (tgt := 103) dX12_operand_98 (by decide) ?_
              obtain ⟨r50, h⟩ := bu_ix h
              refine bz_iast hN rkL_176 r50 rfl dX12_operand_103 ?_
              refine bv_aload_n dX12_operand_104 0 rfl ?_
              refine bv_dup dX12_operand_105 rfl ?_
              refine bz_getI hN okL_164 dX12_operand_106 fl_12_453 rfl ?_
              refine bv_iconst (v := 1) dX12_operand_109 (by decide) ?_
              refine bv_iadd dX12_operand_110 ?_
              refine bz_putI hN okL_164 dX12_operand_111 fl_12_453 rfl ?_
              refine bv_aload_n dX12_operand_114 0 rfl ?_
              refine bv_dup dX12_operand_115 rfl ?_
              refine bz_getI hN okL_164 dX12_operand_116 fl_12_460 rfl ?_
              refine bv_iconst (v := 1) dX12_operand_119 (by decide) ?_
              refine bv_iadd dX12_operand_120 ?_
              refine bz_putI hN okL_164 dX12_operand_121 fl_12_460 rfl ?_
              refine bv_iconst (v := 1) dX12_operand_124 (by decide) ?_
              obtain rfl := Option.some.inj h
              exact bw_bret (b := true) dX12_operand_125 rfl ⟨rfl, rfl⟩
          · replace h := bu_bf h cc
            refine bv_iload_n dX12_operand_80 2 rfl ?_
            refine bw_ifB_eq (b := v3) (tgt := 126) dX12_operand_81 (by decide) (fun cc => ?_) (fun cc => ?_)
            · replace h := bu_bf h cc
              refine bv_aload_n dX12_operand_126 0 rfl ?_
              refine bv_iconst (v := 1) dX12_operand_127 (by decide) ?_
              refine bz_putB (v := true) hN okL_164 dX12_operand_128 fl_12_469 rfl ?_
              refine bv_iload_n dX12_operand_131 3 rfl ?_
              refine bv_iconst (v := 5) dX12_operand_132 (by decide) ?_
              refine bv_icmp_ge (tgt := 145) dX12_operand_133 (by decide) (fun cc => ?_) (fun cc => ?_)
              · replace h := bu_t h cc
                refine bv_iload_n dX12_operand_145 3 rfl ?_
                refine bv_bipush (v := 8) dX12_operand_146 (by decide) ?_
                refine bv_icmp_ge (tgt := 208) dX12_operand_148 (by decide) (fun cc => ?_) (fun cc => ?_)
                · replace h := bu_t h cc
                  refine bv_aload_n dX12_operand_208 0 rfl ?_
                  refine bz_getI hN okL_164 dX12_operand_209 fl_12_174 rfl ?_
                  refine bv_iconst (v := 3) dX12_operand_212 (by decide) ?_
                  refine bv_icmp_ne (tgt := 234) dX12_operand_213 (by decide) (fun cc => ?_) (fun cc => ?_)
                  · replace h := bu_f h cc
                    refine bv_aload_n dX12_operand_234 0 rfl ?_
                    refine bv_iconst (v := 1) dX12_operand_235 (by decide) ?_
                    obtain ⟨v51, p52, h⟩ := bu_bd h
                    refine bw_callV (As := [.int 1]) hN okL_164 ⟨_, _, rfl⟩ dX12_operand_236 mc_12_200 (c_X12_bad (d := d + 1) hN hR p52) rfl rfl (by decide) ?_
                    obtain rfl := Option.some.inj h
                    exact bw_bret (b := v51.1) dX12_operand_239 rfl ⟨rfl, rfl⟩
                  · replace h := bu_t h cc
                    refine bv_aload_n dX12_operand_216 0 rfl ?_
                    refine bz_getI hN okL_164 dX12_operand_217 fl_12_184 rfl ?_
                    refine bv_bipush (v := 60) dX12_operand_220 (by decide) ?_
                    refine bv_icmp_lt (tgt := 234) dX12_operand_222 (by decide) (fun cc => ?_) (fun cc => ?_)
                    · replace h := bu_t h cc
                      refine bv_aload_n dX12_operand_234 0 rfl ?_
                      refine bv_iconst (v := 1) dX12_operand_235 (by decide) ?_
                      obtain ⟨v53, p54, h⟩ := bu_bd h
                      refine bw_callV (As := [.int 1]) hN okL_164 ⟨_, _, rfl⟩ dX12_operand_236 mc_12_200 (c_X12_bad (d := d + 1) hN hR p54) rfl rfl (by decide) ?_
                      obtain rfl := Option.some.inj h
                      exact bw_bret (b := v53.1) dX12_operand_239 rfl ⟨rfl, rfl⟩
                    · replace h := bu_f h cc
                      refine bv_aload_n dX12_operand_225 0 rfl ?_
                      refine bz_getI hN okL_164 dX12_operand_226 fl_12_184 rfl ?_
                      refine bv_bipush (v := 62) dX12_operand_229 (by decide) ?_
                      refine bv_icmp_le (tgt := 240) dX12_operand_231 (by decide) (fun cc => ?_) (fun cc => ?_)
                      · replace h := bu_t h cc
                        refine bv_aload_n dX12_operand_240 0 rfl ?_
                        refine bz_getI hN okL_164 dX12_operand_241 fl_12_184 rfl ?_
                        refine bv_istore (ls1 := [(0, .ref 164), (1, .int (bm_bi v1)), (2, .int (bm_bi v3)), (3, .int v5), (4, .int ((bm_uI v47.1 164 42 (bm_bi true)) 164 14))]) dX12_operand_244 (by decide) rfl rfl ?_
                        refine bv_aload_n dX12_operand_246 0 rfl ?_
                        obtain ⟨v55, p56, h⟩ := bu_bd h
                        refine bw_callVv (As := []) hN okL_164 ⟨_, _, rfl⟩ dX12_operand_247 mc_12_203 (c_X12_next (d := d + 0) hN hR p56) rfl rfl (by decide) ?_
                        refine bv_aload_n dX12_operand_250 0 rfl ?_
                        refine bz_getI hN okL_164 dX12_operand_251 fl_12_174 rfl ?_
                        refine bv_iconst (v := 2) dX12_operand_254 (by decide) ?_
                        refine bv_icmp_eq (tgt := 264) dX12_operand_255 (by decide) (fun cc => ?_) (fun cc => ?_)
                        · replace h := bu_t h cc
                          refine bv_aload_n dX12_operand_264 0 rfl ?_
                          refine bv_iload_n dX12_operand_265 3 rfl ?_
                          refine bv_iload dX12_operand_266 4 rfl ?_
                          refine bv_aload_n dX12_operand_268 0 rfl ?_
                          refine bz_getI hN okL_164 dX12_operand_269 fl_12_184 rfl ?_
                          obtain ⟨v57, p58, h⟩ := bu_bd h
                          refine bw_callVv (As := [.int v5, .int ((bm_uI v47.1 164 42 (bm_bi true)) 164 14), .int (v55.1 164 14)]) hN okL_164 ⟨_, _, rfl⟩ dX12_operand_272 mc_12_456 (c_X12_putCode (d := d + 1) hN hR p58) rfl rfl (by decide) ?_
                          refine bv_aload_n dX12_operand_275 0 rfl ?_
                          obtain ⟨v59, p60, h⟩ := bu_bd h
                          refine bw_callVv (As := []) hN okL_164 ⟨_, _, rfl⟩ dX12_operand_276 mc_12_203 (c_X12_next (d := d + 0) hN hR p60) rfl rfl (by decide) ?_
                          refine bv_iconst (v := 1) dX12_operand_279 (by decide) ?_
                          obtain rfl := Option.some.inj h
                          exact bw_bret (b := true) dX12_operand_280 rfl ⟨rfl, rfl⟩
                        · replace h := bu_f h cc
                          refine bv_aload_n dX12_operand_258 0 rfl ?_
                          refine bv_iconst (v := 1) dX12_operand_259 (by decide) ?_
                          obtain ⟨v61, p62, h⟩ := bu_bd h
                          refine bw_callV (As := [.int 1]) hN okL_164 ⟨_, _, rfl⟩ dX12_operand_260 mc_12_200 (c_X12_bad (d := d + 1) hN hR p62) rfl rfl (by decide) ?_
                          obtain rfl := Option.some.inj h
                          exact bw_bret (b := v61.1) dX12_operand_263 rfl ⟨rfl, rfl⟩
                      · replace h := bu_f h cc
                        refine bv_aload_n dX12_operand_234 0 rfl ?_
                        refine bv_iconst (v := 1) dX12_operand_235 (by decide) ?_
                        obtain ⟨v63, p64, h⟩ := bu_bd h
                        refine bw_callV (As := [.int 1]) hN okL_164 ⟨_, _, rfl⟩ dX12_operand_236 mc_12_200 (c_X12_bad (d := d + 1) hN hR p64) rfl rfl (by decide) ?_
                        obtain rfl := Option.some.inj h
                        exact bw_bret (b := v63.1) dX12_operand_239 rfl ⟨rfl, rfl⟩
                · replace h := bu_f h cc
                  refine bv_iload_n dX12_operand_151 3 rfl ?_
                  refine bv_bipush (v := 7) dX12_operand_152 (by decide) ?_
                  refine bv_icmp_ge (tgt := 171) dX12_operand_154 (by decide) (fun cc => ?_) (fun cc => ?_)
                  · replace h := bu_t h cc
                    refine bv_aload_n dX12_operand_171 0 rfl ?_
                    refine bv_bipush (v := 8) dX12_operand_172 (by decide) ?_
                    refine bv_aload_n dX12_operand_174 0 rfl ?_
                    refine bz_getA (a := 166) hN okL_164 (hR _ _ _ r0_164_6) dX12_operand_175 fl_12_33 rfl ?_
                    refine bv_iconst (v := 1) dX12_operand_178 (by decide) ?_
                    refine bz_iald (j := 1) hN rkL_166 (bm_ix_in (by decide)) (by decide) dX12_operand_179 ?_
                    obtain ⟨v65, p66, h⟩ := bu_bd h
                    refine bw_callV (As := [.int 8, .int ((bm_uI v47.1 164 42 (bm_bi true)) 166 1)]) hN okL_164 ⟨_, _, rfl⟩ dX12_operand_180 mc_12_225 (c_X12_looksAt (d := d + 0) hN hR p66) rfl rfl (by decide) ?_
                    refine bv_istore (ls1 := [(0, .ref 164), (1, .int (bm_bi v1)), (2, .int (bm_bi v3)), (3, .int v5), (4, .int (bm_bi v65.1))]) dX12_operand_183 (by decide) rfl rfl ?_
                    refine bv_iload dX12_operand_185 4 rfl ?_
                    refine bw_ifB_ne (b := v65.1) (tgt := 192) dX12_operand_187 (by decide) (fun cc => ?_) (fun cc => ?_)
                    · replace h := bu_bt h cc
                      refine bv_aload_n dX12_operand_192 0 rfl ?_
                      refine bv_iload_n dX12_operand_193 3 rfl ?_
                      refine bv_iconst (v := 0) dX12_operand_194 (by decide) ?_
                      refine bv_aload_n dX12_operand_195 0 rfl ?_
                      refine bz_getI hN okL_164 dX12_operand_196 fl_12_210 rfl ?_
                      obtain ⟨v67, p68, h⟩ := bu_bd h
                      refine bw_callVv (As := [.int v5, .int 0, .int (v65.2 164 18)]) hN okL_164 ⟨_, _, rfl⟩ dX12_operand_199 mc_12_456 (c_X12_putCode (d := d + 1) hN hR p68) rfl rfl (by decide) ?_
                      refine bv_aload_n dX12_operand_202 0 rfl ?_
                      obtain ⟨v69, p70, h⟩ := bu_bd h
                      refine bw_callVv (As := []) hN okL_164 ⟨_, _, rfl⟩ dX12_operand_203 mc_12_203 (c_X12_next (d := d + 0) hN hR p70) rfl rfl (by decide) ?_
                      refine bv_iconst (v := 1) dX12_operand_206 (by decide) ?_
                      obtain rfl := Option.some.inj h
                      exact bw_bret (b := true) dX12_operand_207 rfl ⟨rfl, rfl⟩
                    · replace h := bu_bf h cc
                      refine bv_iconst (v := 0) dX12_operand_190 (by decide) ?_
                      obtain rfl := Option.some.inj h
                      exact bw_bret (b := false) dX12_operand_191 rfl ⟨rfl, rfl⟩
                  · replace h := bu_f h cc
                    refine bv_aload_n dX12_operand_157 0 rfl ?_
                    refine bv_iconst (v := 0) dX12_operand_158 (by decide) ?_
                    refine bv_aload_n dX12_operand_159 0 rfl ?_
                    refine bz_getA (a := 166) hN okL_164 (hR _ _ _ r0_164_6) dX12_operand_160 fl_12_33 rfl ?_
                    refine bv_iconst (v := 0) dX12_operand_163 (by decide) ?_
                    refine bz_iald (j := 0) hN rkL_166 (bm_ix_in (by decide)) (by decide) dX12_operand_164 ?_
                    obtain ⟨v71, p72, h⟩ := bu_bd h
                    refine bw_callV (As := [.int 0, .int ((bm_uI v47.1 164 42 (bm_bi true)) 166 0)]) hN okL_164 ⟨_, _, rfl⟩ dX12_operand_165 mc_12_225 (c_X12_looksAt (d := d + 0) hN hR p72) rfl rfl (by decide) ?_
                    refine bv_goto (tgt := 183) dX12_operand_168 (by decide) ?_
                    refine bv_istore (ls1 := [(0, .ref 164), (1, .int (bm_bi v1)), (2, .int (bm_bi v3)), (3, .int v5), (4, .int (bm_bi v71.1))]) dX12_operand_183 (by decide) rfl rfl ?_
                    refine bv_iload dX12_operand_185 4 rfl ?_
                    refine bw_ifB_ne (b := v71.1) (tgt := 192) dX12_operand_187 (by decide) (fun cc => ?_) (fun cc => ?_)
                    · replace h := bu_bt h cc
                      refine bv_aload_n dX12_operand_192 0 rfl ?_
                      refine bv_iload_n dX12_operand_193 3 rfl ?_
                      refine bv_iconst (v := 0) dX12_operand_194 (by decide) ?_
                      refine bv_aload_n dX12_operand_195 0 rfl ?_
                      refine bz_getI hN okL_164 dX12_operand_196 fl_12_210 rfl ?_
                      obtain ⟨v73, p74, h⟩ := bu_bd h
                      refine bw_callVv (As := [.int v5, .int 0, .int (v71.2 164 18)]) hN okL_164 ⟨_, _, rfl⟩ dX12_operand_199 mc_12_456 (c_X12_putCode (d := d + 1) hN hR p74) rfl rfl (by decide) ?_
                      refine bv_aload_n dX12_operand_202 0 rfl ?_
                      obtain ⟨v75, p76, h⟩ := bu_bd h
                      refine bw_callVv (As := []) hN okL_164 ⟨_, _, rfl⟩ dX12_operand_203 mc_12_203 (c_X12_next (d := d + 0) hN hR p76) rfl rfl (by decide) ?_
                      refine bv_iconst (v := 1) dX12_operand_206 (by decide) ?_
                      obtain rfl := Option.some.inj h
                      exact bw_bret (b := true) dX12_operand_207 rfl ⟨rfl, rfl⟩
                    · replace h := bu_bf h cc
                      refine bv_iconst (v := 0) dX12_operand_190 (by decide) ?_
                      obtain rfl := Option.some.inj h
                      exact bw_bret (b := false) dX12_operand_191 rfl ⟨rfl, rfl⟩
              · replace h := bu_f h cc
                refine bv_aload_n dX12_operand_136 0 rfl ?_
                refine bv_iload_n dX12_operand_137 3 rfl ?_
                refine bv_iconst (v := 0) dX12_operand_138 (by decide) ?_
                refine bv_iconst (v := 0) dX12_operand_139 (by decide) ?_
                obtain ⟨v77, p78, h⟩ := bu_bd h
                refine bw_callVv (As := [.int v5, .int 0, .int 0]) hN okL_164 ⟨_, _, rfl⟩ dX12_operand_140 mc_12_456 (c_X12_putCode (d := d + 1) hN hR p78) rfl rfl (by decide) ?_
                refine bv_iconst (v := 1) dX12_operand_143 (by decide) ?_
                obtain rfl := Option.some.inj h
                exact bw_bret (b := true) dX12_operand_144 rfl ⟨rfl, rfl⟩
            · replace h := bu_bt h cc
              refine bv_aload_n dX12_operand_84 0 rfl ?_
              refine bz_getA (a := 176) hN okL_164 (hR _ _ _ r0_164_37) dX12_operand_85 fl_12_77 rfl ?_
              refine bv_aload_n dX12_operand_88 0 rfl ?_
              refine bz_getI hN okL_164 dX12_operand_89 fl_12_453 rfl ?_
              refine bv_iload_n dX12_operand_92 1 rfl ?_
              refine bw_ifB_eq (b := v1) (tgt := 101) dX12_operand_93 (by decide) (fun cc => ?_) (fun cc => ?_)
              · replace h := bu_bf h cc
                refine bv_bipush (v := 23) dX12_operand_101 (by decide) ?_
                obtain ⟨r79, h⟩ := bu_ix h
                refine bz_iast hN rkL_176 r79 rfl dX12_operand_103 ?_
                refine bv_aload_n dX12_operand_104 0 rfl ?_
                refine bv_dup dX12_operand_105 rfl ?_
                refine bz_getI hN okL_164 dX12_operand_106 fl_12_453 rfl ?_
                refine bv_iconst (v := 1) dX12_operand_109 (by decide) ?_
                refine bv_iadd dX12_operand_110 ?_
                refine bz_putI hN okL_164 dX12_operand_111 fl_12_453 rfl ?_
                refine bv_aload_n dX12_operand_114 0 rfl ?_
                refine bv_dup dX12_operand_115 rfl ?_
                refine bz_getI hN okL_164 dX12_operand_116 fl_12_460 rfl ?_
                refine bv_iconst (v := 1) dX12_operand_119 (by decide) ?_
                refine bv_iadd dX12_operand_120 ?_
                refine bz_putI hN okL_164 dX12_operand_121 fl_12_460 rfl ?_
                refine bv_iconst (v := 1) dX12_operand_124 (by decide) ?_
                obtain rfl := Option.some.inj h
                exact bw_bret (b := true) dX12_operand_125 rfl ⟨rfl, rfl⟩
              · replace h := bu_bt h cc
                refine bv_bipush (v := 20) dX12_operand_96 (by decide) ?_
                refine bv_goto (tgt := 103) dX12_operand_98 (by decide) ?_
                obtain ⟨r80, h⟩ := bu_ix h
                refine bz_iast hN rkL_176 r80 rfl dX12_operand_103 ?_
                refine bv_aload_n dX12_operand_104 0 rfl ?_
                refine bv_dup dX12_operand_105 rfl ?_
                refine bz_getI hN okL_164 dX12_operand_106 fl_12_453 rfl ?_
                refine bv_iconst (v := 1) dX12_operand_109 (by decide) ?_
                refine bv_iadd dX12_operand_110 ?_
                refine bz_putI hN okL_164 dX12_operand_111 fl_12_453 rfl ?_
                refine bv_aload_n dX12_operand_114 0 rfl ?_
                refine bv_dup dX12_operand_115 rfl ?_
                refine bz_getI hN okL_164 dX12_operand_116 fl_12_460 rfl ?_
                refine bv_iconst (v := 1) dX12_operand_119 (by decide) ?_
                refine bv_iadd dX12_operand_120 ?_
                refine bz_putI hN okL_164 dX12_operand_121 fl_12_460 rfl ?_
                refine bv_iconst (v := 1) dX12_operand_124 (by decide) ?_
                obtain rfl := Option.some.inj h
                exact bw_bret (b := true) dX12_operand_125 rfl ⟨rfl, rfl⟩
        · replace h := bu_f h cc
          refine bv_aload_n dX12_operand_56 0 rfl ?_
          refine bv_iconst (v := 4) dX12_operand_57 (by decide) ?_
          obtain ⟨v81, p82, h⟩ := bu_bd h
          refine bw_callV (As := [.int 4]) hN okL_164 ⟨_, _, rfl⟩ dX12_operand_58 mc_12_200 (c_X12_bad (d := d + 1) hN hR p82) rfl rfl (by decide) ?_
          obtain rfl := Option.some.inj h
          exact bw_bret (b := v81.1) dX12_operand_61 rfl ⟨rfl, rfl⟩
    · replace h := bu_bf h cc
      refine bv_iload_n dX12_operand_28 3 rfl ?_
      refine bv_if_ge (tgt := 38) dX12_operand_29 (by decide) (fun cc => ?_) (fun cc => ?_)
      · replace h := bu_t h cc
        refine bv_aload_n dX12_operand_38 0 rfl ?_
        refine bz_getI hN okL_164 dX12_operand_39 fl_12_466 rfl ?_
        refine bv_bipush (v := 20) dX12_operand_42 (by decide) ?_
        refine bv_icmp_eq (tgt := 56) dX12_operand_44 (by decide) (fun cc => ?_) (fun cc => ?_)
        · replace h := bu_t h cc
          refine bv_aload_n dX12_operand_56 0 rfl ?_
          refine bv_iconst (v := 4) dX12_operand_57 (by decide) ?_
          obtain ⟨v83, p84, h⟩ := bu_bd h
          refine bw_callV (As := [.int 4]) hN okL_164 ⟨_, _, rfl⟩ dX12_operand_58 mc_12_200 (c_X12_bad (d := d + 1) hN hR p84) rfl rfl (by decide) ?_
          obtain rfl := Option.some.inj h
          exact bw_bret (b := v83.1) dX12_operand_61 rfl ⟨rfl, rfl⟩
        · replace h := bu_f h cc
          refine bv_aload_n dX12_operand_47 0 rfl ?_
          refine bz_getI hN okL_164 dX12_operand_48 fl_12_460 rfl ?_
          refine bv_bipush (v := 8) dX12_operand_51 (by decide) ?_
          refine bv_icmp_le (tgt := 62) dX12_operand_53 (by decide) (fun cc => ?_) (fun cc => ?_)
          · replace h := bu_t h cc
            refine bv_aload_n dX12_operand_62 0 rfl ?_
            refine bv_dup dX12_operand_63 rfl ?_
            refine bz_getI hN okL_164 dX12_operand_64 fl_12_466 rfl ?_
            refine bv_iconst (v := 1) dX12_operand_67 (by decide) ?_
            refine bv_iadd dX12_operand_68 ?_
            refine bz_putI hN okL_164 dX12_operand_69 fl_12_466 rfl ?_
            refine bv_aload_n dX12_operand_72 0 rfl ?_
            obtain ⟨v85, p86, h⟩ := bu_bd h
            refine bw_callVv (As := []) hN okL_164 ⟨_, _, rfl⟩ dX12_operand_73 mc_12_203 (c_X12_next (d := d + 0) hN hR p86) rfl rfl (by decide) ?_
            refine bv_iload_n dX12_operand_76 1 rfl ?_
            refine bw_ifB_ne (b := v1) (tgt := 84) dX12_operand_77 (by decide) (fun cc => ?_) (fun cc => ?_)
            · replace h := bu_bt h cc
              refine bv_aload_n dX12_operand_84 0 rfl ?_
              refine bz_getA (a := 176) hN okL_164 (hR _ _ _ r0_164_37) dX12_operand_85 fl_12_77 rfl ?_
              refine bv_aload_n dX12_operand_88 0 rfl ?_
              refine bz_getI hN okL_164 dX12_operand_89 fl_12_453 rfl ?_
              refine bv_iload_n dX12_operand_92 1 rfl ?_
              refine bw_ifB_eq (b := v1) (tgt := 101) dX12_operand_93 (by decide) (fun cc => ?_) (fun cc => ?_)
              · replace h := bu_bf h cc
                refine bv_bipush (v := 23) dX12_operand_101 (by decide) ?_
                obtain ⟨r87, h⟩ := bu_ix h
                refine bz_iast hN rkL_176 r87 rfl dX12_operand_103 ?_
                refine bv_aload_n dX12_operand_104 0 rfl ?_
                refine bv_dup dX12_operand_105 rfl ?_
                refine bz_getI hN okL_164 dX12_operand_106 fl_12_453 rfl ?_
                refine bv_iconst (v := 1) dX12_operand_109 (by decide) ?_
                refine bv_iadd dX12_operand_110 ?_
                refine bz_putI hN okL_164 dX12_operand_111 fl_12_453 rfl ?_
                refine bv_aload_n dX12_operand_114 0 rfl ?_
                refine bv_dup dX12_operand_115 rfl ?_
                refine bz_getI hN okL_164 dX12_operand_116 fl_12_460 rfl ?_
                refine bv_iconst (v := 1) dX12_operand_119 (by decide) ?_
                refine bv_iadd dX12_operand_120 ?_
                refine bz_putI hN okL_164 dX12_operand_121 fl_12_460 rfl ?_
                refine bv_iconst (v := 1) dX12_operand_124 (by decide) ?_
                obtain rfl := Option.some.inj h
                exact bw_bret (b := true) dX12_operand_125 rfl ⟨rfl, rfl⟩
              · replace h := bu_bt h cc
                refine bv_bipush (v := 20) dX12_operand_96 (by decide) ?_
                refine bv_goto (tgt := 103) dX12_operand_98 (by decide) ?_
                obtain ⟨r88, h⟩ := bu_ix h
                refine bz_iast hN rkL_176 r88 rfl dX12_operand_103 ?_
                refine bv_aload_n dX12_operand_104 0 rfl ?_
                refine bv_dup dX12_operand_105 rfl ?_
                refine bz_getI hN okL_164 dX12_operand_106 fl_12_453 rfl ?_
                refine bv_iconst (v := 1) dX12_operand_109 (by decide) ?_
                refine bv_iadd dX12_operand_110 ?_
                refine bz_putI hN okL_164 dX12_operand_111 fl_12_453 rfl ?_
                refine bv_aload_n dX12_operand_114 0 rfl ?_
                refine bv_dup dX12_operand_115 rfl ?_
                refine bz_getI hN okL_164 dX12_operand_116 fl_12_460 rfl ?_
                refine bv_iconst (v := 1) dX12_operand_119 (by decide) ?_
                refine bv_iadd dX12_operand_120 ?_
                refine bz_putI hN okL_164 dX12_operand_121 fl_12_460 rfl ?_
                refine bv_iconst (v := 1) dX12_operand_124 (by decide) ?_
                obtain rfl := Option.some.inj h
                exact bw_bret (b := true) dX12_operand_125 rfl ⟨rfl, rfl⟩
            · replace h := bu_bf h cc
              refine bv_iload_n dX12_operand_80 2 rfl ?_
              refine bw_ifB_eq (b := v3) (tgt := 126) dX12_operand_81 (by decide) (fun cc => ?_) (fun cc => ?_)
              · replace h := bu_bf h cc
                refine bv_aload_n dX12_operand_126 0 rfl ?_
                refine bv_iconst (v := 1) dX12_operand_127 (by decide) ?_
                refine bz_putB (v := true) hN okL_164 dX12_operand_128 fl_12_469 rfl ?_
                refine bv_iload_n dX12_operand_131 3 rfl ?_
                refine bv_iconst (v := 5) dX12_operand_132 (by decide) ?_
                refine bv_icmp_ge (tgt := 145) dX12_operand_133 (by decide) (fun cc => ?_) (fun cc => ?_)
                · replace h := bu_t h cc
                  refine bv_iload_n dX12_operand_145 3 rfl ?_
                  refine bv_bipush (v := 8) dX12_operand_146 (by decide) ?_
                  refine bv_icmp_ge (tgt := 208) dX12_operand_148 (by decide) (fun cc => ?_) (fun cc => ?_)
                  · replace h := bu_t h cc
                    refine bv_aload_n dX12_operand_208 0 rfl ?_
                    refine bz_getI hN okL_164 dX12_operand_209 fl_12_174 rfl ?_
                    refine bv_iconst (v := 3) dX12_operand_212 (by decide) ?_
                    refine bv_icmp_ne (tgt := 234) dX12_operand_213 (by decide) (fun cc => ?_) (fun cc => ?_)
                    · replace h := bu_f h cc
                      refine bv_aload_n dX12_operand_234 0 rfl ?_
                      refine bv_iconst (v := 1) dX12_operand_235 (by decide) ?_
                      obtain ⟨v89, p90, h⟩ := bu_bd h
                      refine bw_callV (As := [.int 1]) hN okL_164 ⟨_, _, rfl⟩ dX12_operand_236 mc_12_200 (c_X12_bad (d := d + 1) hN hR p90) rfl rfl (by decide) ?_
                      obtain rfl := Option.some.inj h
                      exact bw_bret (b := v89.1) dX12_operand_239 rfl ⟨rfl, rfl⟩
                    · replace h := bu_t h cc
                      refine bv_aload_n dX12_operand_216 0 rfl ?_
                      refine bz_getI hN okL_164 dX12_operand_217 fl_12_184 rfl ?_
                      refine bv_bipush (v := 60) dX12_operand_220 (by decide) ?_
                      refine bv_icmp_lt (tgt := 234) dX12_operand_222 (by decide) (fun cc => ?_) (fun cc => ?_)
                      · replace h := bu_t h cc
                        refine bv_aload_n dX12_operand_234 0 rfl ?_
                        refine bv_iconst (v := 1) dX12_operand_235 (by decide) ?_
                        obtain ⟨v91, p92, h⟩ := bu_bd h
                        refine bw_callV (As := [.int 1]) hN okL_164 ⟨_, _, rfl⟩ dX12_operand_236 mc_12_200 (c_X12_bad (d := d + 1) hN hR p92) rfl rfl (by decide) ?_
                        obtain rfl := Option.some.inj h
                        exact bw_bret (b := v91.1) dX12_operand_239 rfl ⟨rfl, rfl⟩
                      · replace h := bu_f h cc
                        refine bv_aload_n dX12_operand_225 0 rfl ?_
                        refine bz_getI hN okL_164 dX12_operand_226 fl_12_184 rfl ?_
                        refine bv_bipush (v := 62) dX12_operand_229 (by decide) ?_
                        refine bv_icmp_le (tgt := 240) dX12_operand_231 (by decide) (fun cc => ?_) (fun cc => ?_)
                        · replace h := bu_t h cc
                          refine bv_aload_n dX12_operand_240 0 rfl ?_
                          refine bz_getI hN okL_164 dX12_operand_241 fl_12_184 rfl ?_
                          refine bv_istore (ls1 := [(0, .ref 164), (1, .int (bm_bi v1)), (2, .int (bm_bi v3)), (3, .int v5), (4, .int ((bm_uI v85.1 164 42 (bm_bi true)) 164 14))]) dX12_operand_244 (by decide) rfl rfl ?_
                          refine bv_aload_n dX12_operand_246 0 rfl ?_
                          obtain ⟨v93, p94, h⟩ := bu_bd h
                          refine bw_callVv (As := []) hN okL_164 ⟨_, _, rfl⟩ dX12_operand_247 mc_12_203 (c_X12_next (d := d + 0) hN hR p94) rfl rfl (by decide) ?_
                          refine bv_aload_n dX12_operand_250 0 rfl ?_
                          refine bz_getI hN okL_164 dX12_operand_251 fl_12_174 rfl ?_
                          refine bv_iconst (v := 2) dX12_operand_254 (by decide) ?_
                          refine bv_icmp_eq (tgt := 264) dX12_operand_255 (by decide) (fun cc => ?_) (fun cc => ?_)
                          · replace h := bu_t h cc
                            refine bv_aload_n dX12_operand_264 0 rfl ?_
                            refine bv_iload_n dX12_operand_265 3 rfl ?_
                            refine bv_iload dX12_operand_266 4 rfl ?_
                            refine bv_aload_n dX12_operand_268 0 rfl ?_
                            refine bz_getI hN okL_164 dX12_operand_269 fl_12_184 rfl ?_
                            obtain ⟨v95, p96, h⟩ := bu_bd h
                            refine bw_callVv (As := [.int v5, .int ((bm_uI v85.1 164 42 (bm_bi true)) 164 14), .int (v93.1 164 14)]) hN okL_164 ⟨_, _, rfl⟩ dX12_operand_272 mc_12_456 (c_X12_putCode (d := d + 1) hN hR p96) rfl rfl (by decide) ?_
                            refine bv_aload_n dX12_operand_275 0 rfl ?_
                            obtain ⟨v97, p98, h⟩ := bu_bd h
                            refine bw_callVv (As := []) hN okL_164 ⟨_, _, rfl⟩ dX12_operand_276 mc_12_203 (c_X12_next (d := d + 0) hN hR p98) rfl rfl (by decide) ?_
                            refine bv_iconst (v := 1) dX12_operand_279 (by decide) ?_
                            obtain rfl := Option.some.inj h
                            exact bw_bret (b := true) dX12_operand_280 rfl ⟨rfl, rfl⟩
                          · replace h := bu_f h cc
                            refine bv_aload_n dX12_operand_258 0 rfl ?_
                            refine bv_iconst (v := 1) dX12_operand_259 (by decide) ?_
                            obtain ⟨v99, p100, h⟩ := bu_bd h
                            refine bw_callV (As := [.int 1]) hN okL_164 ⟨_, _, rfl⟩ dX12_operand_260 mc_12_200 (c_X12_bad (d := d + 1) hN hR p100) rfl rfl (by decide) ?_
                            obtain rfl := Option.some.inj h
                            exact bw_bret (b := v99.1) dX12_operand_263 rfl ⟨rfl, rfl⟩
                        · replace h := bu_f h cc
                          refine bv_aload_n dX12_operand_234 0 rfl ?_
                          refine bv_iconst (v := 1) dX12_operand_235 (by decide) ?_
                          obtain ⟨v101, p102, h⟩ := bu_bd h
                          refine bw_callV (As := [.int 1]) hN okL_164 ⟨_, _, rfl⟩ dX12_operand_236 mc_12_200 (c_X12_bad (d := d + 1) hN hR p102) rfl rfl (by decide) ?_
                          obtain rfl := Option.some.inj h
                          exact bw_bret (b := v101.1) dX12_operand_239 rfl ⟨rfl, rfl⟩
                  · replace h := bu_f h cc
                    refine bv_iload_n dX12_operand_151 3 rfl ?_
                    refine bv_bipush (v := 7) dX12_operand_152 (by decide) ?_
                    refine bv_icmp_ge (tgt := 171) dX12_operand_154 (by decide) (fun cc => ?_) (fun cc => ?_)
                    · replace h := bu_t h cc
                      refine bv_aload_n dX12_operand_171 0 rfl ?_
                      refine bv_bipush (v := 8) dX12_operand_172 (by decide) ?_
                      refine bv_aload_n dX12_operand_174 0 rfl ?_
                      refine bz_getA (a := 166) hN okL_164 (hR _ _ _ r0_164_6) dX12_operand_175 fl_12_33 rfl ?_
                      refine bv_iconst (v := 1) dX12_operand_178 (by decide) ?_
                      refine bz_iald (j := 1) hN rkL_166 (bm_ix_in (by decide)) (by decide) dX12_operand_179 ?_
                      obtain ⟨v103, p104, h⟩ := bu_bd h
                      refine bw_callV (As := [.int 8, .int ((bm_uI v85.1 164 42 (bm_bi true)) 166 1)]) hN okL_164 ⟨_, _, rfl⟩ dX12_operand_180 mc_12_225 (c_X12_looksAt (d := d + 0) hN hR p104) rfl rfl (by decide) ?_
                      refine bv_istore (ls1 := [(0, .ref 164), (1, .int (bm_bi v1)), (2, .int (bm_bi v3)), (3, .int v5), (4, .int (bm_bi v103.1))]) dX12_operand_183 (by decide) rfl rfl ?_
                      refine bv_iload dX12_operand_185 4 rfl ?_
                      refine bw_ifB_ne (b := v103.1) (tgt := 192) dX12_operand_187 (by decide) (fun cc => ?_) (fun cc => ?_)
                      · replace h := bu_bt h cc
                        refine bv_aload_n dX12_operand_192 0 rfl ?_
                        refine bv_iload_n dX12_operand_193 3 rfl ?_
                        refine bv_iconst (v := 0) dX12_operand_194 (by decide) ?_
                        refine bv_aload_n dX12_operand_195 0 rfl ?_
                        refine bz_getI hN okL_164 dX12_operand_196 fl_12_210 rfl ?_
                        obtain ⟨v105, p106, h⟩ := bu_bd h
                        refine bw_callVv (As := [.int v5, .int 0, .int (v103.2 164 18)]) hN okL_164 ⟨_, _, rfl⟩ dX12_operand_199 mc_12_456 (c_X12_putCode (d := d + 1) hN hR p106) rfl rfl (by decide) ?_
                        refine bv_aload_n dX12_operand_202 0 rfl ?_
                        obtain ⟨v107, p108, h⟩ := bu_bd h
                        refine bw_callVv (As := []) hN okL_164 ⟨_, _, rfl⟩ dX12_operand_203 mc_12_203 (c_X12_next (d := d + 0) hN hR p108) rfl rfl (by decide) ?_
                        refine bv_iconst (v := 1) dX12_operand_206 (by decide) ?_
                        obtain rfl := Option.some.inj h
                        exact bw_bret (b := true) dX12_operand_207 rfl ⟨rfl, rfl⟩
                      · replace h := bu_bf h cc
                        refine bv_iconst (v := 0) dX12_operand_190 (by decide) ?_
                        obtain rfl := Option.some.inj h
                        exact bw_bret (b := false) dX12_operand_191 rfl ⟨rfl, rfl⟩
                    · replace h := bu_f h cc
                      refine bv_aload_n dX12_operand_157 0 rfl ?_
                      refine bv_iconst (v := 0) dX12_operand_158 (by decide) ?_
                      refine bv_aload_n dX12_operand_159 0 rfl ?_
                      refine bz_getA (a := 166) hN okL_164 (hR _ _ _ r0_164_6) dX12_operand_160 fl_12_33 rfl ?_
                      refine bv_iconst (v := 0) dX12_operand_163 (by decide) ?_
                      refine bz_iald (j := 0) hN rkL_166 (bm_ix_in (by decide)) (by decide) dX12_operand_164 ?_
                      obtain ⟨v109, p110, h⟩ := bu_bd h
                      refine bw_callV (As := [.int 0, .int ((bm_uI v85.1 164 42 (bm_bi true)) 166 0)]) hN okL_164 ⟨_, _, rfl⟩ dX12_operand_165 mc_12_225 (c_X12_looksAt (d := d + 0) hN hR p110) rfl rfl (by decide) ?_
                      refine bv_goto (tgt := 183) dX12_operand_168 (by decide) ?_
                      refine bv_istore (ls1 := [(0, .ref 164), (1, .int (bm_bi v1)), (2, .int (bm_bi v3)), (3, .int v5), (4, .int (bm_bi v109.1))]) dX12_operand_183 (by decide) rfl rfl ?_
                      refine bv_iload dX12_operand_185 4 rfl ?_
                      refine bw_ifB_ne (b := v109.1) (tgt := 192) dX12_operand_187 (by decide) (fun cc => ?_) (fun cc => ?_)
                      · replace h := bu_bt h cc
                        refine bv_aload_n dX12_operand_192 0 rfl ?_
                        refine bv_iload_n dX12_operand_193 3 rfl ?_
                        refine bv_iconst (v := 0) dX12_operand_194 (by decide) ?_
                        refine bv_aload_n dX12_operand_195 0 rfl ?_
                        refine bz_getI hN okL_164 dX12_operand_196 fl_12_210 rfl ?_
                        obtain ⟨v111, p112, h⟩ := bu_bd h
                        refine bw_callVv (As := [.int v5, .int 0, .int (v109.2 164 18)]) hN okL_164 ⟨_, _, rfl⟩ dX12_operand_199 mc_12_456 (c_X12_putCode (d := d + 1) hN hR p112) rfl rfl (by decide) ?_
                        refine bv_aload_n dX12_operand_202 0 rfl ?_
                        obtain ⟨v113, p114, h⟩ := bu_bd h
                        refine bw_callVv (As := []) hN okL_164 ⟨_, _, rfl⟩ dX12_operand_203 mc_12_203 (c_X12_next (d := d + 0) hN hR p114) rfl rfl (by decide) ?_
                        refine bv_iconst (v := 1) dX12_operand_206 (by decide) ?_
                        obtain rfl := Option.some.inj h
                        exact bw_bret (b := true) dX12_operand_207 rfl ⟨rfl, rfl⟩
                      · replace h := bu_bf h cc
                        refine bv_iconst (v := 0) dX12_operand_190 (by decide) ?_
                        obtain rfl := Option.some.inj h
                        exact bw_bret (b := false) dX12_operand_191 rfl ⟨rfl, rfl⟩
                · replace h := bu_f h cc
                  refine bv_aload_n dX12_operand_136 0 rfl ?_
                  refine bv_iload_n dX12_operand_137 3 rfl ?_
                  refine bv_iconst (v := 0) dX12_operand_138 (by decide) ?_
                  refine bv_iconst (v := 0) dX12_operand_139 (by decide) ?_
                  obtain ⟨v115, p116, h⟩ := bu_bd h
                  refine bw_callVv (As := [.int v5, .int 0, .int 0]) hN okL_164 ⟨_, _, rfl⟩ dX12_operand_140 mc_12_456 (c_X12_putCode (d := d + 1) hN hR p116) rfl rfl (by decide) ?_
                  refine bv_iconst (v := 1) dX12_operand_143 (by decide) ?_
                  obtain rfl := Option.some.inj h
                  exact bw_bret (b := true) dX12_operand_144 rfl ⟨rfl, rfl⟩
              · replace h := bu_bt h cc
                refine bv_aload_n dX12_operand_84 0 rfl ?_
                refine bz_getA (a := 176) hN okL_164 (hR _ _ _ r0_164_37) dX12_operand_85 fl_12_77 rfl ?_
                refine bv_aload_n dX12_operand_88 0 rfl ?_
                refine bz_getI hN okL_164 dX12_operand_89 fl_12_453 rfl ?_
                refine bv_iload_n dX12_operand_92 1 rfl ?_
                refine bw_ifB_eq (b := v1) (tgt := 101) dX12_operand_93 (by decide) (fun cc => ?_) (fun cc => ?_)
                · replace h := bu_bf h cc
                  refine bv_bipush (v := 23) dX12_operand_101 (by decide) ?_
                  obtain ⟨r117, h⟩ := bu_ix h
                  refine bz_iast hN rkL_176 r117 rfl dX12_operand_103 ?_
                  refine bv_aload_n dX12_operand_104 0 rfl ?_
                  refine bv_dup dX12_operand_105 rfl ?_
                  refine bz_getI hN okL_164 dX12_operand_106 fl_12_453 rfl ?_
                  refine bv_iconst (v := 1) dX12_operand_109 (by decide) ?_
                  refine bv_iadd dX12_operand_110 ?_
                  refine bz_putI hN okL_164 dX12_operand_111 fl_12_453 rfl ?_
                  refine bv_aload_n dX12_operand_114 0 rfl ?_
                  refine bv_dup dX12_operand_115 rfl ?_
                  refine bz_getI hN okL_164 dX12_operand_116 fl_12_460 rfl ?_
                  refine bv_iconst (v := 1) dX12_operand_119 (by decide) ?_
                  refine bv_iadd dX12_operand_120 ?_
                  refine bz_putI hN okL_164 dX12_operand_121 fl_12_460 rfl ?_
                  refine bv_iconst (v := 1) dX12_operand_124 (by decide) ?_
                  obtain rfl := Option.some.inj h
                  exact bw_bret (b := true) dX12_operand_125 rfl ⟨rfl, rfl⟩
                · replace h := bu_bt h cc
                  refine bv_bipush (v := 20) dX12_operand_96 (by decide) ?_
                  refine bv_goto (tgt := 103) dX12_operand_98 (by decide) ?_
                  obtain ⟨r118, h⟩ := bu_ix h
                  refine bz_iast hN rkL_176 r118 rfl dX12_operand_103 ?_
                  refine bv_aload_n dX12_operand_104 0 rfl ?_
                  refine bv_dup dX12_operand_105 rfl ?_
                  refine bz_getI hN okL_164 dX12_operand_106 fl_12_453 rfl ?_
                  refine bv_iconst (v := 1) dX12_operand_109 (by decide) ?_
                  refine bv_iadd dX12_operand_110 ?_
                  refine bz_putI hN okL_164 dX12_operand_111 fl_12_453 rfl ?_
                  refine bv_aload_n dX12_operand_114 0 rfl ?_
                  refine bv_dup dX12_operand_115 rfl ?_
                  refine bz_getI hN okL_164 dX12_operand_116 fl_12_460 rfl ?_
                  refine bv_iconst (v := 1) dX12_operand_119 (by decide) ?_
                  refine bv_iadd dX12_operand_120 ?_
                  refine bz_putI hN okL_164 dX12_operand_121 fl_12_460 rfl ?_
                  refine bv_iconst (v := 1) dX12_operand_124 (by decide) ?_
                  obtain rfl := Option.some.inj h
                  exact bw_bret (b := true) dX12_operand_125 rfl ⟨rfl, rfl⟩
          · replace h := bu_f h cc
            refine bv_aload_n dX12_operand_56 0 rfl ?_
            refine bv_iconst (v := 4) dX12_operand_57 (by decide) ?_
            obtain ⟨v119, p120, h⟩ := bu_bd h
            refine bw_callV (As := [.int 4]) hN okL_164 ⟨_, _, rfl⟩ dX12_operand_58 mc_12_200 (c_X12_bad (d := d + 1) hN hR p120) rfl rfl (by decide) ?_
            obtain rfl := Option.some.inj h
            exact bw_bret (b := v119.1) dX12_operand_61 rfl ⟨rfl, rfl⟩
      · replace h := bu_f h cc
        refine bv_aload_n dX12_operand_32 0 rfl ?_
        refine bv_iconst (v := 1) dX12_operand_33 (by decide) ?_
        obtain ⟨v121, p122, h⟩ := bu_bd h
        refine bw_callV (As := [.int 1]) hN okL_164 ⟨_, _, rfl⟩ dX12_operand_34 mc_12_200 (c_X12_bad (d := d + 1) hN hR p122) rfl rfl (by decide) ?_
        obtain rfl := Option.some.inj h
        exact bw_bret (b := v121.1) dX12_operand_37 rfl ⟨rfl, rfl⟩
def f_X12_behind (I : bm_TI) (J : bm_TJ) : Option (Bool × bm_TI × bm_TJ) := ((f_X12_nots I).bind fun v1 => ((f_X12_isWord v1 J 6385252).bind fun v3 => (if v3 = true then ((f_X12_isWord v1 J 6385252).bind fun v5 => (if v5 = true then ((f_X12_joins v1 21).bind fun v17 => ((f_X12_isWord v17 J 6385252).bind fun v19 => (if v19 = true then (if bm_ix 45 (v17 164 40) = true then ((f_X12_next (bm_uI (bm_uI (bm_uI v17 176 ((v17 164 40).toNatClampNeg) 21) 164 40 (((bm_uI v17 176 ((v17 164 40).toNatClampNeg) 21) 164 40) + 1)) 164 42 (bm_bi false)) J).bind fun v25 => some (true, v25.1, v25.2)) else none) else (if bm_ix 45 (v17 164 40) = true then ((f_X12_next (bm_uI (bm_uI (bm_uI v17 176 ((v17 164 40).toNatClampNeg) 22) 164 40 (((bm_uI v17 176 ((v17 164 40).toNatClampNeg) 22) 164 40) + 1)) 164 42 (bm_bi false)) J).bind fun v22 => some (true, v22.1, v22.2)) else none)))) else ((f_X12_joins v1 22).bind fun v7 => ((f_X12_isWord v7 J 6385252).bind fun v9 => (if v9 = true then (if bm_ix 45 (v7 164 40) = true then ((f_X12_next (bm_uI (bm_uI (bm_uI v7 176 ((v7 164 40).toNatClampNeg) 21) 164 40 (((bm_uI v7 176 ((v7 164 40).toNatClampNeg) 21) 164 40) + 1)) 164 42 (bm_bi false)) J).bind fun v15 => some (true, v15.1, v15.2)) else none) else (if bm_ix 45 (v7 164 40) = true then ((f_X12_next (bm_uI (bm_uI (bm_uI v7 176 ((v7 164 40).toNatClampNeg) 22) 164 40 (((bm_uI v7 176 ((v7 164 40).toNatClampNeg) 22) 164 40) + 1)) 164 42 (bm_bi false)) J).bind fun v12 => some (true, v12.1, v12.2)) else none)))))) else ((f_X12_isWord v1 J 28530).bind fun v27 => (if v27 = true then ((f_X12_isWord v1 J 6385252).bind fun v39 => (if v39 = true then ((f_X12_joins v1 21).bind fun v51 => ((f_X12_isWord v51 J 6385252).bind fun v53 => (if v53 = true then (if bm_ix 45 (v51 164 40) = true then ((f_X12_next (bm_uI (bm_uI (bm_uI v51 176 ((v51 164 40).toNatClampNeg) 21) 164 40 (((bm_uI v51 176 ((v51 164 40).toNatClampNeg) 21) 164 40) + 1)) 164 42 (bm_bi false)) J).bind fun v59 => some (true, v59.1, v59.2)) else none) else (if bm_ix 45 (v51 164 40) = true then ((f_X12_next (bm_uI (bm_uI (bm_uI v51 176 ((v51 164 40).toNatClampNeg) 22) 164 40 (((bm_uI v51 176 ((v51 164 40).toNatClampNeg) 22) 164 40) + 1)) 164 42 (bm_bi false)) J).bind fun v56 => some (true, v56.1, v56.2)) else none)))) else ((f_X12_joins v1 22).bind fun v41 => ((f_X12_isWord v41 J 6385252).bind fun v43 => (if v43 = true then (if bm_ix 45 (v41 164 40) = true then ((f_X12_next (bm_uI (bm_uI (bm_uI v41 176 ((v41 164 40).toNatClampNeg) 21) 164 40 (((bm_uI v41 176 ((v41 164 40).toNatClampNeg) 21) 164 40) + 1)) 164 42 (bm_bi false)) J).bind fun v49 => some (true, v49.1, v49.2)) else none) else (if bm_ix 45 (v41 164 40) = true then ((f_X12_next (bm_uI (bm_uI (bm_uI v41 176 ((v41 164 40).toNatClampNeg) 22) 164 40 (((bm_uI v41 176 ((v41 164 40).toNatClampNeg) 22) 164 40) + 1)) 164 42 (bm_bi false)) J).bind fun v46 => some (true, v46.1, v46.2)) else none)))))) else ((f_X12_joins v1 22).bind fun v29 => ((f_X12_isSign v29 41).bind fun v31 => (if v31 = true then (if (v29 164 40) = 0 then ((f_X12_bad v29 1).bind fun v37 => some (v37.1, v37.2, J)) else ((f_X12_next (bm_uI (bm_uI v29 164 40 ((v29 164 40) - 1)) 164 41 (((bm_uI v29 164 40 ((v29 164 40) - 1)) 164 41) - 1)) J).bind fun v35 => some (true, v35.1, v35.2))) else ((f_X12_bad v29 1).bind fun v33 => some (v33.1, v33.2, J))))))))))
set_option maxHeartbeats 4000000 in
set_option maxRecDepth 100000 in
theorem c_X12_behind {lc : bm_L} {d n : Nat} {I : bm_TI} {J : bm_TJ} {R W : bm_TR} {v : Bool × bm_TI × bm_TJ} (hN : 181 ≤ n) (hR : bm_RR R) (h : f_X12_behind I J = some v) : bm_C lc m_X12_behind (d + 2) n n [.ref 164] (I, J, R, W) (fun r M' => r = some (.int (bm_bi v.1)) ∧ M' = (v.2.1, v.2.2, R, W)) := by
  refine bm_C.ofV (by decide) (Nat.le_of_ble_eq_true rfl) ?_
  show bm_V lc m_X12_behind (d + 2) n n n 0 [(0, .ref 164)] [] (I, J, R, W) _
  unfold f_X12_behind at h
  refine bv_aload_n dX12_behind_0 0 rfl ?_
  obtain ⟨v1, p2, h⟩ := bu_bd h
  refine bw_callVv (As := []) hN okL_164 ⟨_, _, rfl⟩ dX12_behind_1 mc_12_472 (c_X12_nots (d := d + 0) hN hR p2) rfl rfl (by decide) ?_
  refine bv_aload_n dX12_behind_4 0 rfl ?_
  refine bv_ldc2 (v := 6385252) dX12_behind_5 cst_12_139 ?_
  obtain ⟨v3, p4, h⟩ := bu_bd h
  refine bw_callV (As := [.long 6385252]) hN okL_164 ⟨_, _, rfl⟩ dX12_behind_8 mc_12_237 (c_X12_isWord (d := d + 1) hN hR p4) rfl rfl (by decide) ?_
  refine bw_ifB_ne (b := v3) (tgt := 24) dX12_behind_11 (by decide) (fun cc => ?_) (fun cc => ?_)
  · replace h := bu_bt h cc
    refine bv_aload_n dX12_behind_24 0 rfl ?_
    refine bv_aload_n dX12_behind_25 0 rfl ?_
    refine bv_ldc2 (v := 6385252) dX12_behind_26 cst_12_139 ?_
    obtain ⟨v5, p6, h⟩ := bu_bd h
    refine bw_callV (As := [.long 6385252]) hN okL_164 ⟨_, _, rfl⟩ dX12_behind_29 mc_12_237 (c_X12_isWord (d := d + 1) hN hR p6) rfl rfl (Nat.le_of_ble_eq_true rfl) ?_
    refine bw_ifB_eq (b := v5) (tgt := 40) dX12_behind_32 (by decide) (fun cc => ?_) (fun cc => ?_)
    · replace h := bu_bf h cc
      refine bv_bipush (v := 22) dX12_behind_40 (by decide) ?_
      obtain ⟨v7, p8, h⟩ := bu_bd h
      refine bw_callVv (As := [.int 22]) hN okL_164 ⟨_, _, rfl⟩ dX12_behind_42 mc_12_475 (c_X12_joins (d := d + 0) hN hR p8) rfl rfl (by decide) ?_
      refine bv_aload_n dX12_behind_45 0 rfl ?_
      refine bz_getA (a := 176) hN okL_164 (hR _ _ _ r0_164_37) dX12_behind_46 fl_12_77 rfl ?_
      refine bv_aload_n dX12_behind_49 0 rfl ?_
      refine bz_getI hN okL_164 dX12_behind_50 fl_12_453 rfl ?_
      refine bv_aload_n dX12_behind_53 0 rfl ?_
      refine bv_ldc2 (v := 6385252) dX12_behind_54 cst_12_139 ?_
      obtain ⟨v9, p10, h⟩ := bu_bd h
      refine bw_callV (As := [.long 6385252]) hN okL_164 ⟨_, _, rfl⟩ dX12_behind_57 mc_12_237 (c_X12_isWord (d := d + 1) hN hR p10) rfl rfl (Nat.le_of_ble_eq_true rfl) ?_
      refine bw_ifB_eq (b := v9) (tgt := 68) dX12_behind_60 (by decide) (fun cc => ?_) (fun cc => ?_)
      · replace h := bu_bf h cc
        refine bv_bipush (v := 22) dX12_behind_68 (by decide) ?_
        obtain ⟨r11, h⟩ := bu_ix h
        refine bz_iast hN rkL_176 r11 rfl dX12_behind_70 ?_
        refine bv_aload_n dX12_behind_71 0 rfl ?_
        refine bv_dup dX12_behind_72 rfl ?_
        refine bz_getI hN okL_164 dX12_behind_73 fl_12_453 rfl ?_
        refine bv_iconst (v := 1) dX12_behind_76 (by decide) ?_
        refine bv_iadd dX12_behind_77 ?_
        refine bz_putI hN okL_164 dX12_behind_78 fl_12_453 rfl ?_
        refine bv_aload_n dX12_behind_81 0 rfl ?_
        refine bv_iconst (v := 0) dX12_behind_82 (by decide) ?_
        refine bz_putB (v := false) hN okL_164 dX12_behind_83 fl_12_469 rfl ?_
        refine bv_aload_n dX12_behind_86 0 rfl ?_
        obtain ⟨v12, p13, h⟩ := bu_bd h
        refine bw_callVv (As := []) hN okL_164 ⟨_, _, rfl⟩ dX12_behind_87 mc_12_203 (c_X12_next (d := d + 0) hN hR p13) rfl rfl (by decide) ?_
        refine bv_iconst (v := 1) dX12_behind_90 (by decide) ?_
        obtain rfl := Option.some.inj h
        exact bw_bret (b := true) dX12_behind_91 rfl ⟨rfl, rfl⟩
      · replace h := bu_bt h cc
        refine bv_bipush (v := 21) dX12_behind_63 (by decide) ?_
        refine bv_goto (tgt := 70) dX12_behind_65 (by decide) ?_
        obtain ⟨r14, h⟩ := bu_ix h
        refine bz_iast hN rkL_176 r14 rfl dX12_behind_70 ?_
        refine bv_aload_n dX12_behind_71 0 rfl ?_
        refine bv_dup dX12_behind_72 rfl ?_
        refine bz_getI hN okL_164 dX12_behind_73 fl_12_453 rfl ?_
        refine bv_iconst (v := 1) dX12_behind_76 (by decide) ?_
        refine bv_iadd dX12_behind_77 ?_
        refine bz_putI hN okL_164 dX12_behind_78 fl_12_453 rfl ?_
        refine bv_aload_n dX12_behind_81 0 rfl ?_
        refine bv_iconst (v := 0) dX12_behind_82 (by decide) ?_
        refine bz_putB (v := false) hN okL_164 dX12_behind_83 fl_12_469 rfl ?_
        refine bv_aload_n dX12_behind_86 0 rfl ?_
        obtain ⟨v15, p16, h⟩ := bu_bd h
        refine bw_callVv (As := []) hN okL_164 ⟨_, _, rfl⟩ dX12_behind_87 mc_12_203 (c_X12_next (d := d + 0) hN hR p16) rfl rfl (by decide) ?_
        refine bv_iconst (v := 1) dX12_behind_90 (by decide) ?_
        obtain rfl := Option.some.inj h
        exact bw_bret (b := true) dX12_behind_91 rfl ⟨rfl, rfl⟩
    · replace h := bu_bt h cc
      refine bv_bipush (v := 21) dX12_behind_35 (by decide) ?_
      refine bv_goto (tgt := 42) dX12_behind_37 (by decide) ?_
      obtain ⟨v17, p18, h⟩ := bu_bd h
      refine bw_callVv (As := [.int 21]) hN okL_164 ⟨_, _, rfl⟩ dX12_behind_42 mc_12_475 (c_X12_joins (d := d + 0) hN hR p18) rfl rfl (by decide) ?_
      refine bv_aload_n dX12_behind_45 0 rfl ?_
      refine bz_getA (a := 176) hN okL_164 (hR _ _ _ r0_164_37) dX12_behind_46 fl_12_77 rfl ?_
      refine bv_aload_n dX12_behind_49 0 rfl ?_
      refine bz_getI hN okL_164 dX12_behind_50 fl_12_453 rfl ?_
      refine bv_aload_n dX12_behind_53 0 rfl ?_
      refine bv_ldc2 (v := 6385252) dX12_behind_54 cst_12_139 ?_
      obtain ⟨v19, p20, h⟩ := bu_bd h
      refine bw_callV (As := [.long 6385252]) hN okL_164 ⟨_, _, rfl⟩ dX12_behind_57 mc_12_237 (c_X12_isWord (d := d + 1) hN hR p20) rfl rfl (Nat.le_of_ble_eq_true rfl) ?_
      refine bw_ifB_eq (b := v19) (tgt := 68) dX12_behind_60 (by decide) (fun cc => ?_) (fun cc => ?_)
      · replace h := bu_bf h cc
        refine bv_bipush (v := 22) dX12_behind_68 (by decide) ?_
        obtain ⟨r21, h⟩ := bu_ix h
        refine bz_iast hN rkL_176 r21 rfl dX12_behind_70 ?_
        refine bv_aload_n dX12_behind_71 0 rfl ?_
        refine bv_dup dX12_behind_72 rfl ?_
        refine bz_getI hN okL_164 dX12_behind_73 fl_12_453 rfl ?_
        refine bv_iconst (v := 1) dX12_behind_76 (by decide) ?_
        refine bv_iadd dX12_behind_77 ?_
        refine bz_putI hN okL_164 dX12_behind_78 fl_12_453 rfl ?_
        refine bv_aload_n dX12_behind_81 0 rfl ?_
        refine bv_iconst (v := 0) dX12_behind_82 (by decide) ?_
        refine bz_putB (v := false) hN okL_164 dX12_behind_83 fl_12_469 rfl ?_
        refine bv_aload_n dX12_behind_86 0 rfl ?_
        obtain ⟨v22, p23, h⟩ := bu_bd h
        refine bw_callVv (As := []) hN okL_164 ⟨_, _, rfl⟩ dX12_behind_87 mc_12_203 (c_X12_next (d := d + 0) hN hR p23) rfl rfl (by decide) ?_
        refine bv_iconst (v := 1) dX12_behind_90 (by decide) ?_
        obtain rfl := Option.some.inj h
        exact bw_bret (b := true) dX12_behind_91 rfl ⟨rfl, rfl⟩
      · replace h := bu_bt h cc
        refine bv_bipush (v := 21) dX12_behind_63 (by decide) ?_
        refine bv_goto (tgt := 70) dX12_behind_65 (by decide) ?_
        obtain ⟨r24, h⟩ := bu_ix h
        refine bz_iast hN rkL_176 r24 rfl dX12_behind_70 ?_
        refine bv_aload_n dX12_behind_71 0 rfl ?_
        refine bv_dup dX12_behind_72 rfl ?_
        refine bz_getI hN okL_164 dX12_behind_73 fl_12_453 rfl ?_
        refine bv_iconst (v := 1) dX12_behind_76 (by decide) ?_
        refine bv_iadd dX12_behind_77 ?_
        refine bz_putI hN okL_164 dX12_behind_78 fl_12_453 rfl ?_
        refine bv_aload_n dX12_behind_81 0 rfl ?_
        refine bv_iconst (v := 0) dX12_behind_82 (by decide) ?_
        refine bz_putB (v := false) hN okL_164 dX12_behind_83 fl_12_469 rfl ?_
        refine bv_aload_n dX12_behind_86 0 rfl ?_
        obtain ⟨v25, p26, h⟩ := bu_bd h
        refine bw_callVv (As := []) hN okL_164 ⟨_, _, rfl⟩ dX12_behind_87 mc_12_203 (c_X12_next (d := d + 0) hN hR p26) rfl rfl (by decide) ?_
        refine bv_iconst (v := 1) dX12_behind_90 (by decide) ?_
        obtain rfl := Option.some.inj h
        exact bw_bret (b := true) dX12_behind_91 rfl ⟨rfl, rfl⟩
  · replace h := bu_bf h cc
    refine bv_aload_n dX12_behind_14 0 rfl ?_
    refine bv_ldc2 (v := 28530) dX12_behind_15 cst_12_137 ?_
    obtain ⟨v27, p28, h⟩ := bu_bd h
    refine bw_callV (As := [.long 28530]) hN okL_164 ⟨_, _, rfl⟩ dX12_behind_18 mc_12_237 (c_X12_isWord (d := d + 1) hN hR p28) rfl rfl (by decide) ?_
    refine bw_ifB_eq (b := v27) (tgt := 92) dX12_behind_21 (by decide) (fun cc => ?_) (fun cc => ?_)
    · replace h := bu_bf h cc
      refine bv_aload_n dX12_behind_92 0 rfl ?_
      refine bv_bipush (v := 22) dX12_behind_93 (by decide) ?_
      obtain ⟨v29, p30, h⟩ := bu_bd h
      refine bw_callVv (As := [.int 22]) hN okL_164 ⟨_, _, rfl⟩ dX12_behind_95 mc_12_475 (c_X12_joins (d := d + 0) hN hR p30) rfl rfl (by decide) ?_
      refine bv_aload_n dX12_behind_98 0 rfl ?_
      refine bv_bipush (v := 41) dX12_behind_99 (by decide) ?_
      obtain ⟨v31, p32, h⟩ := bu_bd h
      refine bw_callV (As := [.int 41]) hN okL_164 ⟨_, _, rfl⟩ dX12_behind_101 mc_12_197 (c_X12_isSign (d := d + 1) hN hR p32) rfl rfl (by decide) ?_
      refine bw_ifB_eq (b := v31) (tgt := 114) dX12_behind_104 (by decide) (fun cc => ?_) (fun cc => ?_)
      · replace h := bu_bf h cc
        refine bv_aload_n dX12_behind_114 0 rfl ?_
        refine bv_iconst (v := 1) dX12_behind_115 (by decide) ?_
        obtain ⟨v33, p34, h⟩ := bu_bd h
        refine bw_callV (As := [.int 1]) hN okL_164 ⟨_, _, rfl⟩ dX12_behind_116 mc_12_200 (c_X12_bad (d := d + 1) hN hR p34) rfl rfl (by decide) ?_
        obtain rfl := Option.some.inj h
        exact bw_bret (b := v33.1) dX12_behind_119 rfl ⟨rfl, rfl⟩
      · replace h := bu_bt h cc
        refine bv_aload_n dX12_behind_107 0 rfl ?_
        refine bz_getI hN okL_164 dX12_behind_108 fl_12_453 rfl ?_
        refine bv_if_ne (tgt := 120) dX12_behind_111 (by decide) (fun cc => ?_) (fun cc => ?_)
        · replace h := bu_f h cc
          refine bv_aload_n dX12_behind_120 0 rfl ?_
          refine bv_dup dX12_behind_121 rfl ?_
          refine bz_getI hN okL_164 dX12_behind_122 fl_12_453 rfl ?_
          refine bv_iconst (v := 1) dX12_behind_125 (by decide) ?_
          refine bv_isub dX12_behind_126 ?_
          refine bz_putI hN okL_164 dX12_behind_127 fl_12_453 rfl ?_
          refine bv_aload_n dX12_behind_130 0 rfl ?_
          refine bv_dup dX12_behind_131 rfl ?_
          refine bz_getI hN okL_164 dX12_behind_132 fl_12_460 rfl ?_
          refine bv_iconst (v := 1) dX12_behind_135 (by decide) ?_
          refine bv_isub dX12_behind_136 ?_
          refine bz_putI hN okL_164 dX12_behind_137 fl_12_460 rfl ?_
          refine bv_aload_n dX12_behind_140 0 rfl ?_
          obtain ⟨v35, p36, h⟩ := bu_bd h
          refine bw_callVv (As := []) hN okL_164 ⟨_, _, rfl⟩ dX12_behind_141 mc_12_203 (c_X12_next (d := d + 0) hN hR p36) rfl rfl (by decide) ?_
          refine bv_iconst (v := 1) dX12_behind_144 (by decide) ?_
          obtain rfl := Option.some.inj h
          exact bw_bret (b := true) dX12_behind_145 rfl ⟨rfl, rfl⟩
        · replace h := bu_t h cc
          refine bv_aload_n dX12_behind_114 0 rfl ?_
          refine bv_iconst (v := 1) dX12_behind_115 (by decide) ?_
          obtain ⟨v37, p38, h⟩ := bu_bd h
          refine bw_callV (As := [.int 1]) hN okL_164 ⟨_, _, rfl⟩ dX12_behind_116 mc_12_200 (c_X12_bad (d := d + 1) hN hR p38) rfl rfl (by decide) ?_
          obtain rfl := Option.some.inj h
          exact bw_bret (b := v37.1) dX12_behind_119 rfl ⟨rfl, rfl⟩
    · replace h := bu_bt h cc
      refine bv_aload_n dX12_behind_24 0 rfl ?_
      refine bv_aload_n dX12_behind_25 0 rfl ?_
      refine bv_ldc2 (v := 6385252) dX12_behind_26 cst_12_139 ?_
      obtain ⟨v39, p40, h⟩ := bu_bd h
      refine bw_callV (As := [.long 6385252]) hN okL_164 ⟨_, _, rfl⟩ dX12_behind_29 mc_12_237 (c_X12_isWord (d := d + 1) hN hR p40) rfl rfl (Nat.le_of_ble_eq_true rfl) ?_
      refine bw_ifB_eq (b := v39) (tgt := 40) dX12_behind_32 (by decide) (fun cc => ?_) (fun cc => ?_)
      · replace h := bu_bf h cc
        refine bv_bipush (v := 22) dX12_behind_40 (by decide) ?_
        obtain ⟨v41, p42, h⟩ := bu_bd h
        refine bw_callVv (As := [.int 22]) hN okL_164 ⟨_, _, rfl⟩ dX12_behind_42 mc_12_475 (c_X12_joins (d := d + 0) hN hR p42) rfl rfl (by decide) ?_
        refine bv_aload_n dX12_behind_45 0 rfl ?_
        refine bz_getA (a := 176) hN okL_164 (hR _ _ _ r0_164_37) dX12_behind_46 fl_12_77 rfl ?_
        refine bv_aload_n dX12_behind_49 0 rfl ?_
        refine bz_getI hN okL_164 dX12_behind_50 fl_12_453 rfl ?_
        refine bv_aload_n dX12_behind_53 0 rfl ?_
        refine bv_ldc2 (v := 6385252) dX12_behind_54 cst_12_139 ?_
        obtain ⟨v43, p44, h⟩ := bu_bd h
        refine bw_callV (As := [.long 6385252]) hN okL_164 ⟨_, _, rfl⟩ dX12_behind_57 mc_12_237 (c_X12_isWord (d := d + 1) hN hR p44) rfl rfl (Nat.le_of_ble_eq_true rfl) ?_
        refine bw_ifB_eq (b := v43) (tgt := 68) dX12_behind_60 (by decide) (fun cc => ?_) (fun cc => ?_)
        · replace h := bu_bf h cc
          refine bv_bipush (v := 22) dX12_behind_68 (by decide) ?_
          obtain ⟨r45, h⟩ := bu_ix h
          refine bz_iast hN rkL_176 r45 rfl dX12_behind_70 ?_
          refine bv_aload_n dX12_behind_71 0 rfl ?_
          refine bv_dup dX12_behind_72 rfl ?_
          refine bz_getI hN okL_164 dX12_behind_73 fl_12_453 rfl ?_
          refine bv_iconst (v := 1) dX12_behind_76 (by decide) ?_
          refine bv_iadd dX12_behind_77 ?_
          refine bz_putI hN okL_164 dX12_behind_78 fl_12_453 rfl ?_
          refine bv_aload_n dX12_behind_81 0 rfl ?_
          refine bv_iconst (v := 0) dX12_behind_82 (by decide) ?_
          refine bz_putB (v := false) hN okL_164 dX12_behind_83 fl_12_469 rfl ?_
          refine bv_aload_n dX12_behind_86 0 rfl ?_
          obtain ⟨v46, p47, h⟩ := bu_bd h
          refine bw_callVv (As := []) hN okL_164 ⟨_, _, rfl⟩ dX12_behind_87 mc_12_203 (c_X12_next (d := d + 0) hN hR p47) rfl rfl (by decide) ?_
          refine bv_iconst (v := 1) dX12_behind_90 (by decide) ?_
          obtain rfl := Option.some.inj h
          exact bw_bret (b := true) dX12_behind_91 rfl ⟨rfl, rfl⟩
        · replace h := bu_bt h cc
          refine bv_bipush (v := 21) dX12_behind_63 (by decide) ?_
          refine bv_goto (tgt := 70) dX12_behind_65 (by decide) ?_
          obtain ⟨r48, h⟩ := bu_ix h
          refine bz_iast hN rkL_176 r48 rfl dX12_behind_70 ?_
          refine bv_aload_n dX12_behind_71 0 rfl ?_
          refine bv_dup dX12_behind_72 rfl ?_
          refine bz_getI hN okL_164 dX12_behind_73 fl_12_453 rfl ?_
          refine bv_iconst (v := 1) dX12_behind_76 (by decide) ?_
          refine bv_iadd dX12_behind_77 ?_
          refine bz_putI hN okL_164 dX12_behind_78 fl_12_453 rfl ?_
          refine bv_aload_n dX12_behind_81 0 rfl ?_
          refine bv_iconst (v := 0) dX12_behind_82 (by decide) ?_
          refine bz_putB (v := false) hN okL_164 dX12_behind_83 fl_12_469 rfl ?_
          refine bv_aload_n dX12_behind_86 0 rfl ?_
          obtain ⟨v49, p50, h⟩ := bu_bd h
          refine bw_callVv (As := []) hN okL_164 ⟨_, _, rfl⟩ dX12_behind_87 mc_12_203 (c_X12_next (d := d + 0) hN hR p50) rfl rfl (by decide) ?_
          refine bv_iconst (v := 1) dX12_behind_90 (by decide) ?_
          obtain rfl := Option.some.inj h
          exact bw_bret (b := true) dX12_behind_91 rfl ⟨rfl, rfl⟩
      · replace h := bu_bt h cc
        refine bv_bipush (v := 21) dX12_behind_35 (by decide) ?_
        refine bv_goto (tgt := 42) dX12_behind_37 (by decide) ?_
        obtain ⟨v51, p52, h⟩ := bu_bd h
        refine bw_callVv (As := [.int 21]) hN okL_164 ⟨_, _, rfl⟩ dX12_behind_42 mc_12_475 (c_X12_joins (d := d + 0) hN hR p52) rfl rfl (by decide) ?_
        refine bv_aload_n dX12_behind_45 0 rfl ?_
        refine bz_getA (a := 176) hN okL_164 (hR _ _ _ r0_164_37) dX12_behind_46 fl_12_77 rfl ?_
        refine bv_aload_n dX12_behind_49 0 rfl ?_
        refine bz_getI hN okL_164 dX12_behind_50 fl_12_453 rfl ?_
        refine bv_aload_n dX12_behind_53 0 rfl ?_
        refine bv_ldc2 (v := 6385252) dX12_behind_54 cst_12_139 ?_
        obtain ⟨v53, p54, h⟩ := bu_bd h
        refine bw_callV (As := [.long 6385252]) hN okL_164 ⟨_, _, rfl⟩ dX12_behind_57 mc_12_237 (c_X12_isWord (d := d + 1) hN hR p54) rfl rfl (Nat.le_of_ble_eq_true rfl) ?_
        refine bw_ifB_eq (b := v53) (tgt := 68) dX12_behind_60 (by decide) (fun cc => ?_) (fun cc => ?_)
        · replace h := bu_bf h cc
          refine bv_bipush (v := 22) dX12_behind_68 (by decide) ?_
          obtain ⟨r55, h⟩ := bu_ix h
          refine bz_iast hN rkL_176 r55 rfl dX12_behind_70 ?_
          refine bv_aload_n dX12_behind_71 0 rfl ?_
          refine bv_dup dX12_behind_72 rfl ?_
          refine bz_getI hN okL_164 dX12_behind_73 fl_12_453 rfl ?_
          refine bv_iconst (v := 1) dX12_behind_76 (by decide) ?_
          refine bv_iadd dX12_behind_77 ?_
          refine bz_putI hN okL_164 dX12_behind_78 fl_12_453 rfl ?_
          refine bv_aload_n dX12_behind_81 0 rfl ?_
          refine bv_iconst (v := 0) dX12_behind_82 (by decide) ?_
          refine bz_putB (v := false) hN okL_164 dX12_behind_83 fl_12_469 rfl ?_
          refine bv_aload_n dX12_behind_86 0 rfl ?_
          obtain ⟨v56, p57, h⟩ := bu_bd h
          refine bw_callVv (As := []) hN okL_164 ⟨_, _, rfl⟩ dX12_behind_87 mc_12_203 (c_X12_next (d := d + 0) hN hR p57) rfl rfl (by decide) ?_
          refine bv_iconst (v := 1) dX12_behind_90 (by decide) ?_
          obtain rfl := Option.some.inj h
          exact bw_bret (b := true) dX12_behind_91 rfl ⟨rfl, rfl⟩
        · replace h := bu_bt h cc
          refine bv_bipush (v := 21) dX12_behind_63 (by decide) ?_
          refine bv_goto (tgt := 70) dX12_behind_65 (by decide) ?_
          obtain ⟨r58, h⟩ := bu_ix h
          refine bz_iast hN rkL_176 r58 rfl dX12_behind_70 ?_
          refine bv_aload_n dX12_behind_71 0 rfl ?_
          refine bv_dup dX12_behind_72 rfl ?_
          refine bz_getI hN okL_164 dX12_behind_73 fl_12_453 rfl ?_
          refine bv_iconst (v := 1) dX12_behind_76 (by decide) ?_
          refine bv_iadd dX12_behind_77 ?_
          refine bz_putI hN okL_164 dX12_behind_78 fl_12_453 rfl ?_
          refine bv_aload_n dX12_behind_81 0 rfl ?_
          refine bv_iconst (v := 0) dX12_behind_82 (by decide) ?_
          refine bz_putB (v := false) hN okL_164 dX12_behind_83 fl_12_469 rfl ?_
          refine bv_aload_n dX12_behind_86 0 rfl ?_
          obtain ⟨v59, p60, h⟩ := bu_bd h
          refine bw_callVv (As := []) hN okL_164 ⟨_, _, rfl⟩ dX12_behind_87 mc_12_203 (c_X12_next (d := d + 0) hN hR p60) rfl rfl (by decide) ?_
          refine bv_iconst (v := 1) dX12_behind_90 (by decide) ?_
          obtain rfl := Option.some.inj h
          exact bw_bret (b := true) dX12_behind_91 rfl ⟨rfl, rfl⟩
def f_X12_sentence_l48 : Nat → Bool → bm_TI → bm_TJ → Option (((bm_TI × bm_TJ) ⊕ (((bm_TI × bm_TJ) ⊕ (((bm_TI × bm_TJ) ⊕ (bm_TI × bm_TJ)))))))
  | 0, _, _, _ => none
  | k + 1, x1, I, J => (if x1 = true then (if (I 164 42) = 0 then (if (I 164 42) = 0 then ((f_X12_operand I J).bind fun v1 => (if v1.1 = true then f_X12_sentence_l48 k x1 v1.2.1 v1.2.2 else some (Sum.inr (Sum.inr (Sum.inl (v1.2.1, v1.2.2)))))) else ((f_X12_behind I J).bind fun v3 => (if v3.1 = true then f_X12_sentence_l48 k x1 v3.2.1 v3.2.2 else some (Sum.inr (Sum.inl (v3.2.1, v3.2.2)))))) else (if (I 164 11) = 0 then ((f_X12_nots I).bind fun v9 => ((f_X12_joins v9 22).bind fun v11 => (if (v11 164 40) ≤ 0 then f_X12_sentence_l48 k false v11 J else some (Sum.inl (v11, J))))) else (if (I 164 42) = 0 then ((f_X12_operand I J).bind fun v5 => (if v5.1 = true then f_X12_sentence_l48 k x1 v5.2.1 v5.2.2 else some (Sum.inr (Sum.inr (Sum.inl (v5.2.1, v5.2.2)))))) else ((f_X12_behind I J).bind fun v7 => (if v7.1 = true then f_X12_sentence_l48 k x1 v7.2.1 v7.2.2 else some (Sum.inr (Sum.inl (v7.2.1, v7.2.2)))))))) else some (Sum.inr (Sum.inr (Sum.inr (I, J)))))
set_option maxHeartbeats 4000000 in
set_option maxRecDepth 100000 in
theorem v_X12_sentence_l48 {lc : bm_L} {d n : Nat} {Q : Option Value → bm_M → Prop} {R : bm_TR} {W : bm_TR} (hN : 181 ≤ n) (hR : bm_RR R) : ∀ (k : Nat) (x1 : Bool) (I : bm_TI) (J : bm_TJ) (r : ((bm_TI × bm_TJ) ⊕ (((bm_TI × bm_TJ) ⊕ (((bm_TI × bm_TJ) ⊕ (bm_TI × bm_TJ))))))), f_X12_sentence_l48 k x1 I J = some r → (∀ yy, (Sum.inl yy) = r → bm_V lc m_X12_sentence (d + 3) n n n 83 [(0, .ref 164)] [] (yy.1, yy.2, R, W) Q) → (∀ yy, (Sum.inr (Sum.inl yy)) = r → bm_V lc m_X12_sentence (d + 3) n n n 115 [(0, .ref 164)] [] (yy.1, yy.2, R, W) Q) → (∀ yy, (Sum.inr (Sum.inr (Sum.inl yy))) = r → bm_V lc m_X12_sentence (d + 3) n n n 125 [(0, .ref 164)] [] (yy.1, yy.2, R, W) Q) → (∀ yy, (Sum.inr (Sum.inr (Sum.inr yy))) = r → bm_V lc m_X12_sentence (d + 3) n n n 132 [(0, .ref 164)] [] (yy.1, yy.2, R, W) Q) → bm_V lc m_X12_sentence (d + 3) n n n 48 [(0, .ref 164), (1, .int (bm_bi x1))] [] (I, J, R, W) Q := by
  intro k
  induction k with
  | zero => intro x1 I J r h; cases (show (none : Option (((bm_TI × bm_TJ) ⊕ (((bm_TI × bm_TJ) ⊕ (((bm_TI × bm_TJ) ⊕ (bm_TI × bm_TJ)))))))) = some r from h)
  | succ k ih =>
    intro x1 I J r h K0 K1 K2 K3
    unfold f_X12_sentence_l48 at h
    refine bv_iload_n dX12_sentence_48 1 rfl ?_
    refine bw_ifB_eq (b := x1) (tgt := 132) dX12_sentence_49 (by decide) (fun cc => ?_) (fun cc => ?_)
    · replace h := bu_bf h cc
      refine bw_ls (ls1 := [(0, .ref 164)]) [0] rfl ?_
      obtain rfl := Option.some.inj h
      exact K3 _ rfl
    · replace h := bu_bt h cc
      refine bv_aload_n dX12_sentence_52 0 rfl ?_
      refine bz_getI hN okL_164 dX12_sentence_53 fl_12_469 rfl ?_
      refine bv_if_eq (tgt := 101) dX12_sentence_56 (by decide) (fun cc => ?_) (fun cc => ?_)
      · replace h := bu_t h cc
        refine bv_aload_n dX12_sentence_101 0 rfl ?_
        refine bz_getI hN okL_164 dX12_sentence_102 fl_12_469 rfl ?_
        refine bv_if_eq (tgt := 118) dX12_sentence_105 (by decide) (fun cc => ?_) (fun cc => ?_)
        · replace h := bu_t h cc
          refine bv_aload_n dX12_sentence_118 0 rfl ?_
          obtain ⟨v1, p2, h⟩ := bu_bd h
          refine bw_callV (As := []) hN okL_164 ⟨_, _, rfl⟩ dX12_sentence_119 mc_12_481 (c_X12_operand (d := d + 0) hN hR p2) rfl rfl (by decide) ?_
          refine bw_ifB_ne (b := v1.1) (tgt := 48) dX12_sentence_122 (by decide) (fun cc => ?_) (fun cc => ?_)
          · replace h := bu_bt h cc
            exact ih _ _ _ _ h K0 K1 K2 K3
          · replace h := bu_bf h cc
            refine bw_ls (ls1 := [(0, .ref 164)]) [0] rfl ?_
            obtain rfl := Option.some.inj h
            exact K2 _ rfl
        · replace h := bu_f h cc
          refine bv_aload_n dX12_sentence_108 0 rfl ?_
          obtain ⟨v3, p4, h⟩ := bu_bd h
          refine bw_callV (As := []) hN okL_164 ⟨_, _, rfl⟩ dX12_sentence_109 mc_12_478 (c_X12_behind (d := d + 0) hN hR p4) rfl rfl (by decide) ?_
          refine bw_ifB_ne (b := v3.1) (tgt := 48) dX12_sentence_112 (by decide) (fun cc => ?_) (fun cc => ?_)
          · replace h := bu_bt h cc
            exact ih _ _ _ _ h K0 K1 K2 K3
          · replace h := bu_bf h cc
            refine bw_ls (ls1 := [(0, .ref 164)]) [0] rfl ?_
            obtain rfl := Option.some.inj h
            exact K1 _ rfl
      · replace h := bu_f h cc
        refine bv_aload_n dX12_sentence_59 0 rfl ?_
        refine bz_getI hN okL_164 dX12_sentence_60 fl_12_174 rfl ?_
        refine bv_if_ne (tgt := 101) dX12_sentence_63 (by decide) (fun cc => ?_) (fun cc => ?_)
        · replace h := bu_f h cc
          refine bv_aload_n dX12_sentence_101 0 rfl ?_
          refine bz_getI hN okL_164 dX12_sentence_102 fl_12_469 rfl ?_
          refine bv_if_eq (tgt := 118) dX12_sentence_105 (by decide) (fun cc => ?_) (fun cc => ?_)
          · replace h := bu_t h cc
            refine bv_aload_n dX12_sentence_118 0 rfl ?_
            obtain ⟨v5, p6, h⟩ := bu_bd h
            refine bw_callV (As := []) hN okL_164 ⟨_, _, rfl⟩ dX12_sentence_119 mc_12_481 (c_X12_operand (d := d + 0) hN hR p6) rfl rfl (by decide) ?_
            refine bw_ifB_ne (b := v5.1) (tgt := 48) dX12_sentence_122 (by decide) (fun cc => ?_) (fun cc => ?_)
            · replace h := bu_bt h cc
              exact ih _ _ _ _ h K0 K1 K2 K3
            · replace h := bu_bf h cc
              refine bw_ls (ls1 := [(0, .ref 164)]) [0] rfl ?_
              obtain rfl := Option.some.inj h
              exact K2 _ rfl
          · replace h := bu_f h cc
            refine bv_aload_n dX12_sentence_108 0 rfl ?_
            obtain ⟨v7, p8, h⟩ := bu_bd h
            refine bw_callV (As := []) hN okL_164 ⟨_, _, rfl⟩ dX12_sentence_109 mc_12_478 (c_X12_behind (d := d + 0) hN hR p8) rfl rfl (by decide) ?_
            refine bw_ifB_ne (b := v7.1) (tgt := 48) dX12_sentence_112 (by decide) (fun cc => ?_) (fun cc => ?_)
            · replace h := bu_bt h cc
              exact ih _ _ _ _ h K0 K1 K2 K3
            · replace h := bu_bf h cc
              refine bw_ls (ls1 := [(0, .ref 164)]) [0] rfl ?_
              obtain rfl := Option.some.inj h
              exact K1 _ rfl
        · replace h := bu_t h cc
          refine bv_aload_n dX12_sentence_66 0 rfl ?_
          obtain ⟨v9, p10, h⟩ := bu_bd h
          refine bw_callVv (As := []) hN okL_164 ⟨_, _, rfl⟩ dX12_sentence_67 mc_12_472 (c_X12_nots (d := d + 1) hN hR p10) rfl rfl (by decide) ?_
          refine bv_aload_n dX12_sentence_70 0 rfl ?_
          refine bv_bipush (v := 22) dX12_sentence_71 (by decide) ?_
          obtain ⟨v11, p12, h⟩ := bu_bd h
          refine bw_callVv (As := [.int 22]) hN okL_164 ⟨_, _, rfl⟩ dX12_sentence_73 mc_12_475 (c_X12_joins (d := d + 1) hN hR p12) rfl rfl (by decide) ?_
          refine bv_aload_n dX12_sentence_76 0 rfl ?_
          refine bz_getI hN okL_164 dX12_sentence_77 fl_12_453 rfl ?_
          refine bv_if_le (tgt := 96) dX12_sentence_80 (by decide) (fun cc => ?_) (fun cc => ?_)
          · replace h := bu_t h cc
            refine bv_iconst (v := 0) dX12_sentence_96 (by decide) ?_
            refine bv_istore_n (ls1 := [(0, .ref 164), (1, .int 0)]) dX12_sentence_97 (by decide) rfl rfl ?_
            refine bv_goto (tgt := 48) dX12_sentence_98 (by decide) ?_
            exact ih _ _ _ _ h K0 K1 K2 K3
          · replace h := bu_f h cc
            refine bw_ls (ls1 := [(0, .ref 164)]) [0] rfl ?_
            obtain rfl := Option.some.inj h
            exact K0 _ rfl
def f_X12_sentence_l145 : Nat → Int32 → bm_TI → Option (bm_TI)
  | 0, _, _ => none
  | k + 1, x2, I => (if (3 * (I 164 38)) ≤ x2 then some I else (if bm_ix 135 x2 = true then (if bm_ix 287 (107 + x2) = true then f_X12_sentence_l145 k (x2 + 1) (bm_uI I 166 ((107 + x2).toNatClampNeg) (I 168 x2.toNatClampNeg)) else none) else none))
set_option maxHeartbeats 4000000 in
set_option maxRecDepth 100000 in
theorem v_X12_sentence_l145 {lc : bm_L} {d n : Nat} {Q : Option Value → bm_M → Prop} {R : bm_TR} {J : bm_TJ} {W : bm_TR} (hN : 181 ≤ n) (hR : bm_RR R) : ∀ (k : Nat) (x2 : Int32) (I : bm_TI) (r : bm_TI), f_X12_sentence_l145 k x2 I = some r → (∀ yy, yy = r → bm_V lc m_X12_sentence (d + 3) n n n 176 [(0, .ref 164)] [] (yy, J, R, W) Q) → bm_V lc m_X12_sentence (d + 3) n n n 145 [(0, .ref 164), (2, .int x2)] [] (I, J, R, W) Q := by
  intro k
  induction k with
  | zero => intro x2 I r h; cases (show (none : Option (bm_TI)) = some r from h)
  | succ k ih =>
    intro x2 I r h K0
    unfold f_X12_sentence_l145 at h
    refine bv_iload_n dX12_sentence_145 1 rfl ?_
    refine bv_iconst (v := 3) dX12_sentence_146 (by decide) ?_
    refine bv_aload_n dX12_sentence_147 0 rfl ?_
    refine bz_getI hN okL_164 dX12_sentence_148 fl_12_450 rfl ?_
    refine bv_imul dX12_sentence_151 ?_
    refine bv_icmp_ge (tgt := 176) dX12_sentence_152 (by decide) (fun cc => ?_) (fun cc => ?_)
    · replace h := bu_t h cc
      refine bw_ls (ls1 := [(0, .ref 164)]) [0] rfl ?_
      obtain rfl := Option.some.inj h
      exact K0 _ rfl
    · replace h := bu_f h cc
      refine bv_aload_n dX12_sentence_155 0 rfl ?_
      refine bz_getA (a := 166) hN okL_164 (hR _ _ _ r0_164_6) dX12_sentence_156 fl_12_33 rfl ?_
      refine bv_bipush (v := 107) dX12_sentence_159 (by decide) ?_
      refine bv_iload_n dX12_sentence_161 1 rfl ?_
      refine bv_iadd dX12_sentence_162 ?_
      refine bv_aload_n dX12_sentence_163 0 rfl ?_
      refine bz_getA (a := 168) hN okL_164 (hR _ _ _ r0_164_8) dX12_sentence_164 fl_12_40 rfl ?_
      refine bv_iload_n dX12_sentence_167 1 rfl ?_
      obtain ⟨r1, h⟩ := bu_ix h
      refine bz_iald hN rkL_168 r1 rfl dX12_sentence_168 ?_
      obtain ⟨r2, h⟩ := bu_ix h
      refine bz_iast hN rkL_166 r2 rfl dX12_sentence_169 ?_
      refine bv_iinc (j := 1) (v := (x2 + 1)) (ls1 := [(0, .ref 164), (2, .int (x2 + 1))]) dX12_sentence_170 rfl rfl (by decide) rfl rfl ?_
      refine bv_goto (tgt := 145) dX12_sentence_173 (by decide) ?_
      exact ih _ _ _ h K0
def f_X12_sentence (I : bm_TI) (J : bm_TJ) : Option (Int32 × bm_TI × bm_TJ) := ((f_X12_taken (bm_uI I 164 0 0) 200).bind fun v1 => ((f_X12_next (bm_uI (bm_uI (bm_uI (bm_uI (bm_uI (bm_uI v1 164 15 0) 164 38 0) 164 39 0) 164 40 0) 164 41 1) 164 42 (bm_bi false)) J).bind fun v3 => ((f_X12_sentence_l48 1000 true v3.1 v3.2).bind fun rr => match rr with | (Sum.inl y7) => ((f_X12_bad y7.1 1).bind fun v8 => some (((-1) - (v8.2 164 16)), v8.2, y7.2)) | (Sum.inr (Sum.inl y7)) => some (((-1) - (y7.1 164 16)), y7.1, y7.2) | (Sum.inr (Sum.inr (Sum.inl y7))) => some (((-1) - (y7.1 164 16)), y7.1, y7.2) | (Sum.inr (Sum.inr (Sum.inr y7))) => ((f_X12_sentence_l145 1000 0 (bm_uI y7.1 166 106 (y7.1 164 38))).bind fun y12 => some ((y12 164 39), y12, y7.2)))))
set_option maxHeartbeats 4000000 in
set_option maxRecDepth 100000 in
theorem c_X12_sentence {lc : bm_L} {d n : Nat} {I : bm_TI} {J : bm_TJ} {R W : bm_TR} {v : Int32 × bm_TI × bm_TJ} (hN : 181 ≤ n) (hR : bm_RR R) (h : f_X12_sentence I J = some v) : bm_C lc m_X12_sentence (d + 3) n n [.ref 164] (I, J, R, W) (fun r M' => r = some (.int v.1) ∧ M' = (v.2.1, v.2.2, R, W)) := by
  refine bm_C.ofV (by decide) (Nat.le_of_ble_eq_true rfl) ?_
  show bm_V lc m_X12_sentence (d + 3) n n n 0 [(0, .ref 164)] [] (I, J, R, W) _
  unfold f_X12_sentence at h
  refine bv_aload_n dX12_sentence_0 0 rfl ?_
  refine bv_iconst (v := 0) dX12_sentence_1 (by decide) ?_
  refine bz_putI hN okL_164 dX12_sentence_2 fl_12_1 rfl ?_
  refine bv_aload_n dX12_sentence_5 0 rfl ?_
  refine bv_sipush (v := 200) dX12_sentence_6 (by decide) ?_
  obtain ⟨v1, p2, h⟩ := bu_bd h
  refine bw_callVv (As := [.int 200]) hN okL_164 ⟨_, _, rfl⟩ dX12_sentence_9 mc_12_264 (c_X12_taken (d := d + 2) hN hR p2) rfl rfl (by decide) ?_
  refine bv_aload_n dX12_sentence_12 0 rfl ?_
  refine bv_iconst (v := 0) dX12_sentence_13 (by decide) ?_
  refine bz_putI hN okL_164 dX12_sentence_14 fl_12_191 rfl ?_
  refine bv_aload_n dX12_sentence_17 0 rfl ?_
  refine bv_iconst (v := 0) dX12_sentence_18 (by decide) ?_
  refine bz_putI hN okL_164 dX12_sentence_19 fl_12_450 rfl ?_
  refine bv_aload_n dX12_sentence_22 0 rfl ?_
  refine bv_iconst (v := 0) dX12_sentence_23 (by decide) ?_
  refine bz_putI hN okL_164 dX12_sentence_24 fl_12_466 rfl ?_
  refine bv_aload_n dX12_sentence_27 0 rfl ?_
  refine bv_iconst (v := 0) dX12_sentence_28 (by decide) ?_
  refine bz_putI hN okL_164 dX12_sentence_29 fl_12_453 rfl ?_
  refine bv_aload_n dX12_sentence_32 0 rfl ?_
  refine bv_iconst (v := 1) dX12_sentence_33 (by decide) ?_
  refine bz_putI hN okL_164 dX12_sentence_34 fl_12_460 rfl ?_
  refine bv_aload_n dX12_sentence_37 0 rfl ?_
  refine bv_iconst (v := 0) dX12_sentence_38 (by decide) ?_
  refine bz_putB (v := false) hN okL_164 dX12_sentence_39 fl_12_469 rfl ?_
  refine bv_aload_n dX12_sentence_42 0 rfl ?_
  obtain ⟨v3, p4, h⟩ := bu_bd h
  refine bw_callVv (As := []) hN okL_164 ⟨_, _, rfl⟩ dX12_sentence_43 mc_12_203 (c_X12_next (d := d + 1) hN hR p4) rfl rfl (by decide) ?_
  refine bv_iconst (v := 1) dX12_sentence_46 (by decide) ?_
  refine bv_istore_n (ls1 := [(0, .ref 164), (1, .int 1)]) dX12_sentence_47 (by decide) rfl rfl ?_
  obtain ⟨r5, p6, h⟩ := bu_bd h
  refine v_X12_sentence_l48 hN hR 1000 _ _ _ _ p6 (fun y7 hy => ?_) (fun y7 hy => ?_) (fun y7 hy => ?_) (fun y7 hy => ?_)
  · subst hy
    refine bv_aload_n dX12_sentence_83 0 rfl ?_
    refine bv_iconst (v := 1) dX12_sentence_84 (by decide) ?_
    obtain ⟨v8, p9, h⟩ := bu_bd h
    refine bw_callV (As := [.int 1]) hN okL_164 ⟨_, _, rfl⟩ dX12_sentence_85 mc_12_200 (c_X12_bad (d := d + 2) hN hR p9) rfl rfl (by decide) ?_
    refine bv_pop dX12_sentence_88 rfl ?_
    refine bv_iconst (v := (-1)) dX12_sentence_89 (by decide) ?_
    refine bv_aload_n dX12_sentence_90 0 rfl ?_
    refine bz_getI hN okL_164 dX12_sentence_91 fl_12_194 rfl ?_
    refine bv_isub dX12_sentence_94 ?_
    obtain rfl := Option.some.inj h
    exact bv_iret (x := ((-1) - (v8.2 164 16))) dX12_sentence_95 rfl ⟨rfl, rfl⟩
  · subst hy
    refine bv_goto (tgt := 125) dX12_sentence_115 (by decide) ?_
    refine bv_iconst (v := (-1)) dX12_sentence_125 (by decide) ?_
    refine bv_aload_n dX12_sentence_126 0 rfl ?_
    refine bz_getI hN okL_164 dX12_sentence_127 fl_12_194 rfl ?_
    refine bv_isub dX12_sentence_130 ?_
    obtain rfl := Option.some.inj h
    exact bv_iret (x := ((-1) - (y7.1 164 16))) dX12_sentence_131 rfl ⟨rfl, rfl⟩
  · subst hy
    refine bv_iconst (v := (-1)) dX12_sentence_125 (by decide) ?_
    refine bv_aload_n dX12_sentence_126 0 rfl ?_
    refine bz_getI hN okL_164 dX12_sentence_127 fl_12_194 rfl ?_
    refine bv_isub dX12_sentence_130 ?_
    obtain rfl := Option.some.inj h
    exact bv_iret (x := ((-1) - (y7.1 164 16))) dX12_sentence_131 rfl ⟨rfl, rfl⟩
  · subst hy
    refine bv_aload_n dX12_sentence_132 0 rfl ?_
    refine bz_getA (a := 166) hN okL_164 (hR _ _ _ r0_164_6) dX12_sentence_133 fl_12_33 rfl ?_
    refine bv_bipush (v := 106) dX12_sentence_136 (by decide) ?_
    refine bv_aload_n dX12_sentence_138 0 rfl ?_
    refine bz_getI hN okL_164 dX12_sentence_139 fl_12_450 rfl ?_
    refine bz_iast (j := 106) hN rkL_166 (bm_ix_in (by decide)) (by decide) dX12_sentence_142 ?_
    refine bv_iconst (v := 0) dX12_sentence_143 (by decide) ?_
    refine bv_istore_n (ls1 := [(0, .ref 164), (2, .int 0)]) dX12_sentence_144 (by decide) rfl rfl ?_
    obtain ⟨r10, p11, h⟩ := bu_bd h
    refine v_X12_sentence_l145 hN hR 1000 _ _ _ p11 (fun y12 hy => ?_)
    · subst hy
      refine bv_aload_n dX12_sentence_176 0 rfl ?_
      refine bz_getI hN okL_164 dX12_sentence_177 fl_12_466 rfl ?_
      obtain rfl := Option.some.inj h
      exact bv_iret (x := (y12 164 39)) dX12_sentence_180 rfl ⟨rfl, rfl⟩
def f_X12_isLeaf (I : bm_TI) (x1 : Int32) (x2 : Int32) (x3 : Int32) (x4 : Int32) : Option (Bool) := (if x2 = 0 then some (f_X12_bitOf (I 166 63) x1) else (if x2 = 1 then some (f_X12_bitOf (I 166 64) x1) else (if x2 = 2 then some (f_X12_bitOf (I 166 29) x1) else (if x2 = 3 then some (f_X12_bitOf (I 166 30) x1) else (if x2 = 4 then (if bm_ix 287 (90 + x1) = true then (if (I 166 (90 + x1).toNatClampNeg) = 0 then some true else some false) else none) else (if x2 = 5 then (if bm_ix 287 (31 + x1) = true then (if (I 166 (31 + x1).toNatClampNeg) = (x4 + 1) then some true else some false) else none) else (if x2 = 6 then ((f_X12_seesOne I x1 x4).bind fun v10 => some v10) else (if x2 = 7 then (if bm_ix 287 (90 + x1) = true then (if (I 166 (90 + x1).toNatClampNeg) = (x4 + 1) then some true else some false) else none) else (if x2 = 8 then ((f_X12_browOf I x1).bind fun v16 => (if x3 = 60 then (if x4 ≤ v16 then some false else some true) else (if x3 = 61 then (if v16 = x4 then some true else some false) else (if v16 ≤ x4 then some false else some true)))) else (if x2 = 9 then (if bm_ix 287 (82 + x1) = true then (if x3 = 60 then (if x4 ≤ (I 166 (82 + x1).toNatClampNeg) then some false else some true) else (if x3 = 61 then (if (I 166 (82 + x1).toNatClampNeg) = x4 then some true else some false) else (if (I 166 (82 + x1).toNatClampNeg) ≤ x4 then some false else some true))) else none) else (if x2 = 10 then (if bm_ix 287 (98 + x1) = true then (if x3 = 60 then (if x4 ≤ (I 166 (98 + x1).toNatClampNeg) then some false else some true) else (if x3 = 61 then (if (I 166 (98 + x1).toNatClampNeg) = x4 then some true else some false) else (if (I 166 (98 + x1).toNatClampNeg) ≤ x4 then some false else some true))) else none) else (if x3 = 60 then (if x4 ≤ x1 then some false else some true) else (if x3 = 61 then (if x1 = x4 then some true else some false) else (if x1 ≤ x4 then some false else some true))))))))))))))
set_option maxHeartbeats 4000000 in
set_option maxRecDepth 100000 in
theorem c_X12_isLeaf {lc : bm_L} {d n : Nat} {I : bm_TI} {J : bm_TJ} {R W : bm_TR} {x1 : Int32} {x2 : Int32} {x3 : Int32} {x4 : Int32} {v : Bool} (hN : 181 ≤ n) (hR : bm_RR R) (h : f_X12_isLeaf I x1 x2 x3 x4 = some v) : bm_C lc m_X12_isLeaf (d + 4) n n [.ref 164, .int x1, .int x2, .int x3, .int x4] (I, J, R, W) (fun r M' => r = some (.int (bm_bi v)) ∧ M' = (I, J, R, W)) := by
  refine bm_C.ofV (by decide) (Nat.le_of_ble_eq_true rfl) ?_
  show bm_V lc m_X12_isLeaf (d + 4) n n n 0 [(0, .ref 164), (1, .int x1), (2, .int x2), (3, .int x3), (4, .int x4)] [] (I, J, R, W) _
  unfold f_X12_isLeaf at h
  refine bv_iload_n dX12_isLeaf_0 2 rfl ?_
  by_cases c1 : x2 = 0
  · replace h := bu_t h c1
    refine bv_tableIn (tgt := 48) dX12_isLeaf_1 (by rw [c1]; decide) (by rw [c1]; decide) (by rw [c1]; rfl) (by decide) ?_
    refine bv_aload_n dX12_isLeaf_48 0 rfl ?_
    refine bz_getA (a := 166) hN okL_164 (hR _ _ _ r0_164_6) dX12_isLeaf_49 fl_12_33 rfl ?_
    refine bv_bipush (v := 63) dX12_isLeaf_52 (by decide) ?_
    refine bz_iald (j := 63) hN rkL_166 (bm_ix_in (by decide)) (by decide) dX12_isLeaf_54 ?_
    refine bv_iload_n dX12_isLeaf_55 1 rfl ?_
    refine bw_callS (As := [.int (I 166 63), .int x1]) dX12_isLeaf_56 mc_12_231 (c_X12_bitOf (d := d + 3) hN hR rfl) rfl rfl (by decide) ?_
    obtain rfl := Option.some.inj h
    exact bw_bret (b := (f_X12_bitOf (I 166 63) x1)) dX12_isLeaf_59 rfl ⟨rfl, rfl⟩
  · replace h := bu_f h c1
    by_cases c2 : x2 = 1
    · replace h := bu_t h c2
      refine bv_tableIn (tgt := 60) dX12_isLeaf_1 (by rw [c2]; decide) (by rw [c2]; decide) (by rw [c2]; rfl) (by decide) ?_
      refine bv_aload_n dX12_isLeaf_60 0 rfl ?_
      refine bz_getA (a := 166) hN okL_164 (hR _ _ _ r0_164_6) dX12_isLeaf_61 fl_12_33 rfl ?_
      refine bv_bipush (v := 64) dX12_isLeaf_64 (by decide) ?_
      refine bz_iald (j := 64) hN rkL_166 (bm_ix_in (by decide)) (by decide) dX12_isLeaf_66 ?_
      refine bv_iload_n dX12_isLeaf_67 1 rfl ?_
      refine bw_callS (As := [.int (I 166 64), .int x1]) dX12_isLeaf_68 mc_12_231 (c_X12_bitOf (d := d + 3) hN hR rfl) rfl rfl (by decide) ?_
      obtain rfl := Option.some.inj h
      exact bw_bret (b := (f_X12_bitOf (I 166 64) x1)) dX12_isLeaf_71 rfl ⟨rfl, rfl⟩
    · replace h := bu_f h c2
      by_cases c3 : x2 = 2
      · replace h := bu_t h c3
        refine bv_tableIn (tgt := 72) dX12_isLeaf_1 (by rw [c3]; decide) (by rw [c3]; decide) (by rw [c3]; rfl) (by decide) ?_
        refine bv_aload_n dX12_isLeaf_72 0 rfl ?_
        refine bz_getA (a := 166) hN okL_164 (hR _ _ _ r0_164_6) dX12_isLeaf_73 fl_12_33 rfl ?_
        refine bv_bipush (v := 29) dX12_isLeaf_76 (by decide) ?_
        refine bz_iald (j := 29) hN rkL_166 (bm_ix_in (by decide)) (by decide) dX12_isLeaf_78 ?_
        refine bv_iload_n dX12_isLeaf_79 1 rfl ?_
        refine bw_callS (As := [.int (I 166 29), .int x1]) dX12_isLeaf_80 mc_12_231 (c_X12_bitOf (d := d + 3) hN hR rfl) rfl rfl (by decide) ?_
        obtain rfl := Option.some.inj h
        exact bw_bret (b := (f_X12_bitOf (I 166 29) x1)) dX12_isLeaf_83 rfl ⟨rfl, rfl⟩
      · replace h := bu_f h c3
        by_cases c4 : x2 = 3
        · replace h := bu_t h c4
          refine bv_tableIn (tgt := 84) dX12_isLeaf_1 (by rw [c4]; decide) (by rw [c4]; decide) (by rw [c4]; rfl) (by decide) ?_
          refine bv_aload_n dX12_isLeaf_84 0 rfl ?_
          refine bz_getA (a := 166) hN okL_164 (hR _ _ _ r0_164_6) dX12_isLeaf_85 fl_12_33 rfl ?_
          refine bv_bipush (v := 30) dX12_isLeaf_88 (by decide) ?_
          refine bz_iald (j := 30) hN rkL_166 (bm_ix_in (by decide)) (by decide) dX12_isLeaf_90 ?_
          refine bv_iload_n dX12_isLeaf_91 1 rfl ?_
          refine bw_callS (As := [.int (I 166 30), .int x1]) dX12_isLeaf_92 mc_12_231 (c_X12_bitOf (d := d + 3) hN hR rfl) rfl rfl (by decide) ?_
          obtain rfl := Option.some.inj h
          exact bw_bret (b := (f_X12_bitOf (I 166 30) x1)) dX12_isLeaf_95 rfl ⟨rfl, rfl⟩
        · replace h := bu_f h c4
          by_cases c5 : x2 = 4
          · replace h := bu_t h c5
            refine bv_tableIn (tgt := 96) dX12_isLeaf_1 (by rw [c5]; decide) (by rw [c5]; decide) (by rw [c5]; rfl) (by decide) ?_
            refine bv_aload_n dX12_isLeaf_96 0 rfl ?_
            refine bz_getA (a := 166) hN okL_164 (hR _ _ _ r0_164_6) dX12_isLeaf_97 fl_12_33 rfl ?_
            refine bv_bipush (v := 90) dX12_isLeaf_100 (by decide) ?_
            refine bv_iload_n dX12_isLeaf_102 1 rfl ?_
            refine bv_iadd dX12_isLeaf_103 ?_
            obtain ⟨r6, h⟩ := bu_ix h
            refine bz_iald hN rkL_166 r6 rfl dX12_isLeaf_104 ?_
            refine bv_if_ne (tgt := 112) dX12_isLeaf_105 (by decide) (fun cc => ?_) (fun cc => ?_)
            · replace h := bu_f h cc
              refine bv_iconst (v := 0) dX12_isLeaf_112 (by decide) ?_
              obtain rfl := Option.some.inj h
              exact bw_bret (b := false) dX12_isLeaf_113 rfl ⟨rfl, rfl⟩
            · replace h := bu_t h cc
              refine bv_iconst (v := 1) dX12_isLeaf_108 (by decide) ?_
              refine bv_goto (tgt := 113) dX12_isLeaf_109 (by decide) ?_
              obtain rfl := Option.some.inj h
              exact bw_bret (b := true) dX12_isLeaf_113 rfl ⟨rfl, rfl⟩
          · replace h := bu_f h c5
            by_cases c7 : x2 = 5
            · replace h := bu_t h c7
              refine bv_tableIn (tgt := 114) dX12_isLeaf_1 (by rw [c7]; decide) (by rw [c7]; decide) (by rw [c7]; rfl) (by decide) ?_
              refine bv_aload_n dX12_isLeaf_114 0 rfl ?_
              refine bz_getA (a := 166) hN okL_164 (hR _ _ _ r0_164_6) dX12_isLeaf_115 fl_12_33 rfl ?_
              refine bv_bipush (v := 31) dX12_isLeaf_118 (by decide) ?_
              refine bv_iload_n dX12_isLeaf_120 1 rfl ?_
              refine bv_iadd dX12_isLeaf_121 ?_
              obtain ⟨r8, h⟩ := bu_ix h
              refine bz_iald hN rkL_166 r8 rfl dX12_isLeaf_122 ?_
              refine bv_iload dX12_isLeaf_123 4 rfl ?_
              refine bv_iconst (v := 1) dX12_isLeaf_125 (by decide) ?_
              refine bv_iadd dX12_isLeaf_126 ?_
              refine bv_icmp_ne (tgt := 134) dX12_isLeaf_127 (by decide) (fun cc => ?_) (fun cc => ?_)
              · replace h := bu_f h cc
                refine bv_iconst (v := 0) dX12_isLeaf_134 (by decide) ?_
                obtain rfl := Option.some.inj h
                exact bw_bret (b := false) dX12_isLeaf_135 rfl ⟨rfl, rfl⟩
              · replace h := bu_t h cc
                refine bv_iconst (v := 1) dX12_isLeaf_130 (by decide) ?_
                refine bv_goto (tgt := 135) dX12_isLeaf_131 (by decide) ?_
                obtain rfl := Option.some.inj h
                exact bw_bret (b := true) dX12_isLeaf_135 rfl ⟨rfl, rfl⟩
            · replace h := bu_f h c7
              by_cases c9 : x2 = 6
              · replace h := bu_t h c9
                refine bv_tableIn (tgt := 136) dX12_isLeaf_1 (by rw [c9]; decide) (by rw [c9]; decide) (by rw [c9]; rfl) (by decide) ?_
                refine bv_aload_n dX12_isLeaf_136 0 rfl ?_
                refine bv_iload_n dX12_isLeaf_137 1 rfl ?_
                refine bv_iload dX12_isLeaf_138 4 rfl ?_
                obtain ⟨v10, p11, h⟩ := bu_bd h
                refine bw_callV (As := [.int x1, .int x4]) hN okL_164 ⟨_, _, rfl⟩ dX12_isLeaf_140 mc_12_297 (c_X12_seesOne (d := d + 0) hN hR p11) rfl rfl (by decide) ?_
                obtain rfl := Option.some.inj h
                exact bw_bret (b := v10) dX12_isLeaf_143 rfl ⟨rfl, rfl⟩
              · replace h := bu_f h c9
                by_cases c12 : x2 = 7
                · replace h := bu_t h c12
                  refine bv_tableIn (tgt := 144) dX12_isLeaf_1 (by rw [c12]; decide) (by rw [c12]; decide) (by rw [c12]; rfl) (by decide) ?_
                  refine bv_aload_n dX12_isLeaf_144 0 rfl ?_
                  refine bz_getA (a := 166) hN okL_164 (hR _ _ _ r0_164_6) dX12_isLeaf_145 fl_12_33 rfl ?_
                  refine bv_bipush (v := 90) dX12_isLeaf_148 (by decide) ?_
                  refine bv_iload_n dX12_isLeaf_150 1 rfl ?_
                  refine bv_iadd dX12_isLeaf_151 ?_
                  obtain ⟨r13, h⟩ := bu_ix h
                  refine bz_iald hN rkL_166 r13 rfl dX12_isLeaf_152 ?_
                  refine bv_iload dX12_isLeaf_153 4 rfl ?_
                  refine bv_iconst (v := 1) dX12_isLeaf_155 (by decide) ?_
                  refine bv_iadd dX12_isLeaf_156 ?_
                  refine bv_icmp_ne (tgt := 164) dX12_isLeaf_157 (by decide) (fun cc => ?_) (fun cc => ?_)
                  · replace h := bu_f h cc
                    refine bv_iconst (v := 0) dX12_isLeaf_164 (by decide) ?_
                    obtain rfl := Option.some.inj h
                    exact bw_bret (b := false) dX12_isLeaf_165 rfl ⟨rfl, rfl⟩
                  · replace h := bu_t h cc
                    refine bv_iconst (v := 1) dX12_isLeaf_160 (by decide) ?_
                    refine bv_goto (tgt := 165) dX12_isLeaf_161 (by decide) ?_
                    obtain rfl := Option.some.inj h
                    exact bw_bret (b := true) dX12_isLeaf_165 rfl ⟨rfl, rfl⟩
                · replace h := bu_f h c12
                  refine bv_tableOut (tgt := 166) dX12_isLeaf_1 (bm_sw (k := 8) (by decide) (fun j hj => by match j, hj with | 0, _ => exact c1 | 1, _ => exact c2 | 2, _ => exact c3 | 3, _ => exact c4 | 4, _ => exact c5 | 5, _ => exact c7 | 6, _ => exact c9 | 7, _ => exact c12)) (by decide) ?_
                  refine bv_iload_n dX12_isLeaf_166 2 rfl ?_
                  refine bv_bipush (v := 8) dX12_isLeaf_167 (by decide) ?_
                  refine bv_icmp_ne (tgt := 180) dX12_isLeaf_169 (by decide) (fun cc => ?_) (fun cc => ?_)
                  · replace h := bu_f h cc
                    refine bv_iload_n dX12_isLeaf_180 2 rfl ?_
                    refine bv_bipush (v := 9) dX12_isLeaf_181 (by decide) ?_
                    refine bv_icmp_ne (tgt := 198) dX12_isLeaf_183 (by decide) (fun cc => ?_) (fun cc => ?_)
                    · replace h := bu_f h cc
                      refine bv_iload_n dX12_isLeaf_198 2 rfl ?_
                      refine bv_bipush (v := 10) dX12_isLeaf_199 (by decide) ?_
                      refine bv_icmp_ne (tgt := 216) dX12_isLeaf_201 (by decide) (fun cc => ?_) (fun cc => ?_)
                      · replace h := bu_f h cc
                        refine bv_iload_n dX12_isLeaf_216 1 rfl ?_
                        refine bv_istore (ls1 := [(0, .ref 164), (1, .int x1), (2, .int x2), (3, .int x3), (4, .int x4), (5, .int x1)]) dX12_isLeaf_217 (by decide) rfl rfl ?_
                        refine bv_iload_n dX12_isLeaf_219 3 rfl ?_
                        refine bv_bipush (v := 60) dX12_isLeaf_220 (by decide) ?_
                        refine bv_icmp_ne (tgt := 240) dX12_isLeaf_222 (by decide) (fun cc => ?_) (fun cc => ?_)
                        · replace h := bu_f h cc
                          refine bv_iload_n dX12_isLeaf_240 3 rfl ?_
                          refine bv_bipush (v := 61) dX12_isLeaf_241 (by decide) ?_
                          refine bv_icmp_ne (tgt := 261) dX12_isLeaf_243 (by decide) (fun cc => ?_) (fun cc => ?_)
                          · replace h := bu_f h cc
                            refine bv_iload dX12_isLeaf_261 5 rfl ?_
                            refine bv_iload dX12_isLeaf_263 4 rfl ?_
                            refine bv_icmp_le (tgt := 272) dX12_isLeaf_265 (by decide) (fun cc => ?_) (fun cc => ?_)
                            · replace h := bu_t h cc
                              refine bv_iconst (v := 0) dX12_isLeaf_272 (by decide) ?_
                              obtain rfl := Option.some.inj h
                              exact bw_bret (b := false) dX12_isLeaf_273 rfl ⟨rfl, rfl⟩
                            · replace h := bu_f h cc
                              refine bv_iconst (v := 1) dX12_isLeaf_268 (by decide) ?_
                              refine bv_goto (tgt := 273) dX12_isLeaf_269 (by decide) ?_
                              obtain rfl := Option.some.inj h
                              exact bw_bret (b := true) dX12_isLeaf_273 rfl ⟨rfl, rfl⟩
                          · replace h := bu_t h cc
                            refine bv_iload dX12_isLeaf_246 5 rfl ?_
                            refine bv_iload dX12_isLeaf_248 4 rfl ?_
                            refine bv_icmp_ne (tgt := 257) dX12_isLeaf_250 (by decide) (fun cc => ?_) (fun cc => ?_)
                            · replace h := bu_f h cc
                              refine bv_iconst (v := 0) dX12_isLeaf_257 (by decide) ?_
                              refine bv_goto (tgt := 273) dX12_isLeaf_258 (by decide) ?_
                              obtain rfl := Option.some.inj h
                              exact bw_bret (b := false) dX12_isLeaf_273 rfl ⟨rfl, rfl⟩
                            · replace h := bu_t h cc
                              refine bv_iconst (v := 1) dX12_isLeaf_253 (by decide) ?_
                              refine bv_goto (tgt := 273) dX12_isLeaf_254 (by decide) ?_
                              obtain rfl := Option.some.inj h
                              exact bw_bret (b := true) dX12_isLeaf_273 rfl ⟨rfl, rfl⟩
                        · replace h := bu_t h cc
                          refine bv_iload dX12_isLeaf_225 5 rfl ?_
                          refine bv_iload dX12_isLeaf_227 4 rfl ?_
                          refine bv_icmp_ge (tgt := 236) dX12_isLeaf_229 (by decide) (fun cc => ?_) (fun cc => ?_)
                          · replace h := bu_t h cc
                            refine bv_iconst (v := 0) dX12_isLeaf_236 (by decide) ?_
                            refine bv_goto (tgt := 273) dX12_isLeaf_237 (by decide) ?_
                            obtain rfl := Option.some.inj h
                            exact bw_bret (b := false) dX12_isLeaf_273 rfl ⟨rfl, rfl⟩
                          · replace h := bu_f h cc
                            refine bv_iconst (v := 1) dX12_isLeaf_232 (by decide) ?_
                            refine bv_goto (tgt := 273) dX12_isLeaf_233 (by decide) ?_
                            obtain rfl := Option.some.inj h
                            exact bw_bret (b := true) dX12_isLeaf_273 rfl ⟨rfl, rfl⟩
                      · replace h := bu_t h cc
                        refine bv_aload_n dX12_isLeaf_204 0 rfl ?_
                        refine bz_getA (a := 166) hN okL_164 (hR _ _ _ r0_164_6) dX12_isLeaf_205 fl_12_33 rfl ?_
                        refine bv_bipush (v := 98) dX12_isLeaf_208 (by decide) ?_
                        refine bv_iload_n dX12_isLeaf_210 1 rfl ?_
                        refine bv_iadd dX12_isLeaf_211 ?_
                        obtain ⟨r14, h⟩ := bu_ix h
                        refine bz_iald hN rkL_166 r14 rfl dX12_isLeaf_212 ?_
                        refine bv_goto (tgt := 217) dX12_isLeaf_213 (by decide) ?_
                        refine bv_istore (ls1 := [(0, .ref 164), (1, .int x1), (2, .int x2), (3, .int x3), (4, .int x4), (5, .int (I 166 (98 + x1).toNatClampNeg))]) dX12_isLeaf_217 (by decide) rfl rfl ?_
                        refine bv_iload_n dX12_isLeaf_219 3 rfl ?_
                        refine bv_bipush (v := 60) dX12_isLeaf_220 (by decide) ?_
                        refine bv_icmp_ne (tgt := 240) dX12_isLeaf_222 (by decide) (fun cc => ?_) (fun cc => ?_)
                        · replace h := bu_f h cc
                          refine bv_iload_n dX12_isLeaf_240 3 rfl ?_
                          refine bv_bipush (v := 61) dX12_isLeaf_241 (by decide) ?_
                          refine bv_icmp_ne (tgt := 261) dX12_isLeaf_243 (by decide) (fun cc => ?_) (fun cc => ?_)
                          · replace h := bu_f h cc
                            refine bv_iload dX12_isLeaf_261 5 rfl ?_
                            refine bv_iload dX12_isLeaf_263 4 rfl ?_
                            refine bv_icmp_le (tgt := 272) dX12_isLeaf_265 (by decide) (fun cc => ?_) (fun cc => ?_)
                            · replace h := bu_t h cc
                              refine bv_iconst (v := 0) dX12_isLeaf_272 (by decide) ?_
                              obtain rfl := Option.some.inj h
                              exact bw_bret (b := false) dX12_isLeaf_273 rfl ⟨rfl, rfl⟩
                            · replace h := bu_f h cc
                              refine bv_iconst (v := 1) dX12_isLeaf_268 (by decide) ?_
                              refine bv_goto (tgt := 273) dX12_isLeaf_269 (by decide) ?_
                              obtain rfl := Option.some.inj h
                              exact bw_bret (b := true) dX12_isLeaf_273 rfl ⟨rfl, rfl⟩
                          · replace h := bu_t h cc
                            refine bv_iload dX12_isLeaf_246 5 rfl ?_
                            refine bv_iload dX12_isLeaf_248 4 rfl ?_
                            refine bv_icmp_ne (tgt := 257) dX12_isLeaf_250 (by decide) (fun cc => ?_) (fun cc => ?_)
                            · replace h := bu_f h cc
                              refine bv_iconst (v := 0) dX12_isLeaf_257 (by decide) ?_
                              refine bv_goto (tgt := 273) dX12_isLeaf_258 (by decide) ?_
                              obtain rfl := Option.some.inj h
                              exact bw_bret (b := false) dX12_isLeaf_273 rfl ⟨rfl, rfl⟩
                            · replace h := bu_t h cc
                              refine bv_iconst (v := 1) dX12_isLeaf_253 (by decide) ?_
                              refine bv_goto (tgt := 273) dX12_isLeaf_254 (by decide) ?_
                              obtain rfl := Option.some.inj h
                              exact bw_bret (b := true) dX12_isLeaf_273 rfl ⟨rfl, rfl⟩
                        · replace h := bu_t h cc
                          refine bv_iload dX12_isLeaf_225 5 rfl ?_
                          refine bv_iload dX12_isLeaf_227 4 rfl ?_
                          refine bv_icmp_ge (tgt := 236) dX12_isLeaf_229 (by decide) (fun cc => ?_) (fun cc => ?_)
                          · replace h := bu_t h cc
                            refine bv_iconst (v := 0) dX12_isLeaf_236 (by decide) ?_
                            refine bv_goto (tgt := 273) dX12_isLeaf_237 (by decide) ?_
                            obtain rfl := Option.some.inj h
                            exact bw_bret (b := false) dX12_isLeaf_273 rfl ⟨rfl, rfl⟩
                          · replace h := bu_f h cc
                            refine bv_iconst (v := 1) dX12_isLeaf_232 (by decide) ?_
                            refine bv_goto (tgt := 273) dX12_isLeaf_233 (by decide) ?_
                            obtain rfl := Option.some.inj h
                            exact bw_bret (b := true) dX12_isLeaf_273 rfl ⟨rfl, rfl⟩
                    · replace h := bu_t h cc
                      refine bv_aload_n dX12_isLeaf_186 0 rfl ?_
                      refine bz_getA (a := 166) hN okL_164 (hR _ _ _ r0_164_6) dX12_isLeaf_187 fl_12_33 rfl ?_
                      refine bv_bipush (v := 82) dX12_isLeaf_190 (by decide) ?_
                      refine bv_iload_n dX12_isLeaf_192 1 rfl ?_
                      refine bv_iadd dX12_isLeaf_193 ?_
                      obtain ⟨r15, h⟩ := bu_ix h
                      refine bz_iald hN rkL_166 r15 rfl dX12_isLeaf_194 ?_
                      refine bv_goto (tgt := 217) dX12_isLeaf_195 (by decide) ?_
                      refine bv_istore (ls1 := [(0, .ref 164), (1, .int x1), (2, .int x2), (3, .int x3), (4, .int x4), (5, .int (I 166 (82 + x1).toNatClampNeg))]) dX12_isLeaf_217 (by decide) rfl rfl ?_
                      refine bv_iload_n dX12_isLeaf_219 3 rfl ?_
                      refine bv_bipush (v := 60) dX12_isLeaf_220 (by decide) ?_
                      refine bv_icmp_ne (tgt := 240) dX12_isLeaf_222 (by decide) (fun cc => ?_) (fun cc => ?_)
                      · replace h := bu_f h cc
                        refine bv_iload_n dX12_isLeaf_240 3 rfl ?_
                        refine bv_bipush (v := 61) dX12_isLeaf_241 (by decide) ?_
                        refine bv_icmp_ne (tgt := 261) dX12_isLeaf_243 (by decide) (fun cc => ?_) (fun cc => ?_)
                        · replace h := bu_f h cc
                          refine bv_iload dX12_isLeaf_261 5 rfl ?_
                          refine bv_iload dX12_isLeaf_263 4 rfl ?_
                          refine bv_icmp_le (tgt := 272) dX12_isLeaf_265 (by decide) (fun cc => ?_) (fun cc => ?_)
                          · replace h := bu_t h cc
                            refine bv_iconst (v := 0) dX12_isLeaf_272 (by decide) ?_
                            obtain rfl := Option.some.inj h
                            exact bw_bret (b := false) dX12_isLeaf_273 rfl ⟨rfl, rfl⟩
                          · replace h := bu_f h cc
                            refine bv_iconst (v := 1) dX12_isLeaf_268 (by decide) ?_
                            refine bv_goto (tgt := 273) dX12_isLeaf_269 (by decide) ?_
                            obtain rfl := Option.some.inj h
                            exact bw_bret (b := true) dX12_isLeaf_273 rfl ⟨rfl, rfl⟩
                        · replace h := bu_t h cc
                          refine bv_iload dX12_isLeaf_246 5 rfl ?_
                          refine bv_iload dX12_isLeaf_248 4 rfl ?_
                          refine bv_icmp_ne (tgt := 257) dX12_isLeaf_250 (by decide) (fun cc => ?_) (fun cc => ?_)
                          · replace h := bu_f h cc
                            refine bv_iconst (v := 0) dX12_isLeaf_257 (by decide) ?_
                            refine bv_goto (tgt := 273) dX12_isLeaf_258 (by decide) ?_
                            obtain rfl := Option.some.inj h
                            exact bw_bret (b := false) dX12_isLeaf_273 rfl ⟨rfl, rfl⟩
                          · replace h := bu_t h cc
                            refine bv_iconst (v := 1) dX12_isLeaf_253 (by decide) ?_
                            refine bv_goto (tgt := 273) dX12_isLeaf_254 (by decide) ?_
                            obtain rfl := Option.some.inj h
                            exact bw_bret (b := true) dX12_isLeaf_273 rfl ⟨rfl, rfl⟩
                      · replace h := bu_t h cc
                        refine bv_iload dX12_isLeaf_225 5 rfl ?_
                        refine bv_iload dX12_isLeaf_227 4 rfl ?_
                        refine bv_icmp_ge (tgt := 236) dX12_isLeaf_229 (by decide) (fun cc => ?_) (fun cc => ?_)
                        · replace h := bu_t h cc
                          refine bv_iconst (v := 0) dX12_isLeaf_236 (by decide) ?_
                          refine bv_goto (tgt := 273) dX12_isLeaf_237 (by decide) ?_
                          obtain rfl := Option.some.inj h
                          exact bw_bret (b := false) dX12_isLeaf_273 rfl ⟨rfl, rfl⟩
                        · replace h := bu_f h cc
                          refine bv_iconst (v := 1) dX12_isLeaf_232 (by decide) ?_
                          refine bv_goto (tgt := 273) dX12_isLeaf_233 (by decide) ?_
                          obtain rfl := Option.some.inj h
                          exact bw_bret (b := true) dX12_isLeaf_273 rfl ⟨rfl, rfl⟩
                  · replace h := bu_t h cc
                    refine bv_aload_n dX12_isLeaf_172 0 rfl ?_
                    refine bv_iload_n dX12_isLeaf_173 1 rfl ?_
                    obtain ⟨v16, p17, h⟩ := bu_bd h
                    refine bw_callV (As := [.int x1]) hN okL_164 ⟨_, _, rfl⟩ dX12_isLeaf_174 mc_12_290 (c_X12_browOf (d := d + 2) hN hR p17) rfl rfl (by decide) ?_
                    refine bv_goto (tgt := 217) dX12_isLeaf_177 (by decide) ?_
                    refine bv_istore (ls1 := [(0, .ref 164), (1, .int x1), (2, .int x2), (3, .int x3), (4, .int x4), (5, .int v16)]) dX12_isLeaf_217 (by decide) rfl rfl ?_
                    refine bv_iload_n dX12_isLeaf_219 3 rfl ?_
                    refine bv_bipush (v := 60) dX12_isLeaf_220 (by decide) ?_
                    refine bv_icmp_ne (tgt := 240) dX12_isLeaf_222 (by decide) (fun cc => ?_) (fun cc => ?_)
                    · replace h := bu_f h cc
                      refine bv_iload_n dX12_isLeaf_240 3 rfl ?_
                      refine bv_bipush (v := 61) dX12_isLeaf_241 (by decide) ?_
                      refine bv_icmp_ne (tgt := 261) dX12_isLeaf_243 (by decide) (fun cc => ?_) (fun cc => ?_)
                      · replace h := bu_f h cc
                        refine bv_iload dX12_isLeaf_261 5 rfl ?_
                        refine bv_iload dX12_isLeaf_263 4 rfl ?_
                        refine bv_icmp_le (tgt := 272) dX12_isLeaf_265 (by decide) (fun cc => ?_) (fun cc => ?_)
                        · replace h := bu_t h cc
                          refine bv_iconst (v := 0) dX12_isLeaf_272 (by decide) ?_
                          obtain rfl := Option.some.inj h
                          exact bw_bret (b := false) dX12_isLeaf_273 rfl ⟨rfl, rfl⟩
                        · replace h := bu_f h cc
                          refine bv_iconst (v := 1) dX12_isLeaf_268 (by decide) ?_
                          refine bv_goto (tgt := 273) dX12_isLeaf_269 (by decide) ?_
                          obtain rfl := Option.some.inj h
                          exact bw_bret (b := true) dX12_isLeaf_273 rfl ⟨rfl, rfl⟩
                      · replace h := bu_t h cc
                        refine bv_iload dX12_isLeaf_246 5 rfl ?_
                        refine bv_iload dX12_isLeaf_248 4 rfl ?_
                        refine bv_icmp_ne (tgt := 257) dX12_isLeaf_250 (by decide) (fun cc => ?_) (fun cc => ?_)
                        · replace h := bu_f h cc
                          refine bv_iconst (v := 0) dX12_isLeaf_257 (by decide) ?_
                          refine bv_goto (tgt := 273) dX12_isLeaf_258 (by decide) ?_
                          obtain rfl := Option.some.inj h
                          exact bw_bret (b := false) dX12_isLeaf_273 rfl ⟨rfl, rfl⟩
                        · replace h := bu_t h cc
                          refine bv_iconst (v := 1) dX12_isLeaf_253 (by decide) ?_
                          refine bv_goto (tgt := 273) dX12_isLeaf_254 (by decide) ?_
                          obtain rfl := Option.some.inj h
                          exact bw_bret (b := true) dX12_isLeaf_273 rfl ⟨rfl, rfl⟩
                    · replace h := bu_t h cc
                      refine bv_iload dX12_isLeaf_225 5 rfl ?_
                      refine bv_iload dX12_isLeaf_227 4 rfl ?_
                      refine bv_icmp_ge (tgt := 236) dX12_isLeaf_229 (by decide) (fun cc => ?_) (fun cc => ?_)
                      · replace h := bu_t h cc
                        refine bv_iconst (v := 0) dX12_isLeaf_236 (by decide) ?_
                        refine bv_goto (tgt := 273) dX12_isLeaf_237 (by decide) ?_
                        obtain rfl := Option.some.inj h
                        exact bw_bret (b := false) dX12_isLeaf_273 rfl ⟨rfl, rfl⟩
                      · replace h := bu_f h cc
                        refine bv_iconst (v := 1) dX12_isLeaf_232 (by decide) ?_
                        refine bv_goto (tgt := 273) dX12_isLeaf_233 (by decide) ?_
                        obtain rfl := Option.some.inj h
                        exact bw_bret (b := true) dX12_isLeaf_273 rfl ⟨rfl, rfl⟩
def f_X12_isSaid_l4 (x1 : Int32) : Nat → Int32 → Int32 → bm_TI → Option (bm_TI)
  | 0, _, _, _ => none
  | k + 1, x2, x3, I => (if (I 166 106) ≤ x3 then some I else (if bm_ix 287 (107 + (3 * x3)) = true then (if (I 166 (107 + (3 * x3)).toNatClampNeg) = 20 then (if bm_ix 45 (x2 - 1) = true then (if (I 177 (x2 - 1).toNatClampNeg) = 0 then f_X12_isSaid_l4 x1 k x2 (x3 + 1) (bm_uI I 177 ((x2 - 1).toNatClampNeg) (vp_nar .boolean 1)) else f_X12_isSaid_l4 x1 k x2 (x3 + 1) (bm_uI I 177 ((x2 - 1).toNatClampNeg) (vp_nar .boolean 0))) else none) else (if (I 166 (107 + (3 * x3)).toNatClampNeg) = 21 then (if (I 166 (107 + (3 * x3)).toNatClampNeg) = 21 then (if bm_ix 45 ((x2 + (-1)) - 1) = true then (if (I 177 ((x2 + (-1)) - 1).toNatClampNeg) = 0 then f_X12_isSaid_l4 x1 k (x2 + (-1)) (x3 + 1) (bm_uI I 177 (((x2 + (-1)) - 1).toNatClampNeg) (vp_nar .boolean 0)) else (if bm_ix 45 (x2 + (-1)) = true then (if (I 177 (x2 + (-1)).toNatClampNeg) = 0 then f_X12_isSaid_l4 x1 k (x2 + (-1)) (x3 + 1) (bm_uI I 177 (((x2 + (-1)) - 1).toNatClampNeg) (vp_nar .boolean 0)) else f_X12_isSaid_l4 x1 k (x2 + (-1)) (x3 + 1) (bm_uI I 177 (((x2 + (-1)) - 1).toNatClampNeg) (vp_nar .boolean 1))) else none)) else none) else (if bm_ix 45 ((x2 + (-1)) - 1) = true then (if (I 177 ((x2 + (-1)) - 1).toNatClampNeg) = 0 then (if bm_ix 45 (x2 + (-1)) = true then (if (I 177 (x2 + (-1)).toNatClampNeg) = 0 then f_X12_isSaid_l4 x1 k (x2 + (-1)) (x3 + 1) (bm_uI I 177 (((x2 + (-1)) - 1).toNatClampNeg) (vp_nar .boolean 0)) else f_X12_isSaid_l4 x1 k (x2 + (-1)) (x3 + 1) (bm_uI I 177 (((x2 + (-1)) - 1).toNatClampNeg) (vp_nar .boolean 1))) else none) else f_X12_isSaid_l4 x1 k (x2 + (-1)) (x3 + 1) (bm_uI I 177 (((x2 + (-1)) - 1).toNatClampNeg) (vp_nar .boolean 1))) else none)) else (if (I 166 (107 + (3 * x3)).toNatClampNeg) = 22 then (if (I 166 (107 + (3 * x3)).toNatClampNeg) = 21 then (if bm_ix 45 ((x2 + (-1)) - 1) = true then (if (I 177 ((x2 + (-1)) - 1).toNatClampNeg) = 0 then f_X12_isSaid_l4 x1 k (x2 + (-1)) (x3 + 1) (bm_uI I 177 (((x2 + (-1)) - 1).toNatClampNeg) (vp_nar .boolean 0)) else (if bm_ix 45 (x2 + (-1)) = true then (if (I 177 (x2 + (-1)).toNatClampNeg) = 0 then f_X12_isSaid_l4 x1 k (x2 + (-1)) (x3 + 1) (bm_uI I 177 (((x2 + (-1)) - 1).toNatClampNeg) (vp_nar .boolean 0)) else f_X12_isSaid_l4 x1 k (x2 + (-1)) (x3 + 1) (bm_uI I 177 (((x2 + (-1)) - 1).toNatClampNeg) (vp_nar .boolean 1))) else none)) else none) else (if bm_ix 45 ((x2 + (-1)) - 1) = true then (if (I 177 ((x2 + (-1)) - 1).toNatClampNeg) = 0 then (if bm_ix 45 (x2 + (-1)) = true then (if (I 177 (x2 + (-1)).toNatClampNeg) = 0 then f_X12_isSaid_l4 x1 k (x2 + (-1)) (x3 + 1) (bm_uI I 177 (((x2 + (-1)) - 1).toNatClampNeg) (vp_nar .boolean 0)) else f_X12_isSaid_l4 x1 k (x2 + (-1)) (x3 + 1) (bm_uI I 177 (((x2 + (-1)) - 1).toNatClampNeg) (vp_nar .boolean 1))) else none) else f_X12_isSaid_l4 x1 k (x2 + (-1)) (x3 + 1) (bm_uI I 177 (((x2 + (-1)) - 1).toNatClampNeg) (vp_nar .boolean 1))) else none)) else (if bm_ix 287 ((107 + (3 * x3)) + 1) = true then (if bm_ix 287 ((107 + (3 * x3)) + 2) = true then ((f_X12_isLeaf I x1 (I 166 (107 + (3 * x3)).toNatClampNeg) (I 166 ((107 + (3 * x3)) + 1).toNatClampNeg) (I 166 ((107 + (3 * x3)) + 2).toNatClampNeg)).bind fun v8 => (if bm_ix 45 x2 = true then f_X12_isSaid_l4 x1 k (x2 + 1) (x3 + 1) (bm_uI I 177 x2.toNatClampNeg (vp_nar .boolean (bm_bi v8))) else none)) else none) else none)))) else none))
set_option maxHeartbeats 4000000 in
set_option maxRecDepth 100000 in
theorem v_X12_isSaid_l4 {lc : bm_L} {d n : Nat} {Q : Option Value → bm_M → Prop} {R : bm_TR} {J : bm_TJ} {W : bm_TR} {x1 : Int32} (hN : 181 ≤ n) (hR : bm_RR R) : ∀ (k : Nat) (x2 : Int32) (x3 : Int32) (I : bm_TI) (r : bm_TI), f_X12_isSaid_l4 x1 k x2 x3 I = some r → (∀ yy, yy = r → bm_V lc m_X12_isSaid (d + 5) n n n 210 [(0, .ref 164)] [] (yy, J, R, W) Q) → bm_V lc m_X12_isSaid (d + 5) n n n 4 [(0, .ref 164), (1, .int x1), (2, .int x2), (3, .int x3)] [] (I, J, R, W) Q := by
  intro k
  induction k with
  | zero => intro x2 x3 I r h; cases (show (none : Option (bm_TI)) = some r from h)
  | succ k ih =>
    intro x2 x3 I r h K0
    unfold f_X12_isSaid_l4 at h
    refine bv_iload_n dX12_isSaid_4 3 rfl ?_
    refine bv_aload_n dX12_isSaid_5 0 rfl ?_
    refine bz_getA (a := 166) hN okL_164 (hR _ _ _ r0_164_6) dX12_isSaid_6 fl_12_33 rfl ?_
    refine bv_bipush (v := 106) dX12_isSaid_9 (by decide) ?_
    refine bz_iald (j := 106) hN rkL_166 (bm_ix_in (by decide)) (by decide) dX12_isSaid_11 ?_
    refine bv_icmp_ge (tgt := 210) dX12_isSaid_12 (by decide) (fun cc => ?_) (fun cc => ?_)
    · replace h := bu_t h cc
      refine bw_ls (ls1 := [(0, .ref 164)]) [0] rfl ?_
      obtain rfl := Option.some.inj h
      exact K0 _ rfl
    · replace h := bu_f h cc
      refine bv_bipush (v := 107) dX12_isSaid_15 (by decide) ?_
      refine bv_iconst (v := 3) dX12_isSaid_17 (by decide) ?_
      refine bv_iload_n dX12_isSaid_18 3 rfl ?_
      refine bv_imul dX12_isSaid_19 ?_
      refine bv_iadd dX12_isSaid_20 ?_
      refine bv_istore (ls1 := [(0, .ref 164), (1, .int x1), (2, .int x2), (3, .int x3), (4, .int (107 + (3 * x3)))]) dX12_isSaid_21 (by decide) rfl rfl ?_
      refine bv_aload_n dX12_isSaid_23 0 rfl ?_
      refine bz_getA (a := 166) hN okL_164 (hR _ _ _ r0_164_6) dX12_isSaid_24 fl_12_33 rfl ?_
      refine bv_iload dX12_isSaid_27 4 rfl ?_
      obtain ⟨r1, h⟩ := bu_ix h
      refine bz_iald hN rkL_166 r1 rfl dX12_isSaid_29 ?_
      refine bv_bipush (v := 20) dX12_isSaid_30 (by decide) ?_
      refine bv_icmp_ne (tgt := 62) dX12_isSaid_32 (by decide) (fun cc => ?_) (fun cc => ?_)
      · replace h := bu_f h cc
        refine bv_aload_n dX12_isSaid_62 0 rfl ?_
        refine bz_getA (a := 166) hN okL_164 (hR _ _ _ r0_164_6) dX12_isSaid_63 fl_12_33 rfl ?_
        refine bv_iload dX12_isSaid_66 4 rfl ?_
        refine bz_iald hN rkL_166 r1 rfl dX12_isSaid_68 ?_
        refine bv_bipush (v := 21) dX12_isSaid_69 (by decide) ?_
        refine bv_icmp_eq (tgt := 86) dX12_isSaid_71 (by decide) (fun cc => ?_) (fun cc => ?_)
        · replace h := bu_t h cc
          refine bv_iinc (j := 2) (v := (x2 + (-1))) (ls1 := [(0, .ref 164), (1, .int x1), (2, .int (x2 + (-1))), (3, .int x3), (4, .int (107 + (3 * x3)))]) dX12_isSaid_86 rfl rfl (by decide) rfl rfl ?_
          refine bv_aload_n dX12_isSaid_89 0 rfl ?_
          refine bz_getA (a := 177) hN okL_164 (hR _ _ _ r0_164_43) dX12_isSaid_90 fl_12_80 rfl ?_
          refine bv_iload_n dX12_isSaid_93 2 rfl ?_
          refine bv_iconst (v := 1) dX12_isSaid_94 (by decide) ?_
          refine bv_isub dX12_isSaid_95 ?_
          refine bv_aload_n dX12_isSaid_96 0 rfl ?_
          refine bz_getA (a := 166) hN okL_164 (hR _ _ _ r0_164_6) dX12_isSaid_97 fl_12_33 rfl ?_
          refine bv_iload dX12_isSaid_100 4 rfl ?_
          refine bz_iald hN rkL_166 r1 rfl dX12_isSaid_102 ?_
          refine bv_bipush (v := 21) dX12_isSaid_103 (by decide) ?_
          refine bv_icmp_ne (tgt := 136) dX12_isSaid_105 (by decide) (fun cc => ?_) (fun cc => ?_)
          · replace h := bu_f h cc
            refine bv_aload_n dX12_isSaid_136 0 rfl ?_
            refine bz_getA (a := 177) hN okL_164 (hR _ _ _ r0_164_43) dX12_isSaid_137 fl_12_80 rfl ?_
            refine bv_iload_n dX12_isSaid_140 2 rfl ?_
            refine bv_iconst (v := 1) dX12_isSaid_141 (by decide) ?_
            refine bv_isub dX12_isSaid_142 ?_
            obtain ⟨r2, h⟩ := bu_ix h
            refine bz_zald hN rkL_177 r2 rfl dX12_isSaid_143 ?_
            refine bv_if_ne (tgt := 156) dX12_isSaid_144 (by decide) (fun cc => ?_) (fun cc => ?_)
            · replace h := bu_f h cc
              refine bv_iconst (v := 1) dX12_isSaid_156 (by decide) ?_
              refine bv_goto (tgt := 161) dX12_isSaid_157 (by decide) ?_
              refine bz_zast hN rkL_177 r2 rfl dX12_isSaid_161 ?_
              refine bv_goto (tgt := 204) dX12_isSaid_162 (by decide) ?_
              refine bv_iinc (j := 3) (v := (x3 + 1)) (ls1 := [(0, .ref 164), (1, .int x1), (2, .int (x2 + (-1))), (3, .int (x3 + 1)), (4, .int (107 + (3 * x3)))]) dX12_isSaid_204 rfl rfl (by decide) rfl rfl ?_
              refine bv_goto (tgt := 4) dX12_isSaid_207 (by decide) ?_
              refine bw_ls (ls1 := [(0, .ref 164), (1, .int x1), (2, .int (x2 + (-1))), (3, .int (x3 + 1))]) [0, 1, 2, 3] rfl ?_
              exact ih _ _ _ _ h K0
            · replace h := bu_t h cc
              refine bv_aload_n dX12_isSaid_147 0 rfl ?_
              refine bz_getA (a := 177) hN okL_164 (hR _ _ _ r0_164_43) dX12_isSaid_148 fl_12_80 rfl ?_
              refine bv_iload_n dX12_isSaid_151 2 rfl ?_
              obtain ⟨r3, h⟩ := bu_ix h
              refine bz_zald hN rkL_177 r3 rfl dX12_isSaid_152 ?_
              refine bv_if_eq (tgt := 160) dX12_isSaid_153 (by decide) (fun cc => ?_) (fun cc => ?_)
              · replace h := bu_t h cc
                refine bv_iconst (v := 0) dX12_isSaid_160 (by decide) ?_
                refine bz_zast hN rkL_177 r2 rfl dX12_isSaid_161 ?_
                refine bv_goto (tgt := 204) dX12_isSaid_162 (by decide) ?_
                refine bv_iinc (j := 3) (v := (x3 + 1)) (ls1 := [(0, .ref 164), (1, .int x1), (2, .int (x2 + (-1))), (3, .int (x3 + 1)), (4, .int (107 + (3 * x3)))]) dX12_isSaid_204 rfl rfl (by decide) rfl rfl ?_
                refine bv_goto (tgt := 4) dX12_isSaid_207 (by decide) ?_
                refine bw_ls (ls1 := [(0, .ref 164), (1, .int x1), (2, .int (x2 + (-1))), (3, .int (x3 + 1))]) [0, 1, 2, 3] rfl ?_
                exact ih _ _ _ _ h K0
              · replace h := bu_f h cc
                refine bv_iconst (v := 1) dX12_isSaid_156 (by decide) ?_
                refine bv_goto (tgt := 161) dX12_isSaid_157 (by decide) ?_
                refine bz_zast hN rkL_177 r2 rfl dX12_isSaid_161 ?_
                refine bv_goto (tgt := 204) dX12_isSaid_162 (by decide) ?_
                refine bv_iinc (j := 3) (v := (x3 + 1)) (ls1 := [(0, .ref 164), (1, .int x1), (2, .int (x2 + (-1))), (3, .int (x3 + 1)), (4, .int (107 + (3 * x3)))]) dX12_isSaid_204 rfl rfl (by decide) rfl rfl ?_
                refine bv_goto (tgt := 4) dX12_isSaid_207 (by decide) ?_
                refine bw_ls (ls1 := [(0, .ref 164), (1, .int x1), (2, .int (x2 + (-1))), (3, .int (x3 + 1))]) [0, 1, 2, 3] rfl ?_
                exact ih _ _ _ _ h K0
          · replace h := bu_t h cc
            refine bv_aload_n dX12_isSaid_108 0 rfl ?_
            refine bz_getA (a := 177) hN okL_164 (hR _ _ _ r0_164_43) dX12_isSaid_109 fl_12_80 rfl ?_
            refine bv_iload_n dX12_isSaid_112 2 rfl ?_
            refine bv_iconst (v := 1) dX12_isSaid_113 (by decide) ?_
            refine bv_isub dX12_isSaid_114 ?_
            obtain ⟨r4, h⟩ := bu_ix h
            refine bz_zald hN rkL_177 r4 rfl dX12_isSaid_115 ?_
            refine bv_if_eq (tgt := 132) dX12_isSaid_116 (by decide) (fun cc => ?_) (fun cc => ?_)
            · replace h := bu_t h cc
              refine bv_iconst (v := 0) dX12_isSaid_132 (by decide) ?_
              refine bv_goto (tgt := 161) dX12_isSaid_133 (by decide) ?_
              refine bz_zast hN rkL_177 r4 rfl dX12_isSaid_161 ?_
              refine bv_goto (tgt := 204) dX12_isSaid_162 (by decide) ?_
              refine bv_iinc (j := 3) (v := (x3 + 1)) (ls1 := [(0, .ref 164), (1, .int x1), (2, .int (x2 + (-1))), (3, .int (x3 + 1)), (4, .int (107 + (3 * x3)))]) dX12_isSaid_204 rfl rfl (by decide) rfl rfl ?_
              refine bv_goto (tgt := 4) dX12_isSaid_207 (by decide) ?_
              refine bw_ls (ls1 := [(0, .ref 164), (1, .int x1), (2, .int (x2 + (-1))), (3, .int (x3 + 1))]) [0, 1, 2, 3] rfl ?_
              exact ih _ _ _ _ h K0
            · replace h := bu_f h cc
              refine bv_aload_n dX12_isSaid_119 0 rfl ?_
              refine bz_getA (a := 177) hN okL_164 (hR _ _ _ r0_164_43) dX12_isSaid_120 fl_12_80 rfl ?_
              refine bv_iload_n dX12_isSaid_123 2 rfl ?_
              obtain ⟨r5, h⟩ := bu_ix h
              refine bz_zald hN rkL_177 r5 rfl dX12_isSaid_124 ?_
              refine bv_if_eq (tgt := 132) dX12_isSaid_125 (by decide) (fun cc => ?_) (fun cc => ?_)
              · replace h := bu_t h cc
                refine bv_iconst (v := 0) dX12_isSaid_132 (by decide) ?_
                refine bv_goto (tgt := 161) dX12_isSaid_133 (by decide) ?_
                refine bz_zast hN rkL_177 r4 rfl dX12_isSaid_161 ?_
                refine bv_goto (tgt := 204) dX12_isSaid_162 (by decide) ?_
                refine bv_iinc (j := 3) (v := (x3 + 1)) (ls1 := [(0, .ref 164), (1, .int x1), (2, .int (x2 + (-1))), (3, .int (x3 + 1)), (4, .int (107 + (3 * x3)))]) dX12_isSaid_204 rfl rfl (by decide) rfl rfl ?_
                refine bv_goto (tgt := 4) dX12_isSaid_207 (by decide) ?_
                refine bw_ls (ls1 := [(0, .ref 164), (1, .int x1), (2, .int (x2 + (-1))), (3, .int (x3 + 1))]) [0, 1, 2, 3] rfl ?_
                exact ih _ _ _ _ h K0
              · replace h := bu_f h cc
                refine bv_iconst (v := 1) dX12_isSaid_128 (by decide) ?_
                refine bv_goto (tgt := 161) dX12_isSaid_129 (by decide) ?_
                refine bz_zast hN rkL_177 r4 rfl dX12_isSaid_161 ?_
                refine bv_goto (tgt := 204) dX12_isSaid_162 (by decide) ?_
                refine bv_iinc (j := 3) (v := (x3 + 1)) (ls1 := [(0, .ref 164), (1, .int x1), (2, .int (x2 + (-1))), (3, .int (x3 + 1)), (4, .int (107 + (3 * x3)))]) dX12_isSaid_204 rfl rfl (by decide) rfl rfl ?_
                refine bv_goto (tgt := 4) dX12_isSaid_207 (by decide) ?_
                refine bw_ls (ls1 := [(0, .ref 164), (1, .int x1), (2, .int (x2 + (-1))), (3, .int (x3 + 1))]) [0, 1, 2, 3] rfl ?_
                exact ih _ _ _ _ h K0
        · replace h := bu_f h cc
          refine bv_aload_n dX12_isSaid_74 0 rfl ?_
          refine bz_getA (a := 166) hN okL_164 (hR _ _ _ r0_164_6) dX12_isSaid_75 fl_12_33 rfl ?_
          refine bv_iload dX12_isSaid_78 4 rfl ?_
          refine bz_iald hN rkL_166 r1 rfl dX12_isSaid_80 ?_
          refine bv_bipush (v := 22) dX12_isSaid_81 (by decide) ?_
          refine bv_icmp_ne (tgt := 165) dX12_isSaid_83 (by decide) (fun cc => ?_) (fun cc => ?_)
          · replace h := bu_f h cc
            refine bv_aload_n dX12_isSaid_165 0 rfl ?_
            refine bz_getA (a := 177) hN okL_164 (hR _ _ _ r0_164_43) dX12_isSaid_166 fl_12_80 rfl ?_
            refine bv_iload_n dX12_isSaid_169 2 rfl ?_
            refine bv_aload_n dX12_isSaid_170 0 rfl ?_
            refine bv_iload_n dX12_isSaid_171 1 rfl ?_
            refine bv_aload_n dX12_isSaid_172 0 rfl ?_
            refine bz_getA (a := 166) hN okL_164 (hR _ _ _ r0_164_6) dX12_isSaid_173 fl_12_33 rfl ?_
            refine bv_iload dX12_isSaid_176 4 rfl ?_
            refine bz_iald hN rkL_166 r1 rfl dX12_isSaid_178 ?_
            refine bv_aload_n dX12_isSaid_179 0 rfl ?_
            refine bz_getA (a := 166) hN okL_164 (hR _ _ _ r0_164_6) dX12_isSaid_180 fl_12_33 rfl ?_
            refine bv_iload dX12_isSaid_183 4 rfl ?_
            refine bv_iconst (v := 1) dX12_isSaid_185 (by decide) ?_
            refine bv_iadd dX12_isSaid_186 ?_
            obtain ⟨r6, h⟩ := bu_ix h
            refine bz_iald hN rkL_166 r6 rfl dX12_isSaid_187 ?_
            refine bv_aload_n dX12_isSaid_188 0 rfl ?_
            refine bz_getA (a := 166) hN okL_164 (hR _ _ _ r0_164_6) dX12_isSaid_189 fl_12_33 rfl ?_
            refine bv_iload dX12_isSaid_192 4 rfl ?_
            refine bv_iconst (v := 2) dX12_isSaid_194 (by decide) ?_
            refine bv_iadd dX12_isSaid_195 ?_
            obtain ⟨r7, h⟩ := bu_ix h
            refine bz_iald hN rkL_166 r7 rfl dX12_isSaid_196 ?_
            obtain ⟨v8, p9, h⟩ := bu_bd h
            refine bw_callV (As := [.int x1, .int (I 166 (107 + (3 * x3)).toNatClampNeg), .int (I 166 ((107 + (3 * x3)) + 1).toNatClampNeg), .int (I 166 ((107 + (3 * x3)) + 2).toNatClampNeg)]) hN okL_164 ⟨_, _, rfl⟩ dX12_isSaid_197 mc_12_484 (c_X12_isLeaf (d := d + 0) hN hR p9) rfl rfl (Nat.le_of_ble_eq_true rfl) ?_
            obtain ⟨r10, h⟩ := bu_ix h
            refine bz_zast hN rkL_177 r10 rfl dX12_isSaid_200 ?_
            refine bv_iinc (j := 2) (v := (x2 + 1)) (ls1 := [(0, .ref 164), (1, .int x1), (2, .int (x2 + 1)), (3, .int x3), (4, .int (107 + (3 * x3)))]) dX12_isSaid_201 rfl rfl (by decide) rfl rfl ?_
            refine bv_iinc (j := 3) (v := (x3 + 1)) (ls1 := [(0, .ref 164), (1, .int x1), (2, .int (x2 + 1)), (3, .int (x3 + 1)), (4, .int (107 + (3 * x3)))]) dX12_isSaid_204 rfl rfl (by decide) rfl rfl ?_
            refine bv_goto (tgt := 4) dX12_isSaid_207 (by decide) ?_
            refine bw_ls (ls1 := [(0, .ref 164), (1, .int x1), (2, .int (x2 + 1)), (3, .int (x3 + 1))]) [0, 1, 2, 3] rfl ?_
            exact ih _ _ _ _ h K0
          · replace h := bu_t h cc
            refine bv_iinc (j := 2) (v := (x2 + (-1))) (ls1 := [(0, .ref 164), (1, .int x1), (2, .int (x2 + (-1))), (3, .int x3), (4, .int (107 + (3 * x3)))]) dX12_isSaid_86 rfl rfl (by decide) rfl rfl ?_
            refine bv_aload_n dX12_isSaid_89 0 rfl ?_
            refine bz_getA (a := 177) hN okL_164 (hR _ _ _ r0_164_43) dX12_isSaid_90 fl_12_80 rfl ?_
            refine bv_iload_n dX12_isSaid_93 2 rfl ?_
            refine bv_iconst (v := 1) dX12_isSaid_94 (by decide) ?_
            refine bv_isub dX12_isSaid_95 ?_
            refine bv_aload_n dX12_isSaid_96 0 rfl ?_
            refine bz_getA (a := 166) hN okL_164 (hR _ _ _ r0_164_6) dX12_isSaid_97 fl_12_33 rfl ?_
            refine bv_iload dX12_isSaid_100 4 rfl ?_
            refine bz_iald hN rkL_166 r1 rfl dX12_isSaid_102 ?_
            refine bv_bipush (v := 21) dX12_isSaid_103 (by decide) ?_
            refine bv_icmp_ne (tgt := 136) dX12_isSaid_105 (by decide) (fun cc => ?_) (fun cc => ?_)
            · replace h := bu_f h cc
              refine bv_aload_n dX12_isSaid_136 0 rfl ?_
              refine bz_getA (a := 177) hN okL_164 (hR _ _ _ r0_164_43) dX12_isSaid_137 fl_12_80 rfl ?_
              refine bv_iload_n dX12_isSaid_140 2 rfl ?_
              refine bv_iconst (v := 1) dX12_isSaid_141 (by decide) ?_
              refine bv_isub dX12_isSaid_142 ?_
              obtain ⟨r11, h⟩ := bu_ix h
              refine bz_zald hN rkL_177 r11 rfl dX12_isSaid_143 ?_
              refine bv_if_ne (tgt := 156) dX12_isSaid_144 (by decide) (fun cc => ?_) (fun cc => ?_)
              · replace h := bu_f h cc
                refine bv_iconst (v := 1) dX12_isSaid_156 (by decide) ?_
                refine bv_goto (tgt := 161) dX12_isSaid_157 (by decide) ?_
                refine bz_zast hN rkL_177 r11 rfl dX12_isSaid_161 ?_
                refine bv_goto (tgt := 204) dX12_isSaid_162 (by decide) ?_
                refine bv_iinc (j := 3) (v := (x3 + 1)) (ls1 := [(0, .ref 164), (1, .int x1), (2, .int (x2 + (-1))), (3, .int (x3 + 1)), (4, .int (107 + (3 * x3)))]) dX12_isSaid_204 rfl rfl (by decide) rfl rfl ?_
                refine bv_goto (tgt := 4) dX12_isSaid_207 (by decide) ?_
                refine bw_ls (ls1 := [(0, .ref 164), (1, .int x1), (2, .int (x2 + (-1))), (3, .int (x3 + 1))]) [0, 1, 2, 3] rfl ?_
                exact ih _ _ _ _ h K0
              · replace h := bu_t h cc
                refine bv_aload_n dX12_isSaid_147 0 rfl ?_
                refine bz_getA (a := 177) hN okL_164 (hR _ _ _ r0_164_43) dX12_isSaid_148 fl_12_80 rfl ?_
                refine bv_iload_n dX12_isSaid_151 2 rfl ?_
                obtain ⟨r12, h⟩ := bu_ix h
                refine bz_zald hN rkL_177 r12 rfl dX12_isSaid_152 ?_
                refine bv_if_eq (tgt := 160) dX12_isSaid_153 (by decide) (fun cc => ?_) (fun cc => ?_)
                · replace h := bu_t h cc
                  refine bv_iconst (v := 0) dX12_isSaid_160 (by decide) ?_
                  refine bz_zast hN rkL_177 r11 rfl dX12_isSaid_161 ?_
                  refine bv_goto (tgt := 204) dX12_isSaid_162 (by decide) ?_
                  refine bv_iinc (j := 3) (v := (x3 + 1)) (ls1 := [(0, .ref 164), (1, .int x1), (2, .int (x2 + (-1))), (3, .int (x3 + 1)), (4, .int (107 + (3 * x3)))]) dX12_isSaid_204 rfl rfl (by decide) rfl rfl ?_
                  refine bv_goto (tgt := 4) dX12_isSaid_207 (by decide) ?_
                  refine bw_ls (ls1 := [(0, .ref 164), (1, .int x1), (2, .int (x2 + (-1))), (3, .int (x3 + 1))]) [0, 1, 2, 3] rfl ?_
                  exact ih _ _ _ _ h K0
                · replace h := bu_f h cc
                  refine bv_iconst (v := 1) dX12_isSaid_156 (by decide) ?_
                  refine bv_goto (tgt := 161) dX12_isSaid_157 (by decide) ?_
                  refine bz_zast hN rkL_177 r11 rfl dX12_isSaid_161 ?_
                  refine bv_goto (tgt := 204) dX12_isSaid_162 (by decide) ?_
                  refine bv_iinc (j := 3) (v := (x3 + 1)) (ls1 := [(0, .ref 164), (1, .int x1), (2, .int (x2 + (-1))), (3, .int (x3 + 1)), (4, .int (107 + (3 * x3)))]) dX12_isSaid_204 rfl rfl (by decide) rfl rfl ?_
                  refine bv_goto (tgt := 4) dX12_isSaid_207 (by decide) ?_
                  refine bw_ls (ls1 := [(0, .ref 164), (1, .int x1), (2, .int (x2 + (-1))), (3, .int (x3 + 1))]) [0, 1, 2, 3] rfl ?_
                  exact ih _ _ _ _ h K0
            · replace h := bu_t h cc
              refine bv_aload_n dX12_isSaid_108 0 rfl ?_
              refine bz_getA (a := 177) hN okL_164 (hR _ _ _ r0_164_43) dX12_isSaid_109 fl_12_80 rfl ?_
              refine bv_iload_n dX12_isSaid_112 2 rfl ?_
              refine bv_iconst (v := 1) dX12_isSaid_113 (by decide) ?_
              refine bv_isub dX12_isSaid_114 ?_
              obtain ⟨r13, h⟩ := bu_ix h
              refine bz_zald hN rkL_177 r13 rfl dX12_isSaid_115 ?_
              refine bv_if_eq (tgt := 132) dX12_isSaid_116 (by decide) (fun cc => ?_) (fun cc => ?_)
              · replace h := bu_t h cc
                refine bv_iconst (v := 0) dX12_isSaid_132 (by decide) ?_
                refine bv_goto (tgt := 161) dX12_isSaid_133 (by decide) ?_
                refine bz_zast hN rkL_177 r13 rfl dX12_isSaid_161 ?_
                refine bv_goto (tgt := 204) dX12_isSaid_162 (by decide) ?_
                refine bv_iinc (j := 3) (v := (x3 + 1)) (ls1 := [(0, .ref 164), (1, .int x1), (2, .int (x2 + (-1))), (3, .int (x3 + 1)), (4, .int (107 + (3 * x3)))]) dX12_isSaid_204 rfl rfl (by decide) rfl rfl ?_
                refine bv_goto (tgt := 4) dX12_isSaid_207 (by decide) ?_
                refine bw_ls (ls1 := [(0, .ref 164), (1, .int x1), (2, .int (x2 + (-1))), (3, .int (x3 + 1))]) [0, 1, 2, 3] rfl ?_
                exact ih _ _ _ _ h K0
              · replace h := bu_f h cc
                refine bv_aload_n dX12_isSaid_119 0 rfl ?_
                refine bz_getA (a := 177) hN okL_164 (hR _ _ _ r0_164_43) dX12_isSaid_120 fl_12_80 rfl ?_
                refine bv_iload_n dX12_isSaid_123 2 rfl ?_
                obtain ⟨r14, h⟩ := bu_ix h
                refine bz_zald hN rkL_177 r14 rfl dX12_isSaid_124 ?_
                refine bv_if_eq (tgt := 132) dX12_isSaid_125 (by decide) (fun cc => ?_) (fun cc => ?_)
                · replace h := bu_t h cc
                  refine bv_iconst (v := 0) dX12_isSaid_132 (by decide) ?_
                  refine bv_goto (tgt := 161) dX12_isSaid_133 (by decide) ?_
                  refine bz_zast hN rkL_177 r13 rfl dX12_isSaid_161 ?_
                  refine bv_goto (tgt := 204) dX12_isSaid_162 (by decide) ?_
                  refine bv_iinc (j := 3) (v := (x3 + 1)) (ls1 := [(0, .ref 164), (1, .int x1), (2, .int (x2 + (-1))), (3, .int (x3 + 1)), (4, .int (107 + (3 * x3)))]) dX12_isSaid_204 rfl rfl (by decide) rfl rfl ?_
                  refine bv_goto (tgt := 4) dX12_isSaid_207 (by decide) ?_
                  refine bw_ls (ls1 := [(0, .ref 164), (1, .int x1), (2, .int (x2 + (-1))), (3, .int (x3 + 1))]) [0, 1, 2, 3] rfl ?_
                  exact ih _ _ _ _ h K0
                · replace h := bu_f h cc
                  refine bv_iconst (v := 1) dX12_isSaid_128 (by decide) ?_
                  refine bv_goto (tgt := 161) dX12_isSaid_129 (by decide) ?_
                  refine bz_zast hN rkL_177 r13 rfl dX12_isSaid_161 ?_
                  refine bv_goto (tgt := 204) dX12_isSaid_162 (by decide) ?_
                  refine bv_iinc (j := 3) (v := (x3 + 1)) (ls1 := [(0, .ref 164), (1, .int x1), (2, .int (x2 + (-1))), (3, .int (x3 + 1)), (4, .int (107 + (3 * x3)))]) dX12_isSaid_204 rfl rfl (by decide) rfl rfl ?_
                  refine bv_goto (tgt := 4) dX12_isSaid_207 (by decide) ?_
                  refine bw_ls (ls1 := [(0, .ref 164), (1, .int x1), (2, .int (x2 + (-1))), (3, .int (x3 + 1))]) [0, 1, 2, 3] rfl ?_
                  exact ih _ _ _ _ h K0
      · replace h := bu_t h cc
        refine bv_aload_n dX12_isSaid_35 0 rfl ?_
        refine bz_getA (a := 177) hN okL_164 (hR _ _ _ r0_164_43) dX12_isSaid_36 fl_12_80 rfl ?_
        refine bv_iload_n dX12_isSaid_39 2 rfl ?_
        refine bv_iconst (v := 1) dX12_isSaid_40 (by decide) ?_
        refine bv_isub dX12_isSaid_41 ?_
        refine bv_aload_n dX12_isSaid_42 0 rfl ?_
        refine bz_getA (a := 177) hN okL_164 (hR _ _ _ r0_164_43) dX12_isSaid_43 fl_12_80 rfl ?_
        refine bv_iload_n dX12_isSaid_46 2 rfl ?_
        refine bv_iconst (v := 1) dX12_isSaid_47 (by decide) ?_
        refine bv_isub dX12_isSaid_48 ?_
        obtain ⟨r15, h⟩ := bu_ix h
        refine bz_zald hN rkL_177 r15 rfl dX12_isSaid_49 ?_
        refine bv_if_ne (tgt := 57) dX12_isSaid_50 (by decide) (fun cc => ?_) (fun cc => ?_)
        · replace h := bu_f h cc
          refine bv_iconst (v := 0) dX12_isSaid_57 (by decide) ?_
          refine bz_zast hN rkL_177 r15 rfl dX12_isSaid_58 ?_
          refine bv_goto (tgt := 204) dX12_isSaid_59 (by decide) ?_
          refine bv_iinc (j := 3) (v := (x3 + 1)) (ls1 := [(0, .ref 164), (1, .int x1), (2, .int x2), (3, .int (x3 + 1)), (4, .int (107 + (3 * x3)))]) dX12_isSaid_204 rfl rfl (by decide) rfl rfl ?_
          refine bv_goto (tgt := 4) dX12_isSaid_207 (by decide) ?_
          refine bw_ls (ls1 := [(0, .ref 164), (1, .int x1), (2, .int x2), (3, .int (x3 + 1))]) [0, 1, 2, 3] rfl ?_
          exact ih _ _ _ _ h K0
        · replace h := bu_t h cc
          refine bv_iconst (v := 1) dX12_isSaid_53 (by decide) ?_
          refine bv_goto (tgt := 58) dX12_isSaid_54 (by decide) ?_
          refine bz_zast hN rkL_177 r15 rfl dX12_isSaid_58 ?_
          refine bv_goto (tgt := 204) dX12_isSaid_59 (by decide) ?_
          refine bv_iinc (j := 3) (v := (x3 + 1)) (ls1 := [(0, .ref 164), (1, .int x1), (2, .int x2), (3, .int (x3 + 1)), (4, .int (107 + (3 * x3)))]) dX12_isSaid_204 rfl rfl (by decide) rfl rfl ?_
          refine bv_goto (tgt := 4) dX12_isSaid_207 (by decide) ?_
          refine bw_ls (ls1 := [(0, .ref 164), (1, .int x1), (2, .int x2), (3, .int (x3 + 1))]) [0, 1, 2, 3] rfl ?_
          exact ih _ _ _ _ h K0
def f_X12_isSaid (I : bm_TI) (x1 : Int32) : Option (Bool × bm_TI) := ((f_X12_isSaid_l4 x1 1000 0 0 I).bind fun y3 => (if bm_bz (y3 177 0) = true then some (bm_ib (y3 177 0), y3) else none))
set_option maxHeartbeats 4000000 in
set_option maxRecDepth 100000 in
theorem c_X12_isSaid {lc : bm_L} {d n : Nat} {I : bm_TI} {J : bm_TJ} {R W : bm_TR} {x1 : Int32} {v : Bool × bm_TI} (hN : 181 ≤ n) (hR : bm_RR R) (h : f_X12_isSaid I x1 = some v) : bm_C lc m_X12_isSaid (d + 5) n n [.ref 164, .int x1] (I, J, R, W) (fun r M' => r = some (.int (bm_bi v.1)) ∧ M' = (v.2, J, R, W)) := by
  refine bm_C.ofV (by decide) (Nat.le_of_ble_eq_true rfl) ?_
  show bm_V lc m_X12_isSaid (d + 5) n n n 0 [(0, .ref 164), (1, .int x1)] [] (I, J, R, W) _
  unfold f_X12_isSaid at h
  refine bv_iconst (v := 0) dX12_isSaid_0 (by decide) ?_
  refine bv_istore_n (ls1 := [(0, .ref 164), (1, .int x1), (2, .int 0)]) dX12_isSaid_1 (by decide) rfl rfl ?_
  refine bv_iconst (v := 0) dX12_isSaid_2 (by decide) ?_
  refine bv_istore_n (ls1 := [(0, .ref 164), (1, .int x1), (2, .int 0), (3, .int 0)]) dX12_isSaid_3 (by decide) rfl rfl ?_
  obtain ⟨r1, p2, h⟩ := bu_bd h
  refine v_X12_isSaid_l4 hN hR 1000 _ _ _ _ p2 (fun y3 hy => ?_)
  · subst hy
    refine bv_aload_n dX12_isSaid_210 0 rfl ?_
    refine bz_getA (a := 177) hN okL_164 (hR _ _ _ r0_164_43) dX12_isSaid_211 fl_12_80 rfl ?_
    refine bv_iconst (v := 0) dX12_isSaid_214 (by decide) ?_
    refine bz_zald (j := 0) hN rkL_177 (bm_ix_in (by decide)) (by decide) dX12_isSaid_215 ?_
    obtain ⟨z4, h⟩ := bu_g h
    obtain rfl := Option.some.inj h
    exact bw_bretI z4 dX12_isSaid_216 rfl ⟨rfl, rfl⟩
def f_X12_said_l26 (x1 : Int32) : Nat → Int32 → Int32 → bm_TI → Option (((Int32 × bm_TI) ⊕ (Int32 × bm_TI)))
  | 0, _, _, _ => none
  | k + 1, x2, x3, I => (if (I 166 0) ≤ x3 then some (Sum.inr (x2, I)) else ((f_X12_isSaid I x3).bind fun v1 => (if v1.1 = true then (if x2 = x1 then some (Sum.inl (x3, v1.2)) else f_X12_said_l26 x1 k (x2 + 1) (x3 + 1) v1.2) else f_X12_said_l26 x1 k x2 (x3 + 1) v1.2)))
set_option maxHeartbeats 4000000 in
set_option maxRecDepth 100000 in
theorem v_X12_said_l26 {lc : bm_L} {d n : Nat} {Q : Option Value → bm_M → Prop} {R : bm_TR} {J : bm_TJ} {W : bm_TR} {x1 : Int32} (hN : 181 ≤ n) (hR : bm_RR R) : ∀ (k : Nat) (x2 : Int32) (x3 : Int32) (I : bm_TI) (r : ((Int32 × bm_TI) ⊕ (Int32 × bm_TI))), f_X12_said_l26 x1 k x2 x3 I = some r → (∀ yy, (Sum.inl yy) = r → bm_V lc m_X12_said (d + 6) n n n 52 [(3, .int yy.1)] [] (yy.2, J, R, W) Q) → (∀ yy, (Sum.inr yy) = r → bm_V lc m_X12_said (d + 6) n n n 63 [(1, .int x1), (2, .int yy.1)] [] (yy.2, J, R, W) Q) → bm_V lc m_X12_said (d + 6) n n n 26 [(0, .ref 164), (1, .int x1), (2, .int x2), (3, .int x3)] [] (I, J, R, W) Q := by
  intro k
  induction k with
  | zero => intro x2 x3 I r h; cases (show (none : Option (((Int32 × bm_TI) ⊕ (Int32 × bm_TI)))) = some r from h)
  | succ k ih =>
    intro x2 x3 I r h K0 K1
    unfold f_X12_said_l26 at h
    refine bv_iload_n dX12_said_26 3 rfl ?_
    refine bv_aload_n dX12_said_27 0 rfl ?_
    refine bz_getA (a := 166) hN okL_164 (hR _ _ _ r0_164_6) dX12_said_28 fl_12_33 rfl ?_
    refine bv_iconst (v := 0) dX12_said_31 (by decide) ?_
    refine bz_iald (j := 0) hN rkL_166 (bm_ix_in (by decide)) (by decide) dX12_said_32 ?_
    refine bv_icmp_ge (tgt := 63) dX12_said_33 (by decide) (fun cc => ?_) (fun cc => ?_)
    · replace h := bu_t h cc
      refine bw_ls (ls1 := [(1, .int x1), (2, .int x2)]) [1, 2] rfl ?_
      obtain rfl := Option.some.inj h
      exact K1 _ rfl
    · replace h := bu_f h cc
      refine bv_aload_n dX12_said_36 0 rfl ?_
      refine bv_iload_n dX12_said_37 3 rfl ?_
      obtain ⟨v1, p2, h⟩ := bu_bd h
      refine bw_callV (As := [.int x3]) hN okL_164 ⟨_, _, rfl⟩ dX12_said_38 mc_12_487 (c_X12_isSaid (d := d + 0) hN hR p2) rfl rfl (by decide) ?_
      refine bw_ifB_ne (b := v1.1) (tgt := 47) dX12_said_41 (by decide) (fun cc => ?_) (fun cc => ?_)
      · replace h := bu_bt h cc
        refine bv_iload_n dX12_said_47 2 rfl ?_
        refine bv_iload_n dX12_said_48 1 rfl ?_
        refine bv_icmp_ne (tgt := 54) dX12_said_49 (by decide) (fun cc => ?_) (fun cc => ?_)
        · replace h := bu_f h cc
          refine bv_iinc (j := 2) (v := (x2 + 1)) (ls1 := [(0, .ref 164), (1, .int x1), (2, .int (x2 + 1)), (3, .int x3)]) dX12_said_54 rfl rfl (by decide) rfl rfl ?_
          refine bv_iinc (j := 3) (v := (x3 + 1)) (ls1 := [(0, .ref 164), (1, .int x1), (2, .int (x2 + 1)), (3, .int (x3 + 1))]) dX12_said_57 rfl rfl (by decide) rfl rfl ?_
          refine bv_goto (tgt := 26) dX12_said_60 (by decide) ?_
          exact ih _ _ _ _ h K0 K1
        · replace h := bu_t h cc
          refine bw_ls (ls1 := [(3, .int x3)]) [3] rfl ?_
          obtain rfl := Option.some.inj h
          exact K0 _ rfl
      · replace h := bu_bf h cc
        refine bv_goto (tgt := 57) dX12_said_44 (by decide) ?_
        refine bv_iinc (j := 3) (v := (x3 + 1)) (ls1 := [(0, .ref 164), (1, .int x1), (2, .int x2), (3, .int (x3 + 1))]) dX12_said_57 rfl rfl (by decide) rfl rfl ?_
        refine bv_goto (tgt := 26) dX12_said_60 (by decide) ?_
        exact ih _ _ _ _ h K0 K1
def f_X12_said (I : bm_TI) (x1 : Int32) : Option (Int32 × bm_TI) := (if ((bm_uI I 164 0 0) 166 106) = 0 then some ((-1), (bm_uI I 164 0 0)) else (if (-1) ≤ x1 then ((f_X12_said_l26 x1 1000 0 0 (bm_uI I 164 0 0)).bind fun rr => match rr with | (Sum.inl y3) => some (y3.1, y3.2) | (Sum.inr y3) => (if x1 = (-1) then some (y3.1, y3.2) else some ((-1), y3.2))) else some ((-1), (bm_uI I 164 0 0))))
set_option maxHeartbeats 4000000 in
set_option maxRecDepth 100000 in
theorem c_X12_said {lc : bm_L} {d n : Nat} {I : bm_TI} {J : bm_TJ} {R W : bm_TR} {x1 : Int32} {v : Int32 × bm_TI} (hN : 181 ≤ n) (hR : bm_RR R) (h : f_X12_said I x1 = some v) : bm_C lc m_X12_said (d + 6) n n [.ref 164, .int x1] (I, J, R, W) (fun r M' => r = some (.int v.1) ∧ M' = (v.2, J, R, W)) := by
  refine bm_C.ofV (by decide) (Nat.le_of_ble_eq_true rfl) ?_
  show bm_V lc m_X12_said (d + 6) n n n 0 [(0, .ref 164), (1, .int x1)] [] (I, J, R, W) _
  unfold f_X12_said at h
  refine bv_aload_n dX12_said_0 0 rfl ?_
  refine bv_iconst (v := 0) dX12_said_1 (by decide) ?_
  refine bz_putI hN okL_164 dX12_said_2 fl_12_1 rfl ?_
  refine bv_aload_n dX12_said_5 0 rfl ?_
  refine bz_getA (a := 166) hN okL_164 (hR _ _ _ r0_164_6) dX12_said_6 fl_12_33 rfl ?_
  refine bv_bipush (v := 106) dX12_said_9 (by decide) ?_
  refine bz_iald (j := 106) hN rkL_166 (bm_ix_in (by decide)) (by decide) dX12_said_11 ?_
  refine bv_if_eq (tgt := 20) dX12_said_12 (by decide) (fun cc => ?_) (fun cc => ?_)
  · replace h := bu_t h cc
    refine bv_iconst (v := (-1)) dX12_said_20 (by decide) ?_
    obtain rfl := Option.some.inj h
    exact bv_iret (x := (-1)) dX12_said_21 rfl ⟨rfl, rfl⟩
  · replace h := bu_f h cc
    refine bv_iload_n dX12_said_15 1 rfl ?_
    refine bv_iconst (v := (-1)) dX12_said_16 (by decide) ?_
    refine bv_icmp_ge (tgt := 22) dX12_said_17 (by decide) (fun cc => ?_) (fun cc => ?_)
    · replace h := bu_t h cc
      refine bv_iconst (v := 0) dX12_said_22 (by decide) ?_
      refine bv_istore_n (ls1 := [(0, .ref 164), (1, .int x1), (2, .int 0)]) dX12_said_23 (by decide) rfl rfl ?_
      refine bv_iconst (v := 0) dX12_said_24 (by decide) ?_
      refine bv_istore_n (ls1 := [(0, .ref 164), (1, .int x1), (2, .int 0), (3, .int 0)]) dX12_said_25 (by decide) rfl rfl ?_
      obtain ⟨r1, p2, h⟩ := bu_bd h
      refine v_X12_said_l26 hN hR 1000 _ _ _ _ p2 (fun y3 hy => ?_) (fun y3 hy => ?_)
      · subst hy
        refine bv_iload_n dX12_said_52 0 rfl ?_
        obtain rfl := Option.some.inj h
        exact bv_iret (x := y3.1) dX12_said_53 rfl ⟨rfl, rfl⟩
      · subst hy
        refine bv_iload_n dX12_said_63 0 rfl ?_
        refine bv_iconst (v := (-1)) dX12_said_64 (by decide) ?_
        refine bv_icmp_ne (tgt := 72) dX12_said_65 (by decide) (fun cc => ?_) (fun cc => ?_)
        · replace h := bu_f h cc
          refine bv_iconst (v := (-1)) dX12_said_72 (by decide) ?_
          obtain rfl := Option.some.inj h
          exact bv_iret (x := (-1)) dX12_said_73 rfl ⟨rfl, rfl⟩
        · replace h := bu_t h cc
          refine bv_iload_n dX12_said_68 1 rfl ?_
          refine bv_goto (tgt := 73) dX12_said_69 (by decide) ?_
          obtain rfl := Option.some.inj h
          exact bv_iret (x := y3.1) dX12_said_73 rfl ⟨rfl, rfl⟩
    · replace h := bu_f h cc
      refine bv_iconst (v := (-1)) dX12_said_20 (by decide) ?_
      obtain rfl := Option.some.inj h
      exact bv_iret (x := (-1)) dX12_said_21 rfl ⟨rfl, rfl⟩
def f_X12_image_l18 (x1 : Int32) : Nat → Int32 → bm_TI → Option (bm_TI)
  | 0, _, _ => none
  | k + 1, x2, I => (if 287 ≤ x2 then some I else (if bm_ix 287 x2 = true then (if bm_ix 574 ((287 * x1) + x2) = true then f_X12_image_l18 x1 k (x2 + 1) (bm_uI I 178 (((287 * x1) + x2).toNatClampNeg) (I 166 x2.toNatClampNeg)) else none) else none))
set_option maxHeartbeats 4000000 in
set_option maxRecDepth 100000 in
theorem v_X12_image_l18 {lc : bm_L} {d n : Nat} {Q : Option Value → bm_M → Prop} {R : bm_TR} {J : bm_TJ} {W : bm_TR} {x1 : Int32} (hN : 181 ≤ n) (hR : bm_RR R) : ∀ (k : Nat) (x2 : Int32) (I : bm_TI) (r : bm_TI), f_X12_image_l18 x1 k x2 I = some r → (∀ yy, yy = r → bm_V lc m_X12_image (d + 1) n n n 49 [(0, .ref 164), (1, .int x1)] [] (yy, J, R, W) Q) → bm_V lc m_X12_image (d + 1) n n n 18 [(0, .ref 164), (1, .int x1), (2, .int x2)] [] (I, J, R, W) Q := by
  intro k
  induction k with
  | zero => intro x2 I r h; cases (show (none : Option (bm_TI)) = some r from h)
  | succ k ih =>
    intro x2 I r h K0
    unfold f_X12_image_l18 at h
    refine bv_iload_n dX12_image_18 2 rfl ?_
    refine bv_sipush (v := 287) dX12_image_19 (by decide) ?_
    refine bv_icmp_ge (tgt := 49) dX12_image_22 (by decide) (fun cc => ?_) (fun cc => ?_)
    · replace h := bu_t h cc
      refine bw_ls (ls1 := [(0, .ref 164), (1, .int x1)]) [0, 1] rfl ?_
      obtain rfl := Option.some.inj h
      exact K0 _ rfl
    · replace h := bu_f h cc
      refine bv_aload_n dX12_image_25 0 rfl ?_
      refine bz_getA (a := 178) hN okL_164 (hR _ _ _ r0_164_44) dX12_image_26 fl_12_84 rfl ?_
      refine bv_sipush (v := 287) dX12_image_29 (by decide) ?_
      refine bv_iload_n dX12_image_32 1 rfl ?_
      refine bv_imul dX12_image_33 ?_
      refine bv_iload_n dX12_image_34 2 rfl ?_
      refine bv_iadd dX12_image_35 ?_
      refine bv_aload_n dX12_image_36 0 rfl ?_
      refine bz_getA (a := 166) hN okL_164 (hR _ _ _ r0_164_6) dX12_image_37 fl_12_33 rfl ?_
      refine bv_iload_n dX12_image_40 2 rfl ?_
      obtain ⟨r1, h⟩ := bu_ix h
      refine bz_iald hN rkL_166 r1 rfl dX12_image_41 ?_
      obtain ⟨r2, h⟩ := bu_ix h
      refine bz_iast hN rkL_178 r2 rfl dX12_image_42 ?_
      refine bv_iinc (j := 2) (v := (x2 + 1)) (ls1 := [(0, .ref 164), (1, .int x1), (2, .int (x2 + 1))]) dX12_image_43 rfl rfl (by decide) rfl rfl ?_
      refine bv_goto (tgt := 18) dX12_image_46 (by decide) ?_
      exact ih _ _ _ h K0
def f_X12_image_l51 (x1 : Int32) : Nat → Int32 → bm_TJ → Option (bm_TJ)
  | 0, _, _ => none
  | k + 1, x2, J => (if 15 ≤ x2 then some J else (if bm_ix 30 x2 = true then (if bm_ix 30 ((15 * x1) + x2) = true then f_X12_image_l51 x1 k (x2 + 1) (bm_uJ J 179 (((15 * x1) + x2).toNatClampNeg) (J 169 x2.toNatClampNeg)) else none) else none))
set_option maxHeartbeats 4000000 in
set_option maxRecDepth 100000 in
theorem v_X12_image_l51 {lc : bm_L} {d n : Nat} {Q : Option Value → bm_M → Prop} {R : bm_TR} {I : bm_TI} {W : bm_TR} {x1 : Int32} (hN : 181 ≤ n) (hR : bm_RR R) : ∀ (k : Nat) (x2 : Int32) (J : bm_TJ) (r : bm_TJ), f_X12_image_l51 x1 k x2 J = some r → (∀ yy, yy = r → bm_V lc m_X12_image (d + 1) n n n 80 [(0, .ref 164), (1, .int x1)] [] (I, yy, R, W) Q) → bm_V lc m_X12_image (d + 1) n n n 51 [(0, .ref 164), (1, .int x1), (2, .int x2)] [] (I, J, R, W) Q := by
  intro k
  induction k with
  | zero => intro x2 J r h; cases (show (none : Option (bm_TJ)) = some r from h)
  | succ k ih =>
    intro x2 J r h K0
    unfold f_X12_image_l51 at h
    refine bv_iload_n dX12_image_51 2 rfl ?_
    refine bv_bipush (v := 15) dX12_image_52 (by decide) ?_
    refine bv_icmp_ge (tgt := 80) dX12_image_54 (by decide) (fun cc => ?_) (fun cc => ?_)
    · replace h := bu_t h cc
      refine bw_ls (ls1 := [(0, .ref 164), (1, .int x1)]) [0, 1] rfl ?_
      obtain rfl := Option.some.inj h
      exact K0 _ rfl
    · replace h := bu_f h cc
      refine bv_aload_n dX12_image_57 0 rfl ?_
      refine bz_getA (a := 179) hN okL_164 (hR _ _ _ r0_164_45) dX12_image_58 fl_12_87 rfl ?_
      refine bv_bipush (v := 15) dX12_image_61 (by decide) ?_
      refine bv_iload_n dX12_image_63 1 rfl ?_
      refine bv_imul dX12_image_64 ?_
      refine bv_iload_n dX12_image_65 2 rfl ?_
      refine bv_iadd dX12_image_66 ?_
      refine bv_aload_n dX12_image_67 0 rfl ?_
      refine bz_getA (a := 169) hN okL_164 (hR _ _ _ r0_164_9) dX12_image_68 fl_12_43 rfl ?_
      refine bv_iload_n dX12_image_71 2 rfl ?_
      obtain ⟨r1, h⟩ := bu_ix h
      refine bz_lald hN rkL_169 r1 rfl dX12_image_72 ?_
      obtain ⟨r2, h⟩ := bu_ix h
      refine bz_last hN rkL_179 r2 rfl dX12_image_73 ?_
      refine bv_iinc (j := 2) (v := (x2 + 1)) (ls1 := [(0, .ref 164), (1, .int x1), (2, .int (x2 + 1))]) dX12_image_74 rfl rfl (by decide) rfl rfl ?_
      refine bv_goto (tgt := 51) dX12_image_77 (by decide) ?_
      exact ih _ _ _ h K0
def f_X12_image (I : bm_TI) (J : bm_TJ) (x1 : Int32) : Option (Bool × bm_TI × bm_TJ) := (if (f_X12_isIn x1 0 1) = true then ((f_X12_image_l18 x1 1000 0 (bm_uI I 164 0 0)).bind fun y3 => ((f_X12_image_l51 x1 1000 0 J).bind fun y6 => (if bm_ix 2 x1 = true then some (true, (bm_uI y3 180 x1.toNatClampNeg (vp_nar .boolean 1)), y6) else none))) else some (false, (bm_uI I 164 0 0), J))
set_option maxHeartbeats 4000000 in
set_option maxRecDepth 100000 in
theorem c_X12_image {lc : bm_L} {d n : Nat} {I : bm_TI} {J : bm_TJ} {R W : bm_TR} {x1 : Int32} {v : Bool × bm_TI × bm_TJ} (hN : 181 ≤ n) (hR : bm_RR R) (h : f_X12_image I J x1 = some v) : bm_C lc m_X12_image (d + 1) n n [.ref 164, .int x1] (I, J, R, W) (fun r M' => r = some (.int (bm_bi v.1)) ∧ M' = (v.2.1, v.2.2, R, W)) := by
  refine bm_C.ofV (by decide) (Nat.le_of_ble_eq_true rfl) ?_
  show bm_V lc m_X12_image (d + 1) n n n 0 [(0, .ref 164), (1, .int x1)] [] (I, J, R, W) _
  unfold f_X12_image at h
  refine bv_aload_n dX12_image_0 0 rfl ?_
  refine bv_iconst (v := 0) dX12_image_1 (by decide) ?_
  refine bz_putI hN okL_164 dX12_image_2 fl_12_1 rfl ?_
  refine bv_iload_n dX12_image_5 1 rfl ?_
  refine bv_iconst (v := 0) dX12_image_6 (by decide) ?_
  refine bv_iconst (v := 1) dX12_image_7 (by decide) ?_
  refine bw_callS (As := [.int x1, .int 0, .int 1]) dX12_image_8 mc_12_206 (c_X12_isIn (d := d + 0) hN hR rfl) rfl rfl (by decide) ?_
  refine bw_ifB_ne (b := (f_X12_isIn x1 0 1)) (tgt := 16) dX12_image_11 (by decide) (fun cc => ?_) (fun cc => ?_)
  · replace h := bu_bt h cc
    refine bv_iconst (v := 0) dX12_image_16 (by decide) ?_
    refine bv_istore_n (ls1 := [(0, .ref 164), (1, .int x1), (2, .int 0)]) dX12_image_17 (by decide) rfl rfl ?_
    obtain ⟨r1, p2, h⟩ := bu_bd h
    refine v_X12_image_l18 hN hR 1000 _ _ _ p2 (fun y3 hy => ?_)
    · subst hy
      refine bv_iconst (v := 0) dX12_image_49 (by decide) ?_
      refine bv_istore_n (ls1 := [(0, .ref 164), (1, .int x1), (2, .int 0)]) dX12_image_50 (by decide) rfl rfl ?_
      obtain ⟨r4, p5, h⟩ := bu_bd h
      refine v_X12_image_l51 hN hR 1000 _ _ _ p5 (fun y6 hy => ?_)
      · subst hy
        refine bv_aload_n dX12_image_80 0 rfl ?_
        refine bz_getA (a := 180) hN okL_164 (hR _ _ _ r0_164_46) dX12_image_81 fl_12_90 rfl ?_
        refine bv_iload_n dX12_image_84 1 rfl ?_
        refine bv_iconst (v := 1) dX12_image_85 (by decide) ?_
        obtain ⟨r7, h⟩ := bu_ix h
        refine bz_zast hN rkL_180 r7 rfl dX12_image_86 ?_
        refine bv_iconst (v := 1) dX12_image_87 (by decide) ?_
        obtain rfl := Option.some.inj h
        exact bw_bret (b := true) dX12_image_88 rfl ⟨rfl, rfl⟩
  · replace h := bu_bf h cc
    refine bv_iconst (v := 0) dX12_image_14 (by decide) ?_
    obtain rfl := Option.some.inj h
    exact bw_bret (b := false) dX12_image_15 rfl ⟨rfl, rfl⟩
def f_X12_restore_l27 (x1 : Int32) : Nat → Int32 → bm_TI → Option (bm_TI)
  | 0, _, _ => none
  | k + 1, x2, I => (if 287 ≤ x2 then some I else (if bm_ix 574 ((287 * x1) + x2) = true then (if bm_ix 287 x2 = true then f_X12_restore_l27 x1 k (x2 + 1) (bm_uI I 166 x2.toNatClampNeg (I 178 ((287 * x1) + x2).toNatClampNeg)) else none) else none))
set_option maxHeartbeats 4000000 in
set_option maxRecDepth 100000 in
theorem v_X12_restore_l27 {lc : bm_L} {d n : Nat} {Q : Option Value → bm_M → Prop} {R : bm_TR} {J : bm_TJ} {W : bm_TR} {x1 : Int32} (hN : 181 ≤ n) (hR : bm_RR R) : ∀ (k : Nat) (x2 : Int32) (I : bm_TI) (r : bm_TI), f_X12_restore_l27 x1 k x2 I = some r → (∀ yy, yy = r → bm_V lc m_X12_restore (d + 1) n n n 58 [(0, .ref 164), (1, .int x1)] [] (yy, J, R, W) Q) → bm_V lc m_X12_restore (d + 1) n n n 27 [(0, .ref 164), (1, .int x1), (2, .int x2)] [] (I, J, R, W) Q := by
  intro k
  induction k with
  | zero => intro x2 I r h; cases (show (none : Option (bm_TI)) = some r from h)
  | succ k ih =>
    intro x2 I r h K0
    unfold f_X12_restore_l27 at h
    refine bv_iload_n dX12_restore_27 2 rfl ?_
    refine bv_sipush (v := 287) dX12_restore_28 (by decide) ?_
    refine bv_icmp_ge (tgt := 58) dX12_restore_31 (by decide) (fun cc => ?_) (fun cc => ?_)
    · replace h := bu_t h cc
      refine bw_ls (ls1 := [(0, .ref 164), (1, .int x1)]) [0, 1] rfl ?_
      obtain rfl := Option.some.inj h
      exact K0 _ rfl
    · replace h := bu_f h cc
      refine bv_aload_n dX12_restore_34 0 rfl ?_
      refine bz_getA (a := 166) hN okL_164 (hR _ _ _ r0_164_6) dX12_restore_35 fl_12_33 rfl ?_
      refine bv_iload_n dX12_restore_38 2 rfl ?_
      refine bv_aload_n dX12_restore_39 0 rfl ?_
      refine bz_getA (a := 178) hN okL_164 (hR _ _ _ r0_164_44) dX12_restore_40 fl_12_84 rfl ?_
      refine bv_sipush (v := 287) dX12_restore_43 (by decide) ?_
      refine bv_iload_n dX12_restore_46 1 rfl ?_
      refine bv_imul dX12_restore_47 ?_
      refine bv_iload_n dX12_restore_48 2 rfl ?_
      refine bv_iadd dX12_restore_49 ?_
      obtain ⟨r1, h⟩ := bu_ix h
      refine bz_iald hN rkL_178 r1 rfl dX12_restore_50 ?_
      obtain ⟨r2, h⟩ := bu_ix h
      refine bz_iast hN rkL_166 r2 rfl dX12_restore_51 ?_
      refine bv_iinc (j := 2) (v := (x2 + 1)) (ls1 := [(0, .ref 164), (1, .int x1), (2, .int (x2 + 1))]) dX12_restore_52 rfl rfl (by decide) rfl rfl ?_
      refine bv_goto (tgt := 27) dX12_restore_55 (by decide) ?_
      exact ih _ _ _ h K0
def f_X12_restore_l60 (x1 : Int32) : Nat → Int32 → bm_TJ → Option (bm_TJ)
  | 0, _, _ => none
  | k + 1, x2, J => (if 15 ≤ x2 then some J else (if bm_ix 30 ((15 * x1) + x2) = true then (if bm_ix 30 x2 = true then f_X12_restore_l60 x1 k (x2 + 1) (bm_uJ J 169 x2.toNatClampNeg (J 179 ((15 * x1) + x2).toNatClampNeg)) else none) else none))
set_option maxHeartbeats 4000000 in
set_option maxRecDepth 100000 in
theorem v_X12_restore_l60 {lc : bm_L} {d n : Nat} {Q : Option Value → bm_M → Prop} {R : bm_TR} {I : bm_TI} {W : bm_TR} {x1 : Int32} (hN : 181 ≤ n) (hR : bm_RR R) : ∀ (k : Nat) (x2 : Int32) (J : bm_TJ) (r : bm_TJ), f_X12_restore_l60 x1 k x2 J = some r → (∀ yy, yy = r → bm_V lc m_X12_restore (d + 1) n n n 89 [(0, .ref 164)] [] (I, yy, R, W) Q) → bm_V lc m_X12_restore (d + 1) n n n 60 [(0, .ref 164), (1, .int x1), (2, .int x2)] [] (I, J, R, W) Q := by
  intro k
  induction k with
  | zero => intro x2 J r h; cases (show (none : Option (bm_TJ)) = some r from h)
  | succ k ih =>
    intro x2 J r h K0
    unfold f_X12_restore_l60 at h
    refine bv_iload_n dX12_restore_60 2 rfl ?_
    refine bv_bipush (v := 15) dX12_restore_61 (by decide) ?_
    refine bv_icmp_ge (tgt := 89) dX12_restore_63 (by decide) (fun cc => ?_) (fun cc => ?_)
    · replace h := bu_t h cc
      refine bw_ls (ls1 := [(0, .ref 164)]) [0] rfl ?_
      obtain rfl := Option.some.inj h
      exact K0 _ rfl
    · replace h := bu_f h cc
      refine bv_aload_n dX12_restore_66 0 rfl ?_
      refine bz_getA (a := 169) hN okL_164 (hR _ _ _ r0_164_9) dX12_restore_67 fl_12_43 rfl ?_
      refine bv_iload_n dX12_restore_70 2 rfl ?_
      refine bv_aload_n dX12_restore_71 0 rfl ?_
      refine bz_getA (a := 179) hN okL_164 (hR _ _ _ r0_164_45) dX12_restore_72 fl_12_87 rfl ?_
      refine bv_bipush (v := 15) dX12_restore_75 (by decide) ?_
      refine bv_iload_n dX12_restore_77 1 rfl ?_
      refine bv_imul dX12_restore_78 ?_
      refine bv_iload_n dX12_restore_79 2 rfl ?_
      refine bv_iadd dX12_restore_80 ?_
      obtain ⟨r1, h⟩ := bu_ix h
      refine bz_lald hN rkL_179 r1 rfl dX12_restore_81 ?_
      obtain ⟨r2, h⟩ := bu_ix h
      refine bz_last hN rkL_169 r2 rfl dX12_restore_82 ?_
      refine bv_iinc (j := 2) (v := (x2 + 1)) (ls1 := [(0, .ref 164), (1, .int x1), (2, .int (x2 + 1))]) dX12_restore_83 rfl rfl (by decide) rfl rfl ?_
      refine bv_goto (tgt := 60) dX12_restore_86 (by decide) ?_
      exact ih _ _ _ h K0
def f_X12_restore (I : bm_TI) (J : bm_TJ) (x1 : Int32) : Option (Bool × bm_TI × bm_TJ) := (if (f_X12_isIn x1 0 1) = true then (if bm_ix 2 x1 = true then (if ((bm_uI I 164 0 0) 180 x1.toNatClampNeg) = 0 then some (false, (bm_uI I 164 0 0), J) else ((f_X12_restore_l27 x1 1000 0 (bm_uI I 164 0 0)).bind fun y4 => ((f_X12_restore_l60 x1 1000 0 J).bind fun y7 => some (true, (bm_uI y4 164 24 0), y7)))) else none) else some (false, (bm_uI I 164 0 0), J))
set_option maxHeartbeats 4000000 in
set_option maxRecDepth 100000 in
theorem c_X12_restore {lc : bm_L} {d n : Nat} {I : bm_TI} {J : bm_TJ} {R W : bm_TR} {x1 : Int32} {v : Bool × bm_TI × bm_TJ} (hN : 181 ≤ n) (hR : bm_RR R) (h : f_X12_restore I J x1 = some v) : bm_C lc m_X12_restore (d + 1) n n [.ref 164, .int x1] (I, J, R, W) (fun r M' => r = some (.int (bm_bi v.1)) ∧ M' = (v.2.1, v.2.2, R, W)) := by
  refine bm_C.ofV (by decide) (Nat.le_of_ble_eq_true rfl) ?_
  show bm_V lc m_X12_restore (d + 1) n n n 0 [(0, .ref 164), (1, .int x1)] [] (I, J, R, W) _
  unfold f_X12_restore at h
  refine bv_aload_n dX12_restore_0 0 rfl ?_
  refine bv_iconst (v := 0) dX12_restore_1 (by decide) ?_
  refine bz_putI hN okL_164 dX12_restore_2 fl_12_1 rfl ?_
  refine bv_iload_n dX12_restore_5 1 rfl ?_
  refine bv_iconst (v := 0) dX12_restore_6 (by decide) ?_
  refine bv_iconst (v := 1) dX12_restore_7 (by decide) ?_
  refine bw_callS (As := [.int x1, .int 0, .int 1]) dX12_restore_8 mc_12_206 (c_X12_isIn (d := d + 0) hN hR rfl) rfl rfl (by decide) ?_
  refine bw_ifB_eq (b := (f_X12_isIn x1 0 1)) (tgt := 23) dX12_restore_11 (by decide) (fun cc => ?_) (fun cc => ?_)
  · replace h := bu_bf h cc
    refine bv_iconst (v := 0) dX12_restore_23 (by decide) ?_
    obtain rfl := Option.some.inj h
    exact bw_bret (b := false) dX12_restore_24 rfl ⟨rfl, rfl⟩
  · replace h := bu_bt h cc
    refine bv_aload_n dX12_restore_14 0 rfl ?_
    refine bz_getA (a := 180) hN okL_164 (hR _ _ _ r0_164_46) dX12_restore_15 fl_12_90 rfl ?_
    refine bv_iload_n dX12_restore_18 1 rfl ?_
    obtain ⟨r1, h⟩ := bu_ix h
    refine bz_zald hN rkL_180 r1 rfl dX12_restore_19 ?_
    refine bv_if_ne (tgt := 25) dX12_restore_20 (by decide) (fun cc => ?_) (fun cc => ?_)
    · replace h := bu_f h cc
      refine bv_iconst (v := 0) dX12_restore_25 (by decide) ?_
      refine bv_istore_n (ls1 := [(0, .ref 164), (1, .int x1), (2, .int 0)]) dX12_restore_26 (by decide) rfl rfl ?_
      obtain ⟨r2, p3, h⟩ := bu_bd h
      refine v_X12_restore_l27 hN hR 1000 _ _ _ p3 (fun y4 hy => ?_)
      · subst hy
        refine bv_iconst (v := 0) dX12_restore_58 (by decide) ?_
        refine bv_istore_n (ls1 := [(0, .ref 164), (1, .int x1), (2, .int 0)]) dX12_restore_59 (by decide) rfl rfl ?_
        obtain ⟨r5, p6, h⟩ := bu_bd h
        refine v_X12_restore_l60 hN hR 1000 _ _ _ p6 (fun y7 hy => ?_)
        · subst hy
          refine bv_aload_n dX12_restore_89 0 rfl ?_
          refine bv_iconst (v := 0) dX12_restore_90 (by decide) ?_
          refine bz_putI hN okL_164 dX12_restore_91 fl_12_276 rfl ?_
          refine bv_iconst (v := 1) dX12_restore_94 (by decide) ?_
          obtain rfl := Option.some.inj h
          exact bw_bret (b := true) dX12_restore_95 rfl ⟨rfl, rfl⟩
    · replace h := bu_t h cc
      refine bv_iconst (v := 0) dX12_restore_23 (by decide) ?_
      obtain rfl := Option.some.inj h
      exact bw_bret (b := false) dX12_restore_24 rfl ⟨rfl, rfl⟩
def f_X12_count (I : bm_TI) (x1 : Int32) : Option (Int32 × bm_TI) := (if x1 = 5 then some (((bm_uI I 164 0 0) 164 2), (bm_uI I 164 0 0)) else (if (f_X12_isIn x1 0 4) = true then (if bm_ix 287 x1 = true then some (((bm_uI I 164 0 0) 166 x1.toNatClampNeg), (bm_uI I 164 0 0)) else none) else some ((-1), (bm_uI I 164 0 0))))
set_option maxHeartbeats 4000000 in
set_option maxRecDepth 100000 in
theorem c_X12_count {lc : bm_L} {d n : Nat} {I : bm_TI} {J : bm_TJ} {R W : bm_TR} {x1 : Int32} {v : Int32 × bm_TI} (hN : 181 ≤ n) (hR : bm_RR R) (h : f_X12_count I x1 = some v) : bm_C lc m_X12_count (d + 1) n n [.ref 164, .int x1] (I, J, R, W) (fun r M' => r = some (.int v.1) ∧ M' = (v.2, J, R, W)) := by
  refine bm_C.ofV (by decide) (Nat.le_of_ble_eq_true rfl) ?_
  show bm_V lc m_X12_count (d + 1) n n n 0 [(0, .ref 164), (1, .int x1)] [] (I, J, R, W) _
  unfold f_X12_count at h
  refine bv_aload_n dX12_count_0 0 rfl ?_
  refine bv_iconst (v := 0) dX12_count_1 (by decide) ?_
  refine bz_putI hN okL_164 dX12_count_2 fl_12_1 rfl ?_
  refine bv_iload_n dX12_count_5 1 rfl ?_
  refine bv_iconst (v := 5) dX12_count_6 (by decide) ?_
  refine bv_icmp_ne (tgt := 17) dX12_count_7 (by decide) (fun cc => ?_) (fun cc => ?_)
  · replace h := bu_f h cc
    refine bv_iload_n dX12_count_17 1 rfl ?_
    refine bv_iconst (v := 0) dX12_count_18 (by decide) ?_
    refine bv_iconst (v := 4) dX12_count_19 (by decide) ?_
    refine bw_callS (As := [.int x1, .int 0, .int 4]) dX12_count_20 mc_12_206 (c_X12_isIn (d := d + 0) hN hR rfl) rfl rfl (by decide) ?_
    refine bw_ifB_eq (b := (f_X12_isIn x1 0 4)) (tgt := 35) dX12_count_23 (by decide) (fun cc => ?_) (fun cc => ?_)
    · replace h := bu_bf h cc
      refine bv_iconst (v := (-1)) dX12_count_35 (by decide) ?_
      obtain rfl := Option.some.inj h
      exact bv_iret (x := (-1)) dX12_count_36 rfl ⟨rfl, rfl⟩
    · replace h := bu_bt h cc
      refine bv_aload_n dX12_count_26 0 rfl ?_
      refine bz_getA (a := 166) hN okL_164 (hR _ _ _ r0_164_6) dX12_count_27 fl_12_33 rfl ?_
      refine bv_iload_n dX12_count_30 1 rfl ?_
      obtain ⟨r1, h⟩ := bu_ix h
      refine bz_iald hN rkL_166 r1 rfl dX12_count_31 ?_
      refine bv_goto (tgt := 36) dX12_count_32 (by decide) ?_
      obtain rfl := Option.some.inj h
      exact bv_iret (x := ((bm_uI I 164 0 0) 166 x1.toNatClampNeg)) dX12_count_36 rfl ⟨rfl, rfl⟩
  · replace h := bu_t h cc
    refine bv_aload_n dX12_count_10 0 rfl ?_
    refine bz_getI hN okL_164 dX12_count_11 fl_12_7 rfl ?_
    refine bv_goto (tgt := 36) dX12_count_14 (by decide) ?_
    obtain rfl := Option.some.inj h
    exact bv_iret (x := ((bm_uI I 164 0 0) 164 2)) dX12_count_36 rfl ⟨rfl, rfl⟩
