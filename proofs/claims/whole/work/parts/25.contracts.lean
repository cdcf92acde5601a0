def f_X12_lifts_l9 (x2 : Int32) (x3 : Int32) : Nat → Int32 → bm_TI → Option (bm_TI)
  | 0, _, _ => none
  | k + 1, x4, I => (if (I 166 0) ≤ x4 then some I else (if (f_X12_bitOf x3 x4) = true then ((f_X12_hears I x4 x2).bind fun v1 => f_X12_lifts_l9 x2 x3 k (x4 + 1) v1) else f_X12_lifts_l9 x2 x3 k (x4 + 1) I))
set_option maxHeartbeats 4000000 in
set_option maxRecDepth 100000 in
theorem v_X12_lifts_l9 {lc : bm_L} {d n : Nat} {Q : Option Value → bm_M → Prop} {R : bm_TR} {J : bm_TJ} {W : bm_TR} {x2 : Int32} {x3 : Int32} (hN : 181 ≤ n) (hR : bm_RR R) : ∀ (k : Nat) (x4 : Int32) (I : bm_TI) (r : bm_TI), f_X12_lifts_l9 x2 x3 k x4 I = some r → (∀ yy, yy = r → bm_V lc m_X12_lifts (d + 6) n n n 42 [(0, .ref 164)] [] (yy, J, R, W) Q) → bm_V lc m_X12_lifts (d + 6) n n n 9 [(0, .ref 164), (2, .int x2), (3, .int x3), (4, .int x4)] [] (I, J, R, W) Q := by
  intro k
  induction k with
  | zero => intro x4 I r h; cases (show (none : Option (bm_TI)) = some r from h)
  | succ k ih =>
    intro x4 I r h K0
    unfold f_X12_lifts_l9 at h
    refine bv_iload dX12_lifts_9 3 rfl ?_
    refine bv_aload_n dX12_lifts_11 0 rfl ?_
    refine bz_getA (a := 166) hN okL_164 (hR _ _ _ r0_164_6) dX12_lifts_12 fl_12_33 rfl ?_
    refine bv_iconst (v := 0) dX12_lifts_15 (by decide) ?_
    refine bz_iald (j := 0) hN rkL_166 (bm_ix_in (by decide)) (by decide) dX12_lifts_16 ?_
    refine bv_icmp_ge (tgt := 42) dX12_lifts_17 (by decide) (fun cc => ?_) (fun cc => ?_)
    · replace h := bu_t h cc
      refine bw_ls (ls1 := [(0, .ref 164)]) [0] rfl ?_
      obtain rfl := Option.some.inj h
      exact K0 _ rfl
    · replace h := bu_f h cc
      refine bv_iload_n dX12_lifts_20 2 rfl ?_
      refine bv_iload dX12_lifts_21 3 rfl ?_
      refine bw_callS (As := [.int x3, .int x4]) dX12_lifts_23 mc_12_231 (c_X12_bitOf (d := d + 5) hN hR rfl) rfl rfl (by decide) ?_
      refine bw_ifB_eq (b := (f_X12_bitOf x3 x4)) (tgt := 36) dX12_lifts_26 (by decide) (fun cc => ?_) (fun cc => ?_)
      · replace h := bu_bf h cc
        refine bv_iinc (j := 3) (v := (x4 + 1)) (ls1 := [(0, .ref 164), (2, .int x2), (3, .int x3), (4, .int (x4 + 1))]) dX12_lifts_36 rfl rfl (by decide) rfl rfl ?_
        refine bv_goto (tgt := 9) dX12_lifts_39 (by decide) ?_
        exact ih _ _ _ h K0
      · replace h := bu_bt h cc
        refine bv_aload_n dX12_lifts_29 0 rfl ?_
        refine bv_iload dX12_lifts_30 3 rfl ?_
        refine bv_iload_n dX12_lifts_32 1 rfl ?_
        obtain ⟨v1, p2, h⟩ := bu_bd h
        refine bw_callVv (As := [.int x4, .int x2]) hN okL_164 ⟨_, _, rfl⟩ dX12_lifts_33 mc_12_325 (c_X12_hears (d := d + 4) hN hR p2) rfl rfl (by decide) ?_
        refine bv_iinc (j := 3) (v := (x4 + 1)) (ls1 := [(0, .ref 164), (2, .int x2), (3, .int x3), (4, .int (x4 + 1))]) dX12_lifts_36 rfl rfl (by decide) rfl rfl ?_
        refine bv_goto (tgt := 9) dX12_lifts_39 (by decide) ?_
        exact ih _ _ _ h K0
def f_X12_lifts (I : bm_TI) (x1 : Int32) (x2 : Int32) : Option (bm_TI) := ((f_X12_readersOf I x1).bind fun v1 => ((f_X12_lifts_l9 x2 v1 1000 0 I).bind fun y5 => some (bm_uI y5 166 62 ((y5 166 62) + 1))))
set_option maxHeartbeats 4000000 in
set_option maxRecDepth 100000 in
theorem c_X12_lifts {lc : bm_L} {d n : Nat} {I : bm_TI} {J : bm_TJ} {R W : bm_TR} {x1 : Int32} {x2 : Int32} {v : bm_TI} (hN : 181 ≤ n) (hR : bm_RR R) (h : f_X12_lifts I x1 x2 = some v) : bm_C lc m_X12_lifts (d + 6) n n [.ref 164, .int x1, .int x2] (I, J, R, W) (fun r M' => r = none ∧ M' = (v, J, R, W)) := by
  refine bm_C.ofV (by decide) (Nat.le_of_ble_eq_true rfl) ?_
  show bm_V lc m_X12_lifts (d + 6) n n n 0 [(0, .ref 164), (1, .int x1), (2, .int x2)] [] (I, J, R, W) _
  unfold f_X12_lifts at h
  refine bv_aload_n dX12_lifts_0 0 rfl ?_
  refine bv_iload_n dX12_lifts_1 1 rfl ?_
  obtain ⟨v1, p2, h⟩ := bu_bd h
  refine bw_callV (As := [.int x1]) hN okL_164 ⟨_, _, rfl⟩ dX12_lifts_2 mc_12_322 (c_X12_readersOf (d := d + 0) hN hR p2) rfl rfl (by decide) ?_
  refine bv_istore_n (ls1 := [(0, .ref 164), (1, .int x1), (2, .int x2), (3, .int v1)]) dX12_lifts_5 (by decide) rfl rfl ?_
  refine bv_iconst (v := 0) dX12_lifts_6 (by decide) ?_
  refine bv_istore (ls1 := [(0, .ref 164), (1, .int x1), (2, .int x2), (3, .int v1), (4, .int 0)]) dX12_lifts_7 (by decide) rfl rfl ?_
  refine bw_ls (ls1 := [(0, .ref 164), (2, .int x2), (3, .int v1), (4, .int 0)]) [0, 2, 3, 4] rfl ?_
  obtain ⟨r3, p4, h⟩ := bu_bd h
  refine v_X12_lifts_l9 hN hR 1000 _ _ _ p4 (fun y5 hy => ?_)
  · subst hy
    refine bv_aload_n dX12_lifts_42 0 rfl ?_
    refine bz_getA (a := 166) hN okL_164 (hR _ _ _ r0_164_6) dX12_lifts_43 fl_12_33 rfl ?_
    refine bv_bipush (v := 62) dX12_lifts_46 (by decide) ?_
    refine bv_dup2 dX12_lifts_48 rfl rfl ?_
    refine bz_iald (j := 62) hN rkL_166 (bm_ix_in (by decide)) (by decide) dX12_lifts_49 ?_
    refine bv_iconst (v := 1) dX12_lifts_50 (by decide) ?_
    refine bv_iadd dX12_lifts_51 ?_
    refine bz_iast (j := 62) hN rkL_166 (bm_ix_in (by decide)) (by decide) dX12_lifts_52 ?_
    obtain rfl := Option.some.inj h
    exact bv_vret dX12_lifts_53 rfl ⟨rfl, rfl⟩
def f_X12_gives (I : bm_TI) (x1 : Int32) (x2 : Int32) : Option (bm_TI) := (if bm_ix 287 (39 + x2) = true then ((f_X12_lifts I x1 (I 166 (39 + x2).toNatClampNeg)).bind fun v2 => (if bm_ix 287 (46 + x2) = true then ((f_X12_lifts v2 x1 (v2 166 (46 + x2).toNatClampNeg)).bind fun v5 => some v5) else none)) else none)
set_option maxHeartbeats 4000000 in
set_option maxRecDepth 100000 in
theorem c_X12_gives {lc : bm_L} {d n : Nat} {I : bm_TI} {J : bm_TJ} {R W : bm_TR} {x1 : Int32} {x2 : Int32} {v : bm_TI} (hN : 181 ≤ n) (hR : bm_RR R) (h : f_X12_gives I x1 x2 = some v) : bm_C lc m_X12_gives (d + 7) n n [.ref 164, .int x1, .int x2] (I, J, R, W) (fun r M' => r = none ∧ M' = (v, J, R, W)) := by
  refine bm_C.ofV (by decide) (Nat.le_of_ble_eq_true rfl) ?_
  show bm_V lc m_X12_gives (d + 7) n n n 0 [(0, .ref 164), (1, .int x1), (2, .int x2)] [] (I, J, R, W) _
  unfold f_X12_gives at h
  refine bv_aload_n dX12_gives_0 0 rfl ?_
  refine bv_iload_n dX12_gives_1 1 rfl ?_
  refine bv_aload_n dX12_gives_2 0 rfl ?_
  refine bz_getA (a := 166) hN okL_164 (hR _ _ _ r0_164_6) dX12_gives_3 fl_12_33 rfl ?_
  refine bv_bipush (v := 39) dX12_gives_6 (by decide) ?_
  refine bv_iload_n dX12_gives_8 2 rfl ?_
  refine bv_iadd dX12_gives_9 ?_
  obtain ⟨r1, h⟩ := bu_ix h
  refine bz_iald hN rkL_166 r1 rfl dX12_gives_10 ?_
  obtain ⟨v2, p3, h⟩ := bu_bd h
  refine bw_callVv (As := [.int x1, .int (I 166 (39 + x2).toNatClampNeg)]) hN okL_164 ⟨_, _, rfl⟩ dX12_gives_11 mc_12_329 (c_X12_lifts (d := d + 0) hN hR p3) rfl rfl (by decide) ?_
  refine bv_aload_n dX12_gives_14 0 rfl ?_
  refine bv_iload_n dX12_gives_15 1 rfl ?_
  refine bv_aload_n dX12_gives_16 0 rfl ?_
  refine bz_getA (a := 166) hN okL_164 (hR _ _ _ r0_164_6) dX12_gives_17 fl_12_33 rfl ?_
  refine bv_bipush (v := 46) dX12_gives_20 (by decide) ?_
  refine bv_iload_n dX12_gives_22 2 rfl ?_
  refine bv_iadd dX12_gives_23 ?_
  obtain ⟨r4, h⟩ := bu_ix h
  refine bz_iald hN rkL_166 r4 rfl dX12_gives_24 ?_
  obtain ⟨v5, p6, h⟩ := bu_bd h
  refine bw_callVv (As := [.int x1, .int (v2 166 (46 + x2).toNatClampNeg)]) hN okL_164 ⟨_, _, rfl⟩ dX12_gives_25 mc_12_329 (c_X12_lifts (d := d + 0) hN hR p6) rfl rfl (by decide) ?_
  obtain rfl := Option.some.inj h
  exact bv_vret dX12_gives_28 rfl ⟨rfl, rfl⟩
def f_X12_hour_l2 : Nat → Int32 → bm_TI → Option (bm_TI)
  | 0, _, _ => none
  | k + 1, x1, I => (if (I 166 0) ≤ x1 then some I else (if (f_X12_bitOf (I 166 65) x1) = true then (if bm_ix 287 (90 + x1) = true then (if bm_ix 8 x1 = true then f_X12_hour_l2 k (x1 + 1) (bm_uI I 171 x1.toNatClampNeg (I 166 (90 + x1).toNatClampNeg)) else none) else none) else (if bm_ix 8 x1 = true then f_X12_hour_l2 k (x1 + 1) (bm_uI I 171 x1.toNatClampNeg 0) else none)))
set_option maxHeartbeats 4000000 in
set_option maxRecDepth 100000 in
theorem v_X12_hour_l2 {lc : bm_L} {d n : Nat} {Q : Option Value → bm_M → Prop} {R : bm_TR} {J : bm_TJ} {W : bm_TR} (hN : 181 ≤ n) (hR : bm_RR R) : ∀ (k : Nat) (x1 : Int32) (I : bm_TI) (r : bm_TI), f_X12_hour_l2 k x1 I = some r → (∀ yy, yy = r → bm_V lc m_X12_hour (d + 8) n n n 51 [(0, .ref 164)] [] (yy, J, R, W) Q) → bm_V lc m_X12_hour (d + 8) n n n 2 [(0, .ref 164), (1, .int x1)] [] (I, J, R, W) Q := by
  intro k
  induction k with
  | zero => intro x1 I r h; cases (show (none : Option (bm_TI)) = some r from h)
  | succ k ih =>
    intro x1 I r h K0
    unfold f_X12_hour_l2 at h
    refine bv_iload_n dX12_hour_2 1 rfl ?_
    refine bv_aload_n dX12_hour_3 0 rfl ?_
    refine bz_getA (a := 166) hN okL_164 (hR _ _ _ r0_164_6) dX12_hour_4 fl_12_33 rfl ?_
    refine bv_iconst (v := 0) dX12_hour_7 (by decide) ?_
    refine bz_iald (j := 0) hN rkL_166 (bm_ix_in (by decide)) (by decide) dX12_hour_8 ?_
    refine bv_icmp_ge (tgt := 51) dX12_hour_9 (by decide) (fun cc => ?_) (fun cc => ?_)
    · replace h := bu_t h cc
      refine bw_ls (ls1 := [(0, .ref 164)]) [0] rfl ?_
      obtain rfl := Option.some.inj h
      exact K0 _ rfl
    · replace h := bu_f h cc
      refine bv_aload_n dX12_hour_12 0 rfl ?_
      refine bz_getA (a := 171) hN okL_164 (hR _ _ _ r0_164_21) dX12_hour_13 fl_12_50 rfl ?_
      refine bv_iload_n dX12_hour_16 1 rfl ?_
      refine bv_aload_n dX12_hour_17 0 rfl ?_
      refine bz_getA (a := 166) hN okL_164 (hR _ _ _ r0_164_6) dX12_hour_18 fl_12_33 rfl ?_
      refine bv_bipush (v := 65) dX12_hour_21 (by decide) ?_
      refine bz_iald (j := 65) hN rkL_166 (bm_ix_in (by decide)) (by decide) dX12_hour_23 ?_
      refine bv_iload_n dX12_hour_24 1 rfl ?_
      refine bw_callS (As := [.int (I 166 65), .int x1]) dX12_hour_25 mc_12_231 (c_X12_bitOf (d := d + 7) hN hR rfl) rfl rfl (Nat.le_of_ble_eq_true rfl) ?_
      refine bw_ifB_eq (b := (f_X12_bitOf (I 166 65) x1)) (tgt := 43) dX12_hour_28 (by decide) (fun cc => ?_) (fun cc => ?_)
      · replace h := bu_bf h cc
        refine bv_iconst (v := 0) dX12_hour_43 (by decide) ?_
        obtain ⟨r1, h⟩ := bu_ix h
        refine bz_iast hN rkL_171 r1 rfl dX12_hour_44 ?_
        refine bv_iinc (j := 1) (v := (x1 + 1)) (ls1 := [(0, .ref 164), (1, .int (x1 + 1))]) dX12_hour_45 rfl rfl (by decide) rfl rfl ?_
        refine bv_goto (tgt := 2) dX12_hour_48 (by decide) ?_
        exact ih _ _ _ h K0
      · replace h := bu_bt h cc
        refine bv_aload_n dX12_hour_31 0 rfl ?_
        refine bz_getA (a := 166) hN okL_164 (hR _ _ _ r0_164_6) dX12_hour_32 fl_12_33 rfl ?_
        refine bv_bipush (v := 90) dX12_hour_35 (by decide) ?_
        refine bv_iload_n dX12_hour_37 1 rfl ?_
        refine bv_iadd dX12_hour_38 ?_
        obtain ⟨r2, h⟩ := bu_ix h
        refine bz_iald hN rkL_166 r2 rfl dX12_hour_39 ?_
        refine bv_goto (tgt := 44) dX12_hour_40 (by decide) ?_
        obtain ⟨r3, h⟩ := bu_ix h
        refine bz_iast hN rkL_171 r3 rfl dX12_hour_44 ?_
        refine bv_iinc (j := 1) (v := (x1 + 1)) (ls1 := [(0, .ref 164), (1, .int (x1 + 1))]) dX12_hour_45 rfl rfl (by decide) rfl rfl ?_
        refine bv_goto (tgt := 2) dX12_hour_48 (by decide) ?_
        exact ih _ _ _ h K0
def f_X12_hour_l61 : Nat → Int32 → bm_TI → Option (bm_TI)
  | 0, _, _ => none
  | k + 1, x1, I => (if (I 166 0) ≤ x1 then some I else (if bm_ix 8 x1 = true then (if (I 171 x1.toNatClampNeg) ≤ 0 then f_X12_hour_l61 k (x1 + 1) I else ((f_X12_browOf I x1).bind fun v2 => (if v2 ≤ 0 then f_X12_hour_l61 k (x1 + 1) I else ((f_X12_gives I x1 ((I 171 x1.toNatClampNeg) - 1)).bind fun v4 => f_X12_hour_l61 k (x1 + 1) v4)))) else none))
set_option maxHeartbeats 4000000 in
set_option maxRecDepth 100000 in
theorem v_X12_hour_l61 {lc : bm_L} {d n : Nat} {Q : Option Value → bm_M → Prop} {R : bm_TR} {J : bm_TJ} {W : bm_TR} (hN : 181 ≤ n) (hR : bm_RR R) : ∀ (k : Nat) (x1 : Int32) (I : bm_TI) (r : bm_TI), f_X12_hour_l61 k x1 I = some r → (∀ yy, yy = r → bm_V lc m_X12_hour (d + 8) n n n 107 [(0, .ref 164)] [] (yy, J, R, W) Q) → bm_V lc m_X12_hour (d + 8) n n n 61 [(0, .ref 164), (1, .int x1)] [] (I, J, R, W) Q := by
  intro k
  induction k with
  | zero => intro x1 I r h; cases (show (none : Option (bm_TI)) = some r from h)
  | succ k ih =>
    intro x1 I r h K0
    unfold f_X12_hour_l61 at h
    refine bv_iload_n dX12_hour_61 1 rfl ?_
    refine bv_aload_n dX12_hour_62 0 rfl ?_
    refine bz_getA (a := 166) hN okL_164 (hR _ _ _ r0_164_6) dX12_hour_63 fl_12_33 rfl ?_
    refine bv_iconst (v := 0) dX12_hour_66 (by decide) ?_
    refine bz_iald (j := 0) hN rkL_166 (bm_ix_in (by decide)) (by decide) dX12_hour_67 ?_
    refine bv_icmp_ge (tgt := 107) dX12_hour_68 (by decide) (fun cc => ?_) (fun cc => ?_)
    · replace h := bu_t h cc
      refine bw_ls (ls1 := [(0, .ref 164)]) [0] rfl ?_
      obtain rfl := Option.some.inj h
      exact K0 _ rfl
    · replace h := bu_f h cc
      refine bv_aload_n dX12_hour_71 0 rfl ?_
      refine bz_getA (a := 171) hN okL_164 (hR _ _ _ r0_164_21) dX12_hour_72 fl_12_50 rfl ?_
      refine bv_iload_n dX12_hour_75 1 rfl ?_
      obtain ⟨r1, h⟩ := bu_ix h
      refine bz_iald hN rkL_171 r1 rfl dX12_hour_76 ?_
      refine bv_if_le (tgt := 101) dX12_hour_77 (by decide) (fun cc => ?_) (fun cc => ?_)
      · replace h := bu_t h cc
        refine bv_iinc (j := 1) (v := (x1 + 1)) (ls1 := [(0, .ref 164), (1, .int (x1 + 1))]) dX12_hour_101 rfl rfl (by decide) rfl rfl ?_
        refine bv_goto (tgt := 61) dX12_hour_104 (by decide) ?_
        exact ih _ _ _ h K0
      · replace h := bu_f h cc
        refine bv_aload_n dX12_hour_80 0 rfl ?_
        refine bv_iload_n dX12_hour_81 1 rfl ?_
        obtain ⟨v2, p3, h⟩ := bu_bd h
        refine bw_callV (As := [.int x1]) hN okL_164 ⟨_, _, rfl⟩ dX12_hour_82 mc_12_290 (c_X12_browOf (d := d + 6) hN hR p3) rfl rfl (by decide) ?_
        refine bv_if_le (tgt := 101) dX12_hour_85 (by decide) (fun cc => ?_) (fun cc => ?_)
        · replace h := bu_t h cc
          refine bv_iinc (j := 1) (v := (x1 + 1)) (ls1 := [(0, .ref 164), (1, .int (x1 + 1))]) dX12_hour_101 rfl rfl (by decide) rfl rfl ?_
          refine bv_goto (tgt := 61) dX12_hour_104 (by decide) ?_
          exact ih _ _ _ h K0
        · replace h := bu_f h cc
          refine bv_aload_n dX12_hour_88 0 rfl ?_
          refine bv_iload_n dX12_hour_89 1 rfl ?_
          refine bv_aload_n dX12_hour_90 0 rfl ?_
          refine bz_getA (a := 171) hN okL_164 (hR _ _ _ r0_164_21) dX12_hour_91 fl_12_50 rfl ?_
          refine bv_iload_n dX12_hour_94 1 rfl ?_
          refine bz_iald hN rkL_171 r1 rfl dX12_hour_95 ?_
          refine bv_iconst (v := 1) dX12_hour_96 (by decide) ?_
          refine bv_isub dX12_hour_97 ?_
          obtain ⟨v4, p5, h⟩ := bu_bd h
          refine bw_callVv (As := [.int x1, .int ((I 171 x1.toNatClampNeg) - 1)]) hN okL_164 ⟨_, _, rfl⟩ dX12_hour_98 mc_12_332 (c_X12_gives (d := d + 0) hN hR p5) rfl rfl (by decide) ?_
          refine bv_iinc (j := 1) (v := (x1 + 1)) (ls1 := [(0, .ref 164), (1, .int (x1 + 1))]) dX12_hour_101 rfl rfl (by decide) rfl rfl ?_
          refine bv_goto (tgt := 61) dX12_hour_104 (by decide) ?_
          exact ih _ _ _ h K0
def f_X12_hour (I : bm_TI) : Option (bm_TI) := ((f_X12_hour_l2 1000 0 I).bind fun y3 => ((f_X12_hour_l61 1000 0 (bm_uI y3 166 65 0)).bind fun y6 => (if ¬ ((bm_uI y6 166 61 ((y6 166 61) + 1)) 166 4) = 0 then (if (bm_rem ((bm_uI y6 166 61 ((y6 166 61) + 1)) 166 61) ((bm_uI y6 166 61 ((y6 166 61) + 1)) 166 4)) = 0 then some (bm_uI (bm_uI y6 166 61 ((y6 166 61) + 1)) 166 64 0) else some (bm_uI y6 166 61 ((y6 166 61) + 1))) else none)))
set_option maxHeartbeats 4000000 in
set_option maxRecDepth 100000 in
theorem c_X12_hour {lc : bm_L} {d n : Nat} {I : bm_TI} {J : bm_TJ} {R W : bm_TR} {v : bm_TI} (hN : 181 ≤ n) (hR : bm_RR R) (h : f_X12_hour I = some v) : bm_C lc m_X12_hour (d + 8) n n [.ref 164] (I, J, R, W) (fun r M' => r = none ∧ M' = (v, J, R, W)) := by
  refine bm_C.ofV (by decide) (Nat.le_of_ble_eq_true rfl) ?_
  show bm_V lc m_X12_hour (d + 8) n n n 0 [(0, .ref 164)] [] (I, J, R, W) _
  unfold f_X12_hour at h
  refine bv_iconst (v := 0) dX12_hour_0 (by decide) ?_
  refine bv_istore_n (ls1 := [(0, .ref 164), (1, .int 0)]) dX12_hour_1 (by decide) rfl rfl ?_
  obtain ⟨r1, p2, h⟩ := bu_bd h
  refine v_X12_hour_l2 hN hR 1000 _ _ _ p2 (fun y3 hy => ?_)
  · subst hy
    refine bv_aload_n dX12_hour_51 0 rfl ?_
    refine bz_getA (a := 166) hN okL_164 (hR _ _ _ r0_164_6) dX12_hour_52 fl_12_33 rfl ?_
    refine bv_bipush (v := 65) dX12_hour_55 (by decide) ?_
    refine bv_iconst (v := 0) dX12_hour_57 (by decide) ?_
    refine bz_iast (j := 65) hN rkL_166 (bm_ix_in (by decide)) (by decide) dX12_hour_58 ?_
    refine bv_iconst (v := 0) dX12_hour_59 (by decide) ?_
    refine bv_istore_n (ls1 := [(0, .ref 164), (1, .int 0)]) dX12_hour_60 (by decide) rfl rfl ?_
    obtain ⟨r4, p5, h⟩ := bu_bd h
    refine v_X12_hour_l61 hN hR 1000 _ _ _ p5 (fun y6 hy => ?_)
    · subst hy
      refine bv_aload_n dX12_hour_107 0 rfl ?_
      refine bz_getA (a := 166) hN okL_164 (hR _ _ _ r0_164_6) dX12_hour_108 fl_12_33 rfl ?_
      refine bv_bipush (v := 61) dX12_hour_111 (by decide) ?_
      refine bv_dup2 dX12_hour_113 rfl rfl ?_
      refine bz_iald (j := 61) hN rkL_166 (bm_ix_in (by decide)) (by decide) dX12_hour_114 ?_
      refine bv_iconst (v := 1) dX12_hour_115 (by decide) ?_
      refine bv_iadd dX12_hour_116 ?_
      refine bz_iast (j := 61) hN rkL_166 (bm_ix_in (by decide)) (by decide) dX12_hour_117 ?_
      refine bv_aload_n dX12_hour_118 0 rfl ?_
      refine bz_getA (a := 166) hN okL_164 (hR _ _ _ r0_164_6) dX12_hour_119 fl_12_33 rfl ?_
      refine bv_bipush (v := 61) dX12_hour_122 (by decide) ?_
      refine bz_iald (j := 61) hN rkL_166 (bm_ix_in (by decide)) (by decide) dX12_hour_124 ?_
      refine bv_aload_n dX12_hour_125 0 rfl ?_
      refine bz_getA (a := 166) hN okL_164 (hR _ _ _ r0_164_6) dX12_hour_126 fl_12_33 rfl ?_
      refine bv_iconst (v := 4) dX12_hour_129 (by decide) ?_
      refine bz_iald (j := 4) hN rkL_166 (bm_ix_in (by decide)) (by decide) dX12_hour_130 ?_
      obtain ⟨z7, h⟩ := bu_gp h
      refine bv_irem dX12_hour_131 z7 ?_
      refine bv_if_ne (tgt := 143) dX12_hour_132 (by decide) (fun cc => ?_) (fun cc => ?_)
      · replace h := bu_f h cc
        obtain rfl := Option.some.inj h
        exact bv_vret dX12_hour_143 rfl ⟨rfl, rfl⟩
      · replace h := bu_t h cc
        refine bv_aload_n dX12_hour_135 0 rfl ?_
        refine bz_getA (a := 166) hN okL_164 (hR _ _ _ r0_164_6) dX12_hour_136 fl_12_33 rfl ?_
        refine bv_bipush (v := 64) dX12_hour_139 (by decide) ?_
        refine bv_iconst (v := 0) dX12_hour_141 (by decide) ?_
        refine bz_iast (j := 64) hN rkL_166 (bm_ix_in (by decide)) (by decide) dX12_hour_142 ?_
        obtain rfl := Option.some.inj h
        exact bv_vret dX12_hour_143 rfl ⟨rfl, rfl⟩
def f_X12_goesOn_l2 (x1 : Int32) : Nat → Int32 → bm_TI → Option (Int32 × bm_TI)
  | 0, _, _ => none
  | k + 1, x2, I => (if x1 ≤ x2 then some (x2, I) else (if 400 ≤ (I 166 61) then some (x2, I) else ((f_X12_hour I).bind fun v1 => f_X12_goesOn_l2 x1 k (x2 + 1) v1)))
set_option maxHeartbeats 4000000 in
set_option maxRecDepth 100000 in
theorem v_X12_goesOn_l2 {lc : bm_L} {d n : Nat} {Q : Option Value → bm_M → Prop} {R : bm_TR} {J : bm_TJ} {W : bm_TR} {x1 : Int32} (hN : 181 ≤ n) (hR : bm_RR R) : ∀ (k : Nat) (x2 : Int32) (I : bm_TI) (r : Int32 × bm_TI), f_X12_goesOn_l2 x1 k x2 I = some r → (∀ yy, yy = r → bm_V lc m_X12_goesOn (d + 9) n n n 30 [(2, .int yy.1)] [] (yy.2, J, R, W) Q) → bm_V lc m_X12_goesOn (d + 9) n n n 2 [(0, .ref 164), (1, .int x1), (2, .int x2)] [] (I, J, R, W) Q := by
  intro k
  induction k with
  | zero => intro x2 I r h; cases (show (none : Option (Int32 × bm_TI)) = some r from h)
  | succ k ih =>
    intro x2 I r h K0
    unfold f_X12_goesOn_l2 at h
    refine bv_iload_n dX12_goesOn_2 2 rfl ?_
    refine bv_iload_n dX12_goesOn_3 1 rfl ?_
    refine bv_icmp_ge (tgt := 30) dX12_goesOn_4 (by decide) (fun cc => ?_) (fun cc => ?_)
    · replace h := bu_t h cc
      refine bw_ls (ls1 := [(2, .int x2)]) [2] rfl ?_
      obtain rfl := Option.some.inj h
      exact K0 _ rfl
    · replace h := bu_f h cc
      refine bv_aload_n dX12_goesOn_7 0 rfl ?_
      refine bz_getA (a := 166) hN okL_164 (hR _ _ _ r0_164_6) dX12_goesOn_8 fl_12_33 rfl ?_
      refine bv_bipush (v := 61) dX12_goesOn_11 (by decide) ?_
      refine bz_iald (j := 61) hN rkL_166 (bm_ix_in (by decide)) (by decide) dX12_goesOn_13 ?_
      refine bv_sipush (v := 400) dX12_goesOn_14 (by decide) ?_
      refine bv_icmp_ge (tgt := 30) dX12_goesOn_17 (by decide) (fun cc => ?_) (fun cc => ?_)
      · replace h := bu_t h cc
        refine bw_ls (ls1 := [(2, .int x2)]) [2] rfl ?_
        obtain rfl := Option.some.inj h
        exact K0 _ rfl
      · replace h := bu_f h cc
        refine bv_aload_n dX12_goesOn_20 0 rfl ?_
        obtain ⟨v1, p2, h⟩ := bu_bd h
        refine bw_callVv (As := []) hN okL_164 ⟨_, _, rfl⟩ dX12_goesOn_21 mc_12_335 (c_X12_hour (d := d + 0) hN hR p2) rfl rfl (by decide) ?_
        refine bv_iinc (j := 2) (v := (x2 + 1)) (ls1 := [(0, .ref 164), (1, .int x1), (2, .int (x2 + 1))]) dX12_goesOn_24 rfl rfl (by decide) rfl rfl ?_
        refine bv_goto (tgt := 2) dX12_goesOn_27 (by decide) ?_
        exact ih _ _ _ h K0
def f_X12_goesOn (I : bm_TI) (x1 : Int32) : Option (Int32 × bm_TI) := ((f_X12_goesOn_l2 x1 1000 0 I).bind fun y3 => some (y3.1, y3.2))
set_option maxHeartbeats 4000000 in
set_option maxRecDepth 100000 in
theorem c_X12_goesOn {lc : bm_L} {d n : Nat} {I : bm_TI} {J : bm_TJ} {R W : bm_TR} {x1 : Int32} {v : Int32 × bm_TI} (hN : 181 ≤ n) (hR : bm_RR R) (h : f_X12_goesOn I x1 = some v) : bm_C lc m_X12_goesOn (d + 9) n n [.ref 164, .int x1] (I, J, R, W) (fun r M' => r = some (.int v.1) ∧ M' = (v.2, J, R, W)) := by
  refine bm_C.ofV (by decide) (Nat.le_of_ble_eq_true rfl) ?_
  show bm_V lc m_X12_goesOn (d + 9) n n n 0 [(0, .ref 164), (1, .int x1)] [] (I, J, R, W) _
  unfold f_X12_goesOn at h
  refine bv_iconst (v := 0) dX12_goesOn_0 (by decide) ?_
  refine bv_istore_n (ls1 := [(0, .ref 164), (1, .int x1), (2, .int 0)]) dX12_goesOn_1 (by decide) rfl rfl ?_
  obtain ⟨r1, p2, h⟩ := bu_bd h
  refine v_X12_goesOn_l2 hN hR 1000 _ _ _ p2 (fun y3 hy => ?_)
  · subst hy
    refine bv_iload_n dX12_goesOn_30 0 rfl ?_
    obtain rfl := Option.some.inj h
    exact bv_iret (x := y3.1) dX12_goesOn_31 rfl ⟨rfl, rfl⟩
def f_X12_xBy (I : bm_TI) (x1 : Int32) (x2 : Int32) : Option (Int32) := (if bm_ix 287 (66 + x1) = true then (if x2 = 0 then some ((I 166 (66 + x1).toNatClampNeg) + 1) else (if x2 = 2 then some ((I 166 (66 + x1).toNatClampNeg) + (-1)) else some ((I 166 (66 + x1).toNatClampNeg) + 0))) else none)
set_option maxHeartbeats 4000000 in
set_option maxRecDepth 100000 in
theorem c_X12_xBy {lc : bm_L} {d n : Nat} {I : bm_TI} {J : bm_TJ} {R W : bm_TR} {x1 : Int32} {x2 : Int32} {v : Int32} (hN : 181 ≤ n) (hR : bm_RR R) (h : f_X12_xBy I x1 x2 = some v) : bm_C lc m_X12_xBy d n n [.ref 164, .int x1, .int x2] (I, J, R, W) (fun r M' => r = some (.int v) ∧ M' = (I, J, R, W)) := by
  refine bm_C.ofV (by decide) (Nat.le_of_ble_eq_true rfl) ?_
  show bm_V lc m_X12_xBy d n n n 0 [(0, .ref 164), (1, .int x1), (2, .int x2)] [] (I, J, R, W) _
  unfold f_X12_xBy at h
  refine bv_aload_n dX12_xBy_0 0 rfl ?_
  refine bz_getA (a := 166) hN okL_164 (hR _ _ _ r0_164_6) dX12_xBy_1 fl_12_33 rfl ?_
  refine bv_bipush (v := 66) dX12_xBy_4 (by decide) ?_
  refine bv_iload_n dX12_xBy_6 1 rfl ?_
  refine bv_iadd dX12_xBy_7 ?_
  obtain ⟨r1, h⟩ := bu_ix h
  refine bz_iald hN rkL_166 r1 rfl dX12_xBy_8 ?_
  refine bv_iload_n dX12_xBy_9 2 rfl ?_
  refine bv_if_ne (tgt := 17) dX12_xBy_10 (by decide) (fun cc => ?_) (fun cc => ?_)
  · replace h := bu_f h cc
    refine bv_iload_n dX12_xBy_17 2 rfl ?_
    refine bv_iconst (v := 2) dX12_xBy_18 (by decide) ?_
    refine bv_icmp_ne (tgt := 26) dX12_xBy_19 (by decide) (fun cc => ?_) (fun cc => ?_)
    · replace h := bu_f h cc
      refine bv_iconst (v := 0) dX12_xBy_26 (by decide) ?_
      refine bv_iadd dX12_xBy_27 ?_
      obtain rfl := Option.some.inj h
      exact bv_iret (x := ((I 166 (66 + x1).toNatClampNeg) + 0)) dX12_xBy_28 rfl ⟨rfl, rfl⟩
    · replace h := bu_t h cc
      refine bv_iconst (v := (-1)) dX12_xBy_22 (by decide) ?_
      refine bv_goto (tgt := 27) dX12_xBy_23 (by decide) ?_
      refine bv_iadd dX12_xBy_27 ?_
      obtain rfl := Option.some.inj h
      exact bv_iret (x := ((I 166 (66 + x1).toNatClampNeg) + (-1))) dX12_xBy_28 rfl ⟨rfl, rfl⟩
  · replace h := bu_t h cc
    refine bv_iconst (v := 1) dX12_xBy_13 (by decide) ?_
    refine bv_goto (tgt := 27) dX12_xBy_14 (by decide) ?_
    refine bv_iadd dX12_xBy_27 ?_
    obtain rfl := Option.some.inj h
    exact bv_iret (x := ((I 166 (66 + x1).toNatClampNeg) + 1)) dX12_xBy_28 rfl ⟨rfl, rfl⟩
def f_X12_yBy (I : bm_TI) (x1 : Int32) (x2 : Int32) : Option (Int32) := (if bm_ix 287 (74 + x1) = true then (if x2 = 1 then some ((I 166 (74 + x1).toNatClampNeg) + 1) else (if x2 = 3 then some ((I 166 (74 + x1).toNatClampNeg) + (-1)) else some ((I 166 (74 + x1).toNatClampNeg) + 0))) else none)
set_option maxHeartbeats 4000000 in
set_option maxRecDepth 100000 in
theorem c_X12_yBy {lc : bm_L} {d n : Nat} {I : bm_TI} {J : bm_TJ} {R W : bm_TR} {x1 : Int32} {x2 : Int32} {v : Int32} (hN : 181 ≤ n) (hR : bm_RR R) (h : f_X12_yBy I x1 x2 = some v) : bm_C lc m_X12_yBy d n n [.ref 164, .int x1, .int x2] (I, J, R, W) (fun r M' => r = some (.int v) ∧ M' = (I, J, R, W)) := by
  refine bm_C.ofV (by decide) (Nat.le_of_ble_eq_true rfl) ?_
  show bm_V lc m_X12_yBy d n n n 0 [(0, .ref 164), (1, .int x1), (2, .int x2)] [] (I, J, R, W) _
  unfold f_X12_yBy at h
  refine bv_aload_n dX12_yBy_0 0 rfl ?_
  refine bz_getA (a := 166) hN okL_164 (hR _ _ _ r0_164_6) dX12_yBy_1 fl_12_33 rfl ?_
  refine bv_bipush (v := 74) dX12_yBy_4 (by decide) ?_
  refine bv_iload_n dX12_yBy_6 1 rfl ?_
  refine bv_iadd dX12_yBy_7 ?_
  obtain ⟨r1, h⟩ := bu_ix h
  refine bz_iald hN rkL_166 r1 rfl dX12_yBy_8 ?_
  refine bv_iload_n dX12_yBy_9 2 rfl ?_
  refine bv_iconst (v := 1) dX12_yBy_10 (by decide) ?_
  refine bv_icmp_ne (tgt := 18) dX12_yBy_11 (by decide) (fun cc => ?_) (fun cc => ?_)
  · replace h := bu_f h cc
    refine bv_iload_n dX12_yBy_18 2 rfl ?_
    refine bv_iconst (v := 3) dX12_yBy_19 (by decide) ?_
    refine bv_icmp_ne (tgt := 27) dX12_yBy_20 (by decide) (fun cc => ?_) (fun cc => ?_)
    · replace h := bu_f h cc
      refine bv_iconst (v := 0) dX12_yBy_27 (by decide) ?_
      refine bv_iadd dX12_yBy_28 ?_
      obtain rfl := Option.some.inj h
      exact bv_iret (x := ((I 166 (74 + x1).toNatClampNeg) + 0)) dX12_yBy_29 rfl ⟨rfl, rfl⟩
    · replace h := bu_t h cc
      refine bv_iconst (v := (-1)) dX12_yBy_23 (by decide) ?_
      refine bv_goto (tgt := 28) dX12_yBy_24 (by decide) ?_
      refine bv_iadd dX12_yBy_28 ?_
      obtain rfl := Option.some.inj h
      exact bv_iret (x := ((I 166 (74 + x1).toNatClampNeg) + (-1))) dX12_yBy_29 rfl ⟨rfl, rfl⟩
  · replace h := bu_t h cc
    refine bv_iconst (v := 1) dX12_yBy_14 (by decide) ?_
    refine bv_goto (tgt := 28) dX12_yBy_15 (by decide) ?_
    refine bv_iadd dX12_yBy_28 ?_
    obtain rfl := Option.some.inj h
    exact bv_iret (x := ((I 166 (74 + x1).toNatClampNeg) + 1)) dX12_yBy_29 rfl ⟨rfl, rfl⟩
def f_X12_whyGo (I : bm_TI) (x1 : Int32) (x2 : Int32) : Option (Int32) := ((f_X12_xBy I x1 x2).bind fun v1 => (if (f_X12_isIn v1 0 30) = true then ((f_X12_yBy I x1 x2).bind fun v3 => (if (f_X12_isIn v3 0 30) = true then some 0 else some 1)) else some 1))
set_option maxHeartbeats 4000000 in
set_option maxRecDepth 100000 in
theorem c_X12_whyGo {lc : bm_L} {d n : Nat} {I : bm_TI} {J : bm_TJ} {R W : bm_TR} {x1 : Int32} {x2 : Int32} {v : Int32} (hN : 181 ≤ n) (hR : bm_RR R) (h : f_X12_whyGo I x1 x2 = some v) : bm_C lc m_X12_whyGo (d + 1) n n [.ref 164, .int x1, .int x2] (I, J, R, W) (fun r M' => r = some (.int v) ∧ M' = (I, J, R, W)) := by
  refine bm_C.ofV (by decide) (Nat.le_of_ble_eq_true rfl) ?_
  show bm_V lc m_X12_whyGo (d + 1) n n n 0 [(0, .ref 164), (1, .int x1), (2, .int x2)] [] (I, J, R, W) _
  unfold f_X12_whyGo at h
  refine bv_aload_n dX12_whyGo_0 0 rfl ?_
  refine bv_iload_n dX12_whyGo_1 1 rfl ?_
  refine bv_iload_n dX12_whyGo_2 2 rfl ?_
  obtain ⟨v1, p2, h⟩ := bu_bd h
  refine bw_callV (As := [.int x1, .int x2]) hN okL_164 ⟨_, _, rfl⟩ dX12_whyGo_3 mc_12_338 (c_X12_xBy (d := d + 0) hN hR p2) rfl rfl (by decide) ?_
  refine bv_iconst (v := 0) dX12_whyGo_6 (by decide) ?_
  refine bv_bipush (v := 30) dX12_whyGo_7 (by decide) ?_
  refine bw_callS (As := [.int v1, .int 0, .int 30]) dX12_whyGo_9 mc_12_206 (c_X12_isIn (d := d + 0) hN hR rfl) rfl rfl (by decide) ?_
  refine bw_ifB_eq (b := (f_X12_isIn v1 0 30)) (tgt := 34) dX12_whyGo_12 (by decide) (fun cc => ?_) (fun cc => ?_)
  · replace h := bu_bf h cc
    refine bv_iconst (v := 1) dX12_whyGo_34 (by decide) ?_
    obtain rfl := Option.some.inj h
    exact bv_iret (x := 1) dX12_whyGo_35 rfl ⟨rfl, rfl⟩
  · replace h := bu_bt h cc
    refine bv_aload_n dX12_whyGo_15 0 rfl ?_
    refine bv_iload_n dX12_whyGo_16 1 rfl ?_
    refine bv_iload_n dX12_whyGo_17 2 rfl ?_
    obtain ⟨v3, p4, h⟩ := bu_bd h
    refine bw_callV (As := [.int x1, .int x2]) hN okL_164 ⟨_, _, rfl⟩ dX12_whyGo_18 mc_12_341 (c_X12_yBy (d := d + 0) hN hR p4) rfl rfl (by decide) ?_
    refine bv_iconst (v := 0) dX12_whyGo_21 (by decide) ?_
    refine bv_bipush (v := 30) dX12_whyGo_22 (by decide) ?_
    refine bw_callS (As := [.int v3, .int 0, .int 30]) dX12_whyGo_24 mc_12_206 (c_X12_isIn (d := d + 0) hN hR rfl) rfl rfl (by decide) ?_
    refine bw_ifB_eq (b := (f_X12_isIn v3 0 30)) (tgt := 34) dX12_whyGo_27 (by decide) (fun cc => ?_) (fun cc => ?_)
    · replace h := bu_bf h cc
      refine bv_iconst (v := 1) dX12_whyGo_34 (by decide) ?_
      obtain rfl := Option.some.inj h
      exact bv_iret (x := 1) dX12_whyGo_35 rfl ⟨rfl, rfl⟩
    · replace h := bu_bt h cc
      refine bv_iconst (v := 0) dX12_whyGo_30 (by decide) ?_
      refine bv_goto (tgt := 35) dX12_whyGo_31 (by decide) ?_
      obtain rfl := Option.some.inj h
      exact bv_iret (x := 0) dX12_whyGo_35 rfl ⟨rfl, rfl⟩
def f_X12_goes (I : bm_TI) (x1 : Int32) (x2 : Int32) : Option (bm_TI) := ((f_X12_xBy I x1 x2).bind fun v1 => ((f_X12_yBy I x1 x2).bind fun v3 => (if bm_ix 287 (74 + x1) = true then (if bm_ix 287 (66 + x1) = true then some (bm_uI (bm_uI I 166 ((74 + x1).toNatClampNeg) v3) 166 ((66 + x1).toNatClampNeg) v1) else none) else none)))
set_option maxHeartbeats 4000000 in
set_option maxRecDepth 100000 in
theorem c_X12_goes {lc : bm_L} {d n : Nat} {I : bm_TI} {J : bm_TJ} {R W : bm_TR} {x1 : Int32} {x2 : Int32} {v : bm_TI} (hN : 181 ≤ n) (hR : bm_RR R) (h : f_X12_goes I x1 x2 = some v) : bm_C lc m_X12_goes (d + 1) n n [.ref 164, .int x1, .int x2] (I, J, R, W) (fun r M' => r = none ∧ M' = (v, J, R, W)) := by
  refine bm_C.ofV (by decide) (Nat.le_of_ble_eq_true rfl) ?_
  show bm_V lc m_X12_goes (d + 1) n n n 0 [(0, .ref 164), (1, .int x1), (2, .int x2)] [] (I, J, R, W) _
  unfold f_X12_goes at h
  refine bv_aload_n dX12_goes_0 0 rfl ?_
  refine bv_iload_n dX12_goes_1 1 rfl ?_
  refine bv_iload_n dX12_goes_2 2 rfl ?_
  obtain ⟨v1, p2, h⟩ := bu_bd h
  refine bw_callV (As := [.int x1, .int x2]) hN okL_164 ⟨_, _, rfl⟩ dX12_goes_3 mc_12_338 (c_X12_xBy (d := d + 0) hN hR p2) rfl rfl (by decide) ?_
  refine bv_istore_n (ls1 := [(0, .ref 164), (1, .int x1), (2, .int x2), (3, .int v1)]) dX12_goes_6 (by decide) rfl rfl ?_
  refine bv_aload_n dX12_goes_7 0 rfl ?_
  refine bz_getA (a := 166) hN okL_164 (hR _ _ _ r0_164_6) dX12_goes_8 fl_12_33 rfl ?_
  refine bv_bipush (v := 74) dX12_goes_11 (by decide) ?_
  refine bv_iload_n dX12_goes_13 1 rfl ?_
  refine bv_iadd dX12_goes_14 ?_
  refine bv_aload_n dX12_goes_15 0 rfl ?_
  refine bv_iload_n dX12_goes_16 1 rfl ?_
  refine bv_iload_n dX12_goes_17 2 rfl ?_
  obtain ⟨v3, p4, h⟩ := bu_bd h
  refine bw_callV (As := [.int x1, .int x2]) hN okL_164 ⟨_, _, rfl⟩ dX12_goes_18 mc_12_341 (c_X12_yBy (d := d + 0) hN hR p4) rfl rfl (Nat.le_of_ble_eq_true rfl) ?_
  obtain ⟨r5, h⟩ := bu_ix h
  refine bz_iast hN rkL_166 r5 rfl dX12_goes_21 ?_
  refine bv_aload_n dX12_goes_22 0 rfl ?_
  refine bz_getA (a := 166) hN okL_164 (hR _ _ _ r0_164_6) dX12_goes_23 fl_12_33 rfl ?_
  refine bv_bipush (v := 66) dX12_goes_26 (by decide) ?_
  refine bv_iload_n dX12_goes_28 1 rfl ?_
  refine bv_iadd dX12_goes_29 ?_
  refine bv_iload_n dX12_goes_30 3 rfl ?_
  obtain ⟨r6, h⟩ := bu_ix h
  refine bz_iast hN rkL_166 r6 rfl dX12_goes_31 ?_
  obtain rfl := Option.some.inj h
  exact bv_vret dX12_goes_32 rfl ⟨rfl, rfl⟩
def f_X12_keep_l47 : Nat → Int32 → bm_TI → Option (bm_TI)
  | 0, _, _ => none
  | k + 1, x1, I => (if 45 ≤ x1 then some I else (if bm_ix 287 (61 + x1) = true then (if bm_ix 360 ((45 * (I 164 24)) + x1) = true then f_X12_keep_l47 k (x1 + 1) (bm_uI I 172 (((45 * (I 164 24)) + x1).toNatClampNeg) (I 166 (61 + x1).toNatClampNeg)) else none) else none))
set_option maxHeartbeats 4000000 in
set_option maxRecDepth 100000 in
theorem v_X12_keep_l47 {lc : bm_L} {d n : Nat} {Q : Option Value → bm_M → Prop} {R : bm_TR} {J : bm_TJ} {W : bm_TR} (hN : 181 ≤ n) (hR : bm_RR R) : ∀ (k : Nat) (x1 : Int32) (I : bm_TI) (r : bm_TI), f_X12_keep_l47 k x1 I = some r → (∀ yy, yy = r → bm_V lc m_X12_keep d n n n 82 [(0, .ref 164)] [] (yy, J, R, W) Q) → bm_V lc m_X12_keep d n n n 47 [(0, .ref 164), (1, .int x1)] [] (I, J, R, W) Q := by
  intro k
  induction k with
  | zero => intro x1 I r h; cases (show (none : Option (bm_TI)) = some r from h)
  | succ k ih =>
    intro x1 I r h K0
    unfold f_X12_keep_l47 at h
    refine bv_iload_n dX12_keep_47 1 rfl ?_
    refine bv_bipush (v := 45) dX12_keep_48 (by decide) ?_
    refine bv_icmp_ge (tgt := 82) dX12_keep_50 (by decide) (fun cc => ?_) (fun cc => ?_)
    · replace h := bu_t h cc
      refine bw_ls (ls1 := [(0, .ref 164)]) [0] rfl ?_
      obtain rfl := Option.some.inj h
      exact K0 _ rfl
    · replace h := bu_f h cc
      refine bv_aload_n dX12_keep_53 0 rfl ?_
      refine bz_getA (a := 172) hN okL_164 (hR _ _ _ r0_164_22) dX12_keep_54 fl_12_53 rfl ?_
      refine bv_bipush (v := 45) dX12_keep_57 (by decide) ?_
      refine bv_aload_n dX12_keep_59 0 rfl ?_
      refine bz_getI hN okL_164 dX12_keep_60 fl_12_276 rfl ?_
      refine bv_imul dX12_keep_63 ?_
      refine bv_iload_n dX12_keep_64 1 rfl ?_
      refine bv_iadd dX12_keep_65 ?_
      refine bv_aload_n dX12_keep_66 0 rfl ?_
      refine bz_getA (a := 166) hN okL_164 (hR _ _ _ r0_164_6) dX12_keep_67 fl_12_33 rfl ?_
      refine bv_bipush (v := 61) dX12_keep_70 (by decide) ?_
      refine bv_iload_n dX12_keep_72 1 rfl ?_
      refine bv_iadd dX12_keep_73 ?_
      obtain ⟨r1, h⟩ := bu_ix h
      refine bz_iald hN rkL_166 r1 rfl dX12_keep_74 ?_
      obtain ⟨r2, h⟩ := bu_ix h
      refine bz_iast hN rkL_172 r2 rfl dX12_keep_75 ?_
      refine bv_iinc (j := 1) (v := (x1 + 1)) (ls1 := [(0, .ref 164), (1, .int (x1 + 1))]) dX12_keep_76 rfl rfl (by decide) rfl rfl ?_
      refine bv_goto (tgt := 47) dX12_keep_79 (by decide) ?_
      exact ih _ _ _ h K0
def f_X12_keep_l11 : Nat → Int32 → bm_TI → Option (bm_TI)
  | 0, _, _ => none
  | k + 1, x1, I => (if 315 ≤ x1 then some I else (if bm_ix 360 (x1 + 45) = true then (if bm_ix 360 x1 = true then f_X12_keep_l11 k (x1 + 1) (bm_uI I 172 x1.toNatClampNeg (I 172 (x1 + 45).toNatClampNeg)) else none) else none))
set_option maxHeartbeats 4000000 in
set_option maxRecDepth 100000 in
theorem v_X12_keep_l11 {lc : bm_L} {d n : Nat} {Q : Option Value → bm_M → Prop} {R : bm_TR} {J : bm_TJ} {W : bm_TR} (hN : 181 ≤ n) (hR : bm_RR R) : ∀ (k : Nat) (x1 : Int32) (I : bm_TI) (r : bm_TI), f_X12_keep_l11 k x1 I = some r → (∀ yy, yy = r → bm_V lc m_X12_keep d n n n 39 [(0, .ref 164)] [] (yy, J, R, W) Q) → bm_V lc m_X12_keep d n n n 11 [(0, .ref 164), (1, .int x1)] [] (I, J, R, W) Q := by
  intro k
  induction k with
  | zero => intro x1 I r h; cases (show (none : Option (bm_TI)) = some r from h)
  | succ k ih =>
    intro x1 I r h K0
    unfold f_X12_keep_l11 at h
    refine bv_iload_n dX12_keep_11 1 rfl ?_
    refine bv_sipush (v := 315) dX12_keep_12 (by decide) ?_
    refine bv_icmp_ge (tgt := 39) dX12_keep_15 (by decide) (fun cc => ?_) (fun cc => ?_)
    · replace h := bu_t h cc
      refine bw_ls (ls1 := [(0, .ref 164)]) [0] rfl ?_
      obtain rfl := Option.some.inj h
      exact K0 _ rfl
    · replace h := bu_f h cc
      refine bv_aload_n dX12_keep_18 0 rfl ?_
      refine bz_getA (a := 172) hN okL_164 (hR _ _ _ r0_164_22) dX12_keep_19 fl_12_53 rfl ?_
      refine bv_iload_n dX12_keep_22 1 rfl ?_
      refine bv_aload_n dX12_keep_23 0 rfl ?_
      refine bz_getA (a := 172) hN okL_164 (hR _ _ _ r0_164_22) dX12_keep_24 fl_12_53 rfl ?_
      refine bv_iload_n dX12_keep_27 1 rfl ?_
      refine bv_bipush (v := 45) dX12_keep_28 (by decide) ?_
      refine bv_iadd dX12_keep_30 ?_
      obtain ⟨r1, h⟩ := bu_ix h
      refine bz_iald hN rkL_172 r1 rfl dX12_keep_31 ?_
      obtain ⟨r2, h⟩ := bu_ix h
      refine bz_iast hN rkL_172 r2 rfl dX12_keep_32 ?_
      refine bv_iinc (j := 1) (v := (x1 + 1)) (ls1 := [(0, .ref 164), (1, .int (x1 + 1))]) dX12_keep_33 rfl rfl (by decide) rfl rfl ?_
      refine bv_goto (tgt := 11) dX12_keep_36 (by decide) ?_
      exact ih _ _ _ h K0
def f_X12_keep (I : bm_TI) : Option (bm_TI) := (if (I 164 24) = 8 then ((f_X12_keep_l11 1000 0 I).bind fun y6 => ((f_X12_keep_l47 1000 0 (bm_uI y6 164 24 7)).bind fun y9 => some (bm_uI y9 164 24 ((y9 164 24) + 1)))) else ((f_X12_keep_l47 1000 0 I).bind fun y3 => some (bm_uI y3 164 24 ((y3 164 24) + 1))))
set_option maxHeartbeats 4000000 in
set_option maxRecDepth 100000 in
theorem c_X12_keep {lc : bm_L} {d n : Nat} {I : bm_TI} {J : bm_TJ} {R W : bm_TR} {v : bm_TI} (hN : 181 ≤ n) (hR : bm_RR R) (h : f_X12_keep I = some v) : bm_C lc m_X12_keep d n n [.ref 164] (I, J, R, W) (fun r M' => r = none ∧ M' = (v, J, R, W)) := by
  refine bm_C.ofV (by decide) (Nat.le_of_ble_eq_true rfl) ?_
  show bm_V lc m_X12_keep d n n n 0 [(0, .ref 164)] [] (I, J, R, W) _
  unfold f_X12_keep at h
  refine bv_aload_n dX12_keep_0 0 rfl ?_
  refine bz_getI hN okL_164 dX12_keep_1 fl_12_276 rfl ?_
  refine bv_bipush (v := 8) dX12_keep_4 (by decide) ?_
  refine bv_icmp_ne (tgt := 45) dX12_keep_6 (by decide) (fun cc => ?_) (fun cc => ?_)
  · replace h := bu_f h cc
    refine bv_iconst (v := 0) dX12_keep_45 (by decide) ?_
    refine bv_istore_n (ls1 := [(0, .ref 164), (1, .int 0)]) dX12_keep_46 (by decide) rfl rfl ?_
    obtain ⟨r1, p2, h⟩ := bu_bd h
    refine v_X12_keep_l47 hN hR 1000 _ _ _ p2 (fun y3 hy => ?_)
    · subst hy
      refine bv_aload_n dX12_keep_82 0 rfl ?_
      refine bv_dup dX12_keep_83 rfl ?_
      refine bz_getI hN okL_164 dX12_keep_84 fl_12_276 rfl ?_
      refine bv_iconst (v := 1) dX12_keep_87 (by decide) ?_
      refine bv_iadd dX12_keep_88 ?_
      refine bz_putI hN okL_164 dX12_keep_89 fl_12_276 rfl ?_
      obtain rfl := Option.some.inj h
      exact bv_vret dX12_keep_92 rfl ⟨rfl, rfl⟩
  · replace h := bu_t h cc
    refine bv_iconst (v := 0) dX12_keep_9 (by decide) ?_
    refine bv_istore_n (ls1 := [(0, .ref 164), (1, .int 0)]) dX12_keep_10 (by decide) rfl rfl ?_
    obtain ⟨r4, p5, h⟩ := bu_bd h
    refine v_X12_keep_l11 hN hR 1000 _ _ _ p5 (fun y6 hy => ?_)
    · subst hy
      refine bv_aload_n dX12_keep_39 0 rfl ?_
      refine bv_bipush (v := 7) dX12_keep_40 (by decide) ?_
      refine bz_putI hN okL_164 dX12_keep_42 fl_12_276 rfl ?_
      refine bv_iconst (v := 0) dX12_keep_45 (by decide) ?_
      refine bv_istore_n (ls1 := [(0, .ref 164), (1, .int 0)]) dX12_keep_46 (by decide) rfl rfl ?_
      obtain ⟨r7, p8, h⟩ := bu_bd h
      refine v_X12_keep_l47 hN hR 1000 _ _ _ p8 (fun y9 hy => ?_)
      · subst hy
        refine bv_aload_n dX12_keep_82 0 rfl ?_
        refine bv_dup dX12_keep_83 rfl ?_
        refine bz_getI hN okL_164 dX12_keep_84 fl_12_276 rfl ?_
        refine bv_iconst (v := 1) dX12_keep_87 (by decide) ?_
        refine bv_iadd dX12_keep_88 ?_
        refine bz_putI hN okL_164 dX12_keep_89 fl_12_276 rfl ?_
        obtain rfl := Option.some.inj h
        exact bv_vret dX12_keep_92 rfl ⟨rfl, rfl⟩
def f_X12_lift (I : bm_TI) (x1 : Int32) (x2 : Int32) : Option (Int32 × bm_TI) := ((f_X12_isMan (bm_uI I 164 0 0) x1).bind fun v1 => (if v1 = true then (if (f_X12_isIn x2 1 3) = true then ((f_X12_browOf (bm_uI I 164 0 0) x1).bind fun v3 => (if v3 = 0 then some (1, (bm_uI I 164 0 0)) else ((f_X12_keep (bm_uI I 164 0 0)).bind fun v5 => ((f_X12_lifts v5 x1 x2).bind fun v7 => some (0, v7))))) else some ((-1), (bm_uI I 164 0 0))) else some ((-1), (bm_uI I 164 0 0))))
set_option maxHeartbeats 4000000 in
set_option maxRecDepth 100000 in
theorem c_X12_lift {lc : bm_L} {d n : Nat} {I : bm_TI} {J : bm_TJ} {R W : bm_TR} {x1 : Int32} {x2 : Int32} {v : Int32 × bm_TI} (hN : 181 ≤ n) (hR : bm_RR R) (h : f_X12_lift I x1 x2 = some v) : bm_C lc m_X12_lift (d + 7) n n [.ref 164, .int x1, .int x2] (I, J, R, W) (fun r M' => r = some (.int v.1) ∧ M' = (v.2, J, R, W)) := by
  refine bm_C.ofV (by decide) (Nat.le_of_ble_eq_true rfl) ?_
  show bm_V lc m_X12_lift (d + 7) n n n 0 [(0, .ref 164), (1, .int x1), (2, .int x2)] [] (I, J, R, W) _
  unfold f_X12_lift at h
  refine bv_aload_n dX12_lift_0 0 rfl ?_
  refine bv_iconst (v := 0) dX12_lift_1 (by decide) ?_
  refine bz_putI hN okL_164 dX12_lift_2 fl_12_1 rfl ?_
  refine bv_aload_n dX12_lift_5 0 rfl ?_
  refine bv_iload_n dX12_lift_6 1 rfl ?_
  obtain ⟨v1, p2, h⟩ := bu_bd h
  refine bw_callV (As := [.int x1]) hN okL_164 ⟨_, _, rfl⟩ dX12_lift_7 mc_12_303 (c_X12_isMan (d := d + 5) hN hR p2) rfl rfl (by decide) ?_
  refine bw_ifB_eq (b := v1) (tgt := 22) dX12_lift_10 (by decide) (fun cc => ?_) (fun cc => ?_)
  · replace h := bu_bf h cc
    refine bv_iconst (v := (-1)) dX12_lift_22 (by decide) ?_
    obtain rfl := Option.some.inj h
    exact bv_iret (x := (-1)) dX12_lift_23 rfl ⟨rfl, rfl⟩
  · replace h := bu_bt h cc
    refine bv_iload_n dX12_lift_13 2 rfl ?_
    refine bv_iconst (v := 1) dX12_lift_14 (by decide) ?_
    refine bv_iconst (v := 3) dX12_lift_15 (by decide) ?_
    refine bw_callS (As := [.int x2, .int 1, .int 3]) dX12_lift_16 mc_12_206 (c_X12_isIn (d := d + 6) hN hR rfl) rfl rfl (by decide) ?_
    refine bw_ifB_ne (b := (f_X12_isIn x2 1 3)) (tgt := 24) dX12_lift_19 (by decide) (fun cc => ?_) (fun cc => ?_)
    · replace h := bu_bt h cc
      refine bv_aload_n dX12_lift_24 0 rfl ?_
      refine bv_iload_n dX12_lift_25 1 rfl ?_
      obtain ⟨v3, p4, h⟩ := bu_bd h
      refine bw_callV (As := [.int x1]) hN okL_164 ⟨_, _, rfl⟩ dX12_lift_26 mc_12_290 (c_X12_browOf (d := d + 5) hN hR p4) rfl rfl (by decide) ?_
      refine bv_if_ne (tgt := 34) dX12_lift_29 (by decide) (fun cc => ?_) (fun cc => ?_)
      · replace h := bu_f h cc
        refine bv_aload_n dX12_lift_34 0 rfl ?_
        obtain ⟨v5, p6, h⟩ := bu_bd h
        refine bw_callVv (As := []) hN okL_164 ⟨_, _, rfl⟩ dX12_lift_35 mc_12_344 (c_X12_keep (d := d + 6) hN hR p6) rfl rfl (by decide) ?_
        refine bv_aload_n dX12_lift_38 0 rfl ?_
        refine bv_iload_n dX12_lift_39 1 rfl ?_
        refine bv_iload_n dX12_lift_40 2 rfl ?_
        obtain ⟨v7, p8, h⟩ := bu_bd h
        refine bw_callVv (As := [.int x1, .int x2]) hN okL_164 ⟨_, _, rfl⟩ dX12_lift_41 mc_12_329 (c_X12_lifts (d := d + 0) hN hR p8) rfl rfl (by decide) ?_
        refine bv_iconst (v := 0) dX12_lift_44 (by decide) ?_
        obtain rfl := Option.some.inj h
        exact bv_iret (x := 0) dX12_lift_45 rfl ⟨rfl, rfl⟩
      · replace h := bu_t h cc
        refine bv_iconst (v := 1) dX12_lift_32 (by decide) ?_
        obtain rfl := Option.some.inj h
        exact bv_iret (x := 1) dX12_lift_33 rfl ⟨rfl, rfl⟩
    · replace h := bu_bf h cc
      refine bv_iconst (v := (-1)) dX12_lift_22 (by decide) ?_
      obtain rfl := Option.some.inj h
      exact bv_iret (x := (-1)) dX12_lift_23 rfl ⟨rfl, rfl⟩
def f_X12_give (I : bm_TI) (x1 : Int32) (x2 : Int32) : Option (Int32 × bm_TI) := ((f_X12_isMan (bm_uI I 164 0 0) x1).bind fun v1 => (if v1 = true then ((f_X12_isOrder (bm_uI I 164 0 0) x2).bind fun v3 => (if v3 = true then ((f_X12_browOf (bm_uI I 164 0 0) x1).bind fun v5 => (if v5 = 0 then some (1, (bm_uI I 164 0 0)) else ((f_X12_keep (bm_uI I 164 0 0)).bind fun v7 => ((f_X12_gives v7 x1 x2).bind fun v9 => some (0, v9))))) else some ((-1), (bm_uI I 164 0 0)))) else some ((-1), (bm_uI I 164 0 0))))
set_option maxHeartbeats 4000000 in
set_option maxRecDepth 100000 in
theorem c_X12_give {lc : bm_L} {d n : Nat} {I : bm_TI} {J : bm_TJ} {R W : bm_TR} {x1 : Int32} {x2 : Int32} {v : Int32 × bm_TI} (hN : 181 ≤ n) (hR : bm_RR R) (h : f_X12_give I x1 x2 = some v) : bm_C lc m_X12_give (d + 8) n n [.ref 164, .int x1, .int x2] (I, J, R, W) (fun r M' => r = some (.int v.1) ∧ M' = (v.2, J, R, W)) := by
  refine bm_C.ofV (by decide) (Nat.le_of_ble_eq_true rfl) ?_
  show bm_V lc m_X12_give (d + 8) n n n 0 [(0, .ref 164), (1, .int x1), (2, .int x2)] [] (I, J, R, W) _
  unfold f_X12_give at h
  refine bv_aload_n dX12_give_0 0 rfl ?_
  refine bv_iconst (v := 0) dX12_give_1 (by decide) ?_
  refine bz_putI hN okL_164 dX12_give_2 fl_12_1 rfl ?_
  refine bv_aload_n dX12_give_5 0 rfl ?_
  refine bv_iload_n dX12_give_6 1 rfl ?_
  obtain ⟨v1, p2, h⟩ := bu_bd h
  refine bw_callV (As := [.int x1]) hN okL_164 ⟨_, _, rfl⟩ dX12_give_7 mc_12_303 (c_X12_isMan (d := d + 6) hN hR p2) rfl rfl (by decide) ?_
  refine bw_ifB_eq (b := v1) (tgt := 21) dX12_give_10 (by decide) (fun cc => ?_) (fun cc => ?_)
  · replace h := bu_bf h cc
    refine bv_iconst (v := (-1)) dX12_give_21 (by decide) ?_
    obtain rfl := Option.some.inj h
    exact bv_iret (x := (-1)) dX12_give_22 rfl ⟨rfl, rfl⟩
  · replace h := bu_bt h cc
    refine bv_aload_n dX12_give_13 0 rfl ?_
    refine bv_iload_n dX12_give_14 2 rfl ?_
    obtain ⟨v3, p4, h⟩ := bu_bd h
    refine bw_callV (As := [.int x2]) hN okL_164 ⟨_, _, rfl⟩ dX12_give_15 mc_12_310 (c_X12_isOrder (d := d + 6) hN hR p4) rfl rfl (by decide) ?_
    refine bw_ifB_ne (b := v3) (tgt := 23) dX12_give_18 (by decide) (fun cc => ?_) (fun cc => ?_)
    · replace h := bu_bt h cc
      refine bv_aload_n dX12_give_23 0 rfl ?_
      refine bv_iload_n dX12_give_24 1 rfl ?_
      obtain ⟨v5, p6, h⟩ := bu_bd h
      refine bw_callV (As := [.int x1]) hN okL_164 ⟨_, _, rfl⟩ dX12_give_25 mc_12_290 (c_X12_browOf (d := d + 6) hN hR p6) rfl rfl (by decide) ?_
      refine bv_if_ne (tgt := 33) dX12_give_28 (by decide) (fun cc => ?_) (fun cc => ?_)
      · replace h := bu_f h cc
        refine bv_aload_n dX12_give_33 0 rfl ?_
        obtain ⟨v7, p8, h⟩ := bu_bd h
        refine bw_callVv (As := []) hN okL_164 ⟨_, _, rfl⟩ dX12_give_34 mc_12_344 (c_X12_keep (d := d + 7) hN hR p8) rfl rfl (by decide) ?_
        refine bv_aload_n dX12_give_37 0 rfl ?_
        refine bv_iload_n dX12_give_38 1 rfl ?_
        refine bv_iload_n dX12_give_39 2 rfl ?_
        obtain ⟨v9, p10, h⟩ := bu_bd h
        refine bw_callVv (As := [.int x1, .int x2]) hN okL_164 ⟨_, _, rfl⟩ dX12_give_40 mc_12_332 (c_X12_gives (d := d + 0) hN hR p10) rfl rfl (by decide) ?_
        refine bv_iconst (v := 0) dX12_give_43 (by decide) ?_
        obtain rfl := Option.some.inj h
        exact bv_iret (x := 0) dX12_give_44 rfl ⟨rfl, rfl⟩
      · replace h := bu_t h cc
        refine bv_iconst (v := 1) dX12_give_31 (by decide) ?_
        obtain rfl := Option.some.inj h
        exact bv_iret (x := 1) dX12_give_32 rfl ⟨rfl, rfl⟩
    · replace h := bu_bf h cc
      refine bv_iconst (v := (-1)) dX12_give_21 (by decide) ?_
      obtain rfl := Option.some.inj h
      exact bv_iret (x := (-1)) dX12_give_22 rfl ⟨rfl, rfl⟩
def f_X12_turns (I : bm_TI) (x1 : Int32) (x2 : Int32) (x3 : Int32) : Option (Int32 × bm_TI) := ((f_X12_isMan (bm_uI I 164 0 0) x2).bind fun v1 => (if v1 = true then (if bm_ix 287 x1 = true then (if ((bm_ishr ((bm_uI I 164 0 0) 166 x1.toNatClampNeg) x2) &&& 1) = x3 then some (1, (bm_uI I 164 0 0)) else ((f_X12_keep (bm_uI I 164 0 0)).bind fun v4 => some (0, (bm_uI v4 166 x1.toNatClampNeg ((v4 166 x1.toNatClampNeg) ^^^ (bm_ishl 1 x2)))))) else none) else some ((-1), (bm_uI I 164 0 0))))
set_option maxHeartbeats 4000000 in
set_option maxRecDepth 100000 in
theorem c_X12_turns {lc : bm_L} {d n : Nat} {I : bm_TI} {J : bm_TJ} {R W : bm_TR} {x1 : Int32} {x2 : Int32} {x3 : Int32} {v : Int32 × bm_TI} (hN : 181 ≤ n) (hR : bm_RR R) (h : f_X12_turns I x1 x2 x3 = some v) : bm_C lc m_X12_turns (d + 2) n n [.ref 164, .int x1, .int x2, .int x3] (I, J, R, W) (fun r M' => r = some (.int v.1) ∧ M' = (v.2, J, R, W)) := by
  refine bm_C.ofV (by decide) (Nat.le_of_ble_eq_true rfl) ?_
  show bm_V lc m_X12_turns (d + 2) n n n 0 [(0, .ref 164), (1, .int x1), (2, .int x2), (3, .int x3)] [] (I, J, R, W) _
  unfold f_X12_turns at h
  refine bv_aload_n dX12_turns_0 0 rfl ?_
  refine bv_iconst (v := 0) dX12_turns_1 (by decide) ?_
  refine bz_putI hN okL_164 dX12_turns_2 fl_12_1 rfl ?_
  refine bv_aload_n dX12_turns_5 0 rfl ?_
  refine bv_iload_n dX12_turns_6 2 rfl ?_
  obtain ⟨v1, p2, h⟩ := bu_bd h
  refine bw_callV (As := [.int x2]) hN okL_164 ⟨_, _, rfl⟩ dX12_turns_7 mc_12_303 (c_X12_isMan (d := d + 0) hN hR p2) rfl rfl (by decide) ?_
  refine bw_ifB_ne (b := v1) (tgt := 15) dX12_turns_10 (by decide) (fun cc => ?_) (fun cc => ?_)
  · replace h := bu_bt h cc
    refine bv_aload_n dX12_turns_15 0 rfl ?_
    refine bz_getA (a := 166) hN okL_164 (hR _ _ _ r0_164_6) dX12_turns_16 fl_12_33 rfl ?_
    refine bv_iload_n dX12_turns_19 1 rfl ?_
    obtain ⟨r3, h⟩ := bu_ix h
    refine bz_iald hN rkL_166 r3 rfl dX12_turns_20 ?_
    refine bv_iload_n dX12_turns_21 2 rfl ?_
    refine bv_ishr dX12_turns_22 ?_
    refine bv_iconst (v := 1) dX12_turns_23 (by decide) ?_
    refine bv_iand dX12_turns_24 ?_
    refine bv_iload_n dX12_turns_25 3 rfl ?_
    refine bv_icmp_ne (tgt := 31) dX12_turns_26 (by decide) (fun cc => ?_) (fun cc => ?_)
    · replace h := bu_f h cc
      refine bv_aload_n dX12_turns_31 0 rfl ?_
      obtain ⟨v4, p5, h⟩ := bu_bd h
      refine bw_callVv (As := []) hN okL_164 ⟨_, _, rfl⟩ dX12_turns_32 mc_12_344 (c_X12_keep (d := d + 1) hN hR p5) rfl rfl (by decide) ?_
      refine bv_aload_n dX12_turns_35 0 rfl ?_
      refine bz_getA (a := 166) hN okL_164 (hR _ _ _ r0_164_6) dX12_turns_36 fl_12_33 rfl ?_
      refine bv_iload_n dX12_turns_39 1 rfl ?_
      refine bv_dup2 dX12_turns_40 rfl rfl ?_
      refine bz_iald hN rkL_166 r3 rfl dX12_turns_41 ?_
      refine bv_iconst (v := 1) dX12_turns_42 (by decide) ?_
      refine bv_iload_n dX12_turns_43 2 rfl ?_
      refine bv_ishl dX12_turns_44 ?_
      refine bv_ixor dX12_turns_45 ?_
      refine bz_iast hN rkL_166 r3 rfl dX12_turns_46 ?_
      refine bv_iconst (v := 0) dX12_turns_47 (by decide) ?_
      obtain rfl := Option.some.inj h
      exact bv_iret (x := 0) dX12_turns_48 rfl ⟨rfl, rfl⟩
    · replace h := bu_t h cc
      refine bv_iconst (v := 1) dX12_turns_29 (by decide) ?_
      obtain rfl := Option.some.inj h
      exact bv_iret (x := 1) dX12_turns_30 rfl ⟨rfl, rfl⟩
  · replace h := bu_bf h cc
    refine bv_iconst (v := (-1)) dX12_turns_13 (by decide) ?_
    obtain rfl := Option.some.inj h
    exact bv_iret (x := (-1)) dX12_turns_14 rfl ⟨rfl, rfl⟩
def f_X12_sleep (I : bm_TI) (x1 : Int32) : Option (Int32 × bm_TI) := ((f_X12_turns I 63 x1 1).bind fun v1 => some (v1.1, v1.2))
set_option maxHeartbeats 4000000 in
set_option maxRecDepth 100000 in
theorem c_X12_sleep {lc : bm_L} {d n : Nat} {I : bm_TI} {J : bm_TJ} {R W : bm_TR} {x1 : Int32} {v : Int32 × bm_TI} (hN : 181 ≤ n) (hR : bm_RR R) (h : f_X12_sleep I x1 = some v) : bm_C lc m_X12_sleep (d + 3) n n [.ref 164, .int x1] (I, J, R, W) (fun r M' => r = some (.int v.1) ∧ M' = (v.2, J, R, W)) := by
  refine bm_C.ofV (by decide) (Nat.le_of_ble_eq_true rfl) ?_
  show bm_V lc m_X12_sleep (d + 3) n n n 0 [(0, .ref 164), (1, .int x1)] [] (I, J, R, W) _
  unfold f_X12_sleep at h
  refine bv_aload_n dX12_sleep_0 0 rfl ?_
  refine bv_bipush (v := 63) dX12_sleep_1 (by decide) ?_
  refine bv_iload_n dX12_sleep_3 1 rfl ?_
  refine bv_iconst (v := 1) dX12_sleep_4 (by decide) ?_
  obtain ⟨v1, p2, h⟩ := bu_bd h
  refine bw_callV (As := [.int 63, .int x1, .int 1]) hN okL_164 ⟨_, _, rfl⟩ dX12_sleep_5 mc_12_347 (c_X12_turns (d := d + 0) hN hR p2) rfl rfl (by decide) ?_
  obtain rfl := Option.some.inj h
  exact bv_iret (x := v1.1) dX12_sleep_8 rfl ⟨rfl, rfl⟩
def f_X12_wake (I : bm_TI) (x1 : Int32) : Option (Int32 × bm_TI) := ((f_X12_turns I 63 x1 0).bind fun v1 => some (v1.1, v1.2))
set_option maxHeartbeats 4000000 in
set_option maxRecDepth 100000 in
theorem c_X12_wake {lc : bm_L} {d n : Nat} {I : bm_TI} {J : bm_TJ} {R W : bm_TR} {x1 : Int32} {v : Int32 × bm_TI} (hN : 181 ≤ n) (hR : bm_RR R) (h : f_X12_wake I x1 = some v) : bm_C lc m_X12_wake (d + 3) n n [.ref 164, .int x1] (I, J, R, W) (fun r M' => r = some (.int v.1) ∧ M' = (v.2, J, R, W)) := by
  refine bm_C.ofV (by decide) (Nat.le_of_ble_eq_true rfl) ?_
  show bm_V lc m_X12_wake (d + 3) n n n 0 [(0, .ref 164), (1, .int x1)] [] (I, J, R, W) _
  unfold f_X12_wake at h
  refine bv_aload_n dX12_wake_0 0 rfl ?_
  refine bv_bipush (v := 63) dX12_wake_1 (by decide) ?_
  refine bv_iload_n dX12_wake_3 1 rfl ?_
  refine bv_iconst (v := 0) dX12_wake_4 (by decide) ?_
  obtain ⟨v1, p2, h⟩ := bu_bd h
  refine bw_callV (As := [.int 63, .int x1, .int 0]) hN okL_164 ⟨_, _, rfl⟩ dX12_wake_5 mc_12_347 (c_X12_turns (d := d + 0) hN hR p2) rfl rfl (by decide) ?_
  obtain rfl := Option.some.inj h
  exact bv_iret (x := v1.1) dX12_wake_8 rfl ⟨rfl, rfl⟩
def f_X12_soot (I : bm_TI) (x1 : Int32) : Option (Int32 × bm_TI) := ((f_X12_turns I 64 x1 1).bind fun v1 => some (v1.1, v1.2))
set_option maxHeartbeats 4000000 in
set_option maxRecDepth 100000 in
theorem c_X12_soot {lc : bm_L} {d n : Nat} {I : bm_TI} {J : bm_TJ} {R W : bm_TR} {x1 : Int32} {v : Int32 × bm_TI} (hN : 181 ≤ n) (hR : bm_RR R) (h : f_X12_soot I x1 = some v) : bm_C lc m_X12_soot (d + 3) n n [.ref 164, .int x1] (I, J, R, W) (fun r M' => r = some (.int v.1) ∧ M' = (v.2, J, R, W)) := by
  refine bm_C.ofV (by decide) (Nat.le_of_ble_eq_true rfl) ?_
  show bm_V lc m_X12_soot (d + 3) n n n 0 [(0, .ref 164), (1, .int x1)] [] (I, J, R, W) _
  unfold f_X12_soot at h
  refine bv_aload_n dX12_soot_0 0 rfl ?_
  refine bv_bipush (v := 64) dX12_soot_1 (by decide) ?_
  refine bv_iload_n dX12_soot_3 1 rfl ?_
  refine bv_iconst (v := 1) dX12_soot_4 (by decide) ?_
  obtain ⟨v1, p2, h⟩ := bu_bd h
  refine bw_callV (As := [.int 64, .int x1, .int 1]) hN okL_164 ⟨_, _, rfl⟩ dX12_soot_5 mc_12_347 (c_X12_turns (d := d + 0) hN hR p2) rfl rfl (by decide) ?_
  obtain rfl := Option.some.inj h
  exact bv_iret (x := v1.1) dX12_soot_8 rfl ⟨rfl, rfl⟩
def f_X12_go (I : bm_TI) (x1 : Int32) (x2 : Int32) : Option (Int32 × bm_TI) := ((f_X12_isMan (bm_uI I 164 0 0) x1).bind fun v1 => (if v1 = true then (if (f_X12_isIn x2 0 3) = true then ((f_X12_whyGo (bm_uI I 164 0 0) x1 x2).bind fun v3 => (if v3 ≤ 0 then ((f_X12_keep (bm_uI I 164 0 0)).bind fun v5 => ((f_X12_goes v5 x1 x2).bind fun v7 => some (0, v7))) else some (1, (bm_uI I 164 0 0)))) else some ((-1), (bm_uI I 164 0 0))) else some ((-1), (bm_uI I 164 0 0))))
set_option maxHeartbeats 4000000 in
set_option maxRecDepth 100000 in
theorem c_X12_go {lc : bm_L} {d n : Nat} {I : bm_TI} {J : bm_TJ} {R W : bm_TR} {x1 : Int32} {x2 : Int32} {v : Int32 × bm_TI} (hN : 181 ≤ n) (hR : bm_RR R) (h : f_X12_go I x1 x2 = some v) : bm_C lc m_X12_go (d + 2) n n [.ref 164, .int x1, .int x2] (I, J, R, W) (fun r M' => r = some (.int v.1) ∧ M' = (v.2, J, R, W)) := by
  refine bm_C.ofV (by decide) (Nat.le_of_ble_eq_true rfl) ?_
  show bm_V lc m_X12_go (d + 2) n n n 0 [(0, .ref 164), (1, .int x1), (2, .int x2)] [] (I, J, R, W) _
  unfold f_X12_go at h
  refine bv_aload_n dX12_go_0 0 rfl ?_
  refine bv_iconst (v := 0) dX12_go_1 (by decide) ?_
  refine bz_putI hN okL_164 dX12_go_2 fl_12_1 rfl ?_
  refine bv_aload_n dX12_go_5 0 rfl ?_
  refine bv_iload_n dX12_go_6 1 rfl ?_
  obtain ⟨v1, p2, h⟩ := bu_bd h
  refine bw_callV (As := [.int x1]) hN okL_164 ⟨_, _, rfl⟩ dX12_go_7 mc_12_303 (c_X12_isMan (d := d + 0) hN hR p2) rfl rfl (by decide) ?_
  refine bw_ifB_eq (b := v1) (tgt := 22) dX12_go_10 (by decide) (fun cc => ?_) (fun cc => ?_)
  · replace h := bu_bf h cc
    refine bv_iconst (v := (-1)) dX12_go_22 (by decide) ?_
    obtain rfl := Option.some.inj h
    exact bv_iret (x := (-1)) dX12_go_23 rfl ⟨rfl, rfl⟩
  · replace h := bu_bt h cc
    refine bv_iload_n dX12_go_13 2 rfl ?_
    refine bv_iconst (v := 0) dX12_go_14 (by decide) ?_
    refine bv_iconst (v := 3) dX12_go_15 (by decide) ?_
    refine bw_callS (As := [.int x2, .int 0, .int 3]) dX12_go_16 mc_12_206 (c_X12_isIn (d := d + 1) hN hR rfl) rfl rfl (by decide) ?_
    refine bw_ifB_ne (b := (f_X12_isIn x2 0 3)) (tgt := 24) dX12_go_19 (by decide) (fun cc => ?_) (fun cc => ?_)
    · replace h := bu_bt h cc
      refine bv_aload_n dX12_go_24 0 rfl ?_
      refine bv_iload_n dX12_go_25 1 rfl ?_
      refine bv_iload_n dX12_go_26 2 rfl ?_
      obtain ⟨v3, p4, h⟩ := bu_bd h
      refine bw_callV (As := [.int x1, .int x2]) hN okL_164 ⟨_, _, rfl⟩ dX12_go_27 mc_12_351 (c_X12_whyGo (d := d + 0) hN hR p4) rfl rfl (by decide) ?_
      refine bv_if_le (tgt := 35) dX12_go_30 (by decide) (fun cc => ?_) (fun cc => ?_)
      · replace h := bu_t h cc
        refine bv_aload_n dX12_go_35 0 rfl ?_
        obtain ⟨v5, p6, h⟩ := bu_bd h
        refine bw_callVv (As := []) hN okL_164 ⟨_, _, rfl⟩ dX12_go_36 mc_12_344 (c_X12_keep (d := d + 1) hN hR p6) rfl rfl (by decide) ?_
        refine bv_aload_n dX12_go_39 0 rfl ?_
        refine bv_iload_n dX12_go_40 1 rfl ?_
        refine bv_iload_n dX12_go_41 2 rfl ?_
        obtain ⟨v7, p8, h⟩ := bu_bd h
        refine bw_callVv (As := [.int x1, .int x2]) hN okL_164 ⟨_, _, rfl⟩ dX12_go_42 mc_12_354 (c_X12_goes (d := d + 0) hN hR p8) rfl rfl (by decide) ?_
        refine bv_iconst (v := 0) dX12_go_45 (by decide) ?_
        obtain rfl := Option.some.inj h
        exact bv_iret (x := 0) dX12_go_46 rfl ⟨rfl, rfl⟩
      · replace h := bu_f h cc
        refine bv_iconst (v := 1) dX12_go_33 (by decide) ?_
        obtain rfl := Option.some.inj h
        exact bv_iret (x := 1) dX12_go_34 rfl ⟨rfl, rfl⟩
    · replace h := bu_bf h cc
      refine bv_iconst (v := (-1)) dX12_go_22 (by decide) ?_
      obtain rfl := Option.some.inj h
      exact bv_iret (x := (-1)) dX12_go_23 rfl ⟨rfl, rfl⟩
def f_X12_hours (I : bm_TI) (x1 : Int32) : Option (Int32 × bm_TI) := (if (f_X12_isIn x1 1 60) = true then (if ((bm_uI I 164 0 0) 166 61) = 400 then some (0, (bm_uI I 164 0 0)) else ((f_X12_keep (bm_uI I 164 0 0)).bind fun v1 => ((f_X12_goesOn v1 x1).bind fun v3 => some (v3.1, v3.2)))) else some ((-1), (bm_uI I 164 0 0)))
set_option maxHeartbeats 4000000 in
set_option maxRecDepth 100000 in
theorem c_X12_hours {lc : bm_L} {d n : Nat} {I : bm_TI} {J : bm_TJ} {R W : bm_TR} {x1 : Int32} {v : Int32 × bm_TI} (hN : 181 ≤ n) (hR : bm_RR R) (h : f_X12_hours I x1 = some v) : bm_C lc m_X12_hours (d + 10) n n [.ref 164, .int x1] (I, J, R, W) (fun r M' => r = some (.int v.1) ∧ M' = (v.2, J, R, W)) := by
  refine bm_C.ofV (by decide) (Nat.le_of_ble_eq_true rfl) ?_
  show bm_V lc m_X12_hours (d + 10) n n n 0 [(0, .ref 164), (1, .int x1)] [] (I, J, R, W) _
  unfold f_X12_hours at h
  refine bv_aload_n dX12_hours_0 0 rfl ?_
  refine bv_iconst (v := 0) dX12_hours_1 (by decide) ?_
  refine bz_putI hN okL_164 dX12_hours_2 fl_12_1 rfl ?_
  refine bv_iload_n dX12_hours_5 1 rfl ?_
  refine bv_iconst (v := 1) dX12_hours_6 (by decide) ?_
  refine bv_bipush (v := 60) dX12_hours_7 (by decide) ?_
  refine bw_callS (As := [.int x1, .int 1, .int 60]) dX12_hours_9 mc_12_206 (c_X12_isIn (d := d + 9) hN hR rfl) rfl rfl (by decide) ?_
  refine bw_ifB_ne (b := (f_X12_isIn x1 1 60)) (tgt := 17) dX12_hours_12 (by decide) (fun cc => ?_) (fun cc => ?_)
  · replace h := bu_bt h cc
    refine bv_aload_n dX12_hours_17 0 rfl ?_
    refine bz_getA (a := 166) hN okL_164 (hR _ _ _ r0_164_6) dX12_hours_18 fl_12_33 rfl ?_
    refine bv_bipush (v := 61) dX12_hours_21 (by decide) ?_
    refine bz_iald (j := 61) hN rkL_166 (bm_ix_in (by decide)) (by decide) dX12_hours_23 ?_
    refine bv_sipush (v := 400) dX12_hours_24 (by decide) ?_
    refine bv_icmp_ne (tgt := 32) dX12_hours_27 (by decide) (fun cc => ?_) (fun cc => ?_)
    · replace h := bu_f h cc
      refine bv_aload_n dX12_hours_32 0 rfl ?_
      obtain ⟨v1, p2, h⟩ := bu_bd h
      refine bw_callVv (As := []) hN okL_164 ⟨_, _, rfl⟩ dX12_hours_33 mc_12_344 (c_X12_keep (d := d + 9) hN hR p2) rfl rfl (by decide) ?_
      refine bv_aload_n dX12_hours_36 0 rfl ?_
      refine bv_iload_n dX12_hours_37 1 rfl ?_
      obtain ⟨v3, p4, h⟩ := bu_bd h
      refine bw_callV (As := [.int x1]) hN okL_164 ⟨_, _, rfl⟩ dX12_hours_38 mc_12_357 (c_X12_goesOn (d := d + 0) hN hR p4) rfl rfl (by decide) ?_
      obtain rfl := Option.some.inj h
      exact bv_iret (x := v3.1) dX12_hours_41 rfl ⟨rfl, rfl⟩
    · replace h := bu_t h cc
      refine bv_iconst (v := 0) dX12_hours_30 (by decide) ?_
      obtain rfl := Option.some.inj h
      exact bv_iret (x := 0) dX12_hours_31 rfl ⟨rfl, rfl⟩
  · replace h := bu_bf h cc
    refine bv_iconst (v := (-1)) dX12_hours_15 (by decide) ?_
    obtain rfl := Option.some.inj h
    exact bv_iret (x := (-1)) dX12_hours_16 rfl ⟨rfl, rfl⟩
def f_X12_undo_l26 : Nat → Int32 → bm_TI → Option (bm_TI)
  | 0, _, _ => none
  | k + 1, x1, I => (if 45 ≤ x1 then some I else (if bm_ix 360 ((45 * (I 164 24)) + x1) = true then (if bm_ix 287 (61 + x1) = true then f_X12_undo_l26 k (x1 + 1) (bm_uI I 166 ((61 + x1).toNatClampNeg) (I 172 ((45 * (I 164 24)) + x1).toNatClampNeg)) else none) else none))
set_option maxHeartbeats 4000000 in
set_option maxRecDepth 100000 in
theorem v_X12_undo_l26 {lc : bm_L} {d n : Nat} {Q : Option Value → bm_M → Prop} {R : bm_TR} {J : bm_TJ} {W : bm_TR} (hN : 181 ≤ n) (hR : bm_RR R) : ∀ (k : Nat) (x1 : Int32) (I : bm_TI) (r : bm_TI), f_X12_undo_l26 k x1 I = some r → (∀ yy, yy = r → bm_V lc m_X12_undo d n n n 61 [(0, .ref 164)] [] (yy, J, R, W) Q) → bm_V lc m_X12_undo d n n n 26 [(0, .ref 164), (1, .int x1)] [] (I, J, R, W) Q := by
  intro k
  induction k with
  | zero => intro x1 I r h; cases (show (none : Option (bm_TI)) = some r from h)
  | succ k ih =>
    intro x1 I r h K0
    unfold f_X12_undo_l26 at h
    refine bv_iload_n dX12_undo_26 1 rfl ?_
    refine bv_bipush (v := 45) dX12_undo_27 (by decide) ?_
    refine bv_icmp_ge (tgt := 61) dX12_undo_29 (by decide) (fun cc => ?_) (fun cc => ?_)
    · replace h := bu_t h cc
      refine bw_ls (ls1 := [(0, .ref 164)]) [0] rfl ?_
      obtain rfl := Option.some.inj h
      exact K0 _ rfl
    · replace h := bu_f h cc
      refine bv_aload_n dX12_undo_32 0 rfl ?_
      refine bz_getA (a := 166) hN okL_164 (hR _ _ _ r0_164_6) dX12_undo_33 fl_12_33 rfl ?_
      refine bv_bipush (v := 61) dX12_undo_36 (by decide) ?_
      refine bv_iload_n dX12_undo_38 1 rfl ?_
      refine bv_iadd dX12_undo_39 ?_
      refine bv_aload_n dX12_undo_40 0 rfl ?_
      refine bz_getA (a := 172) hN okL_164 (hR _ _ _ r0_164_22) dX12_undo_41 fl_12_53 rfl ?_
      refine bv_bipush (v := 45) dX12_undo_44 (by decide) ?_
      refine bv_aload_n dX12_undo_46 0 rfl ?_
      refine bz_getI hN okL_164 dX12_undo_47 fl_12_276 rfl ?_
      refine bv_imul dX12_undo_50 ?_
      refine bv_iload_n dX12_undo_51 1 rfl ?_
      refine bv_iadd dX12_undo_52 ?_
      obtain ⟨r1, h⟩ := bu_ix h
      refine bz_iald hN rkL_172 r1 rfl dX12_undo_53 ?_
      obtain ⟨r2, h⟩ := bu_ix h
      refine bz_iast hN rkL_166 r2 rfl dX12_undo_54 ?_
      refine bv_iinc (j := 1) (v := (x1 + 1)) (ls1 := [(0, .ref 164), (1, .int (x1 + 1))]) dX12_undo_55 rfl rfl (by decide) rfl rfl ?_
      refine bv_goto (tgt := 26) dX12_undo_58 (by decide) ?_
      exact ih _ _ _ h K0
def f_X12_undo (I : bm_TI) : Option (Int32 × bm_TI) := (if ((bm_uI I 164 0 0) 164 24) = 0 then some ((-1), (bm_uI I 164 0 0)) else ((f_X12_undo_l26 1000 0 (bm_uI (bm_uI I 164 0 0) 164 24 (((bm_uI I 164 0 0) 164 24) - 1))).bind fun y3 => some ((y3 164 24), y3)))
set_option maxHeartbeats 4000000 in
set_option maxRecDepth 100000 in
theorem c_X12_undo {lc : bm_L} {d n : Nat} {I : bm_TI} {J : bm_TJ} {R W : bm_TR} {v : Int32 × bm_TI} (hN : 181 ≤ n) (hR : bm_RR R) (h : f_X12_undo I = some v) : bm_C lc m_X12_undo d n n [.ref 164] (I, J, R, W) (fun r M' => r = some (.int v.1) ∧ M' = (v.2, J, R, W)) := by
  refine bm_C.ofV (by decide) (Nat.le_of_ble_eq_true rfl) ?_
  show bm_V lc m_X12_undo d n n n 0 [(0, .ref 164)] [] (I, J, R, W) _
  unfold f_X12_undo at h
  refine bv_aload_n dX12_undo_0 0 rfl ?_
  refine bv_iconst (v := 0) dX12_undo_1 (by decide) ?_
  refine bz_putI hN okL_164 dX12_undo_2 fl_12_1 rfl ?_
  refine bv_aload_n dX12_undo_5 0 rfl ?_
  refine bz_getI hN okL_164 dX12_undo_6 fl_12_276 rfl ?_
  refine bv_if_ne (tgt := 14) dX12_undo_9 (by decide) (fun cc => ?_) (fun cc => ?_)
  · replace h := bu_f h cc
    refine bv_aload_n dX12_undo_14 0 rfl ?_
    refine bv_dup dX12_undo_15 rfl ?_
    refine bz_getI hN okL_164 dX12_undo_16 fl_12_276 rfl ?_
    refine bv_iconst (v := 1) dX12_undo_19 (by decide) ?_
    refine bv_isub dX12_undo_20 ?_
    refine bz_putI hN okL_164 dX12_undo_21 fl_12_276 rfl ?_
    refine bv_iconst (v := 0) dX12_undo_24 (by decide) ?_
    refine bv_istore_n (ls1 := [(0, .ref 164), (1, .int 0)]) dX12_undo_25 (by decide) rfl rfl ?_
    obtain ⟨r1, p2, h⟩ := bu_bd h
    refine v_X12_undo_l26 hN hR 1000 _ _ _ p2 (fun y3 hy => ?_)
    · subst hy
      refine bv_aload_n dX12_undo_61 0 rfl ?_
      refine bz_getI hN okL_164 dX12_undo_62 fl_12_276 rfl ?_
      obtain rfl := Option.some.inj h
      exact bv_iret (x := (y3 164 24)) dX12_undo_65 rfl ⟨rfl, rfl⟩
  · replace h := bu_t h cc
    refine bv_iconst (v := (-1)) dX12_undo_12 (by decide) ?_
    obtain rfl := Option.some.inj h
    exact bv_iret (x := (-1)) dX12_undo_13 rfl ⟨rfl, rfl⟩
def f_X12_tries_l2 : Nat → Int32 → bm_TI → Option (bm_TI)
  | 0, _, _ => none
  | k + 1, x1, I => (if 45 ≤ x1 then some I else (if bm_ix 287 (61 + x1) = true then (if bm_ix 45 x1 = true then f_X12_tries_l2 k (x1 + 1) (bm_uI I 173 x1.toNatClampNeg (I 166 (61 + x1).toNatClampNeg)) else none) else none))
set_option maxHeartbeats 4000000 in
set_option maxRecDepth 100000 in
theorem v_X12_tries_l2 {lc : bm_L} {d n : Nat} {Q : Option Value → bm_M → Prop} {R : bm_TR} {J : bm_TJ} {W : bm_TR} (hN : 181 ≤ n) (hR : bm_RR R) : ∀ (k : Nat) (x1 : Int32) (I : bm_TI) (r : bm_TI), f_X12_tries_l2 k x1 I = some r → (∀ yy, yy = r → bm_V lc m_X12_tries d n n n 29 [] [] (yy, J, R, W) Q) → bm_V lc m_X12_tries d n n n 2 [(0, .ref 164), (1, .int x1)] [] (I, J, R, W) Q := by
  intro k
  induction k with
  | zero => intro x1 I r h; cases (show (none : Option (bm_TI)) = some r from h)
  | succ k ih =>
    intro x1 I r h K0
    unfold f_X12_tries_l2 at h
    refine bv_iload_n dX12_tries_2 1 rfl ?_
    refine bv_bipush (v := 45) dX12_tries_3 (by decide) ?_
    refine bv_icmp_ge (tgt := 29) dX12_tries_5 (by decide) (fun cc => ?_) (fun cc => ?_)
    · replace h := bu_t h cc
      refine bw_ls (ls1 := []) [] rfl ?_
      obtain rfl := Option.some.inj h
      exact K0 _ rfl
    · replace h := bu_f h cc
      refine bv_aload_n dX12_tries_8 0 rfl ?_
      refine bz_getA (a := 173) hN okL_164 (hR _ _ _ r0_164_23) dX12_tries_9 fl_12_56 rfl ?_
      refine bv_iload_n dX12_tries_12 1 rfl ?_
      refine bv_aload_n dX12_tries_13 0 rfl ?_
      refine bz_getA (a := 166) hN okL_164 (hR _ _ _ r0_164_6) dX12_tries_14 fl_12_33 rfl ?_
      refine bv_bipush (v := 61) dX12_tries_17 (by decide) ?_
      refine bv_iload_n dX12_tries_19 1 rfl ?_
      refine bv_iadd dX12_tries_20 ?_
      obtain ⟨r1, h⟩ := bu_ix h
      refine bz_iald hN rkL_166 r1 rfl dX12_tries_21 ?_
      obtain ⟨r2, h⟩ := bu_ix h
      refine bz_iast hN rkL_173 r2 rfl dX12_tries_22 ?_
      refine bv_iinc (j := 1) (v := (x1 + 1)) (ls1 := [(0, .ref 164), (1, .int (x1 + 1))]) dX12_tries_23 rfl rfl (by decide) rfl rfl ?_
      refine bv_goto (tgt := 2) dX12_tries_26 (by decide) ?_
      exact ih _ _ _ h K0
def f_X12_tries (I : bm_TI) : Option (bm_TI) := ((f_X12_tries_l2 1000 0 I).bind fun y3 => some y3)
set_option maxHeartbeats 4000000 in
set_option maxRecDepth 100000 in
theorem c_X12_tries {lc : bm_L} {d n : Nat} {I : bm_TI} {J : bm_TJ} {R W : bm_TR} {v : bm_TI} (hN : 181 ≤ n) (hR : bm_RR R) (h : f_X12_tries I = some v) : bm_C lc m_X12_tries d n n [.ref 164] (I, J, R, W) (fun r M' => r = none ∧ M' = (v, J, R, W)) := by
  refine bm_C.ofV (by decide) (Nat.le_of_ble_eq_true rfl) ?_
  show bm_V lc m_X12_tries d n n n 0 [(0, .ref 164)] [] (I, J, R, W) _
  unfold f_X12_tries at h
  refine bv_iconst (v := 0) dX12_tries_0 (by decide) ?_
  refine bv_istore_n (ls1 := [(0, .ref 164), (1, .int 0)]) dX12_tries_1 (by decide) rfl rfl ?_
  obtain ⟨r1, p2, h⟩ := bu_bd h
  refine v_X12_tries_l2 hN hR 1000 _ _ _ p2 (fun y3 hy => ?_)
  · subst hy
    obtain rfl := Option.some.inj h
    exact bv_vret dX12_tries_29 rfl ⟨rfl, rfl⟩
def f_X12_back_l2 : Nat → Int32 → bm_TI → Option (bm_TI)
  | 0, _, _ => none
  | k + 1, x1, I => (if 45 ≤ x1 then some I else (if bm_ix 45 x1 = true then (if bm_ix 287 (61 + x1) = true then f_X12_back_l2 k (x1 + 1) (bm_uI I 166 ((61 + x1).toNatClampNeg) (I 173 x1.toNatClampNeg)) else none) else none))
set_option maxHeartbeats 4000000 in
set_option maxRecDepth 100000 in
theorem v_X12_back_l2 {lc : bm_L} {d n : Nat} {Q : Option Value → bm_M → Prop} {R : bm_TR} {J : bm_TJ} {W : bm_TR} (hN : 181 ≤ n) (hR : bm_RR R) : ∀ (k : Nat) (x1 : Int32) (I : bm_TI) (r : bm_TI), f_X12_back_l2 k x1 I = some r → (∀ yy, yy = r → bm_V lc m_X12_back d n n n 29 [] [] (yy, J, R, W) Q) → bm_V lc m_X12_back d n n n 2 [(0, .ref 164), (1, .int x1)] [] (I, J, R, W) Q := by
  intro k
  induction k with
  | zero => intro x1 I r h; cases (show (none : Option (bm_TI)) = some r from h)
  | succ k ih =>
    intro x1 I r h K0
    unfold f_X12_back_l2 at h
    refine bv_iload_n dX12_back_2 1 rfl ?_
    refine bv_bipush (v := 45) dX12_back_3 (by decide) ?_
    refine bv_icmp_ge (tgt := 29) dX12_back_5 (by decide) (fun cc => ?_) (fun cc => ?_)
    · replace h := bu_t h cc
      refine bw_ls (ls1 := []) [] rfl ?_
      obtain rfl := Option.some.inj h
      exact K0 _ rfl
    · replace h := bu_f h cc
      refine bv_aload_n dX12_back_8 0 rfl ?_
      refine bz_getA (a := 166) hN okL_164 (hR _ _ _ r0_164_6) dX12_back_9 fl_12_33 rfl ?_
      refine bv_bipush (v := 61) dX12_back_12 (by decide) ?_
      refine bv_iload_n dX12_back_14 1 rfl ?_
      refine bv_iadd dX12_back_15 ?_
      refine bv_aload_n dX12_back_16 0 rfl ?_
      refine bz_getA (a := 173) hN okL_164 (hR _ _ _ r0_164_23) dX12_back_17 fl_12_56 rfl ?_
      refine bv_iload_n dX12_back_20 1 rfl ?_
      obtain ⟨r1, h⟩ := bu_ix h
      refine bz_iald hN rkL_173 r1 rfl dX12_back_21 ?_
      obtain ⟨r2, h⟩ := bu_ix h
      refine bz_iast hN rkL_166 r2 rfl dX12_back_22 ?_
      refine bv_iinc (j := 1) (v := (x1 + 1)) (ls1 := [(0, .ref 164), (1, .int (x1 + 1))]) dX12_back_23 rfl rfl (by decide) rfl rfl ?_
      refine bv_goto (tgt := 2) dX12_back_26 (by decide) ?_
      exact ih _ _ _ h K0
def f_X12_back (I : bm_TI) : Option (bm_TI) := ((f_X12_back_l2 1000 0 I).bind fun y3 => some y3)
set_option maxHeartbeats 4000000 in
set_option maxRecDepth 100000 in
theorem c_X12_back {lc : bm_L} {d n : Nat} {I : bm_TI} {J : bm_TJ} {R W : bm_TR} {v : bm_TI} (hN : 181 ≤ n) (hR : bm_RR R) (h : f_X12_back I = some v) : bm_C lc m_X12_back d n n [.ref 164] (I, J, R, W) (fun r M' => r = none ∧ M' = (v, J, R, W)) := by
  refine bm_C.ofV (by decide) (Nat.le_of_ble_eq_true rfl) ?_
  show bm_V lc m_X12_back d n n n 0 [(0, .ref 164)] [] (I, J, R, W) _
  unfold f_X12_back at h
  refine bv_iconst (v := 0) dX12_back_0 (by decide) ?_
  refine bv_istore_n (ls1 := [(0, .ref 164), (1, .int 0)]) dX12_back_1 (by decide) rfl rfl ?_
  obtain ⟨r1, p2, h⟩ := bu_bd h
  refine v_X12_back_l2 hN hR 1000 _ _ _ p2 (fun y3 hy => ?_)
  · subst hy
    obtain rfl := Option.some.inj h
    exact bv_vret dX12_back_29 rfl ⟨rfl, rfl⟩
def f_X12_sees (I : bm_TI) (x1 : Int32) : Option (Int32 × bm_TI) := ((f_X12_isMan (bm_uI I 164 0 0) x1).bind fun v1 => (if v1 = true then ((f_X12_seenBy (bm_uI I 164 0 0) x1).bind fun v3 => some (v3, (bm_uI I 164 0 0))) else some ((-1), (bm_uI I 164 0 0))))
set_option maxHeartbeats 4000000 in
set_option maxRecDepth 100000 in
theorem c_X12_sees {lc : bm_L} {d n : Nat} {I : bm_TI} {J : bm_TJ} {R W : bm_TR} {x1 : Int32} {v : Int32 × bm_TI} (hN : 181 ≤ n) (hR : bm_RR R) (h : f_X12_sees I x1 = some v) : bm_C lc m_X12_sees (d + 5) n n [.ref 164, .int x1] (I, J, R, W) (fun r M' => r = some (.int v.1) ∧ M' = (v.2, J, R, W)) := by
  refine bm_C.ofV (by decide) (Nat.le_of_ble_eq_true rfl) ?_
  show bm_V lc m_X12_sees (d + 5) n n n 0 [(0, .ref 164), (1, .int x1)] [] (I, J, R, W) _
  unfold f_X12_sees at h
  refine bv_aload_n dX12_sees_0 0 rfl ?_
  refine bv_iconst (v := 0) dX12_sees_1 (by decide) ?_
  refine bz_putI hN okL_164 dX12_sees_2 fl_12_1 rfl ?_
  refine bv_aload_n dX12_sees_5 0 rfl ?_
  refine bv_iload_n dX12_sees_6 1 rfl ?_
  obtain ⟨v1, p2, h⟩ := bu_bd h
  refine bw_callV (As := [.int x1]) hN okL_164 ⟨_, _, rfl⟩ dX12_sees_7 mc_12_303 (c_X12_isMan (d := d + 3) hN hR p2) rfl rfl (by decide) ?_
  refine bw_ifB_eq (b := v1) (tgt := 21) dX12_sees_10 (by decide) (fun cc => ?_) (fun cc => ?_)
  · replace h := bu_bf h cc
    refine bv_iconst (v := (-1)) dX12_sees_21 (by decide) ?_
    obtain rfl := Option.some.inj h
    exact bv_iret (x := (-1)) dX12_sees_22 rfl ⟨rfl, rfl⟩
  · replace h := bu_bt h cc
    refine bv_aload_n dX12_sees_13 0 rfl ?_
    refine bv_iload_n dX12_sees_14 1 rfl ?_
    obtain ⟨v3, p4, h⟩ := bu_bd h
    refine bw_callV (As := [.int x1]) hN okL_164 ⟨_, _, rfl⟩ dX12_sees_15 mc_12_360 (c_X12_seenBy (d := d + 0) hN hR p4) rfl rfl (by decide) ?_
    refine bv_goto (tgt := 22) dX12_sees_18 (by decide) ?_
    obtain rfl := Option.some.inj h
    exact bv_iret (x := v3) dX12_sees_22 rfl ⟨rfl, rfl⟩
def f_X12_reads (I : bm_TI) (x1 : Int32) : Option (Int32 × bm_TI) := ((f_X12_isMan (bm_uI I 164 0 0) x1).bind fun v1 => (if v1 = true then ((f_X12_readersOf (bm_uI I 164 0 0) x1).bind fun v3 => some (v3, (bm_uI I 164 0 0))) else some ((-1), (bm_uI I 164 0 0))))
set_option maxHeartbeats 4000000 in
set_option maxRecDepth 100000 in
theorem c_X12_reads {lc : bm_L} {d n : Nat} {I : bm_TI} {J : bm_TJ} {R W : bm_TR} {x1 : Int32} {v : Int32 × bm_TI} (hN : 181 ≤ n) (hR : bm_RR R) (h : f_X12_reads I x1 = some v) : bm_C lc m_X12_reads (d + 6) n n [.ref 164, .int x1] (I, J, R, W) (fun r M' => r = some (.int v.1) ∧ M' = (v.2, J, R, W)) := by
  refine bm_C.ofV (by decide) (Nat.le_of_ble_eq_true rfl) ?_
  show bm_V lc m_X12_reads (d + 6) n n n 0 [(0, .ref 164), (1, .int x1)] [] (I, J, R, W) _
  unfold f_X12_reads at h
  refine bv_aload_n dX12_reads_0 0 rfl ?_
  refine bv_iconst (v := 0) dX12_reads_1 (by decide) ?_
  refine bz_putI hN okL_164 dX12_reads_2 fl_12_1 rfl ?_
  refine bv_aload_n dX12_reads_5 0 rfl ?_
  refine bv_iload_n dX12_reads_6 1 rfl ?_
  obtain ⟨v1, p2, h⟩ := bu_bd h
  refine bw_callV (As := [.int x1]) hN okL_164 ⟨_, _, rfl⟩ dX12_reads_7 mc_12_303 (c_X12_isMan (d := d + 4) hN hR p2) rfl rfl (by decide) ?_
  refine bw_ifB_eq (b := v1) (tgt := 21) dX12_reads_10 (by decide) (fun cc => ?_) (fun cc => ?_)
  · replace h := bu_bf h cc
    refine bv_iconst (v := (-1)) dX12_reads_21 (by decide) ?_
    obtain rfl := Option.some.inj h
    exact bv_iret (x := (-1)) dX12_reads_22 rfl ⟨rfl, rfl⟩
  · replace h := bu_bt h cc
    refine bv_aload_n dX12_reads_13 0 rfl ?_
    refine bv_iload_n dX12_reads_14 1 rfl ?_
    obtain ⟨v3, p4, h⟩ := bu_bd h
    refine bw_callV (As := [.int x1]) hN okL_164 ⟨_, _, rfl⟩ dX12_reads_15 mc_12_322 (c_X12_readersOf (d := d + 0) hN hR p4) rfl rfl (by decide) ?_
    refine bv_goto (tgt := 22) dX12_reads_18 (by decide) ?_
    obtain rfl := Option.some.inj h
    exact bv_iret (x := v3) dX12_reads_22 rfl ⟨rfl, rfl⟩
def f_X12_foes (I : bm_TI) (x1 : Int32) : Option (Int32 × bm_TI) := ((f_X12_isMan (bm_uI I 164 0 0) x1).bind fun v1 => (if v1 = true then (if bm_ix 287 (66 + x1) = true then (if bm_ix 287 (74 + x1) = true then ((f_X12_foesOf (bm_uI I 164 0 0) x1 ((bm_uI I 164 0 0) 166 (66 + x1).toNatClampNeg) ((bm_uI I 164 0 0) 166 (74 + x1).toNatClampNeg)).bind fun v5 => some (v5, (bm_uI I 164 0 0))) else none) else none) else some ((-1), (bm_uI I 164 0 0))))
set_option maxHeartbeats 4000000 in
set_option maxRecDepth 100000 in
theorem c_X12_foes {lc : bm_L} {d n : Nat} {I : bm_TI} {J : bm_TJ} {R W : bm_TR} {x1 : Int32} {v : Int32 × bm_TI} (hN : 181 ≤ n) (hR : bm_RR R) (h : f_X12_foes I x1 = some v) : bm_C lc m_X12_foes (d + 4) n n [.ref 164, .int x1] (I, J, R, W) (fun r M' => r = some (.int v.1) ∧ M' = (v.2, J, R, W)) := by
  refine bm_C.ofV (by decide) (Nat.le_of_ble_eq_true rfl) ?_
  show bm_V lc m_X12_foes (d + 4) n n n 0 [(0, .ref 164), (1, .int x1)] [] (I, J, R, W) _
  unfold f_X12_foes at h
  refine bv_aload_n dX12_foes_0 0 rfl ?_
  refine bv_iconst (v := 0) dX12_foes_1 (by decide) ?_
  refine bz_putI hN okL_164 dX12_foes_2 fl_12_1 rfl ?_
  refine bv_aload_n dX12_foes_5 0 rfl ?_
  refine bv_iload_n dX12_foes_6 1 rfl ?_
  obtain ⟨v1, p2, h⟩ := bu_bd h
  refine bw_callV (As := [.int x1]) hN okL_164 ⟨_, _, rfl⟩ dX12_foes_7 mc_12_303 (c_X12_isMan (d := d + 2) hN hR p2) rfl rfl (by decide) ?_
  refine bw_ifB_eq (b := v1) (tgt := 39) dX12_foes_10 (by decide) (fun cc => ?_) (fun cc => ?_)
  · replace h := bu_bf h cc
    refine bv_iconst (v := (-1)) dX12_foes_39 (by decide) ?_
    obtain rfl := Option.some.inj h
    exact bv_iret (x := (-1)) dX12_foes_40 rfl ⟨rfl, rfl⟩
  · replace h := bu_bt h cc
    refine bv_aload_n dX12_foes_13 0 rfl ?_
    refine bv_iload_n dX12_foes_14 1 rfl ?_
    refine bv_aload_n dX12_foes_15 0 rfl ?_
    refine bz_getA (a := 166) hN okL_164 (hR _ _ _ r0_164_6) dX12_foes_16 fl_12_33 rfl ?_
    refine bv_bipush (v := 66) dX12_foes_19 (by decide) ?_
    refine bv_iload_n dX12_foes_21 1 rfl ?_
    refine bv_iadd dX12_foes_22 ?_
    obtain ⟨r3, h⟩ := bu_ix h
    refine bz_iald hN rkL_166 r3 rfl dX12_foes_23 ?_
    refine bv_aload_n dX12_foes_24 0 rfl ?_
    refine bz_getA (a := 166) hN okL_164 (hR _ _ _ r0_164_6) dX12_foes_25 fl_12_33 rfl ?_
    refine bv_bipush (v := 74) dX12_foes_28 (by decide) ?_
    refine bv_iload_n dX12_foes_30 1 rfl ?_
    refine bv_iadd dX12_foes_31 ?_
    obtain ⟨r4, h⟩ := bu_ix h
    refine bz_iald hN rkL_166 r4 rfl dX12_foes_32 ?_
    obtain ⟨v5, p6, h⟩ := bu_bd h
    refine bw_callV (As := [.int x1, .int ((bm_uI I 164 0 0) 166 (66 + x1).toNatClampNeg), .int ((bm_uI I 164 0 0) 166 (74 + x1).toNatClampNeg)]) hN okL_164 ⟨_, _, rfl⟩ dX12_foes_33 mc_12_363 (c_X12_foesOf (d := d + 0) hN hR p6) rfl rfl (by decide) ?_
    refine bv_goto (tgt := 40) dX12_foes_36 (by decide) ?_
    obtain rfl := Option.some.inj h
    exact bv_iret (x := v5) dX12_foes_40 rfl ⟨rfl, rfl⟩
def f_X12_reachOf (I : bm_TI) (x1 : Int32) (x2 : Int32) : Option (Int32 × bm_TI) := ((f_X12_tries I).bind fun v1 => ((f_X12_gives v1 x1 x2).bind fun v3 => ((f_X12_goesOn v3 20).bind fun v5 => ((f_X12_havers v5.2 x2).bind fun v7 => ((f_X12_back v5.2).bind fun v9 => some (v7, v9))))))
set_option maxHeartbeats 4000000 in
set_option maxRecDepth 100000 in
theorem c_X12_reachOf {lc : bm_L} {d n : Nat} {I : bm_TI} {J : bm_TJ} {R W : bm_TR} {x1 : Int32} {x2 : Int32} {v : Int32 × bm_TI} (hN : 181 ≤ n) (hR : bm_RR R) (h : f_X12_reachOf I x1 x2 = some v) : bm_C lc m_X12_reachOf (d + 10) n n [.ref 164, .int x1, .int x2] (I, J, R, W) (fun r M' => r = some (.int v.1) ∧ M' = (v.2, J, R, W)) := by
  refine bm_C.ofV (by decide) (Nat.le_of_ble_eq_true rfl) ?_
  show bm_V lc m_X12_reachOf (d + 10) n n n 0 [(0, .ref 164), (1, .int x1), (2, .int x2)] [] (I, J, R, W) _
  unfold f_X12_reachOf at h
  refine bv_aload_n dX12_reachOf_0 0 rfl ?_
  obtain ⟨v1, p2, h⟩ := bu_bd h
  refine bw_callVv (As := []) hN okL_164 ⟨_, _, rfl⟩ dX12_reachOf_1 mc_12_366 (c_X12_tries (d := d + 9) hN hR p2) rfl rfl (by decide) ?_
  refine bv_aload_n dX12_reachOf_4 0 rfl ?_
  refine bv_iload_n dX12_reachOf_5 1 rfl ?_
  refine bv_iload_n dX12_reachOf_6 2 rfl ?_
  obtain ⟨v3, p4, h⟩ := bu_bd h
  refine bw_callVv (As := [.int x1, .int x2]) hN okL_164 ⟨_, _, rfl⟩ dX12_reachOf_7 mc_12_332 (c_X12_gives (d := d + 2) hN hR p4) rfl rfl (by decide) ?_
  refine bv_aload_n dX12_reachOf_10 0 rfl ?_
  refine bv_bipush (v := 20) dX12_reachOf_11 (by decide) ?_
  obtain ⟨v5, p6, h⟩ := bu_bd h
  refine bw_callV (As := [.int 20]) hN okL_164 ⟨_, _, rfl⟩ dX12_reachOf_13 mc_12_357 (c_X12_goesOn (d := d + 0) hN hR p6) rfl rfl (by decide) ?_
  refine bv_pop dX12_reachOf_16 rfl ?_
  refine bv_aload_n dX12_reachOf_17 0 rfl ?_
  refine bv_iload_n dX12_reachOf_18 2 rfl ?_
  obtain ⟨v7, p8, h⟩ := bu_bd h
  refine bw_callV (As := [.int x2]) hN okL_164 ⟨_, _, rfl⟩ dX12_reachOf_19 mc_12_313 (c_X12_havers (d := d + 9) hN hR p8) rfl rfl (by decide) ?_
  refine bv_istore_n (ls1 := [(0, .ref 164), (1, .int x1), (2, .int x2), (3, .int v7)]) dX12_reachOf_22 (by decide) rfl rfl ?_
  refine bv_aload_n dX12_reachOf_23 0 rfl ?_
  obtain ⟨v9, p10, h⟩ := bu_bd h
  refine bw_callVv (As := []) hN okL_164 ⟨_, _, rfl⟩ dX12_reachOf_24 mc_12_369 (c_X12_back (d := d + 9) hN hR p10) rfl rfl (by decide) ?_
  refine bv_iload_n dX12_reachOf_27 3 rfl ?_
  obtain rfl := Option.some.inj h
  exact bv_iret (x := v7) dX12_reachOf_28 rfl ⟨rfl, rfl⟩
def f_X12_reach (I : bm_TI) (x1 : Int32) (x2 : Int32) : Option (Int32 × bm_TI) := ((f_X12_isMan (bm_uI I 164 0 0) x1).bind fun v1 => (if v1 = true then ((f_X12_isOrder (bm_uI I 164 0 0) x2).bind fun v3 => (if v3 = true then ((f_X12_browOf (bm_uI I 164 0 0) x1).bind fun v5 => (if v5 ≤ 0 then some ((-1), (bm_uI I 164 0 0)) else ((f_X12_reachOf (bm_uI I 164 0 0) x1 x2).bind fun v7 => some (v7.1, v7.2)))) else some ((-1), (bm_uI I 164 0 0)))) else some ((-1), (bm_uI I 164 0 0))))
set_option maxHeartbeats 4000000 in
set_option maxRecDepth 100000 in
theorem c_X12_reach {lc : bm_L} {d n : Nat} {I : bm_TI} {J : bm_TJ} {R W : bm_TR} {x1 : Int32} {x2 : Int32} {v : Int32 × bm_TI} (hN : 181 ≤ n) (hR : bm_RR R) (h : f_X12_reach I x1 x2 = some v) : bm_C lc m_X12_reach (d + 11) n n [.ref 164, .int x1, .int x2] (I, J, R, W) (fun r M' => r = some (.int v.1) ∧ M' = (v.2, J, R, W)) := by
  refine bm_C.ofV (by decide) (Nat.le_of_ble_eq_true rfl) ?_
  show bm_V lc m_X12_reach (d + 11) n n n 0 [(0, .ref 164), (1, .int x1), (2, .int x2)] [] (I, J, R, W) _
  unfold f_X12_reach at h
  refine bv_aload_n dX12_reach_0 0 rfl ?_
  refine bv_iconst (v := 0) dX12_reach_1 (by decide) ?_
  refine bz_putI hN okL_164 dX12_reach_2 fl_12_1 rfl ?_
  refine bv_aload_n dX12_reach_5 0 rfl ?_
  refine bv_iload_n dX12_reach_6 1 rfl ?_
  obtain ⟨v1, p2, h⟩ := bu_bd h
  refine bw_callV (As := [.int x1]) hN okL_164 ⟨_, _, rfl⟩ dX12_reach_7 mc_12_303 (c_X12_isMan (d := d + 9) hN hR p2) rfl rfl (by decide) ?_
  refine bw_ifB_eq (b := v1) (tgt := 38) dX12_reach_10 (by decide) (fun cc => ?_) (fun cc => ?_)
  · replace h := bu_bf h cc
    refine bv_iconst (v := (-1)) dX12_reach_38 (by decide) ?_
    obtain rfl := Option.some.inj h
    exact bv_iret (x := (-1)) dX12_reach_39 rfl ⟨rfl, rfl⟩
  · replace h := bu_bt h cc
    refine bv_aload_n dX12_reach_13 0 rfl ?_
    refine bv_iload_n dX12_reach_14 2 rfl ?_
    obtain ⟨v3, p4, h⟩ := bu_bd h
    refine bw_callV (As := [.int x2]) hN okL_164 ⟨_, _, rfl⟩ dX12_reach_15 mc_12_310 (c_X12_isOrder (d := d + 9) hN hR p4) rfl rfl (by decide) ?_
    refine bw_ifB_eq (b := v3) (tgt := 38) dX12_reach_18 (by decide) (fun cc => ?_) (fun cc => ?_)
    · replace h := bu_bf h cc
      refine bv_iconst (v := (-1)) dX12_reach_38 (by decide) ?_
      obtain rfl := Option.some.inj h
      exact bv_iret (x := (-1)) dX12_reach_39 rfl ⟨rfl, rfl⟩
    · replace h := bu_bt h cc
      refine bv_aload_n dX12_reach_21 0 rfl ?_
      refine bv_iload_n dX12_reach_22 1 rfl ?_
      obtain ⟨v5, p6, h⟩ := bu_bd h
      refine bw_callV (As := [.int x1]) hN okL_164 ⟨_, _, rfl⟩ dX12_reach_23 mc_12_290 (c_X12_browOf (d := d + 9) hN hR p6) rfl rfl (by decide) ?_
      refine bv_if_le (tgt := 38) dX12_reach_26 (by decide) (fun cc => ?_) (fun cc => ?_)
      · replace h := bu_t h cc
        refine bv_iconst (v := (-1)) dX12_reach_38 (by decide) ?_
        obtain rfl := Option.some.inj h
        exact bv_iret (x := (-1)) dX12_reach_39 rfl ⟨rfl, rfl⟩
      · replace h := bu_f h cc
        refine bv_aload_n dX12_reach_29 0 rfl ?_
        refine bv_iload_n dX12_reach_30 1 rfl ?_
        refine bv_iload_n dX12_reach_31 2 rfl ?_
        obtain ⟨v7, p8, h⟩ := bu_bd h
        refine bw_callV (As := [.int x1, .int x2]) hN okL_164 ⟨_, _, rfl⟩ dX12_reach_32 mc_12_372 (c_X12_reachOf (d := d + 0) hN hR p8) rfl rfl (by decide) ?_
        refine bv_goto (tgt := 39) dX12_reach_35 (by decide) ?_
        obtain rfl := Option.some.inj h
        exact bv_iret (x := v7.1) dX12_reach_39 rfl ⟨rfl, rfl⟩
def f_X12_soon_l53 (x2 : Int32) (x3 : Int32) : Nat → Int32 → Int32 → bm_TI → Option (((Int32 × bm_TI) ⊕ (Int32 × bm_TI)))
  | 0, _, _, _ => none
  | k + 1, x4, x5, I => (if 20 < x5 then some (Sum.inr (x4, I)) else (if 0 ≤ x4 then some (Sum.inr (x4, I)) else ((f_X12_havers I x2).bind fun v1 => (if (v1 &&& x3) = x3 then (if (I 166 61) = 400 then some (Sum.inl (x5, I)) else ((f_X12_hour I).bind fun v5 => f_X12_soon_l53 x2 x3 k x5 (x5 + 1) v5)) else (if (I 166 61) = 400 then some (Sum.inl (x4, I)) else ((f_X12_hour I).bind fun v3 => f_X12_soon_l53 x2 x3 k x4 (x5 + 1) v3))))))
set_option maxHeartbeats 4000000 in
set_option maxRecDepth 100000 in
theorem v_X12_soon_l53 {lc : bm_L} {d n : Nat} {Q : Option Value → bm_M → Prop} {R : bm_TR} {J : bm_TJ} {W : bm_TR} {x2 : Int32} {x3 : Int32} (hN : 181 ≤ n) (hR : bm_RR R) : ∀ (k : Nat) (x4 : Int32) (x5 : Int32) (I : bm_TI) (r : ((Int32 × bm_TI) ⊕ (Int32 × bm_TI))), f_X12_soon_l53 x2 x3 k x4 x5 I = some r → (∀ yy, (Sum.inl yy) = r → bm_V lc m_X12_soon (d + 9) n n n 93 [(0, .ref 164), (4, .int yy.1)] [] (yy.2, J, R, W) Q) → (∀ yy, (Sum.inr yy) = r → bm_V lc m_X12_soon (d + 9) n n n 106 [(0, .ref 164), (4, .int yy.1)] [] (yy.2, J, R, W) Q) → bm_V lc m_X12_soon (d + 9) n n n 53 [(0, .ref 164), (2, .int x2), (3, .int x3), (4, .int x4), (5, .int x5)] [] (I, J, R, W) Q := by
  intro k
  induction k with
  | zero => intro x4 x5 I r h; cases (show (none : Option (((Int32 × bm_TI) ⊕ (Int32 × bm_TI)))) = some r from h)
  | succ k ih =>
    intro x4 x5 I r h K0 K1
    unfold f_X12_soon_l53 at h
    refine bv_iload dX12_soon_53 4 rfl ?_
    refine bv_bipush (v := 20) dX12_soon_55 (by decide) ?_
    refine bv_icmp_gt (tgt := 106) dX12_soon_57 (by decide) (fun cc => ?_) (fun cc => ?_)
    · replace h := bu_t h cc
      refine bw_ls (ls1 := [(0, .ref 164), (4, .int x4)]) [0, 3] rfl ?_
      obtain rfl := Option.some.inj h
      exact K1 _ rfl
    · replace h := bu_f h cc
      refine bv_iload dX12_soon_60 3 rfl ?_
      refine bv_if_ge (tgt := 106) dX12_soon_62 (by decide) (fun cc => ?_) (fun cc => ?_)
      · replace h := bu_t h cc
        refine bw_ls (ls1 := [(0, .ref 164), (4, .int x4)]) [0, 3] rfl ?_
        obtain rfl := Option.some.inj h
        exact K1 _ rfl
      · replace h := bu_f h cc
        refine bv_aload_n dX12_soon_65 0 rfl ?_
        refine bv_iload_n dX12_soon_66 1 rfl ?_
        obtain ⟨v1, p2, h⟩ := bu_bd h
        refine bw_callV (As := [.int x2]) hN okL_164 ⟨_, _, rfl⟩ dX12_soon_67 mc_12_313 (c_X12_havers (d := d + 8) hN hR p2) rfl rfl (by decide) ?_
        refine bv_iload_n dX12_soon_70 2 rfl ?_
        refine bv_iand dX12_soon_71 ?_
        refine bv_iload_n dX12_soon_72 2 rfl ?_
        refine bv_icmp_ne (tgt := 80) dX12_soon_73 (by decide) (fun cc => ?_) (fun cc => ?_)
        · replace h := bu_f h cc
          refine bv_aload_n dX12_soon_80 0 rfl ?_
          refine bz_getA (a := 166) hN okL_164 (hR _ _ _ r0_164_6) dX12_soon_81 fl_12_33 rfl ?_
          refine bv_bipush (v := 61) dX12_soon_84 (by decide) ?_
          refine bz_iald (j := 61) hN rkL_166 (bm_ix_in (by decide)) (by decide) dX12_soon_86 ?_
          refine bv_sipush (v := 400) dX12_soon_87 (by decide) ?_
          refine bv_icmp_ne (tgt := 96) dX12_soon_90 (by decide) (fun cc => ?_) (fun cc => ?_)
          · replace h := bu_f h cc
            refine bv_aload_n dX12_soon_96 0 rfl ?_
            obtain ⟨v3, p4, h⟩ := bu_bd h
            refine bw_callVv (As := []) hN okL_164 ⟨_, _, rfl⟩ dX12_soon_97 mc_12_335 (c_X12_hour (d := d + 0) hN hR p4) rfl rfl (by decide) ?_
            refine bv_iinc (j := 4) (v := (x5 + 1)) (ls1 := [(0, .ref 164), (2, .int x2), (3, .int x3), (4, .int x4), (5, .int (x5 + 1))]) dX12_soon_100 rfl rfl (by decide) rfl rfl ?_
            refine bv_goto (tgt := 53) dX12_soon_103 (by decide) ?_
            exact ih _ _ _ _ h K0 K1
          · replace h := bu_t h cc
            refine bw_ls (ls1 := [(0, .ref 164), (4, .int x4)]) [0, 3] rfl ?_
            obtain rfl := Option.some.inj h
            exact K0 _ rfl
        · replace h := bu_t h cc
          refine bv_iload dX12_soon_76 4 rfl ?_
          refine bv_istore (ls1 := [(0, .ref 164), (2, .int x2), (3, .int x3), (4, .int x5), (5, .int x5)]) dX12_soon_78 (by decide) rfl rfl ?_
          refine bv_aload_n dX12_soon_80 0 rfl ?_
          refine bz_getA (a := 166) hN okL_164 (hR _ _ _ r0_164_6) dX12_soon_81 fl_12_33 rfl ?_
          refine bv_bipush (v := 61) dX12_soon_84 (by decide) ?_
          refine bz_iald (j := 61) hN rkL_166 (bm_ix_in (by decide)) (by decide) dX12_soon_86 ?_
          refine bv_sipush (v := 400) dX12_soon_87 (by decide) ?_
          refine bv_icmp_ne (tgt := 96) dX12_soon_90 (by decide) (fun cc => ?_) (fun cc => ?_)
          · replace h := bu_f h cc
            refine bv_aload_n dX12_soon_96 0 rfl ?_
            obtain ⟨v5, p6, h⟩ := bu_bd h
            refine bw_callVv (As := []) hN okL_164 ⟨_, _, rfl⟩ dX12_soon_97 mc_12_335 (c_X12_hour (d := d + 0) hN hR p6) rfl rfl (by decide) ?_
            refine bv_iinc (j := 4) (v := (x5 + 1)) (ls1 := [(0, .ref 164), (2, .int x2), (3, .int x3), (4, .int x5), (5, .int (x5 + 1))]) dX12_soon_100 rfl rfl (by decide) rfl rfl ?_
            refine bv_goto (tgt := 53) dX12_soon_103 (by decide) ?_
            exact ih _ _ _ _ h K0 K1
          · replace h := bu_t h cc
            refine bw_ls (ls1 := [(0, .ref 164), (4, .int x5)]) [0, 3] rfl ?_
            obtain rfl := Option.some.inj h
            exact K0 _ rfl
def f_X12_soon (I : bm_TI) (x1 : Int32) (x2 : Int32) : Option (Int32 × bm_TI) := ((f_X12_isMan (bm_uI I 164 0 0) x1).bind fun v1 => (if v1 = true then ((f_X12_isOrder (bm_uI I 164 0 0) x2).bind fun v3 => (if v3 = true then ((f_X12_browOf (bm_uI I 164 0 0) x1).bind fun v5 => (if v5 = 0 then some ((-1), (bm_uI I 164 0 0)) else ((f_X12_allUnder (bm_uI I 164 0 0) x1).bind fun v7 => ((f_X12_tries (bm_uI I 164 0 0)).bind fun v9 => ((f_X12_gives v9 x1 x2).bind fun v11 => ((f_X12_soon_l53 x2 v7 1000 (-1) 0 v11).bind fun rr => match rr with | (Sum.inl y15) => ((f_X12_back y15.2).bind fun v16 => some (y15.1, v16)) | (Sum.inr y15) => ((f_X12_back y15.2).bind fun v18 => some (y15.1, v18)))))))) else some ((-1), (bm_uI I 164 0 0)))) else some ((-1), (bm_uI I 164 0 0))))
set_option maxHeartbeats 4000000 in
set_option maxRecDepth 100000 in
theorem c_X12_soon {lc : bm_L} {d n : Nat} {I : bm_TI} {J : bm_TJ} {R W : bm_TR} {x1 : Int32} {x2 : Int32} {v : Int32 × bm_TI} (hN : 181 ≤ n) (hR : bm_RR R) (h : f_X12_soon I x1 x2 = some v) : bm_C lc m_X12_soon (d + 9) n n [.ref 164, .int x1, .int x2] (I, J, R, W) (fun r M' => r = some (.int v.1) ∧ M' = (v.2, J, R, W)) := by
  refine bm_C.ofV (by decide) (Nat.le_of_ble_eq_true rfl) ?_
  show bm_V lc m_X12_soon (d + 9) n n n 0 [(0, .ref 164), (1, .int x1), (2, .int x2)] [] (I, J, R, W) _
  unfold f_X12_soon at h
  refine bv_aload_n dX12_soon_0 0 rfl ?_
  refine bv_iconst (v := 0) dX12_soon_1 (by decide) ?_
  refine bz_putI hN okL_164 dX12_soon_2 fl_12_1 rfl ?_
  refine bv_aload_n dX12_soon_5 0 rfl ?_
  refine bv_iload_n dX12_soon_6 1 rfl ?_
  obtain ⟨v1, p2, h⟩ := bu_bd h
  refine bw_callV (As := [.int x1]) hN okL_164 ⟨_, _, rfl⟩ dX12_soon_7 mc_12_303 (c_X12_isMan (d := d + 7) hN hR p2) rfl rfl (by decide) ?_
  refine bw_ifB_eq (b := v1) (tgt := 29) dX12_soon_10 (by decide) (fun cc => ?_) (fun cc => ?_)
  · replace h := bu_bf h cc
    refine bv_iconst (v := (-1)) dX12_soon_29 (by decide) ?_
    obtain rfl := Option.some.inj h
    exact bv_iret (x := (-1)) dX12_soon_30 rfl ⟨rfl, rfl⟩
  · replace h := bu_bt h cc
    refine bv_aload_n dX12_soon_13 0 rfl ?_
    refine bv_iload_n dX12_soon_14 2 rfl ?_
    obtain ⟨v3, p4, h⟩ := bu_bd h
    refine bw_callV (As := [.int x2]) hN okL_164 ⟨_, _, rfl⟩ dX12_soon_15 mc_12_310 (c_X12_isOrder (d := d + 7) hN hR p4) rfl rfl (by decide) ?_
    refine bw_ifB_eq (b := v3) (tgt := 29) dX12_soon_18 (by decide) (fun cc => ?_) (fun cc => ?_)
    · replace h := bu_bf h cc
      refine bv_iconst (v := (-1)) dX12_soon_29 (by decide) ?_
      obtain rfl := Option.some.inj h
      exact bv_iret (x := (-1)) dX12_soon_30 rfl ⟨rfl, rfl⟩
    · replace h := bu_bt h cc
      refine bv_aload_n dX12_soon_21 0 rfl ?_
      refine bv_iload_n dX12_soon_22 1 rfl ?_
      obtain ⟨v5, p6, h⟩ := bu_bd h
      refine bw_callV (As := [.int x1]) hN okL_164 ⟨_, _, rfl⟩ dX12_soon_23 mc_12_290 (c_X12_browOf (d := d + 7) hN hR p6) rfl rfl (by decide) ?_
      refine bv_if_ne (tgt := 31) dX12_soon_26 (by decide) (fun cc => ?_) (fun cc => ?_)
      · replace h := bu_f h cc
        refine bv_aload_n dX12_soon_31 0 rfl ?_
        refine bv_iload_n dX12_soon_32 1 rfl ?_
        obtain ⟨v7, p8, h⟩ := bu_bd h
        refine bw_callV (As := [.int x1]) hN okL_164 ⟨_, _, rfl⟩ dX12_soon_33 mc_12_375 (c_X12_allUnder (d := d + 8) hN hR p8) rfl rfl (by decide) ?_
        refine bv_istore_n (ls1 := [(0, .ref 164), (1, .int x1), (2, .int x2), (3, .int v7)]) dX12_soon_36 (by decide) rfl rfl ?_
        refine bv_aload_n dX12_soon_37 0 rfl ?_
        obtain ⟨v9, p10, h⟩ := bu_bd h
        refine bw_callVv (As := []) hN okL_164 ⟨_, _, rfl⟩ dX12_soon_38 mc_12_366 (c_X12_tries (d := d + 8) hN hR p10) rfl rfl (by decide) ?_
        refine bv_aload_n dX12_soon_41 0 rfl ?_
        refine bv_iload_n dX12_soon_42 1 rfl ?_
        refine bv_iload_n dX12_soon_43 2 rfl ?_
        obtain ⟨v11, p12, h⟩ := bu_bd h
        refine bw_callVv (As := [.int x1, .int x2]) hN okL_164 ⟨_, _, rfl⟩ dX12_soon_44 mc_12_332 (c_X12_gives (d := d + 1) hN hR p12) rfl rfl (by decide) ?_
        refine bv_iconst (v := (-1)) dX12_soon_47 (by decide) ?_
        refine bv_istore (ls1 := [(0, .ref 164), (1, .int x1), (2, .int x2), (3, .int v7), (4, .int (-1))]) dX12_soon_48 (by decide) rfl rfl ?_
        refine bv_iconst (v := 0) dX12_soon_50 (by decide) ?_
        refine bv_istore (ls1 := [(0, .ref 164), (1, .int x1), (2, .int x2), (3, .int v7), (4, .int (-1)), (5, .int 0)]) dX12_soon_51 (by decide) rfl rfl ?_
        refine bw_ls (ls1 := [(0, .ref 164), (2, .int x2), (3, .int v7), (4, .int (-1)), (5, .int 0)]) [0, 2, 3, 4, 5] rfl ?_
        obtain ⟨r13, p14, h⟩ := bu_bd h
        refine v_X12_soon_l53 hN hR 1000 _ _ _ _ p14 (fun y15 hy => ?_) (fun y15 hy => ?_)
        · subst hy
          refine bv_goto (tgt := 106) dX12_soon_93 (by decide) ?_
          refine bv_aload_n dX12_soon_106 0 rfl ?_
          obtain ⟨v16, p17, h⟩ := bu_bd h
          refine bw_callVv (As := []) hN okL_164 ⟨_, _, rfl⟩ dX12_soon_107 mc_12_369 (c_X12_back (d := d + 8) hN hR p17) rfl rfl (by decide) ?_
          refine bv_iload dX12_soon_110 1 rfl ?_
          obtain rfl := Option.some.inj h
          exact bv_iret (x := y15.1) dX12_soon_112 rfl ⟨rfl, rfl⟩
        · subst hy
          refine bv_aload_n dX12_soon_106 0 rfl ?_
          obtain ⟨v18, p19, h⟩ := bu_bd h
          refine bw_callVv (As := []) hN okL_164 ⟨_, _, rfl⟩ dX12_soon_107 mc_12_369 (c_X12_back (d := d + 8) hN hR p19) rfl rfl (by decide) ?_
          refine bv_iload dX12_soon_110 1 rfl ?_
          obtain rfl := Option.some.inj h
          exact bv_iret (x := y15.1) dX12_soon_112 rfl ⟨rfl, rfl⟩
      · replace h := bu_t h cc
        refine bv_iconst (v := (-1)) dX12_soon_29 (by decide) ?_
        obtain rfl := Option.some.inj h
        exact bv_iret (x := (-1)) dX12_soon_30 rfl ⟨rfl, rfl⟩
def f_X12_best_l22 (x1 : Int32) : Nat → Int32 → Int32 → Int32 → bm_TI → Option (Int32 × bm_TI)
  | 0, _, _, _, _ => none
  | k + 1, x2, x3, x4, I => (if (I 166 0) ≤ x4 then some (x2, I) else ((f_X12_browOf I x4).bind fun v1 => (if v1 = 0 then f_X12_best_l22 x1 k x2 x3 (x4 + 1) I else ((f_X12_reachOf I x4 x1).bind fun v3 => ((f_X12_bits v3.1).bind fun v5 => (if x3 < v5 then f_X12_best_l22 x1 k x4 v5 (x4 + 1) v3.2 else f_X12_best_l22 x1 k x2 x3 (x4 + 1) v3.2))))))
set_option maxHeartbeats 4000000 in
set_option maxRecDepth 100000 in
theorem v_X12_best_l22 {lc : bm_L} {d n : Nat} {Q : Option Value → bm_M → Prop} {R : bm_TR} {J : bm_TJ} {W : bm_TR} {x1 : Int32} (hN : 181 ≤ n) (hR : bm_RR R) : ∀ (k : Nat) (x2 : Int32) (x3 : Int32) (x4 : Int32) (I : bm_TI) (r : Int32 × bm_TI), f_X12_best_l22 x1 k x2 x3 x4 I = some r → (∀ yy, yy = r → bm_V lc m_X12_best (d + 11) n n n 78 [(2, .int yy.1)] [] (yy.2, J, R, W) Q) → bm_V lc m_X12_best (d + 11) n n n 22 [(0, .ref 164), (1, .int x1), (2, .int x2), (3, .int x3), (4, .int x4)] [] (I, J, R, W) Q := by
  intro k
  induction k with
  | zero => intro x2 x3 x4 I r h; cases (show (none : Option (Int32 × bm_TI)) = some r from h)
  | succ k ih =>
    intro x2 x3 x4 I r h K0
    unfold f_X12_best_l22 at h
    refine bv_iload dX12_best_22 4 rfl ?_
    refine bv_aload_n dX12_best_24 0 rfl ?_
    refine bz_getA (a := 166) hN okL_164 (hR _ _ _ r0_164_6) dX12_best_25 fl_12_33 rfl ?_
    refine bv_iconst (v := 0) dX12_best_28 (by decide) ?_
    refine bz_iald (j := 0) hN rkL_166 (bm_ix_in (by decide)) (by decide) dX12_best_29 ?_
    refine bv_icmp_ge (tgt := 78) dX12_best_30 (by decide) (fun cc => ?_) (fun cc => ?_)
    · replace h := bu_t h cc
      refine bw_ls (ls1 := [(2, .int x2)]) [2] rfl ?_
      obtain rfl := Option.some.inj h
      exact K0 _ rfl
    · replace h := bu_f h cc
      refine bv_aload_n dX12_best_33 0 rfl ?_
      refine bv_iload dX12_best_34 4 rfl ?_
      obtain ⟨v1, p2, h⟩ := bu_bd h
      refine bw_callV (As := [.int x4]) hN okL_164 ⟨_, _, rfl⟩ dX12_best_36 mc_12_290 (c_X12_browOf (d := d + 9) hN hR p2) rfl rfl (by decide) ?_
      refine bv_if_ne (tgt := 45) dX12_best_39 (by decide) (fun cc => ?_) (fun cc => ?_)
      · replace h := bu_f h cc
        refine bv_aload_n dX12_best_45 0 rfl ?_
        refine bv_iload dX12_best_46 4 rfl ?_
        refine bv_iload_n dX12_best_48 1 rfl ?_
        obtain ⟨v3, p4, h⟩ := bu_bd h
        refine bw_callV (As := [.int x4, .int x1]) hN okL_164 ⟨_, _, rfl⟩ dX12_best_49 mc_12_372 (c_X12_reachOf (d := d + 0) hN hR p4) rfl rfl (by decide) ?_
        obtain ⟨v5, p6, h⟩ := bu_bd h
        refine bw_callS (As := [.int v3.1]) dX12_best_52 mc_12_378 (c_X12_bits (d := d + 10) hN hR p6) rfl rfl (by decide) ?_
        refine bv_istore (ls1 := [(0, .ref 164), (1, .int x1), (2, .int x2), (3, .int x3), (4, .int x4), (5, .int v5)]) dX12_best_55 (by decide) rfl rfl ?_
        refine bv_iload dX12_best_57 5 rfl ?_
        refine bv_iload_n dX12_best_59 3 rfl ?_
        refine bv_icmp_gt (tgt := 66) dX12_best_60 (by decide) (fun cc => ?_) (fun cc => ?_)
        · replace h := bu_t h cc
          refine bv_iload dX12_best_66 5 rfl ?_
          refine bv_istore_n (ls1 := [(0, .ref 164), (1, .int x1), (2, .int x2), (3, .int v5), (4, .int x4), (5, .int v5)]) dX12_best_68 (by decide) rfl rfl ?_
          refine bv_iload dX12_best_69 4 rfl ?_
          refine bv_istore_n (ls1 := [(0, .ref 164), (1, .int x1), (2, .int x4), (3, .int v5), (4, .int x4), (5, .int v5)]) dX12_best_71 (by decide) rfl rfl ?_
          refine bv_iinc (j := 4) (v := (x4 + 1)) (ls1 := [(0, .ref 164), (1, .int x1), (2, .int x4), (3, .int v5), (4, .int (x4 + 1)), (5, .int v5)]) dX12_best_72 rfl rfl (by decide) rfl rfl ?_
          refine bv_goto (tgt := 22) dX12_best_75 (by decide) ?_
          refine bw_ls (ls1 := [(0, .ref 164), (1, .int x1), (2, .int x4), (3, .int v5), (4, .int (x4 + 1))]) [0, 1, 2, 3, 4] rfl ?_
          exact ih _ _ _ _ _ h K0
        · replace h := bu_f h cc
          refine bv_goto (tgt := 72) dX12_best_63 (by decide) ?_
          refine bv_iinc (j := 4) (v := (x4 + 1)) (ls1 := [(0, .ref 164), (1, .int x1), (2, .int x2), (3, .int x3), (4, .int (x4 + 1)), (5, .int v5)]) dX12_best_72 rfl rfl (by decide) rfl rfl ?_
          refine bv_goto (tgt := 22) dX12_best_75 (by decide) ?_
          refine bw_ls (ls1 := [(0, .ref 164), (1, .int x1), (2, .int x2), (3, .int x3), (4, .int (x4 + 1))]) [0, 1, 2, 3, 4] rfl ?_
          exact ih _ _ _ _ _ h K0
      · replace h := bu_t h cc
        refine bv_goto (tgt := 72) dX12_best_42 (by decide) ?_
        refine bv_iinc (j := 4) (v := (x4 + 1)) (ls1 := [(0, .ref 164), (1, .int x1), (2, .int x2), (3, .int x3), (4, .int (x4 + 1))]) dX12_best_72 rfl rfl (by decide) rfl rfl ?_
        refine bv_goto (tgt := 22) dX12_best_75 (by decide) ?_
        exact ih _ _ _ _ _ h K0
def f_X12_best (I : bm_TI) (x1 : Int32) : Option (Int32 × bm_TI) := ((f_X12_isOrder (bm_uI I 164 0 0) x1).bind fun v1 => (if v1 = true then ((f_X12_best_l22 x1 1000 (-1) (-1) 0 (bm_uI I 164 0 0)).bind fun y5 => some (y5.1, y5.2)) else some ((-1), (bm_uI I 164 0 0))))
set_option maxHeartbeats 4000000 in
set_option maxRecDepth 100000 in
theorem c_X12_best {lc : bm_L} {d n : Nat} {I : bm_TI} {J : bm_TJ} {R W : bm_TR} {x1 : Int32} {v : Int32 × bm_TI} (hN : 181 ≤ n) (hR : bm_RR R) (h : f_X12_best I x1 = some v) : bm_C lc m_X12_best (d + 11) n n [.ref 164, .int x1] (I, J, R, W) (fun r M' => r = some (.int v.1) ∧ M' = (v.2, J, R, W)) := by
  refine bm_C.ofV (by decide) (Nat.le_of_ble_eq_true rfl) ?_
  show bm_V lc m_X12_best (d + 11) n n n 0 [(0, .ref 164), (1, .int x1)] [] (I, J, R, W) _
  unfold f_X12_best at h
  refine bv_aload_n dX12_best_0 0 rfl ?_
  refine bv_iconst (v := 0) dX12_best_1 (by decide) ?_
  refine bz_putI hN okL_164 dX12_best_2 fl_12_1 rfl ?_
  refine bv_aload_n dX12_best_5 0 rfl ?_
  refine bv_iload_n dX12_best_6 1 rfl ?_
  obtain ⟨v1, p2, h⟩ := bu_bd h
  refine bw_callV (As := [.int x1]) hN okL_164 ⟨_, _, rfl⟩ dX12_best_7 mc_12_310 (c_X12_isOrder (d := d + 9) hN hR p2) rfl rfl (by decide) ?_
  refine bw_ifB_ne (b := v1) (tgt := 15) dX12_best_10 (by decide) (fun cc => ?_) (fun cc => ?_)
  · replace h := bu_bt h cc
    refine bv_iconst (v := (-1)) dX12_best_15 (by decide) ?_
    refine bv_istore_n (ls1 := [(0, .ref 164), (1, .int x1), (2, .int (-1))]) dX12_best_16 (by decide) rfl rfl ?_
    refine bv_iconst (v := (-1)) dX12_best_17 (by decide) ?_
    refine bv_istore_n (ls1 := [(0, .ref 164), (1, .int x1), (2, .int (-1)), (3, .int (-1))]) dX12_best_18 (by decide) rfl rfl ?_
    refine bv_iconst (v := 0) dX12_best_19 (by decide) ?_
    refine bv_istore (ls1 := [(0, .ref 164), (1, .int x1), (2, .int (-1)), (3, .int (-1)), (4, .int 0)]) dX12_best_20 (by decide) rfl rfl ?_
    obtain ⟨r3, p4, h⟩ := bu_bd h
    refine v_X12_best_l22 hN hR 1000 _ _ _ _ _ p4 (fun y5 hy => ?_)
    · subst hy
      refine bv_iload_n dX12_best_78 0 rfl ?_
      obtain rfl := Option.some.inj h
      exact bv_iret (x := y5.1) dX12_best_79 rfl ⟨rfl, rfl⟩
  · replace h := bu_bf h cc
    refine bv_iconst (v := (-1)) dX12_best_13 (by decide) ?_
    obtain rfl := Option.some.inj h
    exact bv_iret (x := (-1)) dX12_best_14 rfl ⟨rfl, rfl⟩
def f_X12_seersAt_l6 (I : bm_TI) (x1 : Int32) (x2 : Int32) (x3 : Int32) : Nat → Int32 → Int32 → Option (Int32)
  | 0, _, _ => none
  | k + 1, x4, x5 => (if (I 166 0) ≤ x5 then some x4 else (if bm_ix 287 (31 + x5) = true then (if (I 166 (31 + x5).toNatClampNeg) = (x1 + 1) then ((f_X12_browOf I x1).bind fun v2 => (if bm_ix 287 (66 + x5) = true then (if bm_ix 287 (74 + x5) = true then ((f_X12_isShown I v2 x2 x3 (I 166 (66 + x5).toNatClampNeg) (I 166 (74 + x5).toNatClampNeg)).bind fun v6 => (if v6 = true then f_X12_seersAt_l6 I x1 x2 x3 k (x4 + 1) (x5 + 1) else f_X12_seersAt_l6 I x1 x2 x3 k (x4 + 0) (x5 + 1))) else none) else none)) else f_X12_seersAt_l6 I x1 x2 x3 k (x4 + 0) (x5 + 1)) else none))
set_option maxHeartbeats 4000000 in
set_option maxRecDepth 100000 in
theorem v_X12_seersAt_l6 {lc : bm_L} {d n : Nat} {Q : Option Value → bm_M → Prop} {R : bm_TR} {I : bm_TI} {J : bm_TJ} {W : bm_TR} {x1 : Int32} {x2 : Int32} {x3 : Int32} (hN : 181 ≤ n) (hR : bm_RR R) : ∀ (k : Nat) (x4 : Int32) (x5 : Int32) (r : Int32), f_X12_seersAt_l6 I x1 x2 x3 k x4 x5 = some r → (∀ yy, yy = r → bm_V lc m_X12_seersAt (d + 3) n n n 83 [(4, .int yy)] [] (I, J, R, W) Q) → bm_V lc m_X12_seersAt (d + 3) n n n 6 [(0, .ref 164), (1, .int x1), (2, .int x2), (3, .int x3), (4, .int x4), (5, .int x5)] [] (I, J, R, W) Q := by
  intro k
  induction k with
  | zero => intro x4 x5 r h; cases (show (none : Option (Int32)) = some r from h)
  | succ k ih =>
    intro x4 x5 r h K0
    unfold f_X12_seersAt_l6 at h
    refine bv_iload dX12_seersAt_6 5 rfl ?_
    refine bv_aload_n dX12_seersAt_8 0 rfl ?_
    refine bz_getA (a := 166) hN okL_164 (hR _ _ _ r0_164_6) dX12_seersAt_9 fl_12_33 rfl ?_
    refine bv_iconst (v := 0) dX12_seersAt_12 (by decide) ?_
    refine bz_iald (j := 0) hN rkL_166 (bm_ix_in (by decide)) (by decide) dX12_seersAt_13 ?_
    refine bv_icmp_ge (tgt := 83) dX12_seersAt_14 (by decide) (fun cc => ?_) (fun cc => ?_)
    · replace h := bu_t h cc
      refine bw_ls (ls1 := [(4, .int x4)]) [4] rfl ?_
      obtain rfl := Option.some.inj h
      exact K0 _ rfl
    · replace h := bu_f h cc
      refine bv_iload dX12_seersAt_17 4 rfl ?_
      refine bv_aload_n dX12_seersAt_19 0 rfl ?_
      refine bz_getA (a := 166) hN okL_164 (hR _ _ _ r0_164_6) dX12_seersAt_20 fl_12_33 rfl ?_
      refine bv_bipush (v := 31) dX12_seersAt_23 (by decide) ?_
      refine bv_iload dX12_seersAt_25 5 rfl ?_
      refine bv_iadd dX12_seersAt_27 ?_
      obtain ⟨r1, h⟩ := bu_ix h
      refine bz_iald hN rkL_166 r1 rfl dX12_seersAt_28 ?_
      refine bv_iload_n dX12_seersAt_29 1 rfl ?_
      refine bv_iconst (v := 1) dX12_seersAt_30 (by decide) ?_
      refine bv_iadd dX12_seersAt_31 ?_
      refine bv_icmp_ne (tgt := 73) dX12_seersAt_32 (by decide) (fun cc => ?_) (fun cc => ?_)
      · replace h := bu_f h cc
        refine bv_iconst (v := 0) dX12_seersAt_73 (by decide) ?_
        refine bv_iadd dX12_seersAt_74 ?_
        refine bv_istore (ls1 := [(0, .ref 164), (1, .int x1), (2, .int x2), (3, .int x3), (4, .int (x4 + 0)), (5, .int x5)]) dX12_seersAt_75 (by decide) rfl rfl ?_
        refine bv_iinc (j := 5) (v := (x5 + 1)) (ls1 := [(0, .ref 164), (1, .int x1), (2, .int x2), (3, .int x3), (4, .int (x4 + 0)), (5, .int (x5 + 1))]) dX12_seersAt_77 rfl rfl (by decide) rfl rfl ?_
        refine bv_goto (tgt := 6) dX12_seersAt_80 (by decide) ?_
        exact ih _ _ _ h K0
      · replace h := bu_t h cc
        refine bv_aload_n dX12_seersAt_35 0 rfl ?_
        refine bv_aload_n dX12_seersAt_36 0 rfl ?_
        refine bv_iload_n dX12_seersAt_37 1 rfl ?_
        obtain ⟨v2, p3, h⟩ := bu_bd h
        refine bw_callV (As := [.int x1]) hN okL_164 ⟨_, _, rfl⟩ dX12_seersAt_38 mc_12_290 (c_X12_browOf (d := d + 1) hN hR p3) rfl rfl (Nat.le_of_ble_eq_true rfl) ?_
        refine bv_iload_n dX12_seersAt_41 2 rfl ?_
        refine bv_iload_n dX12_seersAt_42 3 rfl ?_
        refine bv_aload_n dX12_seersAt_43 0 rfl ?_
        refine bz_getA (a := 166) hN okL_164 (hR _ _ _ r0_164_6) dX12_seersAt_44 fl_12_33 rfl ?_
        refine bv_bipush (v := 66) dX12_seersAt_47 (by decide) ?_
        refine bv_iload dX12_seersAt_49 5 rfl ?_
        refine bv_iadd dX12_seersAt_51 ?_
        obtain ⟨r4, h⟩ := bu_ix h
        refine bz_iald hN rkL_166 r4 rfl dX12_seersAt_52 ?_
        refine bv_aload_n dX12_seersAt_53 0 rfl ?_
        refine bz_getA (a := 166) hN okL_164 (hR _ _ _ r0_164_6) dX12_seersAt_54 fl_12_33 rfl ?_
        refine bv_bipush (v := 74) dX12_seersAt_57 (by decide) ?_
        refine bv_iload dX12_seersAt_59 5 rfl ?_
        refine bv_iadd dX12_seersAt_61 ?_
        obtain ⟨r5, h⟩ := bu_ix h
        refine bz_iald hN rkL_166 r5 rfl dX12_seersAt_62 ?_
        obtain ⟨v6, p7, h⟩ := bu_bd h
        refine bw_callV (As := [.int v2, .int x2, .int x3, .int (I 166 (66 + x5).toNatClampNeg), .int (I 166 (74 + x5).toNatClampNeg)]) hN okL_164 ⟨_, _, rfl⟩ dX12_seersAt_63 mc_12_293 (c_X12_isShown (d := d + 0) hN hR p7) rfl rfl (Nat.le_of_ble_eq_true rfl) ?_
        refine bw_ifB_eq (b := v6) (tgt := 73) dX12_seersAt_66 (by decide) (fun cc => ?_) (fun cc => ?_)
        · replace h := bu_bf h cc
          refine bv_iconst (v := 0) dX12_seersAt_73 (by decide) ?_
          refine bv_iadd dX12_seersAt_74 ?_
          refine bv_istore (ls1 := [(0, .ref 164), (1, .int x1), (2, .int x2), (3, .int x3), (4, .int (x4 + 0)), (5, .int x5)]) dX12_seersAt_75 (by decide) rfl rfl ?_
          refine bv_iinc (j := 5) (v := (x5 + 1)) (ls1 := [(0, .ref 164), (1, .int x1), (2, .int x2), (3, .int x3), (4, .int (x4 + 0)), (5, .int (x5 + 1))]) dX12_seersAt_77 rfl rfl (by decide) rfl rfl ?_
          refine bv_goto (tgt := 6) dX12_seersAt_80 (by decide) ?_
          exact ih _ _ _ h K0
        · replace h := bu_bt h cc
          refine bv_iconst (v := 1) dX12_seersAt_69 (by decide) ?_
          refine bv_goto (tgt := 74) dX12_seersAt_70 (by decide) ?_
          refine bv_iadd dX12_seersAt_74 ?_
          refine bv_istore (ls1 := [(0, .ref 164), (1, .int x1), (2, .int x2), (3, .int x3), (4, .int (x4 + 1)), (5, .int x5)]) dX12_seersAt_75 (by decide) rfl rfl ?_
          refine bv_iinc (j := 5) (v := (x5 + 1)) (ls1 := [(0, .ref 164), (1, .int x1), (2, .int x2), (3, .int x3), (4, .int (x4 + 1)), (5, .int (x5 + 1))]) dX12_seersAt_77 rfl rfl (by decide) rfl rfl ?_
          refine bv_goto (tgt := 6) dX12_seersAt_80 (by decide) ?_
          exact ih _ _ _ h K0
def f_X12_seersAt (I : bm_TI) (x1 : Int32) (x2 : Int32) (x3 : Int32) : Option (Int32) := ((f_X12_seersAt_l6 I x1 x2 x3 1000 0 0).bind fun y3 => some y3)
set_option maxHeartbeats 4000000 in
set_option maxRecDepth 100000 in
theorem c_X12_seersAt {lc : bm_L} {d n : Nat} {I : bm_TI} {J : bm_TJ} {R W : bm_TR} {x1 : Int32} {x2 : Int32} {x3 : Int32} {v : Int32} (hN : 181 ≤ n) (hR : bm_RR R) (h : f_X12_seersAt I x1 x2 x3 = some v) : bm_C lc m_X12_seersAt (d + 3) n n [.ref 164, .int x1, .int x2, .int x3] (I, J, R, W) (fun r M' => r = some (.int v) ∧ M' = (I, J, R, W)) := by
  refine bm_C.ofV (by decide) (Nat.le_of_ble_eq_true rfl) ?_
  show bm_V lc m_X12_seersAt (d + 3) n n n 0 [(0, .ref 164), (1, .int x1), (2, .int x2), (3, .int x3)] [] (I, J, R, W) _
  unfold f_X12_seersAt at h
  refine bv_iconst (v := 0) dX12_seersAt_0 (by decide) ?_
  refine bv_istore (ls1 := [(0, .ref 164), (1, .int x1), (2, .int x2), (3, .int x3), (4, .int 0)]) dX12_seersAt_1 (by decide) rfl rfl ?_
  refine bv_iconst (v := 0) dX12_seersAt_3 (by decide) ?_
  refine bv_istore (ls1 := [(0, .ref 164), (1, .int x1), (2, .int x2), (3, .int x3), (4, .int 0), (5, .int 0)]) dX12_seersAt_4 (by decide) rfl rfl ?_
  obtain ⟨r1, p2, h⟩ := bu_bd h
  refine v_X12_seersAt_l6 hN hR 1000 _ _ _ p2 (fun y3 hy => ?_)
  · subst hy
    refine bv_iload dX12_seersAt_83 0 rfl ?_
    obtain rfl := Option.some.inj h
    exact bv_iret (x := y3) dX12_seersAt_85 rfl ⟨rfl, rfl⟩
def f_X12_stand_l34 (x1 : Int32) (x4 : Int32) : Nat → Int32 → Int32 → Int32 → bm_TI → Option (Int32 × Int32 × bm_TI)
  | 0, _, _, _, _ => none
  | k + 1, x2, x3, x5, I => (if 30 < x5 then some (x2, x3, I) else ((f_X12_seersAt I x1 x5 x4).bind fun v1 => (if bm_ix 287 (66 + x1) = true then (if bm_ix 287 (74 + x1) = true then (if v1 < x2 then f_X12_stand_l34 x1 x4 k x2 x3 (x5 + 1) I else (if v1 = x2 then (if (f_X12_farBy x5 x4 (I 166 (66 + x1).toNatClampNeg) (I 166 (74 + x1).toNatClampNeg)) < x3 then f_X12_stand_l34 x1 x4 k v1 (f_X12_farBy x5 x4 (I 166 (66 + x1).toNatClampNeg) (I 166 (74 + x1).toNatClampNeg)) (x5 + 1) (bm_uI (bm_uI I 164 25 x5) 164 26 x4) else f_X12_stand_l34 x1 x4 k x2 x3 (x5 + 1) I) else f_X12_stand_l34 x1 x4 k v1 (f_X12_farBy x5 x4 (I 166 (66 + x1).toNatClampNeg) (I 166 (74 + x1).toNatClampNeg)) (x5 + 1) (bm_uI (bm_uI I 164 25 x5) 164 26 x4))) else none) else none)))
set_option maxHeartbeats 4000000 in
set_option maxRecDepth 100000 in
theorem v_X12_stand_l34 {lc : bm_L} {d n : Nat} {Q : Option Value → bm_M → Prop} {R : bm_TR} {J : bm_TJ} {W : bm_TR} {x1 : Int32} {x4 : Int32} (hN : 181 ≤ n) (hR : bm_RR R) : ∀ (k : Nat) (x2 : Int32) (x3 : Int32) (x5 : Int32) (I : bm_TI) (r : Int32 × Int32 × bm_TI), f_X12_stand_l34 x1 x4 k x2 x3 x5 I = some r → (∀ yy, yy = r → bm_V lc m_X12_stand (d + 4) n n n 124 [(0, .ref 164), (1, .int x1), (2, .int yy.1), (3, .int yy.2.1), (4, .int x4)] [] (yy.2.2, J, R, W) Q) → bm_V lc m_X12_stand (d + 4) n n n 34 [(0, .ref 164), (1, .int x1), (2, .int x2), (3, .int x3), (4, .int x4), (5, .int x5)] [] (I, J, R, W) Q := by
  intro k
  induction k with
  | zero => intro x2 x3 x5 I r h; cases (show (none : Option (Int32 × Int32 × bm_TI)) = some r from h)
  | succ k ih =>
    intro x2 x3 x5 I r h K0
    unfold f_X12_stand_l34 at h
    refine bv_iload dX12_stand_34 5 rfl ?_
    refine bv_bipush (v := 30) dX12_stand_36 (by decide) ?_
    refine bv_icmp_gt (tgt := 124) dX12_stand_38 (by decide) (fun cc => ?_) (fun cc => ?_)
    · replace h := bu_t h cc
      refine bw_ls (ls1 := [(0, .ref 164), (1, .int x1), (2, .int x2), (3, .int x3), (4, .int x4)]) [0, 1, 2, 3, 4] rfl ?_
      obtain rfl := Option.some.inj h
      exact K0 _ rfl
    · replace h := bu_f h cc
      refine bv_aload_n dX12_stand_41 0 rfl ?_
      refine bv_iload_n dX12_stand_42 1 rfl ?_
      refine bv_iload dX12_stand_43 5 rfl ?_
      refine bv_iload dX12_stand_45 4 rfl ?_
      obtain ⟨v1, p2, h⟩ := bu_bd h
      refine bw_callV (As := [.int x1, .int x5, .int x4]) hN okL_164 ⟨_, _, rfl⟩ dX12_stand_47 mc_12_382 (c_X12_seersAt (d := d + 0) hN hR p2) rfl rfl (by decide) ?_
      refine bv_istore (ls1 := [(0, .ref 164), (1, .int x1), (2, .int x2), (3, .int x3), (4, .int x4), (5, .int x5), (6, .int v1)]) dX12_stand_50 (by decide) rfl rfl ?_
      refine bv_iload dX12_stand_52 5 rfl ?_
      refine bv_iload dX12_stand_54 4 rfl ?_
      refine bv_aload_n dX12_stand_56 0 rfl ?_
      refine bz_getA (a := 166) hN okL_164 (hR _ _ _ r0_164_6) dX12_stand_57 fl_12_33 rfl ?_
      refine bv_bipush (v := 66) dX12_stand_60 (by decide) ?_
      refine bv_iload_n dX12_stand_62 1 rfl ?_
      refine bv_iadd dX12_stand_63 ?_
      obtain ⟨r3, h⟩ := bu_ix h
      refine bz_iald hN rkL_166 r3 rfl dX12_stand_64 ?_
      refine bv_aload_n dX12_stand_65 0 rfl ?_
      refine bz_getA (a := 166) hN okL_164 (hR _ _ _ r0_164_6) dX12_stand_66 fl_12_33 rfl ?_
      refine bv_bipush (v := 74) dX12_stand_69 (by decide) ?_
      refine bv_iload_n dX12_stand_71 1 rfl ?_
      refine bv_iadd dX12_stand_72 ?_
      obtain ⟨r4, h⟩ := bu_ix h
      refine bz_iald hN rkL_166 r4 rfl dX12_stand_73 ?_
      refine bw_callS (As := [.int x5, .int x4, .int (I 166 (66 + x1).toNatClampNeg), .int (I 166 (74 + x1).toNatClampNeg)]) dX12_stand_74 mc_12_286 (c_X12_farBy (d := d + 2) hN hR rfl) rfl rfl (by decide) ?_
      refine bv_istore (ls1 := [(0, .ref 164), (1, .int x1), (2, .int x2), (3, .int x3), (4, .int x4), (5, .int x5), (6, .int v1), (7, .int (f_X12_farBy x5 x4 (I 166 (66 + x1).toNatClampNeg) (I 166 (74 + x1).toNatClampNeg)))]) dX12_stand_77 (by decide) rfl rfl ?_
      refine bv_iload dX12_stand_79 6 rfl ?_
      refine bv_iload_n dX12_stand_81 2 rfl ?_
      refine bv_icmp_lt (tgt := 118) dX12_stand_82 (by decide) (fun cc => ?_) (fun cc => ?_)
      · replace h := bu_t h cc
        refine bv_iinc (j := 5) (v := (x5 + 1)) (ls1 := [(0, .ref 164), (1, .int x1), (2, .int x2), (3, .int x3), (4, .int x4), (5, .int (x5 + 1)), (6, .int v1), (7, .int (f_X12_farBy x5 x4 (I 166 (66 + x1).toNatClampNeg) (I 166 (74 + x1).toNatClampNeg)))]) dX12_stand_118 rfl rfl (by decide) rfl rfl ?_
        refine bv_goto (tgt := 34) dX12_stand_121 (by decide) ?_
        refine bw_ls (ls1 := [(0, .ref 164), (1, .int x1), (2, .int x2), (3, .int x3), (4, .int x4), (5, .int (x5 + 1))]) [0, 1, 2, 3, 4, 5] rfl ?_
        exact ih _ _ _ _ _ h K0
      · replace h := bu_f h cc
        refine bv_iload dX12_stand_85 6 rfl ?_
        refine bv_iload_n dX12_stand_87 2 rfl ?_
        refine bv_icmp_ne (tgt := 100) dX12_stand_88 (by decide) (fun cc => ?_) (fun cc => ?_)
        · replace h := bu_f h cc
          refine bv_iload dX12_stand_100 6 rfl ?_
          refine bv_istore_n (ls1 := [(0, .ref 164), (1, .int x1), (2, .int v1), (3, .int x3), (4, .int x4), (5, .int x5), (6, .int v1), (7, .int (f_X12_farBy x5 x4 (I 166 (66 + x1).toNatClampNeg) (I 166 (74 + x1).toNatClampNeg)))]) dX12_stand_102 (by decide) rfl rfl ?_
          refine bv_iload dX12_stand_103 7 rfl ?_
          refine bv_istore_n (ls1 := [(0, .ref 164), (1, .int x1), (2, .int v1), (3, .int (f_X12_farBy x5 x4 (I 166 (66 + x1).toNatClampNeg) (I 166 (74 + x1).toNatClampNeg))), (4, .int x4), (5, .int x5), (6, .int v1), (7, .int (f_X12_farBy x5 x4 (I 166 (66 + x1).toNatClampNeg) (I 166 (74 + x1).toNatClampNeg)))]) dX12_stand_105 (by decide) rfl rfl ?_
          refine bv_aload_n dX12_stand_106 0 rfl ?_
          refine bv_iload dX12_stand_107 5 rfl ?_
          refine bz_putI hN okL_164 dX12_stand_109 fl_12_59 rfl ?_
          refine bv_aload_n dX12_stand_112 0 rfl ?_
          refine bv_iload dX12_stand_113 4 rfl ?_
          refine bz_putI hN okL_164 dX12_stand_115 fl_12_62 rfl ?_
          refine bv_iinc (j := 5) (v := (x5 + 1)) (ls1 := [(0, .ref 164), (1, .int x1), (2, .int v1), (3, .int (f_X12_farBy x5 x4 (I 166 (66 + x1).toNatClampNeg) (I 166 (74 + x1).toNatClampNeg))), (4, .int x4), (5, .int (x5 + 1)), (6, .int v1), (7, .int (f_X12_farBy x5 x4 (I 166 (66 + x1).toNatClampNeg) (I 166 (74 + x1).toNatClampNeg)))]) dX12_stand_118 rfl rfl (by decide) rfl rfl ?_
          refine bv_goto (tgt := 34) dX12_stand_121 (by decide) ?_
          refine bw_ls (ls1 := [(0, .ref 164), (1, .int x1), (2, .int v1), (3, .int (f_X12_farBy x5 x4 (I 166 (66 + x1).toNatClampNeg) (I 166 (74 + x1).toNatClampNeg))), (4, .int x4), (5, .int (x5 + 1))]) [0, 1, 2, 3, 4, 5] rfl ?_
          exact ih _ _ _ _ _ h K0
        · replace h := bu_t h cc
          refine bv_iload dX12_stand_91 7 rfl ?_
          refine bv_iload_n dX12_stand_93 3 rfl ?_
          refine bv_icmp_lt (tgt := 100) dX12_stand_94 (by decide) (fun cc => ?_) (fun cc => ?_)
          · replace h := bu_t h cc
            refine bv_iload dX12_stand_100 6 rfl ?_
            refine bv_istore_n (ls1 := [(0, .ref 164), (1, .int x1), (2, .int v1), (3, .int x3), (4, .int x4), (5, .int x5), (6, .int v1), (7, .int (f_X12_farBy x5 x4 (I 166 (66 + x1).toNatClampNeg) (I 166 (74 + x1).toNatClampNeg)))]) dX12_stand_102 (by decide) rfl rfl ?_
            refine bv_iload dX12_stand_103 7 rfl ?_
            refine bv_istore_n (ls1 := [(0, .ref 164), (1, .int x1), (2, .int v1), (3, .int (f_X12_farBy x5 x4 (I 166 (66 + x1).toNatClampNeg) (I 166 (74 + x1).toNatClampNeg))), (4, .int x4), (5, .int x5), (6, .int v1), (7, .int (f_X12_farBy x5 x4 (I 166 (66 + x1).toNatClampNeg) (I 166 (74 + x1).toNatClampNeg)))]) dX12_stand_105 (by decide) rfl rfl ?_
            refine bv_aload_n dX12_stand_106 0 rfl ?_
            refine bv_iload dX12_stand_107 5 rfl ?_
            refine bz_putI hN okL_164 dX12_stand_109 fl_12_59 rfl ?_
            refine bv_aload_n dX12_stand_112 0 rfl ?_
            refine bv_iload dX12_stand_113 4 rfl ?_
            refine bz_putI hN okL_164 dX12_stand_115 fl_12_62 rfl ?_
            refine bv_iinc (j := 5) (v := (x5 + 1)) (ls1 := [(0, .ref 164), (1, .int x1), (2, .int v1), (3, .int (f_X12_farBy x5 x4 (I 166 (66 + x1).toNatClampNeg) (I 166 (74 + x1).toNatClampNeg))), (4, .int x4), (5, .int (x5 + 1)), (6, .int v1), (7, .int (f_X12_farBy x5 x4 (I 166 (66 + x1).toNatClampNeg) (I 166 (74 + x1).toNatClampNeg)))]) dX12_stand_118 rfl rfl (by decide) rfl rfl ?_
            refine bv_goto (tgt := 34) dX12_stand_121 (by decide) ?_
            refine bw_ls (ls1 := [(0, .ref 164), (1, .int x1), (2, .int v1), (3, .int (f_X12_farBy x5 x4 (I 166 (66 + x1).toNatClampNeg) (I 166 (74 + x1).toNatClampNeg))), (4, .int x4), (5, .int (x5 + 1))]) [0, 1, 2, 3, 4, 5] rfl ?_
            exact ih _ _ _ _ _ h K0
          · replace h := bu_f h cc
            refine bv_goto (tgt := 118) dX12_stand_97 (by decide) ?_
            refine bv_iinc (j := 5) (v := (x5 + 1)) (ls1 := [(0, .ref 164), (1, .int x1), (2, .int x2), (3, .int x3), (4, .int x4), (5, .int (x5 + 1)), (6, .int v1), (7, .int (f_X12_farBy x5 x4 (I 166 (66 + x1).toNatClampNeg) (I 166 (74 + x1).toNatClampNeg)))]) dX12_stand_118 rfl rfl (by decide) rfl rfl ?_
            refine bv_goto (tgt := 34) dX12_stand_121 (by decide) ?_
            refine bw_ls (ls1 := [(0, .ref 164), (1, .int x1), (2, .int x2), (3, .int x3), (4, .int x4), (5, .int (x5 + 1))]) [0, 1, 2, 3, 4, 5] rfl ?_
            exact ih _ _ _ _ _ h K0
def f_X12_stand_l24 (x1 : Int32) : Nat → Int32 → Int32 → Int32 → bm_TI → Option (Int32 × bm_TI)
  | 0, _, _, _, _ => none
  | k + 1, x2, x3, x4, I => (if 30 < x4 then some (x2, I) else ((f_X12_stand_l34 x1 x4 1000 x2 x3 0 I).bind fun y3 => f_X12_stand_l24 x1 k y3.1 y3.2.1 (x4 + 1) y3.2.2))
set_option maxHeartbeats 4000000 in
set_option maxRecDepth 100000 in
theorem v_X12_stand_l24 {lc : bm_L} {d n : Nat} {Q : Option Value → bm_M → Prop} {R : bm_TR} {J : bm_TJ} {W : bm_TR} {x1 : Int32} (hN : 181 ≤ n) (hR : bm_RR R) : ∀ (k : Nat) (x2 : Int32) (x3 : Int32) (x4 : Int32) (I : bm_TI) (r : Int32 × bm_TI), f_X12_stand_l24 x1 k x2 x3 x4 I = some r → (∀ yy, yy = r → bm_V lc m_X12_stand (d + 4) n n n 130 [(2, .int yy.1)] [] (yy.2, J, R, W) Q) → bm_V lc m_X12_stand (d + 4) n n n 24 [(0, .ref 164), (1, .int x1), (2, .int x2), (3, .int x3), (4, .int x4)] [] (I, J, R, W) Q := by
  intro k
  induction k with
  | zero => intro x2 x3 x4 I r h; cases (show (none : Option (Int32 × bm_TI)) = some r from h)
  | succ k ih =>
    intro x2 x3 x4 I r h K0
    unfold f_X12_stand_l24 at h
    refine bv_iload dX12_stand_24 4 rfl ?_
    refine bv_bipush (v := 30) dX12_stand_26 (by decide) ?_
    refine bv_icmp_gt (tgt := 130) dX12_stand_28 (by decide) (fun cc => ?_) (fun cc => ?_)
    · replace h := bu_t h cc
      refine bw_ls (ls1 := [(2, .int x2)]) [2] rfl ?_
      obtain rfl := Option.some.inj h
      exact K0 _ rfl
    · replace h := bu_f h cc
      refine bv_iconst (v := 0) dX12_stand_31 (by decide) ?_
      refine bv_istore (ls1 := [(0, .ref 164), (1, .int x1), (2, .int x2), (3, .int x3), (4, .int x4), (5, .int 0)]) dX12_stand_32 (by decide) rfl rfl ?_
      obtain ⟨r1, p2, h⟩ := bu_bd h
      refine v_X12_stand_l34 hN hR 1000 _ _ _ _ _ p2 (fun y3 hy => ?_)
      · subst hy
        refine bv_iinc (j := 4) (v := (x4 + 1)) (ls1 := [(0, .ref 164), (1, .int x1), (2, .int y3.1), (3, .int y3.2.1), (4, .int (x4 + 1))]) dX12_stand_124 rfl rfl (by decide) rfl rfl ?_
        refine bv_goto (tgt := 24) dX12_stand_127 (by decide) ?_
        exact ih _ _ _ _ _ h K0
def f_X12_stand (I : bm_TI) (x1 : Int32) : Option (Int32 × bm_TI) := ((f_X12_isMan (bm_uI I 164 0 0) x1).bind fun v1 => (if v1 = true then ((f_X12_stand_l24 x1 1000 (-1) 1000000 0 (bm_uI I 164 0 0)).bind fun y5 => some (y5.1, y5.2)) else some ((-1), (bm_uI I 164 0 0))))
set_option maxHeartbeats 4000000 in
set_option maxRecDepth 100000 in
theorem c_X12_stand {lc : bm_L} {d n : Nat} {I : bm_TI} {J : bm_TJ} {R W : bm_TR} {x1 : Int32} {v : Int32 × bm_TI} (hN : 181 ≤ n) (hR : bm_RR R) (h : f_X12_stand I x1 = some v) : bm_C lc m_X12_stand (d + 4) n n [.ref 164, .int x1] (I, J, R, W) (fun r M' => r = some (.int v.1) ∧ M' = (v.2, J, R, W)) := by
  refine bm_C.ofV (by decide) (Nat.le_of_ble_eq_true rfl) ?_
  show bm_V lc m_X12_stand (d + 4) n n n 0 [(0, .ref 164), (1, .int x1)] [] (I, J, R, W) _
  unfold f_X12_stand at h
  refine bv_aload_n dX12_stand_0 0 rfl ?_
  refine bv_iconst (v := 0) dX12_stand_1 (by decide) ?_
  refine bz_putI hN okL_164 dX12_stand_2 fl_12_1 rfl ?_
  refine bv_aload_n dX12_stand_5 0 rfl ?_
  refine bv_iload_n dX12_stand_6 1 rfl ?_
  obtain ⟨v1, p2, h⟩ := bu_bd h
  refine bw_callV (As := [.int x1]) hN okL_164 ⟨_, _, rfl⟩ dX12_stand_7 mc_12_303 (c_X12_isMan (d := d + 2) hN hR p2) rfl rfl (by decide) ?_
  refine bw_ifB_ne (b := v1) (tgt := 15) dX12_stand_10 (by decide) (fun cc => ?_) (fun cc => ?_)
  · replace h := bu_bt h cc
    refine bv_iconst (v := (-1)) dX12_stand_15 (by decide) ?_
    refine bv_istore_n (ls1 := [(0, .ref 164), (1, .int x1), (2, .int (-1))]) dX12_stand_16 (by decide) rfl rfl ?_
    refine bv_ldcw (v := 1000000) dX12_stand_17 cst_12_381 ?_
    refine bv_istore_n (ls1 := [(0, .ref 164), (1, .int x1), (2, .int (-1)), (3, .int 1000000)]) dX12_stand_20 (by decide) rfl rfl ?_
    refine bv_iconst (v := 0) dX12_stand_21 (by decide) ?_
    refine bv_istore (ls1 := [(0, .ref 164), (1, .int x1), (2, .int (-1)), (3, .int 1000000), (4, .int 0)]) dX12_stand_22 (by decide) rfl rfl ?_
    obtain ⟨r3, p4, h⟩ := bu_bd h
    refine v_X12_stand_l24 hN hR 1000 _ _ _ _ _ p4 (fun y5 hy => ?_)
    · subst hy
      refine bv_iload_n dX12_stand_130 0 rfl ?_
      obtain rfl := Option.some.inj h
      exact bv_iret (x := y5.1) dX12_stand_131 rfl ⟨rfl, rfl⟩
  · replace h := bu_bf h cc
    refine bv_iconst (v := (-1)) dX12_stand_13 (by decide) ?_
    obtain rfl := Option.some.inj h
    exact bv_iret (x := (-1)) dX12_stand_14 rfl ⟨rfl, rfl⟩
def f_X12_hide_l30 (x1 : Int32) (x3 : Int32) : Nat → Int32 → Int32 → bm_TI → Option (Int32 × bm_TI)
  | 0, _, _, _ => none
  | k + 1, x2, x4, I => (if 30 < x4 then some (x2, I) else (if bm_ix 287 (66 + x1) = true then (if bm_ix 287 (74 + x1) = true then (if x2 ≤ (f_X12_farBy x4 x3 (I 166 (66 + x1).toNatClampNeg) (I 166 (74 + x1).toNatClampNeg)) then f_X12_hide_l30 x1 x3 k x2 (x4 + 1) I else ((f_X12_foesOf I x1 x4 x3).bind fun v3 => (if v3 = 0 then ((f_X12_seersAt I x1 x4 x3).bind fun v5 => (if v5 = 0 then f_X12_hide_l30 x1 x3 k x2 (x4 + 1) I else f_X12_hide_l30 x1 x3 k (f_X12_farBy x4 x3 (I 166 (66 + x1).toNatClampNeg) (I 166 (74 + x1).toNatClampNeg)) (x4 + 1) (bm_uI (bm_uI I 164 25 x4) 164 26 x3))) else f_X12_hide_l30 x1 x3 k x2 (x4 + 1) I))) else none) else none))
set_option maxHeartbeats 4000000 in
set_option maxRecDepth 100000 in
theorem v_X12_hide_l30 {lc : bm_L} {d n : Nat} {Q : Option Value → bm_M → Prop} {R : bm_TR} {J : bm_TJ} {W : bm_TR} {x1 : Int32} {x3 : Int32} (hN : 181 ≤ n) (hR : bm_RR R) : ∀ (k : Nat) (x2 : Int32) (x4 : Int32) (I : bm_TI) (r : Int32 × bm_TI), f_X12_hide_l30 x1 x3 k x2 x4 I = some r → (∀ yy, yy = r → bm_V lc m_X12_hide (d + 4) n n n 114 [(0, .ref 164), (1, .int x1), (2, .int yy.1), (3, .int x3)] [] (yy.2, J, R, W) Q) → bm_V lc m_X12_hide (d + 4) n n n 30 [(0, .ref 164), (1, .int x1), (2, .int x2), (3, .int x3), (4, .int x4)] [] (I, J, R, W) Q := by
  intro k
  induction k with
  | zero => intro x2 x4 I r h; cases (show (none : Option (Int32 × bm_TI)) = some r from h)
  | succ k ih =>
    intro x2 x4 I r h K0
    unfold f_X12_hide_l30 at h
    refine bv_iload dX12_hide_30 4 rfl ?_
    refine bv_bipush (v := 30) dX12_hide_32 (by decide) ?_
    refine bv_icmp_gt (tgt := 114) dX12_hide_34 (by decide) (fun cc => ?_) (fun cc => ?_)
    · replace h := bu_t h cc
      refine bw_ls (ls1 := [(0, .ref 164), (1, .int x1), (2, .int x2), (3, .int x3)]) [0, 1, 2, 3] rfl ?_
      obtain rfl := Option.some.inj h
      exact K0 _ rfl
    · replace h := bu_f h cc
      refine bv_iload dX12_hide_37 4 rfl ?_
      refine bv_iload_n dX12_hide_39 3 rfl ?_
      refine bv_aload_n dX12_hide_40 0 rfl ?_
      refine bz_getA (a := 166) hN okL_164 (hR _ _ _ r0_164_6) dX12_hide_41 fl_12_33 rfl ?_
      refine bv_bipush (v := 66) dX12_hide_44 (by decide) ?_
      refine bv_iload_n dX12_hide_46 1 rfl ?_
      refine bv_iadd dX12_hide_47 ?_
      obtain ⟨r1, h⟩ := bu_ix h
      refine bz_iald hN rkL_166 r1 rfl dX12_hide_48 ?_
      refine bv_aload_n dX12_hide_49 0 rfl ?_
      refine bz_getA (a := 166) hN okL_164 (hR _ _ _ r0_164_6) dX12_hide_50 fl_12_33 rfl ?_
      refine bv_bipush (v := 74) dX12_hide_53 (by decide) ?_
      refine bv_iload_n dX12_hide_55 1 rfl ?_
      refine bv_iadd dX12_hide_56 ?_
      obtain ⟨r2, h⟩ := bu_ix h
      refine bz_iald hN rkL_166 r2 rfl dX12_hide_57 ?_
      refine bw_callS (As := [.int x4, .int x3, .int (I 166 (66 + x1).toNatClampNeg), .int (I 166 (74 + x1).toNatClampNeg)]) dX12_hide_58 mc_12_286 (c_X12_farBy (d := d + 2) hN hR rfl) rfl rfl (by decide) ?_
      refine bv_istore (ls1 := [(0, .ref 164), (1, .int x1), (2, .int x2), (3, .int x3), (4, .int x4), (5, .int (f_X12_farBy x4 x3 (I 166 (66 + x1).toNatClampNeg) (I 166 (74 + x1).toNatClampNeg)))]) dX12_hide_61 (by decide) rfl rfl ?_
      refine bv_iload dX12_hide_63 5 rfl ?_
      refine bv_iload_n dX12_hide_65 2 rfl ?_
      refine bv_icmp_ge (tgt := 108) dX12_hide_66 (by decide) (fun cc => ?_) (fun cc => ?_)
      · replace h := bu_t h cc
        refine bv_iinc (j := 4) (v := (x4 + 1)) (ls1 := [(0, .ref 164), (1, .int x1), (2, .int x2), (3, .int x3), (4, .int (x4 + 1)), (5, .int (f_X12_farBy x4 x3 (I 166 (66 + x1).toNatClampNeg) (I 166 (74 + x1).toNatClampNeg)))]) dX12_hide_108 rfl rfl (by decide) rfl rfl ?_
        refine bv_goto (tgt := 30) dX12_hide_111 (by decide) ?_
        refine bw_ls (ls1 := [(0, .ref 164), (1, .int x1), (2, .int x2), (3, .int x3), (4, .int (x4 + 1))]) [0, 1, 2, 3, 4] rfl ?_
        exact ih _ _ _ _ h K0
      · replace h := bu_f h cc
        refine bv_aload_n dX12_hide_69 0 rfl ?_
        refine bv_iload_n dX12_hide_70 1 rfl ?_
        refine bv_iload dX12_hide_71 4 rfl ?_
        refine bv_iload_n dX12_hide_73 3 rfl ?_
        obtain ⟨v3, p4, h⟩ := bu_bd h
        refine bw_callV (As := [.int x1, .int x4, .int x3]) hN okL_164 ⟨_, _, rfl⟩ dX12_hide_74 mc_12_363 (c_X12_foesOf (d := d + 0) hN hR p4) rfl rfl (by decide) ?_
        refine bv_if_ne (tgt := 108) dX12_hide_77 (by decide) (fun cc => ?_) (fun cc => ?_)
        · replace h := bu_f h cc
          refine bv_iinc (j := 4) (v := (x4 + 1)) (ls1 := [(0, .ref 164), (1, .int x1), (2, .int x2), (3, .int x3), (4, .int (x4 + 1)), (5, .int (f_X12_farBy x4 x3 (I 166 (66 + x1).toNatClampNeg) (I 166 (74 + x1).toNatClampNeg)))]) dX12_hide_108 rfl rfl (by decide) rfl rfl ?_
          refine bv_goto (tgt := 30) dX12_hide_111 (by decide) ?_
          refine bw_ls (ls1 := [(0, .ref 164), (1, .int x1), (2, .int x2), (3, .int x3), (4, .int (x4 + 1))]) [0, 1, 2, 3, 4] rfl ?_
          exact ih _ _ _ _ h K0
        · replace h := bu_t h cc
          refine bv_aload_n dX12_hide_80 0 rfl ?_
          refine bv_iload_n dX12_hide_81 1 rfl ?_
          refine bv_iload dX12_hide_82 4 rfl ?_
          refine bv_iload_n dX12_hide_84 3 rfl ?_
          obtain ⟨v5, p6, h⟩ := bu_bd h
          refine bw_callV (As := [.int x1, .int x4, .int x3]) hN okL_164 ⟨_, _, rfl⟩ dX12_hide_85 mc_12_382 (c_X12_seersAt (d := d + 0) hN hR p6) rfl rfl (by decide) ?_
          refine bv_if_ne (tgt := 94) dX12_hide_88 (by decide) (fun cc => ?_) (fun cc => ?_)
          · replace h := bu_f h cc
            refine bv_iload dX12_hide_94 5 rfl ?_
            refine bv_istore_n (ls1 := [(0, .ref 164), (1, .int x1), (2, .int (f_X12_farBy x4 x3 (I 166 (66 + x1).toNatClampNeg) (I 166 (74 + x1).toNatClampNeg))), (3, .int x3), (4, .int x4), (5, .int (f_X12_farBy x4 x3 (I 166 (66 + x1).toNatClampNeg) (I 166 (74 + x1).toNatClampNeg)))]) dX12_hide_96 (by decide) rfl rfl ?_
            refine bv_aload_n dX12_hide_97 0 rfl ?_
            refine bv_iload dX12_hide_98 4 rfl ?_
            refine bz_putI hN okL_164 dX12_hide_100 fl_12_59 rfl ?_
            refine bv_aload_n dX12_hide_103 0 rfl ?_
            refine bv_iload_n dX12_hide_104 3 rfl ?_
            refine bz_putI hN okL_164 dX12_hide_105 fl_12_62 rfl ?_
            refine bv_iinc (j := 4) (v := (x4 + 1)) (ls1 := [(0, .ref 164), (1, .int x1), (2, .int (f_X12_farBy x4 x3 (I 166 (66 + x1).toNatClampNeg) (I 166 (74 + x1).toNatClampNeg))), (3, .int x3), (4, .int (x4 + 1)), (5, .int (f_X12_farBy x4 x3 (I 166 (66 + x1).toNatClampNeg) (I 166 (74 + x1).toNatClampNeg)))]) dX12_hide_108 rfl rfl (by decide) rfl rfl ?_
            refine bv_goto (tgt := 30) dX12_hide_111 (by decide) ?_
            refine bw_ls (ls1 := [(0, .ref 164), (1, .int x1), (2, .int (f_X12_farBy x4 x3 (I 166 (66 + x1).toNatClampNeg) (I 166 (74 + x1).toNatClampNeg))), (3, .int x3), (4, .int (x4 + 1))]) [0, 1, 2, 3, 4] rfl ?_
            exact ih _ _ _ _ h K0
          · replace h := bu_t h cc
            refine bv_goto (tgt := 108) dX12_hide_91 (by decide) ?_
            refine bv_iinc (j := 4) (v := (x4 + 1)) (ls1 := [(0, .ref 164), (1, .int x1), (2, .int x2), (3, .int x3), (4, .int (x4 + 1)), (5, .int (f_X12_farBy x4 x3 (I 166 (66 + x1).toNatClampNeg) (I 166 (74 + x1).toNatClampNeg)))]) dX12_hide_108 rfl rfl (by decide) rfl rfl ?_
            refine bv_goto (tgt := 30) dX12_hide_111 (by decide) ?_
            refine bw_ls (ls1 := [(0, .ref 164), (1, .int x1), (2, .int x2), (3, .int x3), (4, .int (x4 + 1))]) [0, 1, 2, 3, 4] rfl ?_
            exact ih _ _ _ _ h K0
def f_X12_hide_l21 (x1 : Int32) : Nat → Int32 → Int32 → bm_TI → Option (Int32 × bm_TI)
  | 0, _, _, _ => none
  | k + 1, x2, x3, I => (if 30 < x3 then some (x2, I) else ((f_X12_hide_l30 x1 x3 1000 x2 0 I).bind fun y3 => f_X12_hide_l21 x1 k y3.1 (x3 + 1) y3.2))
set_option maxHeartbeats 4000000 in
set_option maxRecDepth 100000 in
theorem v_X12_hide_l21 {lc : bm_L} {d n : Nat} {Q : Option Value → bm_M → Prop} {R : bm_TR} {J : bm_TJ} {W : bm_TR} {x1 : Int32} (hN : 181 ≤ n) (hR : bm_RR R) : ∀ (k : Nat) (x2 : Int32) (x3 : Int32) (I : bm_TI) (r : Int32 × bm_TI), f_X12_hide_l21 x1 k x2 x3 I = some r → (∀ yy, yy = r → bm_V lc m_X12_hide (d + 4) n n n 120 [(2, .int yy.1)] [] (yy.2, J, R, W) Q) → bm_V lc m_X12_hide (d + 4) n n n 21 [(0, .ref 164), (1, .int x1), (2, .int x2), (3, .int x3)] [] (I, J, R, W) Q := by
  intro k
  induction k with
  | zero => intro x2 x3 I r h; cases (show (none : Option (Int32 × bm_TI)) = some r from h)
  | succ k ih =>
    intro x2 x3 I r h K0
    unfold f_X12_hide_l21 at h
    refine bv_iload_n dX12_hide_21 3 rfl ?_
    refine bv_bipush (v := 30) dX12_hide_22 (by decide) ?_
    refine bv_icmp_gt (tgt := 120) dX12_hide_24 (by decide) (fun cc => ?_) (fun cc => ?_)
    · replace h := bu_t h cc
      refine bw_ls (ls1 := [(2, .int x2)]) [2] rfl ?_
      obtain rfl := Option.some.inj h
      exact K0 _ rfl
    · replace h := bu_f h cc
      refine bv_iconst (v := 0) dX12_hide_27 (by decide) ?_
      refine bv_istore (ls1 := [(0, .ref 164), (1, .int x1), (2, .int x2), (3, .int x3), (4, .int 0)]) dX12_hide_28 (by decide) rfl rfl ?_
      obtain ⟨r1, p2, h⟩ := bu_bd h
      refine v_X12_hide_l30 hN hR 1000 _ _ _ _ p2 (fun y3 hy => ?_)
      · subst hy
        refine bv_iinc (j := 3) (v := (x3 + 1)) (ls1 := [(0, .ref 164), (1, .int x1), (2, .int y3.1), (3, .int (x3 + 1))]) dX12_hide_114 rfl rfl (by decide) rfl rfl ?_
        refine bv_goto (tgt := 21) dX12_hide_117 (by decide) ?_
        exact ih _ _ _ _ h K0
def f_X12_hide (I : bm_TI) (x1 : Int32) : Option (Int32 × bm_TI) := ((f_X12_isMan (bm_uI I 164 0 0) x1).bind fun v1 => (if v1 = true then ((f_X12_hide_l21 x1 1000 1000000 0 (bm_uI I 164 0 0)).bind fun y5 => (if y5.1 = 1000000 then some ((-1), y5.2) else some (y5.1, y5.2))) else some ((-1), (bm_uI I 164 0 0))))
set_option maxHeartbeats 4000000 in
set_option maxRecDepth 100000 in
theorem c_X12_hide {lc : bm_L} {d n : Nat} {I : bm_TI} {J : bm_TJ} {R W : bm_TR} {x1 : Int32} {v : Int32 × bm_TI} (hN : 181 ≤ n) (hR : bm_RR R) (h : f_X12_hide I x1 = some v) : bm_C lc m_X12_hide (d + 4) n n [.ref 164, .int x1] (I, J, R, W) (fun r M' => r = some (.int v.1) ∧ M' = (v.2, J, R, W)) := by
  refine bm_C.ofV (by decide) (Nat.le_of_ble_eq_true rfl) ?_
  show bm_V lc m_X12_hide (d + 4) n n n 0 [(0, .ref 164), (1, .int x1)] [] (I, J, R, W) _
  unfold f_X12_hide at h
  refine bv_aload_n dX12_hide_0 0 rfl ?_
  refine bv_iconst (v := 0) dX12_hide_1 (by decide) ?_
  refine bz_putI hN okL_164 dX12_hide_2 fl_12_1 rfl ?_
  refine bv_aload_n dX12_hide_5 0 rfl ?_
  refine bv_iload_n dX12_hide_6 1 rfl ?_
  obtain ⟨v1, p2, h⟩ := bu_bd h
  refine bw_callV (As := [.int x1]) hN okL_164 ⟨_, _, rfl⟩ dX12_hide_7 mc_12_303 (c_X12_isMan (d := d + 2) hN hR p2) rfl rfl (by decide) ?_
  refine bw_ifB_ne (b := v1) (tgt := 15) dX12_hide_10 (by decide) (fun cc => ?_) (fun cc => ?_)
  · replace h := bu_bt h cc
    refine bv_ldcw (v := 1000000) dX12_hide_15 cst_12_381 ?_
    refine bv_istore_n (ls1 := [(0, .ref 164), (1, .int x1), (2, .int 1000000)]) dX12_hide_18 (by decide) rfl rfl ?_
    refine bv_iconst (v := 0) dX12_hide_19 (by decide) ?_
    refine bv_istore_n (ls1 := [(0, .ref 164), (1, .int x1), (2, .int 1000000), (3, .int 0)]) dX12_hide_20 (by decide) rfl rfl ?_
    obtain ⟨r3, p4, h⟩ := bu_bd h
    refine v_X12_hide_l21 hN hR 1000 _ _ _ _ p4 (fun y5 hy => ?_)
    · subst hy
      refine bv_iload_n dX12_hide_120 0 rfl ?_
      refine bv_ldcw (v := 1000000) dX12_hide_121 cst_12_381 ?_
      refine bv_icmp_ne (tgt := 131) dX12_hide_124 (by decide) (fun cc => ?_) (fun cc => ?_)
      · replace h := bu_f h cc
        refine bv_iload_n dX12_hide_131 0 rfl ?_
        obtain rfl := Option.some.inj h
        exact bv_iret (x := y5.1) dX12_hide_132 rfl ⟨rfl, rfl⟩
      · replace h := bu_t h cc
        refine bv_iconst (v := (-1)) dX12_hide_127 (by decide) ?_
        refine bv_goto (tgt := 132) dX12_hide_128 (by decide) ?_
        obtain rfl := Option.some.inj h
        exact bv_iret (x := (-1)) dX12_hide_132 rfl ⟨rfl, rfl⟩
  · replace h := bu_bf h cc
    refine bv_iconst (v := (-1)) dX12_hide_13 (by decide) ?_
    obtain rfl := Option.some.inj h
    exact bv_iret (x := (-1)) dX12_hide_14 rfl ⟨rfl, rfl⟩
def f_X12_cell (I : bm_TI) (x1 : Int32) : Option (Int32 × bm_TI) := (if x1 = 0 then some (((bm_uI I 164 0 0) 164 25), (bm_uI I 164 0 0)) else (if x1 = 1 then some (((bm_uI I 164 0 0) 164 26), (bm_uI I 164 0 0)) else some ((-1), (bm_uI I 164 0 0))))
set_option maxHeartbeats 4000000 in
set_option maxRecDepth 100000 in
theorem c_X12_cell {lc : bm_L} {d n : Nat} {I : bm_TI} {J : bm_TJ} {R W : bm_TR} {x1 : Int32} {v : Int32 × bm_TI} (hN : 181 ≤ n) (hR : bm_RR R) (h : f_X12_cell I x1 = some v) : bm_C lc m_X12_cell d n n [.ref 164, .int x1] (I, J, R, W) (fun r M' => r = some (.int v.1) ∧ M' = (v.2, J, R, W)) := by
  refine bm_C.ofV (by decide) (Nat.le_of_ble_eq_true rfl) ?_
  show bm_V lc m_X12_cell d n n n 0 [(0, .ref 164), (1, .int x1)] [] (I, J, R, W) _
  unfold f_X12_cell at h
  refine bv_aload_n dX12_cell_0 0 rfl ?_
  refine bv_iconst (v := 0) dX12_cell_1 (by decide) ?_
  refine bz_putI hN okL_164 dX12_cell_2 fl_12_1 rfl ?_
  refine bv_iload_n dX12_cell_5 1 rfl ?_
  refine bv_if_ne (tgt := 16) dX12_cell_6 (by decide) (fun cc => ?_) (fun cc => ?_)
  · replace h := bu_f h cc
    refine bv_iload_n dX12_cell_16 1 rfl ?_
    refine bv_iconst (v := 1) dX12_cell_17 (by decide) ?_
    refine bv_icmp_ne (tgt := 28) dX12_cell_18 (by decide) (fun cc => ?_) (fun cc => ?_)
    · replace h := bu_f h cc
      refine bv_iconst (v := (-1)) dX12_cell_28 (by decide) ?_
      obtain rfl := Option.some.inj h
      exact bv_iret (x := (-1)) dX12_cell_29 rfl ⟨rfl, rfl⟩
    · replace h := bu_t h cc
      refine bv_aload_n dX12_cell_21 0 rfl ?_
      refine bz_getI hN okL_164 dX12_cell_22 fl_12_62 rfl ?_
      refine bv_goto (tgt := 29) dX12_cell_25 (by decide) ?_
      obtain rfl := Option.some.inj h
      exact bv_iret (x := ((bm_uI I 164 0 0) 164 26)) dX12_cell_29 rfl ⟨rfl, rfl⟩
  · replace h := bu_t h cc
    refine bv_aload_n dX12_cell_9 0 rfl ?_
    refine bz_getI hN okL_164 dX12_cell_10 fl_12_59 rfl ?_
    refine bv_goto (tgt := 29) dX12_cell_13 (by decide) ?_
    obtain rfl := Option.some.inj h
    exact bv_iret (x := ((bm_uI I 164 0 0) 164 25)) dX12_cell_29 rfl ⟨rfl, rfl⟩
def f_X12_wrongBy_l4 (I : bm_TI) (x1 : Int32) : Nat → Int32 → Int32 → Option (Int32)
  | 0, _, _ => none
  | k + 1, x2, x3 => (if (I 164 3) ≤ x3 then some x2 else ((f_X12_octet I x3).bind fun v1 => (if v1 ≤ 0 then ((f_X12_octet I (x3 + 1)).bind fun v3 => (if v3 ≤ 0 then f_X12_wrongBy_l4 I x1 k ((x2 + 0) + 0) (x3 + 2) else ((f_X12_octet I (x3 + 1)).bind fun v5 => (if bm_ix 287 (46 + x1) = true then (if v5 = (I 166 (46 + x1).toNatClampNeg) then f_X12_wrongBy_l4 I x1 k ((x2 + 0) + 0) (x3 + 2) else f_X12_wrongBy_l4 I x1 k ((x2 + 0) + 1) (x3 + 2)) else none)))) else ((f_X12_octet I x3).bind fun v8 => (if bm_ix 287 (39 + x1) = true then (if v8 = (I 166 (39 + x1).toNatClampNeg) then ((f_X12_octet I (x3 + 1)).bind fun v11 => (if v11 ≤ 0 then f_X12_wrongBy_l4 I x1 k ((x2 + 0) + 0) (x3 + 2) else ((f_X12_octet I (x3 + 1)).bind fun v13 => (if bm_ix 287 (46 + x1) = true then (if v13 = (I 166 (46 + x1).toNatClampNeg) then f_X12_wrongBy_l4 I x1 k ((x2 + 0) + 0) (x3 + 2) else f_X12_wrongBy_l4 I x1 k ((x2 + 0) + 1) (x3 + 2)) else none)))) else ((f_X12_octet I (x3 + 1)).bind fun v16 => (if v16 ≤ 0 then f_X12_wrongBy_l4 I x1 k ((x2 + 1) + 0) (x3 + 2) else ((f_X12_octet I (x3 + 1)).bind fun v18 => (if bm_ix 287 (46 + x1) = true then (if v18 = (I 166 (46 + x1).toNatClampNeg) then f_X12_wrongBy_l4 I x1 k ((x2 + 1) + 0) (x3 + 2) else f_X12_wrongBy_l4 I x1 k ((x2 + 1) + 1) (x3 + 2)) else none))))) else none)))))
set_option maxHeartbeats 4000000 in
set_option maxRecDepth 100000 in
theorem v_X12_wrongBy_l4 {lc : bm_L} {d n : Nat} {Q : Option Value → bm_M → Prop} {R : bm_TR} {I : bm_TI} {J : bm_TJ} {W : bm_TR} {x1 : Int32} (hN : 181 ≤ n) (hR : bm_RR R) : ∀ (k : Nat) (x2 : Int32) (x3 : Int32) (r : Int32), f_X12_wrongBy_l4 I x1 k x2 x3 = some r → (∀ yy, yy = r → bm_V lc m_X12_wrongBy (d + 1) n n n 88 [(2, .int yy)] [] (I, J, R, W) Q) → bm_V lc m_X12_wrongBy (d + 1) n n n 4 [(0, .ref 164), (1, .int x1), (2, .int x2), (3, .int x3)] [] (I, J, R, W) Q := by
  intro k
  induction k with
  | zero => intro x2 x3 r h; cases (show (none : Option (Int32)) = some r from h)
  | succ k ih =>
    intro x2 x3 r h K0
    unfold f_X12_wrongBy_l4 at h
    refine bv_iload_n dX12_wrongBy_4 3 rfl ?_
    refine bv_aload_n dX12_wrongBy_5 0 rfl ?_
    refine bz_getI hN okL_164 dX12_wrongBy_6 fl_12_18 rfl ?_
    refine bv_icmp_ge (tgt := 88) dX12_wrongBy_9 (by decide) (fun cc => ?_) (fun cc => ?_)
    · replace h := bu_t h cc
      refine bw_ls (ls1 := [(2, .int x2)]) [2] rfl ?_
      obtain rfl := Option.some.inj h
      exact K0 _ rfl
    · replace h := bu_f h cc
      refine bv_iload_n dX12_wrongBy_12 2 rfl ?_
      refine bv_aload_n dX12_wrongBy_13 0 rfl ?_
      refine bv_iload_n dX12_wrongBy_14 3 rfl ?_
      obtain ⟨v1, p2, h⟩ := bu_bd h
      refine bw_callV (As := [.int x3]) hN okL_164 ⟨_, _, rfl⟩ dX12_wrongBy_15 mc_12_385 (c_X12_octet (d := d + 0) hN hR p2) rfl rfl (Nat.le_of_ble_eq_true rfl) ?_
      refine bv_if_le (tgt := 42) dX12_wrongBy_18 (by decide) (fun cc => ?_) (fun cc => ?_)
      · replace h := bu_t h cc
        refine bv_iconst (v := 0) dX12_wrongBy_42 (by decide) ?_
        refine bv_iadd dX12_wrongBy_43 ?_
        refine bv_istore_n (ls1 := [(0, .ref 164), (1, .int x1), (2, .int (x2 + 0)), (3, .int x3)]) dX12_wrongBy_44 (by decide) rfl rfl ?_
        refine bv_iload_n dX12_wrongBy_45 2 rfl ?_
        refine bv_aload_n dX12_wrongBy_46 0 rfl ?_
        refine bv_iload_n dX12_wrongBy_47 3 rfl ?_
        refine bv_iconst (v := 1) dX12_wrongBy_48 (by decide) ?_
        refine bv_iadd dX12_wrongBy_49 ?_
        obtain ⟨v3, p4, h⟩ := bu_bd h
        refine bw_callV (As := [.int (x3 + 1)]) hN okL_164 ⟨_, _, rfl⟩ dX12_wrongBy_50 mc_12_385 (c_X12_octet (d := d + 0) hN hR p4) rfl rfl (Nat.le_of_ble_eq_true rfl) ?_
        refine bv_if_le (tgt := 79) dX12_wrongBy_53 (by decide) (fun cc => ?_) (fun cc => ?_)
        · replace h := bu_t h cc
          refine bv_iconst (v := 0) dX12_wrongBy_79 (by decide) ?_
          refine bv_iadd dX12_wrongBy_80 ?_
          refine bv_istore_n (ls1 := [(0, .ref 164), (1, .int x1), (2, .int ((x2 + 0) + 0)), (3, .int x3)]) dX12_wrongBy_81 (by decide) rfl rfl ?_
          refine bv_iinc (j := 3) (v := (x3 + 2)) (ls1 := [(0, .ref 164), (1, .int x1), (2, .int ((x2 + 0) + 0)), (3, .int (x3 + 2))]) dX12_wrongBy_82 rfl rfl (by decide) rfl rfl ?_
          refine bv_goto (tgt := 4) dX12_wrongBy_85 (by decide) ?_
          exact ih _ _ _ h K0
        · replace h := bu_f h cc
          refine bv_aload_n dX12_wrongBy_56 0 rfl ?_
          refine bv_iload_n dX12_wrongBy_57 3 rfl ?_
          refine bv_iconst (v := 1) dX12_wrongBy_58 (by decide) ?_
          refine bv_iadd dX12_wrongBy_59 ?_
          obtain ⟨v5, p6, h⟩ := bu_bd h
          refine bw_callV (As := [.int (x3 + 1)]) hN okL_164 ⟨_, _, rfl⟩ dX12_wrongBy_60 mc_12_385 (c_X12_octet (d := d + 0) hN hR p6) rfl rfl (Nat.le_of_ble_eq_true rfl) ?_
          refine bv_aload_n dX12_wrongBy_63 0 rfl ?_
          refine bz_getA (a := 166) hN okL_164 (hR _ _ _ r0_164_6) dX12_wrongBy_64 fl_12_33 rfl ?_
          refine bv_bipush (v := 46) dX12_wrongBy_67 (by decide) ?_
          refine bv_iload_n dX12_wrongBy_69 1 rfl ?_
          refine bv_iadd dX12_wrongBy_70 ?_
          obtain ⟨r7, h⟩ := bu_ix h
          refine bz_iald hN rkL_166 r7 rfl dX12_wrongBy_71 ?_
          refine bv_icmp_eq (tgt := 79) dX12_wrongBy_72 (by decide) (fun cc => ?_) (fun cc => ?_)
          · replace h := bu_t h cc
            refine bv_iconst (v := 0) dX12_wrongBy_79 (by decide) ?_
            refine bv_iadd dX12_wrongBy_80 ?_
            refine bv_istore_n (ls1 := [(0, .ref 164), (1, .int x1), (2, .int ((x2 + 0) + 0)), (3, .int x3)]) dX12_wrongBy_81 (by decide) rfl rfl ?_
            refine bv_iinc (j := 3) (v := (x3 + 2)) (ls1 := [(0, .ref 164), (1, .int x1), (2, .int ((x2 + 0) + 0)), (3, .int (x3 + 2))]) dX12_wrongBy_82 rfl rfl (by decide) rfl rfl ?_
            refine bv_goto (tgt := 4) dX12_wrongBy_85 (by decide) ?_
            exact ih _ _ _ h K0
          · replace h := bu_f h cc
            refine bv_iconst (v := 1) dX12_wrongBy_75 (by decide) ?_
            refine bv_goto (tgt := 80) dX12_wrongBy_76 (by decide) ?_
            refine bv_iadd dX12_wrongBy_80 ?_
            refine bv_istore_n (ls1 := [(0, .ref 164), (1, .int x1), (2, .int ((x2 + 0) + 1)), (3, .int x3)]) dX12_wrongBy_81 (by decide) rfl rfl ?_
            refine bv_iinc (j := 3) (v := (x3 + 2)) (ls1 := [(0, .ref 164), (1, .int x1), (2, .int ((x2 + 0) + 1)), (3, .int (x3 + 2))]) dX12_wrongBy_82 rfl rfl (by decide) rfl rfl ?_
            refine bv_goto (tgt := 4) dX12_wrongBy_85 (by decide) ?_
            exact ih _ _ _ h K0
      · replace h := bu_f h cc
        refine bv_aload_n dX12_wrongBy_21 0 rfl ?_
        refine bv_iload_n dX12_wrongBy_22 3 rfl ?_
        obtain ⟨v8, p9, h⟩ := bu_bd h
        refine bw_callV (As := [.int x3]) hN okL_164 ⟨_, _, rfl⟩ dX12_wrongBy_23 mc_12_385 (c_X12_octet (d := d + 0) hN hR p9) rfl rfl (Nat.le_of_ble_eq_true rfl) ?_
        refine bv_aload_n dX12_wrongBy_26 0 rfl ?_
        refine bz_getA (a := 166) hN okL_164 (hR _ _ _ r0_164_6) dX12_wrongBy_27 fl_12_33 rfl ?_
        refine bv_bipush (v := 39) dX12_wrongBy_30 (by decide) ?_
        refine bv_iload_n dX12_wrongBy_32 1 rfl ?_
        refine bv_iadd dX12_wrongBy_33 ?_
        obtain ⟨r10, h⟩ := bu_ix h
        refine bz_iald hN rkL_166 r10 rfl dX12_wrongBy_34 ?_
        refine bv_icmp_eq (tgt := 42) dX12_wrongBy_35 (by decide) (fun cc => ?_) (fun cc => ?_)
        · replace h := bu_t h cc
          refine bv_iconst (v := 0) dX12_wrongBy_42 (by decide) ?_
          refine bv_iadd dX12_wrongBy_43 ?_
          refine bv_istore_n (ls1 := [(0, .ref 164), (1, .int x1), (2, .int (x2 + 0)), (3, .int x3)]) dX12_wrongBy_44 (by decide) rfl rfl ?_
          refine bv_iload_n dX12_wrongBy_45 2 rfl ?_
          refine bv_aload_n dX12_wrongBy_46 0 rfl ?_
          refine bv_iload_n dX12_wrongBy_47 3 rfl ?_
          refine bv_iconst (v := 1) dX12_wrongBy_48 (by decide) ?_
          refine bv_iadd dX12_wrongBy_49 ?_
          obtain ⟨v11, p12, h⟩ := bu_bd h
          refine bw_callV (As := [.int (x3 + 1)]) hN okL_164 ⟨_, _, rfl⟩ dX12_wrongBy_50 mc_12_385 (c_X12_octet (d := d + 0) hN hR p12) rfl rfl (Nat.le_of_ble_eq_true rfl) ?_
          refine bv_if_le (tgt := 79) dX12_wrongBy_53 (by decide) (fun cc => ?_) (fun cc => ?_)
          · replace h := bu_t h cc
            refine bv_iconst (v := 0) dX12_wrongBy_79 (by decide) ?_
            refine bv_iadd dX12_wrongBy_80 ?_
            refine bv_istore_n (ls1 := [(0, .ref 164), (1, .int x1), (2, .int ((x2 + 0) + 0)), (3, .int x3)]) dX12_wrongBy_81 (by decide) rfl rfl ?_
            refine bv_iinc (j := 3) (v := (x3 + 2)) (ls1 := [(0, .ref 164), (1, .int x1), (2, .int ((x2 + 0) + 0)), (3, .int (x3 + 2))]) dX12_wrongBy_82 rfl rfl (by decide) rfl rfl ?_
            refine bv_goto (tgt := 4) dX12_wrongBy_85 (by decide) ?_
            exact ih _ _ _ h K0
          · replace h := bu_f h cc
            refine bv_aload_n dX12_wrongBy_56 0 rfl ?_
            refine bv_iload_n dX12_wrongBy_57 3 rfl ?_
            refine bv_iconst (v := 1) dX12_wrongBy_58 (by decide) ?_
            refine bv_iadd dX12_wrongBy_59 ?_
            obtain ⟨v13, p14, h⟩ := bu_bd h
            refine bw_callV (As := [.int (x3 + 1)]) hN okL_164 ⟨_, _, rfl⟩ dX12_wrongBy_60 mc_12_385 (c_X12_octet (d := d + 0) hN hR p14) rfl rfl (Nat.le_of_ble_eq_true rfl) ?_
            refine bv_aload_n dX12_wrongBy_63 0 rfl ?_
            refine bz_getA (a := 166) hN okL_164 (hR _ _ _ r0_164_6) dX12_wrongBy_64 fl_12_33 rfl ?_
            refine bv_bipush (v := 46) dX12_wrongBy_67 (by decide) ?_
            refine bv_iload_n dX12_wrongBy_69 1 rfl ?_
            refine bv_iadd dX12_wrongBy_70 ?_
            obtain ⟨r15, h⟩ := bu_ix h
            refine bz_iald hN rkL_166 r15 rfl dX12_wrongBy_71 ?_
            refine bv_icmp_eq (tgt := 79) dX12_wrongBy_72 (by decide) (fun cc => ?_) (fun cc => ?_)
            · replace h := bu_t h cc
              refine bv_iconst (v := 0) dX12_wrongBy_79 (by decide) ?_
              refine bv_iadd dX12_wrongBy_80 ?_
              refine bv_istore_n (ls1 := [(0, .ref 164), (1, .int x1), (2, .int ((x2 + 0) + 0)), (3, .int x3)]) dX12_wrongBy_81 (by decide) rfl rfl ?_
              refine bv_iinc (j := 3) (v := (x3 + 2)) (ls1 := [(0, .ref 164), (1, .int x1), (2, .int ((x2 + 0) + 0)), (3, .int (x3 + 2))]) dX12_wrongBy_82 rfl rfl (by decide) rfl rfl ?_
              refine bv_goto (tgt := 4) dX12_wrongBy_85 (by decide) ?_
              exact ih _ _ _ h K0
            · replace h := bu_f h cc
              refine bv_iconst (v := 1) dX12_wrongBy_75 (by decide) ?_
              refine bv_goto (tgt := 80) dX12_wrongBy_76 (by decide) ?_
              refine bv_iadd dX12_wrongBy_80 ?_
              refine bv_istore_n (ls1 := [(0, .ref 164), (1, .int x1), (2, .int ((x2 + 0) + 1)), (3, .int x3)]) dX12_wrongBy_81 (by decide) rfl rfl ?_
              refine bv_iinc (j := 3) (v := (x3 + 2)) (ls1 := [(0, .ref 164), (1, .int x1), (2, .int ((x2 + 0) + 1)), (3, .int (x3 + 2))]) dX12_wrongBy_82 rfl rfl (by decide) rfl rfl ?_
              refine bv_goto (tgt := 4) dX12_wrongBy_85 (by decide) ?_
              exact ih _ _ _ h K0
        · replace h := bu_f h cc
          refine bv_iconst (v := 1) dX12_wrongBy_38 (by decide) ?_
          refine bv_goto (tgt := 43) dX12_wrongBy_39 (by decide) ?_
          refine bv_iadd dX12_wrongBy_43 ?_
          refine bv_istore_n (ls1 := [(0, .ref 164), (1, .int x1), (2, .int (x2 + 1)), (3, .int x3)]) dX12_wrongBy_44 (by decide) rfl rfl ?_
          refine bv_iload_n dX12_wrongBy_45 2 rfl ?_
          refine bv_aload_n dX12_wrongBy_46 0 rfl ?_
          refine bv_iload_n dX12_wrongBy_47 3 rfl ?_
          refine bv_iconst (v := 1) dX12_wrongBy_48 (by decide) ?_
          refine bv_iadd dX12_wrongBy_49 ?_
          obtain ⟨v16, p17, h⟩ := bu_bd h
          refine bw_callV (As := [.int (x3 + 1)]) hN okL_164 ⟨_, _, rfl⟩ dX12_wrongBy_50 mc_12_385 (c_X12_octet (d := d + 0) hN hR p17) rfl rfl (Nat.le_of_ble_eq_true rfl) ?_
          refine bv_if_le (tgt := 79) dX12_wrongBy_53 (by decide) (fun cc => ?_) (fun cc => ?_)
          · replace h := bu_t h cc
            refine bv_iconst (v := 0) dX12_wrongBy_79 (by decide) ?_
            refine bv_iadd dX12_wrongBy_80 ?_
            refine bv_istore_n (ls1 := [(0, .ref 164), (1, .int x1), (2, .int ((x2 + 1) + 0)), (3, .int x3)]) dX12_wrongBy_81 (by decide) rfl rfl ?_
            refine bv_iinc (j := 3) (v := (x3 + 2)) (ls1 := [(0, .ref 164), (1, .int x1), (2, .int ((x2 + 1) + 0)), (3, .int (x3 + 2))]) dX12_wrongBy_82 rfl rfl (by decide) rfl rfl ?_
            refine bv_goto (tgt := 4) dX12_wrongBy_85 (by decide) ?_
            exact ih _ _ _ h K0
          · replace h := bu_f h cc
            refine bv_aload_n dX12_wrongBy_56 0 rfl ?_
            refine bv_iload_n dX12_wrongBy_57 3 rfl ?_
            refine bv_iconst (v := 1) dX12_wrongBy_58 (by decide) ?_
            refine bv_iadd dX12_wrongBy_59 ?_
            obtain ⟨v18, p19, h⟩ := bu_bd h
            refine bw_callV (As := [.int (x3 + 1)]) hN okL_164 ⟨_, _, rfl⟩ dX12_wrongBy_60 mc_12_385 (c_X12_octet (d := d + 0) hN hR p19) rfl rfl (Nat.le_of_ble_eq_true rfl) ?_
            refine bv_aload_n dX12_wrongBy_63 0 rfl ?_
            refine bz_getA (a := 166) hN okL_164 (hR _ _ _ r0_164_6) dX12_wrongBy_64 fl_12_33 rfl ?_
            refine bv_bipush (v := 46) dX12_wrongBy_67 (by decide) ?_
            refine bv_iload_n dX12_wrongBy_69 1 rfl ?_
            refine bv_iadd dX12_wrongBy_70 ?_
            obtain ⟨r20, h⟩ := bu_ix h
            refine bz_iald hN rkL_166 r20 rfl dX12_wrongBy_71 ?_
            refine bv_icmp_eq (tgt := 79) dX12_wrongBy_72 (by decide) (fun cc => ?_) (fun cc => ?_)
            · replace h := bu_t h cc
              refine bv_iconst (v := 0) dX12_wrongBy_79 (by decide) ?_
              refine bv_iadd dX12_wrongBy_80 ?_
              refine bv_istore_n (ls1 := [(0, .ref 164), (1, .int x1), (2, .int ((x2 + 1) + 0)), (3, .int x3)]) dX12_wrongBy_81 (by decide) rfl rfl ?_
              refine bv_iinc (j := 3) (v := (x3 + 2)) (ls1 := [(0, .ref 164), (1, .int x1), (2, .int ((x2 + 1) + 0)), (3, .int (x3 + 2))]) dX12_wrongBy_82 rfl rfl (by decide) rfl rfl ?_
              refine bv_goto (tgt := 4) dX12_wrongBy_85 (by decide) ?_
              exact ih _ _ _ h K0
            · replace h := bu_f h cc
              refine bv_iconst (v := 1) dX12_wrongBy_75 (by decide) ?_
              refine bv_goto (tgt := 80) dX12_wrongBy_76 (by decide) ?_
              refine bv_iadd dX12_wrongBy_80 ?_
              refine bv_istore_n (ls1 := [(0, .ref 164), (1, .int x1), (2, .int ((x2 + 1) + 1)), (3, .int x3)]) dX12_wrongBy_81 (by decide) rfl rfl ?_
              refine bv_iinc (j := 3) (v := (x3 + 2)) (ls1 := [(0, .ref 164), (1, .int x1), (2, .int ((x2 + 1) + 1)), (3, .int (x3 + 2))]) dX12_wrongBy_82 rfl rfl (by decide) rfl rfl ?_
              refine bv_goto (tgt := 4) dX12_wrongBy_85 (by decide) ?_
              exact ih _ _ _ h K0
def f_X12_wrongBy (I : bm_TI) (x1 : Int32) : Option (Int32) := ((f_X12_wrongBy_l4 I x1 1000 0 0).bind fun y3 => some y3)
set_option maxHeartbeats 4000000 in
set_option maxRecDepth 100000 in
theorem c_X12_wrongBy {lc : bm_L} {d n : Nat} {I : bm_TI} {J : bm_TJ} {R W : bm_TR} {x1 : Int32} {v : Int32} (hN : 181 ≤ n) (hR : bm_RR R) (h : f_X12_wrongBy I x1 = some v) : bm_C lc m_X12_wrongBy (d + 1) n n [.ref 164, .int x1] (I, J, R, W) (fun r M' => r = some (.int v) ∧ M' = (I, J, R, W)) := by
  refine bm_C.ofV (by decide) (Nat.le_of_ble_eq_true rfl) ?_
  show bm_V lc m_X12_wrongBy (d + 1) n n n 0 [(0, .ref 164), (1, .int x1)] [] (I, J, R, W) _
  unfold f_X12_wrongBy at h
  refine bv_iconst (v := 0) dX12_wrongBy_0 (by decide) ?_
  refine bv_istore_n (ls1 := [(0, .ref 164), (1, .int x1), (2, .int 0)]) dX12_wrongBy_1 (by decide) rfl rfl ?_
  refine bv_iconst (v := 0) dX12_wrongBy_2 (by decide) ?_
  refine bv_istore_n (ls1 := [(0, .ref 164), (1, .int x1), (2, .int 0), (3, .int 0)]) dX12_wrongBy_3 (by decide) rfl rfl ?_
  obtain ⟨r1, p2, h⟩ := bu_bd h
  refine v_X12_wrongBy_l4 hN hR 1000 _ _ _ p2 (fun y3 hy => ?_)
  · subst hy
    refine bv_iload_n dX12_wrongBy_88 0 rfl ?_
    obtain rfl := Option.some.inj h
    exact bv_iret (x := y3) dX12_wrongBy_89 rfl ⟨rfl, rfl⟩
def f_X12_leftBy_l17 (I : bm_TI) (x1 : Int32) (x2 : Int32) (x3 : Int32) (x4 : Int32) : Nat → Int32 → Int32 → Option (Int32)
  | 0, _, _ => none
  | k + 1, x5, x6 => (if (I 166 1) ≤ x6 then some x5 else (if (f_X12_bitOf x1 x6) = true then (if bm_ix 287 (x2 + x6) = true then (if (I 166 (x2 + x6).toNatClampNeg) = x4 then f_X12_leftBy_l17 I x1 x2 x3 x4 k (x5 + 1) (x6 + 1) else f_X12_leftBy_l17 I x1 x2 x3 x4 k (x5 + 0) (x6 + 1)) else none) else f_X12_leftBy_l17 I x1 x2 x3 x4 k (x5 + 0) (x6 + 1)))
set_option maxHeartbeats 4000000 in
set_option maxRecDepth 100000 in
theorem v_X12_leftBy_l17 {lc : bm_L} {d n : Nat} {Q : Option Value → bm_M → Prop} {R : bm_TR} {I : bm_TI} {J : bm_TJ} {W : bm_TR} {x1 : Int32} {x2 : Int32} {x3 : Int32} {x4 : Int32} (hN : 181 ≤ n) (hR : bm_RR R) : ∀ (k : Nat) (x5 : Int32) (x6 : Int32) (r : Int32), f_X12_leftBy_l17 I x1 x2 x3 x4 k x5 x6 = some r → (∀ yy, yy = r → bm_V lc m_X12_leftBy (d + 1) n n n 67 [(0, .ref 164), (1, .int x1), (2, .int x2), (3, .int x3), (4, .int x4), (5, .int yy)] [] (I, J, R, W) Q) → bm_V lc m_X12_leftBy (d + 1) n n n 17 [(0, .ref 164), (1, .int x1), (2, .int x2), (3, .int x3), (4, .int x4), (5, .int x5), (6, .int x6)] [] (I, J, R, W) Q := by
  intro k
  induction k with
  | zero => intro x5 x6 r h; cases (show (none : Option (Int32)) = some r from h)
  | succ k ih =>
    intro x5 x6 r h K0
    unfold f_X12_leftBy_l17 at h
    refine bv_iload dX12_leftBy_17 6 rfl ?_
    refine bv_aload_n dX12_leftBy_19 0 rfl ?_
    refine bz_getA (a := 166) hN okL_164 (hR _ _ _ r0_164_6) dX12_leftBy_20 fl_12_33 rfl ?_
    refine bv_iconst (v := 1) dX12_leftBy_23 (by decide) ?_
    refine bz_iald (j := 1) hN rkL_166 (bm_ix_in (by decide)) (by decide) dX12_leftBy_24 ?_
    refine bv_icmp_ge (tgt := 67) dX12_leftBy_25 (by decide) (fun cc => ?_) (fun cc => ?_)
    · replace h := bu_t h cc
      refine bw_ls (ls1 := [(0, .ref 164), (1, .int x1), (2, .int x2), (3, .int x3), (4, .int x4), (5, .int x5)]) [0, 1, 2, 3, 4, 5] rfl ?_
      obtain rfl := Option.some.inj h
      exact K0 _ rfl
    · replace h := bu_f h cc
      refine bv_iload dX12_leftBy_28 5 rfl ?_
      refine bv_iload_n dX12_leftBy_30 1 rfl ?_
      refine bv_iload dX12_leftBy_31 6 rfl ?_
      refine bw_callS (As := [.int x1, .int x6]) dX12_leftBy_33 mc_12_231 (c_X12_bitOf (d := d + 0) hN hR rfl) rfl rfl (Nat.le_of_ble_eq_true rfl) ?_
      refine bw_ifB_eq (b := (f_X12_bitOf x1 x6)) (tgt := 57) dX12_leftBy_36 (by decide) (fun cc => ?_) (fun cc => ?_)
      · replace h := bu_bf h cc
        refine bv_iconst (v := 0) dX12_leftBy_57 (by decide) ?_
        refine bv_iadd dX12_leftBy_58 ?_
        refine bv_istore (ls1 := [(0, .ref 164), (1, .int x1), (2, .int x2), (3, .int x3), (4, .int x4), (5, .int (x5 + 0)), (6, .int x6)]) dX12_leftBy_59 (by decide) rfl rfl ?_
        refine bv_iinc (j := 6) (v := (x6 + 1)) (ls1 := [(0, .ref 164), (1, .int x1), (2, .int x2), (3, .int x3), (4, .int x4), (5, .int (x5 + 0)), (6, .int (x6 + 1))]) dX12_leftBy_61 rfl rfl (by decide) rfl rfl ?_
        refine bv_goto (tgt := 17) dX12_leftBy_64 (by decide) ?_
        exact ih _ _ _ h K0
      · replace h := bu_bt h cc
        refine bv_aload_n dX12_leftBy_39 0 rfl ?_
        refine bz_getA (a := 166) hN okL_164 (hR _ _ _ r0_164_6) dX12_leftBy_40 fl_12_33 rfl ?_
        refine bv_iload_n dX12_leftBy_43 2 rfl ?_
        refine bv_iload dX12_leftBy_44 6 rfl ?_
        refine bv_iadd dX12_leftBy_46 ?_
        obtain ⟨r1, h⟩ := bu_ix h
        refine bz_iald hN rkL_166 r1 rfl dX12_leftBy_47 ?_
        refine bv_iload dX12_leftBy_48 4 rfl ?_
        refine bv_icmp_ne (tgt := 57) dX12_leftBy_50 (by decide) (fun cc => ?_) (fun cc => ?_)
        · replace h := bu_f h cc
          refine bv_iconst (v := 0) dX12_leftBy_57 (by decide) ?_
          refine bv_iadd dX12_leftBy_58 ?_
          refine bv_istore (ls1 := [(0, .ref 164), (1, .int x1), (2, .int x2), (3, .int x3), (4, .int x4), (5, .int (x5 + 0)), (6, .int x6)]) dX12_leftBy_59 (by decide) rfl rfl ?_
          refine bv_iinc (j := 6) (v := (x6 + 1)) (ls1 := [(0, .ref 164), (1, .int x1), (2, .int x2), (3, .int x3), (4, .int x4), (5, .int (x5 + 0)), (6, .int (x6 + 1))]) dX12_leftBy_61 rfl rfl (by decide) rfl rfl ?_
          refine bv_goto (tgt := 17) dX12_leftBy_64 (by decide) ?_
          exact ih _ _ _ h K0
        · replace h := bu_t h cc
          refine bv_iconst (v := 1) dX12_leftBy_53 (by decide) ?_
          refine bv_goto (tgt := 58) dX12_leftBy_54 (by decide) ?_
          refine bv_iadd dX12_leftBy_58 ?_
          refine bv_istore (ls1 := [(0, .ref 164), (1, .int x1), (2, .int x2), (3, .int x3), (4, .int x4), (5, .int (x5 + 1)), (6, .int x6)]) dX12_leftBy_59 (by decide) rfl rfl ?_
          refine bv_iinc (j := 6) (v := (x6 + 1)) (ls1 := [(0, .ref 164), (1, .int x1), (2, .int x2), (3, .int x3), (4, .int x4), (5, .int (x5 + 1)), (6, .int (x6 + 1))]) dX12_leftBy_61 rfl rfl (by decide) rfl rfl ?_
          refine bv_goto (tgt := 17) dX12_leftBy_64 (by decide) ?_
          exact ih _ _ _ h K0
def f_X12_leftBy_l5 (I : bm_TI) (x1 : Int32) (x2 : Int32) : Nat → Int32 → Int32 → Option (Int32)
  | 0, _, _ => none
  | k + 1, x3, x4 => (if 4 ≤ x4 then some x3 else ((f_X12_leftBy_l17 I x1 x2 x3 x4 1000 0 0).bind fun y3 => f_X12_leftBy_l5 I x1 x2 k (f_X12_greater x3 y3) (x4 + 1)))
set_option maxHeartbeats 4000000 in
set_option maxRecDepth 100000 in
theorem v_X12_leftBy_l5 {lc : bm_L} {d n : Nat} {Q : Option Value → bm_M → Prop} {R : bm_TR} {I : bm_TI} {J : bm_TJ} {W : bm_TR} {x1 : Int32} {x2 : Int32} (hN : 181 ≤ n) (hR : bm_RR R) : ∀ (k : Nat) (x3 : Int32) (x4 : Int32) (r : Int32), f_X12_leftBy_l5 I x1 x2 k x3 x4 = some r → (∀ yy, yy = r → bm_V lc m_X12_leftBy (d + 1) n n n 80 [(3, .int yy)] [] (I, J, R, W) Q) → bm_V lc m_X12_leftBy (d + 1) n n n 5 [(0, .ref 164), (1, .int x1), (2, .int x2), (3, .int x3), (4, .int x4)] [] (I, J, R, W) Q := by
  intro k
  induction k with
  | zero => intro x3 x4 r h; cases (show (none : Option (Int32)) = some r from h)
  | succ k ih =>
    intro x3 x4 r h K0
    unfold f_X12_leftBy_l5 at h
    refine bv_iload dX12_leftBy_5 4 rfl ?_
    refine bv_iconst (v := 4) dX12_leftBy_7 (by decide) ?_
    refine bv_icmp_ge (tgt := 80) dX12_leftBy_8 (by decide) (fun cc => ?_) (fun cc => ?_)
    · replace h := bu_t h cc
      refine bw_ls (ls1 := [(3, .int x3)]) [3] rfl ?_
      obtain rfl := Option.some.inj h
      exact K0 _ rfl
    · replace h := bu_f h cc
      refine bv_iconst (v := 0) dX12_leftBy_11 (by decide) ?_
      refine bv_istore (ls1 := [(0, .ref 164), (1, .int x1), (2, .int x2), (3, .int x3), (4, .int x4), (5, .int 0)]) dX12_leftBy_12 (by decide) rfl rfl ?_
      refine bv_iconst (v := 0) dX12_leftBy_14 (by decide) ?_
      refine bv_istore (ls1 := [(0, .ref 164), (1, .int x1), (2, .int x2), (3, .int x3), (4, .int x4), (5, .int 0), (6, .int 0)]) dX12_leftBy_15 (by decide) rfl rfl ?_
      obtain ⟨r1, p2, h⟩ := bu_bd h
      refine v_X12_leftBy_l17 hN hR 1000 _ _ _ p2 (fun y3 hy => ?_)
      · subst hy
        refine bv_iload_n dX12_leftBy_67 3 rfl ?_
        refine bv_iload dX12_leftBy_68 5 rfl ?_
        refine bw_callS (As := [.int x3, .int y3]) dX12_leftBy_70 mc_12_388 (c_X12_greater (d := d + 0) hN hR rfl) rfl rfl (by decide) ?_
        refine bv_istore_n (ls1 := [(0, .ref 164), (1, .int x1), (2, .int x2), (3, .int (f_X12_greater x3 y3)), (4, .int x4), (5, .int y3)]) dX12_leftBy_73 (by decide) rfl rfl ?_
        refine bv_iinc (j := 4) (v := (x4 + 1)) (ls1 := [(0, .ref 164), (1, .int x1), (2, .int x2), (3, .int (f_X12_greater x3 y3)), (4, .int (x4 + 1)), (5, .int y3)]) dX12_leftBy_74 rfl rfl (by decide) rfl rfl ?_
        refine bv_goto (tgt := 5) dX12_leftBy_77 (by decide) ?_
        refine bw_ls (ls1 := [(0, .ref 164), (1, .int x1), (2, .int x2), (3, .int (f_X12_greater x3 y3)), (4, .int (x4 + 1))]) [0, 1, 2, 3, 4] rfl ?_
        exact ih _ _ _ h K0
def f_X12_leftBy (I : bm_TI) (x1 : Int32) (x2 : Int32) : Option (Int32) := ((f_X12_leftBy_l5 I x1 x2 1000 0 1).bind fun y3 => some y3)
set_option maxHeartbeats 4000000 in
set_option maxRecDepth 100000 in
theorem c_X12_leftBy {lc : bm_L} {d n : Nat} {I : bm_TI} {J : bm_TJ} {R W : bm_TR} {x1 : Int32} {x2 : Int32} {v : Int32} (hN : 181 ≤ n) (hR : bm_RR R) (h : f_X12_leftBy I x1 x2 = some v) : bm_C lc m_X12_leftBy (d + 1) n n [.ref 164, .int x1, .int x2] (I, J, R, W) (fun r M' => r = some (.int v) ∧ M' = (I, J, R, W)) := by
  refine bm_C.ofV (by decide) (Nat.le_of_ble_eq_true rfl) ?_
  show bm_V lc m_X12_leftBy (d + 1) n n n 0 [(0, .ref 164), (1, .int x1), (2, .int x2)] [] (I, J, R, W) _
  unfold f_X12_leftBy at h
  refine bv_iconst (v := 0) dX12_leftBy_0 (by decide) ?_
  refine bv_istore_n (ls1 := [(0, .ref 164), (1, .int x1), (2, .int x2), (3, .int 0)]) dX12_leftBy_1 (by decide) rfl rfl ?_
  refine bv_iconst (v := 1) dX12_leftBy_2 (by decide) ?_
  refine bv_istore (ls1 := [(0, .ref 164), (1, .int x1), (2, .int x2), (3, .int 0), (4, .int 1)]) dX12_leftBy_3 (by decide) rfl rfl ?_
  obtain ⟨r1, p2, h⟩ := bu_bd h
  refine v_X12_leftBy_l5 hN hR 1000 _ _ _ p2 (fun y3 hy => ?_)
  · subst hy
    refine bv_iload_n dX12_leftBy_80 0 rfl ?_
    obtain rfl := Option.some.inj h
    exact bv_iret (x := y3) dX12_leftBy_81 rfl ⟨rfl, rfl⟩
def f_X12_meant_l48 (I : bm_TI) : Nat → Int32 → Option (((Unit) ⊕ (Unit)))
  | 0, _ => none
  | k + 1, x1 => (if (I 164 3) ≤ x1 then some (Sum.inr ()) else ((f_X12_octet I x1).bind fun v1 => (if v1 ≤ 3 then f_X12_meant_l48 I k (x1 + 1) else some (Sum.inl ()))))
set_option maxHeartbeats 4000000 in
set_option maxRecDepth 100000 in
theorem v_X12_meant_l48 {lc : bm_L} {d n : Nat} {Q : Option Value → bm_M → Prop} {R : bm_TR} {I : bm_TI} {J : bm_TJ} {W : bm_TR} (hN : 181 ≤ n) (hR : bm_RR R) : ∀ (k : Nat) (x1 : Int32) (r : ((Unit) ⊕ (Unit))), f_X12_meant_l48 I k x1 = some r → (∀ yy, (Sum.inl yy) = r → bm_V lc m_X12_meant (d + 2) n n n 65 [] [] (I, J, R, W) Q) → (∀ yy, (Sum.inr yy) = r → bm_V lc m_X12_meant (d + 2) n n n 73 [(0, .ref 164)] [] (I, J, R, W) Q) → bm_V lc m_X12_meant (d + 2) n n n 48 [(0, .ref 164), (1, .int x1)] [] (I, J, R, W) Q := by
  intro k
  induction k with
  | zero => intro x1 r h; cases (show (none : Option (((Unit) ⊕ (Unit)))) = some r from h)
  | succ k ih =>
    intro x1 r h K0 K1
    unfold f_X12_meant_l48 at h
    refine bv_iload_n dX12_meant_48 1 rfl ?_
    refine bv_aload_n dX12_meant_49 0 rfl ?_
    refine bz_getI hN okL_164 dX12_meant_50 fl_12_18 rfl ?_
    refine bv_icmp_ge (tgt := 73) dX12_meant_53 (by decide) (fun cc => ?_) (fun cc => ?_)
    · replace h := bu_t h cc
      refine bw_ls (ls1 := [(0, .ref 164)]) [0] rfl ?_
      obtain rfl := Option.some.inj h
      exact K1 _ rfl
    · replace h := bu_f h cc
      refine bv_aload_n dX12_meant_56 0 rfl ?_
      refine bv_iload_n dX12_meant_57 1 rfl ?_
      obtain ⟨v1, p2, h⟩ := bu_bd h
      refine bw_callV (As := [.int x1]) hN okL_164 ⟨_, _, rfl⟩ dX12_meant_58 mc_12_385 (c_X12_octet (d := d + 1) hN hR p2) rfl rfl (by decide) ?_
      refine bv_iconst (v := 3) dX12_meant_61 (by decide) ?_
      refine bv_icmp_le (tgt := 67) dX12_meant_62 (by decide) (fun cc => ?_) (fun cc => ?_)
      · replace h := bu_t h cc
        refine bv_iinc (j := 1) (v := (x1 + 1)) (ls1 := [(0, .ref 164), (1, .int (x1 + 1))]) dX12_meant_67 rfl rfl (by decide) rfl rfl ?_
        refine bv_goto (tgt := 48) dX12_meant_70 (by decide) ?_
        exact ih _ _ h K0 K1
      · replace h := bu_f h cc
        refine bw_ls (ls1 := []) [] rfl ?_
        obtain rfl := Option.some.inj h
        exact K0 _ rfl
def f_X12_meant_l81 (I : bm_TI) : Nat → Int32 → Int32 → Int32 → Option (Int32 × Int32)
  | 0, _, _, _ => none
  | k + 1, x1, x2, x3 => (if (I 166 1) ≤ x3 then some (x1, x2) else ((f_X12_wrongBy I x3).bind fun v1 => (if v1 ≤ x1 then (if x1 ≤ v1 then f_X12_meant_l81 I k v1 (x2 ||| (bm_ishl 1 x3)) (x3 + 1) else f_X12_meant_l81 I k v1 (bm_ishl 1 x3) (x3 + 1)) else f_X12_meant_l81 I k x1 x2 (x3 + 1))))
set_option maxHeartbeats 4000000 in
set_option maxRecDepth 100000 in
theorem v_X12_meant_l81 {lc : bm_L} {d n : Nat} {Q : Option Value → bm_M → Prop} {R : bm_TR} {I : bm_TI} {J : bm_TJ} {W : bm_TR} (hN : 181 ≤ n) (hR : bm_RR R) : ∀ (k : Nat) (x1 : Int32) (x2 : Int32) (x3 : Int32) (r : Int32 × Int32), f_X12_meant_l81 I k x1 x2 x3 = some r → (∀ yy, yy = r → bm_V lc m_X12_meant (d + 2) n n n 134 [(0, .ref 164), (1, .int yy.1), (2, .int yy.2)] [] (I, J, R, W) Q) → bm_V lc m_X12_meant (d + 2) n n n 81 [(0, .ref 164), (1, .int x1), (2, .int x2), (3, .int x3)] [] (I, J, R, W) Q := by
  intro k
  induction k with
  | zero => intro x1 x2 x3 r h; cases (show (none : Option (Int32 × Int32)) = some r from h)
  | succ k ih =>
    intro x1 x2 x3 r h K0
    unfold f_X12_meant_l81 at h
    refine bv_iload_n dX12_meant_81 3 rfl ?_
    refine bv_aload_n dX12_meant_82 0 rfl ?_
    refine bz_getA (a := 166) hN okL_164 (hR _ _ _ r0_164_6) dX12_meant_83 fl_12_33 rfl ?_
    refine bv_iconst (v := 1) dX12_meant_86 (by decide) ?_
    refine bz_iald (j := 1) hN rkL_166 (bm_ix_in (by decide)) (by decide) dX12_meant_87 ?_
    refine bv_icmp_ge (tgt := 134) dX12_meant_88 (by decide) (fun cc => ?_) (fun cc => ?_)
    · replace h := bu_t h cc
      refine bw_ls (ls1 := [(0, .ref 164), (1, .int x1), (2, .int x2)]) [0, 1, 2] rfl ?_
      obtain rfl := Option.some.inj h
      exact K0 _ rfl
    · replace h := bu_f h cc
      refine bv_aload_n dX12_meant_91 0 rfl ?_
      refine bv_iload_n dX12_meant_92 3 rfl ?_
      obtain ⟨v1, p2, h⟩ := bu_bd h
      refine bw_callV (As := [.int x3]) hN okL_164 ⟨_, _, rfl⟩ dX12_meant_93 mc_12_391 (c_X12_wrongBy (d := d + 0) hN hR p2) rfl rfl (by decide) ?_
      refine bv_istore (ls1 := [(0, .ref 164), (1, .int x1), (2, .int x2), (3, .int x3), (4, .int v1)]) dX12_meant_96 (by decide) rfl rfl ?_
      refine bv_iload dX12_meant_98 4 rfl ?_
      refine bv_iload_n dX12_meant_100 1 rfl ?_
      refine bv_icmp_le (tgt := 107) dX12_meant_101 (by decide) (fun cc => ?_) (fun cc => ?_)
      · replace h := bu_t h cc
        refine bv_iload dX12_meant_107 4 rfl ?_
        refine bv_iload_n dX12_meant_109 1 rfl ?_
        refine bv_icmp_ge (tgt := 119) dX12_meant_110 (by decide) (fun cc => ?_) (fun cc => ?_)
        · replace h := bu_t h cc
          refine bv_iload_n dX12_meant_119 2 rfl ?_
          refine bv_iconst (v := 1) dX12_meant_120 (by decide) ?_
          refine bv_iload_n dX12_meant_121 3 rfl ?_
          refine bv_ishl dX12_meant_122 ?_
          refine bv_ior dX12_meant_123 ?_
          refine bv_istore_n (ls1 := [(0, .ref 164), (1, .int x1), (2, .int (x2 ||| (bm_ishl 1 x3))), (3, .int x3), (4, .int v1)]) dX12_meant_124 (by decide) rfl rfl ?_
          refine bv_iload dX12_meant_125 4 rfl ?_
          refine bv_istore_n (ls1 := [(0, .ref 164), (1, .int v1), (2, .int (x2 ||| (bm_ishl 1 x3))), (3, .int x3), (4, .int v1)]) dX12_meant_127 (by decide) rfl rfl ?_
          refine bv_iinc (j := 3) (v := (x3 + 1)) (ls1 := [(0, .ref 164), (1, .int v1), (2, .int (x2 ||| (bm_ishl 1 x3))), (3, .int (x3 + 1)), (4, .int v1)]) dX12_meant_128 rfl rfl (by decide) rfl rfl ?_
          refine bv_goto (tgt := 81) dX12_meant_131 (by decide) ?_
          refine bw_ls (ls1 := [(0, .ref 164), (1, .int v1), (2, .int (x2 ||| (bm_ishl 1 x3))), (3, .int (x3 + 1))]) [0, 1, 2, 3] rfl ?_
          exact ih _ _ _ _ h K0
        · replace h := bu_f h cc
          refine bv_iconst (v := 1) dX12_meant_113 (by decide) ?_
          refine bv_iload_n dX12_meant_114 3 rfl ?_
          refine bv_ishl dX12_meant_115 ?_
          refine bv_goto (tgt := 124) dX12_meant_116 (by decide) ?_
          refine bv_istore_n (ls1 := [(0, .ref 164), (1, .int x1), (2, .int (bm_ishl 1 x3)), (3, .int x3), (4, .int v1)]) dX12_meant_124 (by decide) rfl rfl ?_
          refine bv_iload dX12_meant_125 4 rfl ?_
          refine bv_istore_n (ls1 := [(0, .ref 164), (1, .int v1), (2, .int (bm_ishl 1 x3)), (3, .int x3), (4, .int v1)]) dX12_meant_127 (by decide) rfl rfl ?_
          refine bv_iinc (j := 3) (v := (x3 + 1)) (ls1 := [(0, .ref 164), (1, .int v1), (2, .int (bm_ishl 1 x3)), (3, .int (x3 + 1)), (4, .int v1)]) dX12_meant_128 rfl rfl (by decide) rfl rfl ?_
          refine bv_goto (tgt := 81) dX12_meant_131 (by decide) ?_
          refine bw_ls (ls1 := [(0, .ref 164), (1, .int v1), (2, .int (bm_ishl 1 x3)), (3, .int (x3 + 1))]) [0, 1, 2, 3] rfl ?_
          exact ih _ _ _ _ h K0
      · replace h := bu_f h cc
        refine bv_goto (tgt := 128) dX12_meant_104 (by decide) ?_
        refine bv_iinc (j := 3) (v := (x3 + 1)) (ls1 := [(0, .ref 164), (1, .int x1), (2, .int x2), (3, .int (x3 + 1)), (4, .int v1)]) dX12_meant_128 rfl rfl (by decide) rfl rfl ?_
        refine bv_goto (tgt := 81) dX12_meant_131 (by decide) ?_
        refine bw_ls (ls1 := [(0, .ref 164), (1, .int x1), (2, .int x2), (3, .int (x3 + 1))]) [0, 1, 2, 3] rfl ?_
        exact ih _ _ _ _ h K0
def f_X12_meant (I : bm_TI) : Option (Int32 × bm_TI) := ((f_X12_taken (bm_uI I 164 0 0) 940).bind fun v1 => (if (f_X12_isIn (v1 164 3) 2 12) = true then (if (bm_rem (v1 164 3) 2) = 1 then some ((-1), v1) else (if (v1 166 1) = 0 then some ((-1), v1) else ((f_X12_meant_l48 v1 1000 0).bind fun rr => match rr with | (Sum.inl y5) => some ((-1), v1) | (Sum.inr y5) => ((f_X12_meant_l81 v1 1000 1000000 0 0).bind fun y8 => ((f_X12_leftBy (bm_uI v1 164 27 y8.1) y8.2 46).bind fun v9 => ((f_X12_leftBy (bm_uI v1 164 27 y8.1) y8.2 39).bind fun v11 => (if v11 ≤ v9 then some (y8.2, (bm_uI (bm_uI v1 164 27 y8.1) 164 28 0)) else some (y8.2, (bm_uI (bm_uI v1 164 27 y8.1) 164 28 1))))))))) else some ((-1), v1)))
set_option maxHeartbeats 4000000 in
set_option maxRecDepth 100000 in
theorem c_X12_meant {lc : bm_L} {d n : Nat} {I : bm_TI} {J : bm_TJ} {R W : bm_TR} {v : Int32 × bm_TI} (hN : 181 ≤ n) (hR : bm_RR R) (h : f_X12_meant I = some v) : bm_C lc m_X12_meant (d + 2) n n [.ref 164] (I, J, R, W) (fun r M' => r = some (.int v.1) ∧ M' = (v.2, J, R, W)) := by
  refine bm_C.ofV (by decide) (Nat.le_of_ble_eq_true rfl) ?_
  show bm_V lc m_X12_meant (d + 2) n n n 0 [(0, .ref 164)] [] (I, J, R, W) _
  unfold f_X12_meant at h
  refine bv_aload_n dX12_meant_0 0 rfl ?_
  refine bv_iconst (v := 0) dX12_meant_1 (by decide) ?_
  refine bz_putI hN okL_164 dX12_meant_2 fl_12_1 rfl ?_
  refine bv_aload_n dX12_meant_5 0 rfl ?_
  refine bv_sipush (v := 940) dX12_meant_6 (by decide) ?_
  obtain ⟨v1, p2, h⟩ := bu_bd h
  refine bw_callVv (As := [.int 940]) hN okL_164 ⟨_, _, rfl⟩ dX12_meant_9 mc_12_264 (c_X12_taken (d := d + 1) hN hR p2) rfl rfl (by decide) ?_
  refine bv_aload_n dX12_meant_12 0 rfl ?_
  refine bz_getI hN okL_164 dX12_meant_13 fl_12_18 rfl ?_
  refine bv_iconst (v := 2) dX12_meant_16 (by decide) ?_
  refine bv_bipush (v := 12) dX12_meant_17 (by decide) ?_
  refine bw_callS (As := [.int (v1 164 3), .int 2, .int 12]) dX12_meant_19 mc_12_206 (c_X12_isIn (d := d + 1) hN hR rfl) rfl rfl (by decide) ?_
  refine bw_ifB_eq (b := (f_X12_isIn (v1 164 3) 2 12)) (tgt := 44) dX12_meant_22 (by decide) (fun cc => ?_) (fun cc => ?_)
  · replace h := bu_bf h cc
    refine bv_iconst (v := (-1)) dX12_meant_44 (by decide) ?_
    obtain rfl := Option.some.inj h
    exact bv_iret (x := (-1)) dX12_meant_45 rfl ⟨rfl, rfl⟩
  · replace h := bu_bt h cc
    refine bv_aload_n dX12_meant_25 0 rfl ?_
    refine bz_getI hN okL_164 dX12_meant_26 fl_12_18 rfl ?_
    refine bv_iconst (v := 2) dX12_meant_29 (by decide) ?_
    refine bv_irem dX12_meant_30 (by decide) ?_
    refine bv_iconst (v := 1) dX12_meant_31 (by decide) ?_
    refine bv_icmp_eq (tgt := 44) dX12_meant_32 (by decide) (fun cc => ?_) (fun cc => ?_)
    · replace h := bu_t h cc
      refine bv_iconst (v := (-1)) dX12_meant_44 (by decide) ?_
      obtain rfl := Option.some.inj h
      exact bv_iret (x := (-1)) dX12_meant_45 rfl ⟨rfl, rfl⟩
    · replace h := bu_f h cc
      refine bv_aload_n dX12_meant_35 0 rfl ?_
      refine bz_getA (a := 166) hN okL_164 (hR _ _ _ r0_164_6) dX12_meant_36 fl_12_33 rfl ?_
      refine bv_iconst (v := 1) dX12_meant_39 (by decide) ?_
      refine bz_iald (j := 1) hN rkL_166 (bm_ix_in (by decide)) (by decide) dX12_meant_40 ?_
      refine bv_if_ne (tgt := 46) dX12_meant_41 (by decide) (fun cc => ?_) (fun cc => ?_)
      · replace h := bu_f h cc
        refine bv_iconst (v := 0) dX12_meant_46 (by decide) ?_
        refine bv_istore_n (ls1 := [(0, .ref 164), (1, .int 0)]) dX12_meant_47 (by decide) rfl rfl ?_
        obtain ⟨r3, p4, h⟩ := bu_bd h
        refine v_X12_meant_l48 hN hR 1000 _ _ p4 (fun y5 hy => ?_) (fun y5 hy => ?_)
        · subst hy
          refine bv_iconst (v := (-1)) dX12_meant_65 (by decide) ?_
          obtain rfl := Option.some.inj h
          exact bv_iret (x := (-1)) dX12_meant_66 rfl ⟨rfl, rfl⟩
        · subst hy
          refine bv_ldcw (v := 1000000) dX12_meant_73 cst_12_381 ?_
          refine bv_istore_n (ls1 := [(0, .ref 164), (1, .int 1000000)]) dX12_meant_76 (by decide) rfl rfl ?_
          refine bv_iconst (v := 0) dX12_meant_77 (by decide) ?_
          refine bv_istore_n (ls1 := [(0, .ref 164), (1, .int 1000000), (2, .int 0)]) dX12_meant_78 (by decide) rfl rfl ?_
          refine bv_iconst (v := 0) dX12_meant_79 (by decide) ?_
          refine bv_istore_n (ls1 := [(0, .ref 164), (1, .int 1000000), (2, .int 0), (3, .int 0)]) dX12_meant_80 (by decide) rfl rfl ?_
          obtain ⟨r6, p7, h⟩ := bu_bd h
          refine v_X12_meant_l81 hN hR 1000 _ _ _ _ p7 (fun y8 hy => ?_)
          · subst hy
            refine bv_aload_n dX12_meant_134 0 rfl ?_
            refine bv_iload_n dX12_meant_135 1 rfl ?_
            refine bz_putI hN okL_164 dX12_meant_136 fl_12_65 rfl ?_
            refine bv_aload_n dX12_meant_139 0 rfl ?_
            refine bv_aload_n dX12_meant_140 0 rfl ?_
            refine bv_iload_n dX12_meant_141 2 rfl ?_
            refine bv_bipush (v := 46) dX12_meant_142 (by decide) ?_
            obtain ⟨v9, p10, h⟩ := bu_bd h
            refine bw_callV (As := [.int y8.2, .int 46]) hN okL_164 ⟨_, _, rfl⟩ dX12_meant_144 mc_12_394 (c_X12_leftBy (d := d + 0) hN hR p10) rfl rfl (Nat.le_of_ble_eq_true rfl) ?_
            refine bv_aload_n dX12_meant_147 0 rfl ?_
            refine bv_iload_n dX12_meant_148 2 rfl ?_
            refine bv_bipush (v := 39) dX12_meant_149 (by decide) ?_
            obtain ⟨v11, p12, h⟩ := bu_bd h
            refine bw_callV (As := [.int y8.2, .int 39]) hN okL_164 ⟨_, _, rfl⟩ dX12_meant_151 mc_12_394 (c_X12_leftBy (d := d + 0) hN hR p12) rfl rfl (Nat.le_of_ble_eq_true rfl) ?_
            refine bv_icmp_ge (tgt := 161) dX12_meant_154 (by decide) (fun cc => ?_) (fun cc => ?_)
            · replace h := bu_t h cc
              refine bv_iconst (v := 0) dX12_meant_161 (by decide) ?_
              refine bz_putI hN okL_164 dX12_meant_162 fl_12_68 rfl ?_
              refine bv_iload_n dX12_meant_165 2 rfl ?_
              obtain rfl := Option.some.inj h
              exact bv_iret (x := y8.2) dX12_meant_166 rfl ⟨rfl, rfl⟩
            · replace h := bu_f h cc
              refine bv_iconst (v := 1) dX12_meant_157 (by decide) ?_
              refine bv_goto (tgt := 162) dX12_meant_158 (by decide) ?_
              refine bz_putI hN okL_164 dX12_meant_162 fl_12_68 rfl ?_
              refine bv_iload_n dX12_meant_165 2 rfl ?_
              obtain rfl := Option.some.inj h
              exact bv_iret (x := y8.2) dX12_meant_166 rfl ⟨rfl, rfl⟩
      · replace h := bu_t h cc
        refine bv_iconst (v := (-1)) dX12_meant_44 (by decide) ?_
        obtain rfl := Option.some.inj h
        exact bv_iret (x := (-1)) dX12_meant_45 rfl ⟨rfl, rfl⟩
def f_X12_wrong (I : bm_TI) : Option (Int32 × bm_TI) := some (((bm_uI I 164 0 0) 164 27), (bm_uI I 164 0 0))
set_option maxHeartbeats 4000000 in
set_option maxRecDepth 100000 in
theorem c_X12_wrong {lc : bm_L} {d n : Nat} {I : bm_TI} {J : bm_TJ} {R W : bm_TR} {v : Int32 × bm_TI} (hN : 181 ≤ n) (hR : bm_RR R) (h : f_X12_wrong I = some v) : bm_C lc m_X12_wrong d n n [.ref 164] (I, J, R, W) (fun r M' => r = some (.int v.1) ∧ M' = (v.2, J, R, W)) := by
  refine bm_C.ofV (by decide) (Nat.le_of_ble_eq_true rfl) ?_
  show bm_V lc m_X12_wrong d n n n 0 [(0, .ref 164)] [] (I, J, R, W) _
  unfold f_X12_wrong at h
  refine bv_aload_n dX12_wrong_0 0 rfl ?_
  refine bv_iconst (v := 0) dX12_wrong_1 (by decide) ?_
  refine bz_putI hN okL_164 dX12_wrong_2 fl_12_1 rfl ?_
  refine bv_aload_n dX12_wrong_5 0 rfl ?_
  refine bz_getI hN okL_164 dX12_wrong_6 fl_12_65 rfl ?_
  obtain rfl := Option.some.inj h
  exact bv_iret (x := ((bm_uI I 164 0 0) 164 27)) dX12_wrong_9 rfl ⟨rfl, rfl⟩
def f_X12_look (I : bm_TI) : Option (Int32 × bm_TI) := some (((bm_uI I 164 0 0) 164 28), (bm_uI I 164 0 0))
set_option maxHeartbeats 4000000 in
set_option maxRecDepth 100000 in
theorem c_X12_look {lc : bm_L} {d n : Nat} {I : bm_TI} {J : bm_TJ} {R W : bm_TR} {v : Int32 × bm_TI} (hN : 181 ≤ n) (hR : bm_RR R) (h : f_X12_look I = some v) : bm_C lc m_X12_look d n n [.ref 164] (I, J, R, W) (fun r M' => r = some (.int v.1) ∧ M' = (v.2, J, R, W)) := by
  refine bm_C.ofV (by decide) (Nat.le_of_ble_eq_true rfl) ?_
  show bm_V lc m_X12_look d n n n 0 [(0, .ref 164)] [] (I, J, R, W) _
  unfold f_X12_look at h
  refine bv_aload_n dX12_look_0 0 rfl ?_
  refine bv_iconst (v := 0) dX12_look_1 (by decide) ?_
  refine bz_putI hN okL_164 dX12_look_2 fl_12_1 rfl ?_
  refine bv_aload_n dX12_look_5 0 rfl ?_
  refine bz_getI hN okL_164 dX12_look_6 fl_12_68 rfl ?_
  obtain rfl := Option.some.inj h
  exact bv_iret (x := ((bm_uI I 164 0 0) 164 28)) dX12_look_9 rfl ⟨rfl, rfl⟩
def f_X12_code_l31 (I : bm_TI) (x1 : Int32) (x2 : Int32) (x3 : Int32) (x4 : Int32) : Nat → Int32 → Int32 → Option (Int32)
  | 0, _, _ => none
  | k + 1, x5, x6 => (if (I 166 1) ≤ x6 then some x5 else (if bm_ix 287 (39 + x6) = true then (if x3 = (I 166 (39 + x6).toNatClampNeg) then (if bm_ix 287 (46 + x6) = true then (if x4 = (I 166 (46 + x6).toNatClampNeg) then f_X12_code_l31 I x1 x2 x3 x4 k (f_X12_lesser x5 (0 + 0)) (x6 + 1) else f_X12_code_l31 I x1 x2 x3 x4 k (f_X12_lesser x5 (0 + 1)) (x6 + 1)) else none) else (if bm_ix 287 (46 + x6) = true then (if x4 = (I 166 (46 + x6).toNatClampNeg) then f_X12_code_l31 I x1 x2 x3 x4 k (f_X12_lesser x5 (1 + 0)) (x6 + 1) else f_X12_code_l31 I x1 x2 x3 x4 k (f_X12_lesser x5 (1 + 1)) (x6 + 1)) else none)) else none))
set_option maxHeartbeats 4000000 in
set_option maxRecDepth 100000 in
theorem v_X12_code_l31 {lc : bm_L} {d n : Nat} {Q : Option Value → bm_M → Prop} {R : bm_TR} {I : bm_TI} {J : bm_TJ} {W : bm_TR} {x1 : Int32} {x2 : Int32} {x3 : Int32} {x4 : Int32} (hN : 181 ≤ n) (hR : bm_RR R) : ∀ (k : Nat) (x5 : Int32) (x6 : Int32) (r : Int32), f_X12_code_l31 I x1 x2 x3 x4 k x5 x6 = some r → (∀ yy, yy = r → bm_V lc m_X12_code (d + 1) n n n 95 [(0, .ref 164), (1, .int x1), (2, .int x2), (3, .int x3), (4, .int x4), (5, .int yy)] [] (I, J, R, W) Q) → bm_V lc m_X12_code (d + 1) n n n 31 [(0, .ref 164), (1, .int x1), (2, .int x2), (3, .int x3), (4, .int x4), (5, .int x5), (6, .int x6)] [] (I, J, R, W) Q := by
  intro k
  induction k with
  | zero => intro x5 x6 r h; cases (show (none : Option (Int32)) = some r from h)
  | succ k ih =>
    intro x5 x6 r h K0
    unfold f_X12_code_l31 at h
    refine bv_iload dX12_code_31 6 rfl ?_
    refine bv_aload_n dX12_code_33 0 rfl ?_
    refine bz_getA (a := 166) hN okL_164 (hR _ _ _ r0_164_6) dX12_code_34 fl_12_33 rfl ?_
    refine bv_iconst (v := 1) dX12_code_37 (by decide) ?_
    refine bz_iald (j := 1) hN rkL_166 (bm_ix_in (by decide)) (by decide) dX12_code_38 ?_
    refine bv_icmp_ge (tgt := 95) dX12_code_39 (by decide) (fun cc => ?_) (fun cc => ?_)
    · replace h := bu_t h cc
      refine bw_ls (ls1 := [(0, .ref 164), (1, .int x1), (2, .int x2), (3, .int x3), (4, .int x4), (5, .int x5)]) [0, 1, 2, 3, 4, 5] rfl ?_
      obtain rfl := Option.some.inj h
      exact K0 _ rfl
    · replace h := bu_f h cc
      refine bv_iload dX12_code_42 5 rfl ?_
      refine bv_iload_n dX12_code_44 3 rfl ?_
      refine bv_aload_n dX12_code_45 0 rfl ?_
      refine bz_getA (a := 166) hN okL_164 (hR _ _ _ r0_164_6) dX12_code_46 fl_12_33 rfl ?_
      refine bv_bipush (v := 39) dX12_code_49 (by decide) ?_
      refine bv_iload dX12_code_51 6 rfl ?_
      refine bv_iadd dX12_code_53 ?_
      obtain ⟨r1, h⟩ := bu_ix h
      refine bz_iald hN rkL_166 r1 rfl dX12_code_54 ?_
      refine bv_icmp_ne (tgt := 62) dX12_code_55 (by decide) (fun cc => ?_) (fun cc => ?_)
      · replace h := bu_f h cc
        refine bv_iconst (v := 1) dX12_code_62 (by decide) ?_
        refine bv_iload dX12_code_63 4 rfl ?_
        refine bv_aload_n dX12_code_65 0 rfl ?_
        refine bz_getA (a := 166) hN okL_164 (hR _ _ _ r0_164_6) dX12_code_66 fl_12_33 rfl ?_
        refine bv_bipush (v := 46) dX12_code_69 (by decide) ?_
        refine bv_iload dX12_code_71 6 rfl ?_
        refine bv_iadd dX12_code_73 ?_
        obtain ⟨r2, h⟩ := bu_ix h
        refine bz_iald hN rkL_166 r2 rfl dX12_code_74 ?_
        refine bv_icmp_ne (tgt := 82) dX12_code_75 (by decide) (fun cc => ?_) (fun cc => ?_)
        · replace h := bu_f h cc
          refine bv_iconst (v := 1) dX12_code_82 (by decide) ?_
          refine bv_iadd dX12_code_83 ?_
          refine bw_callS (As := [.int x5, .int (1 + 1)]) dX12_code_84 mc_12_279 (c_X12_lesser (d := d + 0) hN hR rfl) rfl rfl (by decide) ?_
          refine bv_istore (ls1 := [(0, .ref 164), (1, .int x1), (2, .int x2), (3, .int x3), (4, .int x4), (5, .int (f_X12_lesser x5 (1 + 1))), (6, .int x6)]) dX12_code_87 (by decide) rfl rfl ?_
          refine bv_iinc (j := 6) (v := (x6 + 1)) (ls1 := [(0, .ref 164), (1, .int x1), (2, .int x2), (3, .int x3), (4, .int x4), (5, .int (f_X12_lesser x5 (1 + 1))), (6, .int (x6 + 1))]) dX12_code_89 rfl rfl (by decide) rfl rfl ?_
          refine bv_goto (tgt := 31) dX12_code_92 (by decide) ?_
          exact ih _ _ _ h K0
        · replace h := bu_t h cc
          refine bv_iconst (v := 0) dX12_code_78 (by decide) ?_
          refine bv_goto (tgt := 83) dX12_code_79 (by decide) ?_
          refine bv_iadd dX12_code_83 ?_
          refine bw_callS (As := [.int x5, .int (1 + 0)]) dX12_code_84 mc_12_279 (c_X12_lesser (d := d + 0) hN hR rfl) rfl rfl (by decide) ?_
          refine bv_istore (ls1 := [(0, .ref 164), (1, .int x1), (2, .int x2), (3, .int x3), (4, .int x4), (5, .int (f_X12_lesser x5 (1 + 0))), (6, .int x6)]) dX12_code_87 (by decide) rfl rfl ?_
          refine bv_iinc (j := 6) (v := (x6 + 1)) (ls1 := [(0, .ref 164), (1, .int x1), (2, .int x2), (3, .int x3), (4, .int x4), (5, .int (f_X12_lesser x5 (1 + 0))), (6, .int (x6 + 1))]) dX12_code_89 rfl rfl (by decide) rfl rfl ?_
          refine bv_goto (tgt := 31) dX12_code_92 (by decide) ?_
          exact ih _ _ _ h K0
      · replace h := bu_t h cc
        refine bv_iconst (v := 0) dX12_code_58 (by decide) ?_
        refine bv_goto (tgt := 63) dX12_code_59 (by decide) ?_
        refine bv_iload dX12_code_63 4 rfl ?_
        refine bv_aload_n dX12_code_65 0 rfl ?_
        refine bz_getA (a := 166) hN okL_164 (hR _ _ _ r0_164_6) dX12_code_66 fl_12_33 rfl ?_
        refine bv_bipush (v := 46) dX12_code_69 (by decide) ?_
        refine bv_iload dX12_code_71 6 rfl ?_
        refine bv_iadd dX12_code_73 ?_
        obtain ⟨r3, h⟩ := bu_ix h
        refine bz_iald hN rkL_166 r3 rfl dX12_code_74 ?_
        refine bv_icmp_ne (tgt := 82) dX12_code_75 (by decide) (fun cc => ?_) (fun cc => ?_)
        · replace h := bu_f h cc
          refine bv_iconst (v := 1) dX12_code_82 (by decide) ?_
          refine bv_iadd dX12_code_83 ?_
          refine bw_callS (As := [.int x5, .int (0 + 1)]) dX12_code_84 mc_12_279 (c_X12_lesser (d := d + 0) hN hR rfl) rfl rfl (by decide) ?_
          refine bv_istore (ls1 := [(0, .ref 164), (1, .int x1), (2, .int x2), (3, .int x3), (4, .int x4), (5, .int (f_X12_lesser x5 (0 + 1))), (6, .int x6)]) dX12_code_87 (by decide) rfl rfl ?_
          refine bv_iinc (j := 6) (v := (x6 + 1)) (ls1 := [(0, .ref 164), (1, .int x1), (2, .int x2), (3, .int x3), (4, .int x4), (5, .int (f_X12_lesser x5 (0 + 1))), (6, .int (x6 + 1))]) dX12_code_89 rfl rfl (by decide) rfl rfl ?_
          refine bv_goto (tgt := 31) dX12_code_92 (by decide) ?_
          exact ih _ _ _ h K0
        · replace h := bu_t h cc
          refine bv_iconst (v := 0) dX12_code_78 (by decide) ?_
          refine bv_goto (tgt := 83) dX12_code_79 (by decide) ?_
          refine bv_iadd dX12_code_83 ?_
          refine bw_callS (As := [.int x5, .int (0 + 0)]) dX12_code_84 mc_12_279 (c_X12_lesser (d := d + 0) hN hR rfl) rfl rfl (by decide) ?_
          refine bv_istore (ls1 := [(0, .ref 164), (1, .int x1), (2, .int x2), (3, .int x3), (4, .int x4), (5, .int (f_X12_lesser x5 (0 + 0))), (6, .int x6)]) dX12_code_87 (by decide) rfl rfl ?_
          refine bv_iinc (j := 6) (v := (x6 + 1)) (ls1 := [(0, .ref 164), (1, .int x1), (2, .int x2), (3, .int x3), (4, .int x4), (5, .int (f_X12_lesser x5 (0 + 0))), (6, .int (x6 + 1))]) dX12_code_89 rfl rfl (by decide) rfl rfl ?_
          refine bv_goto (tgt := 31) dX12_code_92 (by decide) ?_
          exact ih _ _ _ h K0
def f_X12_code_l19 (I : bm_TI) (x3 : Int32) : Nat → Int32 → Int32 → Int32 → Option (Int32 × Int32)
  | 0, _, _, _ => none
  | k + 1, x1, x2, x4 => (if 4 ≤ x4 then some (x1, x2) else ((f_X12_code_l31 I x1 x2 x3 x4 1000 2 0).bind fun y3 => ((f_X12_orderBy I x3 x4).bind fun v4 => (if 0 ≤ v4 then f_X12_code_l19 I x3 k x1 x2 (x4 + 1) else (if x2 < y3 then f_X12_code_l19 I x3 k ((4 * x3) + x4) y3 (x4 + 1) else f_X12_code_l19 I x3 k x1 x2 (x4 + 1))))))
set_option maxHeartbeats 4000000 in
set_option maxRecDepth 100000 in
theorem v_X12_code_l19 {lc : bm_L} {d n : Nat} {Q : Option Value → bm_M → Prop} {R : bm_TR} {I : bm_TI} {J : bm_TJ} {W : bm_TR} {x3 : Int32} (hN : 181 ≤ n) (hR : bm_RR R) : ∀ (k : Nat) (x1 : Int32) (x2 : Int32) (x4 : Int32) (r : Int32 × Int32), f_X12_code_l19 I x3 k x1 x2 x4 = some r → (∀ yy, yy = r → bm_V lc m_X12_code (d + 1) n n n 130 [(0, .ref 164), (1, .int yy.1), (2, .int yy.2), (3, .int x3)] [] (I, J, R, W) Q) → bm_V lc m_X12_code (d + 1) n n n 19 [(0, .ref 164), (1, .int x1), (2, .int x2), (3, .int x3), (4, .int x4)] [] (I, J, R, W) Q := by
  intro k
  induction k with
  | zero => intro x1 x2 x4 r h; cases (show (none : Option (Int32 × Int32)) = some r from h)
  | succ k ih =>
    intro x1 x2 x4 r h K0
    unfold f_X12_code_l19 at h
    refine bv_iload dX12_code_19 4 rfl ?_
    refine bv_iconst (v := 4) dX12_code_21 (by decide) ?_
    refine bv_icmp_ge (tgt := 130) dX12_code_22 (by decide) (fun cc => ?_) (fun cc => ?_)
    · replace h := bu_t h cc
      refine bw_ls (ls1 := [(0, .ref 164), (1, .int x1), (2, .int x2), (3, .int x3)]) [0, 1, 2, 3] rfl ?_
      obtain rfl := Option.some.inj h
      exact K0 _ rfl
    · replace h := bu_f h cc
      refine bv_iconst (v := 2) dX12_code_25 (by decide) ?_
      refine bv_istore (ls1 := [(0, .ref 164), (1, .int x1), (2, .int x2), (3, .int x3), (4, .int x4), (5, .int 2)]) dX12_code_26 (by decide) rfl rfl ?_
      refine bv_iconst (v := 0) dX12_code_28 (by decide) ?_
      refine bv_istore (ls1 := [(0, .ref 164), (1, .int x1), (2, .int x2), (3, .int x3), (4, .int x4), (5, .int 2), (6, .int 0)]) dX12_code_29 (by decide) rfl rfl ?_
      obtain ⟨r1, p2, h⟩ := bu_bd h
      refine v_X12_code_l31 hN hR 1000 _ _ _ p2 (fun y3 hy => ?_)
      · subst hy
        refine bv_aload_n dX12_code_95 0 rfl ?_
        refine bv_iload_n dX12_code_96 3 rfl ?_
        refine bv_iload dX12_code_97 4 rfl ?_
        obtain ⟨v4, p5, h⟩ := bu_bd h
        refine bw_callV (As := [.int x3, .int x4]) hN okL_164 ⟨_, _, rfl⟩ dX12_code_99 mc_12_319 (c_X12_orderBy (d := d + 0) hN hR p5) rfl rfl (by decide) ?_
        refine bv_if_ge (tgt := 124) dX12_code_102 (by decide) (fun cc => ?_) (fun cc => ?_)
        · replace h := bu_t h cc
          refine bv_iinc (j := 4) (v := (x4 + 1)) (ls1 := [(0, .ref 164), (1, .int x1), (2, .int x2), (3, .int x3), (4, .int (x4 + 1)), (5, .int y3)]) dX12_code_124 rfl rfl (by decide) rfl rfl ?_
          refine bv_goto (tgt := 19) dX12_code_127 (by decide) ?_
          refine bw_ls (ls1 := [(0, .ref 164), (1, .int x1), (2, .int x2), (3, .int x3), (4, .int (x4 + 1))]) [0, 1, 2, 3, 4] rfl ?_
          exact ih _ _ _ _ h K0
        · replace h := bu_f h cc
          refine bv_iload dX12_code_105 5 rfl ?_
          refine bv_iload_n dX12_code_107 2 rfl ?_
          refine bv_icmp_gt (tgt := 114) dX12_code_108 (by decide) (fun cc => ?_) (fun cc => ?_)
          · replace h := bu_t h cc
            refine bv_iload dX12_code_114 5 rfl ?_
            refine bv_istore_n (ls1 := [(0, .ref 164), (1, .int x1), (2, .int y3), (3, .int x3), (4, .int x4), (5, .int y3)]) dX12_code_116 (by decide) rfl rfl ?_
            refine bv_iconst (v := 4) dX12_code_117 (by decide) ?_
            refine bv_iload_n dX12_code_118 3 rfl ?_
            refine bv_imul dX12_code_119 ?_
            refine bv_iload dX12_code_120 4 rfl ?_
            refine bv_iadd dX12_code_122 ?_
            refine bv_istore_n (ls1 := [(0, .ref 164), (1, .int ((4 * x3) + x4)), (2, .int y3), (3, .int x3), (4, .int x4), (5, .int y3)]) dX12_code_123 (by decide) rfl rfl ?_
            refine bv_iinc (j := 4) (v := (x4 + 1)) (ls1 := [(0, .ref 164), (1, .int ((4 * x3) + x4)), (2, .int y3), (3, .int x3), (4, .int (x4 + 1)), (5, .int y3)]) dX12_code_124 rfl rfl (by decide) rfl rfl ?_
            refine bv_goto (tgt := 19) dX12_code_127 (by decide) ?_
            refine bw_ls (ls1 := [(0, .ref 164), (1, .int ((4 * x3) + x4)), (2, .int y3), (3, .int x3), (4, .int (x4 + 1))]) [0, 1, 2, 3, 4] rfl ?_
            exact ih _ _ _ _ h K0
          · replace h := bu_f h cc
            refine bv_goto (tgt := 124) dX12_code_111 (by decide) ?_
            refine bv_iinc (j := 4) (v := (x4 + 1)) (ls1 := [(0, .ref 164), (1, .int x1), (2, .int x2), (3, .int x3), (4, .int (x4 + 1)), (5, .int y3)]) dX12_code_124 rfl rfl (by decide) rfl rfl ?_
            refine bv_goto (tgt := 19) dX12_code_127 (by decide) ?_
            refine bw_ls (ls1 := [(0, .ref 164), (1, .int x1), (2, .int x2), (3, .int x3), (4, .int (x4 + 1))]) [0, 1, 2, 3, 4] rfl ?_
            exact ih _ _ _ _ h K0
def f_X12_code_l11 (I : bm_TI) : Nat → Int32 → Int32 → Int32 → Option (Int32)
  | 0, _, _, _ => none
  | k + 1, x1, x2, x3 => (if 4 ≤ x3 then some x1 else ((f_X12_code_l19 I x3 1000 x1 x2 1).bind fun y3 => f_X12_code_l11 I k y3.1 y3.2 (x3 + 1)))
set_option maxHeartbeats 4000000 in
set_option maxRecDepth 100000 in
theorem v_X12_code_l11 {lc : bm_L} {d n : Nat} {Q : Option Value → bm_M → Prop} {R : bm_TR} {I : bm_TI} {J : bm_TJ} {W : bm_TR} (hN : 181 ≤ n) (hR : bm_RR R) : ∀ (k : Nat) (x1 : Int32) (x2 : Int32) (x3 : Int32) (r : Int32), f_X12_code_l11 I k x1 x2 x3 = some r → (∀ yy, yy = r → bm_V lc m_X12_code (d + 1) n n n 136 [(1, .int yy)] [] (I, J, R, W) Q) → bm_V lc m_X12_code (d + 1) n n n 11 [(0, .ref 164), (1, .int x1), (2, .int x2), (3, .int x3)] [] (I, J, R, W) Q := by
  intro k
  induction k with
  | zero => intro x1 x2 x3 r h; cases (show (none : Option (Int32)) = some r from h)
  | succ k ih =>
    intro x1 x2 x3 r h K0
    unfold f_X12_code_l11 at h
    refine bv_iload_n dX12_code_11 3 rfl ?_
    refine bv_iconst (v := 4) dX12_code_12 (by decide) ?_
    refine bv_icmp_ge (tgt := 136) dX12_code_13 (by decide) (fun cc => ?_) (fun cc => ?_)
    · replace h := bu_t h cc
      refine bw_ls (ls1 := [(1, .int x1)]) [1] rfl ?_
      obtain rfl := Option.some.inj h
      exact K0 _ rfl
    · replace h := bu_f h cc
      refine bv_iconst (v := 1) dX12_code_16 (by decide) ?_
      refine bv_istore (ls1 := [(0, .ref 164), (1, .int x1), (2, .int x2), (3, .int x3), (4, .int 1)]) dX12_code_17 (by decide) rfl rfl ?_
      obtain ⟨r1, p2, h⟩ := bu_bd h
      refine v_X12_code_l19 hN hR 1000 _ _ _ _ p2 (fun y3 hy => ?_)
      · subst hy
        refine bv_iinc (j := 3) (v := (x3 + 1)) (ls1 := [(0, .ref 164), (1, .int y3.1), (2, .int y3.2), (3, .int (x3 + 1))]) dX12_code_130 rfl rfl (by decide) rfl rfl ?_
        refine bv_goto (tgt := 11) dX12_code_133 (by decide) ?_
        exact ih _ _ _ _ h K0
def f_X12_code (I : bm_TI) : Option (Int32 × bm_TI) := ((f_X12_code_l11 (bm_uI I 164 0 0) 1000 0 (-1) 1).bind fun y3 => some (y3, (bm_uI I 164 0 0)))
set_option maxHeartbeats 4000000 in
set_option maxRecDepth 100000 in
theorem c_X12_code {lc : bm_L} {d n : Nat} {I : bm_TI} {J : bm_TJ} {R W : bm_TR} {v : Int32 × bm_TI} (hN : 181 ≤ n) (hR : bm_RR R) (h : f_X12_code I = some v) : bm_C lc m_X12_code (d + 1) n n [.ref 164] (I, J, R, W) (fun r M' => r = some (.int v.1) ∧ M' = (v.2, J, R, W)) := by
  refine bm_C.ofV (by decide) (Nat.le_of_ble_eq_true rfl) ?_
  show bm_V lc m_X12_code (d + 1) n n n 0 [(0, .ref 164)] [] (I, J, R, W) _
  unfold f_X12_code at h
  refine bv_aload_n dX12_code_0 0 rfl ?_
  refine bv_iconst (v := 0) dX12_code_1 (by decide) ?_
  refine bz_putI hN okL_164 dX12_code_2 fl_12_1 rfl ?_
  refine bv_iconst (v := 0) dX12_code_5 (by decide) ?_
  refine bv_istore_n (ls1 := [(0, .ref 164), (1, .int 0)]) dX12_code_6 (by decide) rfl rfl ?_
  refine bv_iconst (v := (-1)) dX12_code_7 (by decide) ?_
  refine bv_istore_n (ls1 := [(0, .ref 164), (1, .int 0), (2, .int (-1))]) dX12_code_8 (by decide) rfl rfl ?_
  refine bv_iconst (v := 1) dX12_code_9 (by decide) ?_
  refine bv_istore_n (ls1 := [(0, .ref 164), (1, .int 0), (2, .int (-1)), (3, .int 1)]) dX12_code_10 (by decide) rfl rfl ?_
  obtain ⟨r1, p2, h⟩ := bu_bd h
  refine v_X12_code_l11 hN hR 1000 _ _ _ _ p2 (fun y3 hy => ?_)
  · subst hy
    refine bv_iload_n dX12_code_136 0 rfl ?_
    obtain rfl := Option.some.inj h
    exact bv_iret (x := y3) dX12_code_137 rfl ⟨rfl, rfl⟩
def f_X12_isScratch_l4 (I : bm_TI) (x1 : Int32) : Nat → Bool → Int32 → Option (Bool)
  | 0, _, _ => none
  | k + 1, x2, x3 => (if (I 164 3) ≤ x3 then some x2 else (if x2 = true then ((f_X12_octet I x3).bind fun v1 => ((f_X12_readsOne I v1 x1).bind fun v3 => ((f_X12_octet I (x3 + 1)).bind fun v5 => (if v5 = 1 then (if (bm_bi v3) = 1 then f_X12_isScratch_l4 I x1 k true (x3 + 2) else f_X12_isScratch_l4 I x1 k false (x3 + 2)) else (if (bm_bi v3) = 0 then f_X12_isScratch_l4 I x1 k true (x3 + 2) else f_X12_isScratch_l4 I x1 k false (x3 + 2)))))) else f_X12_isScratch_l4 I x1 k false (x3 + 2)))
set_option maxHeartbeats 4000000 in
set_option maxRecDepth 100000 in
theorem v_X12_isScratch_l4 {lc : bm_L} {d n : Nat} {Q : Option Value → bm_M → Prop} {R : bm_TR} {I : bm_TI} {J : bm_TJ} {W : bm_TR} {x1 : Int32} (hN : 181 ≤ n) (hR : bm_RR R) : ∀ (k : Nat) (x2 : Bool) (x3 : Int32) (r : Bool), f_X12_isScratch_l4 I x1 k x2 x3 = some r → (∀ yy, yy = r → bm_V lc m_X12_isScratch (d + 5) n n n 57 [(2, .int (bm_bi yy))] [] (I, J, R, W) Q) → bm_V lc m_X12_isScratch (d + 5) n n n 4 [(0, .ref 164), (1, .int x1), (2, .int (bm_bi x2)), (3, .int x3)] [] (I, J, R, W) Q := by
  intro k
  induction k with
  | zero => intro x2 x3 r h; cases (show (none : Option (Bool)) = some r from h)
  | succ k ih =>
    intro x2 x3 r h K0
    unfold f_X12_isScratch_l4 at h
    refine bv_iload_n dX12_isScratch_4 3 rfl ?_
    refine bv_aload_n dX12_isScratch_5 0 rfl ?_
    refine bz_getI hN okL_164 dX12_isScratch_6 fl_12_18 rfl ?_
    refine bv_icmp_ge (tgt := 57) dX12_isScratch_9 (by decide) (fun cc => ?_) (fun cc => ?_)
    · replace h := bu_t h cc
      refine bw_ls (ls1 := [(2, .int (bm_bi x2))]) [2] rfl ?_
      obtain rfl := Option.some.inj h
      exact K0 _ rfl
    · replace h := bu_f h cc
      refine bv_iload_n dX12_isScratch_12 2 rfl ?_
      refine bw_ifB_eq (b := x2) (tgt := 49) dX12_isScratch_13 (by decide) (fun cc => ?_) (fun cc => ?_)
      · replace h := bu_bf h cc
        refine bv_iconst (v := 0) dX12_isScratch_49 (by decide) ?_
        refine bv_istore_n (ls1 := [(0, .ref 164), (1, .int x1), (2, .int 0), (3, .int x3)]) dX12_isScratch_50 (by decide) rfl rfl ?_
        refine bv_iinc (j := 3) (v := (x3 + 2)) (ls1 := [(0, .ref 164), (1, .int x1), (2, .int 0), (3, .int (x3 + 2))]) dX12_isScratch_51 rfl rfl (by decide) rfl rfl ?_
        refine bv_goto (tgt := 4) dX12_isScratch_54 (by decide) ?_
        exact ih _ _ _ h K0
      · replace h := bu_bt h cc
        refine bv_aload_n dX12_isScratch_16 0 rfl ?_
        refine bv_aload_n dX12_isScratch_17 0 rfl ?_
        refine bv_iload_n dX12_isScratch_18 3 rfl ?_
        obtain ⟨v1, p2, h⟩ := bu_bd h
        refine bw_callV (As := [.int x3]) hN okL_164 ⟨_, _, rfl⟩ dX12_isScratch_19 mc_12_385 (c_X12_octet (d := d + 4) hN hR p2) rfl rfl (Nat.le_of_ble_eq_true rfl) ?_
        refine bv_iload_n dX12_isScratch_22 1 rfl ?_
        obtain ⟨v3, p4, h⟩ := bu_bd h
        refine bw_callV (As := [.int v1, .int x1]) hN okL_164 ⟨_, _, rfl⟩ dX12_isScratch_23 mc_12_300 (c_X12_readsOne (d := d + 0) hN hR p4) rfl rfl (by decide) ?_
        refine bv_aload_n dX12_isScratch_26 0 rfl ?_
        refine bv_iload_n dX12_isScratch_27 3 rfl ?_
        refine bv_iconst (v := 1) dX12_isScratch_28 (by decide) ?_
        refine bv_iadd dX12_isScratch_29 ?_
        obtain ⟨v5, p6, h⟩ := bu_bd h
        refine bw_callV (As := [.int (x3 + 1)]) hN okL_164 ⟨_, _, rfl⟩ dX12_isScratch_30 mc_12_385 (c_X12_octet (d := d + 4) hN hR p6) rfl rfl (Nat.le_of_ble_eq_true rfl) ?_
        refine bv_iconst (v := 1) dX12_isScratch_33 (by decide) ?_
        refine bv_icmp_ne (tgt := 41) dX12_isScratch_34 (by decide) (fun cc => ?_) (fun cc => ?_)
        · replace h := bu_f h cc
          refine bv_iconst (v := 0) dX12_isScratch_41 (by decide) ?_
          refine bv_icmp_ne (tgt := 49) dX12_isScratch_42 (by decide) (fun cc => ?_) (fun cc => ?_)
          · replace h := bu_f h cc
            refine bv_iconst (v := 0) dX12_isScratch_49 (by decide) ?_
            refine bv_istore_n (ls1 := [(0, .ref 164), (1, .int x1), (2, .int 0), (3, .int x3)]) dX12_isScratch_50 (by decide) rfl rfl ?_
            refine bv_iinc (j := 3) (v := (x3 + 2)) (ls1 := [(0, .ref 164), (1, .int x1), (2, .int 0), (3, .int (x3 + 2))]) dX12_isScratch_51 rfl rfl (by decide) rfl rfl ?_
            refine bv_goto (tgt := 4) dX12_isScratch_54 (by decide) ?_
            exact ih _ _ _ h K0
          · replace h := bu_t h cc
            refine bv_iconst (v := 1) dX12_isScratch_45 (by decide) ?_
            refine bv_goto (tgt := 50) dX12_isScratch_46 (by decide) ?_
            refine bv_istore_n (ls1 := [(0, .ref 164), (1, .int x1), (2, .int 1), (3, .int x3)]) dX12_isScratch_50 (by decide) rfl rfl ?_
            refine bv_iinc (j := 3) (v := (x3 + 2)) (ls1 := [(0, .ref 164), (1, .int x1), (2, .int 1), (3, .int (x3 + 2))]) dX12_isScratch_51 rfl rfl (by decide) rfl rfl ?_
            refine bv_goto (tgt := 4) dX12_isScratch_54 (by decide) ?_
            exact ih _ _ _ h K0
        · replace h := bu_t h cc
          refine bv_iconst (v := 1) dX12_isScratch_37 (by decide) ?_
          refine bv_goto (tgt := 42) dX12_isScratch_38 (by decide) ?_
          refine bv_icmp_ne (tgt := 49) dX12_isScratch_42 (by decide) (fun cc => ?_) (fun cc => ?_)
          · replace h := bu_f h cc
            refine bv_iconst (v := 0) dX12_isScratch_49 (by decide) ?_
            refine bv_istore_n (ls1 := [(0, .ref 164), (1, .int x1), (2, .int 0), (3, .int x3)]) dX12_isScratch_50 (by decide) rfl rfl ?_
            refine bv_iinc (j := 3) (v := (x3 + 2)) (ls1 := [(0, .ref 164), (1, .int x1), (2, .int 0), (3, .int (x3 + 2))]) dX12_isScratch_51 rfl rfl (by decide) rfl rfl ?_
            refine bv_goto (tgt := 4) dX12_isScratch_54 (by decide) ?_
            exact ih _ _ _ h K0
          · replace h := bu_t h cc
            refine bv_iconst (v := 1) dX12_isScratch_45 (by decide) ?_
            refine bv_goto (tgt := 50) dX12_isScratch_46 (by decide) ?_
            refine bv_istore_n (ls1 := [(0, .ref 164), (1, .int x1), (2, .int 1), (3, .int x3)]) dX12_isScratch_50 (by decide) rfl rfl ?_
            refine bv_iinc (j := 3) (v := (x3 + 2)) (ls1 := [(0, .ref 164), (1, .int x1), (2, .int 1), (3, .int (x3 + 2))]) dX12_isScratch_51 rfl rfl (by decide) rfl rfl ?_
            refine bv_goto (tgt := 4) dX12_isScratch_54 (by decide) ?_
            exact ih _ _ _ h K0
def f_X12_isScratch (I : bm_TI) (x1 : Int32) : Option (Bool) := ((f_X12_isScratch_l4 I x1 1000 true 0).bind fun y3 => some y3)
set_option maxHeartbeats 4000000 in
set_option maxRecDepth 100000 in
theorem c_X12_isScratch {lc : bm_L} {d n : Nat} {I : bm_TI} {J : bm_TJ} {R W : bm_TR} {x1 : Int32} {v : Bool} (hN : 181 ≤ n) (hR : bm_RR R) (h : f_X12_isScratch I x1 = some v) : bm_C lc m_X12_isScratch (d + 5) n n [.ref 164, .int x1] (I, J, R, W) (fun r M' => r = some (.int (bm_bi v)) ∧ M' = (I, J, R, W)) := by
  refine bm_C.ofV (by decide) (Nat.le_of_ble_eq_true rfl) ?_
  show bm_V lc m_X12_isScratch (d + 5) n n n 0 [(0, .ref 164), (1, .int x1)] [] (I, J, R, W) _
  unfold f_X12_isScratch at h
  refine bv_iconst (v := 1) dX12_isScratch_0 (by decide) ?_
  refine bv_istore_n (ls1 := [(0, .ref 164), (1, .int x1), (2, .int 1)]) dX12_isScratch_1 (by decide) rfl rfl ?_
  refine bv_iconst (v := 0) dX12_isScratch_2 (by decide) ?_
  refine bv_istore_n (ls1 := [(0, .ref 164), (1, .int x1), (2, .int 1), (3, .int 0)]) dX12_isScratch_3 (by decide) rfl rfl ?_
  obtain ⟨r1, p2, h⟩ := bu_bd h
  refine v_X12_isScratch_l4 hN hR 1000 _ _ _ p2 (fun y3 hy => ?_)
  · subst hy
    refine bv_iload_n dX12_isScratch_57 0 rfl ?_
    obtain rfl := Option.some.inj h
    exact bw_bret (b := y3) dX12_isScratch_58 rfl ⟨rfl, rfl⟩
def f_X12_scratch_l39 (I : bm_TI) : Nat → Int32 → Option (((Unit) ⊕ (Unit)))
  | 0, _ => none
  | k + 1, x1 => (if (I 164 3) ≤ x1 then some (Sum.inr ()) else ((f_X12_octet I x1).bind fun v1 => ((f_X12_isMan I v1).bind fun v3 => (if v3 = true then ((f_X12_octet I (x1 + 1)).bind fun v5 => (if v5 ≤ 1 then f_X12_scratch_l39 I k (x1 + 2) else some (Sum.inl ()))) else some (Sum.inl ())))))
set_option maxHeartbeats 4000000 in
set_option maxRecDepth 100000 in
theorem v_X12_scratch_l39 {lc : bm_L} {d n : Nat} {Q : Option Value → bm_M → Prop} {R : bm_TR} {I : bm_TI} {J : bm_TJ} {W : bm_TR} (hN : 181 ≤ n) (hR : bm_RR R) : ∀ (k : Nat) (x1 : Int32) (r : ((Unit) ⊕ (Unit))), f_X12_scratch_l39 I k x1 = some r → (∀ yy, (Sum.inl yy) = r → bm_V lc m_X12_scratch (d + 6) n n n 70 [] [] (I, J, R, W) Q) → (∀ yy, (Sum.inr yy) = r → bm_V lc m_X12_scratch (d + 6) n n n 78 [(0, .ref 164)] [] (I, J, R, W) Q) → bm_V lc m_X12_scratch (d + 6) n n n 39 [(0, .ref 164), (1, .int x1)] [] (I, J, R, W) Q := by
  intro k
  induction k with
  | zero => intro x1 r h; cases (show (none : Option (((Unit) ⊕ (Unit)))) = some r from h)
  | succ k ih =>
    intro x1 r h K0 K1
    unfold f_X12_scratch_l39 at h
    refine bv_iload_n dX12_scratch_39 1 rfl ?_
    refine bv_aload_n dX12_scratch_40 0 rfl ?_
    refine bz_getI hN okL_164 dX12_scratch_41 fl_12_18 rfl ?_
    refine bv_icmp_ge (tgt := 78) dX12_scratch_44 (by decide) (fun cc => ?_) (fun cc => ?_)
    · replace h := bu_t h cc
      refine bw_ls (ls1 := [(0, .ref 164)]) [0] rfl ?_
      obtain rfl := Option.some.inj h
      exact K1 _ rfl
    · replace h := bu_f h cc
      refine bv_aload_n dX12_scratch_47 0 rfl ?_
      refine bv_aload_n dX12_scratch_48 0 rfl ?_
      refine bv_iload_n dX12_scratch_49 1 rfl ?_
      obtain ⟨v1, p2, h⟩ := bu_bd h
      refine bw_callV (As := [.int x1]) hN okL_164 ⟨_, _, rfl⟩ dX12_scratch_50 mc_12_385 (c_X12_octet (d := d + 5) hN hR p2) rfl rfl (Nat.le_of_ble_eq_true rfl) ?_
      obtain ⟨v3, p4, h⟩ := bu_bd h
      refine bw_callV (As := [.int v1]) hN okL_164 ⟨_, _, rfl⟩ dX12_scratch_53 mc_12_303 (c_X12_isMan (d := d + 4) hN hR p4) rfl rfl (by decide) ?_
      refine bw_ifB_eq (b := v3) (tgt := 70) dX12_scratch_56 (by decide) (fun cc => ?_) (fun cc => ?_)
      · replace h := bu_bf h cc
        refine bw_ls (ls1 := []) [] rfl ?_
        obtain rfl := Option.some.inj h
        exact K0 _ rfl
      · replace h := bu_bt h cc
        refine bv_aload_n dX12_scratch_59 0 rfl ?_
        refine bv_iload_n dX12_scratch_60 1 rfl ?_
        refine bv_iconst (v := 1) dX12_scratch_61 (by decide) ?_
        refine bv_iadd dX12_scratch_62 ?_
        obtain ⟨v5, p6, h⟩ := bu_bd h
        refine bw_callV (As := [.int (x1 + 1)]) hN okL_164 ⟨_, _, rfl⟩ dX12_scratch_63 mc_12_385 (c_X12_octet (d := d + 5) hN hR p6) rfl rfl (by decide) ?_
        refine bv_iconst (v := 1) dX12_scratch_66 (by decide) ?_
        refine bv_icmp_le (tgt := 72) dX12_scratch_67 (by decide) (fun cc => ?_) (fun cc => ?_)
        · replace h := bu_t h cc
          refine bv_iinc (j := 1) (v := (x1 + 2)) (ls1 := [(0, .ref 164), (1, .int (x1 + 2))]) dX12_scratch_72 rfl rfl (by decide) rfl rfl ?_
          refine bv_goto (tgt := 39) dX12_scratch_75 (by decide) ?_
          exact ih _ _ h K0 K1
        · replace h := bu_f h cc
          refine bw_ls (ls1 := []) [] rfl ?_
          obtain rfl := Option.some.inj h
          exact K0 _ rfl
def f_X12_scratch_l82 (I : bm_TI) : Nat → Int32 → Int32 → Option (Int32)
  | 0, _, _ => none
  | k + 1, x1, x2 => (if (I 166 0) ≤ x2 then some x1 else ((f_X12_isScratch I x2).bind fun v1 => (if v1 = true then f_X12_scratch_l82 I k (x1 ||| (bm_ishl 1 x2)) (x2 + 1) else f_X12_scratch_l82 I k (x1 ||| 0) (x2 + 1))))
set_option maxHeartbeats 4000000 in
set_option maxRecDepth 100000 in
theorem v_X12_scratch_l82 {lc : bm_L} {d n : Nat} {Q : Option Value → bm_M → Prop} {R : bm_TR} {I : bm_TI} {J : bm_TJ} {W : bm_TR} (hN : 181 ≤ n) (hR : bm_RR R) : ∀ (k : Nat) (x1 : Int32) (x2 : Int32) (r : Int32), f_X12_scratch_l82 I k x1 x2 = some r → (∀ yy, yy = r → bm_V lc m_X12_scratch (d + 6) n n n 116 [(0, .ref 164), (1, .int yy)] [] (I, J, R, W) Q) → bm_V lc m_X12_scratch (d + 6) n n n 82 [(0, .ref 164), (1, .int x1), (2, .int x2)] [] (I, J, R, W) Q := by
  intro k
  induction k with
  | zero => intro x1 x2 r h; cases (show (none : Option (Int32)) = some r from h)
  | succ k ih =>
    intro x1 x2 r h K0
    unfold f_X12_scratch_l82 at h
    refine bv_iload_n dX12_scratch_82 2 rfl ?_
    refine bv_aload_n dX12_scratch_83 0 rfl ?_
    refine bz_getA (a := 166) hN okL_164 (hR _ _ _ r0_164_6) dX12_scratch_84 fl_12_33 rfl ?_
    refine bv_iconst (v := 0) dX12_scratch_87 (by decide) ?_
    refine bz_iald (j := 0) hN rkL_166 (bm_ix_in (by decide)) (by decide) dX12_scratch_88 ?_
    refine bv_icmp_ge (tgt := 116) dX12_scratch_89 (by decide) (fun cc => ?_) (fun cc => ?_)
    · replace h := bu_t h cc
      refine bw_ls (ls1 := [(0, .ref 164), (1, .int x1)]) [0, 1] rfl ?_
      obtain rfl := Option.some.inj h
      exact K0 _ rfl
    · replace h := bu_f h cc
      refine bv_iload_n dX12_scratch_92 1 rfl ?_
      refine bv_aload_n dX12_scratch_93 0 rfl ?_
      refine bv_iload_n dX12_scratch_94 2 rfl ?_
      obtain ⟨v1, p2, h⟩ := bu_bd h
      refine bw_callV (As := [.int x2]) hN okL_164 ⟨_, _, rfl⟩ dX12_scratch_95 mc_12_397 (c_X12_isScratch (d := d + 0) hN hR p2) rfl rfl (Nat.le_of_ble_eq_true rfl) ?_
      refine bw_ifB_eq (b := v1) (tgt := 107) dX12_scratch_98 (by decide) (fun cc => ?_) (fun cc => ?_)
      · replace h := bu_bf h cc
        refine bv_iconst (v := 0) dX12_scratch_107 (by decide) ?_
        refine bv_ior dX12_scratch_108 ?_
        refine bv_istore_n (ls1 := [(0, .ref 164), (1, .int (x1 ||| 0)), (2, .int x2)]) dX12_scratch_109 (by decide) rfl rfl ?_
        refine bv_iinc (j := 2) (v := (x2 + 1)) (ls1 := [(0, .ref 164), (1, .int (x1 ||| 0)), (2, .int (x2 + 1))]) dX12_scratch_110 rfl rfl (by decide) rfl rfl ?_
        refine bv_goto (tgt := 82) dX12_scratch_113 (by decide) ?_
        exact ih _ _ _ h K0
      · replace h := bu_bt h cc
        refine bv_iconst (v := 1) dX12_scratch_101 (by decide) ?_
        refine bv_iload_n dX12_scratch_102 2 rfl ?_
        refine bv_ishl dX12_scratch_103 ?_
        refine bv_goto (tgt := 108) dX12_scratch_104 (by decide) ?_
        refine bv_ior dX12_scratch_108 ?_
        refine bv_istore_n (ls1 := [(0, .ref 164), (1, .int (x1 ||| (bm_ishl 1 x2))), (2, .int x2)]) dX12_scratch_109 (by decide) rfl rfl ?_
        refine bv_iinc (j := 2) (v := (x2 + 1)) (ls1 := [(0, .ref 164), (1, .int (x1 ||| (bm_ishl 1 x2))), (2, .int (x2 + 1))]) dX12_scratch_110 rfl rfl (by decide) rfl rfl ?_
        refine bv_goto (tgt := 82) dX12_scratch_113 (by decide) ?_
        exact ih _ _ _ h K0
def f_X12_scratch_l149 (I : bm_TI) (x1 : Int32) (x2 : Int32) (x3 : Int32) : Nat → Int32 → Int32 → Option (Int32)
  | 0, _, _ => none
  | k + 1, x4, x5 => (if (I 166 0) ≤ x5 then some x4 else (if (f_X12_bitOf x1 x5) = true then ((f_X12_readsOne I x3 x5).bind fun v1 => (if v1 = true then f_X12_scratch_l149 I x1 x2 x3 k (x4 + 1) (x5 + 1) else f_X12_scratch_l149 I x1 x2 x3 k (x4 + 0) (x5 + 1))) else f_X12_scratch_l149 I x1 x2 x3 k (x4 + 0) (x5 + 1)))
set_option maxHeartbeats 4000000 in
set_option maxRecDepth 100000 in
theorem v_X12_scratch_l149 {lc : bm_L} {d n : Nat} {Q : Option Value → bm_M → Prop} {R : bm_TR} {I : bm_TI} {J : bm_TJ} {W : bm_TR} {x1 : Int32} {x2 : Int32} {x3 : Int32} (hN : 181 ≤ n) (hR : bm_RR R) : ∀ (k : Nat) (x4 : Int32) (x5 : Int32) (r : Int32), f_X12_scratch_l149 I x1 x2 x3 k x4 x5 = some r → (∀ yy, yy = r → bm_V lc m_X12_scratch (d + 6) n n n 195 [(0, .ref 164), (1, .int x1), (2, .int x2), (3, .int x3), (4, .int yy)] [] (I, J, R, W) Q) → bm_V lc m_X12_scratch (d + 6) n n n 149 [(0, .ref 164), (1, .int x1), (2, .int x2), (3, .int x3), (4, .int x4), (5, .int x5)] [] (I, J, R, W) Q := by
  intro k
  induction k with
  | zero => intro x4 x5 r h; cases (show (none : Option (Int32)) = some r from h)
  | succ k ih =>
    intro x4 x5 r h K0
    unfold f_X12_scratch_l149 at h
    refine bv_iload dX12_scratch_149 5 rfl ?_
    refine bv_aload_n dX12_scratch_151 0 rfl ?_
    refine bz_getA (a := 166) hN okL_164 (hR _ _ _ r0_164_6) dX12_scratch_152 fl_12_33 rfl ?_
    refine bv_iconst (v := 0) dX12_scratch_155 (by decide) ?_
    refine bz_iald (j := 0) hN rkL_166 (bm_ix_in (by decide)) (by decide) dX12_scratch_156 ?_
    refine bv_icmp_ge (tgt := 195) dX12_scratch_157 (by decide) (fun cc => ?_) (fun cc => ?_)
    · replace h := bu_t h cc
      refine bw_ls (ls1 := [(0, .ref 164), (1, .int x1), (2, .int x2), (3, .int x3), (4, .int x4)]) [0, 1, 2, 3, 4] rfl ?_
      obtain rfl := Option.some.inj h
      exact K0 _ rfl
    · replace h := bu_f h cc
      refine bv_iload dX12_scratch_160 4 rfl ?_
      refine bv_iload_n dX12_scratch_162 1 rfl ?_
      refine bv_iload dX12_scratch_163 5 rfl ?_
      refine bw_callS (As := [.int x1, .int x5]) dX12_scratch_165 mc_12_231 (c_X12_bitOf (d := d + 5) hN hR rfl) rfl rfl (Nat.le_of_ble_eq_true rfl) ?_
      refine bw_ifB_eq (b := (f_X12_bitOf x1 x5)) (tgt := 185) dX12_scratch_168 (by decide) (fun cc => ?_) (fun cc => ?_)
      · replace h := bu_bf h cc
        refine bv_iconst (v := 0) dX12_scratch_185 (by decide) ?_
        refine bv_iadd dX12_scratch_186 ?_
        refine bv_istore (ls1 := [(0, .ref 164), (1, .int x1), (2, .int x2), (3, .int x3), (4, .int (x4 + 0)), (5, .int x5)]) dX12_scratch_187 (by decide) rfl rfl ?_
        refine bv_iinc (j := 5) (v := (x5 + 1)) (ls1 := [(0, .ref 164), (1, .int x1), (2, .int x2), (3, .int x3), (4, .int (x4 + 0)), (5, .int (x5 + 1))]) dX12_scratch_189 rfl rfl (by decide) rfl rfl ?_
        refine bv_goto (tgt := 149) dX12_scratch_192 (by decide) ?_
        exact ih _ _ _ h K0
      · replace h := bu_bt h cc
        refine bv_aload_n dX12_scratch_171 0 rfl ?_
        refine bv_iload_n dX12_scratch_172 3 rfl ?_
        refine bv_iload dX12_scratch_173 5 rfl ?_
        obtain ⟨v1, p2, h⟩ := bu_bd h
        refine bw_callV (As := [.int x3, .int x5]) hN okL_164 ⟨_, _, rfl⟩ dX12_scratch_175 mc_12_300 (c_X12_readsOne (d := d + 1) hN hR p2) rfl rfl (Nat.le_of_ble_eq_true rfl) ?_
        refine bw_ifB_eq (b := v1) (tgt := 185) dX12_scratch_178 (by decide) (fun cc => ?_) (fun cc => ?_)
        · replace h := bu_bf h cc
          refine bv_iconst (v := 0) dX12_scratch_185 (by decide) ?_
          refine bv_iadd dX12_scratch_186 ?_
          refine bv_istore (ls1 := [(0, .ref 164), (1, .int x1), (2, .int x2), (3, .int x3), (4, .int (x4 + 0)), (5, .int x5)]) dX12_scratch_187 (by decide) rfl rfl ?_
          refine bv_iinc (j := 5) (v := (x5 + 1)) (ls1 := [(0, .ref 164), (1, .int x1), (2, .int x2), (3, .int x3), (4, .int (x4 + 0)), (5, .int (x5 + 1))]) dX12_scratch_189 rfl rfl (by decide) rfl rfl ?_
          refine bv_goto (tgt := 149) dX12_scratch_192 (by decide) ?_
          exact ih _ _ _ h K0
        · replace h := bu_bt h cc
          refine bv_iconst (v := 1) dX12_scratch_181 (by decide) ?_
          refine bv_goto (tgt := 186) dX12_scratch_182 (by decide) ?_
          refine bv_iadd dX12_scratch_186 ?_
          refine bv_istore (ls1 := [(0, .ref 164), (1, .int x1), (2, .int x2), (3, .int x3), (4, .int (x4 + 1)), (5, .int x5)]) dX12_scratch_187 (by decide) rfl rfl ?_
          refine bv_iinc (j := 5) (v := (x5 + 1)) (ls1 := [(0, .ref 164), (1, .int x1), (2, .int x2), (3, .int x3), (4, .int (x4 + 1)), (5, .int (x5 + 1))]) dX12_scratch_189 rfl rfl (by decide) rfl rfl ?_
          refine bv_goto (tgt := 149) dX12_scratch_192 (by decide) ?_
          exact ih _ _ _ h K0
def f_X12_scratch_l133 (x1 : Int32) : Nat → Int32 → Int32 → bm_TI → Option (bm_TI)
  | 0, _, _, _ => none
  | k + 1, x2, x3, I => (if (I 166 0) ≤ x3 then some I else ((f_X12_scratch_l149 I x1 x2 x3 1000 0 0).bind fun y3 => ((f_X12_bits x1).bind fun v4 => (if (f_X12_absolute (v4 - (2 * y3))) < x2 then f_X12_scratch_l133 x1 k (f_X12_absolute (v4 - (2 * y3))) (x3 + 1) (bm_uI I 164 29 x3) else f_X12_scratch_l133 x1 k x2 (x3 + 1) I))))
set_option maxHeartbeats 4000000 in
set_option maxRecDepth 100000 in
theorem v_X12_scratch_l133 {lc : bm_L} {d n : Nat} {Q : Option Value → bm_M → Prop} {R : bm_TR} {J : bm_TJ} {W : bm_TR} {x1 : Int32} (hN : 181 ≤ n) (hR : bm_RR R) : ∀ (k : Nat) (x2 : Int32) (x3 : Int32) (I : bm_TI) (r : bm_TI), f_X12_scratch_l133 x1 k x2 x3 I = some r → (∀ yy, yy = r → bm_V lc m_X12_scratch (d + 6) n n n 232 [(1, .int x1)] [] (yy, J, R, W) Q) → bm_V lc m_X12_scratch (d + 6) n n n 133 [(0, .ref 164), (1, .int x1), (2, .int x2), (3, .int x3)] [] (I, J, R, W) Q := by
  intro k
  induction k with
  | zero => intro x2 x3 I r h; cases (show (none : Option (bm_TI)) = some r from h)
  | succ k ih =>
    intro x2 x3 I r h K0
    unfold f_X12_scratch_l133 at h
    refine bv_iload_n dX12_scratch_133 3 rfl ?_
    refine bv_aload_n dX12_scratch_134 0 rfl ?_
    refine bz_getA (a := 166) hN okL_164 (hR _ _ _ r0_164_6) dX12_scratch_135 fl_12_33 rfl ?_
    refine bv_iconst (v := 0) dX12_scratch_138 (by decide) ?_
    refine bz_iald (j := 0) hN rkL_166 (bm_ix_in (by decide)) (by decide) dX12_scratch_139 ?_
    refine bv_icmp_ge (tgt := 232) dX12_scratch_140 (by decide) (fun cc => ?_) (fun cc => ?_)
    · replace h := bu_t h cc
      refine bw_ls (ls1 := [(1, .int x1)]) [1] rfl ?_
      obtain rfl := Option.some.inj h
      exact K0 _ rfl
    · replace h := bu_f h cc
      refine bv_iconst (v := 0) dX12_scratch_143 (by decide) ?_
      refine bv_istore (ls1 := [(0, .ref 164), (1, .int x1), (2, .int x2), (3, .int x3), (4, .int 0)]) dX12_scratch_144 (by decide) rfl rfl ?_
      refine bv_iconst (v := 0) dX12_scratch_146 (by decide) ?_
      refine bv_istore (ls1 := [(0, .ref 164), (1, .int x1), (2, .int x2), (3, .int x3), (4, .int 0), (5, .int 0)]) dX12_scratch_147 (by decide) rfl rfl ?_
      obtain ⟨r1, p2, h⟩ := bu_bd h
      refine v_X12_scratch_l149 hN hR 1000 _ _ _ p2 (fun y3 hy => ?_)
      · subst hy
        refine bv_iload_n dX12_scratch_195 1 rfl ?_
        obtain ⟨v4, p5, h⟩ := bu_bd h
        refine bw_callS (As := [.int x1]) dX12_scratch_196 mc_12_378 (c_X12_bits (d := d + 5) hN hR p5) rfl rfl (by decide) ?_
        refine bv_iconst (v := 2) dX12_scratch_199 (by decide) ?_
        refine bv_iload dX12_scratch_200 4 rfl ?_
        refine bv_imul dX12_scratch_202 ?_
        refine bv_isub dX12_scratch_203 ?_
        refine bw_callS (As := [.int (v4 - (2 * y3))]) dX12_scratch_204 mc_12_282 (c_X12_absolute (d := d + 5) hN hR rfl) rfl rfl (by decide) ?_
        refine bv_istore (ls1 := [(0, .ref 164), (1, .int x1), (2, .int x2), (3, .int x3), (4, .int y3), (5, .int (f_X12_absolute (v4 - (2 * y3))))]) dX12_scratch_207 (by decide) rfl rfl ?_
        refine bv_iload dX12_scratch_209 5 rfl ?_
        refine bv_iload_n dX12_scratch_211 2 rfl ?_
        refine bv_icmp_lt (tgt := 218) dX12_scratch_212 (by decide) (fun cc => ?_) (fun cc => ?_)
        · replace h := bu_t h cc
          refine bv_iload dX12_scratch_218 5 rfl ?_
          refine bv_istore_n (ls1 := [(0, .ref 164), (1, .int x1), (2, .int (f_X12_absolute (v4 - (2 * y3)))), (3, .int x3), (4, .int y3), (5, .int (f_X12_absolute (v4 - (2 * y3))))]) dX12_scratch_220 (by decide) rfl rfl ?_
          refine bv_aload_n dX12_scratch_221 0 rfl ?_
          refine bv_iload_n dX12_scratch_222 3 rfl ?_
          refine bz_putI hN okL_164 dX12_scratch_223 fl_12_404 rfl ?_
          refine bv_iinc (j := 3) (v := (x3 + 1)) (ls1 := [(0, .ref 164), (1, .int x1), (2, .int (f_X12_absolute (v4 - (2 * y3)))), (3, .int (x3 + 1)), (4, .int y3), (5, .int (f_X12_absolute (v4 - (2 * y3))))]) dX12_scratch_226 rfl rfl (by decide) rfl rfl ?_
          refine bv_goto (tgt := 133) dX12_scratch_229 (by decide) ?_
          refine bw_ls (ls1 := [(0, .ref 164), (1, .int x1), (2, .int (f_X12_absolute (v4 - (2 * y3)))), (3, .int (x3 + 1))]) [0, 1, 2, 3] rfl ?_
          exact ih _ _ _ _ h K0
        · replace h := bu_f h cc
          refine bv_goto (tgt := 226) dX12_scratch_215 (by decide) ?_
          refine bv_iinc (j := 3) (v := (x3 + 1)) (ls1 := [(0, .ref 164), (1, .int x1), (2, .int x2), (3, .int (x3 + 1)), (4, .int y3), (5, .int (f_X12_absolute (v4 - (2 * y3))))]) dX12_scratch_226 rfl rfl (by decide) rfl rfl ?_
          refine bv_goto (tgt := 133) dX12_scratch_229 (by decide) ?_
          refine bw_ls (ls1 := [(0, .ref 164), (1, .int x1), (2, .int x2), (3, .int (x3 + 1))]) [0, 1, 2, 3] rfl ?_
          exact ih _ _ _ _ h K0
def f_X12_scratch (I : bm_TI) : Option (Int32 × bm_TI) := ((f_X12_taken (bm_uI I 164 0 0) 940).bind fun v1 => (if (f_X12_isIn (v1 164 3) 2 16) = true then (if (bm_rem (v1 164 3) 2) = 1 then some ((-1), v1) else ((f_X12_scratch_l39 v1 1000 0).bind fun rr => match rr with | (Sum.inl y5) => some ((-1), v1) | (Sum.inr y5) => ((f_X12_scratch_l82 v1 1000 0 0).bind fun y8 => (if y8 = 0 then some (0, v1) else ((f_X12_scratch_l133 y8 1000 1000000 0 (bm_uI v1 164 30 (bm_bi true))).bind fun y11 => some (y8, y11)))))) else some ((-1), v1)))
set_option maxHeartbeats 4000000 in
set_option maxRecDepth 100000 in
theorem c_X12_scratch {lc : bm_L} {d n : Nat} {I : bm_TI} {J : bm_TJ} {R W : bm_TR} {v : Int32 × bm_TI} (hN : 181 ≤ n) (hR : bm_RR R) (h : f_X12_scratch I = some v) : bm_C lc m_X12_scratch (d + 6) n n [.ref 164] (I, J, R, W) (fun r M' => r = some (.int v.1) ∧ M' = (v.2, J, R, W)) := by
  refine bm_C.ofV (by decide) (Nat.le_of_ble_eq_true rfl) ?_
  show bm_V lc m_X12_scratch (d + 6) n n n 0 [(0, .ref 164)] [] (I, J, R, W) _
  unfold f_X12_scratch at h
  refine bv_aload_n dX12_scratch_0 0 rfl ?_
  refine bv_iconst (v := 0) dX12_scratch_1 (by decide) ?_
  refine bz_putI hN okL_164 dX12_scratch_2 fl_12_1 rfl ?_
  refine bv_aload_n dX12_scratch_5 0 rfl ?_
  refine bv_sipush (v := 940) dX12_scratch_6 (by decide) ?_
  obtain ⟨v1, p2, h⟩ := bu_bd h
  refine bw_callVv (As := [.int 940]) hN okL_164 ⟨_, _, rfl⟩ dX12_scratch_9 mc_12_264 (c_X12_taken (d := d + 5) hN hR p2) rfl rfl (by decide) ?_
  refine bv_aload_n dX12_scratch_12 0 rfl ?_
  refine bz_getI hN okL_164 dX12_scratch_13 fl_12_18 rfl ?_
  refine bv_iconst (v := 2) dX12_scratch_16 (by decide) ?_
  refine bv_bipush (v := 16) dX12_scratch_17 (by decide) ?_
  refine bw_callS (As := [.int (v1 164 3), .int 2, .int 16]) dX12_scratch_19 mc_12_206 (c_X12_isIn (d := d + 5) hN hR rfl) rfl rfl (by decide) ?_
  refine bw_ifB_eq (b := (f_X12_isIn (v1 164 3) 2 16)) (tgt := 35) dX12_scratch_22 (by decide) (fun cc => ?_) (fun cc => ?_)
  · replace h := bu_bf h cc
    refine bv_iconst (v := (-1)) dX12_scratch_35 (by decide) ?_
    obtain rfl := Option.some.inj h
    exact bv_iret (x := (-1)) dX12_scratch_36 rfl ⟨rfl, rfl⟩
  · replace h := bu_bt h cc
    refine bv_aload_n dX12_scratch_25 0 rfl ?_
    refine bz_getI hN okL_164 dX12_scratch_26 fl_12_18 rfl ?_
    refine bv_iconst (v := 2) dX12_scratch_29 (by decide) ?_
    refine bv_irem dX12_scratch_30 (by decide) ?_
    refine bv_iconst (v := 1) dX12_scratch_31 (by decide) ?_
    refine bv_icmp_ne (tgt := 37) dX12_scratch_32 (by decide) (fun cc => ?_) (fun cc => ?_)
    · replace h := bu_f h cc
      refine bv_iconst (v := 0) dX12_scratch_37 (by decide) ?_
      refine bv_istore_n (ls1 := [(0, .ref 164), (1, .int 0)]) dX12_scratch_38 (by decide) rfl rfl ?_
      obtain ⟨r3, p4, h⟩ := bu_bd h
      refine v_X12_scratch_l39 hN hR 1000 _ _ p4 (fun y5 hy => ?_) (fun y5 hy => ?_)
      · subst hy
        refine bv_iconst (v := (-1)) dX12_scratch_70 (by decide) ?_
        obtain rfl := Option.some.inj h
        exact bv_iret (x := (-1)) dX12_scratch_71 rfl ⟨rfl, rfl⟩
      · subst hy
        refine bv_iconst (v := 0) dX12_scratch_78 (by decide) ?_
        refine bv_istore_n (ls1 := [(0, .ref 164), (1, .int 0)]) dX12_scratch_79 (by decide) rfl rfl ?_
        refine bv_iconst (v := 0) dX12_scratch_80 (by decide) ?_
        refine bv_istore_n (ls1 := [(0, .ref 164), (1, .int 0), (2, .int 0)]) dX12_scratch_81 (by decide) rfl rfl ?_
        obtain ⟨r6, p7, h⟩ := bu_bd h
        refine v_X12_scratch_l82 hN hR 1000 _ _ _ p7 (fun y8 hy => ?_)
        · subst hy
          refine bv_iload_n dX12_scratch_116 1 rfl ?_
          refine bv_if_ne (tgt := 122) dX12_scratch_117 (by decide) (fun cc => ?_) (fun cc => ?_)
          · replace h := bu_f h cc
            refine bv_aload_n dX12_scratch_122 0 rfl ?_
            refine bv_iconst (v := 1) dX12_scratch_123 (by decide) ?_
            refine bz_putB (v := true) hN okL_164 dX12_scratch_124 fl_12_400 rfl ?_
            refine bv_ldcw (v := 1000000) dX12_scratch_127 cst_12_381 ?_
            refine bv_istore_n (ls1 := [(0, .ref 164), (1, .int y8), (2, .int 1000000)]) dX12_scratch_130 (by decide) rfl rfl ?_
            refine bv_iconst (v := 0) dX12_scratch_131 (by decide) ?_
            refine bv_istore_n (ls1 := [(0, .ref 164), (1, .int y8), (2, .int 1000000), (3, .int 0)]) dX12_scratch_132 (by decide) rfl rfl ?_
            obtain ⟨r9, p10, h⟩ := bu_bd h
            refine v_X12_scratch_l133 hN hR 1000 _ _ _ _ p10 (fun y11 hy => ?_)
            · subst hy
              refine bv_iload_n dX12_scratch_232 0 rfl ?_
              obtain rfl := Option.some.inj h
              exact bv_iret (x := y8) dX12_scratch_233 rfl ⟨rfl, rfl⟩
          · replace h := bu_t h cc
            refine bv_iconst (v := 0) dX12_scratch_120 (by decide) ?_
            obtain rfl := Option.some.inj h
            exact bv_iret (x := 0) dX12_scratch_121 rfl ⟨rfl, rfl⟩
    · replace h := bu_t h cc
      refine bv_iconst (v := (-1)) dX12_scratch_35 (by decide) ?_
      obtain rfl := Option.some.inj h
      exact bv_iret (x := (-1)) dX12_scratch_36 rfl ⟨rfl, rfl⟩
def f_X12_ask (I : bm_TI) : Option (Int32 × bm_TI) := (if ((bm_uI I 164 0 0) 164 30) = 0 then some ((-1), (bm_uI I 164 0 0)) else some (((bm_uI I 164 0 0) 164 29), (bm_uI I 164 0 0)))
set_option maxHeartbeats 4000000 in
set_option maxRecDepth 100000 in
theorem c_X12_ask {lc : bm_L} {d n : Nat} {I : bm_TI} {J : bm_TJ} {R W : bm_TR} {v : Int32 × bm_TI} (hN : 181 ≤ n) (hR : bm_RR R) (h : f_X12_ask I = some v) : bm_C lc m_X12_ask d n n [.ref 164] (I, J, R, W) (fun r M' => r = some (.int v.1) ∧ M' = (v.2, J, R, W)) := by
  refine bm_C.ofV (by decide) (Nat.le_of_ble_eq_true rfl) ?_
  show bm_V lc m_X12_ask d n n n 0 [(0, .ref 164)] [] (I, J, R, W) _
  unfold f_X12_ask at h
  refine bv_aload_n dX12_ask_0 0 rfl ?_
  refine bv_iconst (v := 0) dX12_ask_1 (by decide) ?_
  refine bz_putI hN okL_164 dX12_ask_2 fl_12_1 rfl ?_
  refine bv_aload_n dX12_ask_5 0 rfl ?_
  refine bz_getI hN okL_164 dX12_ask_6 fl_12_400 rfl ?_
  refine bv_if_eq (tgt := 19) dX12_ask_9 (by decide) (fun cc => ?_) (fun cc => ?_)
  · replace h := bu_t h cc
    refine bv_iconst (v := (-1)) dX12_ask_19 (by decide) ?_
    obtain rfl := Option.some.inj h
    exact bv_iret (x := (-1)) dX12_ask_20 rfl ⟨rfl, rfl⟩
  · replace h := bu_f h cc
    refine bv_aload_n dX12_ask_12 0 rfl ?_
    refine bz_getI hN okL_164 dX12_ask_13 fl_12_404 rfl ?_
    refine bv_goto (tgt := 20) dX12_ask_16 (by decide) ?_
    obtain rfl := Option.some.inj h
    exact bv_iret (x := ((bm_uI I 164 0 0) 164 29)) dX12_ask_20 rfl ⟨rfl, rfl⟩
def f_X12_unrest_l9 (I : bm_TI) : Nat → Int32 → Int32 → Option (Int32)
  | 0, _, _ => none
  | k + 1, x1, x2 => (if (I 166 0) ≤ x2 then some x1 else (if bm_ix 287 (31 + x2) = true then (if (I 166 (31 + x2).toNatClampNeg) ≤ 0 then f_X12_unrest_l9 I k (x1 ||| 0) (x2 + 1) else ((f_X12_browOf I x2).bind fun v2 => ((f_X12_browOf I ((I 166 (31 + x2).toNatClampNeg) - 1)).bind fun v4 => (if v2 ≤ v4 then f_X12_unrest_l9 I k (x1 ||| 0) (x2 + 1) else f_X12_unrest_l9 I k (x1 ||| (bm_ishl 1 x2)) (x2 + 1))))) else none))
set_option maxHeartbeats 4000000 in
set_option maxRecDepth 100000 in
theorem v_X12_unrest_l9 {lc : bm_L} {d n : Nat} {Q : Option Value → bm_M → Prop} {R : bm_TR} {I : bm_TI} {J : bm_TJ} {W : bm_TR} (hN : 181 ≤ n) (hR : bm_RR R) : ∀ (k : Nat) (x1 : Int32) (x2 : Int32) (r : Int32), f_X12_unrest_l9 I k x1 x2 = some r → (∀ yy, yy = r → bm_V lc m_X12_unrest (d + 2) n n n 70 [(1, .int yy)] [] (I, J, R, W) Q) → bm_V lc m_X12_unrest (d + 2) n n n 9 [(0, .ref 164), (1, .int x1), (2, .int x2)] [] (I, J, R, W) Q := by
  intro k
  induction k with
  | zero => intro x1 x2 r h; cases (show (none : Option (Int32)) = some r from h)
  | succ k ih =>
    intro x1 x2 r h K0
    unfold f_X12_unrest_l9 at h
    refine bv_iload_n dX12_unrest_9 2 rfl ?_
    refine bv_aload_n dX12_unrest_10 0 rfl ?_
    refine bz_getA (a := 166) hN okL_164 (hR _ _ _ r0_164_6) dX12_unrest_11 fl_12_33 rfl ?_
    refine bv_iconst (v := 0) dX12_unrest_14 (by decide) ?_
    refine bz_iald (j := 0) hN rkL_166 (bm_ix_in (by decide)) (by decide) dX12_unrest_15 ?_
    refine bv_icmp_ge (tgt := 70) dX12_unrest_16 (by decide) (fun cc => ?_) (fun cc => ?_)
    · replace h := bu_t h cc
      refine bw_ls (ls1 := [(1, .int x1)]) [1] rfl ?_
      obtain rfl := Option.some.inj h
      exact K0 _ rfl
    · replace h := bu_f h cc
      refine bv_iload_n dX12_unrest_19 1 rfl ?_
      refine bv_aload_n dX12_unrest_20 0 rfl ?_
      refine bz_getA (a := 166) hN okL_164 (hR _ _ _ r0_164_6) dX12_unrest_21 fl_12_33 rfl ?_
      refine bv_bipush (v := 31) dX12_unrest_24 (by decide) ?_
      refine bv_iload_n dX12_unrest_26 2 rfl ?_
      refine bv_iadd dX12_unrest_27 ?_
      obtain ⟨r1, h⟩ := bu_ix h
      refine bz_iald hN rkL_166 r1 rfl dX12_unrest_28 ?_
      refine bv_if_le (tgt := 61) dX12_unrest_29 (by decide) (fun cc => ?_) (fun cc => ?_)
      · replace h := bu_t h cc
        refine bv_iconst (v := 0) dX12_unrest_61 (by decide) ?_
        refine bv_ior dX12_unrest_62 ?_
        refine bv_istore_n (ls1 := [(0, .ref 164), (1, .int (x1 ||| 0)), (2, .int x2)]) dX12_unrest_63 (by decide) rfl rfl ?_
        refine bv_iinc (j := 2) (v := (x2 + 1)) (ls1 := [(0, .ref 164), (1, .int (x1 ||| 0)), (2, .int (x2 + 1))]) dX12_unrest_64 rfl rfl (by decide) rfl rfl ?_
        refine bv_goto (tgt := 9) dX12_unrest_67 (by decide) ?_
        exact ih _ _ _ h K0
      · replace h := bu_f h cc
        refine bv_aload_n dX12_unrest_32 0 rfl ?_
        refine bv_iload_n dX12_unrest_33 2 rfl ?_
        obtain ⟨v2, p3, h⟩ := bu_bd h
        refine bw_callV (As := [.int x2]) hN okL_164 ⟨_, _, rfl⟩ dX12_unrest_34 mc_12_290 (c_X12_browOf (d := d + 0) hN hR p3) rfl rfl (Nat.le_of_ble_eq_true rfl) ?_
        refine bv_aload_n dX12_unrest_37 0 rfl ?_
        refine bv_aload_n dX12_unrest_38 0 rfl ?_
        refine bz_getA (a := 166) hN okL_164 (hR _ _ _ r0_164_6) dX12_unrest_39 fl_12_33 rfl ?_
        refine bv_bipush (v := 31) dX12_unrest_42 (by decide) ?_
        refine bv_iload_n dX12_unrest_44 2 rfl ?_
        refine bv_iadd dX12_unrest_45 ?_
        refine bz_iald hN rkL_166 r1 rfl dX12_unrest_46 ?_
        refine bv_iconst (v := 1) dX12_unrest_47 (by decide) ?_
        refine bv_isub dX12_unrest_48 ?_
        obtain ⟨v4, p5, h⟩ := bu_bd h
        refine bw_callV (As := [.int ((I 166 (31 + x2).toNatClampNeg) - 1)]) hN okL_164 ⟨_, _, rfl⟩ dX12_unrest_49 mc_12_290 (c_X12_browOf (d := d + 0) hN hR p5) rfl rfl (Nat.le_of_ble_eq_true rfl) ?_
        refine bv_icmp_le (tgt := 61) dX12_unrest_52 (by decide) (fun cc => ?_) (fun cc => ?_)
        · replace h := bu_t h cc
          refine bv_iconst (v := 0) dX12_unrest_61 (by decide) ?_
          refine bv_ior dX12_unrest_62 ?_
          refine bv_istore_n (ls1 := [(0, .ref 164), (1, .int (x1 ||| 0)), (2, .int x2)]) dX12_unrest_63 (by decide) rfl rfl ?_
          refine bv_iinc (j := 2) (v := (x2 + 1)) (ls1 := [(0, .ref 164), (1, .int (x1 ||| 0)), (2, .int (x2 + 1))]) dX12_unrest_64 rfl rfl (by decide) rfl rfl ?_
          refine bv_goto (tgt := 9) dX12_unrest_67 (by decide) ?_
          exact ih _ _ _ h K0
        · replace h := bu_f h cc
          refine bv_iconst (v := 1) dX12_unrest_55 (by decide) ?_
          refine bv_iload_n dX12_unrest_56 2 rfl ?_
          refine bv_ishl dX12_unrest_57 ?_
          refine bv_goto (tgt := 62) dX12_unrest_58 (by decide) ?_
          refine bv_ior dX12_unrest_62 ?_
          refine bv_istore_n (ls1 := [(0, .ref 164), (1, .int (x1 ||| (bm_ishl 1 x2))), (2, .int x2)]) dX12_unrest_63 (by decide) rfl rfl ?_
          refine bv_iinc (j := 2) (v := (x2 + 1)) (ls1 := [(0, .ref 164), (1, .int (x1 ||| (bm_ishl 1 x2))), (2, .int (x2 + 1))]) dX12_unrest_64 rfl rfl (by decide) rfl rfl ?_
          refine bv_goto (tgt := 9) dX12_unrest_67 (by decide) ?_
          exact ih _ _ _ h K0
def f_X12_unrest (I : bm_TI) : Option (Int32 × bm_TI) := ((f_X12_unrest_l9 (bm_uI I 164 0 0) 1000 0 0).bind fun y3 => some (y3, (bm_uI I 164 0 0)))
set_option maxHeartbeats 4000000 in
set_option maxRecDepth 100000 in
theorem c_X12_unrest {lc : bm_L} {d n : Nat} {I : bm_TI} {J : bm_TJ} {R W : bm_TR} {v : Int32 × bm_TI} (hN : 181 ≤ n) (hR : bm_RR R) (h : f_X12_unrest I = some v) : bm_C lc m_X12_unrest (d + 2) n n [.ref 164] (I, J, R, W) (fun r M' => r = some (.int v.1) ∧ M' = (v.2, J, R, W)) := by
  refine bm_C.ofV (by decide) (Nat.le_of_ble_eq_true rfl) ?_
  show bm_V lc m_X12_unrest (d + 2) n n n 0 [(0, .ref 164)] [] (I, J, R, W) _
  unfold f_X12_unrest at h
  refine bv_aload_n dX12_unrest_0 0 rfl ?_
  refine bv_iconst (v := 0) dX12_unrest_1 (by decide) ?_
  refine bz_putI hN okL_164 dX12_unrest_2 fl_12_1 rfl ?_
  refine bv_iconst (v := 0) dX12_unrest_5 (by decide) ?_
  refine bv_istore_n (ls1 := [(0, .ref 164), (1, .int 0)]) dX12_unrest_6 (by decide) rfl rfl ?_
  refine bv_iconst (v := 0) dX12_unrest_7 (by decide) ?_
  refine bv_istore_n (ls1 := [(0, .ref 164), (1, .int 0), (2, .int 0)]) dX12_unrest_8 (by decide) rfl rfl ?_
  obtain ⟨r1, p2, h⟩ := bu_bd h
  refine v_X12_unrest_l9 hN hR 1000 _ _ _ p2 (fun y3 hy => ?_)
  · subst hy
    refine bv_iload_n dX12_unrest_70 0 rfl ?_
    obtain rfl := Option.some.inj h
    exact bv_iret (x := y3) dX12_unrest_71 rfl ⟨rfl, rfl⟩
