theorem bm_lk2 {x : Int32} {a b dd : Int} (h0 : ¬ x = 0) (h1 : ¬ x = 1) : Op.lookupswitch.offset [(0, a), (1, b)] dd x.toInt = dd := by
  have k0 : ¬ (0 : Int) = x.toInt := fun q => h0 (Int32.toInt_inj.mp q.symm)
  have k1 : ¬ (1 : Int) = x.toInt := fun q => h1 (Int32.toInt_inj.mp q.symm)
  simp [Op.lookupswitch.offset, k0, k1]
def f_X11_cell (I : bm_TI) (x1 : Int32) : Option (Int32) := (if x1 = 0 then some (I 0 14) else (if x1 = 1 then some (I 0 15) else some (-1)))
set_option maxHeartbeats 4000000 in
set_option maxRecDepth 100000 in
theorem c_X11_cell {lc : bm_L} {d n : Nat} {I : bm_TI} {J : bm_TJ} {R W : bm_TR} {x1 : Int32} {v : Int32} (hN : 181 ≤ n) (hR : bm_RR R) (h : f_X11_cell I x1 = some v) : bm_C lc m_X11_cell d n n [.ref 0, .int x1] (I, J, R, W) (fun r M' => r = some (.int v) ∧ M' = (I, J, R, W)) := by
  refine bm_C.ofV (by decide) (Nat.le_of_ble_eq_true rfl) ?_
  show bm_V lc m_X11_cell d n n n 0 [(0, .ref 0), (1, .int x1)] [] (I, J, R, W) _
  unfold f_X11_cell at h
  refine bv_iload_n dX11_cell_0 1 rfl ?_
  by_cases c1 : x1 = 0
  · replace h := bu_t h c1
    refine bv_lookup (tgt := 28) dX11_cell_1 (by decide) (by rw [c1]) (by decide) ?_
    refine bv_aload_n dX11_cell_28 0 rfl ?_
    refine bz_getI hN okL_0 dX11_cell_29 fl_11_92 rfl ?_
    obtain rfl := Option.some.inj h
    exact bv_iret (x := (I 0 14)) dX11_cell_32 rfl ⟨rfl, rfl⟩
  · replace h := bu_f h c1
    by_cases c2 : x1 = 1
    · replace h := bu_t h c2
      refine bv_lookup (tgt := 33) dX11_cell_1 (by decide) (by rw [c2]) (by decide) ?_
      refine bv_aload_n dX11_cell_33 0 rfl ?_
      refine bz_getI hN okL_0 dX11_cell_34 fl_11_96 rfl ?_
      obtain rfl := Option.some.inj h
      exact bv_iret (x := (I 0 15)) dX11_cell_37 rfl ⟨rfl, rfl⟩
    · replace h := bu_f h c2
      refine bv_lookup (off := 37) (tgt := 38) dX11_cell_1 (by decide) (bm_lk2 c1 c2) (by decide) ?_
      refine bv_iconst (v := (-1)) dX11_cell_38 (by decide) ?_
      obtain rfl := Option.some.inj h
      exact bv_iret (x := (-1)) dX11_cell_39 rfl ⟨rfl, rfl⟩
def f_X11_meant (I : bm_TI) : Option (Int32 × bm_TI) := ((f_X2_weigh I).bind fun v1 => some (v1.1, (bm_uI v1.2 1 1 0)))
set_option maxHeartbeats 4000000 in
set_option maxRecDepth 100000 in
theorem c_X11_meant {lc : bm_L} {d n : Nat} {I : bm_TI} {J : bm_TJ} {R W : bm_TR} {v : Int32 × bm_TI} (hN : 181 ≤ n) (hR : bm_RR R) (h : f_X11_meant I = some v) : bm_C lc m_X11_meant (d + 3) n n [.ref 0] (I, J, R, W) (fun r M' => r = some (.int v.1) ∧ M' = (v.2, J, R, W)) := by
  refine bm_C.ofV (by decide) (Nat.le_of_ble_eq_true rfl) ?_
  show bm_V lc m_X11_meant (d + 3) n n n 0 [(0, .ref 0)] [] (I, J, R, W) _
  unfold f_X11_meant at h
  refine bv_aload_n dX11_meant_0 0 rfl ?_
  refine bz_getA (a := 161) hN okL_0 (hR _ _ _ r0_0_11) dX11_meant_1 fl_11_81 rfl ?_
  refine bv_aload_n dX11_meant_4 0 rfl ?_
  refine bz_getA (a := 1) hN okL_0 (hR _ _ _ r0_0_0) dX11_meant_5 fl_11_12 rfl ?_
  refine bv_aload_n dX11_meant_8 0 rfl ?_
  refine bz_getA (a := 4) hN okL_0 (hR _ _ _ r0_0_2) dX11_meant_9 fl_11_28 rfl ?_
  obtain ⟨v1, p2, h⟩ := bu_bd h
  refine bw_callV (As := [.ref 1, .ref 4]) hN okL_161 ⟨_, _, rfl⟩ dX11_meant_12 mc_11_272 (c_X2_weigh (d := d + 0) hN hR p2) rfl rfl (by decide) ?_
  refine bv_istore_n (ls1 := [(0, .ref 0), (1, .int v1.1)]) dX11_meant_15 (by decide) rfl rfl ?_
  refine bv_aload_n dX11_meant_16 0 rfl ?_
  refine bz_getA (a := 1) hN okL_0 (hR _ _ _ r0_0_0) dX11_meant_17 fl_11_12 rfl ?_
  refine bv_iconst (v := 0) dX11_meant_20 (by decide) ?_
  refine bz_putI hN okL_1 dX11_meant_21 fl_11_102 rfl ?_
  refine bv_iload_n dX11_meant_24 1 rfl ?_
  obtain rfl := Option.some.inj h
  exact bv_iret (x := v1.1) dX11_meant_25 rfl ⟨rfl, rfl⟩
def f_X11_wrong (I : bm_TI) : Option (Int32) := some (I 161 0)
set_option maxHeartbeats 4000000 in
set_option maxRecDepth 100000 in
theorem c_X11_wrong {lc : bm_L} {d n : Nat} {I : bm_TI} {J : bm_TJ} {R W : bm_TR} {v : Int32} (hN : 181 ≤ n) (hR : bm_RR R) (h : f_X11_wrong I = some v) : bm_C lc m_X11_wrong d n n [.ref 0] (I, J, R, W) (fun r M' => r = some (.int v) ∧ M' = (I, J, R, W)) := by
  refine bm_C.ofV (by decide) (Nat.le_of_ble_eq_true rfl) ?_
  show bm_V lc m_X11_wrong d n n n 0 [(0, .ref 0)] [] (I, J, R, W) _
  unfold f_X11_wrong at h
  refine bv_aload_n dX11_wrong_0 0 rfl ?_
  refine bz_getA (a := 161) hN okL_0 (hR _ _ _ r0_0_11) dX11_wrong_1 fl_11_81 rfl ?_
  refine bz_getI hN okL_161 dX11_wrong_4 fl_11_276 rfl ?_
  obtain rfl := Option.some.inj h
  exact bv_iret (x := (I 161 0)) dX11_wrong_7 rfl ⟨rfl, rfl⟩
def f_X11_look (I : bm_TI) : Option (Int32) := some (I 161 1)
set_option maxHeartbeats 4000000 in
set_option maxRecDepth 100000 in
theorem c_X11_look {lc : bm_L} {d n : Nat} {I : bm_TI} {J : bm_TJ} {R W : bm_TR} {v : Int32} (hN : 181 ≤ n) (hR : bm_RR R) (h : f_X11_look I = some v) : bm_C lc m_X11_look d n n [.ref 0] (I, J, R, W) (fun r M' => r = some (.int v) ∧ M' = (I, J, R, W)) := by
  refine bm_C.ofV (by decide) (Nat.le_of_ble_eq_true rfl) ?_
  show bm_V lc m_X11_look d n n n 0 [(0, .ref 0)] [] (I, J, R, W) _
  unfold f_X11_look at h
  refine bv_aload_n dX11_look_0 0 rfl ?_
  refine bz_getA (a := 161) hN okL_0 (hR _ _ _ r0_0_11) dX11_look_1 fl_11_81 rfl ?_
  refine bz_getI hN okL_161 dX11_look_4 fl_11_279 rfl ?_
  obtain rfl := Option.some.inj h
  exact bv_iret (x := (I 161 1)) dX11_look_7 rfl ⟨rfl, rfl⟩
def f_X11_code (I : bm_TI) : Option (Int32) := ((f_X0_newLifts I).bind fun v1 => some v1)
set_option maxHeartbeats 4000000 in
set_option maxRecDepth 100000 in
theorem c_X11_code {lc : bm_L} {d n : Nat} {I : bm_TI} {J : bm_TJ} {R W : bm_TR} {v : Int32} (hN : 181 ≤ n) (hR : bm_RR R) (h : f_X11_code I = some v) : bm_C lc m_X11_code (d + 3) n n [.ref 0] (I, J, R, W) (fun r M' => r = some (.int v) ∧ M' = (I, J, R, W)) := by
  refine bm_C.ofV (by decide) (Nat.le_of_ble_eq_true rfl) ?_
  show bm_V lc m_X11_code (d + 3) n n n 0 [(0, .ref 0)] [] (I, J, R, W) _
  unfold f_X11_code at h
  refine bv_aload_n dX11_code_0 0 rfl ?_
  refine bz_getA (a := 4) hN okL_0 (hR _ _ _ r0_0_2) dX11_code_1 fl_11_28 rfl ?_
  obtain ⟨v1, p2, h⟩ := bu_bd h
  refine bw_callV (As := []) hN okL_4 ⟨_, _, rfl⟩ dX11_code_4 mc_11_282 (c_X0_newLifts (d := d + 0) hN hR p2) rfl rfl (by decide) ?_
  obtain rfl := Option.some.inj h
  exact bv_iret (x := v1) dX11_code_7 rfl ⟨rfl, rfl⟩
def f_X11_faceToAsk_l28 (I : bm_TI) (x1 : Int32) (x2 : Int32) (x3 : Int32) (x4 : Int32) : Nat → Int32 → Int32 → Int32 → Option (Int32 × Int32)
  | 0, _, _, _ => none
  | k + 1, x5, x6, x7 => (if (I 4 10) ≤ x7 then some (x5, x6) else (if (f_X11_bit x1 x7) = 1 then ((f_X8_rangeOf I x7).bind fun v1 => ((f_X8_readersOf I 26 x7 v1).bind fun v3 => f_X11_faceToAsk_l28 I x1 x2 x3 x4 k (x5 + (f_X11_bit v3 x4)) (x6 + (1 - (f_X11_bit v3 x4))) (x7 + 1))) else f_X11_faceToAsk_l28 I x1 x2 x3 x4 k x5 x6 (x7 + 1)))
set_option maxHeartbeats 4000000 in
set_option maxRecDepth 100000 in
theorem v_X11_faceToAsk_l28 {lc : bm_L} {d n : Nat} {Q : Option Value → bm_M → Prop} {R : bm_TR} {I : bm_TI} {J : bm_TJ} {W : bm_TR} {x1 : Int32} {x2 : Int32} {x3 : Int32} {x4 : Int32} (hN : 181 ≤ n) (hR : bm_RR R) : ∀ (k : Nat) (x5 : Int32) (x6 : Int32) (x7 : Int32) (r : Int32 × Int32), f_X11_faceToAsk_l28 I x1 x2 x3 x4 k x5 x6 x7 = some r → (∀ yy, yy = r → bm_V lc m_X11_faceToAsk (d + 3) n n n 97 [(0, .ref 0), (1, .int x1), (2, .int x2), (3, .int x3), (4, .int x4), (5, .int yy.1), (6, .int yy.2)] [] (I, J, R, W) Q) → bm_V lc m_X11_faceToAsk (d + 3) n n n 28 [(0, .ref 0), (1, .int x1), (2, .int x2), (3, .int x3), (4, .int x4), (5, .int x5), (6, .int x6), (7, .int x7)] [] (I, J, R, W) Q := by
  intro k
  induction k with
  | zero => intro x5 x6 x7 r h; cases (show (none : Option (Int32 × Int32)) = some r from h)
  | succ k ih =>
    intro x5 x6 x7 r h K0
    unfold f_X11_faceToAsk_l28 at h
    refine bv_iload dX11_faceToAsk_28 7 rfl ?_
    refine bv_aload_n dX11_faceToAsk_30 0 rfl ?_
    refine bz_getA (a := 4) hN okL_0 (hR _ _ _ r0_0_2) dX11_faceToAsk_31 fl_11_28 rfl ?_
    refine bz_getI hN okL_4 dX11_faceToAsk_34 fl_11_132 rfl ?_
    refine bv_icmp_ge (tgt := 97) dX11_faceToAsk_37 (by decide) (fun cc => ?_) (fun cc => ?_)
    · replace h := bu_t h cc
      refine bw_ls (ls1 := [(0, .ref 0), (1, .int x1), (2, .int x2), (3, .int x3), (4, .int x4), (5, .int x5), (6, .int x6)]) [0, 1, 2, 3, 4, 5, 6] rfl ?_
      obtain rfl := Option.some.inj h
      exact K0 _ rfl
    · replace h := bu_f h cc
      refine bv_iload_n dX11_faceToAsk_40 1 rfl ?_
      refine bv_iload dX11_faceToAsk_41 7 rfl ?_
      refine bw_callS (As := [.int x1, .int x7]) dX11_faceToAsk_43 mc_11_172 (c_X11_bit (d := d + 2) hN hR rfl) rfl rfl (by decide) ?_
      refine bv_iconst (v := 1) dX11_faceToAsk_46 (by decide) ?_
      refine bv_icmp_ne (tgt := 91) dX11_faceToAsk_47 (by decide) (fun cc => ?_) (fun cc => ?_)
      · replace h := bu_f h cc
        refine bv_iinc (j := 7) (v := (x7 + 1)) (ls1 := [(0, .ref 0), (1, .int x1), (2, .int x2), (3, .int x3), (4, .int x4), (5, .int x5), (6, .int x6), (7, .int (x7 + 1))]) dX11_faceToAsk_91 rfl rfl (by decide) rfl rfl ?_
        refine bv_goto (tgt := 28) dX11_faceToAsk_94 (by decide) ?_
        exact ih _ _ _ _ h K0
      · replace h := bu_t h cc
        refine bv_aload_n dX11_faceToAsk_50 0 rfl ?_
        refine bz_getA (a := 26) hN okL_0 (hR _ _ _ r0_0_4) dX11_faceToAsk_51 fl_11_40 rfl ?_
        refine bv_iload dX11_faceToAsk_54 7 rfl ?_
        refine bv_aload_n dX11_faceToAsk_56 0 rfl ?_
        refine bz_getA (a := 26) hN okL_0 (hR _ _ _ r0_0_4) dX11_faceToAsk_57 fl_11_40 rfl ?_
        refine bv_iload dX11_faceToAsk_60 7 rfl ?_
        obtain ⟨v1, p2, h⟩ := bu_bd h
        refine bw_callV (As := [.int x7]) hN okL_26 ⟨_, _, rfl⟩ dX11_faceToAsk_62 mc_11_242 (c_X8_rangeOf (d := d + 0) hN hR p2) rfl rfl (Nat.le_of_ble_eq_true rfl) ?_
        obtain ⟨v3, p4, h⟩ := bu_bd h
        refine bw_callV (As := [.int x7, .int v1]) hN okL_26 ⟨_, _, rfl⟩ dX11_faceToAsk_65 mc_11_245 (c_X8_readersOf (d := d + 1) hN hR okL_26 r0_26_0 p4) rfl rfl (by decide) ?_
        refine bv_iload dX11_faceToAsk_68 4 rfl ?_
        refine bw_callS (As := [.int v3, .int x4]) dX11_faceToAsk_70 mc_11_172 (c_X11_bit (d := d + 2) hN hR rfl) rfl rfl (by decide) ?_
        refine bv_istore (ls1 := [(0, .ref 0), (1, .int x1), (2, .int x2), (3, .int x3), (4, .int x4), (5, .int x5), (6, .int x6), (7, .int x7), (8, .int (f_X11_bit v3 x4))]) dX11_faceToAsk_73 (by decide) rfl rfl ?_
        refine bv_iload dX11_faceToAsk_75 5 rfl ?_
        refine bv_iload dX11_faceToAsk_77 8 rfl ?_
        refine bv_iadd dX11_faceToAsk_79 ?_
        refine bv_istore (ls1 := [(0, .ref 0), (1, .int x1), (2, .int x2), (3, .int x3), (4, .int x4), (5, .int (x5 + (f_X11_bit v3 x4))), (6, .int x6), (7, .int x7), (8, .int (f_X11_bit v3 x4))]) dX11_faceToAsk_80 (by decide) rfl rfl ?_
        refine bv_iload dX11_faceToAsk_82 6 rfl ?_
        refine bv_iconst (v := 1) dX11_faceToAsk_84 (by decide) ?_
        refine bv_iload dX11_faceToAsk_85 8 rfl ?_
        refine bv_isub dX11_faceToAsk_87 ?_
        refine bv_iadd dX11_faceToAsk_88 ?_
        refine bv_istore (ls1 := [(0, .ref 0), (1, .int x1), (2, .int x2), (3, .int x3), (4, .int x4), (5, .int (x5 + (f_X11_bit v3 x4))), (6, .int (x6 + (1 - (f_X11_bit v3 x4)))), (7, .int x7), (8, .int (f_X11_bit v3 x4))]) dX11_faceToAsk_89 (by decide) rfl rfl ?_
        refine bv_iinc (j := 7) (v := (x7 + 1)) (ls1 := [(0, .ref 0), (1, .int x1), (2, .int x2), (3, .int x3), (4, .int x4), (5, .int (x5 + (f_X11_bit v3 x4))), (6, .int (x6 + (1 - (f_X11_bit v3 x4)))), (7, .int (x7 + 1)), (8, .int (f_X11_bit v3 x4))]) dX11_faceToAsk_91 rfl rfl (by decide) rfl rfl ?_
        refine bv_goto (tgt := 28) dX11_faceToAsk_94 (by decide) ?_
        refine bw_ls (ls1 := [(0, .ref 0), (1, .int x1), (2, .int x2), (3, .int x3), (4, .int x4), (5, .int (x5 + (f_X11_bit v3 x4))), (6, .int (x6 + (1 - (f_X11_bit v3 x4)))), (7, .int (x7 + 1))]) [0, 1, 2, 3, 4, 5, 6, 7] rfl ?_
        exact ih _ _ _ _ h K0
def f_X11_faceToAsk_l7 (I : bm_TI) (x1 : Int32) : Nat → Int32 → Int32 → Int32 → Option (Int32)
  | 0, _, _, _ => none
  | k + 1, x2, x3, x4 => (if (I 4 10) ≤ x4 then some x2 else ((f_X11_faceToAsk_l28 I x1 x2 x3 x4 1000 0 0 0).bind fun y3 => (if x2 = (-1) then f_X11_faceToAsk_l7 I x1 k x4 (bm_abs (y3.1 - y3.2)) (x4 + 1) else (if x3 ≤ (bm_abs (y3.1 - y3.2)) then f_X11_faceToAsk_l7 I x1 k x2 x3 (x4 + 1) else f_X11_faceToAsk_l7 I x1 k x4 (bm_abs (y3.1 - y3.2)) (x4 + 1)))))
set_option maxHeartbeats 4000000 in
set_option maxRecDepth 100000 in
theorem v_X11_faceToAsk_l7 {lc : bm_L} {d n : Nat} {Q : Option Value → bm_M → Prop} {R : bm_TR} {I : bm_TI} {J : bm_TJ} {W : bm_TR} {x1 : Int32} (hN : 181 ≤ n) (hR : bm_RR R) : ∀ (k : Nat) (x2 : Int32) (x3 : Int32) (x4 : Int32) (r : Int32), f_X11_faceToAsk_l7 I x1 k x2 x3 x4 = some r → (∀ yy, yy = r → bm_V lc m_X11_faceToAsk (d + 3) n n n 130 [(2, .int yy)] [] (I, J, R, W) Q) → bm_V lc m_X11_faceToAsk (d + 3) n n n 7 [(0, .ref 0), (1, .int x1), (2, .int x2), (3, .int x3), (4, .int x4)] [] (I, J, R, W) Q := by
  intro k
  induction k with
  | zero => intro x2 x3 x4 r h; cases (show (none : Option (Int32)) = some r from h)
  | succ k ih =>
    intro x2 x3 x4 r h K0
    unfold f_X11_faceToAsk_l7 at h
    refine bv_iload dX11_faceToAsk_7 4 rfl ?_
    refine bv_aload_n dX11_faceToAsk_9 0 rfl ?_
    refine bz_getA (a := 4) hN okL_0 (hR _ _ _ r0_0_2) dX11_faceToAsk_10 fl_11_28 rfl ?_
    refine bz_getI hN okL_4 dX11_faceToAsk_13 fl_11_132 rfl ?_
    refine bv_icmp_ge (tgt := 130) dX11_faceToAsk_16 (by decide) (fun cc => ?_) (fun cc => ?_)
    · replace h := bu_t h cc
      refine bw_ls (ls1 := [(2, .int x2)]) [2] rfl ?_
      obtain rfl := Option.some.inj h
      exact K0 _ rfl
    · replace h := bu_f h cc
      refine bv_iconst (v := 0) dX11_faceToAsk_19 (by decide) ?_
      refine bv_istore (ls1 := [(0, .ref 0), (1, .int x1), (2, .int x2), (3, .int x3), (4, .int x4), (5, .int 0)]) dX11_faceToAsk_20 (by decide) rfl rfl ?_
      refine bv_iconst (v := 0) dX11_faceToAsk_22 (by decide) ?_
      refine bv_istore (ls1 := [(0, .ref 0), (1, .int x1), (2, .int x2), (3, .int x3), (4, .int x4), (5, .int 0), (6, .int 0)]) dX11_faceToAsk_23 (by decide) rfl rfl ?_
      refine bv_iconst (v := 0) dX11_faceToAsk_25 (by decide) ?_
      refine bv_istore (ls1 := [(0, .ref 0), (1, .int x1), (2, .int x2), (3, .int x3), (4, .int x4), (5, .int 0), (6, .int 0), (7, .int 0)]) dX11_faceToAsk_26 (by decide) rfl rfl ?_
      obtain ⟨r1, p2, h⟩ := bu_bd h
      refine v_X11_faceToAsk_l28 hN hR 1000 _ _ _ _ p2 (fun y3 hy => ?_)
      · subst hy
        refine bv_iload dX11_faceToAsk_97 5 rfl ?_
        refine bv_iload dX11_faceToAsk_99 6 rfl ?_
        refine bv_isub dX11_faceToAsk_101 ?_
        refine bv_mabs dX11_faceToAsk_102 mw_11_377 (by decide) (Nat.le_refl n) ?_
        refine bv_istore (ls1 := [(0, .ref 0), (1, .int x1), (2, .int x2), (3, .int x3), (4, .int x4), (5, .int y3.1), (6, .int y3.2), (7, .int (bm_abs (y3.1 - y3.2)))]) dX11_faceToAsk_105 (by decide) rfl rfl ?_
        refine bv_iload_n dX11_faceToAsk_107 2 rfl ?_
        refine bv_iconst (v := (-1)) dX11_faceToAsk_108 (by decide) ?_
        refine bv_icmp_eq (tgt := 118) dX11_faceToAsk_109 (by decide) (fun cc => ?_) (fun cc => ?_)
        · replace h := bu_t h cc
          refine bv_iload dX11_faceToAsk_118 4 rfl ?_
          refine bv_istore_n (ls1 := [(0, .ref 0), (1, .int x1), (2, .int x4), (3, .int x3), (4, .int x4), (5, .int y3.1), (6, .int y3.2), (7, .int (bm_abs (y3.1 - y3.2)))]) dX11_faceToAsk_120 (by decide) rfl rfl ?_
          refine bv_iload dX11_faceToAsk_121 7 rfl ?_
          refine bv_istore_n (ls1 := [(0, .ref 0), (1, .int x1), (2, .int x4), (3, .int (bm_abs (y3.1 - y3.2))), (4, .int x4), (5, .int y3.1), (6, .int y3.2), (7, .int (bm_abs (y3.1 - y3.2)))]) dX11_faceToAsk_123 (by decide) rfl rfl ?_
          refine bv_iinc (j := 4) (v := (x4 + 1)) (ls1 := [(0, .ref 0), (1, .int x1), (2, .int x4), (3, .int (bm_abs (y3.1 - y3.2))), (4, .int (x4 + 1)), (5, .int y3.1), (6, .int y3.2), (7, .int (bm_abs (y3.1 - y3.2)))]) dX11_faceToAsk_124 rfl rfl (by decide) rfl rfl ?_
          refine bv_goto (tgt := 7) dX11_faceToAsk_127 (by decide) ?_
          refine bw_ls (ls1 := [(0, .ref 0), (1, .int x1), (2, .int x4), (3, .int (bm_abs (y3.1 - y3.2))), (4, .int (x4 + 1))]) [0, 1, 2, 3, 4] rfl ?_
          exact ih _ _ _ _ h K0
        · replace h := bu_f h cc
          refine bv_iload dX11_faceToAsk_112 7 rfl ?_
          refine bv_iload_n dX11_faceToAsk_114 3 rfl ?_
          refine bv_icmp_ge (tgt := 124) dX11_faceToAsk_115 (by decide) (fun cc => ?_) (fun cc => ?_)
          · replace h := bu_t h cc
            refine bv_iinc (j := 4) (v := (x4 + 1)) (ls1 := [(0, .ref 0), (1, .int x1), (2, .int x2), (3, .int x3), (4, .int (x4 + 1)), (5, .int y3.1), (6, .int y3.2), (7, .int (bm_abs (y3.1 - y3.2)))]) dX11_faceToAsk_124 rfl rfl (by decide) rfl rfl ?_
            refine bv_goto (tgt := 7) dX11_faceToAsk_127 (by decide) ?_
            refine bw_ls (ls1 := [(0, .ref 0), (1, .int x1), (2, .int x2), (3, .int x3), (4, .int (x4 + 1))]) [0, 1, 2, 3, 4] rfl ?_
            exact ih _ _ _ _ h K0
          · replace h := bu_f h cc
            refine bv_iload dX11_faceToAsk_118 4 rfl ?_
            refine bv_istore_n (ls1 := [(0, .ref 0), (1, .int x1), (2, .int x4), (3, .int x3), (4, .int x4), (5, .int y3.1), (6, .int y3.2), (7, .int (bm_abs (y3.1 - y3.2)))]) dX11_faceToAsk_120 (by decide) rfl rfl ?_
            refine bv_iload dX11_faceToAsk_121 7 rfl ?_
            refine bv_istore_n (ls1 := [(0, .ref 0), (1, .int x1), (2, .int x4), (3, .int (bm_abs (y3.1 - y3.2))), (4, .int x4), (5, .int y3.1), (6, .int y3.2), (7, .int (bm_abs (y3.1 - y3.2)))]) dX11_faceToAsk_123 (by decide) rfl rfl ?_
            refine bv_iinc (j := 4) (v := (x4 + 1)) (ls1 := [(0, .ref 0), (1, .int x1), (2, .int x4), (3, .int (bm_abs (y3.1 - y3.2))), (4, .int (x4 + 1)), (5, .int y3.1), (6, .int y3.2), (7, .int (bm_abs (y3.1 - y3.2)))]) dX11_faceToAsk_124 rfl rfl (by decide) rfl rfl ?_
            refine bv_goto (tgt := 7) dX11_faceToAsk_127 (by decide) ?_
            refine bw_ls (ls1 := [(0, .ref 0), (1, .int x1), (2, .int x4), (3, .int (bm_abs (y3.1 - y3.2))), (4, .int (x4 + 1))]) [0, 1, 2, 3, 4] rfl ?_
            exact ih _ _ _ _ h K0
def f_X11_faceToAsk (I : bm_TI) (x1 : Int32) : Option (Int32) := ((f_X11_faceToAsk_l7 I x1 1000 (-1) 0 0).bind fun y3 => some y3)
set_option maxHeartbeats 4000000 in
set_option maxRecDepth 100000 in
theorem c_X11_faceToAsk {lc : bm_L} {d n : Nat} {I : bm_TI} {J : bm_TJ} {R W : bm_TR} {x1 : Int32} {v : Int32} (hN : 181 ≤ n) (hR : bm_RR R) (h : f_X11_faceToAsk I x1 = some v) : bm_C lc m_X11_faceToAsk (d + 3) n n [.ref 0, .int x1] (I, J, R, W) (fun r M' => r = some (.int v) ∧ M' = (I, J, R, W)) := by
  refine bm_C.ofV (by decide) (Nat.le_of_ble_eq_true rfl) ?_
  show bm_V lc m_X11_faceToAsk (d + 3) n n n 0 [(0, .ref 0), (1, .int x1)] [] (I, J, R, W) _
  unfold f_X11_faceToAsk at h
  refine bv_iconst (v := (-1)) dX11_faceToAsk_0 (by decide) ?_
  refine bv_istore_n (ls1 := [(0, .ref 0), (1, .int x1), (2, .int (-1))]) dX11_faceToAsk_1 (by decide) rfl rfl ?_
  refine bv_iconst (v := 0) dX11_faceToAsk_2 (by decide) ?_
  refine bv_istore_n (ls1 := [(0, .ref 0), (1, .int x1), (2, .int (-1)), (3, .int 0)]) dX11_faceToAsk_3 (by decide) rfl rfl ?_
  refine bv_iconst (v := 0) dX11_faceToAsk_4 (by decide) ?_
  refine bv_istore (ls1 := [(0, .ref 0), (1, .int x1), (2, .int (-1)), (3, .int 0), (4, .int 0)]) dX11_faceToAsk_5 (by decide) rfl rfl ?_
  obtain ⟨r1, p2, h⟩ := bu_bd h
  refine v_X11_faceToAsk_l7 hN hR 1000 _ _ _ _ p2 (fun y3 hy => ?_)
  · subst hy
    refine bv_iload_n dX11_faceToAsk_130 0 rfl ?_
    obtain rfl := Option.some.inj h
    exact bv_iret (x := y3) dX11_faceToAsk_131 rfl ⟨rfl, rfl⟩
def f_X11_isScratchTape_l16 (I : bm_TI) : Nat → Int32 → Option (((Unit) ⊕ (Unit)))
  | 0, _ => none
  | k + 1, x1 => (if (I 1 1) ≤ (x1 + 1) then some (Sum.inr ()) else (if bm_ix 940 x1 = true then (if (I 4 10) ≤ (I 2 x1.toNatClampNeg) then some (Sum.inl ()) else (if bm_ix 940 (x1 + 1) = true then (if (I 2 (x1 + 1).toNatClampNeg) ≤ 1 then f_X11_isScratchTape_l16 I k (x1 + 2) else some (Sum.inl ())) else none)) else none))
set_option maxHeartbeats 4000000 in
set_option maxRecDepth 100000 in
theorem v_X11_isScratchTape_l16 {lc : bm_L} {d n : Nat} {Q : Option Value → bm_M → Prop} {R : bm_TR} {I : bm_TI} {J : bm_TJ} {W : bm_TR} (hN : 181 ≤ n) (hR : bm_RR R) : ∀ (k : Nat) (x1 : Int32) (r : ((Unit) ⊕ (Unit))), f_X11_isScratchTape_l16 I k x1 = some r → (∀ yy, (Sum.inl yy) = r → bm_V lc m_X11_isScratchTape (d + 1) n n n 63 [] [] (I, J, R, W) Q) → (∀ yy, (Sum.inr yy) = r → bm_V lc m_X11_isScratchTape (d + 1) n n n 71 [] [] (I, J, R, W) Q) → bm_V lc m_X11_isScratchTape (d + 1) n n n 16 [(0, .ref 0), (1, .int x1)] [] (I, J, R, W) Q := by
  intro k
  induction k with
  | zero => intro x1 r h; cases (show (none : Option (((Unit) ⊕ (Unit)))) = some r from h)
  | succ k ih =>
    intro x1 r h K0 K1
    unfold f_X11_isScratchTape_l16 at h
    refine bv_iload_n dX11_isScratchTape_16 1 rfl ?_
    refine bv_iconst (v := 1) dX11_isScratchTape_17 (by decide) ?_
    refine bv_iadd dX11_isScratchTape_18 ?_
    refine bv_aload_n dX11_isScratchTape_19 0 rfl ?_
    refine bz_getA (a := 1) hN okL_0 (hR _ _ _ r0_0_0) dX11_isScratchTape_20 fl_11_12 rfl ?_
    refine bz_getI hN okL_1 dX11_isScratchTape_23 fl_11_102 rfl ?_
    refine bv_icmp_ge (tgt := 71) dX11_isScratchTape_26 (by decide) (fun cc => ?_) (fun cc => ?_)
    · replace h := bu_t h cc
      refine bw_ls (ls1 := []) [] rfl ?_
      obtain rfl := Option.some.inj h
      exact K1 _ rfl
    · replace h := bu_f h cc
      refine bv_aload_n dX11_isScratchTape_29 0 rfl ?_
      refine bz_getA (a := 1) hN okL_0 (hR _ _ _ r0_0_0) dX11_isScratchTape_30 fl_11_12 rfl ?_
      refine bz_getA (a := 2) hN okL_1 (hR _ _ _ r0_1_0) dX11_isScratchTape_33 fl_11_376 rfl ?_
      refine bv_iload_n dX11_isScratchTape_36 1 rfl ?_
      obtain ⟨r1, h⟩ := bu_ix h
      refine bz_iald hN rkL_2 r1 rfl dX11_isScratchTape_37 ?_
      refine bv_aload_n dX11_isScratchTape_38 0 rfl ?_
      refine bz_getA (a := 4) hN okL_0 (hR _ _ _ r0_0_2) dX11_isScratchTape_39 fl_11_28 rfl ?_
      refine bz_getI hN okL_4 dX11_isScratchTape_42 fl_11_132 rfl ?_
      refine bv_icmp_ge (tgt := 63) dX11_isScratchTape_45 (by decide) (fun cc => ?_) (fun cc => ?_)
      · replace h := bu_t h cc
        refine bw_ls (ls1 := []) [] rfl ?_
        obtain rfl := Option.some.inj h
        exact K0 _ rfl
      · replace h := bu_f h cc
        refine bv_aload_n dX11_isScratchTape_48 0 rfl ?_
        refine bz_getA (a := 1) hN okL_0 (hR _ _ _ r0_0_0) dX11_isScratchTape_49 fl_11_12 rfl ?_
        refine bz_getA (a := 2) hN okL_1 (hR _ _ _ r0_1_0) dX11_isScratchTape_52 fl_11_376 rfl ?_
        refine bv_iload_n dX11_isScratchTape_55 1 rfl ?_
        refine bv_iconst (v := 1) dX11_isScratchTape_56 (by decide) ?_
        refine bv_iadd dX11_isScratchTape_57 ?_
        obtain ⟨r2, h⟩ := bu_ix h
        refine bz_iald hN rkL_2 r2 rfl dX11_isScratchTape_58 ?_
        refine bv_iconst (v := 1) dX11_isScratchTape_59 (by decide) ?_
        refine bv_icmp_le (tgt := 65) dX11_isScratchTape_60 (by decide) (fun cc => ?_) (fun cc => ?_)
        · replace h := bu_t h cc
          refine bv_iinc (j := 1) (v := (x1 + 2)) (ls1 := [(0, .ref 0), (1, .int (x1 + 2))]) dX11_isScratchTape_65 rfl rfl (by decide) rfl rfl ?_
          refine bv_goto (tgt := 16) dX11_isScratchTape_68 (by decide) ?_
          exact ih _ _ h K0 K1
        · replace h := bu_f h cc
          refine bw_ls (ls1 := []) [] rfl ?_
          obtain rfl := Option.some.inj h
          exact K0 _ rfl
def f_X11_isScratchTape (I : bm_TI) : Option (Bool) := ((f_X9_isPairs I 8).bind fun v1 => (if v1 = true then ((f_X11_isScratchTape_l16 I 1000 0).bind fun rr => match rr with | (Sum.inl y5) => some false | (Sum.inr y5) => some true) else some false))
set_option maxHeartbeats 4000000 in
set_option maxRecDepth 100000 in
theorem c_X11_isScratchTape {lc : bm_L} {d n : Nat} {I : bm_TI} {J : bm_TJ} {R W : bm_TR} {v : Bool} (hN : 181 ≤ n) (hR : bm_RR R) (h : f_X11_isScratchTape I = some v) : bm_C lc m_X11_isScratchTape (d + 1) n n [.ref 0] (I, J, R, W) (fun r M' => r = some (.int (bm_bi v)) ∧ M' = (I, J, R, W)) := by
  refine bm_C.ofV (by decide) (Nat.le_of_ble_eq_true rfl) ?_
  show bm_V lc m_X11_isScratchTape (d + 1) n n n 0 [(0, .ref 0)] [] (I, J, R, W) _
  unfold f_X11_isScratchTape at h
  refine bv_aload_n dX11_isScratchTape_0 0 rfl ?_
  refine bz_getA (a := 1) hN okL_0 (hR _ _ _ r0_0_0) dX11_isScratchTape_1 fl_11_12 rfl ?_
  refine bv_bipush (v := 8) dX11_isScratchTape_4 (by decide) ?_
  obtain ⟨v1, p2, h⟩ := bu_bd h
  refine bw_callV (As := [.int 8]) hN okL_1 ⟨_, _, rfl⟩ dX11_isScratchTape_6 mc_11_373 (c_X9_isPairs (d := d + 0) hN hR p2) rfl rfl (by decide) ?_
  refine bw_ifB_ne (b := v1) (tgt := 14) dX11_isScratchTape_9 (by decide) (fun cc => ?_) (fun cc => ?_)
  · replace h := bu_bt h cc
    refine bv_iconst (v := 0) dX11_isScratchTape_14 (by decide) ?_
    refine bv_istore_n (ls1 := [(0, .ref 0), (1, .int 0)]) dX11_isScratchTape_15 (by decide) rfl rfl ?_
    obtain ⟨r3, p4, h⟩ := bu_bd h
    refine v_X11_isScratchTape_l16 hN hR 1000 _ _ p4 (fun y5 hy => ?_) (fun y5 hy => ?_)
    · subst hy
      refine bv_iconst (v := 0) dX11_isScratchTape_63 (by decide) ?_
      obtain rfl := Option.some.inj h
      exact bw_bret (b := false) dX11_isScratchTape_64 rfl ⟨rfl, rfl⟩
    · subst hy
      refine bv_iconst (v := 1) dX11_isScratchTape_71 (by decide) ?_
      obtain rfl := Option.some.inj h
      exact bw_bret (b := true) dX11_isScratchTape_72 rfl ⟨rfl, rfl⟩
  · replace h := bu_bf h cc
    refine bv_iconst (v := 0) dX11_isScratchTape_12 (by decide) ?_
    obtain rfl := Option.some.inj h
    exact bw_bret (b := false) dX11_isScratchTape_13 rfl ⟨rfl, rfl⟩
def f_X11_scratchers_l38 (I : bm_TI) (x1 : Int32) (x2 : Int32) (x3 : Int32) : Nat → Bool → Int32 → Option (Bool)
  | 0, _, _ => none
  | k + 1, x4, x5 => (if (I 1 1) ≤ (x5 + 1) then some x4 else (if x4 = true then (if bm_ix 940 x5 = true then (if bm_ix 940 (x5 + 1) = true then (if (f_X11_bit x3 (I 2 x5.toNatClampNeg)) = (I 2 (x5 + 1).toNatClampNeg) then f_X11_scratchers_l38 I x1 x2 x3 k true (x5 + 2) else f_X11_scratchers_l38 I x1 x2 x3 k false (x5 + 2)) else none) else none) else f_X11_scratchers_l38 I x1 x2 x3 k false (x5 + 2)))
set_option maxHeartbeats 4000000 in
set_option maxRecDepth 100000 in
theorem v_X11_scratchers_l38 {lc : bm_L} {d n : Nat} {Q : Option Value → bm_M → Prop} {R : bm_TR} {I : bm_TI} {J : bm_TJ} {W : bm_TR} {x1 : Int32} {x2 : Int32} {x3 : Int32} (hN : 181 ≤ n) (hR : bm_RR R) : ∀ (k : Nat) (x4 : Bool) (x5 : Int32) (r : Bool), f_X11_scratchers_l38 I x1 x2 x3 k x4 x5 = some r → (∀ yy, yy = r → bm_V lc m_X11_scratchers (d + 3) n n n 99 [(0, .ref 0), (1, .int x1), (2, .int x2), (4, .int (bm_bi yy))] [] (I, J, R, W) Q) → bm_V lc m_X11_scratchers (d + 3) n n n 38 [(0, .ref 0), (1, .int x1), (2, .int x2), (3, .int x3), (4, .int (bm_bi x4)), (5, .int x5)] [] (I, J, R, W) Q := by
  intro k
  induction k with
  | zero => intro x4 x5 r h; cases (show (none : Option (Bool)) = some r from h)
  | succ k ih =>
    intro x4 x5 r h K0
    unfold f_X11_scratchers_l38 at h
    refine bv_iload dX11_scratchers_38 5 rfl ?_
    refine bv_iconst (v := 1) dX11_scratchers_40 (by decide) ?_
    refine bv_iadd dX11_scratchers_41 ?_
    refine bv_aload_n dX11_scratchers_42 0 rfl ?_
    refine bz_getA (a := 1) hN okL_0 (hR _ _ _ r0_0_0) dX11_scratchers_43 fl_11_12 rfl ?_
    refine bz_getI hN okL_1 dX11_scratchers_46 fl_11_102 rfl ?_
    refine bv_icmp_ge (tgt := 99) dX11_scratchers_49 (by decide) (fun cc => ?_) (fun cc => ?_)
    · replace h := bu_t h cc
      refine bw_ls (ls1 := [(0, .ref 0), (1, .int x1), (2, .int x2), (4, .int (bm_bi x4))]) [0, 1, 2, 4] rfl ?_
      obtain rfl := Option.some.inj h
      exact K0 _ rfl
    · replace h := bu_f h cc
      refine bv_iload dX11_scratchers_52 4 rfl ?_
      refine bw_ifB_eq (b := x4) (tgt := 90) dX11_scratchers_54 (by decide) (fun cc => ?_) (fun cc => ?_)
      · replace h := bu_bf h cc
        refine bv_iconst (v := 0) dX11_scratchers_90 (by decide) ?_
        refine bv_istore (ls1 := [(0, .ref 0), (1, .int x1), (2, .int x2), (3, .int x3), (4, .int 0), (5, .int x5)]) dX11_scratchers_91 (by decide) rfl rfl ?_
        refine bv_iinc (j := 5) (v := (x5 + 2)) (ls1 := [(0, .ref 0), (1, .int x1), (2, .int x2), (3, .int x3), (4, .int 0), (5, .int (x5 + 2))]) dX11_scratchers_93 rfl rfl (by decide) rfl rfl ?_
        refine bv_goto (tgt := 38) dX11_scratchers_96 (by decide) ?_
        exact ih _ _ _ h K0
      · replace h := bu_bt h cc
        refine bv_iload_n dX11_scratchers_57 3 rfl ?_
        refine bv_aload_n dX11_scratchers_58 0 rfl ?_
        refine bz_getA (a := 1) hN okL_0 (hR _ _ _ r0_0_0) dX11_scratchers_59 fl_11_12 rfl ?_
        refine bz_getA (a := 2) hN okL_1 (hR _ _ _ r0_1_0) dX11_scratchers_62 fl_11_376 rfl ?_
        refine bv_iload dX11_scratchers_65 5 rfl ?_
        obtain ⟨r1, h⟩ := bu_ix h
        refine bz_iald hN rkL_2 r1 rfl dX11_scratchers_67 ?_
        refine bw_callS (As := [.int x3, .int (I 2 x5.toNatClampNeg)]) dX11_scratchers_68 mc_11_172 (c_X11_bit (d := d + 2) hN hR rfl) rfl rfl (by decide) ?_
        refine bv_aload_n dX11_scratchers_71 0 rfl ?_
        refine bz_getA (a := 1) hN okL_0 (hR _ _ _ r0_0_0) dX11_scratchers_72 fl_11_12 rfl ?_
        refine bz_getA (a := 2) hN okL_1 (hR _ _ _ r0_1_0) dX11_scratchers_75 fl_11_376 rfl ?_
        refine bv_iload dX11_scratchers_78 5 rfl ?_
        refine bv_iconst (v := 1) dX11_scratchers_80 (by decide) ?_
        refine bv_iadd dX11_scratchers_81 ?_
        obtain ⟨r2, h⟩ := bu_ix h
        refine bz_iald hN rkL_2 r2 rfl dX11_scratchers_82 ?_
        refine bv_icmp_ne (tgt := 90) dX11_scratchers_83 (by decide) (fun cc => ?_) (fun cc => ?_)
        · replace h := bu_f h cc
          refine bv_iconst (v := 0) dX11_scratchers_90 (by decide) ?_
          refine bv_istore (ls1 := [(0, .ref 0), (1, .int x1), (2, .int x2), (3, .int x3), (4, .int 0), (5, .int x5)]) dX11_scratchers_91 (by decide) rfl rfl ?_
          refine bv_iinc (j := 5) (v := (x5 + 2)) (ls1 := [(0, .ref 0), (1, .int x1), (2, .int x2), (3, .int x3), (4, .int 0), (5, .int (x5 + 2))]) dX11_scratchers_93 rfl rfl (by decide) rfl rfl ?_
          refine bv_goto (tgt := 38) dX11_scratchers_96 (by decide) ?_
          exact ih _ _ _ h K0
        · replace h := bu_t h cc
          refine bv_iconst (v := 1) dX11_scratchers_86 (by decide) ?_
          refine bv_goto (tgt := 91) dX11_scratchers_87 (by decide) ?_
          refine bv_istore (ls1 := [(0, .ref 0), (1, .int x1), (2, .int x2), (3, .int x3), (4, .int 1), (5, .int x5)]) dX11_scratchers_91 (by decide) rfl rfl ?_
          refine bv_iinc (j := 5) (v := (x5 + 2)) (ls1 := [(0, .ref 0), (1, .int x1), (2, .int x2), (3, .int x3), (4, .int 1), (5, .int (x5 + 2))]) dX11_scratchers_93 rfl rfl (by decide) rfl rfl ?_
          refine bv_goto (tgt := 38) dX11_scratchers_96 (by decide) ?_
          exact ih _ _ _ h K0
def f_X11_scratchers_l4 (I : bm_TI) : Nat → Int32 → Int32 → Option (Int32)
  | 0, _, _ => none
  | k + 1, x1, x2 => (if (I 4 10) ≤ x2 then some x1 else ((f_X8_rangeOf I x2).bind fun v1 => ((f_X8_readersOf I 26 x2 v1).bind fun v3 => ((f_X11_scratchers_l38 I x1 x2 v3 1000 true 0).bind fun y7 => (if y7 = true then f_X11_scratchers_l4 I k (x1 ||| (bm_ishl 1 x2)) (x2 + 1) else f_X11_scratchers_l4 I k x1 (x2 + 1))))))
set_option maxHeartbeats 4000000 in
set_option maxRecDepth 100000 in
theorem v_X11_scratchers_l4 {lc : bm_L} {d n : Nat} {Q : Option Value → bm_M → Prop} {R : bm_TR} {I : bm_TI} {J : bm_TJ} {W : bm_TR} (hN : 181 ≤ n) (hR : bm_RR R) : ∀ (k : Nat) (x1 : Int32) (x2 : Int32) (r : Int32), f_X11_scratchers_l4 I k x1 x2 = some r → (∀ yy, yy = r → bm_V lc m_X11_scratchers (d + 3) n n n 116 [(1, .int yy)] [] (I, J, R, W) Q) → bm_V lc m_X11_scratchers (d + 3) n n n 4 [(0, .ref 0), (1, .int x1), (2, .int x2)] [] (I, J, R, W) Q := by
  intro k
  induction k with
  | zero => intro x1 x2 r h; cases (show (none : Option (Int32)) = some r from h)
  | succ k ih =>
    intro x1 x2 r h K0
    unfold f_X11_scratchers_l4 at h
    refine bv_iload_n dX11_scratchers_4 2 rfl ?_
    refine bv_aload_n dX11_scratchers_5 0 rfl ?_
    refine bz_getA (a := 4) hN okL_0 (hR _ _ _ r0_0_2) dX11_scratchers_6 fl_11_28 rfl ?_
    refine bz_getI hN okL_4 dX11_scratchers_9 fl_11_132 rfl ?_
    refine bv_icmp_ge (tgt := 116) dX11_scratchers_12 (by decide) (fun cc => ?_) (fun cc => ?_)
    · replace h := bu_t h cc
      refine bw_ls (ls1 := [(1, .int x1)]) [1] rfl ?_
      obtain rfl := Option.some.inj h
      exact K0 _ rfl
    · replace h := bu_f h cc
      refine bv_aload_n dX11_scratchers_15 0 rfl ?_
      refine bz_getA (a := 26) hN okL_0 (hR _ _ _ r0_0_4) dX11_scratchers_16 fl_11_40 rfl ?_
      refine bv_iload_n dX11_scratchers_19 2 rfl ?_
      refine bv_aload_n dX11_scratchers_20 0 rfl ?_
      refine bz_getA (a := 26) hN okL_0 (hR _ _ _ r0_0_4) dX11_scratchers_21 fl_11_40 rfl ?_
      refine bv_iload_n dX11_scratchers_24 2 rfl ?_
      obtain ⟨v1, p2, h⟩ := bu_bd h
      refine bw_callV (As := [.int x2]) hN okL_26 ⟨_, _, rfl⟩ dX11_scratchers_25 mc_11_242 (c_X8_rangeOf (d := d + 0) hN hR p2) rfl rfl (Nat.le_of_ble_eq_true rfl) ?_
      obtain ⟨v3, p4, h⟩ := bu_bd h
      refine bw_callV (As := [.int x2, .int v1]) hN okL_26 ⟨_, _, rfl⟩ dX11_scratchers_28 mc_11_245 (c_X8_readersOf (d := d + 1) hN hR okL_26 r0_26_0 p4) rfl rfl (by decide) ?_
      refine bv_istore_n (ls1 := [(0, .ref 0), (1, .int x1), (2, .int x2), (3, .int v3)]) dX11_scratchers_31 (by decide) rfl rfl ?_
      refine bv_iconst (v := 1) dX11_scratchers_32 (by decide) ?_
      refine bv_istore (ls1 := [(0, .ref 0), (1, .int x1), (2, .int x2), (3, .int v3), (4, .int 1)]) dX11_scratchers_33 (by decide) rfl rfl ?_
      refine bv_iconst (v := 0) dX11_scratchers_35 (by decide) ?_
      refine bv_istore (ls1 := [(0, .ref 0), (1, .int x1), (2, .int x2), (3, .int v3), (4, .int 1), (5, .int 0)]) dX11_scratchers_36 (by decide) rfl rfl ?_
      obtain ⟨r5, p6, h⟩ := bu_bd h
      refine v_X11_scratchers_l38 hN hR 1000 _ _ _ p6 (fun y7 hy => ?_)
      · subst hy
        refine bv_iload dX11_scratchers_99 3 rfl ?_
        refine bw_ifB_eq (b := y7) (tgt := 110) dX11_scratchers_101 (by decide) (fun cc => ?_) (fun cc => ?_)
        · replace h := bu_bf h cc
          refine bv_iinc (j := 2) (v := (x2 + 1)) (ls1 := [(0, .ref 0), (1, .int x1), (2, .int (x2 + 1)), (4, .int (bm_bi y7))]) dX11_scratchers_110 rfl rfl (by decide) rfl rfl ?_
          refine bv_goto (tgt := 4) dX11_scratchers_113 (by decide) ?_
          refine bw_ls (ls1 := [(0, .ref 0), (1, .int x1), (2, .int (x2 + 1))]) [0, 1, 2] rfl ?_
          exact ih _ _ _ h K0
        · replace h := bu_bt h cc
          refine bv_iload_n dX11_scratchers_104 1 rfl ?_
          refine bv_iconst (v := 1) dX11_scratchers_105 (by decide) ?_
          refine bv_iload_n dX11_scratchers_106 2 rfl ?_
          refine bv_ishl dX11_scratchers_107 ?_
          refine bv_ior dX11_scratchers_108 ?_
          refine bv_istore_n (ls1 := [(0, .ref 0), (1, .int (x1 ||| (bm_ishl 1 x2))), (2, .int x2), (4, .int (bm_bi y7))]) dX11_scratchers_109 (by decide) rfl rfl ?_
          refine bv_iinc (j := 2) (v := (x2 + 1)) (ls1 := [(0, .ref 0), (1, .int (x1 ||| (bm_ishl 1 x2))), (2, .int (x2 + 1)), (4, .int (bm_bi y7))]) dX11_scratchers_110 rfl rfl (by decide) rfl rfl ?_
          refine bv_goto (tgt := 4) dX11_scratchers_113 (by decide) ?_
          refine bw_ls (ls1 := [(0, .ref 0), (1, .int (x1 ||| (bm_ishl 1 x2))), (2, .int (x2 + 1))]) [0, 1, 2] rfl ?_
          exact ih _ _ _ h K0
def f_X11_scratchers (I : bm_TI) : Option (Int32) := ((f_X11_scratchers_l4 I 1000 0 0).bind fun y3 => some y3)
set_option maxHeartbeats 4000000 in
set_option maxRecDepth 100000 in
theorem c_X11_scratchers {lc : bm_L} {d n : Nat} {I : bm_TI} {J : bm_TJ} {R W : bm_TR} {v : Int32} (hN : 181 ≤ n) (hR : bm_RR R) (h : f_X11_scratchers I = some v) : bm_C lc m_X11_scratchers (d + 3) n n [.ref 0] (I, J, R, W) (fun r M' => r = some (.int v) ∧ M' = (I, J, R, W)) := by
  refine bm_C.ofV (by decide) (Nat.le_of_ble_eq_true rfl) ?_
  show bm_V lc m_X11_scratchers (d + 3) n n n 0 [(0, .ref 0)] [] (I, J, R, W) _
  unfold f_X11_scratchers at h
  refine bv_iconst (v := 0) dX11_scratchers_0 (by decide) ?_
  refine bv_istore_n (ls1 := [(0, .ref 0), (1, .int 0)]) dX11_scratchers_1 (by decide) rfl rfl ?_
  refine bv_iconst (v := 0) dX11_scratchers_2 (by decide) ?_
  refine bv_istore_n (ls1 := [(0, .ref 0), (1, .int 0), (2, .int 0)]) dX11_scratchers_3 (by decide) rfl rfl ?_
  obtain ⟨r1, p2, h⟩ := bu_bd h
  refine v_X11_scratchers_l4 hN hR 1000 _ _ _ p2 (fun y3 hy => ?_)
  · subst hy
    refine bv_iload_n dX11_scratchers_116 0 rfl ?_
    obtain rfl := Option.some.inj h
    exact bv_iret (x := y3) dX11_scratchers_117 rfl ⟨rfl, rfl⟩
def f_X11_scratch (I : bm_TI) : Option (Int32 × bm_TI) := ((f_X11_isScratchTape I).bind fun v1 => (if v1 = true then ((f_X11_scratchers I).bind fun v3 => (if v3 ≤ 0 then some (v3, (bm_uI I 1 1 0)) else ((f_X11_faceToAsk (bm_uI I 1 1 0) v3).bind fun v5 => some (v3, (bm_uI (bm_uI I 1 1 0) 0 16 v5))))) else some ((-1), (bm_uI I 1 1 0))))
set_option maxHeartbeats 4000000 in
set_option maxRecDepth 100000 in
theorem c_X11_scratch {lc : bm_L} {d n : Nat} {I : bm_TI} {J : bm_TJ} {R W : bm_TR} {v : Int32 × bm_TI} (hN : 181 ≤ n) (hR : bm_RR R) (h : f_X11_scratch I = some v) : bm_C lc m_X11_scratch (d + 4) n n [.ref 0] (I, J, R, W) (fun r M' => r = some (.int v.1) ∧ M' = (v.2, J, R, W)) := by
  refine bm_C.ofV (by decide) (Nat.le_of_ble_eq_true rfl) ?_
  show bm_V lc m_X11_scratch (d + 4) n n n 0 [(0, .ref 0)] [] (I, J, R, W) _
  unfold f_X11_scratch at h
  refine bv_aload_n dX11_scratch_0 0 rfl ?_
  obtain ⟨v1, p2, h⟩ := bu_bd h
  refine bw_callV (As := []) hN okL_0 ⟨_, _, rfl⟩ dX11_scratch_1 mc_11_285 (c_X11_isScratchTape (d := d + 2) hN hR p2) rfl rfl (by decide) ?_
  refine bw_ifB_eq (b := v1) (tgt := 14) dX11_scratch_4 (by decide) (fun cc => ?_) (fun cc => ?_)
  · replace h := bu_bf h cc
    refine bv_iconst (v := (-1)) dX11_scratch_14 (by decide) ?_
    refine bv_istore_n (ls1 := [(0, .ref 0), (1, .int (-1))]) dX11_scratch_15 (by decide) rfl rfl ?_
    refine bv_aload_n dX11_scratch_16 0 rfl ?_
    refine bz_getA (a := 1) hN okL_0 (hR _ _ _ r0_0_0) dX11_scratch_17 fl_11_12 rfl ?_
    refine bv_iconst (v := 0) dX11_scratch_20 (by decide) ?_
    refine bz_putI hN okL_1 dX11_scratch_21 fl_11_102 rfl ?_
    refine bv_iload_n dX11_scratch_24 1 rfl ?_
    refine bv_if_le (tgt := 37) dX11_scratch_25 (by decide) (fun cc => ?_) (fun cc => ?_)
    rotate_left
    · exact absurd cc (by decide)
    refine bv_iload_n dX11_scratch_37 1 rfl ?_
    obtain rfl := Option.some.inj h
    exact bv_iret (x := (-1)) dX11_scratch_38 rfl ⟨rfl, rfl⟩
  · replace h := bu_bt h cc
    refine bv_aload_n dX11_scratch_7 0 rfl ?_
    obtain ⟨v3, p4, h⟩ := bu_bd h
    refine bw_callV (As := []) hN okL_0 ⟨_, _, rfl⟩ dX11_scratch_8 mc_11_289 (c_X11_scratchers (d := d + 0) hN hR p4) rfl rfl (by decide) ?_
    refine bv_goto (tgt := 15) dX11_scratch_11 (by decide) ?_
    refine bv_istore_n (ls1 := [(0, .ref 0), (1, .int v3)]) dX11_scratch_15 (by decide) rfl rfl ?_
    refine bv_aload_n dX11_scratch_16 0 rfl ?_
    refine bz_getA (a := 1) hN okL_0 (hR _ _ _ r0_0_0) dX11_scratch_17 fl_11_12 rfl ?_
    refine bv_iconst (v := 0) dX11_scratch_20 (by decide) ?_
    refine bz_putI hN okL_1 dX11_scratch_21 fl_11_102 rfl ?_
    refine bv_iload_n dX11_scratch_24 1 rfl ?_
    refine bv_if_le (tgt := 37) dX11_scratch_25 (by decide) (fun cc => ?_) (fun cc => ?_)
    · replace h := bu_t h cc
      refine bv_iload_n dX11_scratch_37 1 rfl ?_
      obtain rfl := Option.some.inj h
      exact bv_iret (x := v3) dX11_scratch_38 rfl ⟨rfl, rfl⟩
    · replace h := bu_f h cc
      refine bv_aload_n dX11_scratch_28 0 rfl ?_
      refine bv_aload_n dX11_scratch_29 0 rfl ?_
      refine bv_iload_n dX11_scratch_30 1 rfl ?_
      obtain ⟨v5, p6, h⟩ := bu_bd h
      refine bw_callV (As := [.int v3]) hN okL_0 ⟨_, _, rfl⟩ dX11_scratch_31 mc_11_292 (c_X11_faceToAsk (d := d + 0) hN hR p6) rfl rfl (Nat.le_of_ble_eq_true rfl) ?_
      refine bz_putI hN okL_0 dX11_scratch_34 fl_11_99 rfl ?_
      refine bv_iload_n dX11_scratch_37 1 rfl ?_
      obtain rfl := Option.some.inj h
      exact bv_iret (x := v3) dX11_scratch_38 rfl ⟨rfl, rfl⟩
def f_X11_ask (I : bm_TI) : Option (Int32) := some (I 0 16)
set_option maxHeartbeats 4000000 in
set_option maxRecDepth 100000 in
theorem c_X11_ask {lc : bm_L} {d n : Nat} {I : bm_TI} {J : bm_TJ} {R W : bm_TR} {v : Int32} (hN : 181 ≤ n) (hR : bm_RR R) (h : f_X11_ask I = some v) : bm_C lc m_X11_ask d n n [.ref 0] (I, J, R, W) (fun r M' => r = some (.int v) ∧ M' = (I, J, R, W)) := by
  refine bm_C.ofV (by decide) (Nat.le_of_ble_eq_true rfl) ?_
  show bm_V lc m_X11_ask d n n n 0 [(0, .ref 0)] [] (I, J, R, W) _
  unfold f_X11_ask at h
  refine bv_aload_n dX11_ask_0 0 rfl ?_
  refine bz_getI hN okL_0 dX11_ask_1 fl_11_99 rfl ?_
  obtain rfl := Option.some.inj h
  exact bv_iret (x := (I 0 16)) dX11_ask_4 rfl ⟨rfl, rfl⟩
def f_X11_unrest_l4 (I : bm_TI) : Nat → Int32 → Int32 → Option (Int32)
  | 0, _, _ => none
  | k + 1, x1, x2 => (if (I 4 10) ≤ x2 then some x1 else (if bm_ix 8 x2 = true then (if (I 9 x2.toNatClampNeg) = (-1) then f_X11_unrest_l4 I k x1 (x2 + 1) else ((f_X8_browOf I 26 x2).bind fun v2 => ((f_X8_browOf I 26 (I 9 x2.toNatClampNeg)).bind fun v4 => (if v2 ≤ v4 then f_X11_unrest_l4 I k x1 (x2 + 1) else f_X11_unrest_l4 I k (x1 ||| (bm_ishl 1 x2)) (x2 + 1))))) else none))
set_option maxHeartbeats 4000000 in
set_option maxRecDepth 100000 in
theorem v_X11_unrest_l4 {lc : bm_L} {d n : Nat} {Q : Option Value → bm_M → Prop} {R : bm_TR} {I : bm_TI} {J : bm_TJ} {W : bm_TR} (hN : 181 ≤ n) (hR : bm_RR R) : ∀ (k : Nat) (x1 : Int32) (x2 : Int32) (r : Int32), f_X11_unrest_l4 I k x1 x2 = some r → (∀ yy, yy = r → bm_V lc m_X11_unrest (d + 2) n n n 61 [(1, .int yy)] [] (I, J, R, W) Q) → bm_V lc m_X11_unrest (d + 2) n n n 4 [(0, .ref 0), (1, .int x1), (2, .int x2)] [] (I, J, R, W) Q := by
  intro k
  induction k with
  | zero => intro x1 x2 r h; cases (show (none : Option (Int32)) = some r from h)
  | succ k ih =>
    intro x1 x2 r h K0
    unfold f_X11_unrest_l4 at h
    refine bv_iload_n dX11_unrest_4 2 rfl ?_
    refine bv_aload_n dX11_unrest_5 0 rfl ?_
    refine bz_getA (a := 4) hN okL_0 (hR _ _ _ r0_0_2) dX11_unrest_6 fl_11_28 rfl ?_
    refine bz_getI hN okL_4 dX11_unrest_9 fl_11_132 rfl ?_
    refine bv_icmp_ge (tgt := 61) dX11_unrest_12 (by decide) (fun cc => ?_) (fun cc => ?_)
    · replace h := bu_t h cc
      refine bw_ls (ls1 := [(1, .int x1)]) [1] rfl ?_
      obtain rfl := Option.some.inj h
      exact K0 _ rfl
    · replace h := bu_f h cc
      refine bv_aload_n dX11_unrest_15 0 rfl ?_
      refine bz_getA (a := 4) hN okL_0 (hR _ _ _ r0_0_2) dX11_unrest_16 fl_11_28 rfl ?_
      refine bz_getA (a := 9) hN okL_4 (hR _ _ _ r0_4_4) dX11_unrest_19 fl_11_191 rfl ?_
      refine bv_iload_n dX11_unrest_22 2 rfl ?_
      obtain ⟨r1, h⟩ := bu_ix h
      refine bz_iald hN rkL_9 r1 rfl dX11_unrest_23 ?_
      refine bv_istore_n (ls1 := [(0, .ref 0), (1, .int x1), (2, .int x2), (3, .int (I 9 x2.toNatClampNeg))]) dX11_unrest_24 (by decide) rfl rfl ?_
      refine bv_iload_n dX11_unrest_25 3 rfl ?_
      refine bv_iconst (v := (-1)) dX11_unrest_26 (by decide) ?_
      refine bv_icmp_eq (tgt := 55) dX11_unrest_27 (by decide) (fun cc => ?_) (fun cc => ?_)
      · replace h := bu_t h cc
        refine bv_iinc (j := 2) (v := (x2 + 1)) (ls1 := [(0, .ref 0), (1, .int x1), (2, .int (x2 + 1)), (3, .int (I 9 x2.toNatClampNeg))]) dX11_unrest_55 rfl rfl (by decide) rfl rfl ?_
        refine bv_goto (tgt := 4) dX11_unrest_58 (by decide) ?_
        refine bw_ls (ls1 := [(0, .ref 0), (1, .int x1), (2, .int (x2 + 1))]) [0, 1, 2] rfl ?_
        exact ih _ _ _ h K0
      · replace h := bu_f h cc
        refine bv_aload_n dX11_unrest_30 0 rfl ?_
        refine bz_getA (a := 26) hN okL_0 (hR _ _ _ r0_0_4) dX11_unrest_31 fl_11_40 rfl ?_
        refine bv_iload_n dX11_unrest_34 2 rfl ?_
        obtain ⟨v2, p3, h⟩ := bu_bd h
        refine bw_callV (As := [.int x2]) hN okL_26 ⟨_, _, rfl⟩ dX11_unrest_35 mc_11_165 (c_X8_browOf (d := d + 0) hN hR okL_26 r0_26_0 p3) rfl rfl (by decide) ?_
        refine bv_aload_n dX11_unrest_38 0 rfl ?_
        refine bz_getA (a := 26) hN okL_0 (hR _ _ _ r0_0_4) dX11_unrest_39 fl_11_40 rfl ?_
        refine bv_iload_n dX11_unrest_42 3 rfl ?_
        obtain ⟨v4, p5, h⟩ := bu_bd h
        refine bw_callV (As := [.int (I 9 x2.toNatClampNeg)]) hN okL_26 ⟨_, _, rfl⟩ dX11_unrest_43 mc_11_165 (c_X8_browOf (d := d + 0) hN hR okL_26 r0_26_0 p5) rfl rfl (Nat.le_of_ble_eq_true rfl) ?_
        refine bv_icmp_le (tgt := 55) dX11_unrest_46 (by decide) (fun cc => ?_) (fun cc => ?_)
        · replace h := bu_t h cc
          refine bv_iinc (j := 2) (v := (x2 + 1)) (ls1 := [(0, .ref 0), (1, .int x1), (2, .int (x2 + 1)), (3, .int (I 9 x2.toNatClampNeg))]) dX11_unrest_55 rfl rfl (by decide) rfl rfl ?_
          refine bv_goto (tgt := 4) dX11_unrest_58 (by decide) ?_
          refine bw_ls (ls1 := [(0, .ref 0), (1, .int x1), (2, .int (x2 + 1))]) [0, 1, 2] rfl ?_
          exact ih _ _ _ h K0
        · replace h := bu_f h cc
          refine bv_iload_n dX11_unrest_49 1 rfl ?_
          refine bv_iconst (v := 1) dX11_unrest_50 (by decide) ?_
          refine bv_iload_n dX11_unrest_51 2 rfl ?_
          refine bv_ishl dX11_unrest_52 ?_
          refine bv_ior dX11_unrest_53 ?_
          refine bv_istore_n (ls1 := [(0, .ref 0), (1, .int (x1 ||| (bm_ishl 1 x2))), (2, .int x2), (3, .int (I 9 x2.toNatClampNeg))]) dX11_unrest_54 (by decide) rfl rfl ?_
          refine bv_iinc (j := 2) (v := (x2 + 1)) (ls1 := [(0, .ref 0), (1, .int (x1 ||| (bm_ishl 1 x2))), (2, .int (x2 + 1)), (3, .int (I 9 x2.toNatClampNeg))]) dX11_unrest_55 rfl rfl (by decide) rfl rfl ?_
          refine bv_goto (tgt := 4) dX11_unrest_58 (by decide) ?_
          refine bw_ls (ls1 := [(0, .ref 0), (1, .int (x1 ||| (bm_ishl 1 x2))), (2, .int (x2 + 1))]) [0, 1, 2] rfl ?_
          exact ih _ _ _ h K0
def f_X11_unrest (I : bm_TI) : Option (Int32) := ((f_X11_unrest_l4 I 1000 0 0).bind fun y3 => some y3)
set_option maxHeartbeats 4000000 in
set_option maxRecDepth 100000 in
theorem c_X11_unrest {lc : bm_L} {d n : Nat} {I : bm_TI} {J : bm_TJ} {R W : bm_TR} {v : Int32} (hN : 181 ≤ n) (hR : bm_RR R) (h : f_X11_unrest I = some v) : bm_C lc m_X11_unrest (d + 2) n n [.ref 0] (I, J, R, W) (fun r M' => r = some (.int v) ∧ M' = (I, J, R, W)) := by
  refine bm_C.ofV (by decide) (Nat.le_of_ble_eq_true rfl) ?_
  show bm_V lc m_X11_unrest (d + 2) n n n 0 [(0, .ref 0)] [] (I, J, R, W) _
  unfold f_X11_unrest at h
  refine bv_iconst (v := 0) dX11_unrest_0 (by decide) ?_
  refine bv_istore_n (ls1 := [(0, .ref 0), (1, .int 0)]) dX11_unrest_1 (by decide) rfl rfl ?_
  refine bv_iconst (v := 0) dX11_unrest_2 (by decide) ?_
  refine bv_istore_n (ls1 := [(0, .ref 0), (1, .int 0), (2, .int 0)]) dX11_unrest_3 (by decide) rfl rfl ?_
  obtain ⟨r1, p2, h⟩ := bu_bd h
  refine v_X11_unrest_l4 hN hR 1000 _ _ _ p2 (fun y3 hy => ?_)
  · subst hy
    refine bv_iload_n dX11_unrest_61 0 rfl ?_
    obtain rfl := Option.some.inj h
    exact bv_iret (x := y3) dX11_unrest_62 rfl ⟨rfl, rfl⟩
def f_X11_report (I : bm_TI) (J : bm_TJ) (x1 : Int32) : Option (Int32 × bm_TI) := ((f_X11_isMan I x1).bind fun v1 => (if v1 = true then ((f_X6_write I J x1).bind fun v3 => some ((v3 162 1), v3)) else some ((-1), I)))
set_option maxHeartbeats 4000000 in
set_option maxRecDepth 100000 in
theorem c_X11_report {lc : bm_L} {d n : Nat} {I : bm_TI} {J : bm_TJ} {R W : bm_TR} {x1 : Int32} {v : Int32 × bm_TI} (hN : 181 ≤ n) (hR : bm_RR R) (h : f_X11_report I J x1 = some v) : bm_C lc m_X11_report (d + 7) n n [.ref 0, .int x1] (I, J, R, W) (fun r M' => r = some (.int v.1) ∧ M' = (v.2, J, R, W)) := by
  refine bm_C.ofV (by decide) (Nat.le_of_ble_eq_true rfl) ?_
  show bm_V lc m_X11_report (d + 7) n n n 0 [(0, .ref 0), (1, .int x1)] [] (I, J, R, W) _
  unfold f_X11_report at h
  refine bv_aload_n dX11_report_0 0 rfl ?_
  refine bv_iload_n dX11_report_1 1 rfl ?_
  obtain ⟨v1, p2, h⟩ := bu_bd h
  refine bw_callV (As := [.int x1]) hN okL_0 ⟨_, _, rfl⟩ dX11_report_2 mc_11_147 (c_X11_isMan (d := d + 6) hN hR p2) rfl rfl (by decide) ?_
  refine bw_ifB_ne (b := v1) (tgt := 10) dX11_report_5 (by decide) (fun cc => ?_) (fun cc => ?_)
  · replace h := bu_bt h cc
    refine bv_aload_n dX11_report_10 0 rfl ?_
    refine bz_getA (a := 162) hN okL_0 (hR _ _ _ r0_0_12) dX11_report_11 fl_11_88 rfl ?_
    refine bv_iload_n dX11_report_14 1 rfl ?_
    refine bv_aload_n dX11_report_15 0 rfl ?_
    refine bz_getA (a := 26) hN okL_0 (hR _ _ _ r0_0_4) dX11_report_16 fl_11_40 rfl ?_
    obtain ⟨v3, p4, h⟩ := bu_bd h
    refine bw_callVv (As := [.int x1, .ref 26]) hN okL_162 ⟨_, _, rfl⟩ dX11_report_19 mc_11_295 (c_X6_write (d := d + 0) hN hR p4) rfl rfl (by decide) ?_
    refine bv_aload_n dX11_report_22 0 rfl ?_
    refine bz_getA (a := 162) hN okL_0 (hR _ _ _ r0_0_12) dX11_report_23 fl_11_88 rfl ?_
    refine bz_getI hN okL_162 dX11_report_26 fl_11_299 rfl ?_
    obtain rfl := Option.some.inj h
    exact bv_iret (x := (v3 162 1)) dX11_report_29 rfl ⟨rfl, rfl⟩
  · replace h := bu_bf h cc
    refine bv_iconst (v := (-1)) dX11_report_8 (by decide) ?_
    obtain rfl := Option.some.inj h
    exact bv_iret (x := (-1)) dX11_report_9 rfl ⟨rfl, rfl⟩
def f_X11_byteAt (I : bm_TI) (x1 : Int32) : Option (Int32) := (if x1 < 0 then some (-1) else (if (I 162 1) ≤ x1 then some (-1) else (if bm_ix 64 x1 = true then some (I 163 x1.toNatClampNeg) else none)))
set_option maxHeartbeats 4000000 in
set_option maxRecDepth 100000 in
theorem c_X11_byteAt {lc : bm_L} {d n : Nat} {I : bm_TI} {J : bm_TJ} {R W : bm_TR} {x1 : Int32} {v : Int32} (hN : 181 ≤ n) (hR : bm_RR R) (h : f_X11_byteAt I x1 = some v) : bm_C lc m_X11_byteAt d n n [.ref 0, .int x1] (I, J, R, W) (fun r M' => r = some (.int v) ∧ M' = (I, J, R, W)) := by
  refine bm_C.ofV (by decide) (Nat.le_of_ble_eq_true rfl) ?_
  show bm_V lc m_X11_byteAt d n n n 0 [(0, .ref 0), (1, .int x1)] [] (I, J, R, W) _
  unfold f_X11_byteAt at h
  refine bv_iload_n dX11_byteAt_0 1 rfl ?_
  refine bv_if_lt (tgt := 27) dX11_byteAt_1 (by decide) (fun cc => ?_) (fun cc => ?_)
  · replace h := bu_t h cc
    refine bv_iconst (v := (-1)) dX11_byteAt_27 (by decide) ?_
    obtain rfl := Option.some.inj h
    exact bv_iret (x := (-1)) dX11_byteAt_28 rfl ⟨rfl, rfl⟩
  · replace h := bu_f h cc
    refine bv_iload_n dX11_byteAt_4 1 rfl ?_
    refine bv_aload_n dX11_byteAt_5 0 rfl ?_
    refine bz_getA (a := 162) hN okL_0 (hR _ _ _ r0_0_12) dX11_byteAt_6 fl_11_88 rfl ?_
    refine bz_getI hN okL_162 dX11_byteAt_9 fl_11_299 rfl ?_
    refine bv_icmp_ge (tgt := 27) dX11_byteAt_12 (by decide) (fun cc => ?_) (fun cc => ?_)
    · replace h := bu_t h cc
      refine bv_iconst (v := (-1)) dX11_byteAt_27 (by decide) ?_
      obtain rfl := Option.some.inj h
      exact bv_iret (x := (-1)) dX11_byteAt_28 rfl ⟨rfl, rfl⟩
    · replace h := bu_f h cc
      refine bv_aload_n dX11_byteAt_15 0 rfl ?_
      refine bz_getA (a := 162) hN okL_0 (hR _ _ _ r0_0_12) dX11_byteAt_16 fl_11_88 rfl ?_
      refine bz_getA (a := 163) hN okL_162 (hR _ _ _ r0_162_0) dX11_byteAt_19 fl_11_300 rfl ?_
      refine bv_iload_n dX11_byteAt_22 1 rfl ?_
      obtain ⟨r1, h⟩ := bu_ix h
      refine bz_iald hN rkL_163 r1 rfl dX11_byteAt_23 ?_
      refine bv_goto (tgt := 28) dX11_byteAt_24 (by decide) ?_
      obtain rfl := Option.some.inj h
      exact bv_iret (x := (I 163 x1.toNatClampNeg)) dX11_byteAt_28 rfl ⟨rfl, rfl⟩
def f_X11_drawn (I : bm_TI) (x1 : Int32) (x2 : Int32) : Option (Int32 × bm_TI) := (if x1 < 1 then some ((-1), I) else (if x1 ≤ 60 then ((f_X8_copyFrom I 33 26).bind fun v1 => ((f_X8_drawHours v1 x1 x2).bind fun v3 => (if v3.1 ≤ 0 then some (v3.1, v3.2) else ((f_X11_settleTrial v3.2).bind fun v5 => some (v3.1, v5))))) else some ((-1), I)))
set_option maxHeartbeats 4000000 in
set_option maxRecDepth 100000 in
theorem c_X11_drawn {lc : bm_L} {d n : Nat} {I : bm_TI} {J : bm_TJ} {R W : bm_TR} {x1 : Int32} {x2 : Int32} {v : Int32 × bm_TI} (hN : 181 ≤ n) (hR : bm_RR R) (h : f_X11_drawn I x1 x2 = some v) : bm_C lc m_X11_drawn (d + 7) n n [.ref 0, .int x1, .int x2] (I, J, R, W) (fun r M' => r = some (.int v.1) ∧ M' = (v.2, J, R, W)) := by
  refine bm_C.ofV (by decide) (Nat.le_of_ble_eq_true rfl) ?_
  show bm_V lc m_X11_drawn (d + 7) n n n 0 [(0, .ref 0), (1, .int x1), (2, .int x2)] [] (I, J, R, W) _
  unfold f_X11_drawn at h
  refine bv_iload_n dX11_drawn_0 1 rfl ?_
  refine bv_iconst (v := 1) dX11_drawn_1 (by decide) ?_
  refine bv_icmp_lt (tgt := 11) dX11_drawn_2 (by decide) (fun cc => ?_) (fun cc => ?_)
  · replace h := bu_t h cc
    refine bv_iconst (v := (-1)) dX11_drawn_11 (by decide) ?_
    obtain rfl := Option.some.inj h
    exact bv_iret (x := (-1)) dX11_drawn_12 rfl ⟨rfl, rfl⟩
  · replace h := bu_f h cc
    refine bv_iload_n dX11_drawn_5 1 rfl ?_
    refine bv_bipush (v := 60) dX11_drawn_6 (by decide) ?_
    refine bv_icmp_le (tgt := 13) dX11_drawn_8 (by decide) (fun cc => ?_) (fun cc => ?_)
    · replace h := bu_t h cc
      refine bv_aload_n dX11_drawn_13 0 rfl ?_
      refine bz_getA (a := 33) hN okL_0 (hR _ _ _ r0_0_5) dX11_drawn_14 fl_11_44 rfl ?_
      refine bv_aload_n dX11_drawn_17 0 rfl ?_
      refine bz_getA (a := 26) hN okL_0 (hR _ _ _ r0_0_4) dX11_drawn_18 fl_11_40 rfl ?_
      obtain ⟨v1, p2, h⟩ := bu_bd h
      refine bw_callVv (As := [.ref 26]) hN okL_33 ⟨_, _, rfl⟩ dX11_drawn_21 mc_11_226 (c_X8_copyFrom (d := d + 5) hN hR okL_33 okL_26 p2) rfl rfl (by decide) ?_
      refine bv_aload_n dX11_drawn_24 0 rfl ?_
      refine bz_getA (a := 33) hN okL_0 (hR _ _ _ r0_0_5) dX11_drawn_25 fl_11_44 rfl ?_
      refine bv_iload_n dX11_drawn_28 1 rfl ?_
      refine bv_iload_n dX11_drawn_29 2 rfl ?_
      obtain ⟨v3, p4, h⟩ := bu_bd h
      refine bw_callV (As := [.int x1, .int x2]) hN okL_33 ⟨_, _, rfl⟩ dX11_drawn_30 mc_11_303 (c_X8_drawHours (d := d + 0) hN hR p4) rfl rfl (by decide) ?_
      refine bv_istore_n (ls1 := [(0, .ref 0), (1, .int x1), (2, .int x2), (3, .int v3.1)]) dX11_drawn_33 (by decide) rfl rfl ?_
      refine bv_iload_n dX11_drawn_34 3 rfl ?_
      refine bv_if_le (tgt := 42) dX11_drawn_35 (by decide) (fun cc => ?_) (fun cc => ?_)
      · replace h := bu_t h cc
        refine bv_iload_n dX11_drawn_42 3 rfl ?_
        obtain rfl := Option.some.inj h
        exact bv_iret (x := v3.1) dX11_drawn_43 rfl ⟨rfl, rfl⟩
      · replace h := bu_f h cc
        refine bv_aload_n dX11_drawn_38 0 rfl ?_
        obtain ⟨v5, p6, h⟩ := bu_bd h
        refine bw_callVv (As := []) hN okL_0 ⟨_, _, rfl⟩ dX11_drawn_39 mc_11_232 (c_X11_settleTrial (d := d + 3) hN hR p6) rfl rfl (by decide) ?_
        refine bv_iload_n dX11_drawn_42 3 rfl ?_
        obtain rfl := Option.some.inj h
        exact bv_iret (x := v3.1) dX11_drawn_43 rfl ⟨rfl, rfl⟩
    · replace h := bu_f h cc
      refine bv_iconst (v := (-1)) dX11_drawn_11 (by decide) ?_
      obtain rfl := Option.some.inj h
      exact bv_iret (x := (-1)) dX11_drawn_12 rfl ⟨rfl, rfl⟩
def f_X11_odds_l27 (x1 : Int32) (x2 : Int32) (x3 : Int32) : Nat → Int32 → Int32 → bm_TI → Option (Int32 × bm_TI)
  | 0, _, _, _ => none
  | k + 1, x4, x5, I => (if x2 ≤ x5 then some (x4, I) else ((f_X8_copyFrom I 33 26).bind fun v1 => ((f_X8_drawHours v1 20 (x3 + x5)).bind fun v3 => (if bm_ix 8 x1 = true then (if (v3.2 37 x1.toNatClampNeg) = (-1) then f_X11_odds_l27 x1 x2 x3 k x4 (x5 + 1) v3.2 else f_X11_odds_l27 x1 x2 x3 k (x4 + 1) (x5 + 1) v3.2) else none))))
set_option maxHeartbeats 4000000 in
set_option maxRecDepth 100000 in
theorem v_X11_odds_l27 {lc : bm_L} {d n : Nat} {Q : Option Value → bm_M → Prop} {R : bm_TR} {J : bm_TJ} {W : bm_TR} {x1 : Int32} {x2 : Int32} {x3 : Int32} (hN : 181 ≤ n) (hR : bm_RR R) : ∀ (k : Nat) (x4 : Int32) (x5 : Int32) (I : bm_TI) (r : Int32 × bm_TI), f_X11_odds_l27 x1 x2 x3 k x4 x5 I = some r → (∀ yy, yy = r → bm_V lc m_X11_odds (d + 7) n n n 80 [(4, .int yy.1)] [] (yy.2, J, R, W) Q) → bm_V lc m_X11_odds (d + 7) n n n 27 [(0, .ref 0), (1, .int x1), (2, .int x2), (3, .int x3), (4, .int x4), (5, .int x5)] [] (I, J, R, W) Q := by
  intro k
  induction k with
  | zero => intro x4 x5 I r h; cases (show (none : Option (Int32 × bm_TI)) = some r from h)
  | succ k ih =>
    intro x4 x5 I r h K0
    unfold f_X11_odds_l27 at h
    refine bv_iload dX11_odds_27 5 rfl ?_
    refine bv_iload_n dX11_odds_29 2 rfl ?_
    refine bv_icmp_ge (tgt := 80) dX11_odds_30 (by decide) (fun cc => ?_) (fun cc => ?_)
    · replace h := bu_t h cc
      refine bw_ls (ls1 := [(4, .int x4)]) [4] rfl ?_
      obtain rfl := Option.some.inj h
      exact K0 _ rfl
    · replace h := bu_f h cc
      refine bv_aload_n dX11_odds_33 0 rfl ?_
      refine bz_getA (a := 33) hN okL_0 (hR _ _ _ r0_0_5) dX11_odds_34 fl_11_44 rfl ?_
      refine bv_aload_n dX11_odds_37 0 rfl ?_
      refine bz_getA (a := 26) hN okL_0 (hR _ _ _ r0_0_4) dX11_odds_38 fl_11_40 rfl ?_
      obtain ⟨v1, p2, h⟩ := bu_bd h
      refine bw_callVv (As := [.ref 26]) hN okL_33 ⟨_, _, rfl⟩ dX11_odds_41 mc_11_226 (c_X8_copyFrom (d := d + 5) hN hR okL_33 okL_26 p2) rfl rfl (by decide) ?_
      refine bv_aload_n dX11_odds_44 0 rfl ?_
      refine bz_getA (a := 33) hN okL_0 (hR _ _ _ r0_0_5) dX11_odds_45 fl_11_44 rfl ?_
      refine bv_bipush (v := 20) dX11_odds_48 (by decide) ?_
      refine bv_iload_n dX11_odds_50 3 rfl ?_
      refine bv_iload dX11_odds_51 5 rfl ?_
      refine bv_iadd dX11_odds_53 ?_
      obtain ⟨v3, p4, h⟩ := bu_bd h
      refine bw_callV (As := [.int 20, .int (x3 + x5)]) hN okL_33 ⟨_, _, rfl⟩ dX11_odds_54 mc_11_303 (c_X8_drawHours (d := d + 0) hN hR p4) rfl rfl (by decide) ?_
      refine bv_pop dX11_odds_57 rfl ?_
      refine bv_aload_n dX11_odds_58 0 rfl ?_
      refine bz_getA (a := 33) hN okL_0 (hR _ _ _ r0_0_5) dX11_odds_59 fl_11_44 rfl ?_
      refine bz_getA (a := 37) hN okL_33 (hR _ _ _ r0_33_4) dX11_odds_62 fl_11_182 rfl ?_
      refine bv_iload_n dX11_odds_65 1 rfl ?_
      obtain ⟨r5, h⟩ := bu_ix h
      refine bz_iald hN rkL_37 r5 rfl dX11_odds_66 ?_
      refine bv_iconst (v := (-1)) dX11_odds_67 (by decide) ?_
      refine bv_icmp_eq (tgt := 74) dX11_odds_68 (by decide) (fun cc => ?_) (fun cc => ?_)
      · replace h := bu_t h cc
        refine bv_iinc (j := 5) (v := (x5 + 1)) (ls1 := [(0, .ref 0), (1, .int x1), (2, .int x2), (3, .int x3), (4, .int x4), (5, .int (x5 + 1))]) dX11_odds_74 rfl rfl (by decide) rfl rfl ?_
        refine bv_goto (tgt := 27) dX11_odds_77 (by decide) ?_
        exact ih _ _ _ _ h K0
      · replace h := bu_f h cc
        refine bv_iinc (j := 4) (v := (x4 + 1)) (ls1 := [(0, .ref 0), (1, .int x1), (2, .int x2), (3, .int x3), (4, .int (x4 + 1)), (5, .int x5)]) dX11_odds_71 rfl rfl (by decide) rfl rfl ?_
        refine bv_iinc (j := 5) (v := (x5 + 1)) (ls1 := [(0, .ref 0), (1, .int x1), (2, .int x2), (3, .int x3), (4, .int (x4 + 1)), (5, .int (x5 + 1))]) dX11_odds_74 rfl rfl (by decide) rfl rfl ?_
        refine bv_goto (tgt := 27) dX11_odds_77 (by decide) ?_
        exact ih _ _ _ _ h K0
def f_X11_odds (I : bm_TI) (x1 : Int32) (x2 : Int32) (x3 : Int32) : Option (Int32 × bm_TI) := ((f_X11_isMan I x1).bind fun v1 => (if v1 = true then (if x2 < 1 then some ((-1), I) else (if x2 ≤ 30 then ((f_X11_odds_l27 x1 x2 x3 1000 0 0 I).bind fun y5 => some (y5.1, y5.2)) else some ((-1), I))) else some ((-1), I)))
set_option maxHeartbeats 4000000 in
set_option maxRecDepth 100000 in
theorem c_X11_odds {lc : bm_L} {d n : Nat} {I : bm_TI} {J : bm_TJ} {R W : bm_TR} {x1 : Int32} {x2 : Int32} {x3 : Int32} {v : Int32 × bm_TI} (hN : 181 ≤ n) (hR : bm_RR R) (h : f_X11_odds I x1 x2 x3 = some v) : bm_C lc m_X11_odds (d + 7) n n [.ref 0, .int x1, .int x2, .int x3] (I, J, R, W) (fun r M' => r = some (.int v.1) ∧ M' = (v.2, J, R, W)) := by
  refine bm_C.ofV (by decide) (Nat.le_of_ble_eq_true rfl) ?_
  show bm_V lc m_X11_odds (d + 7) n n n 0 [(0, .ref 0), (1, .int x1), (2, .int x2), (3, .int x3)] [] (I, J, R, W) _
  unfold f_X11_odds at h
  refine bv_aload_n dX11_odds_0 0 rfl ?_
  refine bv_iload_n dX11_odds_1 1 rfl ?_
  obtain ⟨v1, p2, h⟩ := bu_bd h
  refine bw_callV (As := [.int x1]) hN okL_0 ⟨_, _, rfl⟩ dX11_odds_2 mc_11_147 (c_X11_isMan (d := d + 6) hN hR p2) rfl rfl (by decide) ?_
  refine bw_ifB_eq (b := v1) (tgt := 19) dX11_odds_5 (by decide) (fun cc => ?_) (fun cc => ?_)
  · replace h := bu_bf h cc
    refine bv_iconst (v := (-1)) dX11_odds_19 (by decide) ?_
    obtain rfl := Option.some.inj h
    exact bv_iret (x := (-1)) dX11_odds_20 rfl ⟨rfl, rfl⟩
  · replace h := bu_bt h cc
    refine bv_iload_n dX11_odds_8 2 rfl ?_
    refine bv_iconst (v := 1) dX11_odds_9 (by decide) ?_
    refine bv_icmp_lt (tgt := 19) dX11_odds_10 (by decide) (fun cc => ?_) (fun cc => ?_)
    · replace h := bu_t h cc
      refine bv_iconst (v := (-1)) dX11_odds_19 (by decide) ?_
      obtain rfl := Option.some.inj h
      exact bv_iret (x := (-1)) dX11_odds_20 rfl ⟨rfl, rfl⟩
    · replace h := bu_f h cc
      refine bv_iload_n dX11_odds_13 2 rfl ?_
      refine bv_bipush (v := 30) dX11_odds_14 (by decide) ?_
      refine bv_icmp_le (tgt := 21) dX11_odds_16 (by decide) (fun cc => ?_) (fun cc => ?_)
      · replace h := bu_t h cc
        refine bv_iconst (v := 0) dX11_odds_21 (by decide) ?_
        refine bv_istore (ls1 := [(0, .ref 0), (1, .int x1), (2, .int x2), (3, .int x3), (4, .int 0)]) dX11_odds_22 (by decide) rfl rfl ?_
        refine bv_iconst (v := 0) dX11_odds_24 (by decide) ?_
        refine bv_istore (ls1 := [(0, .ref 0), (1, .int x1), (2, .int x2), (3, .int x3), (4, .int 0), (5, .int 0)]) dX11_odds_25 (by decide) rfl rfl ?_
        obtain ⟨r3, p4, h⟩ := bu_bd h
        refine v_X11_odds_l27 hN hR 1000 _ _ _ _ p4 (fun y5 hy => ?_)
        · subst hy
          refine bv_iload dX11_odds_80 0 rfl ?_
          obtain rfl := Option.some.inj h
          exact bv_iret (x := y5.1) dX11_odds_82 rfl ⟨rfl, rfl⟩
      · replace h := bu_f h cc
        refine bv_iconst (v := (-1)) dX11_odds_19 (by decide) ?_
        obtain rfl := Option.some.inj h
        exact bv_iret (x := (-1)) dX11_odds_20 rfl ⟨rfl, rfl⟩
def f_X11_tryBook_l29 : Nat → Int32 → bm_TI → Option (bm_TI)
  | 0, _, _ => none
  | k + 1, x1, I => (if (I 147 3) ≤ x1 then some I else (if (I 147 4) = 0 then (if bm_ix 40 x1 = true then ((f_X8_live I (I 148 x1.toNatClampNeg) (I 149 x1.toNatClampNeg) (I 150 x1.toNatClampNeg)).bind fun v2 => (if v2.1 = 0 then f_X11_tryBook_l29 k (x1 + 1) (bm_uI v2.2 147 5 ((v2.2 147 5) + 1)) else f_X11_tryBook_l29 k (x1 + 1) (bm_uI v2.2 147 4 ((10 * (v2.2 148 x1.toNatClampNeg)) + v2.1)))) else none) else some I))
set_option maxHeartbeats 4000000 in
set_option maxRecDepth 100000 in
theorem v_X11_tryBook_l29 {lc : bm_L} {d n : Nat} {Q : Option Value → bm_M → Prop} {R : bm_TR} {J : bm_TJ} {W : bm_TR} (hN : 181 ≤ n) (hR : bm_RR R) : ∀ (k : Nat) (x1 : Int32) (I : bm_TI) (r : bm_TI), f_X11_tryBook_l29 k x1 I = some r → (∀ yy, yy = r → bm_V lc m_X11_tryBook (d + 6) n n n 132 [(0, .ref 0)] [] (yy, J, R, W) Q) → bm_V lc m_X11_tryBook (d + 6) n n n 29 [(0, .ref 0), (1, .int x1)] [] (I, J, R, W) Q := by
  intro k
  induction k with
  | zero => intro x1 I r h; cases (show (none : Option (bm_TI)) = some r from h)
  | succ k ih =>
    intro x1 I r h K0
    unfold f_X11_tryBook_l29 at h
    refine bv_iload_n dX11_tryBook_29 1 rfl ?_
    refine bv_aload_n dX11_tryBook_30 0 rfl ?_
    refine bz_getA (a := 147) hN okL_0 (hR _ _ _ r0_0_8) dX11_tryBook_31 fl_11_64 rfl ?_
    refine bz_getI hN okL_147 dX11_tryBook_34 fl_11_361 rfl ?_
    refine bv_icmp_ge (tgt := 132) dX11_tryBook_37 (by decide) (fun cc => ?_) (fun cc => ?_)
    · replace h := bu_t h cc
      refine bw_ls (ls1 := [(0, .ref 0)]) [0] rfl ?_
      obtain rfl := Option.some.inj h
      exact K0 _ rfl
    · replace h := bu_f h cc
      refine bv_aload_n dX11_tryBook_40 0 rfl ?_
      refine bz_getA (a := 147) hN okL_0 (hR _ _ _ r0_0_8) dX11_tryBook_41 fl_11_64 rfl ?_
      refine bz_getI hN okL_147 dX11_tryBook_44 fl_11_315 rfl ?_
      refine bv_if_ne (tgt := 132) dX11_tryBook_47 (by decide) (fun cc => ?_) (fun cc => ?_)
      · replace h := bu_f h cc
        refine bw_ls (ls1 := [(0, .ref 0)]) [0] rfl ?_
        obtain rfl := Option.some.inj h
        exact K0 _ rfl
      · replace h := bu_t h cc
        refine bv_aload_n dX11_tryBook_50 0 rfl ?_
        refine bz_getA (a := 33) hN okL_0 (hR _ _ _ r0_0_5) dX11_tryBook_51 fl_11_44 rfl ?_
        refine bv_aload_n dX11_tryBook_54 0 rfl ?_
        refine bz_getA (a := 147) hN okL_0 (hR _ _ _ r0_0_8) dX11_tryBook_55 fl_11_64 rfl ?_
        refine bz_getA (a := 148) hN okL_147 (hR _ _ _ r0_147_0) dX11_tryBook_58 fl_11_364 rfl ?_
        refine bv_iload_n dX11_tryBook_61 1 rfl ?_
        obtain ⟨r1, h⟩ := bu_ix h
        refine bz_iald hN rkL_148 r1 rfl dX11_tryBook_62 ?_
        refine bv_aload_n dX11_tryBook_63 0 rfl ?_
        refine bz_getA (a := 147) hN okL_0 (hR _ _ _ r0_0_8) dX11_tryBook_64 fl_11_64 rfl ?_
        refine bz_getA (a := 149) hN okL_147 (hR _ _ _ r0_147_1) dX11_tryBook_67 fl_11_367 rfl ?_
        refine bv_iload_n dX11_tryBook_70 1 rfl ?_
        refine bz_iald hN rkL_149 r1 rfl dX11_tryBook_71 ?_
        refine bv_aload_n dX11_tryBook_72 0 rfl ?_
        refine bz_getA (a := 147) hN okL_0 (hR _ _ _ r0_0_8) dX11_tryBook_73 fl_11_64 rfl ?_
        refine bz_getA (a := 150) hN okL_147 (hR _ _ _ r0_147_2) dX11_tryBook_76 fl_11_370 rfl ?_
        refine bv_iload_n dX11_tryBook_79 1 rfl ?_
        refine bz_iald hN rkL_150 r1 rfl dX11_tryBook_80 ?_
        obtain ⟨v2, p3, h⟩ := bu_bd h
        refine bw_callV (As := [.int (I 148 x1.toNatClampNeg), .int (I 149 x1.toNatClampNeg), .int (I 150 x1.toNatClampNeg)]) hN okL_33 ⟨_, _, rfl⟩ dX11_tryBook_81 mc_11_356 (c_X8_live (d := d + 0) hN hR p3) rfl rfl (by decide) ?_
        refine bv_istore_n (ls1 := [(0, .ref 0), (1, .int x1), (2, .int v2.1)]) dX11_tryBook_84 (by decide) rfl rfl ?_
        refine bv_iload_n dX11_tryBook_85 2 rfl ?_
        refine bv_if_ne (tgt := 105) dX11_tryBook_86 (by decide) (fun cc => ?_) (fun cc => ?_)
        · replace h := bu_f h cc
          refine bv_aload_n dX11_tryBook_105 0 rfl ?_
          refine bz_getA (a := 147) hN okL_0 (hR _ _ _ r0_0_8) dX11_tryBook_106 fl_11_64 rfl ?_
          refine bv_bipush (v := 10) dX11_tryBook_109 (by decide) ?_
          refine bv_aload_n dX11_tryBook_111 0 rfl ?_
          refine bz_getA (a := 147) hN okL_0 (hR _ _ _ r0_0_8) dX11_tryBook_112 fl_11_64 rfl ?_
          refine bz_getA (a := 148) hN okL_147 (hR _ _ _ r0_147_0) dX11_tryBook_115 fl_11_364 rfl ?_
          refine bv_iload_n dX11_tryBook_118 1 rfl ?_
          refine bz_iald hN rkL_148 r1 rfl dX11_tryBook_119 ?_
          refine bv_imul dX11_tryBook_120 ?_
          refine bv_iload_n dX11_tryBook_121 2 rfl ?_
          refine bv_iadd dX11_tryBook_122 ?_
          refine bz_putI hN okL_147 dX11_tryBook_123 fl_11_315 rfl ?_
          refine bv_iinc (j := 1) (v := (x1 + 1)) (ls1 := [(0, .ref 0), (1, .int (x1 + 1)), (2, .int v2.1)]) dX11_tryBook_126 rfl rfl (by decide) rfl rfl ?_
          refine bv_goto (tgt := 29) dX11_tryBook_129 (by decide) ?_
          refine bw_ls (ls1 := [(0, .ref 0), (1, .int (x1 + 1))]) [0, 1] rfl ?_
          exact ih _ _ _ h K0
        · replace h := bu_t h cc
          refine bv_aload_n dX11_tryBook_89 0 rfl ?_
          refine bz_getA (a := 147) hN okL_0 (hR _ _ _ r0_0_8) dX11_tryBook_90 fl_11_64 rfl ?_
          refine bv_dup dX11_tryBook_93 rfl ?_
          refine bz_getI hN okL_147 dX11_tryBook_94 fl_11_312 rfl ?_
          refine bv_iconst (v := 1) dX11_tryBook_97 (by decide) ?_
          refine bv_iadd dX11_tryBook_98 ?_
          refine bz_putI hN okL_147 dX11_tryBook_99 fl_11_312 rfl ?_
          refine bv_goto (tgt := 126) dX11_tryBook_102 (by decide) ?_
          refine bv_iinc (j := 1) (v := (x1 + 1)) (ls1 := [(0, .ref 0), (1, .int (x1 + 1)), (2, .int v2.1)]) dX11_tryBook_126 rfl rfl (by decide) rfl rfl ?_
          refine bv_goto (tgt := 29) dX11_tryBook_129 (by decide) ?_
          refine bw_ls (ls1 := [(0, .ref 0), (1, .int (x1 + 1))]) [0, 1] rfl ?_
          exact ih _ _ _ h K0
def f_X11_tryBook (I : bm_TI) : Option (Int32 × bm_TI) := ((f_X8_copyFrom I 33 26).bind fun v1 => ((f_X11_tryBook_l29 1000 0 (bm_uI (bm_uI v1 147 4 0) 147 5 0)).bind fun y5 => ((f_X8_holders (bm_uI y5 147 6 (y5 33 10)) 33).bind fun v6 => (if ((bm_uI (bm_uI y5 147 6 (y5 33 10)) 147 7 v6) 147 4) = 0 then some ((-1), (bm_uI (bm_uI y5 147 6 (y5 33 10)) 147 7 v6)) else some (((bm_uI (bm_uI y5 147 6 (y5 33 10)) 147 7 v6) 147 5), (bm_uI (bm_uI y5 147 6 (y5 33 10)) 147 7 v6))))))
set_option maxHeartbeats 4000000 in
set_option maxRecDepth 100000 in
theorem c_X11_tryBook {lc : bm_L} {d n : Nat} {I : bm_TI} {J : bm_TJ} {R W : bm_TR} {v : Int32 × bm_TI} (hN : 181 ≤ n) (hR : bm_RR R) (h : f_X11_tryBook I = some v) : bm_C lc m_X11_tryBook (d + 6) n n [.ref 0] (I, J, R, W) (fun r M' => r = some (.int v.1) ∧ M' = (v.2, J, R, W)) := by
  refine bm_C.ofV (by decide) (Nat.le_of_ble_eq_true rfl) ?_
  show bm_V lc m_X11_tryBook (d + 6) n n n 0 [(0, .ref 0)] [] (I, J, R, W) _
  unfold f_X11_tryBook at h
  refine bv_aload_n dX11_tryBook_0 0 rfl ?_
  refine bz_getA (a := 33) hN okL_0 (hR _ _ _ r0_0_5) dX11_tryBook_1 fl_11_44 rfl ?_
  refine bv_aload_n dX11_tryBook_4 0 rfl ?_
  refine bz_getA (a := 26) hN okL_0 (hR _ _ _ r0_0_4) dX11_tryBook_5 fl_11_40 rfl ?_
  obtain ⟨v1, p2, h⟩ := bu_bd h
  refine bw_callVv (As := [.ref 26]) hN okL_33 ⟨_, _, rfl⟩ dX11_tryBook_8 mc_11_226 (c_X8_copyFrom (d := d + 4) hN hR okL_33 okL_26 p2) rfl rfl (by decide) ?_
  refine bv_aload_n dX11_tryBook_11 0 rfl ?_
  refine bz_getA (a := 147) hN okL_0 (hR _ _ _ r0_0_8) dX11_tryBook_12 fl_11_64 rfl ?_
  refine bv_iconst (v := 0) dX11_tryBook_15 (by decide) ?_
  refine bz_putI hN okL_147 dX11_tryBook_16 fl_11_315 rfl ?_
  refine bv_aload_n dX11_tryBook_19 0 rfl ?_
  refine bz_getA (a := 147) hN okL_0 (hR _ _ _ r0_0_8) dX11_tryBook_20 fl_11_64 rfl ?_
  refine bv_iconst (v := 0) dX11_tryBook_23 (by decide) ?_
  refine bz_putI hN okL_147 dX11_tryBook_24 fl_11_312 rfl ?_
  refine bv_iconst (v := 0) dX11_tryBook_27 (by decide) ?_
  refine bv_istore_n (ls1 := [(0, .ref 0), (1, .int 0)]) dX11_tryBook_28 (by decide) rfl rfl ?_
  obtain ⟨r3, p4, h⟩ := bu_bd h
  refine v_X11_tryBook_l29 hN hR 1000 _ _ _ p4 (fun y5 hy => ?_)
  · subst hy
    refine bv_aload_n dX11_tryBook_132 0 rfl ?_
    refine bz_getA (a := 147) hN okL_0 (hR _ _ _ r0_0_8) dX11_tryBook_133 fl_11_64 rfl ?_
    refine bv_aload_n dX11_tryBook_136 0 rfl ?_
    refine bz_getA (a := 33) hN okL_0 (hR _ _ _ r0_0_5) dX11_tryBook_137 fl_11_44 rfl ?_
    refine bz_getI hN okL_33 dX11_tryBook_140 fl_11_206 rfl ?_
    refine bz_putI hN okL_147 dX11_tryBook_143 fl_11_318 rfl ?_
    refine bv_aload_n dX11_tryBook_146 0 rfl ?_
    refine bz_getA (a := 147) hN okL_0 (hR _ _ _ r0_0_8) dX11_tryBook_147 fl_11_64 rfl ?_
    refine bv_aload_n dX11_tryBook_150 0 rfl ?_
    refine bz_getA (a := 33) hN okL_0 (hR _ _ _ r0_0_5) dX11_tryBook_151 fl_11_44 rfl ?_
    obtain ⟨v6, p7, h⟩ := bu_bd h
    refine bw_callV (As := []) hN okL_33 ⟨_, _, rfl⟩ dX11_tryBook_154 mc_11_209 (c_X8_holders (d := d + 4) hN hR okL_33 r0_33_0 p7) rfl rfl (Nat.le_of_ble_eq_true rfl) ?_
    refine bz_putI hN okL_147 dX11_tryBook_157 fl_11_319 rfl ?_
    refine bv_aload_n dX11_tryBook_160 0 rfl ?_
    refine bz_getA (a := 147) hN okL_0 (hR _ _ _ r0_0_8) dX11_tryBook_161 fl_11_64 rfl ?_
    refine bz_getI hN okL_147 dX11_tryBook_164 fl_11_315 rfl ?_
    refine bv_if_ne (tgt := 174) dX11_tryBook_167 (by decide) (fun cc => ?_) (fun cc => ?_)
    · replace h := bu_f h cc
      refine bv_aload_n dX11_tryBook_174 0 rfl ?_
      refine bz_getA (a := 147) hN okL_0 (hR _ _ _ r0_0_8) dX11_tryBook_175 fl_11_64 rfl ?_
      refine bz_getI hN okL_147 dX11_tryBook_178 fl_11_312 rfl ?_
      obtain rfl := Option.some.inj h
      exact bv_iret (x := ((bm_uI (bm_uI y5 147 6 (y5 33 10)) 147 7 v6) 147 5)) dX11_tryBook_181 rfl ⟨rfl, rfl⟩
    · replace h := bu_t h cc
      refine bv_iconst (v := (-1)) dX11_tryBook_170 (by decide) ?_
      refine bv_goto (tgt := 181) dX11_tryBook_171 (by decide) ?_
      obtain rfl := Option.some.inj h
      exact bv_iret (x := (-1)) dX11_tryBook_181 rfl ⟨rfl, rfl⟩
def f_X11_book (I : bm_TI) (J : bm_TJ) (W : bm_TR) (x1 : Int32) : Option (Int32 × bm_TI × bm_TJ × bm_TR) := (if x1 = 0 then ((f_X5_begin I J W 400).bind fun v1 => ((f_X1_readFrom v1.1 v1.2.1 v1.2.2).bind fun v3 => (if ((bm_uI (bm_uI v3.1 1 1 0) 0 13 ((bm_uI v3.1 1 1 0) 3 9)) 0 13) = 0 then ((f_X11_tryBook (bm_uI (bm_uI v3.1 1 1 0) 0 13 ((bm_uI v3.1 1 1 0) 3 9))).bind fun v5 => (if x1 = 1 then (if (v5.2 147 5) ≤ 0 then some (v5.1, v5.2, v3.2.1, v3.2.2) else ((f_X11_settleTrial v5.2).bind fun v7 => some (v5.1, v7, v3.2.1, v3.2.2))) else some (v5.1, v5.2, v3.2.1, v3.2.2))) else some (((-2) - ((bm_uI (bm_uI v3.1 1 1 0) 0 13 ((bm_uI v3.1 1 1 0) 3 9)) 3 10)), (bm_uI (bm_uI v3.1 1 1 0) 0 13 ((bm_uI v3.1 1 1 0) 3 9)), v3.2.1, v3.2.2)))) else (if x1 = 1 then ((f_X5_begin I J W 400).bind fun v9 => ((f_X1_readFrom v9.1 v9.2.1 v9.2.2).bind fun v11 => (if ((bm_uI (bm_uI v11.1 1 1 0) 0 13 ((bm_uI v11.1 1 1 0) 3 9)) 0 13) = 0 then ((f_X11_tryBook (bm_uI (bm_uI v11.1 1 1 0) 0 13 ((bm_uI v11.1 1 1 0) 3 9))).bind fun v13 => (if x1 = 1 then (if (v13.2 147 5) ≤ 0 then some (v13.1, v13.2, v11.2.1, v11.2.2) else ((f_X11_settleTrial v13.2).bind fun v15 => some (v13.1, v15, v11.2.1, v11.2.2))) else some (v13.1, v13.2, v11.2.1, v11.2.2))) else some (((-2) - ((bm_uI (bm_uI v11.1 1 1 0) 0 13 ((bm_uI v11.1 1 1 0) 3 9)) 3 10)), (bm_uI (bm_uI v11.1 1 1 0) 0 13 ((bm_uI v11.1 1 1 0) 3 9)), v11.2.1, v11.2.2)))) else some ((-1000), I, J, W)))
set_option maxHeartbeats 4000000 in
set_option maxRecDepth 100000 in
theorem c_X11_book {lc : bm_L} {d n : Nat} {I : bm_TI} {J : bm_TJ} {R W : bm_TR} {x1 : Int32} {v : Int32 × bm_TI × bm_TJ × bm_TR} (hN : 181 ≤ n) (hR : bm_RR R) (h : f_X11_book I J W x1 = some v) : bm_C lc m_X11_book (d + 7) n n [.ref 0, .int x1] (I, J, R, W) (fun r M' => r = some (.int v.1) ∧ M' = (v.2.1, v.2.2.1, R, v.2.2.2)) := by
  refine bm_C.ofV (by decide) (Nat.le_of_ble_eq_true rfl) ?_
  show bm_V lc m_X11_book (d + 7) n n n 0 [(0, .ref 0), (1, .int x1)] [] (I, J, R, W) _
  unfold f_X11_book at h
  refine bv_iload_n dX11_book_0 1 rfl ?_
  refine bv_if_eq (tgt := 13) dX11_book_1 (by decide) (fun cc => ?_) (fun cc => ?_)
  · replace h := bu_t h cc
    refine bv_aload_n dX11_book_13 0 rfl ?_
    refine bz_getA (a := 3) hN okL_0 (hR _ _ _ r0_0_1) dX11_book_14 fl_11_21 rfl ?_
    refine bv_sipush (v := 400) dX11_book_17 (by decide) ?_
    obtain ⟨v1, p2, h⟩ := bu_bd h
    refine bw_callVv (As := [.int 400]) hN okL_3 ⟨_, _, rfl⟩ dX11_book_20 mc_11_109 (c_X5_begin (d := d + 3) hN hR p2) rfl rfl (by decide) ?_
    refine bv_aload_n dX11_book_23 0 rfl ?_
    refine bz_getA (a := 147) hN okL_0 (hR _ _ _ r0_0_8) dX11_book_24 fl_11_64 rfl ?_
    refine bv_aload_n dX11_book_27 0 rfl ?_
    refine bz_getA (a := 3) hN okL_0 (hR _ _ _ r0_0_1) dX11_book_28 fl_11_21 rfl ?_
    refine bv_aload_n dX11_book_31 0 rfl ?_
    refine bz_getA (a := 4) hN okL_0 (hR _ _ _ r0_0_2) dX11_book_32 fl_11_28 rfl ?_
    obtain ⟨v3, p4, h⟩ := bu_bd h
    refine bw_callVv (As := [.ref 3, .ref 4]) hN okL_147 ⟨_, _, rfl⟩ dX11_book_35 mc_11_306 (c_X1_readFrom (d := d + 0) hN hR p4) rfl rfl (by decide) ?_
    refine bv_aload_n dX11_book_38 0 rfl ?_
    refine bz_getA (a := 1) hN okL_0 (hR _ _ _ r0_0_0) dX11_book_39 fl_11_12 rfl ?_
    refine bv_iconst (v := 0) dX11_book_42 (by decide) ?_
    refine bz_putI hN okL_1 dX11_book_43 fl_11_102 rfl ?_
    refine bv_aload_n dX11_book_46 0 rfl ?_
    refine bv_aload_n dX11_book_47 0 rfl ?_
    refine bz_getA (a := 3) hN okL_0 (hR _ _ _ r0_0_1) dX11_book_48 fl_11_21 rfl ?_
    refine bz_getI hN okL_3 dX11_book_51 fl_11_116 rfl ?_
    refine bz_putI hN okL_0 dX11_book_54 fl_11_119 rfl ?_
    refine bv_aload_n dX11_book_57 0 rfl ?_
    refine bz_getI hN okL_0 dX11_book_58 fl_11_119 rfl ?_
    refine bv_if_eq (tgt := 75) dX11_book_61 (by decide) (fun cc => ?_) (fun cc => ?_)
    · replace h := bu_t h cc
      refine bv_aload_n dX11_book_75 0 rfl ?_
      obtain ⟨v5, p6, h⟩ := bu_bd h
      refine bw_callV (As := []) hN okL_0 ⟨_, _, rfl⟩ dX11_book_76 mc_11_309 (c_X11_tryBook (d := d + 0) hN hR p6) rfl rfl (by decide) ?_
      refine bv_istore_n (ls1 := [(0, .ref 0), (1, .int x1), (2, .int v5.1)]) dX11_book_79 (by decide) rfl rfl ?_
      refine bv_iload_n dX11_book_80 1 rfl ?_
      refine bv_iconst (v := 1) dX11_book_81 (by decide) ?_
      refine bv_icmp_ne (tgt := 99) dX11_book_82 (by decide) (fun cc => ?_) (fun cc => ?_)
      · replace h := bu_f h cc
        refine bv_iload_n dX11_book_99 2 rfl ?_
        obtain rfl := Option.some.inj h
        exact bv_iret (x := v5.1) dX11_book_100 rfl ⟨rfl, rfl⟩
      · replace h := bu_t h cc
        refine bv_aload_n dX11_book_85 0 rfl ?_
        refine bz_getA (a := 147) hN okL_0 (hR _ _ _ r0_0_8) dX11_book_86 fl_11_64 rfl ?_
        refine bz_getI hN okL_147 dX11_book_89 fl_11_312 rfl ?_
        refine bv_if_le (tgt := 99) dX11_book_92 (by decide) (fun cc => ?_) (fun cc => ?_)
        · replace h := bu_t h cc
          refine bv_iload_n dX11_book_99 2 rfl ?_
          obtain rfl := Option.some.inj h
          exact bv_iret (x := v5.1) dX11_book_100 rfl ⟨rfl, rfl⟩
        · replace h := bu_f h cc
          refine bv_aload_n dX11_book_95 0 rfl ?_
          obtain ⟨v7, p8, h⟩ := bu_bd h
          refine bw_callVv (As := []) hN okL_0 ⟨_, _, rfl⟩ dX11_book_96 mc_11_232 (c_X11_settleTrial (d := d + 3) hN hR p8) rfl rfl (by decide) ?_
          refine bv_iload_n dX11_book_99 2 rfl ?_
          obtain rfl := Option.some.inj h
          exact bv_iret (x := v5.1) dX11_book_100 rfl ⟨rfl, rfl⟩
    · replace h := bu_f h cc
      refine bv_bipush (v := (-2)) dX11_book_64 (by decide) ?_
      refine bv_aload_n dX11_book_66 0 rfl ?_
      refine bz_getA (a := 3) hN okL_0 (hR _ _ _ r0_0_1) dX11_book_67 fl_11_21 rfl ?_
      refine bz_getI hN okL_3 dX11_book_70 fl_11_120 rfl ?_
      refine bv_isub dX11_book_73 ?_
      obtain rfl := Option.some.inj h
      exact bv_iret (x := ((-2) - ((bm_uI (bm_uI v3.1 1 1 0) 0 13 ((bm_uI v3.1 1 1 0) 3 9)) 3 10))) dX11_book_74 rfl ⟨rfl, rfl⟩
  · replace h := bu_f h cc
    refine bv_iload_n dX11_book_4 1 rfl ?_
    refine bv_iconst (v := 1) dX11_book_5 (by decide) ?_
    refine bv_icmp_eq (tgt := 13) dX11_book_6 (by decide) (fun cc => ?_) (fun cc => ?_)
    · replace h := bu_t h cc
      refine bv_aload_n dX11_book_13 0 rfl ?_
      refine bz_getA (a := 3) hN okL_0 (hR _ _ _ r0_0_1) dX11_book_14 fl_11_21 rfl ?_
      refine bv_sipush (v := 400) dX11_book_17 (by decide) ?_
      obtain ⟨v9, p10, h⟩ := bu_bd h
      refine bw_callVv (As := [.int 400]) hN okL_3 ⟨_, _, rfl⟩ dX11_book_20 mc_11_109 (c_X5_begin (d := d + 3) hN hR p10) rfl rfl (by decide) ?_
      refine bv_aload_n dX11_book_23 0 rfl ?_
      refine bz_getA (a := 147) hN okL_0 (hR _ _ _ r0_0_8) dX11_book_24 fl_11_64 rfl ?_
      refine bv_aload_n dX11_book_27 0 rfl ?_
      refine bz_getA (a := 3) hN okL_0 (hR _ _ _ r0_0_1) dX11_book_28 fl_11_21 rfl ?_
      refine bv_aload_n dX11_book_31 0 rfl ?_
      refine bz_getA (a := 4) hN okL_0 (hR _ _ _ r0_0_2) dX11_book_32 fl_11_28 rfl ?_
      obtain ⟨v11, p12, h⟩ := bu_bd h
      refine bw_callVv (As := [.ref 3, .ref 4]) hN okL_147 ⟨_, _, rfl⟩ dX11_book_35 mc_11_306 (c_X1_readFrom (d := d + 0) hN hR p12) rfl rfl (by decide) ?_
      refine bv_aload_n dX11_book_38 0 rfl ?_
      refine bz_getA (a := 1) hN okL_0 (hR _ _ _ r0_0_0) dX11_book_39 fl_11_12 rfl ?_
      refine bv_iconst (v := 0) dX11_book_42 (by decide) ?_
      refine bz_putI hN okL_1 dX11_book_43 fl_11_102 rfl ?_
      refine bv_aload_n dX11_book_46 0 rfl ?_
      refine bv_aload_n dX11_book_47 0 rfl ?_
      refine bz_getA (a := 3) hN okL_0 (hR _ _ _ r0_0_1) dX11_book_48 fl_11_21 rfl ?_
      refine bz_getI hN okL_3 dX11_book_51 fl_11_116 rfl ?_
      refine bz_putI hN okL_0 dX11_book_54 fl_11_119 rfl ?_
      refine bv_aload_n dX11_book_57 0 rfl ?_
      refine bz_getI hN okL_0 dX11_book_58 fl_11_119 rfl ?_
      refine bv_if_eq (tgt := 75) dX11_book_61 (by decide) (fun cc => ?_) (fun cc => ?_)
      · replace h := bu_t h cc
        refine bv_aload_n dX11_book_75 0 rfl ?_
        obtain ⟨v13, p14, h⟩ := bu_bd h
        refine bw_callV (As := []) hN okL_0 ⟨_, _, rfl⟩ dX11_book_76 mc_11_309 (c_X11_tryBook (d := d + 0) hN hR p14) rfl rfl (by decide) ?_
        refine bv_istore_n (ls1 := [(0, .ref 0), (1, .int x1), (2, .int v13.1)]) dX11_book_79 (by decide) rfl rfl ?_
        refine bv_iload_n dX11_book_80 1 rfl ?_
        refine bv_iconst (v := 1) dX11_book_81 (by decide) ?_
        refine bv_icmp_ne (tgt := 99) dX11_book_82 (by decide) (fun cc => ?_) (fun cc => ?_)
        · replace h := bu_f h cc
          refine bv_iload_n dX11_book_99 2 rfl ?_
          obtain rfl := Option.some.inj h
          exact bv_iret (x := v13.1) dX11_book_100 rfl ⟨rfl, rfl⟩
        · replace h := bu_t h cc
          refine bv_aload_n dX11_book_85 0 rfl ?_
          refine bz_getA (a := 147) hN okL_0 (hR _ _ _ r0_0_8) dX11_book_86 fl_11_64 rfl ?_
          refine bz_getI hN okL_147 dX11_book_89 fl_11_312 rfl ?_
          refine bv_if_le (tgt := 99) dX11_book_92 (by decide) (fun cc => ?_) (fun cc => ?_)
          · replace h := bu_t h cc
            refine bv_iload_n dX11_book_99 2 rfl ?_
            obtain rfl := Option.some.inj h
            exact bv_iret (x := v13.1) dX11_book_100 rfl ⟨rfl, rfl⟩
          · replace h := bu_f h cc
            refine bv_aload_n dX11_book_95 0 rfl ?_
            obtain ⟨v15, p16, h⟩ := bu_bd h
            refine bw_callVv (As := []) hN okL_0 ⟨_, _, rfl⟩ dX11_book_96 mc_11_232 (c_X11_settleTrial (d := d + 3) hN hR p16) rfl rfl (by decide) ?_
            refine bv_iload_n dX11_book_99 2 rfl ?_
            obtain rfl := Option.some.inj h
            exact bv_iret (x := v13.1) dX11_book_100 rfl ⟨rfl, rfl⟩
      · replace h := bu_f h cc
        refine bv_bipush (v := (-2)) dX11_book_64 (by decide) ?_
        refine bv_aload_n dX11_book_66 0 rfl ?_
        refine bz_getA (a := 3) hN okL_0 (hR _ _ _ r0_0_1) dX11_book_67 fl_11_21 rfl ?_
        refine bz_getI hN okL_3 dX11_book_70 fl_11_120 rfl ?_
        refine bv_isub dX11_book_73 ?_
        obtain rfl := Option.some.inj h
        exact bv_iret (x := ((-2) - ((bm_uI (bm_uI v11.1 1 1 0) 0 13 ((bm_uI v11.1 1 1 0) 3 9)) 3 10))) dX11_book_74 rfl ⟨rfl, rfl⟩
    · replace h := bu_f h cc
      refine bv_sipush (v := (-1000)) dX11_book_9 (by decide) ?_
      obtain rfl := Option.some.inj h
      exact bv_iret (x := (-1000)) dX11_book_12 rfl ⟨rfl, rfl⟩
def f_X11_told (I : bm_TI) (x1 : Int32) : Option (Int32) := (if x1 = 0 then some (I 147 4) else (if x1 = 1 then some (I 147 5) else (if x1 = 2 then some (I 147 6) else (if x1 = 3 then some (I 147 7) else some (-1)))))
set_option maxHeartbeats 4000000 in
set_option maxRecDepth 100000 in
theorem c_X11_told {lc : bm_L} {d n : Nat} {I : bm_TI} {J : bm_TJ} {R W : bm_TR} {x1 : Int32} {v : Int32} (hN : 181 ≤ n) (hR : bm_RR R) (h : f_X11_told I x1 = some v) : bm_C lc m_X11_told d n n [.ref 0, .int x1] (I, J, R, W) (fun r M' => r = some (.int v) ∧ M' = (I, J, R, W)) := by
  refine bm_C.ofV (by decide) (Nat.le_of_ble_eq_true rfl) ?_
  show bm_V lc m_X11_told d n n n 0 [(0, .ref 0), (1, .int x1)] [] (I, J, R, W) _
  unfold f_X11_told at h
  refine bv_iload_n dX11_told_0 1 rfl ?_
  by_cases c1 : x1 = 0
  · replace h := bu_t h c1
    refine bv_tableIn (tgt := 32) dX11_told_1 (by rw [c1]; decide) (by rw [c1]; decide) (by rw [c1]; rfl) (by decide) ?_
    refine bv_aload_n dX11_told_32 0 rfl ?_
    refine bz_getA (a := 147) hN okL_0 (hR _ _ _ r0_0_8) dX11_told_33 fl_11_64 rfl ?_
    refine bz_getI hN okL_147 dX11_told_36 fl_11_315 rfl ?_
    obtain rfl := Option.some.inj h
    exact bv_iret (x := (I 147 4)) dX11_told_39 rfl ⟨rfl, rfl⟩
  · replace h := bu_f h c1
    by_cases c2 : x1 = 1
    · replace h := bu_t h c2
      refine bv_tableIn (tgt := 40) dX11_told_1 (by rw [c2]; decide) (by rw [c2]; decide) (by rw [c2]; rfl) (by decide) ?_
      refine bv_aload_n dX11_told_40 0 rfl ?_
      refine bz_getA (a := 147) hN okL_0 (hR _ _ _ r0_0_8) dX11_told_41 fl_11_64 rfl ?_
      refine bz_getI hN okL_147 dX11_told_44 fl_11_312 rfl ?_
      obtain rfl := Option.some.inj h
      exact bv_iret (x := (I 147 5)) dX11_told_47 rfl ⟨rfl, rfl⟩
    · replace h := bu_f h c2
      by_cases c3 : x1 = 2
      · replace h := bu_t h c3
        refine bv_tableIn (tgt := 48) dX11_told_1 (by rw [c3]; decide) (by rw [c3]; decide) (by rw [c3]; rfl) (by decide) ?_
        refine bv_aload_n dX11_told_48 0 rfl ?_
        refine bz_getA (a := 147) hN okL_0 (hR _ _ _ r0_0_8) dX11_told_49 fl_11_64 rfl ?_
        refine bz_getI hN okL_147 dX11_told_52 fl_11_318 rfl ?_
        obtain rfl := Option.some.inj h
        exact bv_iret (x := (I 147 6)) dX11_told_55 rfl ⟨rfl, rfl⟩
      · replace h := bu_f h c3
        by_cases c4 : x1 = 3
        · replace h := bu_t h c4
          refine bv_tableIn (tgt := 56) dX11_told_1 (by rw [c4]; decide) (by rw [c4]; decide) (by rw [c4]; rfl) (by decide) ?_
          refine bv_aload_n dX11_told_56 0 rfl ?_
          refine bz_getA (a := 147) hN okL_0 (hR _ _ _ r0_0_8) dX11_told_57 fl_11_64 rfl ?_
          refine bz_getI hN okL_147 dX11_told_60 fl_11_319 rfl ?_
          obtain rfl := Option.some.inj h
          exact bv_iret (x := (I 147 7)) dX11_told_63 rfl ⟨rfl, rfl⟩
        · replace h := bu_f h c4
          refine bv_tableOut (tgt := 64) dX11_told_1 (bm_sw (k := 4) (by decide) (fun j hj => by match j, hj with | 0, _ => exact c1 | 1, _ => exact c2 | 2, _ => exact c3 | 3, _ => exact c4)) (by decide) ?_
          refine bv_iconst (v := (-1)) dX11_told_64 (by decide) ?_
          obtain rfl := Option.some.inj h
          exact bv_iret (x := (-1)) dX11_told_65 rfl ⟨rfl, rfl⟩
def f_X11_sentence (I : bm_TI) (J : bm_TJ) (W : bm_TR) : Option (Int32 × bm_TI × bm_TJ × bm_TR) := ((f_X5_begin I J W 200).bind fun v1 => ((f_X7_forget v1.1 156).bind fun v3 => ((f_grp 60 0 v3 v1.2.1 v1.2.2 1).bind fun v5 => (if v5.1 = true then (if (v5.2.1 3 3) = 0 then (if ((bm_uI (bm_uI v5.2.1 1 1 0) 0 13 ((bm_uI v5.2.1 1 1 0) 3 9)) 0 13) = 0 then ((f_X7_copyFrom (bm_uI (bm_uI v5.2.1 1 1 0) 0 13 ((bm_uI v5.2.1 1 1 0) 3 9)) v5.2.2.2 151 156).bind fun v9 => some ((v9.1 151 5), v9.1, v5.2.2.1, v9.2)) else some (((-1) - ((bm_uI (bm_uI v5.2.1 1 1 0) 0 13 ((bm_uI v5.2.1 1 1 0) 3 9)) 3 10)), (bm_uI (bm_uI v5.2.1 1 1 0) 0 13 ((bm_uI v5.2.1 1 1 0) 3 9)), v5.2.2.1, v5.2.2.2)) else ((f_X5_refuse v5.2.1 1).bind fun v11 => (if ((bm_uI (bm_uI v11.2 1 1 0) 0 13 ((bm_uI v11.2 1 1 0) 3 9)) 0 13) = 0 then ((f_X7_copyFrom (bm_uI (bm_uI v11.2 1 1 0) 0 13 ((bm_uI v11.2 1 1 0) 3 9)) v5.2.2.2 151 156).bind fun v13 => some ((v13.1 151 5), v13.1, v5.2.2.1, v13.2)) else some (((-1) - ((bm_uI (bm_uI v11.2 1 1 0) 0 13 ((bm_uI v11.2 1 1 0) 3 9)) 3 10)), (bm_uI (bm_uI v11.2 1 1 0) 0 13 ((bm_uI v11.2 1 1 0) 3 9)), v5.2.2.1, v5.2.2.2)))) else (if ((bm_uI (bm_uI v5.2.1 1 1 0) 0 13 ((bm_uI v5.2.1 1 1 0) 3 9)) 0 13) = 0 then ((f_X7_copyFrom (bm_uI (bm_uI v5.2.1 1 1 0) 0 13 ((bm_uI v5.2.1 1 1 0) 3 9)) v5.2.2.2 151 156).bind fun v7 => some ((v7.1 151 5), v7.1, v5.2.2.1, v7.2)) else some (((-1) - ((bm_uI (bm_uI v5.2.1 1 1 0) 0 13 ((bm_uI v5.2.1 1 1 0) 3 9)) 3 10)), (bm_uI (bm_uI v5.2.1 1 1 0) 0 13 ((bm_uI v5.2.1 1 1 0) 3 9)), v5.2.2.1, v5.2.2.2))))))
set_option maxHeartbeats 4000000 in
set_option maxRecDepth 100000 in
theorem c_X11_sentence {lc : bm_L} {d n : Nat} {I : bm_TI} {J : bm_TJ} {R W : bm_TR} {v : Int32 × bm_TI × bm_TJ × bm_TR} (hN : 181 ≤ n) (hR : bm_RR R) (h : f_X11_sentence I J W = some v) : bm_C lc m_X11_sentence (d + 64) n n [.ref 0] (I, J, R, W) (fun r M' => r = some (.int v.1) ∧ M' = (v.2.1, v.2.2.1, R, v.2.2.2)) := by
  refine bm_C.ofV (by decide) (Nat.le_of_ble_eq_true rfl) ?_
  show bm_V lc m_X11_sentence (d + 64) n n n 0 [(0, .ref 0)] [] (I, J, R, W) _
  unfold f_X11_sentence at h
  refine bv_aload_n dX11_sentence_0 0 rfl ?_
  refine bz_getA (a := 3) hN okL_0 (hR _ _ _ r0_0_1) dX11_sentence_1 fl_11_21 rfl ?_
  refine bv_sipush (v := 200) dX11_sentence_4 (by decide) ?_
  obtain ⟨v1, p2, h⟩ := bu_bd h
  refine bw_callVv (As := [.int 200]) hN okL_3 ⟨_, _, rfl⟩ dX11_sentence_7 mc_11_109 (c_X5_begin (d := d + 60) hN hR p2) rfl rfl (by decide) ?_
  refine bv_aload_n dX11_sentence_10 0 rfl ?_
  refine bz_getA (a := 156) hN okL_0 (hR _ _ _ r0_0_10) dX11_sentence_11 fl_11_75 rfl ?_
  obtain ⟨v3, p4, h⟩ := bu_bd h
  refine bw_callVv (As := []) hN okL_156 ⟨_, _, rfl⟩ dX11_sentence_14 mc_11_128 (c_X7_forget (d := d + 63) hN hR okL_156 p4) rfl rfl (by decide) ?_
  refine bv_aload_n dX11_sentence_17 0 rfl ?_
  refine bz_getA (a := 156) hN okL_0 (hR _ _ _ r0_0_10) dX11_sentence_18 fl_11_75 rfl ?_
  refine bv_aload_n dX11_sentence_21 0 rfl ?_
  refine bz_getA (a := 3) hN okL_0 (hR _ _ _ r0_0_1) dX11_sentence_22 fl_11_21 rfl ?_
  refine bv_aload_n dX11_sentence_25 0 rfl ?_
  refine bz_getA (a := 4) hN okL_0 (hR _ _ _ r0_0_2) dX11_sentence_26 fl_11_28 rfl ?_
  refine bv_iconst (v := 1) dX11_sentence_29 (by decide) ?_
  obtain ⟨v5, p6, h⟩ := bu_bd h
  refine bw_callV (As := [.ref 3, .ref 4, .int 1]) hN okL_156 ⟨_, _, rfl⟩ dX11_sentence_30 mc_11_321 (c_grp 60 (d := d) hN hR 0 _ _ _ _ _ p6) rfl rfl (by decide) ?_
  refine bw_ifB_eq (b := v5.1) (tgt := 55) dX11_sentence_33 (by decide) (fun cc => ?_) (fun cc => ?_)
  · replace h := bu_bf h cc
    refine bv_aload_n dX11_sentence_55 0 rfl ?_
    refine bz_getA (a := 1) hN okL_0 (hR _ _ _ r0_0_0) dX11_sentence_56 fl_11_12 rfl ?_
    refine bv_iconst (v := 0) dX11_sentence_59 (by decide) ?_
    refine bz_putI hN okL_1 dX11_sentence_60 fl_11_102 rfl ?_
    refine bv_aload_n dX11_sentence_63 0 rfl ?_
    refine bv_aload_n dX11_sentence_64 0 rfl ?_
    refine bz_getA (a := 3) hN okL_0 (hR _ _ _ r0_0_1) dX11_sentence_65 fl_11_21 rfl ?_
    refine bz_getI hN okL_3 dX11_sentence_68 fl_11_116 rfl ?_
    refine bz_putI hN okL_0 dX11_sentence_71 fl_11_119 rfl ?_
    refine bv_aload_n dX11_sentence_74 0 rfl ?_
    refine bz_getI hN okL_0 dX11_sentence_75 fl_11_119 rfl ?_
    refine bv_if_eq (tgt := 91) dX11_sentence_78 (by decide) (fun cc => ?_) (fun cc => ?_)
    · replace h := bu_t h cc
      refine bv_aload_n dX11_sentence_91 0 rfl ?_
      refine bz_getA (a := 151) hN okL_0 (hR _ _ _ r0_0_9) dX11_sentence_92 fl_11_71 rfl ?_
      refine bv_aload_n dX11_sentence_95 0 rfl ?_
      refine bz_getA (a := 156) hN okL_0 (hR _ _ _ r0_0_10) dX11_sentence_96 fl_11_75 rfl ?_
      obtain ⟨v7, p8, h⟩ := bu_bd h
      refine bw_callVv (As := [.ref 156]) hN okL_151 ⟨_, _, rfl⟩ dX11_sentence_99 mc_11_331 (c_X7_copyFrom (d := d + 63) hN hR okL_151 okL_156 p8) rfl rfl (by decide) ?_
      refine bv_aload_n dX11_sentence_102 0 rfl ?_
      refine bz_getA (a := 151) hN okL_0 (hR _ _ _ r0_0_9) dX11_sentence_103 fl_11_71 rfl ?_
      refine bz_getI hN okL_151 dX11_sentence_106 fl_11_334 rfl ?_
      obtain rfl := Option.some.inj h
      exact bv_iret (x := (v7.1 151 5)) dX11_sentence_109 rfl ⟨rfl, rfl⟩
    · replace h := bu_f h cc
      refine bv_iconst (v := (-1)) dX11_sentence_81 (by decide) ?_
      refine bv_aload_n dX11_sentence_82 0 rfl ?_
      refine bz_getA (a := 3) hN okL_0 (hR _ _ _ r0_0_1) dX11_sentence_83 fl_11_21 rfl ?_
      refine bz_getI hN okL_3 dX11_sentence_86 fl_11_120 rfl ?_
      refine bv_isub dX11_sentence_89 ?_
      obtain rfl := Option.some.inj h
      exact bv_iret (x := ((-1) - ((bm_uI (bm_uI v5.2.1 1 1 0) 0 13 ((bm_uI v5.2.1 1 1 0) 3 9)) 3 10))) dX11_sentence_90 rfl ⟨rfl, rfl⟩
  · replace h := bu_bt h cc
    refine bv_aload_n dX11_sentence_36 0 rfl ?_
    refine bz_getA (a := 3) hN okL_0 (hR _ _ _ r0_0_1) dX11_sentence_37 fl_11_21 rfl ?_
    refine bz_getI hN okL_3 dX11_sentence_40 fl_11_325 rfl ?_
    refine bv_if_eq (tgt := 55) dX11_sentence_43 (by decide) (fun cc => ?_) (fun cc => ?_)
    · replace h := bu_t h cc
      refine bv_aload_n dX11_sentence_55 0 rfl ?_
      refine bz_getA (a := 1) hN okL_0 (hR _ _ _ r0_0_0) dX11_sentence_56 fl_11_12 rfl ?_
      refine bv_iconst (v := 0) dX11_sentence_59 (by decide) ?_
      refine bz_putI hN okL_1 dX11_sentence_60 fl_11_102 rfl ?_
      refine bv_aload_n dX11_sentence_63 0 rfl ?_
      refine bv_aload_n dX11_sentence_64 0 rfl ?_
      refine bz_getA (a := 3) hN okL_0 (hR _ _ _ r0_0_1) dX11_sentence_65 fl_11_21 rfl ?_
      refine bz_getI hN okL_3 dX11_sentence_68 fl_11_116 rfl ?_
      refine bz_putI hN okL_0 dX11_sentence_71 fl_11_119 rfl ?_
      refine bv_aload_n dX11_sentence_74 0 rfl ?_
      refine bz_getI hN okL_0 dX11_sentence_75 fl_11_119 rfl ?_
      refine bv_if_eq (tgt := 91) dX11_sentence_78 (by decide) (fun cc => ?_) (fun cc => ?_)
      · replace h := bu_t h cc
        refine bv_aload_n dX11_sentence_91 0 rfl ?_
        refine bz_getA (a := 151) hN okL_0 (hR _ _ _ r0_0_9) dX11_sentence_92 fl_11_71 rfl ?_
        refine bv_aload_n dX11_sentence_95 0 rfl ?_
        refine bz_getA (a := 156) hN okL_0 (hR _ _ _ r0_0_10) dX11_sentence_96 fl_11_75 rfl ?_
        obtain ⟨v9, p10, h⟩ := bu_bd h
        refine bw_callVv (As := [.ref 156]) hN okL_151 ⟨_, _, rfl⟩ dX11_sentence_99 mc_11_331 (c_X7_copyFrom (d := d + 63) hN hR okL_151 okL_156 p10) rfl rfl (by decide) ?_
        refine bv_aload_n dX11_sentence_102 0 rfl ?_
        refine bz_getA (a := 151) hN okL_0 (hR _ _ _ r0_0_9) dX11_sentence_103 fl_11_71 rfl ?_
        refine bz_getI hN okL_151 dX11_sentence_106 fl_11_334 rfl ?_
        obtain rfl := Option.some.inj h
        exact bv_iret (x := (v9.1 151 5)) dX11_sentence_109 rfl ⟨rfl, rfl⟩
      · replace h := bu_f h cc
        refine bv_iconst (v := (-1)) dX11_sentence_81 (by decide) ?_
        refine bv_aload_n dX11_sentence_82 0 rfl ?_
        refine bz_getA (a := 3) hN okL_0 (hR _ _ _ r0_0_1) dX11_sentence_83 fl_11_21 rfl ?_
        refine bz_getI hN okL_3 dX11_sentence_86 fl_11_120 rfl ?_
        refine bv_isub dX11_sentence_89 ?_
        obtain rfl := Option.some.inj h
        exact bv_iret (x := ((-1) - ((bm_uI (bm_uI v5.2.1 1 1 0) 0 13 ((bm_uI v5.2.1 1 1 0) 3 9)) 3 10))) dX11_sentence_90 rfl ⟨rfl, rfl⟩
    · replace h := bu_f h cc
      refine bv_aload_n dX11_sentence_46 0 rfl ?_
      refine bz_getA (a := 3) hN okL_0 (hR _ _ _ r0_0_1) dX11_sentence_47 fl_11_21 rfl ?_
      refine bv_iconst (v := 1) dX11_sentence_50 (by decide) ?_
      obtain ⟨v11, p12, h⟩ := bu_bd h
      refine bw_callV (As := [.int 1]) hN okL_3 ⟨_, _, rfl⟩ dX11_sentence_51 mc_11_328 (c_X5_refuse (d := d + 63) hN hR p12) rfl rfl (by decide) ?_
      refine bv_pop dX11_sentence_54 rfl ?_
      refine bv_aload_n dX11_sentence_55 0 rfl ?_
      refine bz_getA (a := 1) hN okL_0 (hR _ _ _ r0_0_0) dX11_sentence_56 fl_11_12 rfl ?_
      refine bv_iconst (v := 0) dX11_sentence_59 (by decide) ?_
      refine bz_putI hN okL_1 dX11_sentence_60 fl_11_102 rfl ?_
      refine bv_aload_n dX11_sentence_63 0 rfl ?_
      refine bv_aload_n dX11_sentence_64 0 rfl ?_
      refine bz_getA (a := 3) hN okL_0 (hR _ _ _ r0_0_1) dX11_sentence_65 fl_11_21 rfl ?_
      refine bz_getI hN okL_3 dX11_sentence_68 fl_11_116 rfl ?_
      refine bz_putI hN okL_0 dX11_sentence_71 fl_11_119 rfl ?_
      refine bv_aload_n dX11_sentence_74 0 rfl ?_
      refine bz_getI hN okL_0 dX11_sentence_75 fl_11_119 rfl ?_
      refine bv_if_eq (tgt := 91) dX11_sentence_78 (by decide) (fun cc => ?_) (fun cc => ?_)
      · replace h := bu_t h cc
        refine bv_aload_n dX11_sentence_91 0 rfl ?_
        refine bz_getA (a := 151) hN okL_0 (hR _ _ _ r0_0_9) dX11_sentence_92 fl_11_71 rfl ?_
        refine bv_aload_n dX11_sentence_95 0 rfl ?_
        refine bz_getA (a := 156) hN okL_0 (hR _ _ _ r0_0_10) dX11_sentence_96 fl_11_75 rfl ?_
        obtain ⟨v13, p14, h⟩ := bu_bd h
        refine bw_callVv (As := [.ref 156]) hN okL_151 ⟨_, _, rfl⟩ dX11_sentence_99 mc_11_331 (c_X7_copyFrom (d := d + 63) hN hR okL_151 okL_156 p14) rfl rfl (by decide) ?_
        refine bv_aload_n dX11_sentence_102 0 rfl ?_
        refine bz_getA (a := 151) hN okL_0 (hR _ _ _ r0_0_9) dX11_sentence_103 fl_11_71 rfl ?_
        refine bz_getI hN okL_151 dX11_sentence_106 fl_11_334 rfl ?_
        obtain rfl := Option.some.inj h
        exact bv_iret (x := (v13.1 151 5)) dX11_sentence_109 rfl ⟨rfl, rfl⟩
      · replace h := bu_f h cc
        refine bv_iconst (v := (-1)) dX11_sentence_81 (by decide) ?_
        refine bv_aload_n dX11_sentence_82 0 rfl ?_
        refine bz_getA (a := 3) hN okL_0 (hR _ _ _ r0_0_1) dX11_sentence_83 fl_11_21 rfl ?_
        refine bz_getI hN okL_3 dX11_sentence_86 fl_11_120 rfl ?_
        refine bv_isub dX11_sentence_89 ?_
        obtain rfl := Option.some.inj h
        exact bv_iret (x := ((-1) - ((bm_uI (bm_uI v11.2 1 1 0) 0 13 ((bm_uI v11.2 1 1 0) 3 9)) 3 10))) dX11_sentence_90 rfl ⟨rfl, rfl⟩
def f_X11_bitNumber_l4 (x0 : Int32) (x1 : Int32) : Nat → Int32 → Int32 → Option (((Int32) ⊕ (Unit)))
  | 0, _, _ => none
  | k + 1, x2, x3 => (if 8 ≤ x3 then some (Sum.inr ()) else (if (f_X11_bit x0 x3) = 1 then (if x2 = x1 then some (Sum.inl x3) else f_X11_bitNumber_l4 x0 x1 k (x2 + 1) (x3 + 1)) else f_X11_bitNumber_l4 x0 x1 k x2 (x3 + 1)))
set_option maxHeartbeats 4000000 in
set_option maxRecDepth 100000 in
theorem v_X11_bitNumber_l4 {lc : bm_L} {d n : Nat} {Q : Option Value → bm_M → Prop} {R : bm_TR} {I : bm_TI} {J : bm_TJ} {W : bm_TR} {x0 : Int32} {x1 : Int32} (hN : 181 ≤ n) (hR : bm_RR R) : ∀ (k : Nat) (x2 : Int32) (x3 : Int32) (r : ((Int32) ⊕ (Unit))), f_X11_bitNumber_l4 x0 x1 k x2 x3 = some r → (∀ yy, (Sum.inl yy) = r → bm_V lc m_X11_bitNumber (d + 1) n n n 24 [(3, .int yy)] [] (I, J, R, W) Q) → (∀ yy, (Sum.inr yy) = r → bm_V lc m_X11_bitNumber (d + 1) n n n 35 [] [] (I, J, R, W) Q) → bm_V lc m_X11_bitNumber (d + 1) n n n 4 [(0, .int x0), (1, .int x1), (2, .int x2), (3, .int x3)] [] (I, J, R, W) Q := by
  intro k
  induction k with
  | zero => intro x2 x3 r h; cases (show (none : Option (((Int32) ⊕ (Unit)))) = some r from h)
  | succ k ih =>
    intro x2 x3 r h K0 K1
    unfold f_X11_bitNumber_l4 at h
    refine bv_iload_n dX11_bitNumber_4 3 rfl ?_
    refine bv_bipush (v := 8) dX11_bitNumber_5 (by decide) ?_
    refine bv_icmp_ge (tgt := 35) dX11_bitNumber_7 (by decide) (fun cc => ?_) (fun cc => ?_)
    · replace h := bu_t h cc
      refine bw_ls (ls1 := []) [] rfl ?_
      obtain rfl := Option.some.inj h
      exact K1 _ rfl
    · replace h := bu_f h cc
      refine bv_iload_n dX11_bitNumber_10 0 rfl ?_
      refine bv_iload_n dX11_bitNumber_11 3 rfl ?_
      refine bw_callS (As := [.int x0, .int x3]) dX11_bitNumber_12 mc_11_172 (c_X11_bit (d := d + 0) hN hR rfl) rfl rfl (by decide) ?_
      refine bv_iconst (v := 1) dX11_bitNumber_15 (by decide) ?_
      refine bv_icmp_ne (tgt := 29) dX11_bitNumber_16 (by decide) (fun cc => ?_) (fun cc => ?_)
      · replace h := bu_f h cc
        refine bv_iinc (j := 3) (v := (x3 + 1)) (ls1 := [(0, .int x0), (1, .int x1), (2, .int x2), (3, .int (x3 + 1))]) dX11_bitNumber_29 rfl rfl (by decide) rfl rfl ?_
        refine bv_goto (tgt := 4) dX11_bitNumber_32 (by decide) ?_
        exact ih _ _ _ h K0 K1
      · replace h := bu_t h cc
        refine bv_iload_n dX11_bitNumber_19 2 rfl ?_
        refine bv_iload_n dX11_bitNumber_20 1 rfl ?_
        refine bv_icmp_ne (tgt := 26) dX11_bitNumber_21 (by decide) (fun cc => ?_) (fun cc => ?_)
        · replace h := bu_f h cc
          refine bv_iinc (j := 2) (v := (x2 + 1)) (ls1 := [(0, .int x0), (1, .int x1), (2, .int (x2 + 1)), (3, .int x3)]) dX11_bitNumber_26 rfl rfl (by decide) rfl rfl ?_
          refine bv_iinc (j := 3) (v := (x3 + 1)) (ls1 := [(0, .int x0), (1, .int x1), (2, .int (x2 + 1)), (3, .int (x3 + 1))]) dX11_bitNumber_29 rfl rfl (by decide) rfl rfl ?_
          refine bv_goto (tgt := 4) dX11_bitNumber_32 (by decide) ?_
          exact ih _ _ _ h K0 K1
        · replace h := bu_t h cc
          refine bw_ls (ls1 := [(3, .int x3)]) [3] rfl ?_
          obtain rfl := Option.some.inj h
          exact K0 _ rfl
def f_X11_bitNumber (x0 : Int32) (x1 : Int32) : Option (Int32) := ((f_X11_bitNumber_l4 x0 x1 1000 0 0).bind fun rr => match rr with | (Sum.inl y3) => some y3 | (Sum.inr y3) => some (-1))
set_option maxHeartbeats 4000000 in
set_option maxRecDepth 100000 in
theorem c_X11_bitNumber {lc : bm_L} {d n : Nat} {I : bm_TI} {J : bm_TJ} {R W : bm_TR} {x0 : Int32} {x1 : Int32} {v : Int32} (hN : 181 ≤ n) (hR : bm_RR R) (h : f_X11_bitNumber x0 x1 = some v) : bm_C lc m_X11_bitNumber (d + 1) n n [.int x0, .int x1] (I, J, R, W) (fun r M' => r = some (.int v) ∧ M' = (I, J, R, W)) := by
  refine bm_C.ofV (by decide) (Nat.le_of_ble_eq_true rfl) ?_
  show bm_V lc m_X11_bitNumber (d + 1) n n n 0 [(0, .int x0), (1, .int x1)] [] (I, J, R, W) _
  unfold f_X11_bitNumber at h
  refine bv_iconst (v := 0) dX11_bitNumber_0 (by decide) ?_
  refine bv_istore_n (ls1 := [(0, .int x0), (1, .int x1), (2, .int 0)]) dX11_bitNumber_1 (by decide) rfl rfl ?_
  refine bv_iconst (v := 0) dX11_bitNumber_2 (by decide) ?_
  refine bv_istore_n (ls1 := [(0, .int x0), (1, .int x1), (2, .int 0), (3, .int 0)]) dX11_bitNumber_3 (by decide) rfl rfl ?_
  obtain ⟨r1, p2, h⟩ := bu_bd h
  refine v_X11_bitNumber_l4 hN hR 1000 _ _ _ p2 (fun y3 hy => ?_) (fun y3 hy => ?_)
  · subst hy
    refine bv_iload_n dX11_bitNumber_24 0 rfl ?_
    obtain rfl := Option.some.inj h
    exact bv_iret (x := y3) dX11_bitNumber_25 rfl ⟨rfl, rfl⟩
  · subst hy
    refine bv_iconst (v := (-1)) dX11_bitNumber_35 (by decide) ?_
    obtain rfl := Option.some.inj h
    exact bv_iret (x := (-1)) dX11_bitNumber_36 rfl ⟨rfl, rfl⟩
def f_X11_said (I : bm_TI) (W : bm_TR) (x1 : Int32) : Option (Int32 × bm_TI) := (if (I 151 5) = 0 then some ((-1), I) else (if (-1) ≤ x1 then ((f_X7_menOf I W).bind fun v1 => (if x1 = (-1) then some ((f_J6_bitCount_0f7a4 v1.1), v1.2) else ((f_X11_bitNumber v1.1 x1).bind fun v3 => some (v3, v1.2)))) else some ((-1), I)))
set_option maxHeartbeats 4000000 in
set_option maxRecDepth 100000 in
theorem c_X11_said {lc : bm_L} {d n : Nat} {I : bm_TI} {J : bm_TJ} {R W : bm_TR} {x1 : Int32} {v : Int32 × bm_TI} (hN : 181 ≤ n) (hR : bm_RR R) (h : f_X11_said I W x1 = some v) : bm_C lc m_X11_said (d + 7) n n [.ref 0, .int x1] (I, J, R, W) (fun r M' => r = some (.int v.1) ∧ M' = (v.2, J, R, W)) := by
  refine bm_C.ofV (by decide) (Nat.le_of_ble_eq_true rfl) ?_
  show bm_V lc m_X11_said (d + 7) n n n 0 [(0, .ref 0), (1, .int x1)] [] (I, J, R, W) _
  unfold f_X11_said at h
  refine bv_aload_n dX11_said_0 0 rfl ?_
  refine bz_getA (a := 151) hN okL_0 (hR _ _ _ r0_0_9) dX11_said_1 fl_11_71 rfl ?_
  refine bz_getI hN okL_151 dX11_said_4 fl_11_334 rfl ?_
  refine bv_if_eq (tgt := 15) dX11_said_7 (by decide) (fun cc => ?_) (fun cc => ?_)
  · replace h := bu_t h cc
    refine bv_iconst (v := (-1)) dX11_said_15 (by decide) ?_
    obtain rfl := Option.some.inj h
    exact bv_iret (x := (-1)) dX11_said_16 rfl ⟨rfl, rfl⟩
  · replace h := bu_f h cc
    refine bv_iload_n dX11_said_10 1 rfl ?_
    refine bv_iconst (v := (-1)) dX11_said_11 (by decide) ?_
    refine bv_icmp_ge (tgt := 17) dX11_said_12 (by decide) (fun cc => ?_) (fun cc => ?_)
    · replace h := bu_t h cc
      refine bv_aload_n dX11_said_17 0 rfl ?_
      refine bz_getA (a := 151) hN okL_0 (hR _ _ _ r0_0_9) dX11_said_18 fl_11_71 rfl ?_
      refine bv_aload_n dX11_said_21 0 rfl ?_
      refine bz_getA (a := 26) hN okL_0 (hR _ _ _ r0_0_4) dX11_said_22 fl_11_40 rfl ?_
      obtain ⟨v1, p2, h⟩ := bu_bd h
      refine bw_callV (As := [.ref 26]) hN okL_151 ⟨_, _, rfl⟩ dX11_said_25 mc_11_337 (c_X7_menOf (d := d + 0) hN hR p2) rfl rfl (by decide) ?_
      refine bv_istore_n (ls1 := [(0, .ref 0), (1, .int x1), (2, .int v1.1)]) dX11_said_28 (by decide) rfl rfl ?_
      refine bv_iload_n dX11_said_29 1 rfl ?_
      refine bv_iconst (v := (-1)) dX11_said_30 (by decide) ?_
      refine bv_icmp_ne (tgt := 41) dX11_said_31 (by decide) (fun cc => ?_) (fun cc => ?_)
      · replace h := bu_f h cc
        refine bv_iload_n dX11_said_41 2 rfl ?_
        refine bv_iload_n dX11_said_42 1 rfl ?_
        obtain ⟨v3, p4, h⟩ := bu_bd h
        refine bw_callS (As := [.int v1.1, .int x1]) dX11_said_43 mc_11_340 (c_X11_bitNumber (d := d + 5) hN hR p4) rfl rfl (by decide) ?_
        obtain rfl := Option.some.inj h
        exact bv_iret (x := v3) dX11_said_46 rfl ⟨rfl, rfl⟩
      · replace h := bu_t h cc
        refine bv_iload_n dX11_said_34 2 rfl ?_
        refine bw_callS (As := [.int v1.1]) dX11_said_35 mc_11_260 (c_J6_bitCount_0f7a4 (d := d + 6) hN hR rfl) rfl rfl (by decide) ?_
        refine bv_goto (tgt := 46) dX11_said_38 (by decide) ?_
        obtain rfl := Option.some.inj h
        exact bv_iret (x := (f_J6_bitCount_0f7a4 v1.1)) dX11_said_46 rfl ⟨rfl, rfl⟩
    · replace h := bu_f h cc
      refine bv_iconst (v := (-1)) dX11_said_15 (by decide) ?_
      obtain rfl := Option.some.inj h
      exact bv_iret (x := (-1)) dX11_said_16 rfl ⟨rfl, rfl⟩
def f_X11_image (I : bm_TI) (J : bm_TJ) (W : bm_TR) (x1 : Int32) : Option (Bool × bm_TI × bm_TJ × bm_TR) := (if x1 < 0 then some (false, I, J, W) else (if x1 < 2 then (if bm_ix 2 x1 = true then ((f_X3_keep I J W (99 + 24 * x1.toNatClampNeg)).bind fun v2 => some (true, v2.1, v2.2.1, v2.2.2)) else none) else some (false, I, J, W)))
set_option maxHeartbeats 4000000 in
set_option maxRecDepth 100000 in
theorem c_X11_image {lc : bm_L} {d n : Nat} {I : bm_TI} {J : bm_TJ} {R W : bm_TR} {x1 : Int32} {v : Bool × bm_TI × bm_TJ × bm_TR} (hN : 181 ≤ n) (hR : bm_RR R) (h : f_X11_image I J W x1 = some v) : bm_C lc m_X11_image (d + 3) n n [.ref 0, .int x1] (I, J, R, W) (fun r M' => r = some (.int (bm_bi v.1)) ∧ M' = (v.2.1, v.2.2.1, R, v.2.2.2)) := by
  refine bm_C.ofV (by decide) (Nat.le_of_ble_eq_true rfl) ?_
  show bm_V lc m_X11_image (d + 3) n n n 0 [(0, .ref 0), (1, .int x1)] [] (I, J, R, W) _
  unfold f_X11_image at h
  refine bv_iload_n dX11_image_0 1 rfl ?_
  refine bv_if_lt (tgt := 9) dX11_image_1 (by decide) (fun cc => ?_) (fun cc => ?_)
  · replace h := bu_t h cc
    refine bv_iconst (v := 0) dX11_image_9 (by decide) ?_
    obtain rfl := Option.some.inj h
    exact bw_bret (b := false) dX11_image_10 rfl ⟨rfl, rfl⟩
  · replace h := bu_f h cc
    refine bv_iload_n dX11_image_4 1 rfl ?_
    refine bv_iconst (v := 2) dX11_image_5 (by decide) ?_
    refine bv_icmp_lt (tgt := 11) dX11_image_6 (by decide) (fun cc => ?_) (fun cc => ?_)
    · replace h := bu_t h cc
      refine bv_aload_n dX11_image_11 0 rfl ?_
      refine bz_getA (a := 98) hN okL_0 (hR _ _ _ r0_0_7) dX11_image_12 fl_11_56 rfl ?_
      refine bv_iload_n dX11_image_15 1 rfl ?_
      obtain ⟨r1, h⟩ := bu_ix h
      refine bz_aald hN rkL_98 (by decide) (by decide) r1 (hR _ _ _ (tr_image r1)) dX11_image_16 ?_
      refine bv_aload_n dX11_image_17 0 rfl ?_
      refine bz_getA (a := 4) hN okL_0 (hR _ _ _ r0_0_2) dX11_image_18 fl_11_28 rfl ?_
      refine bv_aload_n dX11_image_21 0 rfl ?_
      refine bz_getA (a := 26) hN okL_0 (hR _ _ _ r0_0_4) dX11_image_22 fl_11_40 rfl ?_
      refine bv_aload_n dX11_image_25 0 rfl ?_
      refine bz_getA (a := 151) hN okL_0 (hR _ _ _ r0_0_9) dX11_image_26 fl_11_71 rfl ?_
      obtain ⟨v2, p3, h⟩ := bu_bd h
      refine bw_callVv (As := [.ref 4, .ref 26, .ref 151]) hN (ok_image r1) ⟨_, _, rfl⟩ dX11_image_29 mc_11_343 (c_X3_keep (d := d + 0) hN hR (ok_image r1) p3) rfl rfl (by decide) ?_
      refine bv_iconst (v := 1) dX11_image_32 (by decide) ?_
      obtain rfl := Option.some.inj h
      exact bw_bret (b := true) dX11_image_33 rfl ⟨rfl, rfl⟩
    · replace h := bu_f h cc
      refine bv_iconst (v := 0) dX11_image_9 (by decide) ?_
      obtain rfl := Option.some.inj h
      exact bw_bret (b := false) dX11_image_10 rfl ⟨rfl, rfl⟩
def f_X11_restore (I : bm_TI) (J : bm_TJ) (W : bm_TR) (x1 : Int32) : Option (Bool × bm_TI × bm_TJ × bm_TR) := (if x1 < 0 then some (false, I, J, W) else (if 2 ≤ x1 then some (false, I, J, W) else (if bm_ix 2 x1 = true then (if (I (99 + 24 * x1.toNatClampNeg) 3) = 0 then some (false, I, J, W) else ((f_X0_copyFrom I J 4 ((99 + 24 * x1.toNatClampNeg) + 1)).bind fun v2 => ((f_X8_copyFrom v2.1 26 ((99 + 24 * x1.toNatClampNeg) + 12)).bind fun v4 => ((f_X7_copyFrom v4 W 151 ((99 + 24 * x1.toNatClampNeg) + 19)).bind fun v6 => ((f_X4_forget v6.1).bind fun v8 => some (true, v8, v2.2, v6.2)))))) else none)))
set_option maxHeartbeats 4000000 in
set_option maxRecDepth 100000 in
theorem c_X11_restore {lc : bm_L} {d n : Nat} {I : bm_TI} {J : bm_TJ} {R W : bm_TR} {x1 : Int32} {v : Bool × bm_TI × bm_TJ × bm_TR} (hN : 181 ≤ n) (hR : bm_RR R) (h : f_X11_restore I J W x1 = some v) : bm_C lc m_X11_restore (d + 2) n n [.ref 0, .int x1] (I, J, R, W) (fun r M' => r = some (.int (bm_bi v.1)) ∧ M' = (v.2.1, v.2.2.1, R, v.2.2.2)) := by
  refine bm_C.ofV (by decide) (Nat.le_of_ble_eq_true rfl) ?_
  show bm_V lc m_X11_restore (d + 2) n n n 0 [(0, .ref 0), (1, .int x1)] [] (I, J, R, W) _
  unfold f_X11_restore at h
  refine bv_iload_n dX11_restore_0 1 rfl ?_
  refine bv_if_lt (tgt := 21) dX11_restore_1 (by decide) (fun cc => ?_) (fun cc => ?_)
  · replace h := bu_t h cc
    refine bv_iconst (v := 0) dX11_restore_21 (by decide) ?_
    obtain rfl := Option.some.inj h
    exact bw_bret (b := false) dX11_restore_22 rfl ⟨rfl, rfl⟩
  · replace h := bu_f h cc
    refine bv_iload_n dX11_restore_4 1 rfl ?_
    refine bv_iconst (v := 2) dX11_restore_5 (by decide) ?_
    refine bv_icmp_ge (tgt := 21) dX11_restore_6 (by decide) (fun cc => ?_) (fun cc => ?_)
    · replace h := bu_t h cc
      refine bv_iconst (v := 0) dX11_restore_21 (by decide) ?_
      obtain rfl := Option.some.inj h
      exact bw_bret (b := false) dX11_restore_22 rfl ⟨rfl, rfl⟩
    · replace h := bu_f h cc
      refine bv_aload_n dX11_restore_9 0 rfl ?_
      refine bz_getA (a := 98) hN okL_0 (hR _ _ _ r0_0_7) dX11_restore_10 fl_11_56 rfl ?_
      refine bv_iload_n dX11_restore_13 1 rfl ?_
      obtain ⟨r1, h⟩ := bu_ix h
      refine bz_aald hN rkL_98 (by decide) (by decide) r1 (hR _ _ _ (tr_image r1)) dX11_restore_14 ?_
      refine bz_getI hN (ok_image r1) dX11_restore_15 fl_11_347 rfl ?_
      refine bv_if_ne (tgt := 23) dX11_restore_18 (by decide) (fun cc => ?_) (fun cc => ?_)
      · replace h := bu_f h cc
        refine bv_aload_n dX11_restore_23 0 rfl ?_
        refine bz_getA (a := 4) hN okL_0 (hR _ _ _ r0_0_2) dX11_restore_24 fl_11_28 rfl ?_
        refine bv_aload_n dX11_restore_27 0 rfl ?_
        refine bz_getA (a := 98) hN okL_0 (hR _ _ _ r0_0_7) dX11_restore_28 fl_11_56 rfl ?_
        refine bv_iload_n dX11_restore_31 1 rfl ?_
        refine bz_aald hN rkL_98 (by decide) (by decide) r1 (hR _ _ _ (tr_image r1)) dX11_restore_32 ?_
        refine bz_getA (a := ((99 + 24 * x1.toNatClampNeg) + 1)) hN (ok_image r1) (hR _ _ _ (tr_3_0 (ok_image r1))) dX11_restore_33 fl_11_351 rfl ?_
        obtain ⟨v2, p3, h⟩ := bu_bd h
        refine bw_callVv (As := [.ref ((99 + 24 * x1.toNatClampNeg) + 1)]) hN okL_4 ⟨_, _, rfl⟩ dX11_restore_36 mc_11_123 (c_X0_copyFrom (d := d + 0) hN hR okL_4 (oc_3_0 (ok_image r1)) p3) rfl rfl (by decide) ?_
        refine bv_aload_n dX11_restore_39 0 rfl ?_
        refine bz_getA (a := 26) hN okL_0 (hR _ _ _ r0_0_4) dX11_restore_40 fl_11_40 rfl ?_
        refine bv_aload_n dX11_restore_43 0 rfl ?_
        refine bz_getA (a := 98) hN okL_0 (hR _ _ _ r0_0_7) dX11_restore_44 fl_11_56 rfl ?_
        refine bv_iload_n dX11_restore_47 1 rfl ?_
        refine bz_aald hN rkL_98 (by decide) (by decide) r1 (hR _ _ _ (tr_image r1)) dX11_restore_48 ?_
        refine bz_getA (a := ((99 + 24 * x1.toNatClampNeg) + 12)) hN (ok_image r1) (hR _ _ _ (tr_3_1 (ok_image r1))) dX11_restore_49 fl_11_352 rfl ?_
        obtain ⟨v4, p5, h⟩ := bu_bd h
        refine bw_callVv (As := [.ref ((99 + 24 * x1.toNatClampNeg) + 12)]) hN okL_26 ⟨_, _, rfl⟩ dX11_restore_52 mc_11_226 (c_X8_copyFrom (d := d + 0) hN hR okL_26 (oc_3_1 (ok_image r1)) p5) rfl rfl (by decide) ?_
        refine bv_aload_n dX11_restore_55 0 rfl ?_
        refine bz_getA (a := 151) hN okL_0 (hR _ _ _ r0_0_9) dX11_restore_56 fl_11_71 rfl ?_
        refine bv_aload_n dX11_restore_59 0 rfl ?_
        refine bz_getA (a := 98) hN okL_0 (hR _ _ _ r0_0_7) dX11_restore_60 fl_11_56 rfl ?_
        refine bv_iload_n dX11_restore_63 1 rfl ?_
        refine bz_aald hN rkL_98 (by decide) (by decide) r1 (hR _ _ _ (tr_image r1)) dX11_restore_64 ?_
        refine bz_getA (a := ((99 + 24 * x1.toNatClampNeg) + 19)) hN (ok_image r1) (hR _ _ _ (tr_3_2 (ok_image r1))) dX11_restore_65 fl_11_355 rfl ?_
        obtain ⟨v6, p7, h⟩ := bu_bd h
        refine bw_callVv (As := [.ref ((99 + 24 * x1.toNatClampNeg) + 19)]) hN okL_151 ⟨_, _, rfl⟩ dX11_restore_68 mc_11_331 (c_X7_copyFrom (d := d + 1) hN hR okL_151 (oc_3_2 (ok_image r1)) p7) rfl rfl (by decide) ?_
        refine bv_aload_n dX11_restore_71 0 rfl ?_
        refine bz_getA (a := 40) hN okL_0 (hR _ _ _ r0_0_6) dX11_restore_72 fl_11_50 rfl ?_
        obtain ⟨v8, p9, h⟩ := bu_bd h
        refine bw_callVv (As := []) hN okL_40 ⟨_, _, rfl⟩ dX11_restore_75 mc_11_131 (c_X4_forget (d := d + 1) hN hR p9) rfl rfl (by decide) ?_
        refine bv_iconst (v := 1) dX11_restore_78 (by decide) ?_
        obtain rfl := Option.some.inj h
        exact bw_bret (b := true) dX11_restore_79 rfl ⟨rfl, rfl⟩
      · replace h := bu_t h cc
        refine bv_iconst (v := 0) dX11_restore_21 (by decide) ?_
        obtain rfl := Option.some.inj h
        exact bw_bret (b := false) dX11_restore_22 rfl ⟨rfl, rfl⟩
def f_X12_thrown (I : bm_TI) : Option (Int32) := some (I 164 0)
set_option maxHeartbeats 4000000 in
set_option maxRecDepth 100000 in
theorem c_X12_thrown {lc : bm_L} {d n : Nat} {I : bm_TI} {J : bm_TJ} {R W : bm_TR} {v : Int32} (hN : 181 ≤ n) (hR : bm_RR R) (h : f_X12_thrown I = some v) : bm_C lc m_X12_thrown d n n [.ref 164] (I, J, R, W) (fun r M' => r = some (.int v) ∧ M' = (I, J, R, W)) := by
  refine bm_C.ofV (by decide) (Nat.le_of_ble_eq_true rfl) ?_
  show bm_V lc m_X12_thrown d n n n 0 [(0, .ref 164)] [] (I, J, R, W) _
  unfold f_X12_thrown at h
  refine bv_aload_n dX12_thrown_0 0 rfl ?_
  refine bz_getI hN okL_164 dX12_thrown_1 fl_12_1 rfl ?_
  obtain rfl := Option.some.inj h
  exact bv_iret (x := (I 164 0)) dX12_thrown_4 rfl ⟨rfl, rfl⟩
def f_X12_throwsIf (I : bm_TI) (x1 : Bool) : Option (Bool × bm_TI) := (if x1 = true then some (x1, (bm_uI I 164 0 1)) else some (x1, (bm_uI I 164 0 0)))
set_option maxHeartbeats 4000000 in
set_option maxRecDepth 100000 in
theorem c_X12_throwsIf {lc : bm_L} {d n : Nat} {I : bm_TI} {J : bm_TJ} {R W : bm_TR} {x1 : Bool} {v : Bool × bm_TI} (hN : 181 ≤ n) (hR : bm_RR R) (h : f_X12_throwsIf I x1 = some v) : bm_C lc m_X12_throwsIf d n n [.ref 164, .int (bm_bi x1)] (I, J, R, W) (fun r M' => r = some (.int (bm_bi v.1)) ∧ M' = (v.2, J, R, W)) := by
  refine bm_C.ofV (by decide) (Nat.le_of_ble_eq_true rfl) ?_
  show bm_V lc m_X12_throwsIf d n n n 0 [(0, .ref 164), (1, .int (bm_bi x1))] [] (I, J, R, W) _
  unfold f_X12_throwsIf at h
  refine bv_aload_n dX12_throwsIf_0 0 rfl ?_
  refine bv_iload_n dX12_throwsIf_1 1 rfl ?_
  refine bw_ifB_eq (b := x1) (tgt := 9) dX12_throwsIf_2 (by decide) (fun cc => ?_) (fun cc => ?_)
  · replace h := bu_bf h cc
    refine bv_iconst (v := 0) dX12_throwsIf_9 (by decide) ?_
    refine bz_putI hN okL_164 dX12_throwsIf_10 fl_12_1 rfl ?_
    refine bv_iload_n dX12_throwsIf_13 1 rfl ?_
    obtain rfl := Option.some.inj h
    exact bw_bret (b := x1) dX12_throwsIf_14 rfl ⟨rfl, rfl⟩
  · replace h := bu_bt h cc
    refine bv_iconst (v := 1) dX12_throwsIf_5 (by decide) ?_
    refine bv_goto (tgt := 10) dX12_throwsIf_6 (by decide) ?_
    refine bz_putI hN okL_164 dX12_throwsIf_10 fl_12_1 rfl ?_
    refine bv_iload_n dX12_throwsIf_13 1 rfl ?_
    obtain rfl := Option.some.inj h
    exact bw_bret (b := x1) dX12_throwsIf_14 rfl ⟨rfl, rfl⟩
def f_X12_four_l3 (x1 : Int32) : Nat → Int32 → bm_TI → Option (bm_TI)
  | 0, _, _ => none
  | k + 1, x2, I => (if x2 < 0 then some I else (if bm_ix 940 (I 164 2) = true then f_X12_four_l3 x1 k (x2 + (-8)) (bm_uI (bm_uI I 165 ((I 164 2).toNatClampNeg) (vp_nar .byte ((bm_ishr x1 x2).toInt8.toInt32))) 164 2 (((bm_uI I 165 ((I 164 2).toNatClampNeg) (vp_nar .byte ((bm_ishr x1 x2).toInt8.toInt32))) 164 2) + 1)) else none))
set_option maxHeartbeats 4000000 in
set_option maxRecDepth 100000 in
theorem v_X12_four_l3 {lc : bm_L} {d n : Nat} {Q : Option Value → bm_M → Prop} {R : bm_TR} {J : bm_TJ} {W : bm_TR} {x1 : Int32} (hN : 181 ≤ n) (hR : bm_RR R) : ∀ (k : Nat) (x2 : Int32) (I : bm_TI) (r : bm_TI), f_X12_four_l3 x1 k x2 I = some r → (∀ yy, yy = r → bm_V lc m_X12_four d n n n 36 [] [] (yy, J, R, W) Q) → bm_V lc m_X12_four d n n n 3 [(0, .ref 164), (1, .int x1), (2, .int x2)] [] (I, J, R, W) Q := by
  intro k
  induction k with
  | zero => intro x2 I r h; cases (show (none : Option (bm_TI)) = some r from h)
  | succ k ih =>
    intro x2 I r h K0
    unfold f_X12_four_l3 at h
    refine bv_iload_n dX12_four_3 2 rfl ?_
    refine bv_if_lt (tgt := 36) dX12_four_4 (by decide) (fun cc => ?_) (fun cc => ?_)
    · replace h := bu_t h cc
      refine bw_ls (ls1 := []) [] rfl ?_
      obtain rfl := Option.some.inj h
      exact K0 _ rfl
    · replace h := bu_f h cc
      refine bv_aload_n dX12_four_7 0 rfl ?_
      refine bz_getA (a := 165) hN okL_164 (hR _ _ _ r0_164_1) dX12_four_8 fl_12_14 rfl ?_
      refine bv_aload_n dX12_four_11 0 rfl ?_
      refine bz_getI hN okL_164 dX12_four_12 fl_12_7 rfl ?_
      refine bv_iload_n dX12_four_15 1 rfl ?_
      refine bv_iload_n dX12_four_16 2 rfl ?_
      refine bv_ishr dX12_four_17 ?_
      refine bv_i2b dX12_four_18 ?_
      obtain ⟨r1, h⟩ := bu_ix h
      refine bz_bast hN rkL_165 r1 rfl dX12_four_19 ?_
      refine bv_aload_n dX12_four_20 0 rfl ?_
      refine bv_dup dX12_four_21 rfl ?_
      refine bz_getI hN okL_164 dX12_four_22 fl_12_7 rfl ?_
      refine bv_iconst (v := 1) dX12_four_25 (by decide) ?_
      refine bv_iadd dX12_four_26 ?_
      refine bz_putI hN okL_164 dX12_four_27 fl_12_7 rfl ?_
      refine bv_iinc (j := 2) (v := (x2 + (-8))) (ls1 := [(0, .ref 164), (1, .int x1), (2, .int (x2 + (-8)))]) dX12_four_30 rfl rfl (by decide) rfl rfl ?_
      refine bv_goto (tgt := 3) dX12_four_33 (by decide) ?_
      exact ih _ _ _ h K0
def f_X12_four (I : bm_TI) (x1 : Int32) : Option (bm_TI) := ((f_X12_four_l3 x1 1000 24 I).bind fun y3 => some y3)
set_option maxHeartbeats 4000000 in
set_option maxRecDepth 100000 in
theorem c_X12_four {lc : bm_L} {d n : Nat} {I : bm_TI} {J : bm_TJ} {R W : bm_TR} {x1 : Int32} {v : bm_TI} (hN : 181 ≤ n) (hR : bm_RR R) (h : f_X12_four I x1 = some v) : bm_C lc m_X12_four d n n [.ref 164, .int x1] (I, J, R, W) (fun r M' => r = none ∧ M' = (v, J, R, W)) := by
  refine bm_C.ofV (by decide) (Nat.le_of_ble_eq_true rfl) ?_
  show bm_V lc m_X12_four d n n n 0 [(0, .ref 164), (1, .int x1)] [] (I, J, R, W) _
  unfold f_X12_four at h
  refine bv_bipush (v := 24) dX12_four_0 (by decide) ?_
  refine bv_istore_n (ls1 := [(0, .ref 164), (1, .int x1), (2, .int 24)]) dX12_four_2 (by decide) rfl rfl ?_
  obtain ⟨r1, p2, h⟩ := bu_bd h
  refine v_X12_four_l3 hN hR 1000 _ _ _ p2 (fun y3 hy => ?_)
  · subst hy
    obtain rfl := Option.some.inj h
    exact bv_vret dX12_four_36 rfl ⟨rfl, rfl⟩
def f_X12_feed (I : bm_TI) (x1 : Int32) (x2 : Int32) (x3 : Int32) (x4 : Int32) (x5 : Int32) : Option (Int32 × bm_TI) := (if (((bm_uI I 164 0 0) 164 2) + 20) ≤ 940 then ((f_X12_four (bm_uI I 164 0 0) x1).bind fun v1 => ((f_X12_four v1 x2).bind fun v3 => ((f_X12_four v3 x3).bind fun v5 => ((f_X12_four v5 x4).bind fun v7 => ((f_X12_four v7 x5).bind fun v9 => some ((v9 164 2), v9)))))) else some ((-1), (bm_uI I 164 0 0)))
set_option maxHeartbeats 4000000 in
set_option maxRecDepth 100000 in
theorem c_X12_feed {lc : bm_L} {d n : Nat} {I : bm_TI} {J : bm_TJ} {R W : bm_TR} {x1 : Int32} {x2 : Int32} {x3 : Int32} {x4 : Int32} {x5 : Int32} {v : Int32 × bm_TI} (hN : 181 ≤ n) (hR : bm_RR R) (h : f_X12_feed I x1 x2 x3 x4 x5 = some v) : bm_C lc m_X12_feed (d + 1) n n [.ref 164, .int x1, .int x2, .int x3, .int x4, .int x5] (I, J, R, W) (fun r M' => r = some (.int v.1) ∧ M' = (v.2, J, R, W)) := by
  refine bm_C.ofV (by decide) (Nat.le_of_ble_eq_true rfl) ?_
  show bm_V lc m_X12_feed (d + 1) n n n 0 [(0, .ref 164), (1, .int x1), (2, .int x2), (3, .int x3), (4, .int x4), (5, .int x5)] [] (I, J, R, W) _
  unfold f_X12_feed at h
  refine bv_aload_n dX12_feed_0 0 rfl ?_
  refine bv_iconst (v := 0) dX12_feed_1 (by decide) ?_
  refine bz_putI hN okL_164 dX12_feed_2 fl_12_1 rfl ?_
  refine bv_aload_n dX12_feed_5 0 rfl ?_
  refine bz_getI hN okL_164 dX12_feed_6 fl_12_7 rfl ?_
  refine bv_bipush (v := 20) dX12_feed_9 (by decide) ?_
  refine bv_iadd dX12_feed_11 ?_
  refine bv_sipush (v := 940) dX12_feed_12 (by decide) ?_
  refine bv_icmp_le (tgt := 20) dX12_feed_15 (by decide) (fun cc => ?_) (fun cc => ?_)
  · replace h := bu_t h cc
    refine bv_aload_n dX12_feed_20 0 rfl ?_
    refine bv_iload_n dX12_feed_21 1 rfl ?_
    obtain ⟨v1, p2, h⟩ := bu_bd h
    refine bw_callVv (As := [.int x1]) hN okL_164 ⟨_, _, rfl⟩ dX12_feed_22 mc_12_10 (c_X12_four (d := d + 0) hN hR p2) rfl rfl (by decide) ?_
    refine bv_aload_n dX12_feed_25 0 rfl ?_
    refine bv_iload_n dX12_feed_26 2 rfl ?_
    obtain ⟨v3, p4, h⟩ := bu_bd h
    refine bw_callVv (As := [.int x2]) hN okL_164 ⟨_, _, rfl⟩ dX12_feed_27 mc_12_10 (c_X12_four (d := d + 0) hN hR p4) rfl rfl (by decide) ?_
    refine bv_aload_n dX12_feed_30 0 rfl ?_
    refine bv_iload_n dX12_feed_31 3 rfl ?_
    obtain ⟨v5, p6, h⟩ := bu_bd h
    refine bw_callVv (As := [.int x3]) hN okL_164 ⟨_, _, rfl⟩ dX12_feed_32 mc_12_10 (c_X12_four (d := d + 0) hN hR p6) rfl rfl (by decide) ?_
    refine bv_aload_n dX12_feed_35 0 rfl ?_
    refine bv_iload dX12_feed_36 4 rfl ?_
    obtain ⟨v7, p8, h⟩ := bu_bd h
    refine bw_callVv (As := [.int x4]) hN okL_164 ⟨_, _, rfl⟩ dX12_feed_38 mc_12_10 (c_X12_four (d := d + 0) hN hR p8) rfl rfl (by decide) ?_
    refine bv_aload_n dX12_feed_41 0 rfl ?_
    refine bv_iload dX12_feed_42 5 rfl ?_
    obtain ⟨v9, p10, h⟩ := bu_bd h
    refine bw_callVv (As := [.int x5]) hN okL_164 ⟨_, _, rfl⟩ dX12_feed_44 mc_12_10 (c_X12_four (d := d + 0) hN hR p10) rfl rfl (by decide) ?_
    refine bv_aload_n dX12_feed_47 0 rfl ?_
    refine bz_getI hN okL_164 dX12_feed_48 fl_12_7 rfl ?_
    obtain rfl := Option.some.inj h
    exact bv_iret (x := (v9 164 2)) dX12_feed_51 rfl ⟨rfl, rfl⟩
  · replace h := bu_f h cc
    refine bv_iconst (v := (-1)) dX12_feed_18 (by decide) ?_
    obtain rfl := Option.some.inj h
    exact bv_iret (x := (-1)) dX12_feed_19 rfl ⟨rfl, rfl⟩
def f_X12_end (I : bm_TI) (x1 : Int32) : Option (Bool × bm_TI) := (if x1 < 0 then some (false, (bm_uI I 164 0 0)) else (if x1 ≤ ((bm_uI I 164 0 0) 164 2) then some (true, (bm_uI (bm_uI I 164 0 0) 164 2 x1)) else some (false, (bm_uI I 164 0 0))))
set_option maxHeartbeats 4000000 in
set_option maxRecDepth 100000 in
theorem c_X12_end {lc : bm_L} {d n : Nat} {I : bm_TI} {J : bm_TJ} {R W : bm_TR} {x1 : Int32} {v : Bool × bm_TI} (hN : 181 ≤ n) (hR : bm_RR R) (h : f_X12_end I x1 = some v) : bm_C lc m_X12_end d n n [.ref 164, .int x1] (I, J, R, W) (fun r M' => r = some (.int (bm_bi v.1)) ∧ M' = (v.2, J, R, W)) := by
  refine bm_C.ofV (by decide) (Nat.le_of_ble_eq_true rfl) ?_
  show bm_V lc m_X12_end d n n n 0 [(0, .ref 164), (1, .int x1)] [] (I, J, R, W) _
  unfold f_X12_end at h
  refine bv_aload_n dX12_end_0 0 rfl ?_
  refine bv_iconst (v := 0) dX12_end_1 (by decide) ?_
  refine bz_putI hN okL_164 dX12_end_2 fl_12_1 rfl ?_
  refine bv_iload_n dX12_end_5 1 rfl ?_
  refine bv_if_lt (tgt := 17) dX12_end_6 (by decide) (fun cc => ?_) (fun cc => ?_)
  · replace h := bu_t h cc
    refine bv_iconst (v := 0) dX12_end_17 (by decide) ?_
    obtain rfl := Option.some.inj h
    exact bw_bret (b := false) dX12_end_18 rfl ⟨rfl, rfl⟩
  · replace h := bu_f h cc
    refine bv_iload_n dX12_end_9 1 rfl ?_
    refine bv_aload_n dX12_end_10 0 rfl ?_
    refine bz_getI hN okL_164 dX12_end_11 fl_12_7 rfl ?_
    refine bv_icmp_le (tgt := 19) dX12_end_14 (by decide) (fun cc => ?_) (fun cc => ?_)
    · replace h := bu_t h cc
      refine bv_aload_n dX12_end_19 0 rfl ?_
      refine bv_iload_n dX12_end_20 1 rfl ?_
      refine bz_putI hN okL_164 dX12_end_21 fl_12_7 rfl ?_
      refine bv_iconst (v := 1) dX12_end_24 (by decide) ?_
      obtain rfl := Option.some.inj h
      exact bw_bret (b := true) dX12_end_25 rfl ⟨rfl, rfl⟩
    · replace h := bu_f h cc
      refine bv_iconst (v := 0) dX12_end_17 (by decide) ?_
      obtain rfl := Option.some.inj h
      exact bw_bret (b := false) dX12_end_18 rfl ⟨rfl, rfl⟩
def f_X12_taken (I : bm_TI) (x1 : Int32) : Option (bm_TI) := some (bm_uI (bm_uI (bm_uI (bm_uI I 164 3 (I 164 2)) 164 2 0) 164 4 0) 164 5 x1)
set_option maxHeartbeats 4000000 in
set_option maxRecDepth 100000 in
theorem c_X12_taken {lc : bm_L} {d n : Nat} {I : bm_TI} {J : bm_TJ} {R W : bm_TR} {x1 : Int32} {v : bm_TI} (hN : 181 ≤ n) (hR : bm_RR R) (h : f_X12_taken I x1 = some v) : bm_C lc m_X12_taken d n n [.ref 164, .int x1] (I, J, R, W) (fun r M' => r = none ∧ M' = (v, J, R, W)) := by
  refine bm_C.ofV (by decide) (Nat.le_of_ble_eq_true rfl) ?_
  show bm_V lc m_X12_taken d n n n 0 [(0, .ref 164), (1, .int x1)] [] (I, J, R, W) _
  unfold f_X12_taken at h
  refine bv_aload_n dX12_taken_0 0 rfl ?_
  refine bv_aload_n dX12_taken_1 0 rfl ?_
  refine bz_getI hN okL_164 dX12_taken_2 fl_12_7 rfl ?_
  refine bz_putI hN okL_164 dX12_taken_5 fl_12_18 rfl ?_
  refine bv_aload_n dX12_taken_8 0 rfl ?_
  refine bv_iconst (v := 0) dX12_taken_9 (by decide) ?_
  refine bz_putI hN okL_164 dX12_taken_10 fl_12_7 rfl ?_
  refine bv_aload_n dX12_taken_13 0 rfl ?_
  refine bv_iconst (v := 0) dX12_taken_14 (by decide) ?_
  refine bz_putI hN okL_164 dX12_taken_15 fl_12_21 rfl ?_
  refine bv_aload_n dX12_taken_18 0 rfl ?_
  refine bv_iload_n dX12_taken_19 1 rfl ?_
  refine bz_putI hN okL_164 dX12_taken_20 fl_12_24 rfl ?_
  obtain rfl := Option.some.inj h
  exact bv_vret dX12_taken_23 rfl ⟨rfl, rfl⟩
def f_X12_isIn (x0 : Int32) (x1 : Int32) (x2 : Int32) : Bool := (if x0 < x1 then false else (if x2 < x0 then false else true))
set_option maxHeartbeats 4000000 in
set_option maxRecDepth 100000 in
theorem c_X12_isIn {lc : bm_L} {d n : Nat} {I : bm_TI} {J : bm_TJ} {R W : bm_TR} {x0 : Int32} {x1 : Int32} {x2 : Int32} {v : Bool} (hN : 181 ≤ n) (hR : bm_RR R) (h : f_X12_isIn x0 x1 x2 = v) : bm_C lc m_X12_isIn d n n [.int x0, .int x1, .int x2] (I, J, R, W) (fun r M' => r = some (.int (bm_bi v)) ∧ M' = (I, J, R, W)) := by
  refine bm_C.ofV (by decide) (Nat.le_of_ble_eq_true rfl) ?_
  show bm_V lc m_X12_isIn d n n n 0 [(0, .int x0), (1, .int x1), (2, .int x2)] [] (I, J, R, W) _
  unfold f_X12_isIn at h
  refine bv_iload_n dX12_isIn_0 0 rfl ?_
  refine bv_iload_n dX12_isIn_1 1 rfl ?_
  refine bv_icmp_lt (tgt := 14) dX12_isIn_2 (by decide) (fun cc => ?_) (fun cc => ?_)
  · replace h := bu_t h cc
    refine bv_iconst (v := 0) dX12_isIn_14 (by decide) ?_
    subst h
    exact bw_bret (b := false) dX12_isIn_15 rfl ⟨rfl, rfl⟩
  · replace h := bu_f h cc
    refine bv_iload_n dX12_isIn_5 0 rfl ?_
    refine bv_iload_n dX12_isIn_6 2 rfl ?_
    refine bv_icmp_gt (tgt := 14) dX12_isIn_7 (by decide) (fun cc => ?_) (fun cc => ?_)
    · replace h := bu_t h cc
      refine bv_iconst (v := 0) dX12_isIn_14 (by decide) ?_
      subst h
      exact bw_bret (b := false) dX12_isIn_15 rfl ⟨rfl, rfl⟩
    · replace h := bu_f h cc
      refine bv_iconst (v := 1) dX12_isIn_10 (by decide) ?_
      refine bv_goto (tgt := 15) dX12_isIn_11 (by decide) ?_
      subst h
      exact bw_bret (b := true) dX12_isIn_15 rfl ⟨rfl, rfl⟩
def f_X12_bitOf (x0 : Int32) (x1 : Int32) : Bool := (if ((bm_ishr x0 x1) &&& 1) = 1 then true else false)
set_option maxHeartbeats 4000000 in
set_option maxRecDepth 100000 in
theorem c_X12_bitOf {lc : bm_L} {d n : Nat} {I : bm_TI} {J : bm_TJ} {R W : bm_TR} {x0 : Int32} {x1 : Int32} {v : Bool} (hN : 181 ≤ n) (hR : bm_RR R) (h : f_X12_bitOf x0 x1 = v) : bm_C lc m_X12_bitOf d n n [.int x0, .int x1] (I, J, R, W) (fun r M' => r = some (.int (bm_bi v)) ∧ M' = (I, J, R, W)) := by
  refine bm_C.ofV (by decide) (Nat.le_of_ble_eq_true rfl) ?_
  show bm_V lc m_X12_bitOf d n n n 0 [(0, .int x0), (1, .int x1)] [] (I, J, R, W) _
  unfold f_X12_bitOf at h
  refine bv_iload_n dX12_bitOf_0 0 rfl ?_
  refine bv_iload_n dX12_bitOf_1 1 rfl ?_
  refine bv_ishr dX12_bitOf_2 ?_
  refine bv_iconst (v := 1) dX12_bitOf_3 (by decide) ?_
  refine bv_iand dX12_bitOf_4 ?_
  refine bv_iconst (v := 1) dX12_bitOf_5 (by decide) ?_
  refine bv_icmp_ne (tgt := 13) dX12_bitOf_6 (by decide) (fun cc => ?_) (fun cc => ?_)
  · replace h := bu_f h cc
    refine bv_iconst (v := 0) dX12_bitOf_13 (by decide) ?_
    subst h
    exact bw_bret (b := false) dX12_bitOf_14 rfl ⟨rfl, rfl⟩
  · replace h := bu_t h cc
    refine bv_iconst (v := 1) dX12_bitOf_9 (by decide) ?_
    refine bv_goto (tgt := 14) dX12_bitOf_10 (by decide) ?_
    subst h
    exact bw_bret (b := true) dX12_bitOf_14 rfl ⟨rfl, rfl⟩
def f_X12_lesser (x0 : Int32) (x1 : Int32) : Int32 := (if x1 ≤ x0 then x1 else x0)
set_option maxHeartbeats 4000000 in
set_option maxRecDepth 100000 in
theorem c_X12_lesser {lc : bm_L} {d n : Nat} {I : bm_TI} {J : bm_TJ} {R W : bm_TR} {x0 : Int32} {x1 : Int32} {v : Int32} (hN : 181 ≤ n) (hR : bm_RR R) (h : f_X12_lesser x0 x1 = v) : bm_C lc m_X12_lesser d n n [.int x0, .int x1] (I, J, R, W) (fun r M' => r = some (.int v) ∧ M' = (I, J, R, W)) := by
  refine bm_C.ofV (by decide) (Nat.le_of_ble_eq_true rfl) ?_
  show bm_V lc m_X12_lesser d n n n 0 [(0, .int x0), (1, .int x1)] [] (I, J, R, W) _
  unfold f_X12_lesser at h
  refine bv_iload_n dX12_lesser_0 0 rfl ?_
  refine bv_iload_n dX12_lesser_1 1 rfl ?_
  refine bv_icmp_ge (tgt := 9) dX12_lesser_2 (by decide) (fun cc => ?_) (fun cc => ?_)
  · replace h := bu_t h cc
    refine bv_iload_n dX12_lesser_9 1 rfl ?_
    subst h
    exact bv_iret (x := x1) dX12_lesser_10 rfl ⟨rfl, rfl⟩
  · replace h := bu_f h cc
    refine bv_iload_n dX12_lesser_5 0 rfl ?_
    refine bv_goto (tgt := 10) dX12_lesser_6 (by decide) ?_
    subst h
    exact bv_iret (x := x0) dX12_lesser_10 rfl ⟨rfl, rfl⟩
def f_X12_greater (x0 : Int32) (x1 : Int32) : Int32 := (if x0 ≤ x1 then x1 else x0)
set_option maxHeartbeats 4000000 in
set_option maxRecDepth 100000 in
theorem c_X12_greater {lc : bm_L} {d n : Nat} {I : bm_TI} {J : bm_TJ} {R W : bm_TR} {x0 : Int32} {x1 : Int32} {v : Int32} (hN : 181 ≤ n) (hR : bm_RR R) (h : f_X12_greater x0 x1 = v) : bm_C lc m_X12_greater d n n [.int x0, .int x1] (I, J, R, W) (fun r M' => r = some (.int v) ∧ M' = (I, J, R, W)) := by
  refine bm_C.ofV (by decide) (Nat.le_of_ble_eq_true rfl) ?_
  show bm_V lc m_X12_greater d n n n 0 [(0, .int x0), (1, .int x1)] [] (I, J, R, W) _
  unfold f_X12_greater at h
  refine bv_iload_n dX12_greater_0 0 rfl ?_
  refine bv_iload_n dX12_greater_1 1 rfl ?_
  refine bv_icmp_le (tgt := 9) dX12_greater_2 (by decide) (fun cc => ?_) (fun cc => ?_)
  · replace h := bu_t h cc
    refine bv_iload_n dX12_greater_9 1 rfl ?_
    subst h
    exact bv_iret (x := x1) dX12_greater_10 rfl ⟨rfl, rfl⟩
  · replace h := bu_f h cc
    refine bv_iload_n dX12_greater_5 0 rfl ?_
    refine bv_goto (tgt := 10) dX12_greater_6 (by decide) ?_
    subst h
    exact bv_iret (x := x0) dX12_greater_10 rfl ⟨rfl, rfl⟩
def f_X12_absolute (x0 : Int32) : Int32 := (if 0 ≤ x0 then x0 else (-x0))
set_option maxHeartbeats 4000000 in
set_option maxRecDepth 100000 in
theorem c_X12_absolute {lc : bm_L} {d n : Nat} {I : bm_TI} {J : bm_TJ} {R W : bm_TR} {x0 : Int32} {v : Int32} (hN : 181 ≤ n) (hR : bm_RR R) (h : f_X12_absolute x0 = v) : bm_C lc m_X12_absolute d n n [.int x0] (I, J, R, W) (fun r M' => r = some (.int v) ∧ M' = (I, J, R, W)) := by
  refine bm_C.ofV (by decide) (Nat.le_of_ble_eq_true rfl) ?_
  show bm_V lc m_X12_absolute d n n n 0 [(0, .int x0)] [] (I, J, R, W) _
  unfold f_X12_absolute at h
  refine bv_iload_n dX12_absolute_0 0 rfl ?_
  refine bv_if_ge (tgt := 9) dX12_absolute_1 (by decide) (fun cc => ?_) (fun cc => ?_)
  · replace h := bu_t h cc
    refine bv_iload_n dX12_absolute_9 0 rfl ?_
    subst h
    exact bv_iret (x := x0) dX12_absolute_10 rfl ⟨rfl, rfl⟩
  · replace h := bu_f h cc
    refine bv_iload_n dX12_absolute_4 0 rfl ?_
    refine bv_ineg dX12_absolute_5 ?_
    refine bv_goto (tgt := 10) dX12_absolute_6 (by decide) ?_
    subst h
    exact bv_iret (x := (-x0)) dX12_absolute_10 rfl ⟨rfl, rfl⟩
def f_X12_bits_l4 : Nat → Int32 → Int32 → Option (Int32)
  | 0, _, _ => none
  | k + 1, x1, x2 => (if x2 = 0 then some x1 else f_X12_bits_l4 k (x1 + 1) (x2 &&& (x2 - 1)))
set_option maxHeartbeats 4000000 in
set_option maxRecDepth 100000 in
theorem v_X12_bits_l4 {lc : bm_L} {d n : Nat} {Q : Option Value → bm_M → Prop} {R : bm_TR} {I : bm_TI} {J : bm_TJ} {W : bm_TR} (hN : 181 ≤ n) (hR : bm_RR R) : ∀ (k : Nat) (x1 : Int32) (x2 : Int32) (r : Int32), f_X12_bits_l4 k x1 x2 = some r → (∀ yy, yy = r → bm_V lc m_X12_bits d n n n 20 [(1, .int yy)] [] (I, J, R, W) Q) → bm_V lc m_X12_bits d n n n 4 [(1, .int x1), (2, .int x2)] [] (I, J, R, W) Q := by
  intro k
  induction k with
  | zero => intro x1 x2 r h; cases (show (none : Option (Int32)) = some r from h)
  | succ k ih =>
    intro x1 x2 r h K0
    unfold f_X12_bits_l4 at h
    refine bv_iload_n dX12_bits_4 1 rfl ?_
    refine bv_if_eq (tgt := 20) dX12_bits_5 (by decide) (fun cc => ?_) (fun cc => ?_)
    · replace h := bu_t h cc
      refine bw_ls (ls1 := [(1, .int x1)]) [0] rfl ?_
      obtain rfl := Option.some.inj h
      exact K0 _ rfl
    · replace h := bu_f h cc
      refine bv_iinc (j := 0) (v := (x1 + 1)) (ls1 := [(1, .int (x1 + 1)), (2, .int x2)]) dX12_bits_8 rfl rfl (by decide) rfl rfl ?_
      refine bv_iload_n dX12_bits_11 1 rfl ?_
      refine bv_iload_n dX12_bits_12 1 rfl ?_
      refine bv_iconst (v := 1) dX12_bits_13 (by decide) ?_
      refine bv_isub dX12_bits_14 ?_
      refine bv_iand dX12_bits_15 ?_
      refine bv_istore_n (ls1 := [(1, .int (x1 + 1)), (2, .int (x2 &&& (x2 - 1)))]) dX12_bits_16 (by decide) rfl rfl ?_
      refine bv_goto (tgt := 4) dX12_bits_17 (by decide) ?_
      exact ih _ _ _ h K0
def f_X12_bits (x0 : Int32) : Option (Int32) := ((f_X12_bits_l4 1000 0 x0).bind fun y3 => some y3)
set_option maxHeartbeats 4000000 in
set_option maxRecDepth 100000 in
theorem c_X12_bits {lc : bm_L} {d n : Nat} {I : bm_TI} {J : bm_TJ} {R W : bm_TR} {x0 : Int32} {v : Int32} (hN : 181 ≤ n) (hR : bm_RR R) (h : f_X12_bits x0 = some v) : bm_C lc m_X12_bits d n n [.int x0] (I, J, R, W) (fun r M' => r = some (.int v) ∧ M' = (I, J, R, W)) := by
  refine bm_C.ofV (by decide) (Nat.le_of_ble_eq_true rfl) ?_
  show bm_V lc m_X12_bits d n n n 0 [(0, .int x0)] [] (I, J, R, W) _
  unfold f_X12_bits at h
  refine bv_iconst (v := 0) dX12_bits_0 (by decide) ?_
  refine bv_istore_n (ls1 := [(0, .int x0), (1, .int 0)]) dX12_bits_1 (by decide) rfl rfl ?_
  refine bv_iload_n dX12_bits_2 0 rfl ?_
  refine bv_istore_n (ls1 := [(0, .int x0), (1, .int 0), (2, .int x0)]) dX12_bits_3 (by decide) rfl rfl ?_
  refine bw_ls (ls1 := [(1, .int 0), (2, .int x0)]) [1, 2] rfl ?_
  obtain ⟨r1, p2, h⟩ := bu_bd h
  refine v_X12_bits_l4 hN hR 1000 _ _ _ p2 (fun y3 hy => ?_)
  · subst hy
    refine bv_iload_n dX12_bits_20 0 rfl ?_
    obtain rfl := Option.some.inj h
    exact bv_iret (x := y3) dX12_bits_21 rfl ⟨rfl, rfl⟩
def f_X12_octet (I : bm_TI) (x1 : Int32) : Option (Int32) := (if bm_ix 940 x1 = true then some ((I 165 x1.toNatClampNeg) &&& 255) else none)
set_option maxHeartbeats 4000000 in
set_option maxRecDepth 100000 in
theorem c_X12_octet {lc : bm_L} {d n : Nat} {I : bm_TI} {J : bm_TJ} {R W : bm_TR} {x1 : Int32} {v : Int32} (hN : 181 ≤ n) (hR : bm_RR R) (h : f_X12_octet I x1 = some v) : bm_C lc m_X12_octet d n n [.ref 164, .int x1] (I, J, R, W) (fun r M' => r = some (.int v) ∧ M' = (I, J, R, W)) := by
  refine bm_C.ofV (by decide) (Nat.le_of_ble_eq_true rfl) ?_
  show bm_V lc m_X12_octet d n n n 0 [(0, .ref 164), (1, .int x1)] [] (I, J, R, W) _
  unfold f_X12_octet at h
  refine bv_aload_n dX12_octet_0 0 rfl ?_
  refine bz_getA (a := 165) hN okL_164 (hR _ _ _ r0_164_1) dX12_octet_1 fl_12_14 rfl ?_
  refine bv_iload_n dX12_octet_4 1 rfl ?_
  obtain ⟨r1, h⟩ := bu_ix h
  refine bz_bald hN rkL_165 r1 rfl dX12_octet_5 ?_
  refine bv_sipush (v := 255) dX12_octet_6 (by decide) ?_
  refine bv_iand dX12_octet_9 ?_
  obtain rfl := Option.some.inj h
  exact bv_iret (x := ((I 165 x1.toNatClampNeg) &&& 255)) dX12_octet_10 rfl ⟨rfl, rfl⟩
def f_X12_clears_l2 : Nat → Int32 → bm_TI → Option (bm_TI)
  | 0, _, _ => none
  | k + 1, x1, I => (if 61 ≤ x1 then some I else (if bm_ix 61 x1 = true then f_X12_clears_l2 k (x1 + 1) (bm_uI I 167 x1.toNatClampNeg 0) else none))
set_option maxHeartbeats 4000000 in
set_option maxRecDepth 100000 in
theorem v_X12_clears_l2 {lc : bm_L} {d n : Nat} {Q : Option Value → bm_M → Prop} {R : bm_TR} {J : bm_TJ} {W : bm_TR} (hN : 181 ≤ n) (hR : bm_RR R) : ∀ (k : Nat) (x1 : Int32) (I : bm_TI) (r : bm_TI), f_X12_clears_l2 k x1 I = some r → (∀ yy, yy = r → bm_V lc m_X12_clears d n n n 21 [(0, .ref 164)] [] (yy, J, R, W) Q) → bm_V lc m_X12_clears d n n n 2 [(0, .ref 164), (1, .int x1)] [] (I, J, R, W) Q := by
  intro k
  induction k with
  | zero => intro x1 I r h; cases (show (none : Option (bm_TI)) = some r from h)
  | succ k ih =>
    intro x1 I r h K0
    unfold f_X12_clears_l2 at h
    refine bv_iload_n dX12_clears_2 1 rfl ?_
    refine bv_bipush (v := 61) dX12_clears_3 (by decide) ?_
    refine bv_icmp_ge (tgt := 21) dX12_clears_5 (by decide) (fun cc => ?_) (fun cc => ?_)
    · replace h := bu_t h cc
      refine bw_ls (ls1 := [(0, .ref 164)]) [0] rfl ?_
      obtain rfl := Option.some.inj h
      exact K0 _ rfl
    · replace h := bu_f h cc
      refine bv_aload_n dX12_clears_8 0 rfl ?_
      refine bz_getA (a := 167) hN okL_164 (hR _ _ _ r0_164_7) dX12_clears_9 fl_12_37 rfl ?_
      refine bv_iload_n dX12_clears_12 1 rfl ?_
      refine bv_iconst (v := 0) dX12_clears_13 (by decide) ?_
      obtain ⟨r1, h⟩ := bu_ix h
      refine bz_iast hN rkL_167 r1 rfl dX12_clears_14 ?_
      refine bv_iinc (j := 1) (v := (x1 + 1)) (ls1 := [(0, .ref 164), (1, .int (x1 + 1))]) dX12_clears_15 rfl rfl (by decide) rfl rfl ?_
      refine bv_goto (tgt := 2) dX12_clears_18 (by decide) ?_
      exact ih _ _ _ h K0
def f_X12_clears (I : bm_TI) : Option (bm_TI) := ((f_X12_clears_l2 1000 0 I).bind fun y3 => some (bm_uI (bm_uI y3 167 3 2) 167 4 6))
set_option maxHeartbeats 4000000 in
set_option maxRecDepth 100000 in
theorem c_X12_clears {lc : bm_L} {d n : Nat} {I : bm_TI} {J : bm_TJ} {R W : bm_TR} {v : bm_TI} (hN : 181 ≤ n) (hR : bm_RR R) (h : f_X12_clears I = some v) : bm_C lc m_X12_clears d n n [.ref 164] (I, J, R, W) (fun r M' => r = none ∧ M' = (v, J, R, W)) := by
  refine bm_C.ofV (by decide) (Nat.le_of_ble_eq_true rfl) ?_
  show bm_V lc m_X12_clears d n n n 0 [(0, .ref 164)] [] (I, J, R, W) _
  unfold f_X12_clears at h
  refine bv_iconst (v := 0) dX12_clears_0 (by decide) ?_
  refine bv_istore_n (ls1 := [(0, .ref 164), (1, .int 0)]) dX12_clears_1 (by decide) rfl rfl ?_
  obtain ⟨r1, p2, h⟩ := bu_bd h
  refine v_X12_clears_l2 hN hR 1000 _ _ _ p2 (fun y3 hy => ?_)
  · subst hy
    refine bv_aload_n dX12_clears_21 0 rfl ?_
    refine bz_getA (a := 167) hN okL_164 (hR _ _ _ r0_164_7) dX12_clears_22 fl_12_37 rfl ?_
    refine bv_iconst (v := 3) dX12_clears_25 (by decide) ?_
    refine bv_iconst (v := 2) dX12_clears_26 (by decide) ?_
    refine bz_iast (j := 3) hN rkL_167 (bm_ix_in (by decide)) (by decide) dX12_clears_27 ?_
    refine bv_aload_n dX12_clears_28 0 rfl ?_
    refine bz_getA (a := 167) hN okL_164 (hR _ _ _ r0_164_7) dX12_clears_29 fl_12_37 rfl ?_
    refine bv_iconst (v := 4) dX12_clears_32 (by decide) ?_
    refine bv_bipush (v := 6) dX12_clears_33 (by decide) ?_
    refine bz_iast (j := 4) hN rkL_167 (bm_ix_in (by decide)) (by decide) dX12_clears_35 ?_
    obtain rfl := Option.some.inj h
    exact bv_vret dX12_clears_36 rfl ⟨rfl, rfl⟩
def f_X12_peek (I : bm_TI) : Option (Int32) := (if (I 164 3) ≤ (I 164 4) then some (-1) else (if bm_ix 940 (I 164 4) = true then some ((I 165 (I 164 4).toNatClampNeg) &&& 255) else none))
set_option maxHeartbeats 4000000 in
set_option maxRecDepth 100000 in
theorem c_X12_peek {lc : bm_L} {d n : Nat} {I : bm_TI} {J : bm_TJ} {R W : bm_TR} {v : Int32} (hN : 181 ≤ n) (hR : bm_RR R) (h : f_X12_peek I = some v) : bm_C lc m_X12_peek d n n [.ref 164] (I, J, R, W) (fun r M' => r = some (.int v) ∧ M' = (I, J, R, W)) := by
  refine bm_C.ofV (by decide) (Nat.le_of_ble_eq_true rfl) ?_
  show bm_V lc m_X12_peek d n n n 0 [(0, .ref 164)] [] (I, J, R, W) _
  unfold f_X12_peek at h
  refine bv_aload_n dX12_peek_0 0 rfl ?_
  refine bz_getI hN okL_164 dX12_peek_1 fl_12_21 rfl ?_
  refine bv_aload_n dX12_peek_4 0 rfl ?_
  refine bz_getI hN okL_164 dX12_peek_5 fl_12_18 rfl ?_
  refine bv_icmp_ge (tgt := 27) dX12_peek_8 (by decide) (fun cc => ?_) (fun cc => ?_)
  · replace h := bu_t h cc
    refine bv_iconst (v := (-1)) dX12_peek_27 (by decide) ?_
    obtain rfl := Option.some.inj h
    exact bv_iret (x := (-1)) dX12_peek_28 rfl ⟨rfl, rfl⟩
  · replace h := bu_f h cc
    refine bv_aload_n dX12_peek_11 0 rfl ?_
    refine bz_getA (a := 165) hN okL_164 (hR _ _ _ r0_164_1) dX12_peek_12 fl_12_14 rfl ?_
    refine bv_aload_n dX12_peek_15 0 rfl ?_
    refine bz_getI hN okL_164 dX12_peek_16 fl_12_21 rfl ?_
    obtain ⟨r1, h⟩ := bu_ix h
    refine bz_bald hN rkL_165 r1 rfl dX12_peek_19 ?_
    refine bv_sipush (v := 255) dX12_peek_20 (by decide) ?_
    refine bv_iand dX12_peek_23 ?_
    refine bv_goto (tgt := 28) dX12_peek_24 (by decide) ?_
    obtain rfl := Option.some.inj h
    exact bv_iret (x := ((I 165 (I 164 4).toNatClampNeg) &&& 255)) dX12_peek_28 rfl ⟨rfl, rfl⟩
def f_X12_isSmall (x0 : Int32) : Bool := (if x0 < 97 then false else (if 122 < x0 then false else true))
set_option maxHeartbeats 4000000 in
set_option maxRecDepth 100000 in
theorem c_X12_isSmall {lc : bm_L} {d n : Nat} {I : bm_TI} {J : bm_TJ} {R W : bm_TR} {x0 : Int32} {v : Bool} (hN : 181 ≤ n) (hR : bm_RR R) (h : f_X12_isSmall x0 = v) : bm_C lc m_X12_isSmall d n n [.int x0] (I, J, R, W) (fun r M' => r = some (.int (bm_bi v)) ∧ M' = (I, J, R, W)) := by
  refine bm_C.ofV (by decide) (Nat.le_of_ble_eq_true rfl) ?_
  show bm_V lc m_X12_isSmall d n n n 0 [(0, .int x0)] [] (I, J, R, W) _
  unfold f_X12_isSmall at h
  refine bv_iload_n dX12_isSmall_0 0 rfl ?_
  refine bv_bipush (v := 97) dX12_isSmall_1 (by decide) ?_
  refine bv_icmp_lt (tgt := 16) dX12_isSmall_3 (by decide) (fun cc => ?_) (fun cc => ?_)
  · replace h := bu_t h cc
    refine bv_iconst (v := 0) dX12_isSmall_16 (by decide) ?_
    subst h
    exact bw_bret (b := false) dX12_isSmall_17 rfl ⟨rfl, rfl⟩
  · replace h := bu_f h cc
    refine bv_iload_n dX12_isSmall_6 0 rfl ?_
    refine bv_bipush (v := 122) dX12_isSmall_7 (by decide) ?_
    refine bv_icmp_gt (tgt := 16) dX12_isSmall_9 (by decide) (fun cc => ?_) (fun cc => ?_)
    · replace h := bu_t h cc
      refine bv_iconst (v := 0) dX12_isSmall_16 (by decide) ?_
      subst h
      exact bw_bret (b := false) dX12_isSmall_17 rfl ⟨rfl, rfl⟩
    · replace h := bu_f h cc
      refine bv_iconst (v := 1) dX12_isSmall_12 (by decide) ?_
      refine bv_goto (tgt := 17) dX12_isSmall_13 (by decide) ?_
      subst h
      exact bw_bret (b := true) dX12_isSmall_17 rfl ⟨rfl, rfl⟩
def f_X12_isDigit (x0 : Int32) : Bool := (if x0 < 48 then false else (if 57 < x0 then false else true))
set_option maxHeartbeats 4000000 in
set_option maxRecDepth 100000 in
theorem c_X12_isDigit {lc : bm_L} {d n : Nat} {I : bm_TI} {J : bm_TJ} {R W : bm_TR} {x0 : Int32} {v : Bool} (hN : 181 ≤ n) (hR : bm_RR R) (h : f_X12_isDigit x0 = v) : bm_C lc m_X12_isDigit d n n [.int x0] (I, J, R, W) (fun r M' => r = some (.int (bm_bi v)) ∧ M' = (I, J, R, W)) := by
  refine bm_C.ofV (by decide) (Nat.le_of_ble_eq_true rfl) ?_
  show bm_V lc m_X12_isDigit d n n n 0 [(0, .int x0)] [] (I, J, R, W) _
  unfold f_X12_isDigit at h
  refine bv_iload_n dX12_isDigit_0 0 rfl ?_
  refine bv_bipush (v := 48) dX12_isDigit_1 (by decide) ?_
  refine bv_icmp_lt (tgt := 16) dX12_isDigit_3 (by decide) (fun cc => ?_) (fun cc => ?_)
  · replace h := bu_t h cc
    refine bv_iconst (v := 0) dX12_isDigit_16 (by decide) ?_
    subst h
    exact bw_bret (b := false) dX12_isDigit_17 rfl ⟨rfl, rfl⟩
  · replace h := bu_f h cc
    refine bv_iload_n dX12_isDigit_6 0 rfl ?_
    refine bv_bipush (v := 57) dX12_isDigit_7 (by decide) ?_
    refine bv_icmp_gt (tgt := 16) dX12_isDigit_9 (by decide) (fun cc => ?_) (fun cc => ?_)
    · replace h := bu_t h cc
      refine bv_iconst (v := 0) dX12_isDigit_16 (by decide) ?_
      subst h
      exact bw_bret (b := false) dX12_isDigit_17 rfl ⟨rfl, rfl⟩
    · replace h := bu_f h cc
      refine bv_iconst (v := 1) dX12_isDigit_12 (by decide) ?_
      refine bv_goto (tgt := 17) dX12_isDigit_13 (by decide) ?_
      subst h
      exact bw_bret (b := true) dX12_isDigit_17 rfl ⟨rfl, rfl⟩
def f_X12_next_l0 : Nat → bm_TI → Option (bm_TI)
  | 0, _ => none
  | k + 1, I => ((f_X12_peek I).bind fun v1 => (if v1 = 32 then f_X12_next_l0 k (bm_uI I 164 4 ((I 164 4) + 1)) else ((f_X12_peek I).bind fun v3 => (if v3 = 10 then f_X12_next_l0 k (bm_uI I 164 4 ((I 164 4) + 1)) else some I))))
set_option maxHeartbeats 4000000 in
set_option maxRecDepth 100000 in
theorem v_X12_next_l0 {lc : bm_L} {d n : Nat} {Q : Option Value → bm_M → Prop} {R : bm_TR} {J : bm_TJ} {W : bm_TR} (hN : 181 ≤ n) (hR : bm_RR R) : ∀ (k : Nat) (I : bm_TI) (r : bm_TI), f_X12_next_l0 k I = some r → (∀ yy, yy = r → bm_V lc m_X12_next (d + 1) n n n 31 [(0, .ref 164)] [] (yy, J, R, W) Q) → bm_V lc m_X12_next (d + 1) n n n 0 [(0, .ref 164)] [] (I, J, R, W) Q := by
  intro k
  induction k with
  | zero => intro I r h; cases (show (none : Option (bm_TI)) = some r from h)
  | succ k ih =>
    intro I r h K0
    unfold f_X12_next_l0 at h
    refine bv_aload_n dX12_next_0 0 rfl ?_
    obtain ⟨v1, p2, h⟩ := bu_bd h
    refine bw_callV (As := []) hN okL_164 ⟨_, _, rfl⟩ dX12_next_1 mc_12_164 (c_X12_peek (d := d + 0) hN hR p2) rfl rfl (by decide) ?_
    refine bv_bipush (v := 32) dX12_next_4 (by decide) ?_
    refine bv_icmp_eq (tgt := 18) dX12_next_6 (by decide) (fun cc => ?_) (fun cc => ?_)
    · replace h := bu_t h cc
      refine bv_aload_n dX12_next_18 0 rfl ?_
      refine bv_dup dX12_next_19 rfl ?_
      refine bz_getI hN okL_164 dX12_next_20 fl_12_21 rfl ?_
      refine bv_iconst (v := 1) dX12_next_23 (by decide) ?_
      refine bv_iadd dX12_next_24 ?_
      refine bz_putI hN okL_164 dX12_next_25 fl_12_21 rfl ?_
      refine bv_goto (tgt := 0) dX12_next_28 (by decide) ?_
      exact ih _ _ h K0
    · replace h := bu_f h cc
      refine bv_aload_n dX12_next_9 0 rfl ?_
      obtain ⟨v3, p4, h⟩ := bu_bd h
      refine bw_callV (As := []) hN okL_164 ⟨_, _, rfl⟩ dX12_next_10 mc_12_164 (c_X12_peek (d := d + 0) hN hR p4) rfl rfl (by decide) ?_
      refine bv_bipush (v := 10) dX12_next_13 (by decide) ?_
      refine bv_icmp_ne (tgt := 31) dX12_next_15 (by decide) (fun cc => ?_) (fun cc => ?_)
      · replace h := bu_f h cc
        obtain rfl := Option.some.inj h
        exact K0 _ rfl
      · replace h := bu_t h cc
        refine bv_aload_n dX12_next_18 0 rfl ?_
        refine bv_dup dX12_next_19 rfl ?_
        refine bz_getI hN okL_164 dX12_next_20 fl_12_21 rfl ?_
        refine bv_iconst (v := 1) dX12_next_23 (by decide) ?_
        refine bv_iadd dX12_next_24 ?_
        refine bz_putI hN okL_164 dX12_next_25 fl_12_21 rfl ?_
        refine bv_goto (tgt := 0) dX12_next_28 (by decide) ?_
        exact ih _ _ h K0
def f_X12_next_l181 (x2 : Bool) : Nat → Bool → bm_TI → bm_TJ → Option (Bool × bm_TI × bm_TJ)
  | 0, _, _, _ => none
  | k + 1, x3, I, J => ((f_X12_peek I).bind fun v1 => (if (f_X12_isSmall v1) = true then (if x3 = true then ((f_X12_peek I).bind fun v9 => (if (bm_bi (f_X12_isSmall v9)) = (bm_bi x2) then (if 7 ≤ (I 164 13) then (if 3 ≤ (I 164 13) then f_X12_next_l181 x2 k true (bm_uI (bm_uI I 164 13 ((I 164 13) + 1)) 164 4 (((bm_uI I 164 13 ((I 164 13) + 1)) 164 4) + 1)) J else ((f_X12_peek I).bind fun v17 => f_X12_next_l181 x2 k true (bm_uI (bm_uI (bm_uI I 164 14 (((10 * (I 164 14)) + v17) - 48)) 164 13 (((bm_uI I 164 14 (((10 * (I 164 14)) + v17) - 48)) 164 13) + 1)) 164 4 (((bm_uI (bm_uI I 164 14 (((10 * (I 164 14)) + v17) - 48)) 164 13 (((bm_uI I 164 14 (((10 * (I 164 14)) + v17) - 48)) 164 13) + 1)) 164 4) + 1)) J)) else ((f_X12_peek I).bind fun v19 => (if 3 ≤ (I 164 13) then f_X12_next_l181 x2 k true (bm_uI (bm_uI I 164 13 ((I 164 13) + 1)) 164 4 (((bm_uI I 164 13 ((I 164 13) + 1)) 164 4) + 1)) (bm_uJ J 164 17 ((bm_lshl (J 164 17) 8) ||| v19.toInt64)) else ((f_X12_peek I).bind fun v21 => f_X12_next_l181 x2 k true (bm_uI (bm_uI (bm_uI I 164 14 (((10 * (I 164 14)) + v21) - 48)) 164 13 (((bm_uI I 164 14 (((10 * (I 164 14)) + v21) - 48)) 164 13) + 1)) 164 4 (((bm_uI (bm_uI I 164 14 (((10 * (I 164 14)) + v21) - 48)) 164 13 (((bm_uI I 164 14 (((10 * (I 164 14)) + v21) - 48)) 164 13) + 1)) 164 4) + 1)) (bm_uJ J 164 17 ((bm_lshl (J 164 17) 8) ||| v19.toInt64)))))) else (if 7 ≤ (I 164 13) then (if 3 ≤ (I 164 13) then f_X12_next_l181 x2 k false (bm_uI (bm_uI I 164 13 ((I 164 13) + 1)) 164 4 (((bm_uI I 164 13 ((I 164 13) + 1)) 164 4) + 1)) J else ((f_X12_peek I).bind fun v11 => f_X12_next_l181 x2 k false (bm_uI (bm_uI (bm_uI I 164 14 (((10 * (I 164 14)) + v11) - 48)) 164 13 (((bm_uI I 164 14 (((10 * (I 164 14)) + v11) - 48)) 164 13) + 1)) 164 4 (((bm_uI (bm_uI I 164 14 (((10 * (I 164 14)) + v11) - 48)) 164 13 (((bm_uI I 164 14 (((10 * (I 164 14)) + v11) - 48)) 164 13) + 1)) 164 4) + 1)) J)) else ((f_X12_peek I).bind fun v13 => (if 3 ≤ (I 164 13) then f_X12_next_l181 x2 k false (bm_uI (bm_uI I 164 13 ((I 164 13) + 1)) 164 4 (((bm_uI I 164 13 ((I 164 13) + 1)) 164 4) + 1)) (bm_uJ J 164 17 ((bm_lshl (J 164 17) 8) ||| v13.toInt64)) else ((f_X12_peek I).bind fun v15 => f_X12_next_l181 x2 k false (bm_uI (bm_uI (bm_uI I 164 14 (((10 * (I 164 14)) + v15) - 48)) 164 13 (((bm_uI I 164 14 (((10 * (I 164 14)) + v15) - 48)) 164 13) + 1)) 164 4 (((bm_uI (bm_uI I 164 14 (((10 * (I 164 14)) + v15) - 48)) 164 13 (((bm_uI I 164 14 (((10 * (I 164 14)) + v15) - 48)) 164 13) + 1)) 164 4) + 1)) (bm_uJ J 164 17 ((bm_lshl (J 164 17) 8) ||| v13.toInt64)))))))) else (if 7 ≤ (I 164 13) then (if 3 ≤ (I 164 13) then f_X12_next_l181 x2 k false (bm_uI (bm_uI I 164 13 ((I 164 13) + 1)) 164 4 (((bm_uI I 164 13 ((I 164 13) + 1)) 164 4) + 1)) J else ((f_X12_peek I).bind fun v3 => f_X12_next_l181 x2 k false (bm_uI (bm_uI (bm_uI I 164 14 (((10 * (I 164 14)) + v3) - 48)) 164 13 (((bm_uI I 164 14 (((10 * (I 164 14)) + v3) - 48)) 164 13) + 1)) 164 4 (((bm_uI (bm_uI I 164 14 (((10 * (I 164 14)) + v3) - 48)) 164 13 (((bm_uI I 164 14 (((10 * (I 164 14)) + v3) - 48)) 164 13) + 1)) 164 4) + 1)) J)) else ((f_X12_peek I).bind fun v5 => (if 3 ≤ (I 164 13) then f_X12_next_l181 x2 k false (bm_uI (bm_uI I 164 13 ((I 164 13) + 1)) 164 4 (((bm_uI I 164 13 ((I 164 13) + 1)) 164 4) + 1)) (bm_uJ J 164 17 ((bm_lshl (J 164 17) 8) ||| v5.toInt64)) else ((f_X12_peek I).bind fun v7 => f_X12_next_l181 x2 k false (bm_uI (bm_uI (bm_uI I 164 14 (((10 * (I 164 14)) + v7) - 48)) 164 13 (((bm_uI I 164 14 (((10 * (I 164 14)) + v7) - 48)) 164 13) + 1)) 164 4 (((bm_uI (bm_uI I 164 14 (((10 * (I 164 14)) + v7) - 48)) 164 13 (((bm_uI I 164 14 (((10 * (I 164 14)) + v7) - 48)) 164 13) + 1)) 164 4) + 1)) (bm_uJ J 164 17 ((bm_lshl (J 164 17) 8) ||| v5.toInt64))))))) else ((f_X12_peek I).bind fun v23 => (if (f_X12_isDigit v23) = true then (if x3 = true then ((f_X12_peek I).bind fun v31 => (if (bm_bi (f_X12_isSmall v31)) = (bm_bi x2) then (if 7 ≤ (I 164 13) then (if 3 ≤ (I 164 13) then f_X12_next_l181 x2 k true (bm_uI (bm_uI I 164 13 ((I 164 13) + 1)) 164 4 (((bm_uI I 164 13 ((I 164 13) + 1)) 164 4) + 1)) J else ((f_X12_peek I).bind fun v39 => f_X12_next_l181 x2 k true (bm_uI (bm_uI (bm_uI I 164 14 (((10 * (I 164 14)) + v39) - 48)) 164 13 (((bm_uI I 164 14 (((10 * (I 164 14)) + v39) - 48)) 164 13) + 1)) 164 4 (((bm_uI (bm_uI I 164 14 (((10 * (I 164 14)) + v39) - 48)) 164 13 (((bm_uI I 164 14 (((10 * (I 164 14)) + v39) - 48)) 164 13) + 1)) 164 4) + 1)) J)) else ((f_X12_peek I).bind fun v41 => (if 3 ≤ (I 164 13) then f_X12_next_l181 x2 k true (bm_uI (bm_uI I 164 13 ((I 164 13) + 1)) 164 4 (((bm_uI I 164 13 ((I 164 13) + 1)) 164 4) + 1)) (bm_uJ J 164 17 ((bm_lshl (J 164 17) 8) ||| v41.toInt64)) else ((f_X12_peek I).bind fun v43 => f_X12_next_l181 x2 k true (bm_uI (bm_uI (bm_uI I 164 14 (((10 * (I 164 14)) + v43) - 48)) 164 13 (((bm_uI I 164 14 (((10 * (I 164 14)) + v43) - 48)) 164 13) + 1)) 164 4 (((bm_uI (bm_uI I 164 14 (((10 * (I 164 14)) + v43) - 48)) 164 13 (((bm_uI I 164 14 (((10 * (I 164 14)) + v43) - 48)) 164 13) + 1)) 164 4) + 1)) (bm_uJ J 164 17 ((bm_lshl (J 164 17) 8) ||| v41.toInt64)))))) else (if 7 ≤ (I 164 13) then (if 3 ≤ (I 164 13) then f_X12_next_l181 x2 k false (bm_uI (bm_uI I 164 13 ((I 164 13) + 1)) 164 4 (((bm_uI I 164 13 ((I 164 13) + 1)) 164 4) + 1)) J else ((f_X12_peek I).bind fun v33 => f_X12_next_l181 x2 k false (bm_uI (bm_uI (bm_uI I 164 14 (((10 * (I 164 14)) + v33) - 48)) 164 13 (((bm_uI I 164 14 (((10 * (I 164 14)) + v33) - 48)) 164 13) + 1)) 164 4 (((bm_uI (bm_uI I 164 14 (((10 * (I 164 14)) + v33) - 48)) 164 13 (((bm_uI I 164 14 (((10 * (I 164 14)) + v33) - 48)) 164 13) + 1)) 164 4) + 1)) J)) else ((f_X12_peek I).bind fun v35 => (if 3 ≤ (I 164 13) then f_X12_next_l181 x2 k false (bm_uI (bm_uI I 164 13 ((I 164 13) + 1)) 164 4 (((bm_uI I 164 13 ((I 164 13) + 1)) 164 4) + 1)) (bm_uJ J 164 17 ((bm_lshl (J 164 17) 8) ||| v35.toInt64)) else ((f_X12_peek I).bind fun v37 => f_X12_next_l181 x2 k false (bm_uI (bm_uI (bm_uI I 164 14 (((10 * (I 164 14)) + v37) - 48)) 164 13 (((bm_uI I 164 14 (((10 * (I 164 14)) + v37) - 48)) 164 13) + 1)) 164 4 (((bm_uI (bm_uI I 164 14 (((10 * (I 164 14)) + v37) - 48)) 164 13 (((bm_uI I 164 14 (((10 * (I 164 14)) + v37) - 48)) 164 13) + 1)) 164 4) + 1)) (bm_uJ J 164 17 ((bm_lshl (J 164 17) 8) ||| v35.toInt64)))))))) else (if 7 ≤ (I 164 13) then (if 3 ≤ (I 164 13) then f_X12_next_l181 x2 k false (bm_uI (bm_uI I 164 13 ((I 164 13) + 1)) 164 4 (((bm_uI I 164 13 ((I 164 13) + 1)) 164 4) + 1)) J else ((f_X12_peek I).bind fun v25 => f_X12_next_l181 x2 k false (bm_uI (bm_uI (bm_uI I 164 14 (((10 * (I 164 14)) + v25) - 48)) 164 13 (((bm_uI I 164 14 (((10 * (I 164 14)) + v25) - 48)) 164 13) + 1)) 164 4 (((bm_uI (bm_uI I 164 14 (((10 * (I 164 14)) + v25) - 48)) 164 13 (((bm_uI I 164 14 (((10 * (I 164 14)) + v25) - 48)) 164 13) + 1)) 164 4) + 1)) J)) else ((f_X12_peek I).bind fun v27 => (if 3 ≤ (I 164 13) then f_X12_next_l181 x2 k false (bm_uI (bm_uI I 164 13 ((I 164 13) + 1)) 164 4 (((bm_uI I 164 13 ((I 164 13) + 1)) 164 4) + 1)) (bm_uJ J 164 17 ((bm_lshl (J 164 17) 8) ||| v27.toInt64)) else ((f_X12_peek I).bind fun v29 => f_X12_next_l181 x2 k false (bm_uI (bm_uI (bm_uI I 164 14 (((10 * (I 164 14)) + v29) - 48)) 164 13 (((bm_uI I 164 14 (((10 * (I 164 14)) + v29) - 48)) 164 13) + 1)) 164 4 (((bm_uI (bm_uI I 164 14 (((10 * (I 164 14)) + v29) - 48)) 164 13 (((bm_uI I 164 14 (((10 * (I 164 14)) + v29) - 48)) 164 13) + 1)) 164 4) + 1)) (bm_uJ J 164 17 ((bm_lshl (J 164 17) 8) ||| v27.toInt64))))))) else some (x3, I, J)))))
set_option maxHeartbeats 4000000 in
set_option maxRecDepth 100000 in
theorem v_X12_next_l181 {lc : bm_L} {d n : Nat} {Q : Option Value → bm_M → Prop} {R : bm_TR} {W : bm_TR} {x2 : Bool} (hN : 181 ≤ n) (hR : bm_RR R) : ∀ (k : Nat) (x3 : Bool) (I : bm_TI) (J : bm_TJ) (r : Bool × bm_TI × bm_TJ), f_X12_next_l181 x2 k x3 I J = some r → (∀ yy, yy = r → bm_V lc m_X12_next (d + 1) n n n 298 [(0, .ref 164), (2, .int (bm_bi x2)), (3, .int (bm_bi yy.1))] [] (yy.2.1, yy.2.2, R, W) Q) → bm_V lc m_X12_next (d + 1) n n n 181 [(0, .ref 164), (2, .int (bm_bi x2)), (3, .int (bm_bi x3))] [] (I, J, R, W) Q := by
  intro k
  induction k with
  | zero => intro x3 I J r h; cases (show (none : Option (Bool × bm_TI × bm_TJ)) = some r from h)
  | succ k ih =>
    intro x3 I J r h K0
    unfold f_X12_next_l181 at h
    refine bv_aload_n dX12_next_181 0 rfl ?_
    obtain ⟨v1, p2, h⟩ := bu_bd h
    refine bw_callV (As := []) hN okL_164 ⟨_, _, rfl⟩ dX12_next_182 mc_12_164 (c_X12_peek (d := d + 0) hN hR p2) rfl rfl (by decide) ?_
    refine bw_callS (As := [.int v1]) dX12_next_185 mc_12_177 (c_X12_isSmall (d := d + 0) hN hR rfl) rfl rfl (by decide) ?_
    refine bw_ifB_ne (b := (f_X12_isSmall v1)) (tgt := 201) dX12_next_188 (by decide) (fun cc => ?_) (fun cc => ?_)
    · replace h := bu_bt h cc
      refine bv_iload_n dX12_next_201 2 rfl ?_
      refine bw_ifB_eq (b := x3) (tgt := 220) dX12_next_202 (by decide) (fun cc => ?_) (fun cc => ?_)
      · replace h := bu_bf h cc
        refine bv_iconst (v := 0) dX12_next_220 (by decide) ?_
        refine bv_istore_n (ls1 := [(0, .ref 164), (2, .int (bm_bi x2)), (3, .int 0)]) dX12_next_221 (by decide) rfl rfl ?_
        refine bv_aload_n dX12_next_222 0 rfl ?_
        refine bz_getI hN okL_164 dX12_next_223 fl_12_171 rfl ?_
        refine bv_bipush (v := 7) dX12_next_226 (by decide) ?_
        refine bv_icmp_ge (tgt := 248) dX12_next_228 (by decide) (fun cc => ?_) (fun cc => ?_)
        · replace h := bu_t h cc
          refine bv_aload_n dX12_next_248 0 rfl ?_
          refine bz_getI hN okL_164 dX12_next_249 fl_12_171 rfl ?_
          refine bv_iconst (v := 3) dX12_next_252 (by decide) ?_
          refine bv_icmp_ge (tgt := 275) dX12_next_253 (by decide) (fun cc => ?_) (fun cc => ?_)
          · replace h := bu_t h cc
            refine bv_aload_n dX12_next_275 0 rfl ?_
            refine bv_dup dX12_next_276 rfl ?_
            refine bz_getI hN okL_164 dX12_next_277 fl_12_171 rfl ?_
            refine bv_iconst (v := 1) dX12_next_280 (by decide) ?_
            refine bv_iadd dX12_next_281 ?_
            refine bz_putI hN okL_164 dX12_next_282 fl_12_171 rfl ?_
            refine bv_aload_n dX12_next_285 0 rfl ?_
            refine bv_dup dX12_next_286 rfl ?_
            refine bz_getI hN okL_164 dX12_next_287 fl_12_21 rfl ?_
            refine bv_iconst (v := 1) dX12_next_290 (by decide) ?_
            refine bv_iadd dX12_next_291 ?_
            refine bz_putI hN okL_164 dX12_next_292 fl_12_21 rfl ?_
            refine bv_goto (tgt := 181) dX12_next_295 (by decide) ?_
            exact ih _ _ _ _ h K0
          · replace h := bu_f h cc
            refine bv_aload_n dX12_next_256 0 rfl ?_
            refine bv_bipush (v := 10) dX12_next_257 (by decide) ?_
            refine bv_aload_n dX12_next_259 0 rfl ?_
            refine bz_getI hN okL_164 dX12_next_260 fl_12_184 rfl ?_
            refine bv_imul dX12_next_263 ?_
            refine bv_aload_n dX12_next_264 0 rfl ?_
            obtain ⟨v3, p4, h⟩ := bu_bd h
            refine bw_callV (As := []) hN okL_164 ⟨_, _, rfl⟩ dX12_next_265 mc_12_164 (c_X12_peek (d := d + 0) hN hR p4) rfl rfl (Nat.le_of_ble_eq_true rfl) ?_
            refine bv_iadd dX12_next_268 ?_
            refine bv_bipush (v := 48) dX12_next_269 (by decide) ?_
            refine bv_isub dX12_next_271 ?_
            refine bz_putI hN okL_164 dX12_next_272 fl_12_184 rfl ?_
            refine bv_aload_n dX12_next_275 0 rfl ?_
            refine bv_dup dX12_next_276 rfl ?_
            refine bz_getI hN okL_164 dX12_next_277 fl_12_171 rfl ?_
            refine bv_iconst (v := 1) dX12_next_280 (by decide) ?_
            refine bv_iadd dX12_next_281 ?_
            refine bz_putI hN okL_164 dX12_next_282 fl_12_171 rfl ?_
            refine bv_aload_n dX12_next_285 0 rfl ?_
            refine bv_dup dX12_next_286 rfl ?_
            refine bz_getI hN okL_164 dX12_next_287 fl_12_21 rfl ?_
            refine bv_iconst (v := 1) dX12_next_290 (by decide) ?_
            refine bv_iadd dX12_next_291 ?_
            refine bz_putI hN okL_164 dX12_next_292 fl_12_21 rfl ?_
            refine bv_goto (tgt := 181) dX12_next_295 (by decide) ?_
            exact ih _ _ _ _ h K0
        · replace h := bu_f h cc
          refine bv_aload_n dX12_next_231 0 rfl ?_
          refine bv_aload_n dX12_next_232 0 rfl ?_
          refine bz_getJ hN okL_164 dX12_next_233 fl_12_187 rfl ?_
          refine bv_bipush (v := 8) dX12_next_236 (by decide) ?_
          refine bv_lshl dX12_next_238 ?_
          refine bv_aload_n dX12_next_239 0 rfl ?_
          obtain ⟨v5, p6, h⟩ := bu_bd h
          refine bw_callV (As := []) hN okL_164 ⟨_, _, rfl⟩ dX12_next_240 mc_12_164 (c_X12_peek (d := d + 0) hN hR p6) rfl rfl (Nat.le_of_ble_eq_true rfl) ?_
          refine bv_i2l dX12_next_243 ?_
          refine bv_lor dX12_next_244 ?_
          refine bz_putJ hN okL_164 dX12_next_245 fl_12_187 rfl ?_
          refine bv_aload_n dX12_next_248 0 rfl ?_
          refine bz_getI hN okL_164 dX12_next_249 fl_12_171 rfl ?_
          refine bv_iconst (v := 3) dX12_next_252 (by decide) ?_
          refine bv_icmp_ge (tgt := 275) dX12_next_253 (by decide) (fun cc => ?_) (fun cc => ?_)
          · replace h := bu_t h cc
            refine bv_aload_n dX12_next_275 0 rfl ?_
            refine bv_dup dX12_next_276 rfl ?_
            refine bz_getI hN okL_164 dX12_next_277 fl_12_171 rfl ?_
            refine bv_iconst (v := 1) dX12_next_280 (by decide) ?_
            refine bv_iadd dX12_next_281 ?_
            refine bz_putI hN okL_164 dX12_next_282 fl_12_171 rfl ?_
            refine bv_aload_n dX12_next_285 0 rfl ?_
            refine bv_dup dX12_next_286 rfl ?_
            refine bz_getI hN okL_164 dX12_next_287 fl_12_21 rfl ?_
            refine bv_iconst (v := 1) dX12_next_290 (by decide) ?_
            refine bv_iadd dX12_next_291 ?_
            refine bz_putI hN okL_164 dX12_next_292 fl_12_21 rfl ?_
            refine bv_goto (tgt := 181) dX12_next_295 (by decide) ?_
            exact ih _ _ _ _ h K0
          · replace h := bu_f h cc
            refine bv_aload_n dX12_next_256 0 rfl ?_
            refine bv_bipush (v := 10) dX12_next_257 (by decide) ?_
            refine bv_aload_n dX12_next_259 0 rfl ?_
            refine bz_getI hN okL_164 dX12_next_260 fl_12_184 rfl ?_
            refine bv_imul dX12_next_263 ?_
            refine bv_aload_n dX12_next_264 0 rfl ?_
            obtain ⟨v7, p8, h⟩ := bu_bd h
            refine bw_callV (As := []) hN okL_164 ⟨_, _, rfl⟩ dX12_next_265 mc_12_164 (c_X12_peek (d := d + 0) hN hR p8) rfl rfl (Nat.le_of_ble_eq_true rfl) ?_
            refine bv_iadd dX12_next_268 ?_
            refine bv_bipush (v := 48) dX12_next_269 (by decide) ?_
            refine bv_isub dX12_next_271 ?_
            refine bz_putI hN okL_164 dX12_next_272 fl_12_184 rfl ?_
            refine bv_aload_n dX12_next_275 0 rfl ?_
            refine bv_dup dX12_next_276 rfl ?_
            refine bz_getI hN okL_164 dX12_next_277 fl_12_171 rfl ?_
            refine bv_iconst (v := 1) dX12_next_280 (by decide) ?_
            refine bv_iadd dX12_next_281 ?_
            refine bz_putI hN okL_164 dX12_next_282 fl_12_171 rfl ?_
            refine bv_aload_n dX12_next_285 0 rfl ?_
            refine bv_dup dX12_next_286 rfl ?_
            refine bz_getI hN okL_164 dX12_next_287 fl_12_21 rfl ?_
            refine bv_iconst (v := 1) dX12_next_290 (by decide) ?_
            refine bv_iadd dX12_next_291 ?_
            refine bz_putI hN okL_164 dX12_next_292 fl_12_21 rfl ?_
            refine bv_goto (tgt := 181) dX12_next_295 (by decide) ?_
            exact ih _ _ _ _ h K0
      · replace h := bu_bt h cc
        refine bv_aload_n dX12_next_205 0 rfl ?_
        obtain ⟨v9, p10, h⟩ := bu_bd h
        refine bw_callV (As := []) hN okL_164 ⟨_, _, rfl⟩ dX12_next_206 mc_12_164 (c_X12_peek (d := d + 0) hN hR p10) rfl rfl (by decide) ?_
        refine bw_callS (As := [.int v9]) dX12_next_209 mc_12_177 (c_X12_isSmall (d := d + 0) hN hR rfl) rfl rfl (by decide) ?_
        refine bv_iload_n dX12_next_212 1 rfl ?_
        refine bv_icmp_ne (tgt := 220) dX12_next_213 (by decide) (fun cc => ?_) (fun cc => ?_)
        · replace h := bu_f h cc
          refine bv_iconst (v := 0) dX12_next_220 (by decide) ?_
          refine bv_istore_n (ls1 := [(0, .ref 164), (2, .int (bm_bi x2)), (3, .int 0)]) dX12_next_221 (by decide) rfl rfl ?_
          refine bv_aload_n dX12_next_222 0 rfl ?_
          refine bz_getI hN okL_164 dX12_next_223 fl_12_171 rfl ?_
          refine bv_bipush (v := 7) dX12_next_226 (by decide) ?_
          refine bv_icmp_ge (tgt := 248) dX12_next_228 (by decide) (fun cc => ?_) (fun cc => ?_)
          · replace h := bu_t h cc
            refine bv_aload_n dX12_next_248 0 rfl ?_
            refine bz_getI hN okL_164 dX12_next_249 fl_12_171 rfl ?_
            refine bv_iconst (v := 3) dX12_next_252 (by decide) ?_
            refine bv_icmp_ge (tgt := 275) dX12_next_253 (by decide) (fun cc => ?_) (fun cc => ?_)
            · replace h := bu_t h cc
              refine bv_aload_n dX12_next_275 0 rfl ?_
              refine bv_dup dX12_next_276 rfl ?_
              refine bz_getI hN okL_164 dX12_next_277 fl_12_171 rfl ?_
              refine bv_iconst (v := 1) dX12_next_280 (by decide) ?_
              refine bv_iadd dX12_next_281 ?_
              refine bz_putI hN okL_164 dX12_next_282 fl_12_171 rfl ?_
              refine bv_aload_n dX12_next_285 0 rfl ?_
              refine bv_dup dX12_next_286 rfl ?_
              refine bz_getI hN okL_164 dX12_next_287 fl_12_21 rfl ?_
              refine bv_iconst (v := 1) dX12_next_290 (by decide) ?_
              refine bv_iadd dX12_next_291 ?_
              refine bz_putI hN okL_164 dX12_next_292 fl_12_21 rfl ?_
              refine bv_goto (tgt := 181) dX12_next_295 (by decide) ?_
              exact ih _ _ _ _ h K0
            · replace h := bu_f h cc
              refine bv_aload_n dX12_next_256 0 rfl ?_
              refine bv_bipush (v := 10) dX12_next_257 (by decide) ?_
              refine bv_aload_n dX12_next_259 0 rfl ?_
              refine bz_getI hN okL_164 dX12_next_260 fl_12_184 rfl ?_
              refine bv_imul dX12_next_263 ?_
              refine bv_aload_n dX12_next_264 0 rfl ?_
              obtain ⟨v11, p12, h⟩ := bu_bd h
              refine bw_callV (As := []) hN okL_164 ⟨_, _, rfl⟩ dX12_next_265 mc_12_164 (c_X12_peek (d := d + 0) hN hR p12) rfl rfl (Nat.le_of_ble_eq_true rfl) ?_
              refine bv_iadd dX12_next_268 ?_
              refine bv_bipush (v := 48) dX12_next_269 (by decide) ?_
              refine bv_isub dX12_next_271 ?_
              refine bz_putI hN okL_164 dX12_next_272 fl_12_184 rfl ?_
              refine bv_aload_n dX12_next_275 0 rfl ?_
              refine bv_dup dX12_next_276 rfl ?_
              refine bz_getI hN okL_164 dX12_next_277 fl_12_171 rfl ?_
              refine bv_iconst (v := 1) dX12_next_280 (by decide) ?_
              refine bv_iadd dX12_next_281 ?_
              refine bz_putI hN okL_164 dX12_next_282 fl_12_171 rfl ?_
              refine bv_aload_n dX12_next_285 0 rfl ?_
              refine bv_dup dX12_next_286 rfl ?_
              refine bz_getI hN okL_164 dX12_next_287 fl_12_21 rfl ?_
              refine bv_iconst (v := 1) dX12_next_290 (by decide) ?_
              refine bv_iadd dX12_next_291 ?_
              refine bz_putI hN okL_164 dX12_next_292 fl_12_21 rfl ?_
              refine bv_goto (tgt := 181) dX12_next_295 (by decide) ?_
              exact ih _ _ _ _ h K0
          · replace h := bu_f h cc
            refine bv_aload_n dX12_next_231 0 rfl ?_
            refine bv_aload_n dX12_next_232 0 rfl ?_
            refine bz_getJ hN okL_164 dX12_next_233 fl_12_187 rfl ?_
            refine bv_bipush (v := 8) dX12_next_236 (by decide) ?_
            refine bv_lshl dX12_next_238 ?_
            refine bv_aload_n dX12_next_239 0 rfl ?_
            obtain ⟨v13, p14, h⟩ := bu_bd h
            refine bw_callV (As := []) hN okL_164 ⟨_, _, rfl⟩ dX12_next_240 mc_12_164 (c_X12_peek (d := d + 0) hN hR p14) rfl rfl (Nat.le_of_ble_eq_true rfl) ?_
            refine bv_i2l dX12_next_243 ?_
            refine bv_lor dX12_next_244 ?_
            refine bz_putJ hN okL_164 dX12_next_245 fl_12_187 rfl ?_
            refine bv_aload_n dX12_next_248 0 rfl ?_
            refine bz_getI hN okL_164 dX12_next_249 fl_12_171 rfl ?_
            refine bv_iconst (v := 3) dX12_next_252 (by decide) ?_
            refine bv_icmp_ge (tgt := 275) dX12_next_253 (by decide) (fun cc => ?_) (fun cc => ?_)
            · replace h := bu_t h cc
              refine bv_aload_n dX12_next_275 0 rfl ?_
              refine bv_dup dX12_next_276 rfl ?_
              refine bz_getI hN okL_164 dX12_next_277 fl_12_171 rfl ?_
              refine bv_iconst (v := 1) dX12_next_280 (by decide) ?_
              refine bv_iadd dX12_next_281 ?_
              refine bz_putI hN okL_164 dX12_next_282 fl_12_171 rfl ?_
              refine bv_aload_n dX12_next_285 0 rfl ?_
              refine bv_dup dX12_next_286 rfl ?_
              refine bz_getI hN okL_164 dX12_next_287 fl_12_21 rfl ?_
              refine bv_iconst (v := 1) dX12_next_290 (by decide) ?_
              refine bv_iadd dX12_next_291 ?_
              refine bz_putI hN okL_164 dX12_next_292 fl_12_21 rfl ?_
              refine bv_goto (tgt := 181) dX12_next_295 (by decide) ?_
              exact ih _ _ _ _ h K0
            · replace h := bu_f h cc
              refine bv_aload_n dX12_next_256 0 rfl ?_
              refine bv_bipush (v := 10) dX12_next_257 (by decide) ?_
              refine bv_aload_n dX12_next_259 0 rfl ?_
              refine bz_getI hN okL_164 dX12_next_260 fl_12_184 rfl ?_
              refine bv_imul dX12_next_263 ?_
              refine bv_aload_n dX12_next_264 0 rfl ?_
              obtain ⟨v15, p16, h⟩ := bu_bd h
              refine bw_callV (As := []) hN okL_164 ⟨_, _, rfl⟩ dX12_next_265 mc_12_164 (c_X12_peek (d := d + 0) hN hR p16) rfl rfl (Nat.le_of_ble_eq_true rfl) ?_
              refine bv_iadd dX12_next_268 ?_
              refine bv_bipush (v := 48) dX12_next_269 (by decide) ?_
              refine bv_isub dX12_next_271 ?_
              refine bz_putI hN okL_164 dX12_next_272 fl_12_184 rfl ?_
              refine bv_aload_n dX12_next_275 0 rfl ?_
              refine bv_dup dX12_next_276 rfl ?_
              refine bz_getI hN okL_164 dX12_next_277 fl_12_171 rfl ?_
              refine bv_iconst (v := 1) dX12_next_280 (by decide) ?_
              refine bv_iadd dX12_next_281 ?_
              refine bz_putI hN okL_164 dX12_next_282 fl_12_171 rfl ?_
              refine bv_aload_n dX12_next_285 0 rfl ?_
              refine bv_dup dX12_next_286 rfl ?_
              refine bz_getI hN okL_164 dX12_next_287 fl_12_21 rfl ?_
              refine bv_iconst (v := 1) dX12_next_290 (by decide) ?_
              refine bv_iadd dX12_next_291 ?_
              refine bz_putI hN okL_164 dX12_next_292 fl_12_21 rfl ?_
              refine bv_goto (tgt := 181) dX12_next_295 (by decide) ?_
              exact ih _ _ _ _ h K0
        · replace h := bu_t h cc
          refine bv_iconst (v := 1) dX12_next_216 (by decide) ?_
          refine bv_goto (tgt := 221) dX12_next_217 (by decide) ?_
          refine bv_istore_n (ls1 := [(0, .ref 164), (2, .int (bm_bi x2)), (3, .int 1)]) dX12_next_221 (by decide) rfl rfl ?_
          refine bv_aload_n dX12_next_222 0 rfl ?_
          refine bz_getI hN okL_164 dX12_next_223 fl_12_171 rfl ?_
          refine bv_bipush (v := 7) dX12_next_226 (by decide) ?_
          refine bv_icmp_ge (tgt := 248) dX12_next_228 (by decide) (fun cc => ?_) (fun cc => ?_)
          · replace h := bu_t h cc
            refine bv_aload_n dX12_next_248 0 rfl ?_
            refine bz_getI hN okL_164 dX12_next_249 fl_12_171 rfl ?_
            refine bv_iconst (v := 3) dX12_next_252 (by decide) ?_
            refine bv_icmp_ge (tgt := 275) dX12_next_253 (by decide) (fun cc => ?_) (fun cc => ?_)
            · replace h := bu_t h cc
              refine bv_aload_n dX12_next_275 0 rfl ?_
              refine bv_dup dX12_next_276 rfl ?_
              refine bz_getI hN okL_164 dX12_next_277 fl_12_171 rfl ?_
              refine bv_iconst (v := 1) dX12_next_280 (by decide) ?_
              refine bv_iadd dX12_next_281 ?_
              refine bz_putI hN okL_164 dX12_next_282 fl_12_171 rfl ?_
              refine bv_aload_n dX12_next_285 0 rfl ?_
              refine bv_dup dX12_next_286 rfl ?_
              refine bz_getI hN okL_164 dX12_next_287 fl_12_21 rfl ?_
              refine bv_iconst (v := 1) dX12_next_290 (by decide) ?_
              refine bv_iadd dX12_next_291 ?_
              refine bz_putI hN okL_164 dX12_next_292 fl_12_21 rfl ?_
              refine bv_goto (tgt := 181) dX12_next_295 (by decide) ?_
              exact ih _ _ _ _ h K0
            · replace h := bu_f h cc
              refine bv_aload_n dX12_next_256 0 rfl ?_
              refine bv_bipush (v := 10) dX12_next_257 (by decide) ?_
              refine bv_aload_n dX12_next_259 0 rfl ?_
              refine bz_getI hN okL_164 dX12_next_260 fl_12_184 rfl ?_
              refine bv_imul dX12_next_263 ?_
              refine bv_aload_n dX12_next_264 0 rfl ?_
              obtain ⟨v17, p18, h⟩ := bu_bd h
              refine bw_callV (As := []) hN okL_164 ⟨_, _, rfl⟩ dX12_next_265 mc_12_164 (c_X12_peek (d := d + 0) hN hR p18) rfl rfl (Nat.le_of_ble_eq_true rfl) ?_
              refine bv_iadd dX12_next_268 ?_
              refine bv_bipush (v := 48) dX12_next_269 (by decide) ?_
              refine bv_isub dX12_next_271 ?_
              refine bz_putI hN okL_164 dX12_next_272 fl_12_184 rfl ?_
              refine bv_aload_n dX12_next_275 0 rfl ?_
              refine bv_dup dX12_next_276 rfl ?_
              refine bz_getI hN okL_164 dX12_next_277 fl_12_171 rfl ?_
              refine bv_iconst (v := 1) dX12_next_280 (by decide) ?_
              refine bv_iadd dX12_next_281 ?_
              refine bz_putI hN okL_164 dX12_next_282 fl_12_171 rfl ?_
              refine bv_aload_n dX12_next_285 0 rfl ?_
              refine bv_dup dX12_next_286 rfl ?_
              refine bz_getI hN okL_164 dX12_next_287 fl_12_21 rfl ?_
              refine bv_iconst (v := 1) dX12_next_290 (by decide) ?_
              refine bv_iadd dX12_next_291 ?_
              refine bz_putI hN okL_164 dX12_next_292 fl_12_21 rfl ?_
              refine bv_goto (tgt := 181) dX12_next_295 (by decide) ?_
              exact ih _ _ _ _ h K0
          · replace h := bu_f h cc
            refine bv_aload_n dX12_next_231 0 rfl ?_
            refine bv_aload_n dX12_next_232 0 rfl ?_
            refine bz_getJ hN okL_164 dX12_next_233 fl_12_187 rfl ?_
            refine bv_bipush (v := 8) dX12_next_236 (by decide) ?_
            refine bv_lshl dX12_next_238 ?_
            refine bv_aload_n dX12_next_239 0 rfl ?_
            obtain ⟨v19, p20, h⟩ := bu_bd h
            refine bw_callV (As := []) hN okL_164 ⟨_, _, rfl⟩ dX12_next_240 mc_12_164 (c_X12_peek (d := d + 0) hN hR p20) rfl rfl (Nat.le_of_ble_eq_true rfl) ?_
            refine bv_i2l dX12_next_243 ?_
            refine bv_lor dX12_next_244 ?_
            refine bz_putJ hN okL_164 dX12_next_245 fl_12_187 rfl ?_
            refine bv_aload_n dX12_next_248 0 rfl ?_
            refine bz_getI hN okL_164 dX12_next_249 fl_12_171 rfl ?_
            refine bv_iconst (v := 3) dX12_next_252 (by decide) ?_
            refine bv_icmp_ge (tgt := 275) dX12_next_253 (by decide) (fun cc => ?_) (fun cc => ?_)
            · replace h := bu_t h cc
              refine bv_aload_n dX12_next_275 0 rfl ?_
              refine bv_dup dX12_next_276 rfl ?_
              refine bz_getI hN okL_164 dX12_next_277 fl_12_171 rfl ?_
              refine bv_iconst (v := 1) dX12_next_280 (by decide) ?_
              refine bv_iadd dX12_next_281 ?_
              refine bz_putI hN okL_164 dX12_next_282 fl_12_171 rfl ?_
              refine bv_aload_n dX12_next_285 0 rfl ?_
              refine bv_dup dX12_next_286 rfl ?_
              refine bz_getI hN okL_164 dX12_next_287 fl_12_21 rfl ?_
              refine bv_iconst (v := 1) dX12_next_290 (by decide) ?_
              refine bv_iadd dX12_next_291 ?_
              refine bz_putI hN okL_164 dX12_next_292 fl_12_21 rfl ?_
              refine bv_goto (tgt := 181) dX12_next_295 (by decide) ?_
              exact ih _ _ _ _ h K0
            · replace h := bu_f h cc
              refine bv_aload_n dX12_next_256 0 rfl ?_
              refine bv_bipush (v := 10) dX12_next_257 (by decide) ?_
              refine bv_aload_n dX12_next_259 0 rfl ?_
              refine bz_getI hN okL_164 dX12_next_260 fl_12_184 rfl ?_
              refine bv_imul dX12_next_263 ?_
              refine bv_aload_n dX12_next_264 0 rfl ?_
              obtain ⟨v21, p22, h⟩ := bu_bd h
              refine bw_callV (As := []) hN okL_164 ⟨_, _, rfl⟩ dX12_next_265 mc_12_164 (c_X12_peek (d := d + 0) hN hR p22) rfl rfl (Nat.le_of_ble_eq_true rfl) ?_
              refine bv_iadd dX12_next_268 ?_
              refine bv_bipush (v := 48) dX12_next_269 (by decide) ?_
              refine bv_isub dX12_next_271 ?_
              refine bz_putI hN okL_164 dX12_next_272 fl_12_184 rfl ?_
              refine bv_aload_n dX12_next_275 0 rfl ?_
              refine bv_dup dX12_next_276 rfl ?_
              refine bz_getI hN okL_164 dX12_next_277 fl_12_171 rfl ?_
              refine bv_iconst (v := 1) dX12_next_280 (by decide) ?_
              refine bv_iadd dX12_next_281 ?_
              refine bz_putI hN okL_164 dX12_next_282 fl_12_171 rfl ?_
              refine bv_aload_n dX12_next_285 0 rfl ?_
              refine bv_dup dX12_next_286 rfl ?_
              refine bz_getI hN okL_164 dX12_next_287 fl_12_21 rfl ?_
              refine bv_iconst (v := 1) dX12_next_290 (by decide) ?_
              refine bv_iadd dX12_next_291 ?_
              refine bz_putI hN okL_164 dX12_next_292 fl_12_21 rfl ?_
              refine bv_goto (tgt := 181) dX12_next_295 (by decide) ?_
              exact ih _ _ _ _ h K0
    · replace h := bu_bf h cc
      refine bv_aload_n dX12_next_191 0 rfl ?_
      obtain ⟨v23, p24, h⟩ := bu_bd h
      refine bw_callV (As := []) hN okL_164 ⟨_, _, rfl⟩ dX12_next_192 mc_12_164 (c_X12_peek (d := d + 0) hN hR p24) rfl rfl (by decide) ?_
      refine bw_callS (As := [.int v23]) dX12_next_195 mc_12_181 (c_X12_isDigit (d := d + 0) hN hR rfl) rfl rfl (by decide) ?_
      refine bw_ifB_eq (b := (f_X12_isDigit v23)) (tgt := 298) dX12_next_198 (by decide) (fun cc => ?_) (fun cc => ?_)
      · replace h := bu_bf h cc
        obtain rfl := Option.some.inj h
        exact K0 _ rfl
      · replace h := bu_bt h cc
        refine bv_iload_n dX12_next_201 2 rfl ?_
        refine bw_ifB_eq (b := x3) (tgt := 220) dX12_next_202 (by decide) (fun cc => ?_) (fun cc => ?_)
        · replace h := bu_bf h cc
          refine bv_iconst (v := 0) dX12_next_220 (by decide) ?_
          refine bv_istore_n (ls1 := [(0, .ref 164), (2, .int (bm_bi x2)), (3, .int 0)]) dX12_next_221 (by decide) rfl rfl ?_
          refine bv_aload_n dX12_next_222 0 rfl ?_
          refine bz_getI hN okL_164 dX12_next_223 fl_12_171 rfl ?_
          refine bv_bipush (v := 7) dX12_next_226 (by decide) ?_
          refine bv_icmp_ge (tgt := 248) dX12_next_228 (by decide) (fun cc => ?_) (fun cc => ?_)
          · replace h := bu_t h cc
            refine bv_aload_n dX12_next_248 0 rfl ?_
            refine bz_getI hN okL_164 dX12_next_249 fl_12_171 rfl ?_
            refine bv_iconst (v := 3) dX12_next_252 (by decide) ?_
            refine bv_icmp_ge (tgt := 275) dX12_next_253 (by decide) (fun cc => ?_) (fun cc => ?_)
            · replace h := bu_t h cc
              refine bv_aload_n dX12_next_275 0 rfl ?_
              refine bv_dup dX12_next_276 rfl ?_
              refine bz_getI hN okL_164 dX12_next_277 fl_12_171 rfl ?_
              refine bv_iconst (v := 1) dX12_next_280 (by decide) ?_
              refine bv_iadd dX12_next_281 ?_
              refine bz_putI hN okL_164 dX12_next_282 fl_12_171 rfl ?_
              refine bv_aload_n dX12_next_285 0 rfl ?_
              refine bv_dup dX12_next_286 rfl ?_
              refine bz_getI hN okL_164 dX12_next_287 fl_12_21 rfl ?_
              refine bv_iconst (v := 1) dX12_next_290 (by decide) ?_
              refine bv_iadd dX12_next_291 ?_
              refine bz_putI hN okL_164 dX12_next_292 fl_12_21 rfl ?_
              refine bv_goto (tgt := 181) dX12_next_295 (by decide) ?_
              exact ih _ _ _ _ h K0
            · replace h := bu_f h cc
              refine bv_aload_n dX12_next_256 0 rfl ?_
              refine bv_bipush (v := 10) dX12_next_257 (by decide) ?_
              refine bv_aload_n dX12_next_259 0 rfl ?_
              refine bz_getI hN okL_164 dX12_next_260 fl_12_184 rfl ?_
              refine bv_imul dX12_next_263 ?_
              refine bv_aload_n dX12_next_264 0 rfl ?_
              obtain ⟨v25, p26, h⟩ := bu_bd h
              refine bw_callV (As := []) hN okL_164 ⟨_, _, rfl⟩ dX12_next_265 mc_12_164 (c_X12_peek (d := d + 0) hN hR p26) rfl rfl (Nat.le_of_ble_eq_true rfl) ?_
              refine bv_iadd dX12_next_268 ?_
              refine bv_bipush (v := 48) dX12_next_269 (by decide) ?_
              refine bv_isub dX12_next_271 ?_
              refine bz_putI hN okL_164 dX12_next_272 fl_12_184 rfl ?_
              refine bv_aload_n dX12_next_275 0 rfl ?_
              refine bv_dup dX12_next_276 rfl ?_
              refine bz_getI hN okL_164 dX12_next_277 fl_12_171 rfl ?_
              refine bv_iconst (v := 1) dX12_next_280 (by decide) ?_
              refine bv_iadd dX12_next_281 ?_
              refine bz_putI hN okL_164 dX12_next_282 fl_12_171 rfl ?_
              refine bv_aload_n dX12_next_285 0 rfl ?_
              refine bv_dup dX12_next_286 rfl ?_
              refine bz_getI hN okL_164 dX12_next_287 fl_12_21 rfl ?_
              refine bv_iconst (v := 1) dX12_next_290 (by decide) ?_
              refine bv_iadd dX12_next_291 ?_
              refine bz_putI hN okL_164 dX12_next_292 fl_12_21 rfl ?_
              refine bv_goto (tgt := 181) dX12_next_295 (by decide) ?_
              exact ih _ _ _ _ h K0
          · replace h := bu_f h cc
            refine bv_aload_n dX12_next_231 0 rfl ?_
            refine bv_aload_n dX12_next_232 0 rfl ?_
            refine bz_getJ hN okL_164 dX12_next_233 fl_12_187 rfl ?_
            refine bv_bipush (v := 8) dX12_next_236 (by decide) ?_
            refine bv_lshl dX12_next_238 ?_
            refine bv_aload_n dX12_next_239 0 rfl ?_
            obtain ⟨v27, p28, h⟩ := bu_bd h
            refine bw_callV (As := []) hN okL_164 ⟨_, _, rfl⟩ dX12_next_240 mc_12_164 (c_X12_peek (d := d + 0) hN hR p28) rfl rfl (Nat.le_of_ble_eq_true rfl) ?_
            refine bv_i2l dX12_next_243 ?_
            refine bv_lor dX12_next_244 ?_
            refine bz_putJ hN okL_164 dX12_next_245 fl_12_187 rfl ?_
            refine bv_aload_n dX12_next_248 0 rfl ?_
            refine bz_getI hN okL_164 dX12_next_249 fl_12_171 rfl ?_
            refine bv_iconst (v := 3) dX12_next_252 (by decide) ?_
            refine bv_icmp_ge (tgt := 275) dX12_next_253 (by decide) (fun cc => ?_) (fun cc => ?_)
            · replace h := bu_t h cc
              refine bv_aload_n dX12_next_275 0 rfl ?_
              refine bv_dup dX12_next_276 rfl ?_
              refine bz_getI hN okL_164 dX12_next_277 fl_12_171 rfl ?_
              refine bv_iconst (v := 1) dX12_next_280 (by decide) ?_
              refine bv_iadd dX12_next_281 ?_
              refine bz_putI hN okL_164 dX12_next_282 fl_12_171 rfl ?_
              refine bv_aload_n dX12_next_285 0 rfl ?_
              refine bv_dup dX12_next_286 rfl ?_
              refine bz_getI hN okL_164 dX12_next_287 fl_12_21 rfl ?_
              refine bv_iconst (v := 1) dX12_next_290 (by decide) ?_
              refine bv_iadd dX12_next_291 ?_
              refine bz_putI hN okL_164 dX12_next_292 fl_12_21 rfl ?_
              refine bv_goto (tgt := 181) dX12_next_295 (by decide) ?_
              exact ih _ _ _ _ h K0
            · replace h := bu_f h cc
              refine bv_aload_n dX12_next_256 0 rfl ?_
              refine bv_bipush (v := 10) dX12_next_257 (by decide) ?_
              refine bv_aload_n dX12_next_259 0 rfl ?_
              refine bz_getI hN okL_164 dX12_next_260 fl_12_184 rfl ?_
              refine bv_imul dX12_next_263 ?_
              refine bv_aload_n dX12_next_264 0 rfl ?_
              obtain ⟨v29, p30, h⟩ := bu_bd h
              refine bw_callV (As := []) hN okL_164 ⟨_, _, rfl⟩ dX12_next_265 mc_12_164 (c_X12_peek (d := d + 0) hN hR p30) rfl rfl (Nat.le_of_ble_eq_true rfl) ?_
              refine bv_iadd dX12_next_268 ?_
              refine bv_bipush (v := 48) dX12_next_269 (by decide) ?_
              refine bv_isub dX12_next_271 ?_
              refine bz_putI hN okL_164 dX12_next_272 fl_12_184 rfl ?_
              refine bv_aload_n dX12_next_275 0 rfl ?_
              refine bv_dup dX12_next_276 rfl ?_
              refine bz_getI hN okL_164 dX12_next_277 fl_12_171 rfl ?_
              refine bv_iconst (v := 1) dX12_next_280 (by decide) ?_
              refine bv_iadd dX12_next_281 ?_
              refine bz_putI hN okL_164 dX12_next_282 fl_12_171 rfl ?_
              refine bv_aload_n dX12_next_285 0 rfl ?_
              refine bv_dup dX12_next_286 rfl ?_
              refine bz_getI hN okL_164 dX12_next_287 fl_12_21 rfl ?_
              refine bv_iconst (v := 1) dX12_next_290 (by decide) ?_
              refine bv_iadd dX12_next_291 ?_
              refine bz_putI hN okL_164 dX12_next_292 fl_12_21 rfl ?_
              refine bv_goto (tgt := 181) dX12_next_295 (by decide) ?_
              exact ih _ _ _ _ h K0
        · replace h := bu_bt h cc
          refine bv_aload_n dX12_next_205 0 rfl ?_
          obtain ⟨v31, p32, h⟩ := bu_bd h
          refine bw_callV (As := []) hN okL_164 ⟨_, _, rfl⟩ dX12_next_206 mc_12_164 (c_X12_peek (d := d + 0) hN hR p32) rfl rfl (by decide) ?_
          refine bw_callS (As := [.int v31]) dX12_next_209 mc_12_177 (c_X12_isSmall (d := d + 0) hN hR rfl) rfl rfl (by decide) ?_
          refine bv_iload_n dX12_next_212 1 rfl ?_
          refine bv_icmp_ne (tgt := 220) dX12_next_213 (by decide) (fun cc => ?_) (fun cc => ?_)
          · replace h := bu_f h cc
            refine bv_iconst (v := 0) dX12_next_220 (by decide) ?_
            refine bv_istore_n (ls1 := [(0, .ref 164), (2, .int (bm_bi x2)), (3, .int 0)]) dX12_next_221 (by decide) rfl rfl ?_
            refine bv_aload_n dX12_next_222 0 rfl ?_
            refine bz_getI hN okL_164 dX12_next_223 fl_12_171 rfl ?_
            refine bv_bipush (v := 7) dX12_next_226 (by decide) ?_
            refine bv_icmp_ge (tgt := 248) dX12_next_228 (by decide) (fun cc => ?_) (fun cc => ?_)
            · replace h := bu_t h cc
              refine bv_aload_n dX12_next_248 0 rfl ?_
              refine bz_getI hN okL_164 dX12_next_249 fl_12_171 rfl ?_
              refine bv_iconst (v := 3) dX12_next_252 (by decide) ?_
              refine bv_icmp_ge (tgt := 275) dX12_next_253 (by decide) (fun cc => ?_) (fun cc => ?_)
              · replace h := bu_t h cc
                refine bv_aload_n dX12_next_275 0 rfl ?_
                refine bv_dup dX12_next_276 rfl ?_
                refine bz_getI hN okL_164 dX12_next_277 fl_12_171 rfl ?_
                refine bv_iconst (v := 1) dX12_next_280 (by decide) ?_
                refine bv_iadd dX12_next_281 ?_
                refine bz_putI hN okL_164 dX12_next_282 fl_12_171 rfl ?_
                refine bv_aload_n dX12_next_285 0 rfl ?_
                refine bv_dup dX12_next_286 rfl ?_
                refine bz_getI hN okL_164 dX12_next_287 fl_12_21 rfl ?_
                refine bv_iconst (v := 1) dX12_next_290 (by decide) ?_
                refine bv_iadd dX12_next_291 ?_
                refine bz_putI hN okL_164 dX12_next_292 fl_12_21 rfl ?_
                refine bv_goto (tgt := 181) dX12_next_295 (by decide) ?_
                exact ih _ _ _ _ h K0
              · replace h := bu_f h cc
                refine bv_aload_n dX12_next_256 0 rfl ?_
                refine bv_bipush (v := 10) dX12_next_257 (by decide) ?_
                refine bv_aload_n dX12_next_259 0 rfl ?_
                refine bz_getI hN okL_164 dX12_next_260 fl_12_184 rfl ?_
                refine bv_imul dX12_next_263 ?_
                refine bv_aload_n dX12_next_264 0 rfl ?_
                obtain ⟨v33, p34, h⟩ := bu_bd h
                refine bw_callV (As := []) hN okL_164 ⟨_, _, rfl⟩ dX12_next_265 mc_12_164 (c_X12_peek (d := d + 0) hN hR p34) rfl rfl (Nat.le_of_ble_eq_true rfl) ?_
                refine bv_iadd dX12_next_268 ?_
                refine bv_bipush (v := 48) dX12_next_269 (by decide) ?_
                refine bv_isub dX12_next_271 ?_
                refine bz_putI hN okL_164 dX12_next_272 fl_12_184 rfl ?_
                refine bv_aload_n dX12_next_275 0 rfl ?_
                refine bv_dup dX12_next_276 rfl ?_
                refine bz_getI hN okL_164 dX12_next_277 fl_12_171 rfl ?_
                refine bv_iconst (v := 1) dX12_next_280 (by decide) ?_
                refine bv_iadd dX12_next_281 ?_
                refine bz_putI hN okL_164 dX12_next_282 fl_12_171 rfl ?_
                refine bv_aload_n dX12_next_285 0 rfl ?_
                refine bv_dup dX12_next_286 rfl ?_
                refine bz_getI hN okL_164 dX12_next_287 fl_12_21 rfl ?_
                refine bv_iconst (v := 1) dX12_next_290 (by decide) ?_
                refine bv_iadd dX12_next_291 ?_
                refine bz_putI hN okL_164 dX12_next_292 fl_12_21 rfl ?_
                refine bv_goto (tgt := 181) dX12_next_295 (by decide) ?_
                exact ih _ _ _ _ h K0
            · replace h := bu_f h cc
              refine bv_aload_n dX12_next_231 0 rfl ?_
              refine bv_aload_n dX12_next_232 0 rfl ?_
              refine bz_getJ hN okL_164 dX12_next_233 fl_12_187 rfl ?_
              refine bv_bipush (v := 8) dX12_next_236 (by decide) ?_
              refine bv_lshl dX12_next_238 ?_
              refine bv_aload_n dX12_next_239 0 rfl ?_
              obtain ⟨v35, p36, h⟩ := bu_bd h
              refine bw_callV (As := []) hN okL_164 ⟨_, _, rfl⟩ dX12_next_240 mc_12_164 (c_X12_peek (d := d + 0) hN hR p36) rfl rfl (Nat.le_of_ble_eq_true rfl) ?_
              refine bv_i2l dX12_next_243 ?_
              refine bv_lor dX12_next_244 ?_
              refine bz_putJ hN okL_164 dX12_next_245 fl_12_187 rfl ?_
              refine bv_aload_n dX12_next_248 0 rfl ?_
              refine bz_getI hN okL_164 dX12_next_249 fl_12_171 rfl ?_
              refine bv_iconst (v := 3) dX12_next_252 (by decide) ?_
              refine bv_icmp_ge (tgt := 275) dX12_next_253 (by decide) (fun cc => ?_) (fun cc => ?_)
              · replace h := bu_t h cc
                refine bv_aload_n dX12_next_275 0 rfl ?_
                refine bv_dup dX12_next_276 rfl ?_
                refine bz_getI hN okL_164 dX12_next_277 fl_12_171 rfl ?_
                refine bv_iconst (v := 1) dX12_next_280 (by decide) ?_
                refine bv_iadd dX12_next_281 ?_
                refine bz_putI hN okL_164 dX12_next_282 fl_12_171 rfl ?_
                refine bv_aload_n dX12_next_285 0 rfl ?_
                refine bv_dup dX12_next_286 rfl ?_
                refine bz_getI hN okL_164 dX12_next_287 fl_12_21 rfl ?_
                refine bv_iconst (v := 1) dX12_next_290 (by decide) ?_
                refine bv_iadd dX12_next_291 ?_
                refine bz_putI hN okL_164 dX12_next_292 fl_12_21 rfl ?_
                refine bv_goto (tgt := 181) dX12_next_295 (by decide) ?_
                exact ih _ _ _ _ h K0
              · replace h := bu_f h cc
                refine bv_aload_n dX12_next_256 0 rfl ?_
                refine bv_bipush (v := 10) dX12_next_257 (by decide) ?_
                refine bv_aload_n dX12_next_259 0 rfl ?_
                refine bz_getI hN okL_164 dX12_next_260 fl_12_184 rfl ?_
                refine bv_imul dX12_next_263 ?_
                refine bv_aload_n dX12_next_264 0 rfl ?_
                obtain ⟨v37, p38, h⟩ := bu_bd h
                refine bw_callV (As := []) hN okL_164 ⟨_, _, rfl⟩ dX12_next_265 mc_12_164 (c_X12_peek (d := d + 0) hN hR p38) rfl rfl (Nat.le_of_ble_eq_true rfl) ?_
                refine bv_iadd dX12_next_268 ?_
                refine bv_bipush (v := 48) dX12_next_269 (by decide) ?_
                refine bv_isub dX12_next_271 ?_
                refine bz_putI hN okL_164 dX12_next_272 fl_12_184 rfl ?_
                refine bv_aload_n dX12_next_275 0 rfl ?_
                refine bv_dup dX12_next_276 rfl ?_
                refine bz_getI hN okL_164 dX12_next_277 fl_12_171 rfl ?_
                refine bv_iconst (v := 1) dX12_next_280 (by decide) ?_
                refine bv_iadd dX12_next_281 ?_
                refine bz_putI hN okL_164 dX12_next_282 fl_12_171 rfl ?_
                refine bv_aload_n dX12_next_285 0 rfl ?_
                refine bv_dup dX12_next_286 rfl ?_
                refine bz_getI hN okL_164 dX12_next_287 fl_12_21 rfl ?_
                refine bv_iconst (v := 1) dX12_next_290 (by decide) ?_
                refine bv_iadd dX12_next_291 ?_
                refine bz_putI hN okL_164 dX12_next_292 fl_12_21 rfl ?_
                refine bv_goto (tgt := 181) dX12_next_295 (by decide) ?_
                exact ih _ _ _ _ h K0
          · replace h := bu_t h cc
            refine bv_iconst (v := 1) dX12_next_216 (by decide) ?_
            refine bv_goto (tgt := 221) dX12_next_217 (by decide) ?_
            refine bv_istore_n (ls1 := [(0, .ref 164), (2, .int (bm_bi x2)), (3, .int 1)]) dX12_next_221 (by decide) rfl rfl ?_
            refine bv_aload_n dX12_next_222 0 rfl ?_
            refine bz_getI hN okL_164 dX12_next_223 fl_12_171 rfl ?_
            refine bv_bipush (v := 7) dX12_next_226 (by decide) ?_
            refine bv_icmp_ge (tgt := 248) dX12_next_228 (by decide) (fun cc => ?_) (fun cc => ?_)
            · replace h := bu_t h cc
              refine bv_aload_n dX12_next_248 0 rfl ?_
              refine bz_getI hN okL_164 dX12_next_249 fl_12_171 rfl ?_
              refine bv_iconst (v := 3) dX12_next_252 (by decide) ?_
              refine bv_icmp_ge (tgt := 275) dX12_next_253 (by decide) (fun cc => ?_) (fun cc => ?_)
              · replace h := bu_t h cc
                refine bv_aload_n dX12_next_275 0 rfl ?_
                refine bv_dup dX12_next_276 rfl ?_
                refine bz_getI hN okL_164 dX12_next_277 fl_12_171 rfl ?_
                refine bv_iconst (v := 1) dX12_next_280 (by decide) ?_
                refine bv_iadd dX12_next_281 ?_
                refine bz_putI hN okL_164 dX12_next_282 fl_12_171 rfl ?_
                refine bv_aload_n dX12_next_285 0 rfl ?_
                refine bv_dup dX12_next_286 rfl ?_
                refine bz_getI hN okL_164 dX12_next_287 fl_12_21 rfl ?_
                refine bv_iconst (v := 1) dX12_next_290 (by decide) ?_
                refine bv_iadd dX12_next_291 ?_
                refine bz_putI hN okL_164 dX12_next_292 fl_12_21 rfl ?_
                refine bv_goto (tgt := 181) dX12_next_295 (by decide) ?_
                exact ih _ _ _ _ h K0
              · replace h := bu_f h cc
                refine bv_aload_n dX12_next_256 0 rfl ?_
                refine bv_bipush (v := 10) dX12_next_257 (by decide) ?_
                refine bv_aload_n dX12_next_259 0 rfl ?_
                refine bz_getI hN okL_164 dX12_next_260 fl_12_184 rfl ?_
                refine bv_imul dX12_next_263 ?_
                refine bv_aload_n dX12_next_264 0 rfl ?_
                obtain ⟨v39, p40, h⟩ := bu_bd h
                refine bw_callV (As := []) hN okL_164 ⟨_, _, rfl⟩ dX12_next_265 mc_12_164 (c_X12_peek (d := d + 0) hN hR p40) rfl rfl (Nat.le_of_ble_eq_true rfl) ?_
                refine bv_iadd dX12_next_268 ?_
                refine bv_bipush (v := 48) dX12_next_269 (by decide) ?_
                refine bv_isub dX12_next_271 ?_
                refine bz_putI hN okL_164 dX12_next_272 fl_12_184 rfl ?_
                refine bv_aload_n dX12_next_275 0 rfl ?_
                refine bv_dup dX12_next_276 rfl ?_
                refine bz_getI hN okL_164 dX12_next_277 fl_12_171 rfl ?_
                refine bv_iconst (v := 1) dX12_next_280 (by decide) ?_
                refine bv_iadd dX12_next_281 ?_
                refine bz_putI hN okL_164 dX12_next_282 fl_12_171 rfl ?_
                refine bv_aload_n dX12_next_285 0 rfl ?_
                refine bv_dup dX12_next_286 rfl ?_
                refine bz_getI hN okL_164 dX12_next_287 fl_12_21 rfl ?_
                refine bv_iconst (v := 1) dX12_next_290 (by decide) ?_
                refine bv_iadd dX12_next_291 ?_
                refine bz_putI hN okL_164 dX12_next_292 fl_12_21 rfl ?_
                refine bv_goto (tgt := 181) dX12_next_295 (by decide) ?_
                exact ih _ _ _ _ h K0
            · replace h := bu_f h cc
              refine bv_aload_n dX12_next_231 0 rfl ?_
              refine bv_aload_n dX12_next_232 0 rfl ?_
              refine bz_getJ hN okL_164 dX12_next_233 fl_12_187 rfl ?_
              refine bv_bipush (v := 8) dX12_next_236 (by decide) ?_
              refine bv_lshl dX12_next_238 ?_
              refine bv_aload_n dX12_next_239 0 rfl ?_
              obtain ⟨v41, p42, h⟩ := bu_bd h
              refine bw_callV (As := []) hN okL_164 ⟨_, _, rfl⟩ dX12_next_240 mc_12_164 (c_X12_peek (d := d + 0) hN hR p42) rfl rfl (Nat.le_of_ble_eq_true rfl) ?_
              refine bv_i2l dX12_next_243 ?_
              refine bv_lor dX12_next_244 ?_
              refine bz_putJ hN okL_164 dX12_next_245 fl_12_187 rfl ?_
              refine bv_aload_n dX12_next_248 0 rfl ?_
              refine bz_getI hN okL_164 dX12_next_249 fl_12_171 rfl ?_
              refine bv_iconst (v := 3) dX12_next_252 (by decide) ?_
              refine bv_icmp_ge (tgt := 275) dX12_next_253 (by decide) (fun cc => ?_) (fun cc => ?_)
              · replace h := bu_t h cc
                refine bv_aload_n dX12_next_275 0 rfl ?_
                refine bv_dup dX12_next_276 rfl ?_
                refine bz_getI hN okL_164 dX12_next_277 fl_12_171 rfl ?_
                refine bv_iconst (v := 1) dX12_next_280 (by decide) ?_
                refine bv_iadd dX12_next_281 ?_
                refine bz_putI hN okL_164 dX12_next_282 fl_12_171 rfl ?_
                refine bv_aload_n dX12_next_285 0 rfl ?_
                refine bv_dup dX12_next_286 rfl ?_
                refine bz_getI hN okL_164 dX12_next_287 fl_12_21 rfl ?_
                refine bv_iconst (v := 1) dX12_next_290 (by decide) ?_
                refine bv_iadd dX12_next_291 ?_
                refine bz_putI hN okL_164 dX12_next_292 fl_12_21 rfl ?_
                refine bv_goto (tgt := 181) dX12_next_295 (by decide) ?_
                exact ih _ _ _ _ h K0
              · replace h := bu_f h cc
                refine bv_aload_n dX12_next_256 0 rfl ?_
                refine bv_bipush (v := 10) dX12_next_257 (by decide) ?_
                refine bv_aload_n dX12_next_259 0 rfl ?_
                refine bz_getI hN okL_164 dX12_next_260 fl_12_184 rfl ?_
                refine bv_imul dX12_next_263 ?_
                refine bv_aload_n dX12_next_264 0 rfl ?_
                obtain ⟨v43, p44, h⟩ := bu_bd h
                refine bw_callV (As := []) hN okL_164 ⟨_, _, rfl⟩ dX12_next_265 mc_12_164 (c_X12_peek (d := d + 0) hN hR p44) rfl rfl (Nat.le_of_ble_eq_true rfl) ?_
                refine bv_iadd dX12_next_268 ?_
                refine bv_bipush (v := 48) dX12_next_269 (by decide) ?_
                refine bv_isub dX12_next_271 ?_
                refine bz_putI hN okL_164 dX12_next_272 fl_12_184 rfl ?_
                refine bv_aload_n dX12_next_275 0 rfl ?_
                refine bv_dup dX12_next_276 rfl ?_
                refine bz_getI hN okL_164 dX12_next_277 fl_12_171 rfl ?_
                refine bv_iconst (v := 1) dX12_next_280 (by decide) ?_
                refine bv_iadd dX12_next_281 ?_
                refine bz_putI hN okL_164 dX12_next_282 fl_12_171 rfl ?_
                refine bv_aload_n dX12_next_285 0 rfl ?_
                refine bv_dup dX12_next_286 rfl ?_
                refine bz_getI hN okL_164 dX12_next_287 fl_12_21 rfl ?_
                refine bv_iconst (v := 1) dX12_next_290 (by decide) ?_
                refine bv_iadd dX12_next_291 ?_
                refine bz_putI hN okL_164 dX12_next_292 fl_12_21 rfl ?_
                refine bv_goto (tgt := 181) dX12_next_295 (by decide) ?_
                exact ih _ _ _ _ h K0
def f_X12_next (I : bm_TI) (J : bm_TJ) : Option (bm_TI × bm_TJ) := ((f_X12_next_l0 1000 I).bind fun y3 => (if ((bm_uI (bm_uI y3 164 12 (y3 164 4)) 164 13 0) 164 3) ≤ ((bm_uI (bm_uI y3 164 12 (y3 164 4)) 164 13 0) 164 5) then ((f_X12_peek (bm_uI (bm_uI y3 164 12 (y3 164 4)) 164 13 0)).bind fun v4 => (if 0 ≤ v4 then (if (f_X12_isSmall v4) = true then ((f_X12_next_l181 (f_X12_isSmall v4) 1000 true (bm_uI (bm_uI (bm_uI y3 164 12 (y3 164 4)) 164 13 0) 164 14 0) (bm_uJ J 164 17 0)).bind fun y8 => (if y8.1 = true then (if (f_X12_isSmall v4) = true then (if (y8.2.1 164 13) ≤ 7 then (if (f_X12_isSmall v4) = true then some ((bm_uI y8.2.1 164 11 1), y8.2.2) else some ((bm_uI y8.2.1 164 11 2), y8.2.2)) else some ((bm_uI y8.2.1 164 11 4), y8.2.2)) else (if (y8.2.1 164 13) ≤ 3 then (if (f_X12_isSmall v4) = true then some ((bm_uI y8.2.1 164 11 1), y8.2.2) else some ((bm_uI y8.2.1 164 11 2), y8.2.2)) else some ((bm_uI y8.2.1 164 11 4), y8.2.2))) else some ((bm_uI y8.2.1 164 11 4), y8.2.2))) else (if (f_X12_isDigit v4) = true then ((f_X12_next_l181 (f_X12_isSmall v4) 1000 true (bm_uI (bm_uI (bm_uI y3 164 12 (y3 164 4)) 164 13 0) 164 14 0) (bm_uJ J 164 17 0)).bind fun y11 => (if y11.1 = true then (if (f_X12_isSmall v4) = true then (if (y11.2.1 164 13) ≤ 7 then (if (f_X12_isSmall v4) = true then some ((bm_uI y11.2.1 164 11 1), y11.2.2) else some ((bm_uI y11.2.1 164 11 2), y11.2.2)) else some ((bm_uI y11.2.1 164 11 4), y11.2.2)) else (if (y11.2.1 164 13) ≤ 3 then (if (f_X12_isSmall v4) = true then some ((bm_uI y11.2.1 164 11 1), y11.2.2) else some ((bm_uI y11.2.1 164 11 2), y11.2.2)) else some ((bm_uI y11.2.1 164 11 4), y11.2.2))) else some ((bm_uI y11.2.1 164 11 4), y11.2.2))) else (if v4 = 59 then some ((bm_uI (bm_uI (bm_uI (bm_uI (bm_uI y3 164 12 (y3 164 4)) 164 13 0) 164 11 3) 164 14 v4) 164 4 (((bm_uI (bm_uI (bm_uI (bm_uI y3 164 12 (y3 164 4)) 164 13 0) 164 11 3) 164 14 v4) 164 4) + 1)), J) else (if v4 = 40 then some ((bm_uI (bm_uI (bm_uI (bm_uI (bm_uI y3 164 12 (y3 164 4)) 164 13 0) 164 11 3) 164 14 v4) 164 4 (((bm_uI (bm_uI (bm_uI (bm_uI y3 164 12 (y3 164 4)) 164 13 0) 164 11 3) 164 14 v4) 164 4) + 1)), J) else (if v4 = 41 then some ((bm_uI (bm_uI (bm_uI (bm_uI (bm_uI y3 164 12 (y3 164 4)) 164 13 0) 164 11 3) 164 14 v4) 164 4 (((bm_uI (bm_uI (bm_uI (bm_uI y3 164 12 (y3 164 4)) 164 13 0) 164 11 3) 164 14 v4) 164 4) + 1)), J) else (if v4 < 60 then some ((bm_uI (bm_uI (bm_uI (bm_uI (bm_uI y3 164 12 (y3 164 4)) 164 13 0) 164 11 4) 164 14 v4) 164 4 (((bm_uI (bm_uI (bm_uI (bm_uI y3 164 12 (y3 164 4)) 164 13 0) 164 11 4) 164 14 v4) 164 4) + 1)), J) else (if 62 < v4 then some ((bm_uI (bm_uI (bm_uI (bm_uI (bm_uI y3 164 12 (y3 164 4)) 164 13 0) 164 11 4) 164 14 v4) 164 4 (((bm_uI (bm_uI (bm_uI (bm_uI y3 164 12 (y3 164 4)) 164 13 0) 164 11 4) 164 14 v4) 164 4) + 1)), J) else some ((bm_uI (bm_uI (bm_uI (bm_uI (bm_uI y3 164 12 (y3 164 4)) 164 13 0) 164 11 3) 164 14 v4) 164 4 (((bm_uI (bm_uI (bm_uI (bm_uI y3 164 12 (y3 164 4)) 164 13 0) 164 11 3) 164 14 v4) 164 4) + 1)), J)))))))) else some ((bm_uI (bm_uI (bm_uI y3 164 12 (y3 164 4)) 164 13 0) 164 11 0), J))) else (if ((bm_uI (bm_uI y3 164 12 (y3 164 4)) 164 13 0) 164 4) < ((bm_uI (bm_uI y3 164 12 (y3 164 4)) 164 13 0) 164 5) then ((f_X12_peek (bm_uI (bm_uI y3 164 12 (y3 164 4)) 164 13 0)).bind fun v12 => (if 0 ≤ v12 then (if (f_X12_isSmall v12) = true then ((f_X12_next_l181 (f_X12_isSmall v12) 1000 true (bm_uI (bm_uI (bm_uI y3 164 12 (y3 164 4)) 164 13 0) 164 14 0) (bm_uJ J 164 17 0)).bind fun y16 => (if y16.1 = true then (if (f_X12_isSmall v12) = true then (if (y16.2.1 164 13) ≤ 7 then (if (f_X12_isSmall v12) = true then some ((bm_uI y16.2.1 164 11 1), y16.2.2) else some ((bm_uI y16.2.1 164 11 2), y16.2.2)) else some ((bm_uI y16.2.1 164 11 4), y16.2.2)) else (if (y16.2.1 164 13) ≤ 3 then (if (f_X12_isSmall v12) = true then some ((bm_uI y16.2.1 164 11 1), y16.2.2) else some ((bm_uI y16.2.1 164 11 2), y16.2.2)) else some ((bm_uI y16.2.1 164 11 4), y16.2.2))) else some ((bm_uI y16.2.1 164 11 4), y16.2.2))) else (if (f_X12_isDigit v12) = true then ((f_X12_next_l181 (f_X12_isSmall v12) 1000 true (bm_uI (bm_uI (bm_uI y3 164 12 (y3 164 4)) 164 13 0) 164 14 0) (bm_uJ J 164 17 0)).bind fun y19 => (if y19.1 = true then (if (f_X12_isSmall v12) = true then (if (y19.2.1 164 13) ≤ 7 then (if (f_X12_isSmall v12) = true then some ((bm_uI y19.2.1 164 11 1), y19.2.2) else some ((bm_uI y19.2.1 164 11 2), y19.2.2)) else some ((bm_uI y19.2.1 164 11 4), y19.2.2)) else (if (y19.2.1 164 13) ≤ 3 then (if (f_X12_isSmall v12) = true then some ((bm_uI y19.2.1 164 11 1), y19.2.2) else some ((bm_uI y19.2.1 164 11 2), y19.2.2)) else some ((bm_uI y19.2.1 164 11 4), y19.2.2))) else some ((bm_uI y19.2.1 164 11 4), y19.2.2))) else (if v12 = 59 then some ((bm_uI (bm_uI (bm_uI (bm_uI (bm_uI y3 164 12 (y3 164 4)) 164 13 0) 164 11 3) 164 14 v12) 164 4 (((bm_uI (bm_uI (bm_uI (bm_uI y3 164 12 (y3 164 4)) 164 13 0) 164 11 3) 164 14 v12) 164 4) + 1)), J) else (if v12 = 40 then some ((bm_uI (bm_uI (bm_uI (bm_uI (bm_uI y3 164 12 (y3 164 4)) 164 13 0) 164 11 3) 164 14 v12) 164 4 (((bm_uI (bm_uI (bm_uI (bm_uI y3 164 12 (y3 164 4)) 164 13 0) 164 11 3) 164 14 v12) 164 4) + 1)), J) else (if v12 = 41 then some ((bm_uI (bm_uI (bm_uI (bm_uI (bm_uI y3 164 12 (y3 164 4)) 164 13 0) 164 11 3) 164 14 v12) 164 4 (((bm_uI (bm_uI (bm_uI (bm_uI y3 164 12 (y3 164 4)) 164 13 0) 164 11 3) 164 14 v12) 164 4) + 1)), J) else (if v12 < 60 then some ((bm_uI (bm_uI (bm_uI (bm_uI (bm_uI y3 164 12 (y3 164 4)) 164 13 0) 164 11 4) 164 14 v12) 164 4 (((bm_uI (bm_uI (bm_uI (bm_uI y3 164 12 (y3 164 4)) 164 13 0) 164 11 4) 164 14 v12) 164 4) + 1)), J) else (if 62 < v12 then some ((bm_uI (bm_uI (bm_uI (bm_uI (bm_uI y3 164 12 (y3 164 4)) 164 13 0) 164 11 4) 164 14 v12) 164 4 (((bm_uI (bm_uI (bm_uI (bm_uI y3 164 12 (y3 164 4)) 164 13 0) 164 11 4) 164 14 v12) 164 4) + 1)), J) else some ((bm_uI (bm_uI (bm_uI (bm_uI (bm_uI y3 164 12 (y3 164 4)) 164 13 0) 164 11 3) 164 14 v12) 164 4 (((bm_uI (bm_uI (bm_uI (bm_uI y3 164 12 (y3 164 4)) 164 13 0) 164 11 3) 164 14 v12) 164 4) + 1)), J)))))))) else some ((bm_uI (bm_uI (bm_uI y3 164 12 (y3 164 4)) 164 13 0) 164 11 0), J))) else some ((bm_uI (bm_uI (bm_uI (bm_uI y3 164 12 (y3 164 4)) 164 13 0) 164 12 ((bm_uI (bm_uI y3 164 12 (y3 164 4)) 164 13 0) 164 5)) 164 11 4), J))))
set_option maxHeartbeats 4000000 in
set_option maxRecDepth 100000 in
theorem c_X12_next {lc : bm_L} {d n : Nat} {I : bm_TI} {J : bm_TJ} {R W : bm_TR} {v : bm_TI × bm_TJ} (hN : 181 ≤ n) (hR : bm_RR R) (h : f_X12_next I J = some v) : bm_C lc m_X12_next (d + 1) n n [.ref 164] (I, J, R, W) (fun r M' => r = none ∧ M' = (v.1, v.2, R, W)) := by
  refine bm_C.ofV (by decide) (Nat.le_of_ble_eq_true rfl) ?_
  show bm_V lc m_X12_next (d + 1) n n n 0 [(0, .ref 164)] [] (I, J, R, W) _
  unfold f_X12_next at h
  obtain ⟨r1, p2, h⟩ := bu_bd h
  refine v_X12_next_l0 hN hR 1000 _ _ p2 (fun y3 hy => ?_)
  · subst hy
    refine bv_aload_n dX12_next_31 0 rfl ?_
    refine bv_aload_n dX12_next_32 0 rfl ?_
    refine bz_getI hN okL_164 dX12_next_33 fl_12_21 rfl ?_
    refine bz_putI hN okL_164 dX12_next_36 fl_12_168 rfl ?_
    refine bv_aload_n dX12_next_39 0 rfl ?_
    refine bv_iconst (v := 0) dX12_next_40 (by decide) ?_
    refine bz_putI hN okL_164 dX12_next_41 fl_12_171 rfl ?_
    refine bv_aload_n dX12_next_44 0 rfl ?_
    refine bz_getI hN okL_164 dX12_next_45 fl_12_18 rfl ?_
    refine bv_aload_n dX12_next_48 0 rfl ?_
    refine bz_getI hN okL_164 dX12_next_49 fl_12_24 rfl ?_
    refine bv_icmp_le (tgt := 80) dX12_next_52 (by decide) (fun cc => ?_) (fun cc => ?_)
    · replace h := bu_t h cc
      refine bv_aload_n dX12_next_80 0 rfl ?_
      obtain ⟨v4, p5, h⟩ := bu_bd h
      refine bw_callV (As := []) hN okL_164 ⟨_, _, rfl⟩ dX12_next_81 mc_12_164 (c_X12_peek (d := d + 0) hN hR p5) rfl rfl (by decide) ?_
      refine bv_istore_n (ls1 := [(0, .ref 164), (1, .int v4)]) dX12_next_84 (by decide) rfl rfl ?_
      refine bv_iload_n dX12_next_85 1 rfl ?_
      refine bv_if_ge (tgt := 95) dX12_next_86 (by decide) (fun cc => ?_) (fun cc => ?_)
      · replace h := bu_t h cc
        refine bv_iload_n dX12_next_95 1 rfl ?_
        refine bw_callS (As := [.int v4]) dX12_next_96 mc_12_177 (c_X12_isSmall (d := d + 0) hN hR rfl) rfl rfl (by decide) ?_
        refine bw_ifB_ne (b := (f_X12_isSmall v4)) (tgt := 164) dX12_next_99 (by decide) (fun cc => ?_) (fun cc => ?_)
        · replace h := bu_bt h cc
          refine bv_iload_n dX12_next_164 1 rfl ?_
          refine bw_callS (As := [.int v4]) dX12_next_165 mc_12_177 (c_X12_isSmall (d := d + 0) hN hR rfl) rfl rfl (by decide) ?_
          refine bv_istore_n (ls1 := [(0, .ref 164), (1, .int v4), (2, .int (bm_bi (f_X12_isSmall v4)))]) dX12_next_168 (by decide) rfl rfl ?_
          refine bv_iconst (v := 1) dX12_next_169 (by decide) ?_
          refine bv_istore_n (ls1 := [(0, .ref 164), (1, .int v4), (2, .int (bm_bi (f_X12_isSmall v4))), (3, .int 1)]) dX12_next_170 (by decide) rfl rfl ?_
          refine bv_aload_n dX12_next_171 0 rfl ?_
          refine bv_lconst (v := 0) dX12_next_172 (by decide) ?_
          refine bz_putJ hN okL_164 dX12_next_173 fl_12_187 rfl ?_
          refine bv_aload_n dX12_next_176 0 rfl ?_
          refine bv_iconst (v := 0) dX12_next_177 (by decide) ?_
          refine bz_putI hN okL_164 dX12_next_178 fl_12_184 rfl ?_
          refine bw_ls (ls1 := [(0, .ref 164), (2, .int (bm_bi (f_X12_isSmall v4))), (3, .int 1)]) [0, 2, 3] rfl ?_
          obtain ⟨r6, p7, h⟩ := bu_bd h
          refine v_X12_next_l181 hN hR 1000 _ _ _ _ p7 (fun y8 hy => ?_)
          · subst hy
            refine bv_aload_n dX12_next_298 0 rfl ?_
            refine bv_iload_n dX12_next_299 2 rfl ?_
            refine bw_ifB_eq (b := y8.1) (tgt := 320) dX12_next_300 (by decide) (fun cc => ?_) (fun cc => ?_)
            · replace h := bu_bf h cc
              refine bv_iconst (v := 4) dX12_next_320 (by decide) ?_
              refine bv_goto (tgt := 333) dX12_next_321 (by decide) ?_
              refine bz_putI hN okL_164 dX12_next_333 fl_12_174 rfl ?_
              obtain rfl := Option.some.inj h
              exact bv_vret dX12_next_336 rfl ⟨rfl, rfl⟩
            · replace h := bu_bt h cc
              refine bv_aload_n dX12_next_303 0 rfl ?_
              refine bz_getI hN okL_164 dX12_next_304 fl_12_171 rfl ?_
              refine bv_iload_n dX12_next_307 1 rfl ?_
              refine bw_ifB_eq (b := (f_X12_isSmall v4)) (tgt := 316) dX12_next_308 (by decide) (fun cc => ?_) (fun cc => ?_)
              · replace h := bu_bf h cc
                refine bv_iconst (v := 3) dX12_next_316 (by decide) ?_
                refine bv_icmp_le (tgt := 324) dX12_next_317 (by decide) (fun cc => ?_) (fun cc => ?_)
                · replace h := bu_t h cc
                  refine bv_iload_n dX12_next_324 1 rfl ?_
                  refine bw_ifB_eq (b := (f_X12_isSmall v4)) (tgt := 332) dX12_next_325 (by decide) (fun cc => ?_) (fun cc => ?_)
                  · replace h := bu_bf h cc
                    refine bv_iconst (v := 2) dX12_next_332 (by decide) ?_
                    refine bz_putI hN okL_164 dX12_next_333 fl_12_174 rfl ?_
                    obtain rfl := Option.some.inj h
                    exact bv_vret dX12_next_336 rfl ⟨rfl, rfl⟩
                  · replace h := bu_bt h cc
                    refine bv_iconst (v := 1) dX12_next_328 (by decide) ?_
                    refine bv_goto (tgt := 333) dX12_next_329 (by decide) ?_
                    refine bz_putI hN okL_164 dX12_next_333 fl_12_174 rfl ?_
                    obtain rfl := Option.some.inj h
                    exact bv_vret dX12_next_336 rfl ⟨rfl, rfl⟩
                · replace h := bu_f h cc
                  refine bv_iconst (v := 4) dX12_next_320 (by decide) ?_
                  refine bv_goto (tgt := 333) dX12_next_321 (by decide) ?_
                  refine bz_putI hN okL_164 dX12_next_333 fl_12_174 rfl ?_
                  obtain rfl := Option.some.inj h
                  exact bv_vret dX12_next_336 rfl ⟨rfl, rfl⟩
              · replace h := bu_bt h cc
                refine bv_bipush (v := 7) dX12_next_311 (by decide) ?_
                refine bv_goto (tgt := 317) dX12_next_313 (by decide) ?_
                refine bv_icmp_le (tgt := 324) dX12_next_317 (by decide) (fun cc => ?_) (fun cc => ?_)
                · replace h := bu_t h cc
                  refine bv_iload_n dX12_next_324 1 rfl ?_
                  refine bw_ifB_eq (b := (f_X12_isSmall v4)) (tgt := 332) dX12_next_325 (by decide) (fun cc => ?_) (fun cc => ?_)
                  · replace h := bu_bf h cc
                    refine bv_iconst (v := 2) dX12_next_332 (by decide) ?_
                    refine bz_putI hN okL_164 dX12_next_333 fl_12_174 rfl ?_
                    obtain rfl := Option.some.inj h
                    exact bv_vret dX12_next_336 rfl ⟨rfl, rfl⟩
                  · replace h := bu_bt h cc
                    refine bv_iconst (v := 1) dX12_next_328 (by decide) ?_
                    refine bv_goto (tgt := 333) dX12_next_329 (by decide) ?_
                    refine bz_putI hN okL_164 dX12_next_333 fl_12_174 rfl ?_
                    obtain rfl := Option.some.inj h
                    exact bv_vret dX12_next_336 rfl ⟨rfl, rfl⟩
                · replace h := bu_f h cc
                  refine bv_iconst (v := 4) dX12_next_320 (by decide) ?_
                  refine bv_goto (tgt := 333) dX12_next_321 (by decide) ?_
                  refine bz_putI hN okL_164 dX12_next_333 fl_12_174 rfl ?_
                  obtain rfl := Option.some.inj h
                  exact bv_vret dX12_next_336 rfl ⟨rfl, rfl⟩
        · replace h := bu_bf h cc
          refine bv_iload_n dX12_next_102 1 rfl ?_
          refine bw_callS (As := [.int v4]) dX12_next_103 mc_12_181 (c_X12_isDigit (d := d + 0) hN hR rfl) rfl rfl (by decide) ?_
          refine bw_ifB_ne (b := (f_X12_isDigit v4)) (tgt := 164) dX12_next_106 (by decide) (fun cc => ?_) (fun cc => ?_)
          · replace h := bu_bt h cc
            refine bv_iload_n dX12_next_164 1 rfl ?_
            refine bw_callS (As := [.int v4]) dX12_next_165 mc_12_177 (c_X12_isSmall (d := d + 0) hN hR rfl) rfl rfl (by decide) ?_
            refine bv_istore_n (ls1 := [(0, .ref 164), (1, .int v4), (2, .int (bm_bi (f_X12_isSmall v4)))]) dX12_next_168 (by decide) rfl rfl ?_
            refine bv_iconst (v := 1) dX12_next_169 (by decide) ?_
            refine bv_istore_n (ls1 := [(0, .ref 164), (1, .int v4), (2, .int (bm_bi (f_X12_isSmall v4))), (3, .int 1)]) dX12_next_170 (by decide) rfl rfl ?_
            refine bv_aload_n dX12_next_171 0 rfl ?_
            refine bv_lconst (v := 0) dX12_next_172 (by decide) ?_
            refine bz_putJ hN okL_164 dX12_next_173 fl_12_187 rfl ?_
            refine bv_aload_n dX12_next_176 0 rfl ?_
            refine bv_iconst (v := 0) dX12_next_177 (by decide) ?_
            refine bz_putI hN okL_164 dX12_next_178 fl_12_184 rfl ?_
            refine bw_ls (ls1 := [(0, .ref 164), (2, .int (bm_bi (f_X12_isSmall v4))), (3, .int 1)]) [0, 2, 3] rfl ?_
            obtain ⟨r9, p10, h⟩ := bu_bd h
            refine v_X12_next_l181 hN hR 1000 _ _ _ _ p10 (fun y11 hy => ?_)
            · subst hy
              refine bv_aload_n dX12_next_298 0 rfl ?_
              refine bv_iload_n dX12_next_299 2 rfl ?_
              refine bw_ifB_eq (b := y11.1) (tgt := 320) dX12_next_300 (by decide) (fun cc => ?_) (fun cc => ?_)
              · replace h := bu_bf h cc
                refine bv_iconst (v := 4) dX12_next_320 (by decide) ?_
                refine bv_goto (tgt := 333) dX12_next_321 (by decide) ?_
                refine bz_putI hN okL_164 dX12_next_333 fl_12_174 rfl ?_
                obtain rfl := Option.some.inj h
                exact bv_vret dX12_next_336 rfl ⟨rfl, rfl⟩
              · replace h := bu_bt h cc
                refine bv_aload_n dX12_next_303 0 rfl ?_
                refine bz_getI hN okL_164 dX12_next_304 fl_12_171 rfl ?_
                refine bv_iload_n dX12_next_307 1 rfl ?_
                refine bw_ifB_eq (b := (f_X12_isSmall v4)) (tgt := 316) dX12_next_308 (by decide) (fun cc => ?_) (fun cc => ?_)
                · replace h := bu_bf h cc
                  refine bv_iconst (v := 3) dX12_next_316 (by decide) ?_
                  refine bv_icmp_le (tgt := 324) dX12_next_317 (by decide) (fun cc => ?_) (fun cc => ?_)
                  · replace h := bu_t h cc
                    refine bv_iload_n dX12_next_324 1 rfl ?_
                    refine bw_ifB_eq (b := (f_X12_isSmall v4)) (tgt := 332) dX12_next_325 (by decide) (fun cc => ?_) (fun cc => ?_)
                    · replace h := bu_bf h cc
                      refine bv_iconst (v := 2) dX12_next_332 (by decide) ?_
                      refine bz_putI hN okL_164 dX12_next_333 fl_12_174 rfl ?_
                      obtain rfl := Option.some.inj h
                      exact bv_vret dX12_next_336 rfl ⟨rfl, rfl⟩
                    · replace h := bu_bt h cc
                      refine bv_iconst (v := 1) dX12_next_328 (by decide) ?_
                      refine bv_goto (tgt := 333) dX12_next_329 (by decide) ?_
                      refine bz_putI hN okL_164 dX12_next_333 fl_12_174 rfl ?_
                      obtain rfl := Option.some.inj h
                      exact bv_vret dX12_next_336 rfl ⟨rfl, rfl⟩
                  · replace h := bu_f h cc
                    refine bv_iconst (v := 4) dX12_next_320 (by decide) ?_
                    refine bv_goto (tgt := 333) dX12_next_321 (by decide) ?_
                    refine bz_putI hN okL_164 dX12_next_333 fl_12_174 rfl ?_
                    obtain rfl := Option.some.inj h
                    exact bv_vret dX12_next_336 rfl ⟨rfl, rfl⟩
                · replace h := bu_bt h cc
                  refine bv_bipush (v := 7) dX12_next_311 (by decide) ?_
                  refine bv_goto (tgt := 317) dX12_next_313 (by decide) ?_
                  refine bv_icmp_le (tgt := 324) dX12_next_317 (by decide) (fun cc => ?_) (fun cc => ?_)
                  · replace h := bu_t h cc
                    refine bv_iload_n dX12_next_324 1 rfl ?_
                    refine bw_ifB_eq (b := (f_X12_isSmall v4)) (tgt := 332) dX12_next_325 (by decide) (fun cc => ?_) (fun cc => ?_)
                    · replace h := bu_bf h cc
                      refine bv_iconst (v := 2) dX12_next_332 (by decide) ?_
                      refine bz_putI hN okL_164 dX12_next_333 fl_12_174 rfl ?_
                      obtain rfl := Option.some.inj h
                      exact bv_vret dX12_next_336 rfl ⟨rfl, rfl⟩
                    · replace h := bu_bt h cc
                      refine bv_iconst (v := 1) dX12_next_328 (by decide) ?_
                      refine bv_goto (tgt := 333) dX12_next_329 (by decide) ?_
                      refine bz_putI hN okL_164 dX12_next_333 fl_12_174 rfl ?_
                      obtain rfl := Option.some.inj h
                      exact bv_vret dX12_next_336 rfl ⟨rfl, rfl⟩
                  · replace h := bu_f h cc
                    refine bv_iconst (v := 4) dX12_next_320 (by decide) ?_
                    refine bv_goto (tgt := 333) dX12_next_321 (by decide) ?_
                    refine bz_putI hN okL_164 dX12_next_333 fl_12_174 rfl ?_
                    obtain rfl := Option.some.inj h
                    exact bv_vret dX12_next_336 rfl ⟨rfl, rfl⟩
          · replace h := bu_bf h cc
            refine bv_aload_n dX12_next_109 0 rfl ?_
            refine bv_iload_n dX12_next_110 1 rfl ?_
            refine bv_bipush (v := 59) dX12_next_111 (by decide) ?_
            refine bv_icmp_eq (tgt := 140) dX12_next_113 (by decide) (fun cc => ?_) (fun cc => ?_)
            · replace h := bu_t h cc
              refine bv_iconst (v := 3) dX12_next_140 (by decide) ?_
              refine bv_goto (tgt := 145) dX12_next_141 (by decide) ?_
              refine bz_putI hN okL_164 dX12_next_145 fl_12_174 rfl ?_
              refine bv_aload_n dX12_next_148 0 rfl ?_
              refine bv_iload_n dX12_next_149 1 rfl ?_
              refine bz_putI hN okL_164 dX12_next_150 fl_12_184 rfl ?_
              refine bv_aload_n dX12_next_153 0 rfl ?_
              refine bv_dup dX12_next_154 rfl ?_
              refine bz_getI hN okL_164 dX12_next_155 fl_12_21 rfl ?_
              refine bv_iconst (v := 1) dX12_next_158 (by decide) ?_
              refine bv_iadd dX12_next_159 ?_
              refine bz_putI hN okL_164 dX12_next_160 fl_12_21 rfl ?_
              obtain rfl := Option.some.inj h
              exact bv_vret dX12_next_163 rfl ⟨rfl, rfl⟩
            · replace h := bu_f h cc
              refine bv_iload_n dX12_next_116 1 rfl ?_
              refine bv_bipush (v := 40) dX12_next_117 (by decide) ?_
              refine bv_icmp_eq (tgt := 140) dX12_next_119 (by decide) (fun cc => ?_) (fun cc => ?_)
              · replace h := bu_t h cc
                refine bv_iconst (v := 3) dX12_next_140 (by decide) ?_
                refine bv_goto (tgt := 145) dX12_next_141 (by decide) ?_
                refine bz_putI hN okL_164 dX12_next_145 fl_12_174 rfl ?_
                refine bv_aload_n dX12_next_148 0 rfl ?_
                refine bv_iload_n dX12_next_149 1 rfl ?_
                refine bz_putI hN okL_164 dX12_next_150 fl_12_184 rfl ?_
                refine bv_aload_n dX12_next_153 0 rfl ?_
                refine bv_dup dX12_next_154 rfl ?_
                refine bz_getI hN okL_164 dX12_next_155 fl_12_21 rfl ?_
                refine bv_iconst (v := 1) dX12_next_158 (by decide) ?_
                refine bv_iadd dX12_next_159 ?_
                refine bz_putI hN okL_164 dX12_next_160 fl_12_21 rfl ?_
                obtain rfl := Option.some.inj h
                exact bv_vret dX12_next_163 rfl ⟨rfl, rfl⟩
              · replace h := bu_f h cc
                refine bv_iload_n dX12_next_122 1 rfl ?_
                refine bv_bipush (v := 41) dX12_next_123 (by decide) ?_
                refine bv_icmp_eq (tgt := 140) dX12_next_125 (by decide) (fun cc => ?_) (fun cc => ?_)
                · replace h := bu_t h cc
                  refine bv_iconst (v := 3) dX12_next_140 (by decide) ?_
                  refine bv_goto (tgt := 145) dX12_next_141 (by decide) ?_
                  refine bz_putI hN okL_164 dX12_next_145 fl_12_174 rfl ?_
                  refine bv_aload_n dX12_next_148 0 rfl ?_
                  refine bv_iload_n dX12_next_149 1 rfl ?_
                  refine bz_putI hN okL_164 dX12_next_150 fl_12_184 rfl ?_
                  refine bv_aload_n dX12_next_153 0 rfl ?_
                  refine bv_dup dX12_next_154 rfl ?_
                  refine bz_getI hN okL_164 dX12_next_155 fl_12_21 rfl ?_
                  refine bv_iconst (v := 1) dX12_next_158 (by decide) ?_
                  refine bv_iadd dX12_next_159 ?_
                  refine bz_putI hN okL_164 dX12_next_160 fl_12_21 rfl ?_
                  obtain rfl := Option.some.inj h
                  exact bv_vret dX12_next_163 rfl ⟨rfl, rfl⟩
                · replace h := bu_f h cc
                  refine bv_iload_n dX12_next_128 1 rfl ?_
                  refine bv_bipush (v := 60) dX12_next_129 (by decide) ?_
                  refine bv_icmp_lt (tgt := 144) dX12_next_131 (by decide) (fun cc => ?_) (fun cc => ?_)
                  · replace h := bu_t h cc
                    refine bv_iconst (v := 4) dX12_next_144 (by decide) ?_
                    refine bz_putI hN okL_164 dX12_next_145 fl_12_174 rfl ?_
                    refine bv_aload_n dX12_next_148 0 rfl ?_
                    refine bv_iload_n dX12_next_149 1 rfl ?_
                    refine bz_putI hN okL_164 dX12_next_150 fl_12_184 rfl ?_
                    refine bv_aload_n dX12_next_153 0 rfl ?_
                    refine bv_dup dX12_next_154 rfl ?_
                    refine bz_getI hN okL_164 dX12_next_155 fl_12_21 rfl ?_
                    refine bv_iconst (v := 1) dX12_next_158 (by decide) ?_
                    refine bv_iadd dX12_next_159 ?_
                    refine bz_putI hN okL_164 dX12_next_160 fl_12_21 rfl ?_
                    obtain rfl := Option.some.inj h
                    exact bv_vret dX12_next_163 rfl ⟨rfl, rfl⟩
                  · replace h := bu_f h cc
                    refine bv_iload_n dX12_next_134 1 rfl ?_
                    refine bv_bipush (v := 62) dX12_next_135 (by decide) ?_
                    refine bv_icmp_gt (tgt := 144) dX12_next_137 (by decide) (fun cc => ?_) (fun cc => ?_)
                    · replace h := bu_t h cc
                      refine bv_iconst (v := 4) dX12_next_144 (by decide) ?_
                      refine bz_putI hN okL_164 dX12_next_145 fl_12_174 rfl ?_
                      refine bv_aload_n dX12_next_148 0 rfl ?_
                      refine bv_iload_n dX12_next_149 1 rfl ?_
                      refine bz_putI hN okL_164 dX12_next_150 fl_12_184 rfl ?_
                      refine bv_aload_n dX12_next_153 0 rfl ?_
                      refine bv_dup dX12_next_154 rfl ?_
                      refine bz_getI hN okL_164 dX12_next_155 fl_12_21 rfl ?_
                      refine bv_iconst (v := 1) dX12_next_158 (by decide) ?_
                      refine bv_iadd dX12_next_159 ?_
                      refine bz_putI hN okL_164 dX12_next_160 fl_12_21 rfl ?_
                      obtain rfl := Option.some.inj h
                      exact bv_vret dX12_next_163 rfl ⟨rfl, rfl⟩
                    · replace h := bu_f h cc
                      refine bv_iconst (v := 3) dX12_next_140 (by decide) ?_
                      refine bv_goto (tgt := 145) dX12_next_141 (by decide) ?_
                      refine bz_putI hN okL_164 dX12_next_145 fl_12_174 rfl ?_
                      refine bv_aload_n dX12_next_148 0 rfl ?_
                      refine bv_iload_n dX12_next_149 1 rfl ?_
                      refine bz_putI hN okL_164 dX12_next_150 fl_12_184 rfl ?_
                      refine bv_aload_n dX12_next_153 0 rfl ?_
                      refine bv_dup dX12_next_154 rfl ?_
                      refine bz_getI hN okL_164 dX12_next_155 fl_12_21 rfl ?_
                      refine bv_iconst (v := 1) dX12_next_158 (by decide) ?_
                      refine bv_iadd dX12_next_159 ?_
                      refine bz_putI hN okL_164 dX12_next_160 fl_12_21 rfl ?_
                      obtain rfl := Option.some.inj h
                      exact bv_vret dX12_next_163 rfl ⟨rfl, rfl⟩
      · replace h := bu_f h cc
        refine bv_aload_n dX12_next_89 0 rfl ?_
        refine bv_iconst (v := 0) dX12_next_90 (by decide) ?_
        refine bz_putI hN okL_164 dX12_next_91 fl_12_174 rfl ?_
        obtain rfl := Option.some.inj h
        exact bv_vret dX12_next_94 rfl ⟨rfl, rfl⟩
    · replace h := bu_f h cc
      refine bv_aload_n dX12_next_55 0 rfl ?_
      refine bz_getI hN okL_164 dX12_next_56 fl_12_21 rfl ?_
      refine bv_aload_n dX12_next_59 0 rfl ?_
      refine bz_getI hN okL_164 dX12_next_60 fl_12_24 rfl ?_
      refine bv_icmp_lt (tgt := 80) dX12_next_63 (by decide) (fun cc => ?_) (fun cc => ?_)
      · replace h := bu_t h cc
        refine bv_aload_n dX12_next_80 0 rfl ?_
        obtain ⟨v12, p13, h⟩ := bu_bd h
        refine bw_callV (As := []) hN okL_164 ⟨_, _, rfl⟩ dX12_next_81 mc_12_164 (c_X12_peek (d := d + 0) hN hR p13) rfl rfl (by decide) ?_
        refine bv_istore_n (ls1 := [(0, .ref 164), (1, .int v12)]) dX12_next_84 (by decide) rfl rfl ?_
        refine bv_iload_n dX12_next_85 1 rfl ?_
        refine bv_if_ge (tgt := 95) dX12_next_86 (by decide) (fun cc => ?_) (fun cc => ?_)
        · replace h := bu_t h cc
          refine bv_iload_n dX12_next_95 1 rfl ?_
          refine bw_callS (As := [.int v12]) dX12_next_96 mc_12_177 (c_X12_isSmall (d := d + 0) hN hR rfl) rfl rfl (by decide) ?_
          refine bw_ifB_ne (b := (f_X12_isSmall v12)) (tgt := 164) dX12_next_99 (by decide) (fun cc => ?_) (fun cc => ?_)
          · replace h := bu_bt h cc
            refine bv_iload_n dX12_next_164 1 rfl ?_
            refine bw_callS (As := [.int v12]) dX12_next_165 mc_12_177 (c_X12_isSmall (d := d + 0) hN hR rfl) rfl rfl (by decide) ?_
            refine bv_istore_n (ls1 := [(0, .ref 164), (1, .int v12), (2, .int (bm_bi (f_X12_isSmall v12)))]) dX12_next_168 (by decide) rfl rfl ?_
            refine bv_iconst (v := 1) dX12_next_169 (by decide) ?_
            refine bv_istore_n (ls1 := [(0, .ref 164), (1, .int v12), (2, .int (bm_bi (f_X12_isSmall v12))), (3, .int 1)]) dX12_next_170 (by decide) rfl rfl ?_
            refine bv_aload_n dX12_next_171 0 rfl ?_
            refine bv_lconst (v := 0) dX12_next_172 (by decide) ?_
            refine bz_putJ hN okL_164 dX12_next_173 fl_12_187 rfl ?_
            refine bv_aload_n dX12_next_176 0 rfl ?_
            refine bv_iconst (v := 0) dX12_next_177 (by decide) ?_
            refine bz_putI hN okL_164 dX12_next_178 fl_12_184 rfl ?_
            refine bw_ls (ls1 := [(0, .ref 164), (2, .int (bm_bi (f_X12_isSmall v12))), (3, .int 1)]) [0, 2, 3] rfl ?_
            obtain ⟨r14, p15, h⟩ := bu_bd h
            refine v_X12_next_l181 hN hR 1000 _ _ _ _ p15 (fun y16 hy => ?_)
            · subst hy
              refine bv_aload_n dX12_next_298 0 rfl ?_
              refine bv_iload_n dX12_next_299 2 rfl ?_
              refine bw_ifB_eq (b := y16.1) (tgt := 320) dX12_next_300 (by decide) (fun cc => ?_) (fun cc => ?_)
              · replace h := bu_bf h cc
                refine bv_iconst (v := 4) dX12_next_320 (by decide) ?_
                refine bv_goto (tgt := 333) dX12_next_321 (by decide) ?_
                refine bz_putI hN okL_164 dX12_next_333 fl_12_174 rfl ?_
                obtain rfl := Option.some.inj h
                exact bv_vret dX12_next_336 rfl ⟨rfl, rfl⟩
              · replace h := bu_bt h cc
                refine bv_aload_n dX12_next_303 0 rfl ?_
                refine bz_getI hN okL_164 dX12_next_304 fl_12_171 rfl ?_
                refine bv_iload_n dX12_next_307 1 rfl ?_
                refine bw_ifB_eq (b := (f_X12_isSmall v12)) (tgt := 316) dX12_next_308 (by decide) (fun cc => ?_) (fun cc => ?_)
                · replace h := bu_bf h cc
                  refine bv_iconst (v := 3) dX12_next_316 (by decide) ?_
                  refine bv_icmp_le (tgt := 324) dX12_next_317 (by decide) (fun cc => ?_) (fun cc => ?_)
                  · replace h := bu_t h cc
                    refine bv_iload_n dX12_next_324 1 rfl ?_
                    refine bw_ifB_eq (b := (f_X12_isSmall v12)) (tgt := 332) dX12_next_325 (by decide) (fun cc => ?_) (fun cc => ?_)
                    · replace h := bu_bf h cc
                      refine bv_iconst (v := 2) dX12_next_332 (by decide) ?_
                      refine bz_putI hN okL_164 dX12_next_333 fl_12_174 rfl ?_
                      obtain rfl := Option.some.inj h
                      exact bv_vret dX12_next_336 rfl ⟨rfl, rfl⟩
                    · replace h := bu_bt h cc
                      refine bv_iconst (v := 1) dX12_next_328 (by decide) ?_
                      refine bv_goto (tgt := 333) dX12_next_329 (by decide) ?_
                      refine bz_putI hN okL_164 dX12_next_333 fl_12_174 rfl ?_
                      obtain rfl := Option.some.inj h
                      exact bv_vret dX12_next_336 rfl ⟨rfl, rfl⟩
                  · replace h := bu_f h cc
                    refine bv_iconst (v := 4) dX12_next_320 (by decide) ?_
                    refine bv_goto (tgt := 333) dX12_next_321 (by decide) ?_
                    refine bz_putI hN okL_164 dX12_next_333 fl_12_174 rfl ?_
                    obtain rfl := Option.some.inj h
                    exact bv_vret dX12_next_336 rfl ⟨rfl, rfl⟩
                · replace h := bu_bt h cc
                  refine bv_bipush (v := 7) dX12_next_311 (by decide) ?_
                  refine bv_goto (tgt := 317) dX12_next_313 (by decide) ?_
                  refine bv_icmp_le (tgt := 324) dX12_next_317 (by decide) (fun cc => ?_) (fun cc => ?_)
                  · replace h := bu_t h cc
                    refine bv_iload_n dX12_next_324 1 rfl ?_
                    refine bw_ifB_eq (b := (f_X12_isSmall v12)) (tgt := 332) dX12_next_325 (by decide) (fun cc => ?_) (fun cc => ?_)
                    · replace h := bu_bf h cc
                      refine bv_iconst (v := 2) dX12_next_332 (by decide) ?_
                      refine bz_putI hN okL_164 dX12_next_333 fl_12_174 rfl ?_
                      obtain rfl := Option.some.inj h
                      exact bv_vret dX12_next_336 rfl ⟨rfl, rfl⟩
                    · replace h := bu_bt h cc
                      refine bv_iconst (v := 1) dX12_next_328 (by decide) ?_
                      refine bv_goto (tgt := 333) dX12_next_329 (by decide) ?_
                      refine bz_putI hN okL_164 dX12_next_333 fl_12_174 rfl ?_
                      obtain rfl := Option.some.inj h
                      exact bv_vret dX12_next_336 rfl ⟨rfl, rfl⟩
                  · replace h := bu_f h cc
                    refine bv_iconst (v := 4) dX12_next_320 (by decide) ?_
                    refine bv_goto (tgt := 333) dX12_next_321 (by decide) ?_
                    refine bz_putI hN okL_164 dX12_next_333 fl_12_174 rfl ?_
                    obtain rfl := Option.some.inj h
                    exact bv_vret dX12_next_336 rfl ⟨rfl, rfl⟩
          · replace h := bu_bf h cc
            refine bv_iload_n dX12_next_102 1 rfl ?_
            refine bw_callS (As := [.int v12]) dX12_next_103 mc_12_181 (c_X12_isDigit (d := d + 0) hN hR rfl) rfl rfl (by decide) ?_
            refine bw_ifB_ne (b := (f_X12_isDigit v12)) (tgt := 164) dX12_next_106 (by decide) (fun cc => ?_) (fun cc => ?_)
            · replace h := bu_bt h cc
              refine bv_iload_n dX12_next_164 1 rfl ?_
              refine bw_callS (As := [.int v12]) dX12_next_165 mc_12_177 (c_X12_isSmall (d := d + 0) hN hR rfl) rfl rfl (by decide) ?_
              refine bv_istore_n (ls1 := [(0, .ref 164), (1, .int v12), (2, .int (bm_bi (f_X12_isSmall v12)))]) dX12_next_168 (by decide) rfl rfl ?_
              refine bv_iconst (v := 1) dX12_next_169 (by decide) ?_
              refine bv_istore_n (ls1 := [(0, .ref 164), (1, .int v12), (2, .int (bm_bi (f_X12_isSmall v12))), (3, .int 1)]) dX12_next_170 (by decide) rfl rfl ?_
              refine bv_aload_n dX12_next_171 0 rfl ?_
              refine bv_lconst (v := 0) dX12_next_172 (by decide) ?_
              refine bz_putJ hN okL_164 dX12_next_173 fl_12_187 rfl ?_
              refine bv_aload_n dX12_next_176 0 rfl ?_
              refine bv_iconst (v := 0) dX12_next_177 (by decide) ?_
              refine bz_putI hN okL_164 dX12_next_178 fl_12_184 rfl ?_
              refine bw_ls (ls1 := [(0, .ref 164), (2, .int (bm_bi (f_X12_isSmall v12))), (3, .int 1)]) [0, 2, 3] rfl ?_
              obtain ⟨r17, p18, h⟩ := bu_bd h
              refine v_X12_next_l181 hN hR 1000 _ _ _ _ p18 (fun y19 hy => ?_)
              · subst hy
                refine bv_aload_n dX12_next_298 0 rfl ?_
                refine bv_iload_n dX12_next_299 2 rfl ?_
                refine bw_ifB_eq (b := y19.1) (tgt := 320) dX12_next_300 (by decide) (fun cc => ?_) (fun cc => ?_)
                · replace h := bu_bf h cc
                  refine bv_iconst (v := 4) dX12_next_320 (by decide) ?_
                  refine bv_goto (tgt := 333) dX12_next_321 (by decide) ?_
                  refine bz_putI hN okL_164 dX12_next_333 fl_12_174 rfl ?_
                  obtain rfl := Option.some.inj h
                  exact bv_vret dX12_next_336 rfl ⟨rfl, rfl⟩
                · replace h := bu_bt h cc
                  refine bv_aload_n dX12_next_303 0 rfl ?_
                  refine bz_getI hN okL_164 dX12_next_304 fl_12_171 rfl ?_
                  refine bv_iload_n dX12_next_307 1 rfl ?_
                  refine bw_ifB_eq (b := (f_X12_isSmall v12)) (tgt := 316) dX12_next_308 (by decide) (fun cc => ?_) (fun cc => ?_)
                  · replace h := bu_bf h cc
                    refine bv_iconst (v := 3) dX12_next_316 (by decide) ?_
                    refine bv_icmp_le (tgt := 324) dX12_next_317 (by decide) (fun cc => ?_) (fun cc => ?_)
                    · replace h := bu_t h cc
                      refine bv_iload_n dX12_next_324 1 rfl ?_
                      refine bw_ifB_eq (b := (f_X12_isSmall v12)) (tgt := 332) dX12_next_325 (by decide) (fun cc => ?_) (fun cc => ?_)
                      · replace h := bu_bf h cc
                        refine bv_iconst (v := 2) dX12_next_332 (by decide) ?_
                        refine bz_putI hN okL_164 dX12_next_333 fl_12_174 rfl ?_
                        obtain rfl := Option.some.inj h
                        exact bv_vret dX12_next_336 rfl ⟨rfl, rfl⟩
                      · replace h := bu_bt h cc
                        refine bv_iconst (v := 1) dX12_next_328 (by decide) ?_
                        refine bv_goto (tgt := 333) dX12_next_329 (by decide) ?_
                        refine bz_putI hN okL_164 dX12_next_333 fl_12_174 rfl ?_
                        obtain rfl := Option.some.inj h
                        exact bv_vret dX12_next_336 rfl ⟨rfl, rfl⟩
                    · replace h := bu_f h cc
                      refine bv_iconst (v := 4) dX12_next_320 (by decide) ?_
                      refine bv_goto (tgt := 333) dX12_next_321 (by decide) ?_
                      refine bz_putI hN okL_164 dX12_next_333 fl_12_174 rfl ?_
                      obtain rfl := Option.some.inj h
                      exact bv_vret dX12_next_336 rfl ⟨rfl, rfl⟩
                  · replace h := bu_bt h cc
                    refine bv_bipush (v := 7) dX12_next_311 (by decide) ?_
                    refine bv_goto (tgt := 317) dX12_next_313 (by decide) ?_
                    refine bv_icmp_le (tgt := 324) dX12_next_317 (by decide) (fun cc => ?_) (fun cc => ?_)
                    · replace h := bu_t h cc
                      refine bv_iload_n dX12_next_324 1 rfl ?_
                      refine bw_ifB_eq (b := (f_X12_isSmall v12)) (tgt := 332) dX12_next_325 (by decide) (fun cc => ?_) (fun cc => ?_)
                      · replace h := bu_bf h cc
                        refine bv_iconst (v := 2) dX12_next_332 (by decide) ?_
                        refine bz_putI hN okL_164 dX12_next_333 fl_12_174 rfl ?_
                        obtain rfl := Option.some.inj h
                        exact bv_vret dX12_next_336 rfl ⟨rfl, rfl⟩
                      · replace h := bu_bt h cc
                        refine bv_iconst (v := 1) dX12_next_328 (by decide) ?_
                        refine bv_goto (tgt := 333) dX12_next_329 (by decide) ?_
                        refine bz_putI hN okL_164 dX12_next_333 fl_12_174 rfl ?_
                        obtain rfl := Option.some.inj h
                        exact bv_vret dX12_next_336 rfl ⟨rfl, rfl⟩
                    · replace h := bu_f h cc
                      refine bv_iconst (v := 4) dX12_next_320 (by decide) ?_
                      refine bv_goto (tgt := 333) dX12_next_321 (by decide) ?_
                      refine bz_putI hN okL_164 dX12_next_333 fl_12_174 rfl ?_
                      obtain rfl := Option.some.inj h
                      exact bv_vret dX12_next_336 rfl ⟨rfl, rfl⟩
            · replace h := bu_bf h cc
              refine bv_aload_n dX12_next_109 0 rfl ?_
              refine bv_iload_n dX12_next_110 1 rfl ?_
              refine bv_bipush (v := 59) dX12_next_111 (by decide) ?_
              refine bv_icmp_eq (tgt := 140) dX12_next_113 (by decide) (fun cc => ?_) (fun cc => ?_)
              · replace h := bu_t h cc
                refine bv_iconst (v := 3) dX12_next_140 (by decide) ?_
                refine bv_goto (tgt := 145) dX12_next_141 (by decide) ?_
                refine bz_putI hN okL_164 dX12_next_145 fl_12_174 rfl ?_
                refine bv_aload_n dX12_next_148 0 rfl ?_
                refine bv_iload_n dX12_next_149 1 rfl ?_
                refine bz_putI hN okL_164 dX12_next_150 fl_12_184 rfl ?_
                refine bv_aload_n dX12_next_153 0 rfl ?_
                refine bv_dup dX12_next_154 rfl ?_
                refine bz_getI hN okL_164 dX12_next_155 fl_12_21 rfl ?_
                refine bv_iconst (v := 1) dX12_next_158 (by decide) ?_
                refine bv_iadd dX12_next_159 ?_
                refine bz_putI hN okL_164 dX12_next_160 fl_12_21 rfl ?_
                obtain rfl := Option.some.inj h
                exact bv_vret dX12_next_163 rfl ⟨rfl, rfl⟩
              · replace h := bu_f h cc
                refine bv_iload_n dX12_next_116 1 rfl ?_
                refine bv_bipush (v := 40) dX12_next_117 (by decide) ?_
                refine bv_icmp_eq (tgt := 140) dX12_next_119 (by decide) (fun cc => ?_) (fun cc => ?_)
                · replace h := bu_t h cc
                  refine bv_iconst (v := 3) dX12_next_140 (by decide) ?_
                  refine bv_goto (tgt := 145) dX12_next_141 (by decide) ?_
                  refine bz_putI hN okL_164 dX12_next_145 fl_12_174 rfl ?_
                  refine bv_aload_n dX12_next_148 0 rfl ?_
                  refine bv_iload_n dX12_next_149 1 rfl ?_
                  refine bz_putI hN okL_164 dX12_next_150 fl_12_184 rfl ?_
                  refine bv_aload_n dX12_next_153 0 rfl ?_
                  refine bv_dup dX12_next_154 rfl ?_
                  refine bz_getI hN okL_164 dX12_next_155 fl_12_21 rfl ?_
                  refine bv_iconst (v := 1) dX12_next_158 (by decide) ?_
                  refine bv_iadd dX12_next_159 ?_
                  refine bz_putI hN okL_164 dX12_next_160 fl_12_21 rfl ?_
                  obtain rfl := Option.some.inj h
                  exact bv_vret dX12_next_163 rfl ⟨rfl, rfl⟩
                · replace h := bu_f h cc
                  refine bv_iload_n dX12_next_122 1 rfl ?_
                  refine bv_bipush (v := 41) dX12_next_123 (by decide) ?_
                  refine bv_icmp_eq (tgt := 140) dX12_next_125 (by decide) (fun cc => ?_) (fun cc => ?_)
                  · replace h := bu_t h cc
                    refine bv_iconst (v := 3) dX12_next_140 (by decide) ?_
                    refine bv_goto (tgt := 145) dX12_next_141 (by decide) ?_
                    refine bz_putI hN okL_164 dX12_next_145 fl_12_174 rfl ?_
                    refine bv_aload_n dX12_next_148 0 rfl ?_
                    refine bv_iload_n dX12_next_149 1 rfl ?_
                    refine bz_putI hN okL_164 dX12_next_150 fl_12_184 rfl ?_
                    refine bv_aload_n dX12_next_153 0 rfl ?_
                    refine bv_dup dX12_next_154 rfl ?_
                    refine bz_getI hN okL_164 dX12_next_155 fl_12_21 rfl ?_
                    refine bv_iconst (v := 1) dX12_next_158 (by decide) ?_
                    refine bv_iadd dX12_next_159 ?_
                    refine bz_putI hN okL_164 dX12_next_160 fl_12_21 rfl ?_
                    obtain rfl := Option.some.inj h
                    exact bv_vret dX12_next_163 rfl ⟨rfl, rfl⟩
                  · replace h := bu_f h cc
                    refine bv_iload_n dX12_next_128 1 rfl ?_
                    refine bv_bipush (v := 60) dX12_next_129 (by decide) ?_
                    refine bv_icmp_lt (tgt := 144) dX12_next_131 (by decide) (fun cc => ?_) (fun cc => ?_)
                    · replace h := bu_t h cc
                      refine bv_iconst (v := 4) dX12_next_144 (by decide) ?_
                      refine bz_putI hN okL_164 dX12_next_145 fl_12_174 rfl ?_
                      refine bv_aload_n dX12_next_148 0 rfl ?_
                      refine bv_iload_n dX12_next_149 1 rfl ?_
                      refine bz_putI hN okL_164 dX12_next_150 fl_12_184 rfl ?_
                      refine bv_aload_n dX12_next_153 0 rfl ?_
                      refine bv_dup dX12_next_154 rfl ?_
                      refine bz_getI hN okL_164 dX12_next_155 fl_12_21 rfl ?_
                      refine bv_iconst (v := 1) dX12_next_158 (by decide) ?_
                      refine bv_iadd dX12_next_159 ?_
                      refine bz_putI hN okL_164 dX12_next_160 fl_12_21 rfl ?_
                      obtain rfl := Option.some.inj h
                      exact bv_vret dX12_next_163 rfl ⟨rfl, rfl⟩
                    · replace h := bu_f h cc
                      refine bv_iload_n dX12_next_134 1 rfl ?_
                      refine bv_bipush (v := 62) dX12_next_135 (by decide) ?_
                      refine bv_icmp_gt (tgt := 144) dX12_next_137 (by decide) (fun cc => ?_) (fun cc => ?_)
                      · replace h := bu_t h cc
                        refine bv_iconst (v := 4) dX12_next_144 (by decide) ?_
                        refine bz_putI hN okL_164 dX12_next_145 fl_12_174 rfl ?_
                        refine bv_aload_n dX12_next_148 0 rfl ?_
                        refine bv_iload_n dX12_next_149 1 rfl ?_
                        refine bz_putI hN okL_164 dX12_next_150 fl_12_184 rfl ?_
                        refine bv_aload_n dX12_next_153 0 rfl ?_
                        refine bv_dup dX12_next_154 rfl ?_
                        refine bz_getI hN okL_164 dX12_next_155 fl_12_21 rfl ?_
                        refine bv_iconst (v := 1) dX12_next_158 (by decide) ?_
                        refine bv_iadd dX12_next_159 ?_
                        refine bz_putI hN okL_164 dX12_next_160 fl_12_21 rfl ?_
                        obtain rfl := Option.some.inj h
                        exact bv_vret dX12_next_163 rfl ⟨rfl, rfl⟩
                      · replace h := bu_f h cc
                        refine bv_iconst (v := 3) dX12_next_140 (by decide) ?_
                        refine bv_goto (tgt := 145) dX12_next_141 (by decide) ?_
                        refine bz_putI hN okL_164 dX12_next_145 fl_12_174 rfl ?_
                        refine bv_aload_n dX12_next_148 0 rfl ?_
                        refine bv_iload_n dX12_next_149 1 rfl ?_
                        refine bz_putI hN okL_164 dX12_next_150 fl_12_184 rfl ?_
                        refine bv_aload_n dX12_next_153 0 rfl ?_
                        refine bv_dup dX12_next_154 rfl ?_
                        refine bz_getI hN okL_164 dX12_next_155 fl_12_21 rfl ?_
                        refine bv_iconst (v := 1) dX12_next_158 (by decide) ?_
                        refine bv_iadd dX12_next_159 ?_
                        refine bz_putI hN okL_164 dX12_next_160 fl_12_21 rfl ?_
                        obtain rfl := Option.some.inj h
                        exact bv_vret dX12_next_163 rfl ⟨rfl, rfl⟩
        · replace h := bu_f h cc
          refine bv_aload_n dX12_next_89 0 rfl ?_
          refine bv_iconst (v := 0) dX12_next_90 (by decide) ?_
          refine bz_putI hN okL_164 dX12_next_91 fl_12_174 rfl ?_
          obtain rfl := Option.some.inj h
          exact bv_vret dX12_next_94 rfl ⟨rfl, rfl⟩
      · replace h := bu_f h cc
        refine bv_aload_n dX12_next_66 0 rfl ?_
        refine bv_aload_n dX12_next_67 0 rfl ?_
        refine bz_getI hN okL_164 dX12_next_68 fl_12_24 rfl ?_
        refine bz_putI hN okL_164 dX12_next_71 fl_12_168 rfl ?_
        refine bv_aload_n dX12_next_74 0 rfl ?_
        refine bv_iconst (v := 4) dX12_next_75 (by decide) ?_
        refine bz_putI hN okL_164 dX12_next_76 fl_12_174 rfl ?_
        obtain rfl := Option.some.inj h
        exact bv_vret dX12_next_79 rfl ⟨rfl, rfl⟩
