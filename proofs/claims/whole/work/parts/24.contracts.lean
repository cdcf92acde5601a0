def f_X12_bad (I : bm_TI) (x1 : Int32) : Option (Bool × bm_TI) := some (false, (bm_uI (bm_uI I 164 15 x1) 164 16 ((bm_uI I 164 15 x1) 164 12)))
set_option maxHeartbeats 4000000 in
set_option maxRecDepth 100000 in
theorem c_X12_bad {lc : bm_L} {d n : Nat} {I : bm_TI} {J : bm_TJ} {R W : bm_TR} {x1 : Int32} {v : Bool × bm_TI} (hN : 181 ≤ n) (hR : bm_RR R) (h : f_X12_bad I x1 = some v) : bm_C lc m_X12_bad d n n [.ref 164, .int x1] (I, J, R, W) (fun r M' => r = some (.int (bm_bi v.1)) ∧ M' = (v.2, J, R, W)) := by
  refine bm_C.ofV (by decide) (Nat.le_of_ble_eq_true rfl) ?_
  show bm_V lc m_X12_bad d n n n 0 [(0, .ref 164), (1, .int x1)] [] (I, J, R, W) _
  unfold f_X12_bad at h
  refine bv_aload_n dX12_bad_0 0 rfl ?_
  refine bv_iload_n dX12_bad_1 1 rfl ?_
  refine bz_putI hN okL_164 dX12_bad_2 fl_12_191 rfl ?_
  refine bv_aload_n dX12_bad_5 0 rfl ?_
  refine bv_aload_n dX12_bad_6 0 rfl ?_
  refine bz_getI hN okL_164 dX12_bad_7 fl_12_168 rfl ?_
  refine bz_putI hN okL_164 dX12_bad_10 fl_12_194 rfl ?_
  refine bv_iconst (v := 0) dX12_bad_13 (by decide) ?_
  obtain rfl := Option.some.inj h
  exact bw_bret (b := false) dX12_bad_14 rfl ⟨rfl, rfl⟩
def f_X12_isWord (I : bm_TI) (J : bm_TJ) (x1 : Int64) : Option (Bool) := (if (I 164 11) = 1 then (if (lg_cmp (J 164 17) x1) = 0 then some true else some false) else some false)
set_option maxHeartbeats 4000000 in
set_option maxRecDepth 100000 in
theorem c_X12_isWord {lc : bm_L} {d n : Nat} {I : bm_TI} {J : bm_TJ} {R W : bm_TR} {x1 : Int64} {v : Bool} (hN : 181 ≤ n) (hR : bm_RR R) (h : f_X12_isWord I J x1 = some v) : bm_C lc m_X12_isWord d n n [.ref 164, .long x1] (I, J, R, W) (fun r M' => r = some (.int (bm_bi v)) ∧ M' = (I, J, R, W)) := by
  refine bm_C.ofV (by decide) (Nat.le_of_ble_eq_true rfl) ?_
  show bm_V lc m_X12_isWord d n n n 0 [(0, .ref 164), (1, .long x1)] [] (I, J, R, W) _
  unfold f_X12_isWord at h
  refine bv_aload_n dX12_isWord_0 0 rfl ?_
  refine bz_getI hN okL_164 dX12_isWord_1 fl_12_174 rfl ?_
  refine bv_iconst (v := 1) dX12_isWord_4 (by decide) ?_
  refine bv_icmp_ne (tgt := 21) dX12_isWord_5 (by decide) (fun cc => ?_) (fun cc => ?_)
  · replace h := bu_f h cc
    refine bv_iconst (v := 0) dX12_isWord_21 (by decide) ?_
    obtain rfl := Option.some.inj h
    exact bw_bret (b := false) dX12_isWord_22 rfl ⟨rfl, rfl⟩
  · replace h := bu_t h cc
    refine bv_aload_n dX12_isWord_8 0 rfl ?_
    refine bz_getJ hN okL_164 dX12_isWord_9 fl_12_187 rfl ?_
    refine bv_lload_n dX12_isWord_12 1 rfl ?_
    refine bv_lcmp dX12_isWord_13 ?_
    refine bv_if_ne (tgt := 21) dX12_isWord_14 (by decide) (fun cc => ?_) (fun cc => ?_)
    · replace h := bu_f h cc
      refine bv_iconst (v := 0) dX12_isWord_21 (by decide) ?_
      obtain rfl := Option.some.inj h
      exact bw_bret (b := false) dX12_isWord_22 rfl ⟨rfl, rfl⟩
    · replace h := bu_t h cc
      refine bv_iconst (v := 1) dX12_isWord_17 (by decide) ?_
      refine bv_goto (tgt := 22) dX12_isWord_18 (by decide) ?_
      obtain rfl := Option.some.inj h
      exact bw_bret (b := true) dX12_isWord_22 rfl ⟨rfl, rfl⟩
def f_X12_isSign (I : bm_TI) (x1 : Int32) : Option (Bool) := (if (I 164 11) = 3 then (if (I 164 14) = x1 then some true else some false) else some false)
set_option maxHeartbeats 4000000 in
set_option maxRecDepth 100000 in
theorem c_X12_isSign {lc : bm_L} {d n : Nat} {I : bm_TI} {J : bm_TJ} {R W : bm_TR} {x1 : Int32} {v : Bool} (hN : 181 ≤ n) (hR : bm_RR R) (h : f_X12_isSign I x1 = some v) : bm_C lc m_X12_isSign d n n [.ref 164, .int x1] (I, J, R, W) (fun r M' => r = some (.int (bm_bi v)) ∧ M' = (I, J, R, W)) := by
  refine bm_C.ofV (by decide) (Nat.le_of_ble_eq_true rfl) ?_
  show bm_V lc m_X12_isSign d n n n 0 [(0, .ref 164), (1, .int x1)] [] (I, J, R, W) _
  unfold f_X12_isSign at h
  refine bv_aload_n dX12_isSign_0 0 rfl ?_
  refine bz_getI hN okL_164 dX12_isSign_1 fl_12_174 rfl ?_
  refine bv_iconst (v := 3) dX12_isSign_4 (by decide) ?_
  refine bv_icmp_ne (tgt := 20) dX12_isSign_5 (by decide) (fun cc => ?_) (fun cc => ?_)
  · replace h := bu_f h cc
    refine bv_iconst (v := 0) dX12_isSign_20 (by decide) ?_
    obtain rfl := Option.some.inj h
    exact bw_bret (b := false) dX12_isSign_21 rfl ⟨rfl, rfl⟩
  · replace h := bu_t h cc
    refine bv_aload_n dX12_isSign_8 0 rfl ?_
    refine bz_getI hN okL_164 dX12_isSign_9 fl_12_184 rfl ?_
    refine bv_iload_n dX12_isSign_12 1 rfl ?_
    refine bv_icmp_ne (tgt := 20) dX12_isSign_13 (by decide) (fun cc => ?_) (fun cc => ?_)
    · replace h := bu_f h cc
      refine bv_iconst (v := 0) dX12_isSign_20 (by decide) ?_
      obtain rfl := Option.some.inj h
      exact bw_bret (b := false) dX12_isSign_21 rfl ⟨rfl, rfl⟩
    · replace h := bu_t h cc
      refine bv_iconst (v := 1) dX12_isSign_16 (by decide) ?_
      refine bv_goto (tgt := 21) dX12_isSign_17 (by decide) ?_
      obtain rfl := Option.some.inj h
      exact bw_bret (b := true) dX12_isSign_21 rfl ⟨rfl, rfl⟩
def f_X12_sign (I : bm_TI) (J : bm_TJ) (x1 : Int32) : Option (Bool × bm_TI × bm_TJ) := ((f_X12_isSign I x1).bind fun v1 => (if v1 = true then ((f_X12_next I J).bind fun v3 => some (true, v3.1, v3.2)) else ((f_X12_bad I 1).bind fun v5 => some (v5.1, v5.2, J))))
set_option maxHeartbeats 4000000 in
set_option maxRecDepth 100000 in
theorem c_X12_sign {lc : bm_L} {d n : Nat} {I : bm_TI} {J : bm_TJ} {R W : bm_TR} {x1 : Int32} {v : Bool × bm_TI × bm_TJ} (hN : 181 ≤ n) (hR : bm_RR R) (h : f_X12_sign I J x1 = some v) : bm_C lc m_X12_sign (d + 2) n n [.ref 164, .int x1] (I, J, R, W) (fun r M' => r = some (.int (bm_bi v.1)) ∧ M' = (v.2.1, v.2.2, R, W)) := by
  refine bm_C.ofV (by decide) (Nat.le_of_ble_eq_true rfl) ?_
  show bm_V lc m_X12_sign (d + 2) n n n 0 [(0, .ref 164), (1, .int x1)] [] (I, J, R, W) _
  unfold f_X12_sign at h
  refine bv_aload_n dX12_sign_0 0 rfl ?_
  refine bv_iload_n dX12_sign_1 1 rfl ?_
  obtain ⟨v1, p2, h⟩ := bu_bd h
  refine bw_callV (As := [.int x1]) hN okL_164 ⟨_, _, rfl⟩ dX12_sign_2 mc_12_197 (c_X12_isSign (d := d + 1) hN hR p2) rfl rfl (by decide) ?_
  refine bw_ifB_ne (b := v1) (tgt := 14) dX12_sign_5 (by decide) (fun cc => ?_) (fun cc => ?_)
  · replace h := bu_bt h cc
    refine bv_aload_n dX12_sign_14 0 rfl ?_
    obtain ⟨v3, p4, h⟩ := bu_bd h
    refine bw_callVv (As := []) hN okL_164 ⟨_, _, rfl⟩ dX12_sign_15 mc_12_203 (c_X12_next (d := d + 0) hN hR p4) rfl rfl (by decide) ?_
    refine bv_iconst (v := 1) dX12_sign_18 (by decide) ?_
    obtain rfl := Option.some.inj h
    exact bw_bret (b := true) dX12_sign_19 rfl ⟨rfl, rfl⟩
  · replace h := bu_bf h cc
    refine bv_aload_n dX12_sign_8 0 rfl ?_
    refine bv_iconst (v := 1) dX12_sign_9 (by decide) ?_
    obtain ⟨v5, p6, h⟩ := bu_bd h
    refine bw_callV (As := [.int 1]) hN okL_164 ⟨_, _, rfl⟩ dX12_sign_10 mc_12_200 (c_X12_bad (d := d + 1) hN hR p6) rfl rfl (by decide) ?_
    obtain rfl := Option.some.inj h
    exact bw_bret (b := v5.1) dX12_sign_13 rfl ⟨rfl, rfl⟩
def f_X12_isName_l16 (J : bm_TJ) : Nat → Bool → Int32 → Option (Bool)
  | 0, _, _ => none
  | k + 1, x1, x2 => (if 34 ≤ x2 then some x1 else (if x1 = true then (if bm_ix 34 x2 = true then (if (lg_cmp (J 164 17) (J 170 x2.toNatClampNeg)) = 0 then f_X12_isName_l16 J k false (x2 + 1) else f_X12_isName_l16 J k true (x2 + 1)) else none) else f_X12_isName_l16 J k false (x2 + 1)))
set_option maxHeartbeats 4000000 in
set_option maxRecDepth 100000 in
theorem v_X12_isName_l16 {lc : bm_L} {d n : Nat} {Q : Option Value → bm_M → Prop} {R : bm_TR} {I : bm_TI} {J : bm_TJ} {W : bm_TR} (hN : 181 ≤ n) (hR : bm_RR R) : ∀ (k : Nat) (x1 : Bool) (x2 : Int32) (r : Bool), f_X12_isName_l16 J k x1 x2 = some r → (∀ yy, yy = r → bm_V lc m_X12_isName d n n n 52 [(1, .int (bm_bi yy))] [] (I, J, R, W) Q) → bm_V lc m_X12_isName d n n n 16 [(0, .ref 164), (1, .int (bm_bi x1)), (2, .int x2)] [] (I, J, R, W) Q := by
  intro k
  induction k with
  | zero => intro x1 x2 r h; cases (show (none : Option (Bool)) = some r from h)
  | succ k ih =>
    intro x1 x2 r h K0
    unfold f_X12_isName_l16 at h
    refine bv_iload_n dX12_isName_16 2 rfl ?_
    refine bv_bipush (v := 34) dX12_isName_17 (by decide) ?_
    refine bv_icmp_ge (tgt := 52) dX12_isName_19 (by decide) (fun cc => ?_) (fun cc => ?_)
    · replace h := bu_t h cc
      refine bw_ls (ls1 := [(1, .int (bm_bi x1))]) [1] rfl ?_
      obtain rfl := Option.some.inj h
      exact K0 _ rfl
    · replace h := bu_f h cc
      refine bv_iload_n dX12_isName_22 1 rfl ?_
      refine bw_ifB_eq (b := x1) (tgt := 44) dX12_isName_23 (by decide) (fun cc => ?_) (fun cc => ?_)
      · replace h := bu_bf h cc
        refine bv_iconst (v := 0) dX12_isName_44 (by decide) ?_
        refine bv_istore_n (ls1 := [(0, .ref 164), (1, .int 0), (2, .int x2)]) dX12_isName_45 (by decide) rfl rfl ?_
        refine bv_iinc (j := 2) (v := (x2 + 1)) (ls1 := [(0, .ref 164), (1, .int 0), (2, .int (x2 + 1))]) dX12_isName_46 rfl rfl (by decide) rfl rfl ?_
        refine bv_goto (tgt := 16) dX12_isName_49 (by decide) ?_
        exact ih _ _ _ h K0
      · replace h := bu_bt h cc
        refine bv_aload_n dX12_isName_26 0 rfl ?_
        refine bz_getJ hN okL_164 dX12_isName_27 fl_12_187 rfl ?_
        refine bv_aload_n dX12_isName_30 0 rfl ?_
        refine bz_getA (a := 170) hN okL_164 (hR _ _ _ r0_164_10) dX12_isName_31 fl_12_47 rfl ?_
        refine bv_iload_n dX12_isName_34 2 rfl ?_
        obtain ⟨r1, h⟩ := bu_ix h
        refine bz_lald hN rkL_170 r1 rfl dX12_isName_35 ?_
        refine bv_lcmp dX12_isName_36 ?_
        refine bv_if_eq (tgt := 44) dX12_isName_37 (by decide) (fun cc => ?_) (fun cc => ?_)
        · replace h := bu_t h cc
          refine bv_iconst (v := 0) dX12_isName_44 (by decide) ?_
          refine bv_istore_n (ls1 := [(0, .ref 164), (1, .int 0), (2, .int x2)]) dX12_isName_45 (by decide) rfl rfl ?_
          refine bv_iinc (j := 2) (v := (x2 + 1)) (ls1 := [(0, .ref 164), (1, .int 0), (2, .int (x2 + 1))]) dX12_isName_46 rfl rfl (by decide) rfl rfl ?_
          refine bv_goto (tgt := 16) dX12_isName_49 (by decide) ?_
          exact ih _ _ _ h K0
        · replace h := bu_f h cc
          refine bv_iconst (v := 1) dX12_isName_40 (by decide) ?_
          refine bv_goto (tgt := 45) dX12_isName_41 (by decide) ?_
          refine bv_istore_n (ls1 := [(0, .ref 164), (1, .int 1), (2, .int x2)]) dX12_isName_45 (by decide) rfl rfl ?_
          refine bv_iinc (j := 2) (v := (x2 + 1)) (ls1 := [(0, .ref 164), (1, .int 1), (2, .int (x2 + 1))]) dX12_isName_46 rfl rfl (by decide) rfl rfl ?_
          refine bv_goto (tgt := 16) dX12_isName_49 (by decide) ?_
          exact ih _ _ _ h K0
def f_X12_isName (I : bm_TI) (J : bm_TJ) : Option (Bool) := (if (I 164 11) = 1 then ((f_X12_isName_l16 J 1000 true 0).bind fun y6 => some y6) else ((f_X12_isName_l16 J 1000 false 0).bind fun y3 => some y3))
set_option maxHeartbeats 4000000 in
set_option maxRecDepth 100000 in
theorem c_X12_isName {lc : bm_L} {d n : Nat} {I : bm_TI} {J : bm_TJ} {R W : bm_TR} {v : Bool} (hN : 181 ≤ n) (hR : bm_RR R) (h : f_X12_isName I J = some v) : bm_C lc m_X12_isName d n n [.ref 164] (I, J, R, W) (fun r M' => r = some (.int (bm_bi v)) ∧ M' = (I, J, R, W)) := by
  refine bm_C.ofV (by decide) (Nat.le_of_ble_eq_true rfl) ?_
  show bm_V lc m_X12_isName d n n n 0 [(0, .ref 164)] [] (I, J, R, W) _
  unfold f_X12_isName at h
  refine bv_aload_n dX12_isName_0 0 rfl ?_
  refine bz_getI hN okL_164 dX12_isName_1 fl_12_174 rfl ?_
  refine bv_iconst (v := 1) dX12_isName_4 (by decide) ?_
  refine bv_icmp_ne (tgt := 12) dX12_isName_5 (by decide) (fun cc => ?_) (fun cc => ?_)
  · replace h := bu_f h cc
    refine bv_iconst (v := 0) dX12_isName_12 (by decide) ?_
    refine bv_istore_n (ls1 := [(0, .ref 164), (1, .int 0)]) dX12_isName_13 (by decide) rfl rfl ?_
    refine bv_iconst (v := 0) dX12_isName_14 (by decide) ?_
    refine bv_istore_n (ls1 := [(0, .ref 164), (1, .int 0), (2, .int 0)]) dX12_isName_15 (by decide) rfl rfl ?_
    obtain ⟨r1, p2, h⟩ := bu_bd h
    refine v_X12_isName_l16 hN hR 1000 _ _ _ p2 (fun y3 hy => ?_)
    · subst hy
      refine bv_iload_n dX12_isName_52 0 rfl ?_
      obtain rfl := Option.some.inj h
      exact bw_bret (b := y3) dX12_isName_53 rfl ⟨rfl, rfl⟩
  · replace h := bu_t h cc
    refine bv_iconst (v := 1) dX12_isName_8 (by decide) ?_
    refine bv_goto (tgt := 13) dX12_isName_9 (by decide) ?_
    refine bv_istore_n (ls1 := [(0, .ref 164), (1, .int 1)]) dX12_isName_13 (by decide) rfl rfl ?_
    refine bv_iconst (v := 0) dX12_isName_14 (by decide) ?_
    refine bv_istore_n (ls1 := [(0, .ref 164), (1, .int 1), (2, .int 0)]) dX12_isName_15 (by decide) rfl rfl ?_
    obtain ⟨r4, p5, h⟩ := bu_bd h
    refine v_X12_isName_l16 hN hR 1000 _ _ _ p5 (fun y6 hy => ?_)
    · subst hy
      refine bv_iload_n dX12_isName_52 0 rfl ?_
      obtain rfl := Option.some.inj h
      exact bw_bret (b := y6) dX12_isName_53 rfl ⟨rfl, rfl⟩
def f_X12_takes (I : bm_TI) (J : bm_TJ) (x1 : Int32) (x2 : Int32) : Option (Bool × bm_TI × bm_TJ) := (if (I 164 11) = 2 then (if (f_X12_isIn (I 164 14) x1 x2) = true then ((f_X12_next (bm_uI I 164 18 (I 164 14)) J).bind fun v1 => some (true, v1.1, v1.2)) else ((f_X12_bad I 2).bind fun v3 => some (v3.1, v3.2, J))) else ((f_X12_bad I 1).bind fun v5 => some (v5.1, v5.2, J)))
set_option maxHeartbeats 4000000 in
set_option maxRecDepth 100000 in
theorem c_X12_takes {lc : bm_L} {d n : Nat} {I : bm_TI} {J : bm_TJ} {R W : bm_TR} {x1 : Int32} {x2 : Int32} {v : Bool × bm_TI × bm_TJ} (hN : 181 ≤ n) (hR : bm_RR R) (h : f_X12_takes I J x1 x2 = some v) : bm_C lc m_X12_takes (d + 2) n n [.ref 164, .int x1, .int x2] (I, J, R, W) (fun r M' => r = some (.int (bm_bi v.1)) ∧ M' = (v.2.1, v.2.2, R, W)) := by
  refine bm_C.ofV (by decide) (Nat.le_of_ble_eq_true rfl) ?_
  show bm_V lc m_X12_takes (d + 2) n n n 0 [(0, .ref 164), (1, .int x1), (2, .int x2)] [] (I, J, R, W) _
  unfold f_X12_takes at h
  refine bv_aload_n dX12_takes_0 0 rfl ?_
  refine bz_getI hN okL_164 dX12_takes_1 fl_12_174 rfl ?_
  refine bv_iconst (v := 2) dX12_takes_4 (by decide) ?_
  refine bv_icmp_eq (tgt := 14) dX12_takes_5 (by decide) (fun cc => ?_) (fun cc => ?_)
  · replace h := bu_t h cc
    refine bv_aload_n dX12_takes_14 0 rfl ?_
    refine bz_getI hN okL_164 dX12_takes_15 fl_12_184 rfl ?_
    refine bv_iload_n dX12_takes_18 1 rfl ?_
    refine bv_iload_n dX12_takes_19 2 rfl ?_
    refine bw_callS (As := [.int (I 164 14), .int x1, .int x2]) dX12_takes_20 mc_12_206 (c_X12_isIn (d := d + 1) hN hR rfl) rfl rfl (by decide) ?_
    refine bw_ifB_ne (b := (f_X12_isIn (I 164 14) x1 x2)) (tgt := 32) dX12_takes_23 (by decide) (fun cc => ?_) (fun cc => ?_)
    · replace h := bu_bt h cc
      refine bv_aload_n dX12_takes_32 0 rfl ?_
      refine bv_aload_n dX12_takes_33 0 rfl ?_
      refine bz_getI hN okL_164 dX12_takes_34 fl_12_184 rfl ?_
      refine bz_putI hN okL_164 dX12_takes_37 fl_12_210 rfl ?_
      refine bv_aload_n dX12_takes_40 0 rfl ?_
      obtain ⟨v1, p2, h⟩ := bu_bd h
      refine bw_callVv (As := []) hN okL_164 ⟨_, _, rfl⟩ dX12_takes_41 mc_12_203 (c_X12_next (d := d + 0) hN hR p2) rfl rfl (by decide) ?_
      refine bv_iconst (v := 1) dX12_takes_44 (by decide) ?_
      obtain rfl := Option.some.inj h
      exact bw_bret (b := true) dX12_takes_45 rfl ⟨rfl, rfl⟩
    · replace h := bu_bf h cc
      refine bv_aload_n dX12_takes_26 0 rfl ?_
      refine bv_iconst (v := 2) dX12_takes_27 (by decide) ?_
      obtain ⟨v3, p4, h⟩ := bu_bd h
      refine bw_callV (As := [.int 2]) hN okL_164 ⟨_, _, rfl⟩ dX12_takes_28 mc_12_200 (c_X12_bad (d := d + 1) hN hR p4) rfl rfl (by decide) ?_
      obtain rfl := Option.some.inj h
      exact bw_bret (b := v3.1) dX12_takes_31 rfl ⟨rfl, rfl⟩
  · replace h := bu_f h cc
    refine bv_aload_n dX12_takes_8 0 rfl ?_
    refine bv_iconst (v := 1) dX12_takes_9 (by decide) ?_
    obtain ⟨v5, p6, h⟩ := bu_bd h
    refine bw_callV (As := [.int 1]) hN okL_164 ⟨_, _, rfl⟩ dX12_takes_10 mc_12_200 (c_X12_bad (d := d + 1) hN hR p6) rfl rfl (by decide) ?_
    obtain rfl := Option.some.inj h
    exact bw_bret (b := v5.1) dX12_takes_13 rfl ⟨rfl, rfl⟩
def f_X12_puts (I : bm_TI) (J : bm_TJ) (x1 : Int32) (x2 : Int32) (x3 : Int32) : Option (Bool × bm_TI × bm_TJ) := ((f_X12_takes I J x2 x3).bind fun v1 => (if v1.1 = true then (if bm_ix 61 x1 = true then some (true, (bm_uI v1.2.1 167 x1.toNatClampNeg (v1.2.1 164 18)), v1.2.2) else none) else some (false, v1.2.1, v1.2.2)))
set_option maxHeartbeats 4000000 in
set_option maxRecDepth 100000 in
theorem c_X12_puts {lc : bm_L} {d n : Nat} {I : bm_TI} {J : bm_TJ} {R W : bm_TR} {x1 : Int32} {x2 : Int32} {x3 : Int32} {v : Bool × bm_TI × bm_TJ} (hN : 181 ≤ n) (hR : bm_RR R) (h : f_X12_puts I J x1 x2 x3 = some v) : bm_C lc m_X12_puts (d + 3) n n [.ref 164, .int x1, .int x2, .int x3] (I, J, R, W) (fun r M' => r = some (.int (bm_bi v.1)) ∧ M' = (v.2.1, v.2.2, R, W)) := by
  refine bm_C.ofV (by decide) (Nat.le_of_ble_eq_true rfl) ?_
  show bm_V lc m_X12_puts (d + 3) n n n 0 [(0, .ref 164), (1, .int x1), (2, .int x2), (3, .int x3)] [] (I, J, R, W) _
  unfold f_X12_puts at h
  refine bv_aload_n dX12_puts_0 0 rfl ?_
  refine bv_iload_n dX12_puts_1 2 rfl ?_
  refine bv_iload_n dX12_puts_2 3 rfl ?_
  obtain ⟨v1, p2, h⟩ := bu_bd h
  refine bw_callV (As := [.int x2, .int x3]) hN okL_164 ⟨_, _, rfl⟩ dX12_puts_3 mc_12_213 (c_X12_takes (d := d + 0) hN hR p2) rfl rfl (by decide) ?_
  refine bw_ifB_ne (b := v1.1) (tgt := 11) dX12_puts_6 (by decide) (fun cc => ?_) (fun cc => ?_)
  · replace h := bu_bt h cc
    refine bv_aload_n dX12_puts_11 0 rfl ?_
    refine bz_getA (a := 167) hN okL_164 (hR _ _ _ r0_164_7) dX12_puts_12 fl_12_37 rfl ?_
    refine bv_iload_n dX12_puts_15 1 rfl ?_
    refine bv_aload_n dX12_puts_16 0 rfl ?_
    refine bz_getI hN okL_164 dX12_puts_17 fl_12_210 rfl ?_
    obtain ⟨r3, h⟩ := bu_ix h
    refine bz_iast hN rkL_167 r3 rfl dX12_puts_20 ?_
    refine bv_iconst (v := 1) dX12_puts_21 (by decide) ?_
    obtain rfl := Option.some.inj h
    exact bw_bret (b := true) dX12_puts_22 rfl ⟨rfl, rfl⟩
  · replace h := bu_bf h cc
    refine bv_iconst (v := 0) dX12_puts_9 (by decide) ?_
    obtain rfl := Option.some.inj h
    exact bw_bret (b := false) dX12_puts_10 rfl ⟨rfl, rfl⟩
def f_X12_isOneOf_l7 (J : bm_TJ) (x1 : Int32) (x2 : Int32) : Nat → Int32 → bm_TI → Option (bm_TI)
  | 0, _, _ => none
  | k + 1, x3, I => (if x2 ≤ x3 then some I else (if (I 164 11) = 1 then (if bm_ix 34 (x1 + x3) = true then (if (lg_cmp (J 164 17) (J 170 (x1 + x3).toNatClampNeg)) = 0 then f_X12_isOneOf_l7 J x1 x2 k (x3 + 1) (bm_uI I 164 18 x3) else f_X12_isOneOf_l7 J x1 x2 k (x3 + 1) (bm_uI I 164 18 (I 164 18))) else none) else f_X12_isOneOf_l7 J x1 x2 k (x3 + 1) (bm_uI I 164 18 (I 164 18))))
set_option maxHeartbeats 4000000 in
set_option maxRecDepth 100000 in
theorem v_X12_isOneOf_l7 {lc : bm_L} {d n : Nat} {Q : Option Value → bm_M → Prop} {R : bm_TR} {J : bm_TJ} {W : bm_TR} {x1 : Int32} {x2 : Int32} (hN : 181 ≤ n) (hR : bm_RR R) : ∀ (k : Nat) (x3 : Int32) (I : bm_TI) (r : bm_TI), f_X12_isOneOf_l7 J x1 x2 k x3 I = some r → (∀ yy, yy = r → bm_V lc m_X12_isOneOf (d + 1) n n n 54 [(0, .ref 164)] [] (yy, J, R, W) Q) → bm_V lc m_X12_isOneOf (d + 1) n n n 7 [(0, .ref 164), (1, .int x1), (2, .int x2), (3, .int x3)] [] (I, J, R, W) Q := by
  intro k
  induction k with
  | zero => intro x3 I r h; cases (show (none : Option (bm_TI)) = some r from h)
  | succ k ih =>
    intro x3 I r h K0
    unfold f_X12_isOneOf_l7 at h
    refine bv_iload_n dX12_isOneOf_7 3 rfl ?_
    refine bv_iload_n dX12_isOneOf_8 2 rfl ?_
    refine bv_icmp_ge (tgt := 54) dX12_isOneOf_9 (by decide) (fun cc => ?_) (fun cc => ?_)
    · replace h := bu_t h cc
      refine bw_ls (ls1 := [(0, .ref 164)]) [0] rfl ?_
      obtain rfl := Option.some.inj h
      exact K0 _ rfl
    · replace h := bu_f h cc
      refine bv_aload_n dX12_isOneOf_12 0 rfl ?_
      refine bv_aload_n dX12_isOneOf_13 0 rfl ?_
      refine bz_getI hN okL_164 dX12_isOneOf_14 fl_12_174 rfl ?_
      refine bv_iconst (v := 1) dX12_isOneOf_17 (by decide) ?_
      refine bv_icmp_ne (tgt := 41) dX12_isOneOf_18 (by decide) (fun cc => ?_) (fun cc => ?_)
      · replace h := bu_f h cc
        refine bv_aload_n dX12_isOneOf_41 0 rfl ?_
        refine bz_getI hN okL_164 dX12_isOneOf_42 fl_12_210 rfl ?_
        refine bz_putI hN okL_164 dX12_isOneOf_45 fl_12_210 rfl ?_
        refine bv_iinc (j := 3) (v := (x3 + 1)) (ls1 := [(0, .ref 164), (1, .int x1), (2, .int x2), (3, .int (x3 + 1))]) dX12_isOneOf_48 rfl rfl (by decide) rfl rfl ?_
        refine bv_goto (tgt := 7) dX12_isOneOf_51 (by decide) ?_
        exact ih _ _ _ h K0
      · replace h := bu_t h cc
        refine bv_aload_n dX12_isOneOf_21 0 rfl ?_
        refine bz_getJ hN okL_164 dX12_isOneOf_22 fl_12_187 rfl ?_
        refine bv_aload_n dX12_isOneOf_25 0 rfl ?_
        refine bz_getA (a := 170) hN okL_164 (hR _ _ _ r0_164_10) dX12_isOneOf_26 fl_12_47 rfl ?_
        refine bv_iload_n dX12_isOneOf_29 1 rfl ?_
        refine bv_iload_n dX12_isOneOf_30 3 rfl ?_
        refine bv_iadd dX12_isOneOf_31 ?_
        obtain ⟨r1, h⟩ := bu_ix h
        refine bz_lald hN rkL_170 r1 rfl dX12_isOneOf_32 ?_
        refine bv_lcmp dX12_isOneOf_33 ?_
        refine bv_if_ne (tgt := 41) dX12_isOneOf_34 (by decide) (fun cc => ?_) (fun cc => ?_)
        · replace h := bu_f h cc
          refine bv_aload_n dX12_isOneOf_41 0 rfl ?_
          refine bz_getI hN okL_164 dX12_isOneOf_42 fl_12_210 rfl ?_
          refine bz_putI hN okL_164 dX12_isOneOf_45 fl_12_210 rfl ?_
          refine bv_iinc (j := 3) (v := (x3 + 1)) (ls1 := [(0, .ref 164), (1, .int x1), (2, .int x2), (3, .int (x3 + 1))]) dX12_isOneOf_48 rfl rfl (by decide) rfl rfl ?_
          refine bv_goto (tgt := 7) dX12_isOneOf_51 (by decide) ?_
          exact ih _ _ _ h K0
        · replace h := bu_t h cc
          refine bv_iload_n dX12_isOneOf_37 3 rfl ?_
          refine bv_goto (tgt := 45) dX12_isOneOf_38 (by decide) ?_
          refine bz_putI hN okL_164 dX12_isOneOf_45 fl_12_210 rfl ?_
          refine bv_iinc (j := 3) (v := (x3 + 1)) (ls1 := [(0, .ref 164), (1, .int x1), (2, .int x2), (3, .int (x3 + 1))]) dX12_isOneOf_48 rfl rfl (by decide) rfl rfl ?_
          refine bv_goto (tgt := 7) dX12_isOneOf_51 (by decide) ?_
          exact ih _ _ _ h K0
def f_X12_isOneOf (I : bm_TI) (J : bm_TJ) (x1 : Int32) (x2 : Int32) : Option (Bool × bm_TI) := ((f_X12_isOneOf_l7 J x1 x2 1000 0 (bm_uI I 164 18 (-1))).bind fun y3 => (if 0 ≤ (y3 164 18) then some (true, y3) else ((f_X12_bad y3 1).bind fun v4 => (if v4.1 = true then some (true, v4.2) else some (false, v4.2)))))
set_option maxHeartbeats 4000000 in
set_option maxRecDepth 100000 in
theorem c_X12_isOneOf {lc : bm_L} {d n : Nat} {I : bm_TI} {J : bm_TJ} {R W : bm_TR} {x1 : Int32} {x2 : Int32} {v : Bool × bm_TI} (hN : 181 ≤ n) (hR : bm_RR R) (h : f_X12_isOneOf I J x1 x2 = some v) : bm_C lc m_X12_isOneOf (d + 1) n n [.ref 164, .int x1, .int x2] (I, J, R, W) (fun r M' => r = some (.int (bm_bi v.1)) ∧ M' = (v.2, J, R, W)) := by
  refine bm_C.ofV (by decide) (Nat.le_of_ble_eq_true rfl) ?_
  show bm_V lc m_X12_isOneOf (d + 1) n n n 0 [(0, .ref 164), (1, .int x1), (2, .int x2)] [] (I, J, R, W) _
  unfold f_X12_isOneOf at h
  refine bv_aload_n dX12_isOneOf_0 0 rfl ?_
  refine bv_iconst (v := (-1)) dX12_isOneOf_1 (by decide) ?_
  refine bz_putI hN okL_164 dX12_isOneOf_2 fl_12_210 rfl ?_
  refine bv_iconst (v := 0) dX12_isOneOf_5 (by decide) ?_
  refine bv_istore_n (ls1 := [(0, .ref 164), (1, .int x1), (2, .int x2), (3, .int 0)]) dX12_isOneOf_6 (by decide) rfl rfl ?_
  obtain ⟨r1, p2, h⟩ := bu_bd h
  refine v_X12_isOneOf_l7 hN hR 1000 _ _ _ p2 (fun y3 hy => ?_)
  · subst hy
    refine bv_aload_n dX12_isOneOf_54 0 rfl ?_
    refine bz_getI hN okL_164 dX12_isOneOf_55 fl_12_210 rfl ?_
    refine bv_if_ge (tgt := 69) dX12_isOneOf_58 (by decide) (fun cc => ?_) (fun cc => ?_)
    · replace h := bu_t h cc
      refine bv_iconst (v := 1) dX12_isOneOf_69 (by decide) ?_
      refine bv_goto (tgt := 74) dX12_isOneOf_70 (by decide) ?_
      obtain rfl := Option.some.inj h
      exact bw_bret (b := true) dX12_isOneOf_74 rfl ⟨rfl, rfl⟩
    · replace h := bu_f h cc
      refine bv_aload_n dX12_isOneOf_61 0 rfl ?_
      refine bv_iconst (v := 1) dX12_isOneOf_62 (by decide) ?_
      obtain ⟨v4, p5, h⟩ := bu_bd h
      refine bw_callV (As := [.int 1]) hN okL_164 ⟨_, _, rfl⟩ dX12_isOneOf_63 mc_12_200 (c_X12_bad (d := d + 0) hN hR p5) rfl rfl (by decide) ?_
      refine bw_ifB_eq (b := v4.1) (tgt := 73) dX12_isOneOf_66 (by decide) (fun cc => ?_) (fun cc => ?_)
      · replace h := bu_bf h cc
        refine bv_iconst (v := 0) dX12_isOneOf_73 (by decide) ?_
        obtain rfl := Option.some.inj h
        exact bw_bret (b := false) dX12_isOneOf_74 rfl ⟨rfl, rfl⟩
      · replace h := bu_bt h cc
        refine bv_iconst (v := 1) dX12_isOneOf_69 (by decide) ?_
        refine bv_goto (tgt := 74) dX12_isOneOf_70 (by decide) ?_
        obtain rfl := Option.some.inj h
        exact bw_bret (b := true) dX12_isOneOf_74 rfl ⟨rfl, rfl⟩
def f_X12_find_l2 (J : bm_TJ) (x1 : Int32) (x2 : Int32) : Nat → Int32 → Option (((Int32) ⊕ (Unit)))
  | 0, _ => none
  | k + 1, x3 => (if x2 ≤ x3 then some (Sum.inr ()) else (if bm_ix 30 (x1 + x3) = true then (if (lg_cmp (J 169 (x1 + x3).toNatClampNeg) (J 164 17)) = 0 then some (Sum.inl x3) else f_X12_find_l2 J x1 x2 k (x3 + 1)) else none))
set_option maxHeartbeats 4000000 in
set_option maxRecDepth 100000 in
theorem v_X12_find_l2 {lc : bm_L} {d n : Nat} {Q : Option Value → bm_M → Prop} {R : bm_TR} {I : bm_TI} {J : bm_TJ} {W : bm_TR} {x1 : Int32} {x2 : Int32} (hN : 181 ≤ n) (hR : bm_RR R) : ∀ (k : Nat) (x3 : Int32) (r : ((Int32) ⊕ (Unit))), f_X12_find_l2 J x1 x2 k x3 = some r → (∀ yy, (Sum.inl yy) = r → bm_V lc m_X12_find d n n n 23 [(3, .int yy)] [] (I, J, R, W) Q) → (∀ yy, (Sum.inr yy) = r → bm_V lc m_X12_find d n n n 31 [] [] (I, J, R, W) Q) → bm_V lc m_X12_find d n n n 2 [(0, .ref 164), (1, .int x1), (2, .int x2), (3, .int x3)] [] (I, J, R, W) Q := by
  intro k
  induction k with
  | zero => intro x3 r h; cases (show (none : Option (((Int32) ⊕ (Unit)))) = some r from h)
  | succ k ih =>
    intro x3 r h K0 K1
    unfold f_X12_find_l2 at h
    refine bv_iload_n dX12_find_2 3 rfl ?_
    refine bv_iload_n dX12_find_3 2 rfl ?_
    refine bv_icmp_ge (tgt := 31) dX12_find_4 (by decide) (fun cc => ?_) (fun cc => ?_)
    · replace h := bu_t h cc
      refine bw_ls (ls1 := []) [] rfl ?_
      obtain rfl := Option.some.inj h
      exact K1 _ rfl
    · replace h := bu_f h cc
      refine bv_aload_n dX12_find_7 0 rfl ?_
      refine bz_getA (a := 169) hN okL_164 (hR _ _ _ r0_164_9) dX12_find_8 fl_12_43 rfl ?_
      refine bv_iload_n dX12_find_11 1 rfl ?_
      refine bv_iload_n dX12_find_12 3 rfl ?_
      refine bv_iadd dX12_find_13 ?_
      obtain ⟨r1, h⟩ := bu_ix h
      refine bz_lald hN rkL_169 r1 rfl dX12_find_14 ?_
      refine bv_aload_n dX12_find_15 0 rfl ?_
      refine bz_getJ hN okL_164 dX12_find_16 fl_12_187 rfl ?_
      refine bv_lcmp dX12_find_19 ?_
      refine bv_if_ne (tgt := 25) dX12_find_20 (by decide) (fun cc => ?_) (fun cc => ?_)
      · replace h := bu_f h cc
        refine bv_iinc (j := 3) (v := (x3 + 1)) (ls1 := [(0, .ref 164), (1, .int x1), (2, .int x2), (3, .int (x3 + 1))]) dX12_find_25 rfl rfl (by decide) rfl rfl ?_
        refine bv_goto (tgt := 2) dX12_find_28 (by decide) ?_
        exact ih _ _ h K0 K1
      · replace h := bu_t h cc
        refine bw_ls (ls1 := [(3, .int x3)]) [3] rfl ?_
        obtain rfl := Option.some.inj h
        exact K0 _ rfl
def f_X12_find (J : bm_TJ) (x1 : Int32) (x2 : Int32) : Option (Int32) := ((f_X12_find_l2 J x1 x2 1000 0).bind fun rr => match rr with | (Sum.inl y3) => some y3 | (Sum.inr y3) => some (-1))
set_option maxHeartbeats 4000000 in
set_option maxRecDepth 100000 in
theorem c_X12_find {lc : bm_L} {d n : Nat} {I : bm_TI} {J : bm_TJ} {R W : bm_TR} {x1 : Int32} {x2 : Int32} {v : Int32} (hN : 181 ≤ n) (hR : bm_RR R) (h : f_X12_find J x1 x2 = some v) : bm_C lc m_X12_find d n n [.ref 164, .int x1, .int x2] (I, J, R, W) (fun r M' => r = some (.int v) ∧ M' = (I, J, R, W)) := by
  refine bm_C.ofV (by decide) (Nat.le_of_ble_eq_true rfl) ?_
  show bm_V lc m_X12_find d n n n 0 [(0, .ref 164), (1, .int x1), (2, .int x2)] [] (I, J, R, W) _
  unfold f_X12_find at h
  refine bv_iconst (v := 0) dX12_find_0 (by decide) ?_
  refine bv_istore_n (ls1 := [(0, .ref 164), (1, .int x1), (2, .int x2), (3, .int 0)]) dX12_find_1 (by decide) rfl rfl ?_
  obtain ⟨r1, p2, h⟩ := bu_bd h
  refine v_X12_find_l2 hN hR 1000 _ _ p2 (fun y3 hy => ?_) (fun y3 hy => ?_)
  · subst hy
    refine bv_iload_n dX12_find_23 0 rfl ?_
    obtain rfl := Option.some.inj h
    exact bv_iret (x := y3) dX12_find_24 rfl ⟨rfl, rfl⟩
  · subst hy
    refine bv_iconst (v := (-1)) dX12_find_31 (by decide) ?_
    obtain rfl := Option.some.inj h
    exact bv_iret (x := (-1)) dX12_find_32 rfl ⟨rfl, rfl⟩
def f_X12_fresh (I : bm_TI) (J : bm_TJ) (x1 : Int32) : Option (Bool × bm_TI × bm_TJ) := ((f_X12_isName I J).bind fun v1 => (if v1 = true then ((f_X12_find J 15 (I 167 0)).bind fun v3 => (if 0 ≤ v3 then ((f_X12_bad I 3).bind fun v5 => some (v5.1, v5.2, J)) else ((f_X12_find J 23 (I 167 1)).bind fun v7 => (if v7 < 0 then (if bm_ix 30 x1 = true then ((f_X12_next I (bm_uJ J 169 x1.toNatClampNeg (J 164 17))).bind fun v10 => some (true, v10.1, v10.2)) else none) else ((f_X12_bad I 3).bind fun v12 => some (v12.1, v12.2, J)))))) else ((f_X12_bad I 1).bind fun v14 => some (v14.1, v14.2, J))))
set_option maxHeartbeats 4000000 in
set_option maxRecDepth 100000 in
theorem c_X12_fresh {lc : bm_L} {d n : Nat} {I : bm_TI} {J : bm_TJ} {R W : bm_TR} {x1 : Int32} {v : Bool × bm_TI × bm_TJ} (hN : 181 ≤ n) (hR : bm_RR R) (h : f_X12_fresh I J x1 = some v) : bm_C lc m_X12_fresh (d + 2) n n [.ref 164, .int x1] (I, J, R, W) (fun r M' => r = some (.int (bm_bi v.1)) ∧ M' = (v.2.1, v.2.2, R, W)) := by
  refine bm_C.ofV (by decide) (Nat.le_of_ble_eq_true rfl) ?_
  show bm_V lc m_X12_fresh (d + 2) n n n 0 [(0, .ref 164), (1, .int x1)] [] (I, J, R, W) _
  unfold f_X12_fresh at h
  refine bv_aload_n dX12_fresh_0 0 rfl ?_
  obtain ⟨v1, p2, h⟩ := bu_bd h
  refine bw_callV (As := []) hN okL_164 ⟨_, _, rfl⟩ dX12_fresh_1 mc_12_217 (c_X12_isName (d := d + 1) hN hR p2) rfl rfl (by decide) ?_
  refine bw_ifB_ne (b := v1) (tgt := 13) dX12_fresh_4 (by decide) (fun cc => ?_) (fun cc => ?_)
  · replace h := bu_bt h cc
    refine bv_aload_n dX12_fresh_13 0 rfl ?_
    refine bv_bipush (v := 15) dX12_fresh_14 (by decide) ?_
    refine bv_aload_n dX12_fresh_16 0 rfl ?_
    refine bz_getA (a := 167) hN okL_164 (hR _ _ _ r0_164_7) dX12_fresh_17 fl_12_37 rfl ?_
    refine bv_iconst (v := 0) dX12_fresh_20 (by decide) ?_
    refine bz_iald (j := 0) hN rkL_167 (bm_ix_in (by decide)) (by decide) dX12_fresh_21 ?_
    obtain ⟨v3, p4, h⟩ := bu_bd h
    refine bw_callV (As := [.int 15, .int (I 167 0)]) hN okL_164 ⟨_, _, rfl⟩ dX12_fresh_22 mc_12_221 (c_X12_find (d := d + 1) hN hR p4) rfl rfl (by decide) ?_
    refine bv_if_ge (tgt := 43) dX12_fresh_25 (by decide) (fun cc => ?_) (fun cc => ?_)
    · replace h := bu_t h cc
      refine bv_aload_n dX12_fresh_43 0 rfl ?_
      refine bv_iconst (v := 3) dX12_fresh_44 (by decide) ?_
      obtain ⟨v5, p6, h⟩ := bu_bd h
      refine bw_callV (As := [.int 3]) hN okL_164 ⟨_, _, rfl⟩ dX12_fresh_45 mc_12_200 (c_X12_bad (d := d + 1) hN hR p6) rfl rfl (by decide) ?_
      obtain rfl := Option.some.inj h
      exact bw_bret (b := v5.1) dX12_fresh_48 rfl ⟨rfl, rfl⟩
    · replace h := bu_f h cc
      refine bv_aload_n dX12_fresh_28 0 rfl ?_
      refine bv_bipush (v := 23) dX12_fresh_29 (by decide) ?_
      refine bv_aload_n dX12_fresh_31 0 rfl ?_
      refine bz_getA (a := 167) hN okL_164 (hR _ _ _ r0_164_7) dX12_fresh_32 fl_12_37 rfl ?_
      refine bv_iconst (v := 1) dX12_fresh_35 (by decide) ?_
      refine bz_iald (j := 1) hN rkL_167 (bm_ix_in (by decide)) (by decide) dX12_fresh_36 ?_
      obtain ⟨v7, p8, h⟩ := bu_bd h
      refine bw_callV (As := [.int 23, .int (I 167 1)]) hN okL_164 ⟨_, _, rfl⟩ dX12_fresh_37 mc_12_221 (c_X12_find (d := d + 1) hN hR p8) rfl rfl (by decide) ?_
      refine bv_if_lt (tgt := 49) dX12_fresh_40 (by decide) (fun cc => ?_) (fun cc => ?_)
      · replace h := bu_t h cc
        refine bv_aload_n dX12_fresh_49 0 rfl ?_
        refine bz_getA (a := 169) hN okL_164 (hR _ _ _ r0_164_9) dX12_fresh_50 fl_12_43 rfl ?_
        refine bv_iload_n dX12_fresh_53 1 rfl ?_
        refine bv_aload_n dX12_fresh_54 0 rfl ?_
        refine bz_getJ hN okL_164 dX12_fresh_55 fl_12_187 rfl ?_
        obtain ⟨r9, h⟩ := bu_ix h
        refine bz_last hN rkL_169 r9 rfl dX12_fresh_58 ?_
        refine bv_aload_n dX12_fresh_59 0 rfl ?_
        obtain ⟨v10, p11, h⟩ := bu_bd h
        refine bw_callVv (As := []) hN okL_164 ⟨_, _, rfl⟩ dX12_fresh_60 mc_12_203 (c_X12_next (d := d + 0) hN hR p11) rfl rfl (by decide) ?_
        refine bv_iconst (v := 1) dX12_fresh_63 (by decide) ?_
        obtain rfl := Option.some.inj h
        exact bw_bret (b := true) dX12_fresh_64 rfl ⟨rfl, rfl⟩
      · replace h := bu_f h cc
        refine bv_aload_n dX12_fresh_43 0 rfl ?_
        refine bv_iconst (v := 3) dX12_fresh_44 (by decide) ?_
        obtain ⟨v12, p13, h⟩ := bu_bd h
        refine bw_callV (As := [.int 3]) hN okL_164 ⟨_, _, rfl⟩ dX12_fresh_45 mc_12_200 (c_X12_bad (d := d + 1) hN hR p13) rfl rfl (by decide) ?_
        obtain rfl := Option.some.inj h
        exact bw_bret (b := v12.1) dX12_fresh_48 rfl ⟨rfl, rfl⟩
  · replace h := bu_bf h cc
    refine bv_aload_n dX12_fresh_7 0 rfl ?_
    refine bv_iconst (v := 1) dX12_fresh_8 (by decide) ?_
    obtain ⟨v14, p15, h⟩ := bu_bd h
    refine bw_callV (As := [.int 1]) hN okL_164 ⟨_, _, rfl⟩ dX12_fresh_9 mc_12_200 (c_X12_bad (d := d + 1) hN hR p15) rfl rfl (by decide) ?_
    obtain rfl := Option.some.inj h
    exact bw_bret (b := v14.1) dX12_fresh_12 rfl ⟨rfl, rfl⟩
def f_X12_looksAt (I : bm_TI) (J : bm_TJ) (x1 : Int32) (x2 : Int32) : Option (Bool × bm_TI) := ((f_X12_isName I J).bind fun v1 => (if v1 = true then ((f_X12_find J x1 x2).bind fun v3 => (if 0 ≤ ((bm_uI I 164 18 v3) 164 18) then some (true, (bm_uI I 164 18 v3)) else ((f_X12_bad (bm_uI I 164 18 v3) 3).bind fun v5 => (if v5.1 = true then some (true, v5.2) else some (false, v5.2))))) else ((f_X12_bad I 1).bind fun v7 => some (v7.1, v7.2))))
set_option maxHeartbeats 4000000 in
set_option maxRecDepth 100000 in
theorem c_X12_looksAt {lc : bm_L} {d n : Nat} {I : bm_TI} {J : bm_TJ} {R W : bm_TR} {x1 : Int32} {x2 : Int32} {v : Bool × bm_TI} (hN : 181 ≤ n) (hR : bm_RR R) (h : f_X12_looksAt I J x1 x2 = some v) : bm_C lc m_X12_looksAt (d + 1) n n [.ref 164, .int x1, .int x2] (I, J, R, W) (fun r M' => r = some (.int (bm_bi v.1)) ∧ M' = (v.2, J, R, W)) := by
  refine bm_C.ofV (by decide) (Nat.le_of_ble_eq_true rfl) ?_
  show bm_V lc m_X12_looksAt (d + 1) n n n 0 [(0, .ref 164), (1, .int x1), (2, .int x2)] [] (I, J, R, W) _
  unfold f_X12_looksAt at h
  refine bv_aload_n dX12_looksAt_0 0 rfl ?_
  obtain ⟨v1, p2, h⟩ := bu_bd h
  refine bw_callV (As := []) hN okL_164 ⟨_, _, rfl⟩ dX12_looksAt_1 mc_12_217 (c_X12_isName (d := d + 0) hN hR p2) rfl rfl (by decide) ?_
  refine bw_ifB_ne (b := v1) (tgt := 13) dX12_looksAt_4 (by decide) (fun cc => ?_) (fun cc => ?_)
  · replace h := bu_bt h cc
    refine bv_aload_n dX12_looksAt_13 0 rfl ?_
    refine bv_aload_n dX12_looksAt_14 0 rfl ?_
    refine bv_iload_n dX12_looksAt_15 1 rfl ?_
    refine bv_iload_n dX12_looksAt_16 2 rfl ?_
    obtain ⟨v3, p4, h⟩ := bu_bd h
    refine bw_callV (As := [.int x1, .int x2]) hN okL_164 ⟨_, _, rfl⟩ dX12_looksAt_17 mc_12_221 (c_X12_find (d := d + 0) hN hR p4) rfl rfl (Nat.le_of_ble_eq_true rfl) ?_
    refine bz_putI hN okL_164 dX12_looksAt_20 fl_12_210 rfl ?_
    refine bv_aload_n dX12_looksAt_23 0 rfl ?_
    refine bz_getI hN okL_164 dX12_looksAt_24 fl_12_210 rfl ?_
    refine bv_if_ge (tgt := 38) dX12_looksAt_27 (by decide) (fun cc => ?_) (fun cc => ?_)
    · replace h := bu_t h cc
      refine bv_iconst (v := 1) dX12_looksAt_38 (by decide) ?_
      refine bv_goto (tgt := 43) dX12_looksAt_39 (by decide) ?_
      obtain rfl := Option.some.inj h
      exact bw_bret (b := true) dX12_looksAt_43 rfl ⟨rfl, rfl⟩
    · replace h := bu_f h cc
      refine bv_aload_n dX12_looksAt_30 0 rfl ?_
      refine bv_iconst (v := 3) dX12_looksAt_31 (by decide) ?_
      obtain ⟨v5, p6, h⟩ := bu_bd h
      refine bw_callV (As := [.int 3]) hN okL_164 ⟨_, _, rfl⟩ dX12_looksAt_32 mc_12_200 (c_X12_bad (d := d + 0) hN hR p6) rfl rfl (by decide) ?_
      refine bw_ifB_eq (b := v5.1) (tgt := 42) dX12_looksAt_35 (by decide) (fun cc => ?_) (fun cc => ?_)
      · replace h := bu_bf h cc
        refine bv_iconst (v := 0) dX12_looksAt_42 (by decide) ?_
        obtain rfl := Option.some.inj h
        exact bw_bret (b := false) dX12_looksAt_43 rfl ⟨rfl, rfl⟩
      · replace h := bu_bt h cc
        refine bv_iconst (v := 1) dX12_looksAt_38 (by decide) ?_
        refine bv_goto (tgt := 43) dX12_looksAt_39 (by decide) ?_
        obtain rfl := Option.some.inj h
        exact bw_bret (b := true) dX12_looksAt_43 rfl ⟨rfl, rfl⟩
  · replace h := bu_bf h cc
    refine bv_aload_n dX12_looksAt_7 0 rfl ?_
    refine bv_iconst (v := 1) dX12_looksAt_8 (by decide) ?_
    obtain ⟨v7, p8, h⟩ := bu_bd h
    refine bw_callV (As := [.int 1]) hN okL_164 ⟨_, _, rfl⟩ dX12_looksAt_9 mc_12_200 (c_X12_bad (d := d + 0) hN hR p8) rfl rfl (by decide) ?_
    obtain rfl := Option.some.inj h
    exact bw_bret (b := v7.1) dX12_looksAt_12 rfl ⟨rfl, rfl⟩
def f_X12_takesName (I : bm_TI) (J : bm_TJ) (x1 : Int32) (x2 : Int32) : Option (Bool × bm_TI × bm_TJ) := ((f_X12_looksAt I J x1 x2).bind fun v1 => (if v1.1 = true then ((f_X12_next v1.2 J).bind fun v3 => some (true, v3.1, v3.2)) else some (false, v1.2, J)))
set_option maxHeartbeats 4000000 in
set_option maxRecDepth 100000 in
theorem c_X12_takesName {lc : bm_L} {d n : Nat} {I : bm_TI} {J : bm_TJ} {R W : bm_TR} {x1 : Int32} {x2 : Int32} {v : Bool × bm_TI × bm_TJ} (hN : 181 ≤ n) (hR : bm_RR R) (h : f_X12_takesName I J x1 x2 = some v) : bm_C lc m_X12_takesName (d + 2) n n [.ref 164, .int x1, .int x2] (I, J, R, W) (fun r M' => r = some (.int (bm_bi v.1)) ∧ M' = (v.2.1, v.2.2, R, W)) := by
  refine bm_C.ofV (by decide) (Nat.le_of_ble_eq_true rfl) ?_
  show bm_V lc m_X12_takesName (d + 2) n n n 0 [(0, .ref 164), (1, .int x1), (2, .int x2)] [] (I, J, R, W) _
  unfold f_X12_takesName at h
  refine bv_aload_n dX12_takesName_0 0 rfl ?_
  refine bv_iload_n dX12_takesName_1 1 rfl ?_
  refine bv_iload_n dX12_takesName_2 2 rfl ?_
  obtain ⟨v1, p2, h⟩ := bu_bd h
  refine bw_callV (As := [.int x1, .int x2]) hN okL_164 ⟨_, _, rfl⟩ dX12_takesName_3 mc_12_225 (c_X12_looksAt (d := d + 0) hN hR p2) rfl rfl (by decide) ?_
  refine bw_ifB_ne (b := v1.1) (tgt := 11) dX12_takesName_6 (by decide) (fun cc => ?_) (fun cc => ?_)
  · replace h := bu_bt h cc
    refine bv_aload_n dX12_takesName_11 0 rfl ?_
    obtain ⟨v3, p4, h⟩ := bu_bd h
    refine bw_callVv (As := []) hN okL_164 ⟨_, _, rfl⟩ dX12_takesName_12 mc_12_203 (c_X12_next (d := d + 0) hN hR p4) rfl rfl (by decide) ?_
    refine bv_iconst (v := 1) dX12_takesName_15 (by decide) ?_
    obtain rfl := Option.some.inj h
    exact bw_bret (b := true) dX12_takesName_16 rfl ⟨rfl, rfl⟩
  · replace h := bu_bf h cc
    refine bv_iconst (v := 0) dX12_takesName_9 (by decide) ?_
    obtain rfl := Option.some.inj h
    exact bw_bret (b := false) dX12_takesName_10 rfl ⟨rfl, rfl⟩
def f_X12_once (I : bm_TI) (J : bm_TJ) (x1 : Int32) (x2 : Int32) (x3 : Int32) (x4 : Int32) : Option (Bool × bm_TI × bm_TJ) := (if (f_X12_bitOf (I 164 20) x1) = true then ((f_X12_bad I 3).bind fun v5 => some (v5.1, v5.2, J)) else ((f_X12_next (bm_uI I 164 20 ((I 164 20) ||| (bm_ishl 1 x1))) J).bind fun v1 => ((f_X12_puts v1.1 v1.2 x2 x3 x4).bind fun v3 => some (v3.1, v3.2.1, v3.2.2))))
set_option maxHeartbeats 4000000 in
set_option maxRecDepth 100000 in
theorem c_X12_once {lc : bm_L} {d n : Nat} {I : bm_TI} {J : bm_TJ} {R W : bm_TR} {x1 : Int32} {x2 : Int32} {x3 : Int32} {x4 : Int32} {v : Bool × bm_TI × bm_TJ} (hN : 181 ≤ n) (hR : bm_RR R) (h : f_X12_once I J x1 x2 x3 x4 = some v) : bm_C lc m_X12_once (d + 4) n n [.ref 164, .int x1, .int x2, .int x3, .int x4] (I, J, R, W) (fun r M' => r = some (.int (bm_bi v.1)) ∧ M' = (v.2.1, v.2.2, R, W)) := by
  refine bm_C.ofV (by decide) (Nat.le_of_ble_eq_true rfl) ?_
  show bm_V lc m_X12_once (d + 4) n n n 0 [(0, .ref 164), (1, .int x1), (2, .int x2), (3, .int x3), (4, .int x4)] [] (I, J, R, W) _
  unfold f_X12_once at h
  refine bv_aload_n dX12_once_0 0 rfl ?_
  refine bz_getI hN okL_164 dX12_once_1 fl_12_228 rfl ?_
  refine bv_iload_n dX12_once_4 1 rfl ?_
  refine bw_callS (As := [.int (I 164 20), .int x1]) dX12_once_5 mc_12_231 (c_X12_bitOf (d := d + 3) hN hR rfl) rfl rfl (by decide) ?_
  refine bw_ifB_eq (b := (f_X12_bitOf (I 164 20) x1)) (tgt := 17) dX12_once_8 (by decide) (fun cc => ?_) (fun cc => ?_)
  · replace h := bu_bf h cc
    refine bv_aload_n dX12_once_17 0 rfl ?_
    refine bv_dup dX12_once_18 rfl ?_
    refine bz_getI hN okL_164 dX12_once_19 fl_12_228 rfl ?_
    refine bv_iconst (v := 1) dX12_once_22 (by decide) ?_
    refine bv_iload_n dX12_once_23 1 rfl ?_
    refine bv_ishl dX12_once_24 ?_
    refine bv_ior dX12_once_25 ?_
    refine bz_putI hN okL_164 dX12_once_26 fl_12_228 rfl ?_
    refine bv_aload_n dX12_once_29 0 rfl ?_
    obtain ⟨v1, p2, h⟩ := bu_bd h
    refine bw_callVv (As := []) hN okL_164 ⟨_, _, rfl⟩ dX12_once_30 mc_12_203 (c_X12_next (d := d + 2) hN hR p2) rfl rfl (by decide) ?_
    refine bv_aload_n dX12_once_33 0 rfl ?_
    refine bv_iload_n dX12_once_34 2 rfl ?_
    refine bv_iload_n dX12_once_35 3 rfl ?_
    refine bv_iload dX12_once_36 4 rfl ?_
    obtain ⟨v3, p4, h⟩ := bu_bd h
    refine bw_callV (As := [.int x2, .int x3, .int x4]) hN okL_164 ⟨_, _, rfl⟩ dX12_once_38 mc_12_234 (c_X12_puts (d := d + 0) hN hR p4) rfl rfl (by decide) ?_
    obtain rfl := Option.some.inj h
    exact bw_bret (b := v3.1) dX12_once_41 rfl ⟨rfl, rfl⟩
  · replace h := bu_bt h cc
    refine bv_aload_n dX12_once_11 0 rfl ?_
    refine bv_iconst (v := 3) dX12_once_12 (by decide) ?_
    obtain ⟨v5, p6, h⟩ := bu_bd h
    refine bw_callV (As := [.int 3]) hN okL_164 ⟨_, _, rfl⟩ dX12_once_13 mc_12_200 (c_X12_bad (d := d + 3) hN hR p6) rfl rfl (by decide) ?_
    obtain rfl := Option.some.inj h
    exact bw_bret (b := v5.1) dX12_once_16 rfl ⟨rfl, rfl⟩
def f_X12_flag (I : bm_TI) (J : bm_TJ) (x1 : Int64) (x3 : Int32) : Option (Int32 × bm_TI × bm_TJ) := ((f_X12_isWord I J x1).bind fun v1 => (if v1 = true then ((f_X12_next I J).bind fun v3 => some ((bm_ishl 1 x3), v3.1, v3.2)) else some (0, I, J)))
set_option maxHeartbeats 4000000 in
set_option maxRecDepth 100000 in
theorem c_X12_flag {lc : bm_L} {d n : Nat} {I : bm_TI} {J : bm_TJ} {R W : bm_TR} {x1 : Int64} {x3 : Int32} {v : Int32 × bm_TI × bm_TJ} (hN : 181 ≤ n) (hR : bm_RR R) (h : f_X12_flag I J x1 x3 = some v) : bm_C lc m_X12_flag (d + 2) n n [.ref 164, .long x1, .int x3] (I, J, R, W) (fun r M' => r = some (.int v.1) ∧ M' = (v.2.1, v.2.2, R, W)) := by
  refine bm_C.ofV (by decide) (Nat.le_of_ble_eq_true rfl) ?_
  show bm_V lc m_X12_flag (d + 2) n n n 0 [(0, .ref 164), (1, .long x1), (3, .int x3)] [] (I, J, R, W) _
  unfold f_X12_flag at h
  refine bv_aload_n dX12_flag_0 0 rfl ?_
  refine bv_lload_n dX12_flag_1 1 rfl ?_
  obtain ⟨v1, p2, h⟩ := bu_bd h
  refine bw_callV (As := [.long x1]) hN okL_164 ⟨_, _, rfl⟩ dX12_flag_2 mc_12_237 (c_X12_isWord (d := d + 1) hN hR p2) rfl rfl (by decide) ?_
  refine bw_ifB_ne (b := v1) (tgt := 10) dX12_flag_5 (by decide) (fun cc => ?_) (fun cc => ?_)
  · replace h := bu_bt h cc
    refine bv_aload_n dX12_flag_10 0 rfl ?_
    obtain ⟨v3, p4, h⟩ := bu_bd h
    refine bw_callVv (As := []) hN okL_164 ⟨_, _, rfl⟩ dX12_flag_11 mc_12_203 (c_X12_next (d := d + 0) hN hR p4) rfl rfl (by decide) ?_
    refine bv_iconst (v := 1) dX12_flag_14 (by decide) ?_
    refine bv_iload_n dX12_flag_15 2 rfl ?_
    refine bv_ishl dX12_flag_16 ?_
    obtain rfl := Option.some.inj h
    exact bv_iret (x := (bm_ishl 1 x3)) dX12_flag_17 rfl ⟨rfl, rfl⟩
  · replace h := bu_bf h cc
    refine bv_iconst (v := 0) dX12_flag_8 (by decide) ?_
    obtain rfl := Option.some.inj h
    exact bv_iret (x := 0) dX12_flag_9 rfl ⟨rfl, rfl⟩
def f_X12_readMan (I : bm_TI) (J : bm_TJ) : Option (Bool × bm_TI × bm_TJ) := (if (I 167 0) = 8 then ((f_X12_bad I 4).bind fun v15 => some (v15.1, v15.2, J)) else ((f_X12_next I J).bind fun v1 => ((f_X12_fresh v1.1 v1.2 (15 + (I 167 0))).bind fun v3 => (if v3.1 = true then ((f_X12_puts v3.2.1 v3.2.2 (5 + (I 167 0)) 0 30).bind fun v5 => (if v5.1 = true then ((f_X12_puts v5.2.1 v5.2.2 (13 + (I 167 0)) 0 30).bind fun v7 => (if v7.1 = true then ((f_X12_puts v7.2.1 v7.2.2 (21 + (I 167 0)) 0 9).bind fun v9 => (if v9.1 = true then ((f_X12_flag v9.2.1 v9.2.2 117026742756708 (I 167 0)).bind fun v11 => ((f_X12_flag (bm_uI v11.2.1 167 29 ((v9.2.1 167 29) ||| v11.1)) v11.2.2 1735550329 (I 167 0)).bind fun v13 => some (true, (bm_uI (bm_uI v13.2.1 167 30 (((bm_uI v11.2.1 167 29 ((v9.2.1 167 29) ||| v11.1)) 167 30) ||| v13.1)) 167 0 (((bm_uI v13.2.1 167 30 (((bm_uI v11.2.1 167 29 ((v9.2.1 167 29) ||| v11.1)) 167 30) ||| v13.1)) 167 0) + 1)), v13.2.2))) else some (false, v9.2.1, v9.2.2))) else some (false, v7.2.1, v7.2.2))) else some (false, v5.2.1, v5.2.2))) else some (false, v3.2.1, v3.2.2)))))
set_option maxHeartbeats 4000000 in
set_option maxRecDepth 100000 in
theorem c_X12_readMan {lc : bm_L} {d n : Nat} {I : bm_TI} {J : bm_TJ} {R W : bm_TR} {v : Bool × bm_TI × bm_TJ} (hN : 181 ≤ n) (hR : bm_RR R) (h : f_X12_readMan I J = some v) : bm_C lc m_X12_readMan (d + 4) n n [.ref 164] (I, J, R, W) (fun r M' => r = some (.int (bm_bi v.1)) ∧ M' = (v.2.1, v.2.2, R, W)) := by
  refine bm_C.ofV (by decide) (Nat.le_of_ble_eq_true rfl) ?_
  show bm_V lc m_X12_readMan (d + 4) n n n 0 [(0, .ref 164)] [] (I, J, R, W) _
  unfold f_X12_readMan at h
  refine bv_aload_n dX12_readMan_0 0 rfl ?_
  refine bz_getA (a := 167) hN okL_164 (hR _ _ _ r0_164_7) dX12_readMan_1 fl_12_37 rfl ?_
  refine bv_iconst (v := 0) dX12_readMan_4 (by decide) ?_
  refine bz_iald (j := 0) hN rkL_167 (bm_ix_in (by decide)) (by decide) dX12_readMan_5 ?_
  refine bv_istore_n (ls1 := [(0, .ref 164), (1, .int (I 167 0))]) dX12_readMan_6 (by decide) rfl rfl ?_
  refine bv_iload_n dX12_readMan_7 1 rfl ?_
  refine bv_bipush (v := 8) dX12_readMan_8 (by decide) ?_
  refine bv_icmp_ne (tgt := 19) dX12_readMan_10 (by decide) (fun cc => ?_) (fun cc => ?_)
  · replace h := bu_f h cc
    refine bv_aload_n dX12_readMan_19 0 rfl ?_
    obtain ⟨v1, p2, h⟩ := bu_bd h
    refine bw_callVv (As := []) hN okL_164 ⟨_, _, rfl⟩ dX12_readMan_20 mc_12_203 (c_X12_next (d := d + 2) hN hR p2) rfl rfl (by decide) ?_
    refine bv_aload_n dX12_readMan_23 0 rfl ?_
    refine bv_bipush (v := 15) dX12_readMan_24 (by decide) ?_
    refine bv_iload_n dX12_readMan_26 1 rfl ?_
    refine bv_iadd dX12_readMan_27 ?_
    obtain ⟨v3, p4, h⟩ := bu_bd h
    refine bw_callV (As := [.int (15 + (I 167 0))]) hN okL_164 ⟨_, _, rfl⟩ dX12_readMan_28 mc_12_254 (c_X12_fresh (d := d + 1) hN hR p4) rfl rfl (by decide) ?_
    refine bw_ifB_eq (b := v3.1) (tgt := 75) dX12_readMan_31 (by decide) (fun cc => ?_) (fun cc => ?_)
    · replace h := bu_bf h cc
      refine bv_iconst (v := 0) dX12_readMan_75 (by decide) ?_
      obtain rfl := Option.some.inj h
      exact bw_bret (b := false) dX12_readMan_76 rfl ⟨rfl, rfl⟩
    · replace h := bu_bt h cc
      refine bv_aload_n dX12_readMan_34 0 rfl ?_
      refine bv_iconst (v := 5) dX12_readMan_35 (by decide) ?_
      refine bv_iload_n dX12_readMan_36 1 rfl ?_
      refine bv_iadd dX12_readMan_37 ?_
      refine bv_iconst (v := 0) dX12_readMan_38 (by decide) ?_
      refine bv_bipush (v := 30) dX12_readMan_39 (by decide) ?_
      obtain ⟨v5, p6, h⟩ := bu_bd h
      refine bw_callV (As := [.int (5 + (I 167 0)), .int 0, .int 30]) hN okL_164 ⟨_, _, rfl⟩ dX12_readMan_41 mc_12_234 (c_X12_puts (d := d + 0) hN hR p6) rfl rfl (by decide) ?_
      refine bw_ifB_eq (b := v5.1) (tgt := 75) dX12_readMan_44 (by decide) (fun cc => ?_) (fun cc => ?_)
      · replace h := bu_bf h cc
        refine bv_iconst (v := 0) dX12_readMan_75 (by decide) ?_
        obtain rfl := Option.some.inj h
        exact bw_bret (b := false) dX12_readMan_76 rfl ⟨rfl, rfl⟩
      · replace h := bu_bt h cc
        refine bv_aload_n dX12_readMan_47 0 rfl ?_
        refine bv_bipush (v := 13) dX12_readMan_48 (by decide) ?_
        refine bv_iload_n dX12_readMan_50 1 rfl ?_
        refine bv_iadd dX12_readMan_51 ?_
        refine bv_iconst (v := 0) dX12_readMan_52 (by decide) ?_
        refine bv_bipush (v := 30) dX12_readMan_53 (by decide) ?_
        obtain ⟨v7, p8, h⟩ := bu_bd h
        refine bw_callV (As := [.int (13 + (I 167 0)), .int 0, .int 30]) hN okL_164 ⟨_, _, rfl⟩ dX12_readMan_55 mc_12_234 (c_X12_puts (d := d + 0) hN hR p8) rfl rfl (by decide) ?_
        refine bw_ifB_eq (b := v7.1) (tgt := 75) dX12_readMan_58 (by decide) (fun cc => ?_) (fun cc => ?_)
        · replace h := bu_bf h cc
          refine bv_iconst (v := 0) dX12_readMan_75 (by decide) ?_
          obtain rfl := Option.some.inj h
          exact bw_bret (b := false) dX12_readMan_76 rfl ⟨rfl, rfl⟩
        · replace h := bu_bt h cc
          refine bv_aload_n dX12_readMan_61 0 rfl ?_
          refine bv_bipush (v := 21) dX12_readMan_62 (by decide) ?_
          refine bv_iload_n dX12_readMan_64 1 rfl ?_
          refine bv_iadd dX12_readMan_65 ?_
          refine bv_iconst (v := 0) dX12_readMan_66 (by decide) ?_
          refine bv_bipush (v := 9) dX12_readMan_67 (by decide) ?_
          obtain ⟨v9, p10, h⟩ := bu_bd h
          refine bw_callV (As := [.int (21 + (I 167 0)), .int 0, .int 9]) hN okL_164 ⟨_, _, rfl⟩ dX12_readMan_69 mc_12_234 (c_X12_puts (d := d + 0) hN hR p10) rfl rfl (by decide) ?_
          refine bw_ifB_ne (b := v9.1) (tgt := 77) dX12_readMan_72 (by decide) (fun cc => ?_) (fun cc => ?_)
          · replace h := bu_bt h cc
            refine bv_aload_n dX12_readMan_77 0 rfl ?_
            refine bz_getA (a := 167) hN okL_164 (hR _ _ _ r0_164_7) dX12_readMan_78 fl_12_37 rfl ?_
            refine bv_bipush (v := 29) dX12_readMan_81 (by decide) ?_
            refine bv_dup2 dX12_readMan_83 rfl rfl ?_
            refine bz_iald (j := 29) hN rkL_167 (bm_ix_in (by decide)) (by decide) dX12_readMan_84 ?_
            refine bv_aload_n dX12_readMan_85 0 rfl ?_
            refine bv_ldc2 (v := 117026742756708) dX12_readMan_86 cst_12_95 ?_
            refine bv_iload_n dX12_readMan_89 1 rfl ?_
            obtain ⟨v11, p12, h⟩ := bu_bd h
            refine bw_callV (As := [.long 117026742756708, .int (I 167 0)]) hN okL_164 ⟨_, _, rfl⟩ dX12_readMan_90 mc_12_257 (c_X12_flag (d := d + 1) hN hR p12) rfl rfl (Nat.le_of_ble_eq_true rfl) ?_
            refine bv_ior dX12_readMan_93 ?_
            refine bz_iast (j := 29) hN rkL_167 (bm_ix_in (by decide)) (by decide) dX12_readMan_94 ?_
            refine bv_aload_n dX12_readMan_95 0 rfl ?_
            refine bz_getA (a := 167) hN okL_164 (hR _ _ _ r0_164_7) dX12_readMan_96 fl_12_37 rfl ?_
            refine bv_bipush (v := 30) dX12_readMan_99 (by decide) ?_
            refine bv_dup2 dX12_readMan_101 rfl rfl ?_
            refine bz_iald (j := 30) hN rkL_167 (bm_ix_in (by decide)) (by decide) dX12_readMan_102 ?_
            refine bv_aload_n dX12_readMan_103 0 rfl ?_
            refine bv_ldc2 (v := 1735550329) dX12_readMan_104 cst_12_97 ?_
            refine bv_iload_n dX12_readMan_107 1 rfl ?_
            obtain ⟨v13, p14, h⟩ := bu_bd h
            refine bw_callV (As := [.long 1735550329, .int (I 167 0)]) hN okL_164 ⟨_, _, rfl⟩ dX12_readMan_108 mc_12_257 (c_X12_flag (d := d + 1) hN hR p14) rfl rfl (Nat.le_of_ble_eq_true rfl) ?_
            refine bv_ior dX12_readMan_111 ?_
            refine bz_iast (j := 30) hN rkL_167 (bm_ix_in (by decide)) (by decide) dX12_readMan_112 ?_
            refine bv_aload_n dX12_readMan_113 0 rfl ?_
            refine bz_getA (a := 167) hN okL_164 (hR _ _ _ r0_164_7) dX12_readMan_114 fl_12_37 rfl ?_
            refine bv_iconst (v := 0) dX12_readMan_117 (by decide) ?_
            refine bv_dup2 dX12_readMan_118 rfl rfl ?_
            refine bz_iald (j := 0) hN rkL_167 (bm_ix_in (by decide)) (by decide) dX12_readMan_119 ?_
            refine bv_iconst (v := 1) dX12_readMan_120 (by decide) ?_
            refine bv_iadd dX12_readMan_121 ?_
            refine bz_iast (j := 0) hN rkL_167 (bm_ix_in (by decide)) (by decide) dX12_readMan_122 ?_
            refine bv_iconst (v := 1) dX12_readMan_123 (by decide) ?_
            obtain rfl := Option.some.inj h
            exact bw_bret (b := true) dX12_readMan_124 rfl ⟨rfl, rfl⟩
          · replace h := bu_bf h cc
            refine bv_iconst (v := 0) dX12_readMan_75 (by decide) ?_
            obtain rfl := Option.some.inj h
            exact bw_bret (b := false) dX12_readMan_76 rfl ⟨rfl, rfl⟩
  · replace h := bu_t h cc
    refine bv_aload_n dX12_readMan_13 0 rfl ?_
    refine bv_iconst (v := 4) dX12_readMan_14 (by decide) ?_
    obtain ⟨v15, p16, h⟩ := bu_bd h
    refine bw_callV (As := [.int 4]) hN okL_164 ⟨_, _, rfl⟩ dX12_readMan_15 mc_12_200 (c_X12_bad (d := d + 3) hN hR p16) rfl rfl (by decide) ?_
    obtain rfl := Option.some.inj h
    exact bw_bret (b := v15.1) dX12_readMan_18 rfl ⟨rfl, rfl⟩
def f_X12_readOrder_l92 (I : bm_TI) (x1 : Int32) : Nat → Int32 → Option (((Unit) ⊕ (Unit)))
  | 0, _ => none
  | k + 1, x2 => (if x1 ≤ x2 then some (Sum.inr ()) else (if bm_ix 61 (39 + x2) = true then (if bm_ix 61 (39 + x1) = true then (if (I 167 (39 + x2).toNatClampNeg) = (I 167 (39 + x1).toNatClampNeg) then (if bm_ix 61 (46 + x2) = true then (if bm_ix 61 (46 + x1) = true then (if (I 167 (46 + x2).toNatClampNeg) = (I 167 (46 + x1).toNatClampNeg) then some (Sum.inl ()) else f_X12_readOrder_l92 I x1 k (x2 + 1)) else none) else none) else f_X12_readOrder_l92 I x1 k (x2 + 1)) else none) else none))
set_option maxHeartbeats 4000000 in
set_option maxRecDepth 100000 in
theorem v_X12_readOrder_l92 {lc : bm_L} {d n : Nat} {Q : Option Value → bm_M → Prop} {R : bm_TR} {I : bm_TI} {J : bm_TJ} {W : bm_TR} {x1 : Int32} (hN : 181 ≤ n) (hR : bm_RR R) : ∀ (k : Nat) (x2 : Int32) (r : ((Unit) ⊕ (Unit))), f_X12_readOrder_l92 I x1 k x2 = some r → (∀ yy, (Sum.inl yy) = r → bm_V lc m_X12_readOrder (d + 3) n n n 139 [(0, .ref 164)] [] (I, J, R, W) Q) → (∀ yy, (Sum.inr yy) = r → bm_V lc m_X12_readOrder (d + 3) n n n 151 [(0, .ref 164)] [] (I, J, R, W) Q) → bm_V lc m_X12_readOrder (d + 3) n n n 92 [(0, .ref 164), (1, .int x1), (2, .int x2)] [] (I, J, R, W) Q := by
  intro k
  induction k with
  | zero => intro x2 r h; cases (show (none : Option (((Unit) ⊕ (Unit)))) = some r from h)
  | succ k ih =>
    intro x2 r h K0 K1
    unfold f_X12_readOrder_l92 at h
    refine bv_iload_n dX12_readOrder_92 2 rfl ?_
    refine bv_iload_n dX12_readOrder_93 1 rfl ?_
    refine bv_icmp_ge (tgt := 151) dX12_readOrder_94 (by decide) (fun cc => ?_) (fun cc => ?_)
    · replace h := bu_t h cc
      refine bw_ls (ls1 := [(0, .ref 164)]) [0] rfl ?_
      obtain rfl := Option.some.inj h
      exact K1 _ rfl
    · replace h := bu_f h cc
      refine bv_aload_n dX12_readOrder_97 0 rfl ?_
      refine bz_getA (a := 167) hN okL_164 (hR _ _ _ r0_164_7) dX12_readOrder_98 fl_12_37 rfl ?_
      refine bv_bipush (v := 39) dX12_readOrder_101 (by decide) ?_
      refine bv_iload_n dX12_readOrder_103 2 rfl ?_
      refine bv_iadd dX12_readOrder_104 ?_
      obtain ⟨r1, h⟩ := bu_ix h
      refine bz_iald hN rkL_167 r1 rfl dX12_readOrder_105 ?_
      refine bv_aload_n dX12_readOrder_106 0 rfl ?_
      refine bz_getA (a := 167) hN okL_164 (hR _ _ _ r0_164_7) dX12_readOrder_107 fl_12_37 rfl ?_
      refine bv_bipush (v := 39) dX12_readOrder_110 (by decide) ?_
      refine bv_iload_n dX12_readOrder_112 1 rfl ?_
      refine bv_iadd dX12_readOrder_113 ?_
      obtain ⟨r2, h⟩ := bu_ix h
      refine bz_iald hN rkL_167 r2 rfl dX12_readOrder_114 ?_
      refine bv_icmp_ne (tgt := 145) dX12_readOrder_115 (by decide) (fun cc => ?_) (fun cc => ?_)
      · replace h := bu_f h cc
        refine bv_iinc (j := 2) (v := (x2 + 1)) (ls1 := [(0, .ref 164), (1, .int x1), (2, .int (x2 + 1))]) dX12_readOrder_145 rfl rfl (by decide) rfl rfl ?_
        refine bv_goto (tgt := 92) dX12_readOrder_148 (by decide) ?_
        exact ih _ _ h K0 K1
      · replace h := bu_t h cc
        refine bv_aload_n dX12_readOrder_118 0 rfl ?_
        refine bz_getA (a := 167) hN okL_164 (hR _ _ _ r0_164_7) dX12_readOrder_119 fl_12_37 rfl ?_
        refine bv_bipush (v := 46) dX12_readOrder_122 (by decide) ?_
        refine bv_iload_n dX12_readOrder_124 2 rfl ?_
        refine bv_iadd dX12_readOrder_125 ?_
        obtain ⟨r3, h⟩ := bu_ix h
        refine bz_iald hN rkL_167 r3 rfl dX12_readOrder_126 ?_
        refine bv_aload_n dX12_readOrder_127 0 rfl ?_
        refine bz_getA (a := 167) hN okL_164 (hR _ _ _ r0_164_7) dX12_readOrder_128 fl_12_37 rfl ?_
        refine bv_bipush (v := 46) dX12_readOrder_131 (by decide) ?_
        refine bv_iload_n dX12_readOrder_133 1 rfl ?_
        refine bv_iadd dX12_readOrder_134 ?_
        obtain ⟨r4, h⟩ := bu_ix h
        refine bz_iald hN rkL_167 r4 rfl dX12_readOrder_135 ?_
        refine bv_icmp_ne (tgt := 145) dX12_readOrder_136 (by decide) (fun cc => ?_) (fun cc => ?_)
        · replace h := bu_f h cc
          refine bv_iinc (j := 2) (v := (x2 + 1)) (ls1 := [(0, .ref 164), (1, .int x1), (2, .int (x2 + 1))]) dX12_readOrder_145 rfl rfl (by decide) rfl rfl ?_
          refine bv_goto (tgt := 92) dX12_readOrder_148 (by decide) ?_
          exact ih _ _ h K0 K1
        · replace h := bu_t h cc
          refine bw_ls (ls1 := [(0, .ref 164)]) [0] rfl ?_
          obtain rfl := Option.some.inj h
          exact K0 _ rfl
def f_X12_readOrder (I : bm_TI) (J : bm_TJ) : Option (Bool × bm_TI × bm_TJ) := (if (I 167 1) = 7 then ((f_X12_bad I 4).bind fun v20 => some (v20.1, v20.2, J)) else ((f_X12_next I J).bind fun v1 => ((f_X12_fresh v1.1 v1.2 (23 + (I 167 1))).bind fun v3 => (if v3.1 = true then ((f_X12_isOneOf v3.2.1 v3.2.2 5 3).bind fun v5 => (if v5.1 = true then (if bm_ix 61 (39 + (I 167 1)) = true then ((f_X12_next (bm_uI v5.2 167 ((39 + (I 167 1)).toNatClampNeg) ((v5.2 164 18) + 1)) v3.2.2).bind fun v8 => ((f_X12_isOneOf v8.1 v8.2 5 3).bind fun v10 => (if v10.1 = true then (if bm_ix 61 (46 + (I 167 1)) = true then ((f_X12_readOrder_l92 (bm_uI v10.2 167 ((46 + (I 167 1)).toNatClampNeg) ((v10.2 164 18) + 1)) (I 167 1) 1000 0).bind fun rr => match rr with | (Sum.inl y15) => ((f_X12_bad (bm_uI v10.2 167 ((46 + (I 167 1)).toNatClampNeg) ((v10.2 164 18) + 1)) 3).bind fun v16 => some (v16.1, v16.2, v8.2)) | (Sum.inr y15) => ((f_X12_next (bm_uI v10.2 167 ((46 + (I 167 1)).toNatClampNeg) ((v10.2 164 18) + 1)) v8.2).bind fun v18 => some (true, (bm_uI v18.1 167 1 ((v18.1 167 1) + 1)), v18.2))) else none) else some (false, v10.2, v8.2)))) else none) else some (false, v5.2, v3.2.2))) else some (false, v3.2.1, v3.2.2)))))
set_option maxHeartbeats 4000000 in
set_option maxRecDepth 100000 in
theorem c_X12_readOrder {lc : bm_L} {d n : Nat} {I : bm_TI} {J : bm_TJ} {R W : bm_TR} {v : Bool × bm_TI × bm_TJ} (hN : 181 ≤ n) (hR : bm_RR R) (h : f_X12_readOrder I J = some v) : bm_C lc m_X12_readOrder (d + 3) n n [.ref 164] (I, J, R, W) (fun r M' => r = some (.int (bm_bi v.1)) ∧ M' = (v.2.1, v.2.2, R, W)) := by
  refine bm_C.ofV (by decide) (Nat.le_of_ble_eq_true rfl) ?_
  show bm_V lc m_X12_readOrder (d + 3) n n n 0 [(0, .ref 164)] [] (I, J, R, W) _
  unfold f_X12_readOrder at h
  refine bv_aload_n dX12_readOrder_0 0 rfl ?_
  refine bz_getA (a := 167) hN okL_164 (hR _ _ _ r0_164_7) dX12_readOrder_1 fl_12_37 rfl ?_
  refine bv_iconst (v := 1) dX12_readOrder_4 (by decide) ?_
  refine bz_iald (j := 1) hN rkL_167 (bm_ix_in (by decide)) (by decide) dX12_readOrder_5 ?_
  refine bv_istore_n (ls1 := [(0, .ref 164), (1, .int (I 167 1))]) dX12_readOrder_6 (by decide) rfl rfl ?_
  refine bv_iload_n dX12_readOrder_7 1 rfl ?_
  refine bv_bipush (v := 7) dX12_readOrder_8 (by decide) ?_
  refine bv_icmp_ne (tgt := 19) dX12_readOrder_10 (by decide) (fun cc => ?_) (fun cc => ?_)
  · replace h := bu_f h cc
    refine bv_aload_n dX12_readOrder_19 0 rfl ?_
    obtain ⟨v1, p2, h⟩ := bu_bd h
    refine bw_callVv (As := []) hN okL_164 ⟨_, _, rfl⟩ dX12_readOrder_20 mc_12_203 (c_X12_next (d := d + 1) hN hR p2) rfl rfl (by decide) ?_
    refine bv_aload_n dX12_readOrder_23 0 rfl ?_
    refine bv_bipush (v := 23) dX12_readOrder_24 (by decide) ?_
    refine bv_iload_n dX12_readOrder_26 1 rfl ?_
    refine bv_iadd dX12_readOrder_27 ?_
    obtain ⟨v3, p4, h⟩ := bu_bd h
    refine bw_callV (As := [.int (23 + (I 167 1))]) hN okL_164 ⟨_, _, rfl⟩ dX12_readOrder_28 mc_12_254 (c_X12_fresh (d := d + 0) hN hR p4) rfl rfl (by decide) ?_
    refine bw_ifB_eq (b := v3.1) (tgt := 43) dX12_readOrder_31 (by decide) (fun cc => ?_) (fun cc => ?_)
    · replace h := bu_bf h cc
      refine bv_iconst (v := 0) dX12_readOrder_43 (by decide) ?_
      obtain rfl := Option.some.inj h
      exact bw_bret (b := false) dX12_readOrder_44 rfl ⟨rfl, rfl⟩
    · replace h := bu_bt h cc
      refine bv_aload_n dX12_readOrder_34 0 rfl ?_
      refine bv_iconst (v := 5) dX12_readOrder_35 (by decide) ?_
      refine bv_iconst (v := 3) dX12_readOrder_36 (by decide) ?_
      obtain ⟨v5, p6, h⟩ := bu_bd h
      refine bw_callV (As := [.int 5, .int 3]) hN okL_164 ⟨_, _, rfl⟩ dX12_readOrder_37 mc_12_261 (c_X12_isOneOf (d := d + 1) hN hR p6) rfl rfl (by decide) ?_
      refine bw_ifB_ne (b := v5.1) (tgt := 45) dX12_readOrder_40 (by decide) (fun cc => ?_) (fun cc => ?_)
      · replace h := bu_bt h cc
        refine bv_aload_n dX12_readOrder_45 0 rfl ?_
        refine bz_getA (a := 167) hN okL_164 (hR _ _ _ r0_164_7) dX12_readOrder_46 fl_12_37 rfl ?_
        refine bv_bipush (v := 39) dX12_readOrder_49 (by decide) ?_
        refine bv_iload_n dX12_readOrder_51 1 rfl ?_
        refine bv_iadd dX12_readOrder_52 ?_
        refine bv_aload_n dX12_readOrder_53 0 rfl ?_
        refine bz_getI hN okL_164 dX12_readOrder_54 fl_12_210 rfl ?_
        refine bv_iconst (v := 1) dX12_readOrder_57 (by decide) ?_
        refine bv_iadd dX12_readOrder_58 ?_
        obtain ⟨r7, h⟩ := bu_ix h
        refine bz_iast hN rkL_167 r7 rfl dX12_readOrder_59 ?_
        refine bv_aload_n dX12_readOrder_60 0 rfl ?_
        obtain ⟨v8, p9, h⟩ := bu_bd h
        refine bw_callVv (As := []) hN okL_164 ⟨_, _, rfl⟩ dX12_readOrder_61 mc_12_203 (c_X12_next (d := d + 1) hN hR p9) rfl rfl (by decide) ?_
        refine bv_aload_n dX12_readOrder_64 0 rfl ?_
        refine bv_iconst (v := 5) dX12_readOrder_65 (by decide) ?_
        refine bv_iconst (v := 3) dX12_readOrder_66 (by decide) ?_
        obtain ⟨v10, p11, h⟩ := bu_bd h
        refine bw_callV (As := [.int 5, .int 3]) hN okL_164 ⟨_, _, rfl⟩ dX12_readOrder_67 mc_12_261 (c_X12_isOneOf (d := d + 1) hN hR p11) rfl rfl (by decide) ?_
        refine bw_ifB_ne (b := v10.1) (tgt := 75) dX12_readOrder_70 (by decide) (fun cc => ?_) (fun cc => ?_)
        · replace h := bu_bt h cc
          refine bv_aload_n dX12_readOrder_75 0 rfl ?_
          refine bz_getA (a := 167) hN okL_164 (hR _ _ _ r0_164_7) dX12_readOrder_76 fl_12_37 rfl ?_
          refine bv_bipush (v := 46) dX12_readOrder_79 (by decide) ?_
          refine bv_iload_n dX12_readOrder_81 1 rfl ?_
          refine bv_iadd dX12_readOrder_82 ?_
          refine bv_aload_n dX12_readOrder_83 0 rfl ?_
          refine bz_getI hN okL_164 dX12_readOrder_84 fl_12_210 rfl ?_
          refine bv_iconst (v := 1) dX12_readOrder_87 (by decide) ?_
          refine bv_iadd dX12_readOrder_88 ?_
          obtain ⟨r12, h⟩ := bu_ix h
          refine bz_iast hN rkL_167 r12 rfl dX12_readOrder_89 ?_
          refine bv_iconst (v := 0) dX12_readOrder_90 (by decide) ?_
          refine bv_istore_n (ls1 := [(0, .ref 164), (1, .int (I 167 1)), (2, .int 0)]) dX12_readOrder_91 (by decide) rfl rfl ?_
          obtain ⟨r13, p14, h⟩ := bu_bd h
          refine v_X12_readOrder_l92 hN hR 1000 _ _ p14 (fun y15 hy => ?_) (fun y15 hy => ?_)
          · subst hy
            refine bv_aload_n dX12_readOrder_139 0 rfl ?_
            refine bv_iconst (v := 3) dX12_readOrder_140 (by decide) ?_
            obtain ⟨v16, p17, h⟩ := bu_bd h
            refine bw_callV (As := [.int 3]) hN okL_164 ⟨_, _, rfl⟩ dX12_readOrder_141 mc_12_200 (c_X12_bad (d := d + 2) hN hR p17) rfl rfl (by decide) ?_
            obtain rfl := Option.some.inj h
            exact bw_bret (b := v16.1) dX12_readOrder_144 rfl ⟨rfl, rfl⟩
          · subst hy
            refine bv_aload_n dX12_readOrder_151 0 rfl ?_
            obtain ⟨v18, p19, h⟩ := bu_bd h
            refine bw_callVv (As := []) hN okL_164 ⟨_, _, rfl⟩ dX12_readOrder_152 mc_12_203 (c_X12_next (d := d + 1) hN hR p19) rfl rfl (by decide) ?_
            refine bv_aload_n dX12_readOrder_155 0 rfl ?_
            refine bz_getA (a := 167) hN okL_164 (hR _ _ _ r0_164_7) dX12_readOrder_156 fl_12_37 rfl ?_
            refine bv_iconst (v := 1) dX12_readOrder_159 (by decide) ?_
            refine bv_dup2 dX12_readOrder_160 rfl rfl ?_
            refine bz_iald (j := 1) hN rkL_167 (bm_ix_in (by decide)) (by decide) dX12_readOrder_161 ?_
            refine bv_iconst (v := 1) dX12_readOrder_162 (by decide) ?_
            refine bv_iadd dX12_readOrder_163 ?_
            refine bz_iast (j := 1) hN rkL_167 (bm_ix_in (by decide)) (by decide) dX12_readOrder_164 ?_
            refine bv_iconst (v := 1) dX12_readOrder_165 (by decide) ?_
            obtain rfl := Option.some.inj h
            exact bw_bret (b := true) dX12_readOrder_166 rfl ⟨rfl, rfl⟩
        · replace h := bu_bf h cc
          refine bv_iconst (v := 0) dX12_readOrder_73 (by decide) ?_
          obtain rfl := Option.some.inj h
          exact bw_bret (b := false) dX12_readOrder_74 rfl ⟨rfl, rfl⟩
      · replace h := bu_bf h cc
        refine bv_iconst (v := 0) dX12_readOrder_43 (by decide) ?_
        obtain rfl := Option.some.inj h
        exact bw_bret (b := false) dX12_readOrder_44 rfl ⟨rfl, rfl⟩
  · replace h := bu_t h cc
    refine bv_aload_n dX12_readOrder_13 0 rfl ?_
    refine bv_iconst (v := 4) dX12_readOrder_14 (by decide) ?_
    obtain ⟨v20, p21, h⟩ := bu_bd h
    refine bw_callV (As := [.int 4]) hN okL_164 ⟨_, _, rfl⟩ dX12_readOrder_15 mc_12_200 (c_X12_bad (d := d + 2) hN hR p21) rfl rfl (by decide) ?_
    obtain rfl := Option.some.inj h
    exact bw_bret (b := v20.1) dX12_readOrder_18 rfl ⟨rfl, rfl⟩
def f_X12_readUnder_l70 (I : bm_TI) (x1 : Int32) : Nat → Int32 → Option (((Unit) ⊕ (Unit)))
  | 0, _ => none
  | k + 1, x2 => (if x2 < 0 then some (Sum.inr ()) else (if x2 = x1 then some (Sum.inl ()) else (if bm_ix 61 (31 + x2) = true then f_X12_readUnder_l70 I x1 k ((I 167 (31 + x2).toNatClampNeg) - 1) else none)))
set_option maxHeartbeats 4000000 in
set_option maxRecDepth 100000 in
theorem v_X12_readUnder_l70 {lc : bm_L} {d n : Nat} {Q : Option Value → bm_M → Prop} {R : bm_TR} {I : bm_TI} {J : bm_TJ} {W : bm_TR} {x1 : Int32} (hN : 181 ≤ n) (hR : bm_RR R) : ∀ (k : Nat) (x2 : Int32) (r : ((Unit) ⊕ (Unit))), f_X12_readUnder_l70 I x1 k x2 = some r → (∀ yy, (Sum.inl yy) = r → bm_V lc m_X12_readUnder (d + 2) n n n 79 [(0, .ref 164)] [] (I, J, R, W) Q) → (∀ yy, (Sum.inr yy) = r → bm_V lc m_X12_readUnder (d + 2) n n n 100 [(0, .ref 164), (1, .int x1)] [] (I, J, R, W) Q) → bm_V lc m_X12_readUnder (d + 2) n n n 70 [(0, .ref 164), (1, .int x1), (2, .int x2)] [] (I, J, R, W) Q := by
  intro k
  induction k with
  | zero => intro x2 r h; cases (show (none : Option (((Unit) ⊕ (Unit)))) = some r from h)
  | succ k ih =>
    intro x2 r h K0 K1
    unfold f_X12_readUnder_l70 at h
    refine bv_iload_n dX12_readUnder_70 2 rfl ?_
    refine bv_if_lt (tgt := 100) dX12_readUnder_71 (by decide) (fun cc => ?_) (fun cc => ?_)
    · replace h := bu_t h cc
      refine bw_ls (ls1 := [(0, .ref 164), (1, .int x1)]) [0, 1] rfl ?_
      obtain rfl := Option.some.inj h
      exact K1 _ rfl
    · replace h := bu_f h cc
      refine bv_iload_n dX12_readUnder_74 2 rfl ?_
      refine bv_iload_n dX12_readUnder_75 1 rfl ?_
      refine bv_icmp_ne (tgt := 85) dX12_readUnder_76 (by decide) (fun cc => ?_) (fun cc => ?_)
      · replace h := bu_f h cc
        refine bv_aload_n dX12_readUnder_85 0 rfl ?_
        refine bz_getA (a := 167) hN okL_164 (hR _ _ _ r0_164_7) dX12_readUnder_86 fl_12_37 rfl ?_
        refine bv_bipush (v := 31) dX12_readUnder_89 (by decide) ?_
        refine bv_iload_n dX12_readUnder_91 2 rfl ?_
        refine bv_iadd dX12_readUnder_92 ?_
        obtain ⟨r1, h⟩ := bu_ix h
        refine bz_iald hN rkL_167 r1 rfl dX12_readUnder_93 ?_
        refine bv_iconst (v := 1) dX12_readUnder_94 (by decide) ?_
        refine bv_isub dX12_readUnder_95 ?_
        refine bv_istore_n (ls1 := [(0, .ref 164), (1, .int x1), (2, .int ((I 167 (31 + x2).toNatClampNeg) - 1))]) dX12_readUnder_96 (by decide) rfl rfl ?_
        refine bv_goto (tgt := 70) dX12_readUnder_97 (by decide) ?_
        exact ih _ _ h K0 K1
      · replace h := bu_t h cc
        refine bw_ls (ls1 := [(0, .ref 164)]) [0] rfl ?_
        obtain rfl := Option.some.inj h
        exact K0 _ rfl
def f_X12_readUnder (I : bm_TI) (J : bm_TJ) : Option (Bool × bm_TI × bm_TJ) := ((f_X12_next I J).bind fun v1 => ((f_X12_looksAt v1.1 v1.2 15 (v1.1 167 0)).bind fun v3 => (if v3.1 = true then (if bm_ix 61 (31 + (v3.2 164 18)) = true then (if (v3.2 167 (31 + (v3.2 164 18)).toNatClampNeg) ≤ 0 then ((f_X12_next v3.2 v1.2).bind fun v6 => ((f_X12_looksAt v6.1 v6.2 15 (v6.1 167 0)).bind fun v8 => (if v8.1 = true then ((f_X12_readUnder_l70 v8.2 (v3.2 164 18) 1000 (v8.2 164 18)).bind fun rr => match rr with | (Sum.inl y12) => ((f_X12_bad v8.2 3).bind fun v13 => some (v13.1, v13.2, v6.2)) | (Sum.inr y12) => ((f_X12_next (bm_uI v8.2 167 ((31 + (v3.2 164 18)).toNatClampNeg) ((v8.2 164 18) + 1)) v6.2).bind fun v15 => some (true, v15.1, v15.2))) else some (false, v8.2, v6.2)))) else ((f_X12_bad v3.2 3).bind fun v17 => some (v17.1, v17.2, v1.2))) else none) else some (false, v3.2, v1.2))))
set_option maxHeartbeats 4000000 in
set_option maxRecDepth 100000 in
theorem c_X12_readUnder {lc : bm_L} {d n : Nat} {I : bm_TI} {J : bm_TJ} {R W : bm_TR} {v : Bool × bm_TI × bm_TJ} (hN : 181 ≤ n) (hR : bm_RR R) (h : f_X12_readUnder I J = some v) : bm_C lc m_X12_readUnder (d + 2) n n [.ref 164] (I, J, R, W) (fun r M' => r = some (.int (bm_bi v.1)) ∧ M' = (v.2.1, v.2.2, R, W)) := by
  refine bm_C.ofV (by decide) (Nat.le_of_ble_eq_true rfl) ?_
  show bm_V lc m_X12_readUnder (d + 2) n n n 0 [(0, .ref 164)] [] (I, J, R, W) _
  unfold f_X12_readUnder at h
  refine bv_aload_n dX12_readUnder_0 0 rfl ?_
  obtain ⟨v1, p2, h⟩ := bu_bd h
  refine bw_callVv (As := []) hN okL_164 ⟨_, _, rfl⟩ dX12_readUnder_1 mc_12_203 (c_X12_next (d := d + 0) hN hR p2) rfl rfl (by decide) ?_
  refine bv_aload_n dX12_readUnder_4 0 rfl ?_
  refine bv_bipush (v := 15) dX12_readUnder_5 (by decide) ?_
  refine bv_aload_n dX12_readUnder_7 0 rfl ?_
  refine bz_getA (a := 167) hN okL_164 (hR _ _ _ r0_164_7) dX12_readUnder_8 fl_12_37 rfl ?_
  refine bv_iconst (v := 0) dX12_readUnder_11 (by decide) ?_
  refine bz_iald (j := 0) hN rkL_167 (bm_ix_in (by decide)) (by decide) dX12_readUnder_12 ?_
  obtain ⟨v3, p4, h⟩ := bu_bd h
  refine bw_callV (As := [.int 15, .int (v1.1 167 0)]) hN okL_164 ⟨_, _, rfl⟩ dX12_readUnder_13 mc_12_225 (c_X12_looksAt (d := d + 0) hN hR p4) rfl rfl (by decide) ?_
  refine bw_ifB_ne (b := v3.1) (tgt := 21) dX12_readUnder_16 (by decide) (fun cc => ?_) (fun cc => ?_)
  · replace h := bu_bt h cc
    refine bv_aload_n dX12_readUnder_21 0 rfl ?_
    refine bz_getI hN okL_164 dX12_readUnder_22 fl_12_210 rfl ?_
    refine bv_istore_n (ls1 := [(0, .ref 164), (1, .int (v3.2 164 18))]) dX12_readUnder_25 (by decide) rfl rfl ?_
    refine bv_aload_n dX12_readUnder_26 0 rfl ?_
    refine bz_getA (a := 167) hN okL_164 (hR _ _ _ r0_164_7) dX12_readUnder_27 fl_12_37 rfl ?_
    refine bv_bipush (v := 31) dX12_readUnder_30 (by decide) ?_
    refine bv_iload_n dX12_readUnder_32 1 rfl ?_
    refine bv_iadd dX12_readUnder_33 ?_
    obtain ⟨r5, h⟩ := bu_ix h
    refine bz_iald hN rkL_167 r5 rfl dX12_readUnder_34 ?_
    refine bv_if_le (tgt := 44) dX12_readUnder_35 (by decide) (fun cc => ?_) (fun cc => ?_)
    · replace h := bu_t h cc
      refine bv_aload_n dX12_readUnder_44 0 rfl ?_
      obtain ⟨v6, p7, h⟩ := bu_bd h
      refine bw_callVv (As := []) hN okL_164 ⟨_, _, rfl⟩ dX12_readUnder_45 mc_12_203 (c_X12_next (d := d + 0) hN hR p7) rfl rfl (by decide) ?_
      refine bv_aload_n dX12_readUnder_48 0 rfl ?_
      refine bv_bipush (v := 15) dX12_readUnder_49 (by decide) ?_
      refine bv_aload_n dX12_readUnder_51 0 rfl ?_
      refine bz_getA (a := 167) hN okL_164 (hR _ _ _ r0_164_7) dX12_readUnder_52 fl_12_37 rfl ?_
      refine bv_iconst (v := 0) dX12_readUnder_55 (by decide) ?_
      refine bz_iald (j := 0) hN rkL_167 (bm_ix_in (by decide)) (by decide) dX12_readUnder_56 ?_
      obtain ⟨v8, p9, h⟩ := bu_bd h
      refine bw_callV (As := [.int 15, .int (v6.1 167 0)]) hN okL_164 ⟨_, _, rfl⟩ dX12_readUnder_57 mc_12_225 (c_X12_looksAt (d := d + 0) hN hR p9) rfl rfl (by decide) ?_
      refine bw_ifB_ne (b := v8.1) (tgt := 65) dX12_readUnder_60 (by decide) (fun cc => ?_) (fun cc => ?_)
      · replace h := bu_bt h cc
        refine bv_aload_n dX12_readUnder_65 0 rfl ?_
        refine bz_getI hN okL_164 dX12_readUnder_66 fl_12_210 rfl ?_
        refine bv_istore_n (ls1 := [(0, .ref 164), (1, .int (v3.2 164 18)), (2, .int (v8.2 164 18))]) dX12_readUnder_69 (by decide) rfl rfl ?_
        obtain ⟨r10, p11, h⟩ := bu_bd h
        refine v_X12_readUnder_l70 hN hR 1000 _ _ p11 (fun y12 hy => ?_) (fun y12 hy => ?_)
        · subst hy
          refine bv_aload_n dX12_readUnder_79 0 rfl ?_
          refine bv_iconst (v := 3) dX12_readUnder_80 (by decide) ?_
          obtain ⟨v13, p14, h⟩ := bu_bd h
          refine bw_callV (As := [.int 3]) hN okL_164 ⟨_, _, rfl⟩ dX12_readUnder_81 mc_12_200 (c_X12_bad (d := d + 1) hN hR p14) rfl rfl (by decide) ?_
          obtain rfl := Option.some.inj h
          exact bw_bret (b := v13.1) dX12_readUnder_84 rfl ⟨rfl, rfl⟩
        · subst hy
          refine bv_aload_n dX12_readUnder_100 0 rfl ?_
          refine bz_getA (a := 167) hN okL_164 (hR _ _ _ r0_164_7) dX12_readUnder_101 fl_12_37 rfl ?_
          refine bv_bipush (v := 31) dX12_readUnder_104 (by decide) ?_
          refine bv_iload_n dX12_readUnder_106 1 rfl ?_
          refine bv_iadd dX12_readUnder_107 ?_
          refine bv_aload_n dX12_readUnder_108 0 rfl ?_
          refine bz_getI hN okL_164 dX12_readUnder_109 fl_12_210 rfl ?_
          refine bv_iconst (v := 1) dX12_readUnder_112 (by decide) ?_
          refine bv_iadd dX12_readUnder_113 ?_
          refine bz_iast hN rkL_167 r5 rfl dX12_readUnder_114 ?_
          refine bv_aload_n dX12_readUnder_115 0 rfl ?_
          obtain ⟨v15, p16, h⟩ := bu_bd h
          refine bw_callVv (As := []) hN okL_164 ⟨_, _, rfl⟩ dX12_readUnder_116 mc_12_203 (c_X12_next (d := d + 0) hN hR p16) rfl rfl (by decide) ?_
          refine bv_iconst (v := 1) dX12_readUnder_119 (by decide) ?_
          obtain rfl := Option.some.inj h
          exact bw_bret (b := true) dX12_readUnder_120 rfl ⟨rfl, rfl⟩
      · replace h := bu_bf h cc
        refine bv_iconst (v := 0) dX12_readUnder_63 (by decide) ?_
        obtain rfl := Option.some.inj h
        exact bw_bret (b := false) dX12_readUnder_64 rfl ⟨rfl, rfl⟩
    · replace h := bu_f h cc
      refine bv_aload_n dX12_readUnder_38 0 rfl ?_
      refine bv_iconst (v := 3) dX12_readUnder_39 (by decide) ?_
      obtain ⟨v17, p18, h⟩ := bu_bd h
      refine bw_callV (As := [.int 3]) hN okL_164 ⟨_, _, rfl⟩ dX12_readUnder_40 mc_12_200 (c_X12_bad (d := d + 1) hN hR p18) rfl rfl (by decide) ?_
      obtain rfl := Option.some.inj h
      exact bw_bret (b := v17.1) dX12_readUnder_43 rfl ⟨rfl, rfl⟩
  · replace h := bu_bf h cc
    refine bv_iconst (v := 0) dX12_readUnder_19 (by decide) ?_
    obtain rfl := Option.some.inj h
    exact bw_bret (b := false) dX12_readUnder_20 rfl ⟨rfl, rfl⟩
def f_X12_line (I : bm_TI) (J : bm_TJ) : Option (Bool × bm_TI × bm_TJ) := ((f_X12_isWord I J 7168366).bind fun v1 => (if v1 = true then ((f_X12_readMan I J).bind fun v31 => some (v31.1, v31.2.1, v31.2.2)) else ((f_X12_isWord I J 504363246962).bind fun v3 => (if v3 = true then ((f_X12_readUnder I J).bind fun v29 => some (v29.1, v29.2.1, v29.2.2)) else ((f_X12_isWord I J 478660552050).bind fun v5 => (if v5 = true then ((f_X12_readOrder I J).bind fun v27 => some (v27.1, v27.2.1, v27.2.2)) else ((f_X12_isWord I J 6713189).bind fun v7 => (if v7 = true then (if (I 167 2) = 4 then ((f_X12_bad I 4).bind fun v25 => some (v25.1, v25.2, J)) else ((f_X12_next I J).bind fun v19 => ((f_X12_puts v19.1 v19.2 (53 + (I 167 2)) 0 30).bind fun v21 => (if v21.1 = true then ((f_X12_puts v21.2.1 v21.2.2 (57 + (I 167 2)) 0 30).bind fun v23 => (if v23.1 = true then some (true, (bm_uI v23.2.1 167 2 ((v23.2.1 167 2) + 1)), v23.2.2) else some (false, v23.2.1, v23.2.2))) else some (false, v21.2.1, v21.2.2))))) else ((f_X12_isWord I J 427020345714).bind fun v9 => (if v9 = true then ((f_X12_once I J 0 3 1 5).bind fun v17 => some (v17.1, v17.2.1, v17.2.2)) else ((f_X12_isWord I J 1918986606).bind fun v11 => (if v11 = true then ((f_X12_once I J 1 4 1 30).bind fun v15 => some (v15.1, v15.2.1, v15.2.2)) else ((f_X12_bad I 1).bind fun v13 => some (v13.1, v13.2, J))))))))))))))
set_option maxHeartbeats 4000000 in
set_option maxRecDepth 100000 in
theorem c_X12_line {lc : bm_L} {d n : Nat} {I : bm_TI} {J : bm_TJ} {R W : bm_TR} {v : Bool × bm_TI × bm_TJ} (hN : 181 ≤ n) (hR : bm_RR R) (h : f_X12_line I J = some v) : bm_C lc m_X12_line (d + 5) n n [.ref 164] (I, J, R, W) (fun r M' => r = some (.int (bm_bi v.1)) ∧ M' = (v.2.1, v.2.2, R, W)) := by
  refine bm_C.ofV (by decide) (Nat.le_of_ble_eq_true rfl) ?_
  show bm_V lc m_X12_line (d + 5) n n n 0 [(0, .ref 164)] [] (I, J, R, W) _
  unfold f_X12_line at h
  refine bv_aload_n dX12_line_0 0 rfl ?_
  refine bv_ldc2 (v := 7168366) dX12_line_1 cst_12_93 ?_
  obtain ⟨v1, p2, h⟩ := bu_bd h
  refine bw_callV (As := [.long 7168366]) hN okL_164 ⟨_, _, rfl⟩ dX12_line_4 mc_12_237 (c_X12_isWord (d := d + 4) hN hR p2) rfl rfl (by decide) ?_
  refine bw_ifB_eq (b := v1) (tgt := 15) dX12_line_7 (by decide) (fun cc => ?_) (fun cc => ?_)
  · replace h := bu_bf h cc
    refine bv_aload_n dX12_line_15 0 rfl ?_
    refine bv_ldc2 (v := 504363246962) dX12_line_16 cst_12_99 ?_
    obtain ⟨v3, p4, h⟩ := bu_bd h
    refine bw_callV (As := [.long 504363246962]) hN okL_164 ⟨_, _, rfl⟩ dX12_line_19 mc_12_237 (c_X12_isWord (d := d + 4) hN hR p4) rfl rfl (by decide) ?_
    refine bw_ifB_eq (b := v3) (tgt := 30) dX12_line_22 (by decide) (fun cc => ?_) (fun cc => ?_)
    · replace h := bu_bf h cc
      refine bv_aload_n dX12_line_30 0 rfl ?_
      refine bv_ldc2 (v := 478660552050) dX12_line_31 cst_12_101 ?_
      obtain ⟨v5, p6, h⟩ := bu_bd h
      refine bw_callV (As := [.long 478660552050]) hN okL_164 ⟨_, _, rfl⟩ dX12_line_34 mc_12_237 (c_X12_isWord (d := d + 4) hN hR p6) rfl rfl (by decide) ?_
      refine bw_ifB_eq (b := v5) (tgt := 45) dX12_line_37 (by decide) (fun cc => ?_) (fun cc => ?_)
      · replace h := bu_bf h cc
        refine bv_aload_n dX12_line_45 0 rfl ?_
        refine bv_ldc2 (v := 6713189) dX12_line_46 cst_12_109 ?_
        obtain ⟨v7, p8, h⟩ := bu_bd h
        refine bw_callV (As := [.long 6713189]) hN okL_164 ⟨_, _, rfl⟩ dX12_line_49 mc_12_237 (c_X12_isWord (d := d + 4) hN hR p8) rfl rfl (by decide) ?_
        refine bw_ifB_eq (b := v7) (tgt := 119) dX12_line_52 (by decide) (fun cc => ?_) (fun cc => ?_)
        · replace h := bu_bf h cc
          refine bv_aload_n dX12_line_119 0 rfl ?_
          refine bv_ldc2 (v := 427020345714) dX12_line_120 cst_12_111 ?_
          obtain ⟨v9, p10, h⟩ := bu_bd h
          refine bw_callV (As := [.long 427020345714]) hN okL_164 ⟨_, _, rfl⟩ dX12_line_123 mc_12_237 (c_X12_isWord (d := d + 4) hN hR p10) rfl rfl (by decide) ?_
          refine bw_ifB_eq (b := v9) (tgt := 138) dX12_line_126 (by decide) (fun cc => ?_) (fun cc => ?_)
          · replace h := bu_bf h cc
            refine bv_aload_n dX12_line_138 0 rfl ?_
            refine bv_ldc2 (v := 1918986606) dX12_line_139 cst_12_113 ?_
            obtain ⟨v11, p12, h⟩ := bu_bd h
            refine bw_callV (As := [.long 1918986606]) hN okL_164 ⟨_, _, rfl⟩ dX12_line_142 mc_12_237 (c_X12_isWord (d := d + 4) hN hR p12) rfl rfl (by decide) ?_
            refine bw_ifB_eq (b := v11) (tgt := 160) dX12_line_145 (by decide) (fun cc => ?_) (fun cc => ?_)
            · replace h := bu_bf h cc
              refine bv_aload_n dX12_line_160 0 rfl ?_
              refine bv_iconst (v := 1) dX12_line_161 (by decide) ?_
              obtain ⟨v13, p14, h⟩ := bu_bd h
              refine bw_callV (As := [.int 1]) hN okL_164 ⟨_, _, rfl⟩ dX12_line_162 mc_12_200 (c_X12_bad (d := d + 4) hN hR p14) rfl rfl (by decide) ?_
              obtain rfl := Option.some.inj h
              exact bw_bret (b := v13.1) dX12_line_165 rfl ⟨rfl, rfl⟩
            · replace h := bu_bt h cc
              refine bv_aload_n dX12_line_148 0 rfl ?_
              refine bv_iconst (v := 1) dX12_line_149 (by decide) ?_
              refine bv_iconst (v := 4) dX12_line_150 (by decide) ?_
              refine bv_iconst (v := 1) dX12_line_151 (by decide) ?_
              refine bv_bipush (v := 30) dX12_line_152 (by decide) ?_
              obtain ⟨v15, p16, h⟩ := bu_bd h
              refine bw_callV (As := [.int 1, .int 4, .int 1, .int 30]) hN okL_164 ⟨_, _, rfl⟩ dX12_line_154 mc_12_250 (c_X12_once (d := d + 0) hN hR p16) rfl rfl (by decide) ?_
              refine bv_goto (tgt := 165) dX12_line_157 (by decide) ?_
              obtain rfl := Option.some.inj h
              exact bw_bret (b := v15.1) dX12_line_165 rfl ⟨rfl, rfl⟩
          · replace h := bu_bt h cc
            refine bv_aload_n dX12_line_129 0 rfl ?_
            refine bv_iconst (v := 0) dX12_line_130 (by decide) ?_
            refine bv_iconst (v := 3) dX12_line_131 (by decide) ?_
            refine bv_iconst (v := 1) dX12_line_132 (by decide) ?_
            refine bv_iconst (v := 5) dX12_line_133 (by decide) ?_
            obtain ⟨v17, p18, h⟩ := bu_bd h
            refine bw_callV (As := [.int 0, .int 3, .int 1, .int 5]) hN okL_164 ⟨_, _, rfl⟩ dX12_line_134 mc_12_250 (c_X12_once (d := d + 0) hN hR p18) rfl rfl (by decide) ?_
            obtain rfl := Option.some.inj h
            exact bw_bret (b := v17.1) dX12_line_137 rfl ⟨rfl, rfl⟩
        · replace h := bu_bt h cc
          refine bv_aload_n dX12_line_55 0 rfl ?_
          refine bz_getA (a := 167) hN okL_164 (hR _ _ _ r0_164_7) dX12_line_56 fl_12_37 rfl ?_
          refine bv_iconst (v := 2) dX12_line_59 (by decide) ?_
          refine bz_iald (j := 2) hN rkL_167 (bm_ix_in (by decide)) (by decide) dX12_line_60 ?_
          refine bv_istore_n (ls1 := [(0, .ref 164), (1, .int (I 167 2))]) dX12_line_61 (by decide) rfl rfl ?_
          refine bv_iload_n dX12_line_62 1 rfl ?_
          refine bv_iconst (v := 4) dX12_line_63 (by decide) ?_
          refine bv_icmp_ne (tgt := 73) dX12_line_64 (by decide) (fun cc => ?_) (fun cc => ?_)
          · replace h := bu_f h cc
            refine bv_aload_n dX12_line_73 0 rfl ?_
            obtain ⟨v19, p20, h⟩ := bu_bd h
            refine bw_callVv (As := []) hN okL_164 ⟨_, _, rfl⟩ dX12_line_74 mc_12_203 (c_X12_next (d := d + 3) hN hR p20) rfl rfl (by decide) ?_
            refine bv_aload_n dX12_line_77 0 rfl ?_
            refine bv_bipush (v := 53) dX12_line_78 (by decide) ?_
            refine bv_iload_n dX12_line_80 1 rfl ?_
            refine bv_iadd dX12_line_81 ?_
            refine bv_iconst (v := 0) dX12_line_82 (by decide) ?_
            refine bv_bipush (v := 30) dX12_line_83 (by decide) ?_
            obtain ⟨v21, p22, h⟩ := bu_bd h
            refine bw_callV (As := [.int (53 + (I 167 2)), .int 0, .int 30]) hN okL_164 ⟨_, _, rfl⟩ dX12_line_85 mc_12_234 (c_X12_puts (d := d + 1) hN hR p22) rfl rfl (by decide) ?_
            refine bw_ifB_eq (b := v21.1) (tgt := 105) dX12_line_88 (by decide) (fun cc => ?_) (fun cc => ?_)
            · replace h := bu_bf h cc
              refine bv_iconst (v := 0) dX12_line_105 (by decide) ?_
              obtain rfl := Option.some.inj h
              exact bw_bret (b := false) dX12_line_106 rfl ⟨rfl, rfl⟩
            · replace h := bu_bt h cc
              refine bv_aload_n dX12_line_91 0 rfl ?_
              refine bv_bipush (v := 57) dX12_line_92 (by decide) ?_
              refine bv_iload_n dX12_line_94 1 rfl ?_
              refine bv_iadd dX12_line_95 ?_
              refine bv_iconst (v := 0) dX12_line_96 (by decide) ?_
              refine bv_bipush (v := 30) dX12_line_97 (by decide) ?_
              obtain ⟨v23, p24, h⟩ := bu_bd h
              refine bw_callV (As := [.int (57 + (I 167 2)), .int 0, .int 30]) hN okL_164 ⟨_, _, rfl⟩ dX12_line_99 mc_12_234 (c_X12_puts (d := d + 1) hN hR p24) rfl rfl (by decide) ?_
              refine bw_ifB_ne (b := v23.1) (tgt := 107) dX12_line_102 (by decide) (fun cc => ?_) (fun cc => ?_)
              · replace h := bu_bt h cc
                refine bv_aload_n dX12_line_107 0 rfl ?_
                refine bz_getA (a := 167) hN okL_164 (hR _ _ _ r0_164_7) dX12_line_108 fl_12_37 rfl ?_
                refine bv_iconst (v := 2) dX12_line_111 (by decide) ?_
                refine bv_dup2 dX12_line_112 rfl rfl ?_
                refine bz_iald (j := 2) hN rkL_167 (bm_ix_in (by decide)) (by decide) dX12_line_113 ?_
                refine bv_iconst (v := 1) dX12_line_114 (by decide) ?_
                refine bv_iadd dX12_line_115 ?_
                refine bz_iast (j := 2) hN rkL_167 (bm_ix_in (by decide)) (by decide) dX12_line_116 ?_
                refine bv_iconst (v := 1) dX12_line_117 (by decide) ?_
                obtain rfl := Option.some.inj h
                exact bw_bret (b := true) dX12_line_118 rfl ⟨rfl, rfl⟩
              · replace h := bu_bf h cc
                refine bv_iconst (v := 0) dX12_line_105 (by decide) ?_
                obtain rfl := Option.some.inj h
                exact bw_bret (b := false) dX12_line_106 rfl ⟨rfl, rfl⟩
          · replace h := bu_t h cc
            refine bv_aload_n dX12_line_67 0 rfl ?_
            refine bv_iconst (v := 4) dX12_line_68 (by decide) ?_
            obtain ⟨v25, p26, h⟩ := bu_bd h
            refine bw_callV (As := [.int 4]) hN okL_164 ⟨_, _, rfl⟩ dX12_line_69 mc_12_200 (c_X12_bad (d := d + 4) hN hR p26) rfl rfl (by decide) ?_
            obtain rfl := Option.some.inj h
            exact bw_bret (b := v25.1) dX12_line_72 rfl ⟨rfl, rfl⟩
      · replace h := bu_bt h cc
        refine bv_aload_n dX12_line_40 0 rfl ?_
        obtain ⟨v27, p28, h⟩ := bu_bd h
        refine bw_callV (As := []) hN okL_164 ⟨_, _, rfl⟩ dX12_line_41 mc_12_247 (c_X12_readOrder (d := d + 1) hN hR p28) rfl rfl (by decide) ?_
        obtain rfl := Option.some.inj h
        exact bw_bret (b := v27.1) dX12_line_44 rfl ⟨rfl, rfl⟩
    · replace h := bu_bt h cc
      refine bv_aload_n dX12_line_25 0 rfl ?_
      obtain ⟨v29, p30, h⟩ := bu_bd h
      refine bw_callV (As := []) hN okL_164 ⟨_, _, rfl⟩ dX12_line_26 mc_12_244 (c_X12_readUnder (d := d + 2) hN hR p30) rfl rfl (by decide) ?_
      obtain rfl := Option.some.inj h
      exact bw_bret (b := v29.1) dX12_line_29 rfl ⟨rfl, rfl⟩
  · replace h := bu_bt h cc
    refine bv_aload_n dX12_line_10 0 rfl ?_
    obtain ⟨v31, p32, h⟩ := bu_bd h
    refine bw_callV (As := []) hN okL_164 ⟨_, _, rfl⟩ dX12_line_11 mc_12_241 (c_X12_readMan (d := d + 0) hN hR p32) rfl rfl (by decide) ?_
    obtain rfl := Option.some.inj h
    exact bw_bret (b := v31.1) dX12_line_14 rfl ⟨rfl, rfl⟩
def f_X12_army_l35 : Nat → bm_TI → bm_TJ → Option (((bm_TI × bm_TJ) ⊕ (bm_TI × bm_TJ)))
  | 0, _, _ => none
  | k + 1, I, J => (if (I 164 11) = 0 then some (Sum.inr (I, J)) else ((f_X12_line I J).bind fun v1 => (if v1.1 = true then ((f_X12_sign v1.2.1 v1.2.2 59).bind fun v3 => (if v3.1 = true then f_X12_army_l35 k (bm_uI v3.2.1 164 19 ((v3.2.1 164 19) + 1)) v3.2.2 else some (Sum.inl (v3.2.1, v3.2.2)))) else some (Sum.inl (v1.2.1, v1.2.2)))))
set_option maxHeartbeats 4000000 in
set_option maxRecDepth 100000 in
theorem v_X12_army_l35 {lc : bm_L} {d n : Nat} {Q : Option Value → bm_M → Prop} {R : bm_TR} {W : bm_TR} (hN : 181 ≤ n) (hR : bm_RR R) : ∀ (k : Nat) (I : bm_TI) (J : bm_TJ) (r : ((bm_TI × bm_TJ) ⊕ (bm_TI × bm_TJ))), f_X12_army_l35 k I J = some r → (∀ yy, (Sum.inl yy) = r → bm_V lc m_X12_army (d + 6) n n n 58 [(0, .ref 164)] [] (yy.1, yy.2, R, W) Q) → (∀ yy, (Sum.inr yy) = r → bm_V lc m_X12_army (d + 6) n n n 78 [(0, .ref 164)] [] (yy.1, yy.2, R, W) Q) → bm_V lc m_X12_army (d + 6) n n n 35 [(0, .ref 164)] [] (I, J, R, W) Q := by
  intro k
  induction k with
  | zero => intro I J r h; cases (show (none : Option (((bm_TI × bm_TJ) ⊕ (bm_TI × bm_TJ)))) = some r from h)
  | succ k ih =>
    intro I J r h K0 K1
    unfold f_X12_army_l35 at h
    refine bv_aload_n dX12_army_35 0 rfl ?_
    refine bz_getI hN okL_164 dX12_army_36 fl_12_174 rfl ?_
    refine bv_if_eq (tgt := 78) dX12_army_39 (by decide) (fun cc => ?_) (fun cc => ?_)
    · replace h := bu_t h cc
      obtain rfl := Option.some.inj h
      exact K1 _ rfl
    · replace h := bu_f h cc
      refine bv_aload_n dX12_army_42 0 rfl ?_
      obtain ⟨v1, p2, h⟩ := bu_bd h
      refine bw_callV (As := []) hN okL_164 ⟨_, _, rfl⟩ dX12_army_43 mc_12_270 (c_X12_line (d := d + 0) hN hR p2) rfl rfl (by decide) ?_
      refine bw_ifB_eq (b := v1.1) (tgt := 58) dX12_army_46 (by decide) (fun cc => ?_) (fun cc => ?_)
      · replace h := bu_bf h cc
        obtain rfl := Option.some.inj h
        exact K0 _ rfl
      · replace h := bu_bt h cc
        refine bv_aload_n dX12_army_49 0 rfl ?_
        refine bv_bipush (v := 59) dX12_army_50 (by decide) ?_
        obtain ⟨v3, p4, h⟩ := bu_bd h
        refine bw_callV (As := [.int 59]) hN okL_164 ⟨_, _, rfl⟩ dX12_army_52 mc_12_273 (c_X12_sign (d := d + 3) hN hR p4) rfl rfl (by decide) ?_
        refine bw_ifB_ne (b := v3.1) (tgt := 65) dX12_army_55 (by decide) (fun cc => ?_) (fun cc => ?_)
        · replace h := bu_bt h cc
          refine bv_aload_n dX12_army_65 0 rfl ?_
          refine bv_dup dX12_army_66 rfl ?_
          refine bz_getI hN okL_164 dX12_army_67 fl_12_267 rfl ?_
          refine bv_iconst (v := 1) dX12_army_70 (by decide) ?_
          refine bv_iadd dX12_army_71 ?_
          refine bz_putI hN okL_164 dX12_army_72 fl_12_267 rfl ?_
          refine bv_goto (tgt := 35) dX12_army_75 (by decide) ?_
          exact ih _ _ _ h K0 K1
        · replace h := bu_bf h cc
          obtain rfl := Option.some.inj h
          exact K0 _ rfl
def f_X12_army_l80 : Nat → Int32 → bm_TI → Option (bm_TI)
  | 0, _, _ => none
  | k + 1, x1, I => (if 287 ≤ x1 then some I else (if 61 ≤ x1 then (if bm_ix 287 x1 = true then f_X12_army_l80 k (x1 + 1) (bm_uI I 166 x1.toNatClampNeg 0) else none) else (if bm_ix 61 x1 = true then (if bm_ix 287 x1 = true then f_X12_army_l80 k (x1 + 1) (bm_uI I 166 x1.toNatClampNeg (I 167 x1.toNatClampNeg)) else none) else none)))
set_option maxHeartbeats 4000000 in
set_option maxRecDepth 100000 in
theorem v_X12_army_l80 {lc : bm_L} {d n : Nat} {Q : Option Value → bm_M → Prop} {R : bm_TR} {J : bm_TJ} {W : bm_TR} (hN : 181 ≤ n) (hR : bm_RR R) : ∀ (k : Nat) (x1 : Int32) (I : bm_TI) (r : bm_TI), f_X12_army_l80 k x1 I = some r → (∀ yy, yy = r → bm_V lc m_X12_army (d + 6) n n n 115 [(0, .ref 164)] [] (yy, J, R, W) Q) → bm_V lc m_X12_army (d + 6) n n n 80 [(0, .ref 164), (1, .int x1)] [] (I, J, R, W) Q := by
  intro k
  induction k with
  | zero => intro x1 I r h; cases (show (none : Option (bm_TI)) = some r from h)
  | succ k ih =>
    intro x1 I r h K0
    unfold f_X12_army_l80 at h
    refine bv_iload_n dX12_army_80 1 rfl ?_
    refine bv_sipush (v := 287) dX12_army_81 (by decide) ?_
    refine bv_icmp_ge (tgt := 115) dX12_army_84 (by decide) (fun cc => ?_) (fun cc => ?_)
    · replace h := bu_t h cc
      refine bw_ls (ls1 := [(0, .ref 164)]) [0] rfl ?_
      obtain rfl := Option.some.inj h
      exact K0 _ rfl
    · replace h := bu_f h cc
      refine bv_aload_n dX12_army_87 0 rfl ?_
      refine bz_getA (a := 166) hN okL_164 (hR _ _ _ r0_164_6) dX12_army_88 fl_12_33 rfl ?_
      refine bv_iload_n dX12_army_91 1 rfl ?_
      refine bv_iload_n dX12_army_92 1 rfl ?_
      refine bv_bipush (v := 61) dX12_army_93 (by decide) ?_
      refine bv_icmp_ge (tgt := 107) dX12_army_95 (by decide) (fun cc => ?_) (fun cc => ?_)
      · replace h := bu_t h cc
        refine bv_iconst (v := 0) dX12_army_107 (by decide) ?_
        obtain ⟨r1, h⟩ := bu_ix h
        refine bz_iast hN rkL_166 r1 rfl dX12_army_108 ?_
        refine bv_iinc (j := 1) (v := (x1 + 1)) (ls1 := [(0, .ref 164), (1, .int (x1 + 1))]) dX12_army_109 rfl rfl (by decide) rfl rfl ?_
        refine bv_goto (tgt := 80) dX12_army_112 (by decide) ?_
        exact ih _ _ _ h K0
      · replace h := bu_f h cc
        refine bv_aload_n dX12_army_98 0 rfl ?_
        refine bz_getA (a := 167) hN okL_164 (hR _ _ _ r0_164_7) dX12_army_99 fl_12_37 rfl ?_
        refine bv_iload_n dX12_army_102 1 rfl ?_
        obtain ⟨r2, h⟩ := bu_ix h
        refine bz_iald hN rkL_167 r2 rfl dX12_army_103 ?_
        refine bv_goto (tgt := 108) dX12_army_104 (by decide) ?_
        obtain ⟨r3, h⟩ := bu_ix h
        refine bz_iast hN rkL_166 r3 rfl dX12_army_108 ?_
        refine bv_iinc (j := 1) (v := (x1 + 1)) (ls1 := [(0, .ref 164), (1, .int (x1 + 1))]) dX12_army_109 rfl rfl (by decide) rfl rfl ?_
        refine bv_goto (tgt := 80) dX12_army_112 (by decide) ?_
        exact ih _ _ _ h K0
def f_X12_army_l117 : Nat → Int32 → bm_TJ → Option (bm_TJ)
  | 0, _, _ => none
  | k + 1, x1, J => (if 15 ≤ x1 then some J else (if bm_ix 30 (15 + x1) = true then (if bm_ix 30 x1 = true then f_X12_army_l117 k (x1 + 1) (bm_uJ J 169 x1.toNatClampNeg (J 169 (15 + x1).toNatClampNeg)) else none) else none))
set_option maxHeartbeats 4000000 in
set_option maxRecDepth 100000 in
theorem v_X12_army_l117 {lc : bm_L} {d n : Nat} {Q : Option Value → bm_M → Prop} {R : bm_TR} {I : bm_TI} {W : bm_TR} (hN : 181 ≤ n) (hR : bm_RR R) : ∀ (k : Nat) (x1 : Int32) (J : bm_TJ) (r : bm_TJ), f_X12_army_l117 k x1 J = some r → (∀ yy, yy = r → bm_V lc m_X12_army (d + 6) n n n 144 [(0, .ref 164)] [] (I, yy, R, W) Q) → bm_V lc m_X12_army (d + 6) n n n 117 [(0, .ref 164), (1, .int x1)] [] (I, J, R, W) Q := by
  intro k
  induction k with
  | zero => intro x1 J r h; cases (show (none : Option (bm_TJ)) = some r from h)
  | succ k ih =>
    intro x1 J r h K0
    unfold f_X12_army_l117 at h
    refine bv_iload_n dX12_army_117 1 rfl ?_
    refine bv_bipush (v := 15) dX12_army_118 (by decide) ?_
    refine bv_icmp_ge (tgt := 144) dX12_army_120 (by decide) (fun cc => ?_) (fun cc => ?_)
    · replace h := bu_t h cc
      refine bw_ls (ls1 := [(0, .ref 164)]) [0] rfl ?_
      obtain rfl := Option.some.inj h
      exact K0 _ rfl
    · replace h := bu_f h cc
      refine bv_aload_n dX12_army_123 0 rfl ?_
      refine bz_getA (a := 169) hN okL_164 (hR _ _ _ r0_164_9) dX12_army_124 fl_12_43 rfl ?_
      refine bv_iload_n dX12_army_127 1 rfl ?_
      refine bv_aload_n dX12_army_128 0 rfl ?_
      refine bz_getA (a := 169) hN okL_164 (hR _ _ _ r0_164_9) dX12_army_129 fl_12_43 rfl ?_
      refine bv_bipush (v := 15) dX12_army_132 (by decide) ?_
      refine bv_iload_n dX12_army_134 1 rfl ?_
      refine bv_iadd dX12_army_135 ?_
      obtain ⟨r1, h⟩ := bu_ix h
      refine bz_lald hN rkL_169 r1 rfl dX12_army_136 ?_
      obtain ⟨r2, h⟩ := bu_ix h
      refine bz_last hN rkL_169 r2 rfl dX12_army_137 ?_
      refine bv_iinc (j := 1) (v := (x1 + 1)) (ls1 := [(0, .ref 164), (1, .int (x1 + 1))]) dX12_army_138 rfl rfl (by decide) rfl rfl ?_
      refine bv_goto (tgt := 117) dX12_army_141 (by decide) ?_
      exact ih _ _ _ h K0
def f_X12_army_l146 : Nat → Int32 → bm_TI → Option (bm_TI)
  | 0, _, _ => none
  | k + 1, x1, I => (if 8 ≤ x1 then some I else (if bm_ix 287 (5 + x1) = true then (if bm_ix 287 (66 + x1) = true then (if bm_ix 287 (13 + x1) = true then (if bm_ix 287 (74 + x1) = true then f_X12_army_l146 k (x1 + 1) (bm_uI (bm_uI I 166 ((66 + x1).toNatClampNeg) (I 166 (5 + x1).toNatClampNeg)) 166 ((74 + x1).toNatClampNeg) ((bm_uI I 166 ((66 + x1).toNatClampNeg) (I 166 (5 + x1).toNatClampNeg)) 166 (13 + x1).toNatClampNeg)) else none) else none) else none) else none))
set_option maxHeartbeats 4000000 in
set_option maxRecDepth 100000 in
theorem v_X12_army_l146 {lc : bm_L} {d n : Nat} {Q : Option Value → bm_M → Prop} {R : bm_TR} {J : bm_TJ} {W : bm_TR} (hN : 181 ≤ n) (hR : bm_RR R) : ∀ (k : Nat) (x1 : Int32) (I : bm_TI) (r : bm_TI), f_X12_army_l146 k x1 I = some r → (∀ yy, yy = r → bm_V lc m_X12_army (d + 6) n n n 193 [(0, .ref 164)] [] (yy, J, R, W) Q) → bm_V lc m_X12_army (d + 6) n n n 146 [(0, .ref 164), (1, .int x1)] [] (I, J, R, W) Q := by
  intro k
  induction k with
  | zero => intro x1 I r h; cases (show (none : Option (bm_TI)) = some r from h)
  | succ k ih =>
    intro x1 I r h K0
    unfold f_X12_army_l146 at h
    refine bv_iload_n dX12_army_146 1 rfl ?_
    refine bv_bipush (v := 8) dX12_army_147 (by decide) ?_
    refine bv_icmp_ge (tgt := 193) dX12_army_149 (by decide) (fun cc => ?_) (fun cc => ?_)
    · replace h := bu_t h cc
      refine bw_ls (ls1 := [(0, .ref 164)]) [0] rfl ?_
      obtain rfl := Option.some.inj h
      exact K0 _ rfl
    · replace h := bu_f h cc
      refine bv_aload_n dX12_army_152 0 rfl ?_
      refine bz_getA (a := 166) hN okL_164 (hR _ _ _ r0_164_6) dX12_army_153 fl_12_33 rfl ?_
      refine bv_bipush (v := 66) dX12_army_156 (by decide) ?_
      refine bv_iload_n dX12_army_158 1 rfl ?_
      refine bv_iadd dX12_army_159 ?_
      refine bv_aload_n dX12_army_160 0 rfl ?_
      refine bz_getA (a := 166) hN okL_164 (hR _ _ _ r0_164_6) dX12_army_161 fl_12_33 rfl ?_
      refine bv_iconst (v := 5) dX12_army_164 (by decide) ?_
      refine bv_iload_n dX12_army_165 1 rfl ?_
      refine bv_iadd dX12_army_166 ?_
      obtain ⟨r1, h⟩ := bu_ix h
      refine bz_iald hN rkL_166 r1 rfl dX12_army_167 ?_
      obtain ⟨r2, h⟩ := bu_ix h
      refine bz_iast hN rkL_166 r2 rfl dX12_army_168 ?_
      refine bv_aload_n dX12_army_169 0 rfl ?_
      refine bz_getA (a := 166) hN okL_164 (hR _ _ _ r0_164_6) dX12_army_170 fl_12_33 rfl ?_
      refine bv_bipush (v := 74) dX12_army_173 (by decide) ?_
      refine bv_iload_n dX12_army_175 1 rfl ?_
      refine bv_iadd dX12_army_176 ?_
      refine bv_aload_n dX12_army_177 0 rfl ?_
      refine bz_getA (a := 166) hN okL_164 (hR _ _ _ r0_164_6) dX12_army_178 fl_12_33 rfl ?_
      refine bv_bipush (v := 13) dX12_army_181 (by decide) ?_
      refine bv_iload_n dX12_army_183 1 rfl ?_
      refine bv_iadd dX12_army_184 ?_
      obtain ⟨r3, h⟩ := bu_ix h
      refine bz_iald hN rkL_166 r3 rfl dX12_army_185 ?_
      obtain ⟨r4, h⟩ := bu_ix h
      refine bz_iast hN rkL_166 r4 rfl dX12_army_186 ?_
      refine bv_iinc (j := 1) (v := (x1 + 1)) (ls1 := [(0, .ref 164), (1, .int (x1 + 1))]) dX12_army_187 rfl rfl (by decide) rfl rfl ?_
      refine bv_goto (tgt := 146) dX12_army_190 (by decide) ?_
      exact ih _ _ _ h K0
def f_X12_army (I : bm_TI) (J : bm_TJ) : Option (Int32 × bm_TI × bm_TJ) := ((f_X12_taken (bm_uI I 164 0 0) 900).bind fun v1 => ((f_X12_clears (bm_uI (bm_uI (bm_uI v1 164 15 0) 164 19 0) 164 20 0)).bind fun v3 => ((f_X12_next v3 J).bind fun v5 => ((f_X12_army_l35 1000 v5.1 v5.2).bind fun rr => match rr with | (Sum.inl y9) => some (((-1) - (y9.1 164 16)), y9.1, y9.2) | (Sum.inr y9) => ((f_X12_army_l80 1000 0 y9.1).bind fun y12 => ((f_X12_army_l117 1000 0 y9.2).bind fun y15 => ((f_X12_army_l146 1000 0 y12).bind fun y18 => some (((bm_uI y18 164 24 0) 164 19), (bm_uI y18 164 24 0), y15))))))))
set_option maxHeartbeats 4000000 in
set_option maxRecDepth 100000 in
theorem c_X12_army {lc : bm_L} {d n : Nat} {I : bm_TI} {J : bm_TJ} {R W : bm_TR} {v : Int32 × bm_TI × bm_TJ} (hN : 181 ≤ n) (hR : bm_RR R) (h : f_X12_army I J = some v) : bm_C lc m_X12_army (d + 6) n n [.ref 164] (I, J, R, W) (fun r M' => r = some (.int v.1) ∧ M' = (v.2.1, v.2.2, R, W)) := by
  refine bm_C.ofV (by decide) (Nat.le_of_ble_eq_true rfl) ?_
  show bm_V lc m_X12_army (d + 6) n n n 0 [(0, .ref 164)] [] (I, J, R, W) _
  unfold f_X12_army at h
  refine bv_aload_n dX12_army_0 0 rfl ?_
  refine bv_iconst (v := 0) dX12_army_1 (by decide) ?_
  refine bz_putI hN okL_164 dX12_army_2 fl_12_1 rfl ?_
  refine bv_aload_n dX12_army_5 0 rfl ?_
  refine bv_sipush (v := 900) dX12_army_6 (by decide) ?_
  obtain ⟨v1, p2, h⟩ := bu_bd h
  refine bw_callVv (As := [.int 900]) hN okL_164 ⟨_, _, rfl⟩ dX12_army_9 mc_12_264 (c_X12_taken (d := d + 5) hN hR p2) rfl rfl (by decide) ?_
  refine bv_aload_n dX12_army_12 0 rfl ?_
  refine bv_iconst (v := 0) dX12_army_13 (by decide) ?_
  refine bz_putI hN okL_164 dX12_army_14 fl_12_191 rfl ?_
  refine bv_aload_n dX12_army_17 0 rfl ?_
  refine bv_iconst (v := 0) dX12_army_18 (by decide) ?_
  refine bz_putI hN okL_164 dX12_army_19 fl_12_267 rfl ?_
  refine bv_aload_n dX12_army_22 0 rfl ?_
  refine bv_iconst (v := 0) dX12_army_23 (by decide) ?_
  refine bz_putI hN okL_164 dX12_army_24 fl_12_228 rfl ?_
  refine bv_aload_n dX12_army_27 0 rfl ?_
  obtain ⟨v3, p4, h⟩ := bu_bd h
  refine bw_callVv (As := []) hN okL_164 ⟨_, _, rfl⟩ dX12_army_28 mc_12_161 (c_X12_clears (d := d + 5) hN hR p4) rfl rfl (by decide) ?_
  refine bv_aload_n dX12_army_31 0 rfl ?_
  obtain ⟨v5, p6, h⟩ := bu_bd h
  refine bw_callVv (As := []) hN okL_164 ⟨_, _, rfl⟩ dX12_army_32 mc_12_203 (c_X12_next (d := d + 4) hN hR p6) rfl rfl (by decide) ?_
  obtain ⟨r7, p8, h⟩ := bu_bd h
  refine v_X12_army_l35 hN hR 1000 _ _ _ p8 (fun y9 hy => ?_) (fun y9 hy => ?_)
  · subst hy
    refine bv_iconst (v := (-1)) dX12_army_58 (by decide) ?_
    refine bv_aload_n dX12_army_59 0 rfl ?_
    refine bz_getI hN okL_164 dX12_army_60 fl_12_194 rfl ?_
    refine bv_isub dX12_army_63 ?_
    obtain rfl := Option.some.inj h
    exact bv_iret (x := ((-1) - (y9.1 164 16))) dX12_army_64 rfl ⟨rfl, rfl⟩
  · subst hy
    refine bv_iconst (v := 0) dX12_army_78 (by decide) ?_
    refine bv_istore_n (ls1 := [(0, .ref 164), (1, .int 0)]) dX12_army_79 (by decide) rfl rfl ?_
    obtain ⟨r10, p11, h⟩ := bu_bd h
    refine v_X12_army_l80 hN hR 1000 _ _ _ p11 (fun y12 hy => ?_)
    · subst hy
      refine bv_iconst (v := 0) dX12_army_115 (by decide) ?_
      refine bv_istore_n (ls1 := [(0, .ref 164), (1, .int 0)]) dX12_army_116 (by decide) rfl rfl ?_
      obtain ⟨r13, p14, h⟩ := bu_bd h
      refine v_X12_army_l117 hN hR 1000 _ _ _ p14 (fun y15 hy => ?_)
      · subst hy
        refine bv_iconst (v := 0) dX12_army_144 (by decide) ?_
        refine bv_istore_n (ls1 := [(0, .ref 164), (1, .int 0)]) dX12_army_145 (by decide) rfl rfl ?_
        obtain ⟨r16, p17, h⟩ := bu_bd h
        refine v_X12_army_l146 hN hR 1000 _ _ _ p17 (fun y18 hy => ?_)
        · subst hy
          refine bv_aload_n dX12_army_193 0 rfl ?_
          refine bv_iconst (v := 0) dX12_army_194 (by decide) ?_
          refine bz_putI hN okL_164 dX12_army_195 fl_12_276 rfl ?_
          refine bv_aload_n dX12_army_198 0 rfl ?_
          refine bz_getI hN okL_164 dX12_army_199 fl_12_267 rfl ?_
          obtain rfl := Option.some.inj h
          exact bv_iret (x := ((bm_uI y18 164 24 0) 164 19)) dX12_army_202 rfl ⟨rfl, rfl⟩
def f_X12_fault (I : bm_TI) : Option (Int32 × bm_TI) := some (((bm_uI I 164 0 0) 164 15), (bm_uI I 164 0 0))
set_option maxHeartbeats 4000000 in
set_option maxRecDepth 100000 in
theorem c_X12_fault {lc : bm_L} {d n : Nat} {I : bm_TI} {J : bm_TJ} {R W : bm_TR} {v : Int32 × bm_TI} (hN : 181 ≤ n) (hR : bm_RR R) (h : f_X12_fault I = some v) : bm_C lc m_X12_fault d n n [.ref 164] (I, J, R, W) (fun r M' => r = some (.int v.1) ∧ M' = (v.2, J, R, W)) := by
  refine bm_C.ofV (by decide) (Nat.le_of_ble_eq_true rfl) ?_
  show bm_V lc m_X12_fault d n n n 0 [(0, .ref 164)] [] (I, J, R, W) _
  unfold f_X12_fault at h
  refine bv_aload_n dX12_fault_0 0 rfl ?_
  refine bv_iconst (v := 0) dX12_fault_1 (by decide) ?_
  refine bz_putI hN okL_164 dX12_fault_2 fl_12_1 rfl ?_
  refine bv_aload_n dX12_fault_5 0 rfl ?_
  refine bz_getI hN okL_164 dX12_fault_6 fl_12_191 rfl ?_
  obtain rfl := Option.some.inj h
  exact bv_iret (x := ((bm_uI I 164 0 0) 164 15)) dX12_fault_9 rfl ⟨rfl, rfl⟩
def f_X12_isMan (I : bm_TI) (x1 : Int32) : Option (Bool) := some (f_X12_isIn x1 0 ((I 166 0) - 1))
set_option maxHeartbeats 4000000 in
set_option maxRecDepth 100000 in
theorem c_X12_isMan {lc : bm_L} {d n : Nat} {I : bm_TI} {J : bm_TJ} {R W : bm_TR} {x1 : Int32} {v : Bool} (hN : 181 ≤ n) (hR : bm_RR R) (h : f_X12_isMan I x1 = some v) : bm_C lc m_X12_isMan (d + 1) n n [.ref 164, .int x1] (I, J, R, W) (fun r M' => r = some (.int (bm_bi v)) ∧ M' = (I, J, R, W)) := by
  refine bm_C.ofV (by decide) (Nat.le_of_ble_eq_true rfl) ?_
  show bm_V lc m_X12_isMan (d + 1) n n n 0 [(0, .ref 164), (1, .int x1)] [] (I, J, R, W) _
  unfold f_X12_isMan at h
  refine bv_iload_n dX12_isMan_0 1 rfl ?_
  refine bv_iconst (v := 0) dX12_isMan_1 (by decide) ?_
  refine bv_aload_n dX12_isMan_2 0 rfl ?_
  refine bz_getA (a := 166) hN okL_164 (hR _ _ _ r0_164_6) dX12_isMan_3 fl_12_33 rfl ?_
  refine bv_iconst (v := 0) dX12_isMan_6 (by decide) ?_
  refine bz_iald (j := 0) hN rkL_166 (bm_ix_in (by decide)) (by decide) dX12_isMan_7 ?_
  refine bv_iconst (v := 1) dX12_isMan_8 (by decide) ?_
  refine bv_isub dX12_isMan_9 ?_
  refine bw_callS (As := [.int x1, .int 0, .int ((I 166 0) - 1)]) dX12_isMan_10 mc_12_206 (c_X12_isIn (d := d + 0) hN hR rfl) rfl rfl (by decide) ?_
  obtain rfl := Option.some.inj h
  exact bw_bret (b := (f_X12_isIn x1 0 ((I 166 0) - 1))) dX12_isMan_13 rfl ⟨rfl, rfl⟩
def f_X12_isOrder (I : bm_TI) (x1 : Int32) : Option (Bool) := some (f_X12_isIn x1 0 ((I 166 1) - 1))
set_option maxHeartbeats 4000000 in
set_option maxRecDepth 100000 in
theorem c_X12_isOrder {lc : bm_L} {d n : Nat} {I : bm_TI} {J : bm_TJ} {R W : bm_TR} {x1 : Int32} {v : Bool} (hN : 181 ≤ n) (hR : bm_RR R) (h : f_X12_isOrder I x1 = some v) : bm_C lc m_X12_isOrder (d + 1) n n [.ref 164, .int x1] (I, J, R, W) (fun r M' => r = some (.int (bm_bi v)) ∧ M' = (I, J, R, W)) := by
  refine bm_C.ofV (by decide) (Nat.le_of_ble_eq_true rfl) ?_
  show bm_V lc m_X12_isOrder (d + 1) n n n 0 [(0, .ref 164), (1, .int x1)] [] (I, J, R, W) _
  unfold f_X12_isOrder at h
  refine bv_iload_n dX12_isOrder_0 1 rfl ?_
  refine bv_iconst (v := 0) dX12_isOrder_1 (by decide) ?_
  refine bv_aload_n dX12_isOrder_2 0 rfl ?_
  refine bz_getA (a := 166) hN okL_164 (hR _ _ _ r0_164_6) dX12_isOrder_3 fl_12_33 rfl ?_
  refine bv_iconst (v := 1) dX12_isOrder_6 (by decide) ?_
  refine bz_iald (j := 1) hN rkL_166 (bm_ix_in (by decide)) (by decide) dX12_isOrder_7 ?_
  refine bv_iconst (v := 1) dX12_isOrder_8 (by decide) ?_
  refine bv_isub dX12_isOrder_9 ?_
  refine bw_callS (As := [.int x1, .int 0, .int ((I 166 1) - 1)]) dX12_isOrder_10 mc_12_206 (c_X12_isIn (d := d + 0) hN hR rfl) rfl rfl (by decide) ?_
  obtain rfl := Option.some.inj h
  exact bw_bret (b := (f_X12_isIn x1 0 ((I 166 1) - 1))) dX12_isOrder_13 rfl ⟨rfl, rfl⟩
def f_X12_browOf (I : bm_TI) (x1 : Int32) : Option (Int32) := (if (f_X12_bitOf (I 166 64) x1) = true then (if bm_ix 287 (21 + x1) = true then some (f_X12_lesser 9 ((I 166 (21 + x1).toNatClampNeg) + 3)) else none) else (if bm_ix 287 (21 + x1) = true then some (I 166 (21 + x1).toNatClampNeg) else none))
set_option maxHeartbeats 4000000 in
set_option maxRecDepth 100000 in
theorem c_X12_browOf {lc : bm_L} {d n : Nat} {I : bm_TI} {J : bm_TJ} {R W : bm_TR} {x1 : Int32} {v : Int32} (hN : 181 ≤ n) (hR : bm_RR R) (h : f_X12_browOf I x1 = some v) : bm_C lc m_X12_browOf (d + 1) n n [.ref 164, .int x1] (I, J, R, W) (fun r M' => r = some (.int v) ∧ M' = (I, J, R, W)) := by
  refine bm_C.ofV (by decide) (Nat.le_of_ble_eq_true rfl) ?_
  show bm_V lc m_X12_browOf (d + 1) n n n 0 [(0, .ref 164), (1, .int x1)] [] (I, J, R, W) _
  unfold f_X12_browOf at h
  refine bv_aload_n dX12_browOf_0 0 rfl ?_
  refine bz_getA (a := 166) hN okL_164 (hR _ _ _ r0_164_6) dX12_browOf_1 fl_12_33 rfl ?_
  refine bv_bipush (v := 64) dX12_browOf_4 (by decide) ?_
  refine bz_iald (j := 64) hN rkL_166 (bm_ix_in (by decide)) (by decide) dX12_browOf_6 ?_
  refine bv_iload_n dX12_browOf_7 1 rfl ?_
  refine bw_callS (As := [.int (I 166 64), .int x1]) dX12_browOf_8 mc_12_231 (c_X12_bitOf (d := d + 0) hN hR rfl) rfl rfl (by decide) ?_
  refine bw_ifB_eq (b := (f_X12_bitOf (I 166 64) x1)) (tgt := 33) dX12_browOf_11 (by decide) (fun cc => ?_) (fun cc => ?_)
  · replace h := bu_bf h cc
    refine bv_aload_n dX12_browOf_33 0 rfl ?_
    refine bz_getA (a := 166) hN okL_164 (hR _ _ _ r0_164_6) dX12_browOf_34 fl_12_33 rfl ?_
    refine bv_bipush (v := 21) dX12_browOf_37 (by decide) ?_
    refine bv_iload_n dX12_browOf_39 1 rfl ?_
    refine bv_iadd dX12_browOf_40 ?_
    obtain ⟨r1, h⟩ := bu_ix h
    refine bz_iald hN rkL_166 r1 rfl dX12_browOf_41 ?_
    obtain rfl := Option.some.inj h
    exact bv_iret (x := (I 166 (21 + x1).toNatClampNeg)) dX12_browOf_42 rfl ⟨rfl, rfl⟩
  · replace h := bu_bt h cc
    refine bv_bipush (v := 9) dX12_browOf_14 (by decide) ?_
    refine bv_aload_n dX12_browOf_16 0 rfl ?_
    refine bz_getA (a := 166) hN okL_164 (hR _ _ _ r0_164_6) dX12_browOf_17 fl_12_33 rfl ?_
    refine bv_bipush (v := 21) dX12_browOf_20 (by decide) ?_
    refine bv_iload_n dX12_browOf_22 1 rfl ?_
    refine bv_iadd dX12_browOf_23 ?_
    obtain ⟨r2, h⟩ := bu_ix h
    refine bz_iald hN rkL_166 r2 rfl dX12_browOf_24 ?_
    refine bv_iconst (v := 3) dX12_browOf_25 (by decide) ?_
    refine bv_iadd dX12_browOf_26 ?_
    refine bw_callS (As := [.int 9, .int ((I 166 (21 + x1).toNatClampNeg) + 3)]) dX12_browOf_27 mc_12_279 (c_X12_lesser (d := d + 0) hN hR rfl) rfl rfl (by decide) ?_
    refine bv_goto (tgt := 42) dX12_browOf_30 (by decide) ?_
    obtain rfl := Option.some.inj h
    exact bv_iret (x := (f_X12_lesser 9 ((I 166 (21 + x1).toNatClampNeg) + 3))) dX12_browOf_42 rfl ⟨rfl, rfl⟩
def f_X12_farBy (x0 : Int32) (x1 : Int32) (x2 : Int32) (x3 : Int32) : Int32 := ((f_X12_absolute (x0 - x2)) + (f_X12_absolute (x1 - x3)))
set_option maxHeartbeats 4000000 in
set_option maxRecDepth 100000 in
theorem c_X12_farBy {lc : bm_L} {d n : Nat} {I : bm_TI} {J : bm_TJ} {R W : bm_TR} {x0 : Int32} {x1 : Int32} {x2 : Int32} {x3 : Int32} {v : Int32} (hN : 181 ≤ n) (hR : bm_RR R) (h : f_X12_farBy x0 x1 x2 x3 = v) : bm_C lc m_X12_farBy (d + 1) n n [.int x0, .int x1, .int x2, .int x3] (I, J, R, W) (fun r M' => r = some (.int v) ∧ M' = (I, J, R, W)) := by
  refine bm_C.ofV (by decide) (Nat.le_of_ble_eq_true rfl) ?_
  show bm_V lc m_X12_farBy (d + 1) n n n 0 [(0, .int x0), (1, .int x1), (2, .int x2), (3, .int x3)] [] (I, J, R, W) _
  unfold f_X12_farBy at h
  refine bv_iload_n dX12_farBy_0 0 rfl ?_
  refine bv_iload_n dX12_farBy_1 2 rfl ?_
  refine bv_isub dX12_farBy_2 ?_
  refine bw_callS (As := [.int (x0 - x2)]) dX12_farBy_3 mc_12_282 (c_X12_absolute (d := d + 0) hN hR rfl) rfl rfl (by decide) ?_
  refine bv_iload_n dX12_farBy_6 1 rfl ?_
  refine bv_iload_n dX12_farBy_7 3 rfl ?_
  refine bv_isub dX12_farBy_8 ?_
  refine bw_callS (As := [.int (x1 - x3)]) dX12_farBy_9 mc_12_282 (c_X12_absolute (d := d + 0) hN hR rfl) rfl rfl (Nat.le_of_ble_eq_true rfl) ?_
  refine bv_iadd dX12_farBy_12 ?_
  subst h
  exact bv_iret (x := ((f_X12_absolute (x0 - x2)) + (f_X12_absolute (x1 - x3)))) dX12_farBy_13 rfl ⟨rfl, rfl⟩
def f_X12_isShown (I : bm_TI) (x1 : Int32) (x2 : Int32) (x3 : Int32) (x4 : Int32) (x5 : Int32) : Option (Bool) := (if x1 ≤ 0 then some false else (if (x1 * (I 166 3)) < (f_X12_farBy x2 x3 x4 x5) then some false else some true))
set_option maxHeartbeats 4000000 in
set_option maxRecDepth 100000 in
theorem c_X12_isShown {lc : bm_L} {d n : Nat} {I : bm_TI} {J : bm_TJ} {R W : bm_TR} {x1 : Int32} {x2 : Int32} {x3 : Int32} {x4 : Int32} {x5 : Int32} {v : Bool} (hN : 181 ≤ n) (hR : bm_RR R) (h : f_X12_isShown I x1 x2 x3 x4 x5 = some v) : bm_C lc m_X12_isShown (d + 2) n n [.ref 164, .int x1, .int x2, .int x3, .int x4, .int x5] (I, J, R, W) (fun r M' => r = some (.int (bm_bi v)) ∧ M' = (I, J, R, W)) := by
  refine bm_C.ofV (by decide) (Nat.le_of_ble_eq_true rfl) ?_
  show bm_V lc m_X12_isShown (d + 2) n n n 0 [(0, .ref 164), (1, .int x1), (2, .int x2), (3, .int x3), (4, .int x4), (5, .int x5)] [] (I, J, R, W) _
  unfold f_X12_isShown at h
  refine bv_iload_n dX12_isShown_0 1 rfl ?_
  refine bv_if_le (tgt := 28) dX12_isShown_1 (by decide) (fun cc => ?_) (fun cc => ?_)
  · replace h := bu_t h cc
    refine bv_iconst (v := 0) dX12_isShown_28 (by decide) ?_
    obtain rfl := Option.some.inj h
    exact bw_bret (b := false) dX12_isShown_29 rfl ⟨rfl, rfl⟩
  · replace h := bu_f h cc
    refine bv_iload_n dX12_isShown_4 2 rfl ?_
    refine bv_iload_n dX12_isShown_5 3 rfl ?_
    refine bv_iload dX12_isShown_6 4 rfl ?_
    refine bv_iload dX12_isShown_8 5 rfl ?_
    refine bw_callS (As := [.int x2, .int x3, .int x4, .int x5]) dX12_isShown_10 mc_12_286 (c_X12_farBy (d := d + 0) hN hR rfl) rfl rfl (by decide) ?_
    refine bv_iload_n dX12_isShown_13 1 rfl ?_
    refine bv_aload_n dX12_isShown_14 0 rfl ?_
    refine bz_getA (a := 166) hN okL_164 (hR _ _ _ r0_164_6) dX12_isShown_15 fl_12_33 rfl ?_
    refine bv_iconst (v := 3) dX12_isShown_18 (by decide) ?_
    refine bz_iald (j := 3) hN rkL_166 (bm_ix_in (by decide)) (by decide) dX12_isShown_19 ?_
    refine bv_imul dX12_isShown_20 ?_
    refine bv_icmp_gt (tgt := 28) dX12_isShown_21 (by decide) (fun cc => ?_) (fun cc => ?_)
    · replace h := bu_t h cc
      refine bv_iconst (v := 0) dX12_isShown_28 (by decide) ?_
      obtain rfl := Option.some.inj h
      exact bw_bret (b := false) dX12_isShown_29 rfl ⟨rfl, rfl⟩
    · replace h := bu_f h cc
      refine bv_iconst (v := 1) dX12_isShown_24 (by decide) ?_
      refine bv_goto (tgt := 29) dX12_isShown_25 (by decide) ?_
      obtain rfl := Option.some.inj h
      exact bw_bret (b := true) dX12_isShown_29 rfl ⟨rfl, rfl⟩
def f_X12_seesOne (I : bm_TI) (x1 : Int32) (x2 : Int32) : Option (Bool) := (if x1 = x2 then some false else (if (f_X12_bitOf (I 166 63) x1) = true then some false else ((f_X12_browOf I x2).bind fun v1 => (if bm_ix 287 (66 + x2) = true then (if bm_ix 287 (74 + x2) = true then (if bm_ix 287 (66 + x1) = true then (if bm_ix 287 (74 + x1) = true then ((f_X12_isShown I v1 (I 166 (66 + x2).toNatClampNeg) (I 166 (74 + x2).toNatClampNeg) (I 166 (66 + x1).toNatClampNeg) (I 166 (74 + x1).toNatClampNeg)).bind fun v7 => (if v7 = true then some true else some false)) else none) else none) else none) else none))))
set_option maxHeartbeats 4000000 in
set_option maxRecDepth 100000 in
theorem c_X12_seesOne {lc : bm_L} {d n : Nat} {I : bm_TI} {J : bm_TJ} {R W : bm_TR} {x1 : Int32} {x2 : Int32} {v : Bool} (hN : 181 ≤ n) (hR : bm_RR R) (h : f_X12_seesOne I x1 x2 = some v) : bm_C lc m_X12_seesOne (d + 3) n n [.ref 164, .int x1, .int x2] (I, J, R, W) (fun r M' => r = some (.int (bm_bi v)) ∧ M' = (I, J, R, W)) := by
  refine bm_C.ofV (by decide) (Nat.le_of_ble_eq_true rfl) ?_
  show bm_V lc m_X12_seesOne (d + 3) n n n 0 [(0, .ref 164), (1, .int x1), (2, .int x2)] [] (I, J, R, W) _
  unfold f_X12_seesOne at h
  refine bv_iload_n dX12_seesOne_0 1 rfl ?_
  refine bv_iload_n dX12_seesOne_1 2 rfl ?_
  refine bv_icmp_eq (tgt := 71) dX12_seesOne_2 (by decide) (fun cc => ?_) (fun cc => ?_)
  · replace h := bu_t h cc
    refine bv_iconst (v := 0) dX12_seesOne_71 (by decide) ?_
    obtain rfl := Option.some.inj h
    exact bw_bret (b := false) dX12_seesOne_72 rfl ⟨rfl, rfl⟩
  · replace h := bu_f h cc
    refine bv_aload_n dX12_seesOne_5 0 rfl ?_
    refine bz_getA (a := 166) hN okL_164 (hR _ _ _ r0_164_6) dX12_seesOne_6 fl_12_33 rfl ?_
    refine bv_bipush (v := 63) dX12_seesOne_9 (by decide) ?_
    refine bz_iald (j := 63) hN rkL_166 (bm_ix_in (by decide)) (by decide) dX12_seesOne_11 ?_
    refine bv_iload_n dX12_seesOne_12 1 rfl ?_
    refine bw_callS (As := [.int (I 166 63), .int x1]) dX12_seesOne_13 mc_12_231 (c_X12_bitOf (d := d + 2) hN hR rfl) rfl rfl (by decide) ?_
    refine bw_ifB_ne (b := (f_X12_bitOf (I 166 63) x1)) (tgt := 71) dX12_seesOne_16 (by decide) (fun cc => ?_) (fun cc => ?_)
    · replace h := bu_bt h cc
      refine bv_iconst (v := 0) dX12_seesOne_71 (by decide) ?_
      obtain rfl := Option.some.inj h
      exact bw_bret (b := false) dX12_seesOne_72 rfl ⟨rfl, rfl⟩
    · replace h := bu_bf h cc
      refine bv_aload_n dX12_seesOne_19 0 rfl ?_
      refine bv_aload_n dX12_seesOne_20 0 rfl ?_
      refine bv_iload_n dX12_seesOne_21 2 rfl ?_
      obtain ⟨v1, p2, h⟩ := bu_bd h
      refine bw_callV (As := [.int x2]) hN okL_164 ⟨_, _, rfl⟩ dX12_seesOne_22 mc_12_290 (c_X12_browOf (d := d + 1) hN hR p2) rfl rfl (Nat.le_of_ble_eq_true rfl) ?_
      refine bv_aload_n dX12_seesOne_25 0 rfl ?_
      refine bz_getA (a := 166) hN okL_164 (hR _ _ _ r0_164_6) dX12_seesOne_26 fl_12_33 rfl ?_
      refine bv_bipush (v := 66) dX12_seesOne_29 (by decide) ?_
      refine bv_iload_n dX12_seesOne_31 2 rfl ?_
      refine bv_iadd dX12_seesOne_32 ?_
      obtain ⟨r3, h⟩ := bu_ix h
      refine bz_iald hN rkL_166 r3 rfl dX12_seesOne_33 ?_
      refine bv_aload_n dX12_seesOne_34 0 rfl ?_
      refine bz_getA (a := 166) hN okL_164 (hR _ _ _ r0_164_6) dX12_seesOne_35 fl_12_33 rfl ?_
      refine bv_bipush (v := 74) dX12_seesOne_38 (by decide) ?_
      refine bv_iload_n dX12_seesOne_40 2 rfl ?_
      refine bv_iadd dX12_seesOne_41 ?_
      obtain ⟨r4, h⟩ := bu_ix h
      refine bz_iald hN rkL_166 r4 rfl dX12_seesOne_42 ?_
      refine bv_aload_n dX12_seesOne_43 0 rfl ?_
      refine bz_getA (a := 166) hN okL_164 (hR _ _ _ r0_164_6) dX12_seesOne_44 fl_12_33 rfl ?_
      refine bv_bipush (v := 66) dX12_seesOne_47 (by decide) ?_
      refine bv_iload_n dX12_seesOne_49 1 rfl ?_
      refine bv_iadd dX12_seesOne_50 ?_
      obtain ⟨r5, h⟩ := bu_ix h
      refine bz_iald hN rkL_166 r5 rfl dX12_seesOne_51 ?_
      refine bv_aload_n dX12_seesOne_52 0 rfl ?_
      refine bz_getA (a := 166) hN okL_164 (hR _ _ _ r0_164_6) dX12_seesOne_53 fl_12_33 rfl ?_
      refine bv_bipush (v := 74) dX12_seesOne_56 (by decide) ?_
      refine bv_iload_n dX12_seesOne_58 1 rfl ?_
      refine bv_iadd dX12_seesOne_59 ?_
      obtain ⟨r6, h⟩ := bu_ix h
      refine bz_iald hN rkL_166 r6 rfl dX12_seesOne_60 ?_
      obtain ⟨v7, p8, h⟩ := bu_bd h
      refine bw_callV (As := [.int v1, .int (I 166 (66 + x2).toNatClampNeg), .int (I 166 (74 + x2).toNatClampNeg), .int (I 166 (66 + x1).toNatClampNeg), .int (I 166 (74 + x1).toNatClampNeg)]) hN okL_164 ⟨_, _, rfl⟩ dX12_seesOne_61 mc_12_293 (c_X12_isShown (d := d + 0) hN hR p8) rfl rfl (by decide) ?_
      refine bw_ifB_eq (b := v7) (tgt := 71) dX12_seesOne_64 (by decide) (fun cc => ?_) (fun cc => ?_)
      · replace h := bu_bf h cc
        refine bv_iconst (v := 0) dX12_seesOne_71 (by decide) ?_
        obtain rfl := Option.some.inj h
        exact bw_bret (b := false) dX12_seesOne_72 rfl ⟨rfl, rfl⟩
      · replace h := bu_bt h cc
        refine bv_iconst (v := 1) dX12_seesOne_67 (by decide) ?_
        refine bv_goto (tgt := 72) dX12_seesOne_68 (by decide) ?_
        obtain rfl := Option.some.inj h
        exact bw_bret (b := true) dX12_seesOne_72 rfl ⟨rfl, rfl⟩
def f_X12_readsOne (I : bm_TI) (x1 : Int32) (x2 : Int32) : Option (Bool) := (if bm_ix 287 (31 + x1) = true then (if (I 166 (31 + x1).toNatClampNeg) = (x2 + 1) then ((f_X12_seesOne I x1 x2).bind fun v2 => (if v2 = true then some true else some false)) else some false) else none)
set_option maxHeartbeats 4000000 in
set_option maxRecDepth 100000 in
theorem c_X12_readsOne {lc : bm_L} {d n : Nat} {I : bm_TI} {J : bm_TJ} {R W : bm_TR} {x1 : Int32} {x2 : Int32} {v : Bool} (hN : 181 ≤ n) (hR : bm_RR R) (h : f_X12_readsOne I x1 x2 = some v) : bm_C lc m_X12_readsOne (d + 4) n n [.ref 164, .int x1, .int x2] (I, J, R, W) (fun r M' => r = some (.int (bm_bi v)) ∧ M' = (I, J, R, W)) := by
  refine bm_C.ofV (by decide) (Nat.le_of_ble_eq_true rfl) ?_
  show bm_V lc m_X12_readsOne (d + 4) n n n 0 [(0, .ref 164), (1, .int x1), (2, .int x2)] [] (I, J, R, W) _
  unfold f_X12_readsOne at h
  refine bv_aload_n dX12_readsOne_0 0 rfl ?_
  refine bz_getA (a := 166) hN okL_164 (hR _ _ _ r0_164_6) dX12_readsOne_1 fl_12_33 rfl ?_
  refine bv_bipush (v := 31) dX12_readsOne_4 (by decide) ?_
  refine bv_iload_n dX12_readsOne_6 1 rfl ?_
  refine bv_iadd dX12_readsOne_7 ?_
  obtain ⟨r1, h⟩ := bu_ix h
  refine bz_iald hN rkL_166 r1 rfl dX12_readsOne_8 ?_
  refine bv_iload_n dX12_readsOne_9 2 rfl ?_
  refine bv_iconst (v := 1) dX12_readsOne_10 (by decide) ?_
  refine bv_iadd dX12_readsOne_11 ?_
  refine bv_icmp_ne (tgt := 28) dX12_readsOne_12 (by decide) (fun cc => ?_) (fun cc => ?_)
  · replace h := bu_f h cc
    refine bv_iconst (v := 0) dX12_readsOne_28 (by decide) ?_
    obtain rfl := Option.some.inj h
    exact bw_bret (b := false) dX12_readsOne_29 rfl ⟨rfl, rfl⟩
  · replace h := bu_t h cc
    refine bv_aload_n dX12_readsOne_15 0 rfl ?_
    refine bv_iload_n dX12_readsOne_16 1 rfl ?_
    refine bv_iload_n dX12_readsOne_17 2 rfl ?_
    obtain ⟨v2, p3, h⟩ := bu_bd h
    refine bw_callV (As := [.int x1, .int x2]) hN okL_164 ⟨_, _, rfl⟩ dX12_readsOne_18 mc_12_297 (c_X12_seesOne (d := d + 0) hN hR p3) rfl rfl (by decide) ?_
    refine bw_ifB_eq (b := v2) (tgt := 28) dX12_readsOne_21 (by decide) (fun cc => ?_) (fun cc => ?_)
    · replace h := bu_bf h cc
      refine bv_iconst (v := 0) dX12_readsOne_28 (by decide) ?_
      obtain rfl := Option.some.inj h
      exact bw_bret (b := false) dX12_readsOne_29 rfl ⟨rfl, rfl⟩
    · replace h := bu_bt h cc
      refine bv_iconst (v := 1) dX12_readsOne_24 (by decide) ?_
      refine bv_goto (tgt := 29) dX12_readsOne_25 (by decide) ?_
      obtain rfl := Option.some.inj h
      exact bw_bret (b := true) dX12_readsOne_29 rfl ⟨rfl, rfl⟩
def f_X12_readersOf_l4 (I : bm_TI) (x1 : Int32) : Nat → Int32 → Int32 → Option (Int32)
  | 0, _, _ => none
  | k + 1, x2, x3 => (if (I 166 0) ≤ x3 then some x2 else ((f_X12_readsOne I x3 x1).bind fun v1 => (if v1 = true then f_X12_readersOf_l4 I x1 k (x2 ||| (bm_ishl 1 x3)) (x3 + 1) else f_X12_readersOf_l4 I x1 k (x2 ||| 0) (x3 + 1))))
set_option maxHeartbeats 4000000 in
set_option maxRecDepth 100000 in
theorem v_X12_readersOf_l4 {lc : bm_L} {d n : Nat} {Q : Option Value → bm_M → Prop} {R : bm_TR} {I : bm_TI} {J : bm_TJ} {W : bm_TR} {x1 : Int32} (hN : 181 ≤ n) (hR : bm_RR R) : ∀ (k : Nat) (x2 : Int32) (x3 : Int32) (r : Int32), f_X12_readersOf_l4 I x1 k x2 x3 = some r → (∀ yy, yy = r → bm_V lc m_X12_readersOf (d + 5) n n n 39 [(2, .int yy)] [] (I, J, R, W) Q) → bm_V lc m_X12_readersOf (d + 5) n n n 4 [(0, .ref 164), (1, .int x1), (2, .int x2), (3, .int x3)] [] (I, J, R, W) Q := by
  intro k
  induction k with
  | zero => intro x2 x3 r h; cases (show (none : Option (Int32)) = some r from h)
  | succ k ih =>
    intro x2 x3 r h K0
    unfold f_X12_readersOf_l4 at h
    refine bv_iload_n dX12_readersOf_4 3 rfl ?_
    refine bv_aload_n dX12_readersOf_5 0 rfl ?_
    refine bz_getA (a := 166) hN okL_164 (hR _ _ _ r0_164_6) dX12_readersOf_6 fl_12_33 rfl ?_
    refine bv_iconst (v := 0) dX12_readersOf_9 (by decide) ?_
    refine bz_iald (j := 0) hN rkL_166 (bm_ix_in (by decide)) (by decide) dX12_readersOf_10 ?_
    refine bv_icmp_ge (tgt := 39) dX12_readersOf_11 (by decide) (fun cc => ?_) (fun cc => ?_)
    · replace h := bu_t h cc
      refine bw_ls (ls1 := [(2, .int x2)]) [2] rfl ?_
      obtain rfl := Option.some.inj h
      exact K0 _ rfl
    · replace h := bu_f h cc
      refine bv_iload_n dX12_readersOf_14 2 rfl ?_
      refine bv_aload_n dX12_readersOf_15 0 rfl ?_
      refine bv_iload_n dX12_readersOf_16 3 rfl ?_
      refine bv_iload_n dX12_readersOf_17 1 rfl ?_
      obtain ⟨v1, p2, h⟩ := bu_bd h
      refine bw_callV (As := [.int x3, .int x1]) hN okL_164 ⟨_, _, rfl⟩ dX12_readersOf_18 mc_12_300 (c_X12_readsOne (d := d + 0) hN hR p2) rfl rfl (Nat.le_of_ble_eq_true rfl) ?_
      refine bw_ifB_eq (b := v1) (tgt := 30) dX12_readersOf_21 (by decide) (fun cc => ?_) (fun cc => ?_)
      · replace h := bu_bf h cc
        refine bv_iconst (v := 0) dX12_readersOf_30 (by decide) ?_
        refine bv_ior dX12_readersOf_31 ?_
        refine bv_istore_n (ls1 := [(0, .ref 164), (1, .int x1), (2, .int (x2 ||| 0)), (3, .int x3)]) dX12_readersOf_32 (by decide) rfl rfl ?_
        refine bv_iinc (j := 3) (v := (x3 + 1)) (ls1 := [(0, .ref 164), (1, .int x1), (2, .int (x2 ||| 0)), (3, .int (x3 + 1))]) dX12_readersOf_33 rfl rfl (by decide) rfl rfl ?_
        refine bv_goto (tgt := 4) dX12_readersOf_36 (by decide) ?_
        exact ih _ _ _ h K0
      · replace h := bu_bt h cc
        refine bv_iconst (v := 1) dX12_readersOf_24 (by decide) ?_
        refine bv_iload_n dX12_readersOf_25 3 rfl ?_
        refine bv_ishl dX12_readersOf_26 ?_
        refine bv_goto (tgt := 31) dX12_readersOf_27 (by decide) ?_
        refine bv_ior dX12_readersOf_31 ?_
        refine bv_istore_n (ls1 := [(0, .ref 164), (1, .int x1), (2, .int (x2 ||| (bm_ishl 1 x3))), (3, .int x3)]) dX12_readersOf_32 (by decide) rfl rfl ?_
        refine bv_iinc (j := 3) (v := (x3 + 1)) (ls1 := [(0, .ref 164), (1, .int x1), (2, .int (x2 ||| (bm_ishl 1 x3))), (3, .int (x3 + 1))]) dX12_readersOf_33 rfl rfl (by decide) rfl rfl ?_
        refine bv_goto (tgt := 4) dX12_readersOf_36 (by decide) ?_
        exact ih _ _ _ h K0
def f_X12_readersOf (I : bm_TI) (x1 : Int32) : Option (Int32) := ((f_X12_readersOf_l4 I x1 1000 0 0).bind fun y3 => some y3)
set_option maxHeartbeats 4000000 in
set_option maxRecDepth 100000 in
theorem c_X12_readersOf {lc : bm_L} {d n : Nat} {I : bm_TI} {J : bm_TJ} {R W : bm_TR} {x1 : Int32} {v : Int32} (hN : 181 ≤ n) (hR : bm_RR R) (h : f_X12_readersOf I x1 = some v) : bm_C lc m_X12_readersOf (d + 5) n n [.ref 164, .int x1] (I, J, R, W) (fun r M' => r = some (.int v) ∧ M' = (I, J, R, W)) := by
  refine bm_C.ofV (by decide) (Nat.le_of_ble_eq_true rfl) ?_
  show bm_V lc m_X12_readersOf (d + 5) n n n 0 [(0, .ref 164), (1, .int x1)] [] (I, J, R, W) _
  unfold f_X12_readersOf at h
  refine bv_iconst (v := 0) dX12_readersOf_0 (by decide) ?_
  refine bv_istore_n (ls1 := [(0, .ref 164), (1, .int x1), (2, .int 0)]) dX12_readersOf_1 (by decide) rfl rfl ?_
  refine bv_iconst (v := 0) dX12_readersOf_2 (by decide) ?_
  refine bv_istore_n (ls1 := [(0, .ref 164), (1, .int x1), (2, .int 0), (3, .int 0)]) dX12_readersOf_3 (by decide) rfl rfl ?_
  obtain ⟨r1, p2, h⟩ := bu_bd h
  refine v_X12_readersOf_l4 hN hR 1000 _ _ _ p2 (fun y3 hy => ?_)
  · subst hy
    refine bv_iload_n dX12_readersOf_39 0 rfl ?_
    obtain rfl := Option.some.inj h
    exact bv_iret (x := y3) dX12_readersOf_40 rfl ⟨rfl, rfl⟩
def f_X12_seenBy_l4 (I : bm_TI) (x1 : Int32) : Nat → Int32 → Int32 → Option (Int32)
  | 0, _, _ => none
  | k + 1, x2, x3 => (if (I 166 0) ≤ x3 then some x2 else ((f_X12_seesOne I x1 x3).bind fun v1 => (if v1 = true then f_X12_seenBy_l4 I x1 k (x2 ||| (bm_ishl 1 x3)) (x3 + 1) else f_X12_seenBy_l4 I x1 k (x2 ||| 0) (x3 + 1))))
set_option maxHeartbeats 4000000 in
set_option maxRecDepth 100000 in
theorem v_X12_seenBy_l4 {lc : bm_L} {d n : Nat} {Q : Option Value → bm_M → Prop} {R : bm_TR} {I : bm_TI} {J : bm_TJ} {W : bm_TR} {x1 : Int32} (hN : 181 ≤ n) (hR : bm_RR R) : ∀ (k : Nat) (x2 : Int32) (x3 : Int32) (r : Int32), f_X12_seenBy_l4 I x1 k x2 x3 = some r → (∀ yy, yy = r → bm_V lc m_X12_seenBy (d + 4) n n n 39 [(2, .int yy)] [] (I, J, R, W) Q) → bm_V lc m_X12_seenBy (d + 4) n n n 4 [(0, .ref 164), (1, .int x1), (2, .int x2), (3, .int x3)] [] (I, J, R, W) Q := by
  intro k
  induction k with
  | zero => intro x2 x3 r h; cases (show (none : Option (Int32)) = some r from h)
  | succ k ih =>
    intro x2 x3 r h K0
    unfold f_X12_seenBy_l4 at h
    refine bv_iload_n dX12_seenBy_4 3 rfl ?_
    refine bv_aload_n dX12_seenBy_5 0 rfl ?_
    refine bz_getA (a := 166) hN okL_164 (hR _ _ _ r0_164_6) dX12_seenBy_6 fl_12_33 rfl ?_
    refine bv_iconst (v := 0) dX12_seenBy_9 (by decide) ?_
    refine bz_iald (j := 0) hN rkL_166 (bm_ix_in (by decide)) (by decide) dX12_seenBy_10 ?_
    refine bv_icmp_ge (tgt := 39) dX12_seenBy_11 (by decide) (fun cc => ?_) (fun cc => ?_)
    · replace h := bu_t h cc
      refine bw_ls (ls1 := [(2, .int x2)]) [2] rfl ?_
      obtain rfl := Option.some.inj h
      exact K0 _ rfl
    · replace h := bu_f h cc
      refine bv_iload_n dX12_seenBy_14 2 rfl ?_
      refine bv_aload_n dX12_seenBy_15 0 rfl ?_
      refine bv_iload_n dX12_seenBy_16 1 rfl ?_
      refine bv_iload_n dX12_seenBy_17 3 rfl ?_
      obtain ⟨v1, p2, h⟩ := bu_bd h
      refine bw_callV (As := [.int x1, .int x3]) hN okL_164 ⟨_, _, rfl⟩ dX12_seenBy_18 mc_12_297 (c_X12_seesOne (d := d + 0) hN hR p2) rfl rfl (Nat.le_of_ble_eq_true rfl) ?_
      refine bw_ifB_eq (b := v1) (tgt := 30) dX12_seenBy_21 (by decide) (fun cc => ?_) (fun cc => ?_)
      · replace h := bu_bf h cc
        refine bv_iconst (v := 0) dX12_seenBy_30 (by decide) ?_
        refine bv_ior dX12_seenBy_31 ?_
        refine bv_istore_n (ls1 := [(0, .ref 164), (1, .int x1), (2, .int (x2 ||| 0)), (3, .int x3)]) dX12_seenBy_32 (by decide) rfl rfl ?_
        refine bv_iinc (j := 3) (v := (x3 + 1)) (ls1 := [(0, .ref 164), (1, .int x1), (2, .int (x2 ||| 0)), (3, .int (x3 + 1))]) dX12_seenBy_33 rfl rfl (by decide) rfl rfl ?_
        refine bv_goto (tgt := 4) dX12_seenBy_36 (by decide) ?_
        exact ih _ _ _ h K0
      · replace h := bu_bt h cc
        refine bv_iconst (v := 1) dX12_seenBy_24 (by decide) ?_
        refine bv_iload_n dX12_seenBy_25 3 rfl ?_
        refine bv_ishl dX12_seenBy_26 ?_
        refine bv_goto (tgt := 31) dX12_seenBy_27 (by decide) ?_
        refine bv_ior dX12_seenBy_31 ?_
        refine bv_istore_n (ls1 := [(0, .ref 164), (1, .int x1), (2, .int (x2 ||| (bm_ishl 1 x3))), (3, .int x3)]) dX12_seenBy_32 (by decide) rfl rfl ?_
        refine bv_iinc (j := 3) (v := (x3 + 1)) (ls1 := [(0, .ref 164), (1, .int x1), (2, .int (x2 ||| (bm_ishl 1 x3))), (3, .int (x3 + 1))]) dX12_seenBy_33 rfl rfl (by decide) rfl rfl ?_
        refine bv_goto (tgt := 4) dX12_seenBy_36 (by decide) ?_
        exact ih _ _ _ h K0
def f_X12_seenBy (I : bm_TI) (x1 : Int32) : Option (Int32) := ((f_X12_seenBy_l4 I x1 1000 0 0).bind fun y3 => some y3)
set_option maxHeartbeats 4000000 in
set_option maxRecDepth 100000 in
theorem c_X12_seenBy {lc : bm_L} {d n : Nat} {I : bm_TI} {J : bm_TJ} {R W : bm_TR} {x1 : Int32} {v : Int32} (hN : 181 ≤ n) (hR : bm_RR R) (h : f_X12_seenBy I x1 = some v) : bm_C lc m_X12_seenBy (d + 4) n n [.ref 164, .int x1] (I, J, R, W) (fun r M' => r = some (.int v) ∧ M' = (I, J, R, W)) := by
  refine bm_C.ofV (by decide) (Nat.le_of_ble_eq_true rfl) ?_
  show bm_V lc m_X12_seenBy (d + 4) n n n 0 [(0, .ref 164), (1, .int x1)] [] (I, J, R, W) _
  unfold f_X12_seenBy at h
  refine bv_iconst (v := 0) dX12_seenBy_0 (by decide) ?_
  refine bv_istore_n (ls1 := [(0, .ref 164), (1, .int x1), (2, .int 0)]) dX12_seenBy_1 (by decide) rfl rfl ?_
  refine bv_iconst (v := 0) dX12_seenBy_2 (by decide) ?_
  refine bv_istore_n (ls1 := [(0, .ref 164), (1, .int x1), (2, .int 0), (3, .int 0)]) dX12_seenBy_3 (by decide) rfl rfl ?_
  obtain ⟨r1, p2, h⟩ := bu_bd h
  refine v_X12_seenBy_l4 hN hR 1000 _ _ _ p2 (fun y3 hy => ?_)
  · subst hy
    refine bv_iload_n dX12_seenBy_39 0 rfl ?_
    obtain rfl := Option.some.inj h
    exact bv_iret (x := y3) dX12_seenBy_40 rfl ⟨rfl, rfl⟩
def f_X12_foesOf_l6 (I : bm_TI) (x1 : Int32) (x2 : Int32) (x3 : Int32) : Nat → Int32 → Int32 → Option (Int32)
  | 0, _, _ => none
  | k + 1, x4, x5 => (if (I 166 2) ≤ x5 then some x4 else ((f_X12_browOf I x1).bind fun v1 => (if bm_ix 287 (53 + x5) = true then (if bm_ix 287 (57 + x5) = true then ((f_X12_isShown I v1 x2 x3 (I 166 (53 + x5).toNatClampNeg) (I 166 (57 + x5).toNatClampNeg)).bind fun v5 => (if v5 = true then f_X12_foesOf_l6 I x1 x2 x3 k (x4 ||| (bm_ishl 1 x5)) (x5 + 1) else f_X12_foesOf_l6 I x1 x2 x3 k (x4 ||| 0) (x5 + 1))) else none) else none)))
set_option maxHeartbeats 4000000 in
set_option maxRecDepth 100000 in
theorem v_X12_foesOf_l6 {lc : bm_L} {d n : Nat} {Q : Option Value → bm_M → Prop} {R : bm_TR} {I : bm_TI} {J : bm_TJ} {W : bm_TR} {x1 : Int32} {x2 : Int32} {x3 : Int32} (hN : 181 ≤ n) (hR : bm_RR R) : ∀ (k : Nat) (x4 : Int32) (x5 : Int32) (r : Int32), f_X12_foesOf_l6 I x1 x2 x3 k x4 x5 = some r → (∀ yy, yy = r → bm_V lc m_X12_foesOf (d + 3) n n n 70 [(4, .int yy)] [] (I, J, R, W) Q) → bm_V lc m_X12_foesOf (d + 3) n n n 6 [(0, .ref 164), (1, .int x1), (2, .int x2), (3, .int x3), (4, .int x4), (5, .int x5)] [] (I, J, R, W) Q := by
  intro k
  induction k with
  | zero => intro x4 x5 r h; cases (show (none : Option (Int32)) = some r from h)
  | succ k ih =>
    intro x4 x5 r h K0
    unfold f_X12_foesOf_l6 at h
    refine bv_iload dX12_foesOf_6 5 rfl ?_
    refine bv_aload_n dX12_foesOf_8 0 rfl ?_
    refine bz_getA (a := 166) hN okL_164 (hR _ _ _ r0_164_6) dX12_foesOf_9 fl_12_33 rfl ?_
    refine bv_iconst (v := 2) dX12_foesOf_12 (by decide) ?_
    refine bz_iald (j := 2) hN rkL_166 (bm_ix_in (by decide)) (by decide) dX12_foesOf_13 ?_
    refine bv_icmp_ge (tgt := 70) dX12_foesOf_14 (by decide) (fun cc => ?_) (fun cc => ?_)
    · replace h := bu_t h cc
      refine bw_ls (ls1 := [(4, .int x4)]) [4] rfl ?_
      obtain rfl := Option.some.inj h
      exact K0 _ rfl
    · replace h := bu_f h cc
      refine bv_iload dX12_foesOf_17 4 rfl ?_
      refine bv_aload_n dX12_foesOf_19 0 rfl ?_
      refine bv_aload_n dX12_foesOf_20 0 rfl ?_
      refine bv_iload_n dX12_foesOf_21 1 rfl ?_
      obtain ⟨v1, p2, h⟩ := bu_bd h
      refine bw_callV (As := [.int x1]) hN okL_164 ⟨_, _, rfl⟩ dX12_foesOf_22 mc_12_290 (c_X12_browOf (d := d + 1) hN hR p2) rfl rfl (Nat.le_of_ble_eq_true rfl) ?_
      refine bv_iload_n dX12_foesOf_25 2 rfl ?_
      refine bv_iload_n dX12_foesOf_26 3 rfl ?_
      refine bv_aload_n dX12_foesOf_27 0 rfl ?_
      refine bz_getA (a := 166) hN okL_164 (hR _ _ _ r0_164_6) dX12_foesOf_28 fl_12_33 rfl ?_
      refine bv_bipush (v := 53) dX12_foesOf_31 (by decide) ?_
      refine bv_iload dX12_foesOf_33 5 rfl ?_
      refine bv_iadd dX12_foesOf_35 ?_
      obtain ⟨r3, h⟩ := bu_ix h
      refine bz_iald hN rkL_166 r3 rfl dX12_foesOf_36 ?_
      refine bv_aload_n dX12_foesOf_37 0 rfl ?_
      refine bz_getA (a := 166) hN okL_164 (hR _ _ _ r0_164_6) dX12_foesOf_38 fl_12_33 rfl ?_
      refine bv_bipush (v := 57) dX12_foesOf_41 (by decide) ?_
      refine bv_iload dX12_foesOf_43 5 rfl ?_
      refine bv_iadd dX12_foesOf_45 ?_
      obtain ⟨r4, h⟩ := bu_ix h
      refine bz_iald hN rkL_166 r4 rfl dX12_foesOf_46 ?_
      obtain ⟨v5, p6, h⟩ := bu_bd h
      refine bw_callV (As := [.int v1, .int x2, .int x3, .int (I 166 (53 + x5).toNatClampNeg), .int (I 166 (57 + x5).toNatClampNeg)]) hN okL_164 ⟨_, _, rfl⟩ dX12_foesOf_47 mc_12_293 (c_X12_isShown (d := d + 0) hN hR p6) rfl rfl (Nat.le_of_ble_eq_true rfl) ?_
      refine bw_ifB_eq (b := v5) (tgt := 60) dX12_foesOf_50 (by decide) (fun cc => ?_) (fun cc => ?_)
      · replace h := bu_bf h cc
        refine bv_iconst (v := 0) dX12_foesOf_60 (by decide) ?_
        refine bv_ior dX12_foesOf_61 ?_
        refine bv_istore (ls1 := [(0, .ref 164), (1, .int x1), (2, .int x2), (3, .int x3), (4, .int (x4 ||| 0)), (5, .int x5)]) dX12_foesOf_62 (by decide) rfl rfl ?_
        refine bv_iinc (j := 5) (v := (x5 + 1)) (ls1 := [(0, .ref 164), (1, .int x1), (2, .int x2), (3, .int x3), (4, .int (x4 ||| 0)), (5, .int (x5 + 1))]) dX12_foesOf_64 rfl rfl (by decide) rfl rfl ?_
        refine bv_goto (tgt := 6) dX12_foesOf_67 (by decide) ?_
        exact ih _ _ _ h K0
      · replace h := bu_bt h cc
        refine bv_iconst (v := 1) dX12_foesOf_53 (by decide) ?_
        refine bv_iload dX12_foesOf_54 5 rfl ?_
        refine bv_ishl dX12_foesOf_56 ?_
        refine bv_goto (tgt := 61) dX12_foesOf_57 (by decide) ?_
        refine bv_ior dX12_foesOf_61 ?_
        refine bv_istore (ls1 := [(0, .ref 164), (1, .int x1), (2, .int x2), (3, .int x3), (4, .int (x4 ||| (bm_ishl 1 x5))), (5, .int x5)]) dX12_foesOf_62 (by decide) rfl rfl ?_
        refine bv_iinc (j := 5) (v := (x5 + 1)) (ls1 := [(0, .ref 164), (1, .int x1), (2, .int x2), (3, .int x3), (4, .int (x4 ||| (bm_ishl 1 x5))), (5, .int (x5 + 1))]) dX12_foesOf_64 rfl rfl (by decide) rfl rfl ?_
        refine bv_goto (tgt := 6) dX12_foesOf_67 (by decide) ?_
        exact ih _ _ _ h K0
def f_X12_foesOf (I : bm_TI) (x1 : Int32) (x2 : Int32) (x3 : Int32) : Option (Int32) := ((f_X12_foesOf_l6 I x1 x2 x3 1000 0 0).bind fun y3 => some y3)
set_option maxHeartbeats 4000000 in
set_option maxRecDepth 100000 in
theorem c_X12_foesOf {lc : bm_L} {d n : Nat} {I : bm_TI} {J : bm_TJ} {R W : bm_TR} {x1 : Int32} {x2 : Int32} {x3 : Int32} {v : Int32} (hN : 181 ≤ n) (hR : bm_RR R) (h : f_X12_foesOf I x1 x2 x3 = some v) : bm_C lc m_X12_foesOf (d + 3) n n [.ref 164, .int x1, .int x2, .int x3] (I, J, R, W) (fun r M' => r = some (.int v) ∧ M' = (I, J, R, W)) := by
  refine bm_C.ofV (by decide) (Nat.le_of_ble_eq_true rfl) ?_
  show bm_V lc m_X12_foesOf (d + 3) n n n 0 [(0, .ref 164), (1, .int x1), (2, .int x2), (3, .int x3)] [] (I, J, R, W) _
  unfold f_X12_foesOf at h
  refine bv_iconst (v := 0) dX12_foesOf_0 (by decide) ?_
  refine bv_istore (ls1 := [(0, .ref 164), (1, .int x1), (2, .int x2), (3, .int x3), (4, .int 0)]) dX12_foesOf_1 (by decide) rfl rfl ?_
  refine bv_iconst (v := 0) dX12_foesOf_3 (by decide) ?_
  refine bv_istore (ls1 := [(0, .ref 164), (1, .int x1), (2, .int x2), (3, .int x3), (4, .int 0), (5, .int 0)]) dX12_foesOf_4 (by decide) rfl rfl ?_
  obtain ⟨r1, p2, h⟩ := bu_bd h
  refine v_X12_foesOf_l6 hN hR 1000 _ _ _ p2 (fun y3 hy => ?_)
  · subst hy
    refine bv_iload dX12_foesOf_70 0 rfl ?_
    obtain rfl := Option.some.inj h
    exact bv_iret (x := y3) dX12_foesOf_72 rfl ⟨rfl, rfl⟩
def f_X12_allUnder_l27 (I : bm_TI) (x1 : Int32) (x3 : Int32) : Nat → Int32 → Int32 → Option (Int32)
  | 0, _, _ => none
  | k + 1, x2, x4 => (if x4 < 0 then some x2 else (if x4 = x1 then (if bm_ix 287 (31 + x4) = true then f_X12_allUnder_l27 I x1 x3 k (x2 ||| (bm_ishl 1 x3)) ((I 166 (31 + x4).toNatClampNeg) - 1) else none) else (if bm_ix 287 (31 + x4) = true then f_X12_allUnder_l27 I x1 x3 k (x2 ||| 0) ((I 166 (31 + x4).toNatClampNeg) - 1) else none)))
set_option maxHeartbeats 4000000 in
set_option maxRecDepth 100000 in
theorem v_X12_allUnder_l27 {lc : bm_L} {d n : Nat} {Q : Option Value → bm_M → Prop} {R : bm_TR} {I : bm_TI} {J : bm_TJ} {W : bm_TR} {x1 : Int32} {x3 : Int32} (hN : 181 ≤ n) (hR : bm_RR R) : ∀ (k : Nat) (x2 : Int32) (x4 : Int32) (r : Int32), f_X12_allUnder_l27 I x1 x3 k x2 x4 = some r → (∀ yy, yy = r → bm_V lc m_X12_allUnder d n n n 65 [(0, .ref 164), (1, .int x1), (2, .int yy), (3, .int x3)] [] (I, J, R, W) Q) → bm_V lc m_X12_allUnder d n n n 27 [(0, .ref 164), (1, .int x1), (2, .int x2), (3, .int x3), (4, .int x4)] [] (I, J, R, W) Q := by
  intro k
  induction k with
  | zero => intro x2 x4 r h; cases (show (none : Option (Int32)) = some r from h)
  | succ k ih =>
    intro x2 x4 r h K0
    unfold f_X12_allUnder_l27 at h
    refine bv_iload dX12_allUnder_27 4 rfl ?_
    refine bv_if_lt (tgt := 65) dX12_allUnder_29 (by decide) (fun cc => ?_) (fun cc => ?_)
    · replace h := bu_t h cc
      refine bw_ls (ls1 := [(0, .ref 164), (1, .int x1), (2, .int x2), (3, .int x3)]) [0, 1, 2, 3] rfl ?_
      obtain rfl := Option.some.inj h
      exact K0 _ rfl
    · replace h := bu_f h cc
      refine bv_iload_n dX12_allUnder_32 2 rfl ?_
      refine bv_iload dX12_allUnder_33 4 rfl ?_
      refine bv_iload_n dX12_allUnder_35 1 rfl ?_
      refine bv_icmp_ne (tgt := 45) dX12_allUnder_36 (by decide) (fun cc => ?_) (fun cc => ?_)
      · replace h := bu_f h cc
        refine bv_iconst (v := 0) dX12_allUnder_45 (by decide) ?_
        refine bv_ior dX12_allUnder_46 ?_
        refine bv_istore_n (ls1 := [(0, .ref 164), (1, .int x1), (2, .int (x2 ||| 0)), (3, .int x3), (4, .int x4)]) dX12_allUnder_47 (by decide) rfl rfl ?_
        refine bv_aload_n dX12_allUnder_48 0 rfl ?_
        refine bz_getA (a := 166) hN okL_164 (hR _ _ _ r0_164_6) dX12_allUnder_49 fl_12_33 rfl ?_
        refine bv_bipush (v := 31) dX12_allUnder_52 (by decide) ?_
        refine bv_iload dX12_allUnder_54 4 rfl ?_
        refine bv_iadd dX12_allUnder_56 ?_
        obtain ⟨r1, h⟩ := bu_ix h
        refine bz_iald hN rkL_166 r1 rfl dX12_allUnder_57 ?_
        refine bv_iconst (v := 1) dX12_allUnder_58 (by decide) ?_
        refine bv_isub dX12_allUnder_59 ?_
        refine bv_istore (ls1 := [(0, .ref 164), (1, .int x1), (2, .int (x2 ||| 0)), (3, .int x3), (4, .int ((I 166 (31 + x4).toNatClampNeg) - 1))]) dX12_allUnder_60 (by decide) rfl rfl ?_
        refine bv_goto (tgt := 27) dX12_allUnder_62 (by decide) ?_
        exact ih _ _ _ h K0
      · replace h := bu_t h cc
        refine bv_iconst (v := 1) dX12_allUnder_39 (by decide) ?_
        refine bv_iload_n dX12_allUnder_40 3 rfl ?_
        refine bv_ishl dX12_allUnder_41 ?_
        refine bv_goto (tgt := 46) dX12_allUnder_42 (by decide) ?_
        refine bv_ior dX12_allUnder_46 ?_
        refine bv_istore_n (ls1 := [(0, .ref 164), (1, .int x1), (2, .int (x2 ||| (bm_ishl 1 x3))), (3, .int x3), (4, .int x4)]) dX12_allUnder_47 (by decide) rfl rfl ?_
        refine bv_aload_n dX12_allUnder_48 0 rfl ?_
        refine bz_getA (a := 166) hN okL_164 (hR _ _ _ r0_164_6) dX12_allUnder_49 fl_12_33 rfl ?_
        refine bv_bipush (v := 31) dX12_allUnder_52 (by decide) ?_
        refine bv_iload dX12_allUnder_54 4 rfl ?_
        refine bv_iadd dX12_allUnder_56 ?_
        obtain ⟨r2, h⟩ := bu_ix h
        refine bz_iald hN rkL_166 r2 rfl dX12_allUnder_57 ?_
        refine bv_iconst (v := 1) dX12_allUnder_58 (by decide) ?_
        refine bv_isub dX12_allUnder_59 ?_
        refine bv_istore (ls1 := [(0, .ref 164), (1, .int x1), (2, .int (x2 ||| (bm_ishl 1 x3))), (3, .int x3), (4, .int ((I 166 (31 + x4).toNatClampNeg) - 1))]) dX12_allUnder_60 (by decide) rfl rfl ?_
        refine bv_goto (tgt := 27) dX12_allUnder_62 (by decide) ?_
        exact ih _ _ _ h K0
def f_X12_allUnder_l4 (I : bm_TI) (x1 : Int32) : Nat → Int32 → Int32 → Option (Int32)
  | 0, _, _ => none
  | k + 1, x2, x3 => (if (I 166 0) ≤ x3 then some x2 else (if bm_ix 287 (31 + x3) = true then ((f_X12_allUnder_l27 I x1 x3 1000 x2 ((I 166 (31 + x3).toNatClampNeg) - 1)).bind fun y4 => f_X12_allUnder_l4 I x1 k y4 (x3 + 1)) else none))
set_option maxHeartbeats 4000000 in
set_option maxRecDepth 100000 in
theorem v_X12_allUnder_l4 {lc : bm_L} {d n : Nat} {Q : Option Value → bm_M → Prop} {R : bm_TR} {I : bm_TI} {J : bm_TJ} {W : bm_TR} {x1 : Int32} (hN : 181 ≤ n) (hR : bm_RR R) : ∀ (k : Nat) (x2 : Int32) (x3 : Int32) (r : Int32), f_X12_allUnder_l4 I x1 k x2 x3 = some r → (∀ yy, yy = r → bm_V lc m_X12_allUnder d n n n 71 [(2, .int yy)] [] (I, J, R, W) Q) → bm_V lc m_X12_allUnder d n n n 4 [(0, .ref 164), (1, .int x1), (2, .int x2), (3, .int x3)] [] (I, J, R, W) Q := by
  intro k
  induction k with
  | zero => intro x2 x3 r h; cases (show (none : Option (Int32)) = some r from h)
  | succ k ih =>
    intro x2 x3 r h K0
    unfold f_X12_allUnder_l4 at h
    refine bv_iload_n dX12_allUnder_4 3 rfl ?_
    refine bv_aload_n dX12_allUnder_5 0 rfl ?_
    refine bz_getA (a := 166) hN okL_164 (hR _ _ _ r0_164_6) dX12_allUnder_6 fl_12_33 rfl ?_
    refine bv_iconst (v := 0) dX12_allUnder_9 (by decide) ?_
    refine bz_iald (j := 0) hN rkL_166 (bm_ix_in (by decide)) (by decide) dX12_allUnder_10 ?_
    refine bv_icmp_ge (tgt := 71) dX12_allUnder_11 (by decide) (fun cc => ?_) (fun cc => ?_)
    · replace h := bu_t h cc
      refine bw_ls (ls1 := [(2, .int x2)]) [2] rfl ?_
      obtain rfl := Option.some.inj h
      exact K0 _ rfl
    · replace h := bu_f h cc
      refine bv_aload_n dX12_allUnder_14 0 rfl ?_
      refine bz_getA (a := 166) hN okL_164 (hR _ _ _ r0_164_6) dX12_allUnder_15 fl_12_33 rfl ?_
      refine bv_bipush (v := 31) dX12_allUnder_18 (by decide) ?_
      refine bv_iload_n dX12_allUnder_20 3 rfl ?_
      refine bv_iadd dX12_allUnder_21 ?_
      obtain ⟨r1, h⟩ := bu_ix h
      refine bz_iald hN rkL_166 r1 rfl dX12_allUnder_22 ?_
      refine bv_iconst (v := 1) dX12_allUnder_23 (by decide) ?_
      refine bv_isub dX12_allUnder_24 ?_
      refine bv_istore (ls1 := [(0, .ref 164), (1, .int x1), (2, .int x2), (3, .int x3), (4, .int ((I 166 (31 + x3).toNatClampNeg) - 1))]) dX12_allUnder_25 (by decide) rfl rfl ?_
      obtain ⟨r2, p3, h⟩ := bu_bd h
      refine v_X12_allUnder_l27 hN hR 1000 _ _ _ p3 (fun y4 hy => ?_)
      · subst hy
        refine bv_iinc (j := 3) (v := (x3 + 1)) (ls1 := [(0, .ref 164), (1, .int x1), (2, .int y4), (3, .int (x3 + 1))]) dX12_allUnder_65 rfl rfl (by decide) rfl rfl ?_
        refine bv_goto (tgt := 4) dX12_allUnder_68 (by decide) ?_
        exact ih _ _ _ h K0
def f_X12_allUnder (I : bm_TI) (x1 : Int32) : Option (Int32) := ((f_X12_allUnder_l4 I x1 1000 0 0).bind fun y3 => some y3)
set_option maxHeartbeats 4000000 in
set_option maxRecDepth 100000 in
theorem c_X12_allUnder {lc : bm_L} {d n : Nat} {I : bm_TI} {J : bm_TJ} {R W : bm_TR} {x1 : Int32} {v : Int32} (hN : 181 ≤ n) (hR : bm_RR R) (h : f_X12_allUnder I x1 = some v) : bm_C lc m_X12_allUnder d n n [.ref 164, .int x1] (I, J, R, W) (fun r M' => r = some (.int v) ∧ M' = (I, J, R, W)) := by
  refine bm_C.ofV (by decide) (Nat.le_of_ble_eq_true rfl) ?_
  show bm_V lc m_X12_allUnder d n n n 0 [(0, .ref 164), (1, .int x1)] [] (I, J, R, W) _
  unfold f_X12_allUnder at h
  refine bv_iconst (v := 0) dX12_allUnder_0 (by decide) ?_
  refine bv_istore_n (ls1 := [(0, .ref 164), (1, .int x1), (2, .int 0)]) dX12_allUnder_1 (by decide) rfl rfl ?_
  refine bv_iconst (v := 0) dX12_allUnder_2 (by decide) ?_
  refine bv_istore_n (ls1 := [(0, .ref 164), (1, .int x1), (2, .int 0), (3, .int 0)]) dX12_allUnder_3 (by decide) rfl rfl ?_
  obtain ⟨r1, p2, h⟩ := bu_bd h
  refine v_X12_allUnder_l4 hN hR 1000 _ _ _ p2 (fun y3 hy => ?_)
  · subst hy
    refine bv_iload_n dX12_allUnder_71 0 rfl ?_
    obtain rfl := Option.some.inj h
    exact bv_iret (x := y3) dX12_allUnder_72 rfl ⟨rfl, rfl⟩
def f_X12_havers_l4 (I : bm_TI) (x1 : Int32) : Nat → Int32 → Int32 → Option (Int32)
  | 0, _, _ => none
  | k + 1, x2, x3 => (if (I 166 0) ≤ x3 then some x2 else (if bm_ix 287 (90 + x3) = true then (if (I 166 (90 + x3).toNatClampNeg) = (x1 + 1) then f_X12_havers_l4 I x1 k (x2 ||| (bm_ishl 1 x3)) (x3 + 1) else f_X12_havers_l4 I x1 k (x2 ||| 0) (x3 + 1)) else none))
set_option maxHeartbeats 4000000 in
set_option maxRecDepth 100000 in
theorem v_X12_havers_l4 {lc : bm_L} {d n : Nat} {Q : Option Value → bm_M → Prop} {R : bm_TR} {I : bm_TI} {J : bm_TJ} {W : bm_TR} {x1 : Int32} (hN : 181 ≤ n) (hR : bm_RR R) : ∀ (k : Nat) (x2 : Int32) (x3 : Int32) (r : Int32), f_X12_havers_l4 I x1 k x2 x3 = some r → (∀ yy, yy = r → bm_V lc m_X12_havers d n n n 45 [(2, .int yy)] [] (I, J, R, W) Q) → bm_V lc m_X12_havers d n n n 4 [(0, .ref 164), (1, .int x1), (2, .int x2), (3, .int x3)] [] (I, J, R, W) Q := by
  intro k
  induction k with
  | zero => intro x2 x3 r h; cases (show (none : Option (Int32)) = some r from h)
  | succ k ih =>
    intro x2 x3 r h K0
    unfold f_X12_havers_l4 at h
    refine bv_iload_n dX12_havers_4 3 rfl ?_
    refine bv_aload_n dX12_havers_5 0 rfl ?_
    refine bz_getA (a := 166) hN okL_164 (hR _ _ _ r0_164_6) dX12_havers_6 fl_12_33 rfl ?_
    refine bv_iconst (v := 0) dX12_havers_9 (by decide) ?_
    refine bz_iald (j := 0) hN rkL_166 (bm_ix_in (by decide)) (by decide) dX12_havers_10 ?_
    refine bv_icmp_ge (tgt := 45) dX12_havers_11 (by decide) (fun cc => ?_) (fun cc => ?_)
    · replace h := bu_t h cc
      refine bw_ls (ls1 := [(2, .int x2)]) [2] rfl ?_
      obtain rfl := Option.some.inj h
      exact K0 _ rfl
    · replace h := bu_f h cc
      refine bv_iload_n dX12_havers_14 2 rfl ?_
      refine bv_aload_n dX12_havers_15 0 rfl ?_
      refine bz_getA (a := 166) hN okL_164 (hR _ _ _ r0_164_6) dX12_havers_16 fl_12_33 rfl ?_
      refine bv_bipush (v := 90) dX12_havers_19 (by decide) ?_
      refine bv_iload_n dX12_havers_21 3 rfl ?_
      refine bv_iadd dX12_havers_22 ?_
      obtain ⟨r1, h⟩ := bu_ix h
      refine bz_iald hN rkL_166 r1 rfl dX12_havers_23 ?_
      refine bv_iload_n dX12_havers_24 1 rfl ?_
      refine bv_iconst (v := 1) dX12_havers_25 (by decide) ?_
      refine bv_iadd dX12_havers_26 ?_
      refine bv_icmp_ne (tgt := 36) dX12_havers_27 (by decide) (fun cc => ?_) (fun cc => ?_)
      · replace h := bu_f h cc
        refine bv_iconst (v := 0) dX12_havers_36 (by decide) ?_
        refine bv_ior dX12_havers_37 ?_
        refine bv_istore_n (ls1 := [(0, .ref 164), (1, .int x1), (2, .int (x2 ||| 0)), (3, .int x3)]) dX12_havers_38 (by decide) rfl rfl ?_
        refine bv_iinc (j := 3) (v := (x3 + 1)) (ls1 := [(0, .ref 164), (1, .int x1), (2, .int (x2 ||| 0)), (3, .int (x3 + 1))]) dX12_havers_39 rfl rfl (by decide) rfl rfl ?_
        refine bv_goto (tgt := 4) dX12_havers_42 (by decide) ?_
        exact ih _ _ _ h K0
      · replace h := bu_t h cc
        refine bv_iconst (v := 1) dX12_havers_30 (by decide) ?_
        refine bv_iload_n dX12_havers_31 3 rfl ?_
        refine bv_ishl dX12_havers_32 ?_
        refine bv_goto (tgt := 37) dX12_havers_33 (by decide) ?_
        refine bv_ior dX12_havers_37 ?_
        refine bv_istore_n (ls1 := [(0, .ref 164), (1, .int x1), (2, .int (x2 ||| (bm_ishl 1 x3))), (3, .int x3)]) dX12_havers_38 (by decide) rfl rfl ?_
        refine bv_iinc (j := 3) (v := (x3 + 1)) (ls1 := [(0, .ref 164), (1, .int x1), (2, .int (x2 ||| (bm_ishl 1 x3))), (3, .int (x3 + 1))]) dX12_havers_39 rfl rfl (by decide) rfl rfl ?_
        refine bv_goto (tgt := 4) dX12_havers_42 (by decide) ?_
        exact ih _ _ _ h K0
def f_X12_havers (I : bm_TI) (x1 : Int32) : Option (Int32) := ((f_X12_havers_l4 I x1 1000 0 0).bind fun y3 => some y3)
set_option maxHeartbeats 4000000 in
set_option maxRecDepth 100000 in
theorem c_X12_havers {lc : bm_L} {d n : Nat} {I : bm_TI} {J : bm_TJ} {R W : bm_TR} {x1 : Int32} {v : Int32} (hN : 181 ≤ n) (hR : bm_RR R) (h : f_X12_havers I x1 = some v) : bm_C lc m_X12_havers d n n [.ref 164, .int x1] (I, J, R, W) (fun r M' => r = some (.int v) ∧ M' = (I, J, R, W)) := by
  refine bm_C.ofV (by decide) (Nat.le_of_ble_eq_true rfl) ?_
  show bm_V lc m_X12_havers d n n n 0 [(0, .ref 164), (1, .int x1)] [] (I, J, R, W) _
  unfold f_X12_havers at h
  refine bv_iconst (v := 0) dX12_havers_0 (by decide) ?_
  refine bv_istore_n (ls1 := [(0, .ref 164), (1, .int x1), (2, .int 0)]) dX12_havers_1 (by decide) rfl rfl ?_
  refine bv_iconst (v := 0) dX12_havers_2 (by decide) ?_
  refine bv_istore_n (ls1 := [(0, .ref 164), (1, .int x1), (2, .int 0), (3, .int 0)]) dX12_havers_3 (by decide) rfl rfl ?_
  obtain ⟨r1, p2, h⟩ := bu_bd h
  refine v_X12_havers_l4 hN hR 1000 _ _ _ p2 (fun y3 hy => ?_)
  · subst hy
    refine bv_iload_n dX12_havers_45 0 rfl ?_
    obtain rfl := Option.some.inj h
    exact bv_iret (x := y3) dX12_havers_46 rfl ⟨rfl, rfl⟩
def f_X12_orderly_l4 (I : bm_TI) : Nat → Int32 → Int32 → Option (Int32)
  | 0, _, _ => none
  | k + 1, x1, x2 => (if (I 166 0) ≤ x2 then some x1 else (if bm_ix 287 (90 + x2) = true then (if (I 166 (90 + x2).toNatClampNeg) ≤ 0 then f_X12_orderly_l4 I k (x1 ||| 0) (x2 + 1) else f_X12_orderly_l4 I k (x1 ||| (bm_ishl 1 x2)) (x2 + 1)) else none))
set_option maxHeartbeats 4000000 in
set_option maxRecDepth 100000 in
theorem v_X12_orderly_l4 {lc : bm_L} {d n : Nat} {Q : Option Value → bm_M → Prop} {R : bm_TR} {I : bm_TI} {J : bm_TJ} {W : bm_TR} (hN : 181 ≤ n) (hR : bm_RR R) : ∀ (k : Nat) (x1 : Int32) (x2 : Int32) (r : Int32), f_X12_orderly_l4 I k x1 x2 = some r → (∀ yy, yy = r → bm_V lc m_X12_orderly d n n n 42 [(1, .int yy)] [] (I, J, R, W) Q) → bm_V lc m_X12_orderly d n n n 4 [(0, .ref 164), (1, .int x1), (2, .int x2)] [] (I, J, R, W) Q := by
  intro k
  induction k with
  | zero => intro x1 x2 r h; cases (show (none : Option (Int32)) = some r from h)
  | succ k ih =>
    intro x1 x2 r h K0
    unfold f_X12_orderly_l4 at h
    refine bv_iload_n dX12_orderly_4 2 rfl ?_
    refine bv_aload_n dX12_orderly_5 0 rfl ?_
    refine bz_getA (a := 166) hN okL_164 (hR _ _ _ r0_164_6) dX12_orderly_6 fl_12_33 rfl ?_
    refine bv_iconst (v := 0) dX12_orderly_9 (by decide) ?_
    refine bz_iald (j := 0) hN rkL_166 (bm_ix_in (by decide)) (by decide) dX12_orderly_10 ?_
    refine bv_icmp_ge (tgt := 42) dX12_orderly_11 (by decide) (fun cc => ?_) (fun cc => ?_)
    · replace h := bu_t h cc
      refine bw_ls (ls1 := [(1, .int x1)]) [1] rfl ?_
      obtain rfl := Option.some.inj h
      exact K0 _ rfl
    · replace h := bu_f h cc
      refine bv_iload_n dX12_orderly_14 1 rfl ?_
      refine bv_aload_n dX12_orderly_15 0 rfl ?_
      refine bz_getA (a := 166) hN okL_164 (hR _ _ _ r0_164_6) dX12_orderly_16 fl_12_33 rfl ?_
      refine bv_bipush (v := 90) dX12_orderly_19 (by decide) ?_
      refine bv_iload_n dX12_orderly_21 2 rfl ?_
      refine bv_iadd dX12_orderly_22 ?_
      obtain ⟨r1, h⟩ := bu_ix h
      refine bz_iald hN rkL_166 r1 rfl dX12_orderly_23 ?_
      refine bv_if_le (tgt := 33) dX12_orderly_24 (by decide) (fun cc => ?_) (fun cc => ?_)
      · replace h := bu_t h cc
        refine bv_iconst (v := 0) dX12_orderly_33 (by decide) ?_
        refine bv_ior dX12_orderly_34 ?_
        refine bv_istore_n (ls1 := [(0, .ref 164), (1, .int (x1 ||| 0)), (2, .int x2)]) dX12_orderly_35 (by decide) rfl rfl ?_
        refine bv_iinc (j := 2) (v := (x2 + 1)) (ls1 := [(0, .ref 164), (1, .int (x1 ||| 0)), (2, .int (x2 + 1))]) dX12_orderly_36 rfl rfl (by decide) rfl rfl ?_
        refine bv_goto (tgt := 4) dX12_orderly_39 (by decide) ?_
        exact ih _ _ _ h K0
      · replace h := bu_f h cc
        refine bv_iconst (v := 1) dX12_orderly_27 (by decide) ?_
        refine bv_iload_n dX12_orderly_28 2 rfl ?_
        refine bv_ishl dX12_orderly_29 ?_
        refine bv_goto (tgt := 34) dX12_orderly_30 (by decide) ?_
        refine bv_ior dX12_orderly_34 ?_
        refine bv_istore_n (ls1 := [(0, .ref 164), (1, .int (x1 ||| (bm_ishl 1 x2))), (2, .int x2)]) dX12_orderly_35 (by decide) rfl rfl ?_
        refine bv_iinc (j := 2) (v := (x2 + 1)) (ls1 := [(0, .ref 164), (1, .int (x1 ||| (bm_ishl 1 x2))), (2, .int (x2 + 1))]) dX12_orderly_36 rfl rfl (by decide) rfl rfl ?_
        refine bv_goto (tgt := 4) dX12_orderly_39 (by decide) ?_
        exact ih _ _ _ h K0
def f_X12_orderly (I : bm_TI) : Option (Int32) := ((f_X12_orderly_l4 I 1000 0 0).bind fun y3 => some y3)
set_option maxHeartbeats 4000000 in
set_option maxRecDepth 100000 in
theorem c_X12_orderly {lc : bm_L} {d n : Nat} {I : bm_TI} {J : bm_TJ} {R W : bm_TR} {v : Int32} (hN : 181 ≤ n) (hR : bm_RR R) (h : f_X12_orderly I = some v) : bm_C lc m_X12_orderly d n n [.ref 164] (I, J, R, W) (fun r M' => r = some (.int v) ∧ M' = (I, J, R, W)) := by
  refine bm_C.ofV (by decide) (Nat.le_of_ble_eq_true rfl) ?_
  show bm_V lc m_X12_orderly d n n n 0 [(0, .ref 164)] [] (I, J, R, W) _
  unfold f_X12_orderly at h
  refine bv_iconst (v := 0) dX12_orderly_0 (by decide) ?_
  refine bv_istore_n (ls1 := [(0, .ref 164), (1, .int 0)]) dX12_orderly_1 (by decide) rfl rfl ?_
  refine bv_iconst (v := 0) dX12_orderly_2 (by decide) ?_
  refine bv_istore_n (ls1 := [(0, .ref 164), (1, .int 0), (2, .int 0)]) dX12_orderly_3 (by decide) rfl rfl ?_
  obtain ⟨r1, p2, h⟩ := bu_bd h
  refine v_X12_orderly_l4 hN hR 1000 _ _ _ p2 (fun y3 hy => ?_)
  · subst hy
    refine bv_iload_n dX12_orderly_42 0 rfl ?_
    obtain rfl := Option.some.inj h
    exact bv_iret (x := y3) dX12_orderly_43 rfl ⟨rfl, rfl⟩
def f_X12_man (I : bm_TI) (x1 : Int32) (x2 : Int32) : Option (Int32 × bm_TI) := ((f_X12_isMan I x1).bind fun v1 => (if v1 = true then (if (f_X12_isIn x2 0 9) = true then ((f_X12_throwsIf I false).bind fun v22 => (if v22.1 = true then some (0, v22.2) else (if x2 = 0 then (if bm_ix 287 (66 + x1) = true then some ((v22.2 166 (66 + x1).toNatClampNeg), v22.2) else none) else (if x2 = 1 then (if bm_ix 287 (74 + x1) = true then some ((v22.2 166 (74 + x1).toNatClampNeg), v22.2) else none) else (if x2 = 2 then ((f_X12_browOf v22.2 x1).bind fun v29 => some (v29, v22.2)) else (if x2 = 3 then some (((bm_ishr (v22.2 166 63) x1) &&& 1), v22.2) else (if x2 = 4 then some (((bm_ishr (v22.2 166 64) x1) &&& 1), v22.2) else (if x2 = 5 then (if bm_ix 287 (82 + x1) = true then some ((v22.2 166 (82 + x1).toNatClampNeg), v22.2) else none) else (if x2 = 6 then (if bm_ix 287 (90 + x1) = true then some (((v22.2 166 (90 + x1).toNatClampNeg) - 1), v22.2) else none) else (if x2 = 7 then some (((bm_ishr (v22.2 166 65) x1) &&& 1), v22.2) else (if x2 = 8 then (if bm_ix 287 (98 + x1) = true then some ((v22.2 166 (98 + x1).toNatClampNeg), v22.2) else none) else (if bm_ix 287 (31 + x1) = true then some (((v22.2 166 (31 + x1).toNatClampNeg) - 1), v22.2) else none)))))))))))) else ((f_X12_throwsIf I true).bind fun v41 => (if v41.1 = true then some (0, v41.2) else (if x2 = 0 then (if bm_ix 287 (66 + x1) = true then some ((v41.2 166 (66 + x1).toNatClampNeg), v41.2) else none) else (if x2 = 1 then (if bm_ix 287 (74 + x1) = true then some ((v41.2 166 (74 + x1).toNatClampNeg), v41.2) else none) else (if x2 = 2 then ((f_X12_browOf v41.2 x1).bind fun v48 => some (v48, v41.2)) else (if x2 = 3 then some (((bm_ishr (v41.2 166 63) x1) &&& 1), v41.2) else (if x2 = 4 then some (((bm_ishr (v41.2 166 64) x1) &&& 1), v41.2) else (if x2 = 5 then (if bm_ix 287 (82 + x1) = true then some ((v41.2 166 (82 + x1).toNatClampNeg), v41.2) else none) else (if x2 = 6 then (if bm_ix 287 (90 + x1) = true then some (((v41.2 166 (90 + x1).toNatClampNeg) - 1), v41.2) else none) else (if x2 = 7 then some (((bm_ishr (v41.2 166 65) x1) &&& 1), v41.2) else (if x2 = 8 then (if bm_ix 287 (98 + x1) = true then some ((v41.2 166 (98 + x1).toNatClampNeg), v41.2) else none) else (if bm_ix 287 (31 + x1) = true then some (((v41.2 166 (31 + x1).toNatClampNeg) - 1), v41.2) else none))))))))))))) else ((f_X12_throwsIf I true).bind fun v3 => (if v3.1 = true then some (0, v3.2) else (if x2 = 0 then (if bm_ix 287 (66 + x1) = true then some ((v3.2 166 (66 + x1).toNatClampNeg), v3.2) else none) else (if x2 = 1 then (if bm_ix 287 (74 + x1) = true then some ((v3.2 166 (74 + x1).toNatClampNeg), v3.2) else none) else (if x2 = 2 then ((f_X12_browOf v3.2 x1).bind fun v10 => some (v10, v3.2)) else (if x2 = 3 then some (((bm_ishr (v3.2 166 63) x1) &&& 1), v3.2) else (if x2 = 4 then some (((bm_ishr (v3.2 166 64) x1) &&& 1), v3.2) else (if x2 = 5 then (if bm_ix 287 (82 + x1) = true then some ((v3.2 166 (82 + x1).toNatClampNeg), v3.2) else none) else (if x2 = 6 then (if bm_ix 287 (90 + x1) = true then some (((v3.2 166 (90 + x1).toNatClampNeg) - 1), v3.2) else none) else (if x2 = 7 then some (((bm_ishr (v3.2 166 65) x1) &&& 1), v3.2) else (if x2 = 8 then (if bm_ix 287 (98 + x1) = true then some ((v3.2 166 (98 + x1).toNatClampNeg), v3.2) else none) else (if bm_ix 287 (31 + x1) = true then some (((v3.2 166 (31 + x1).toNatClampNeg) - 1), v3.2) else none))))))))))))))
set_option maxHeartbeats 4000000 in
set_option maxRecDepth 100000 in
theorem c_X12_man {lc : bm_L} {d n : Nat} {I : bm_TI} {J : bm_TJ} {R W : bm_TR} {x1 : Int32} {x2 : Int32} {v : Int32 × bm_TI} (hN : 181 ≤ n) (hR : bm_RR R) (h : f_X12_man I x1 x2 = some v) : bm_C lc m_X12_man (d + 2) n n [.ref 164, .int x1, .int x2] (I, J, R, W) (fun r M' => r = some (.int v.1) ∧ M' = (v.2, J, R, W)) := by
  refine bm_C.ofV (by decide) (Nat.le_of_ble_eq_true rfl) ?_
  show bm_V lc m_X12_man (d + 2) n n n 0 [(0, .ref 164), (1, .int x1), (2, .int x2)] [] (I, J, R, W) _
  unfold f_X12_man at h
  refine bv_aload_n dX12_man_0 0 rfl ?_
  refine bv_aload_n dX12_man_1 0 rfl ?_
  refine bv_iload_n dX12_man_2 1 rfl ?_
  obtain ⟨v1, p2, h⟩ := bu_bd h
  refine bw_callV (As := [.int x1]) hN okL_164 ⟨_, _, rfl⟩ dX12_man_3 mc_12_303 (c_X12_isMan (d := d + 0) hN hR p2) rfl rfl (Nat.le_of_ble_eq_true rfl) ?_
  refine bw_ifB_eq (b := v1) (tgt := 19) dX12_man_6 (by decide) (fun cc => ?_) (fun cc => ?_)
  · replace h := bu_bf h cc
    refine bv_iconst (v := 1) dX12_man_19 (by decide) ?_
    refine bv_goto (tgt := 24) dX12_man_20 (by decide) ?_
    obtain ⟨v3, p4, h⟩ := bu_bd h
    refine bw_callV (As := [.int (bm_bi true)]) hN okL_164 ⟨_, _, rfl⟩ dX12_man_24 mc_12_306 (c_X12_throwsIf (d := d + 1) hN hR p4) rfl rfl (by decide) ?_
    refine bw_ifB_eq (b := v3.1) (tgt := 32) dX12_man_27 (by decide) (fun cc => ?_) (fun cc => ?_)
    · replace h := bu_bf h cc
      refine bv_iload_n dX12_man_32 2 rfl ?_
      by_cases c5 : x2 = 0
      · replace h := bu_t h c5
        refine bv_tableIn (tgt := 84) dX12_man_33 (by rw [c5]; decide) (by rw [c5]; decide) (by rw [c5]; rfl) (by decide) ?_
        refine bv_aload_n dX12_man_84 0 rfl ?_
        refine bz_getA (a := 166) hN okL_164 (hR _ _ _ r0_164_6) dX12_man_85 fl_12_33 rfl ?_
        refine bv_bipush (v := 66) dX12_man_88 (by decide) ?_
        refine bv_iload_n dX12_man_90 1 rfl ?_
        refine bv_iadd dX12_man_91 ?_
        obtain ⟨r6, h⟩ := bu_ix h
        refine bz_iald hN rkL_166 r6 rfl dX12_man_92 ?_
        obtain rfl := Option.some.inj h
        exact bv_iret (x := (v3.2 166 (66 + x1).toNatClampNeg)) dX12_man_93 rfl ⟨rfl, rfl⟩
      · replace h := bu_f h c5
        by_cases c7 : x2 = 1
        · replace h := bu_t h c7
          refine bv_tableIn (tgt := 94) dX12_man_33 (by rw [c7]; decide) (by rw [c7]; decide) (by rw [c7]; rfl) (by decide) ?_
          refine bv_aload_n dX12_man_94 0 rfl ?_
          refine bz_getA (a := 166) hN okL_164 (hR _ _ _ r0_164_6) dX12_man_95 fl_12_33 rfl ?_
          refine bv_bipush (v := 74) dX12_man_98 (by decide) ?_
          refine bv_iload_n dX12_man_100 1 rfl ?_
          refine bv_iadd dX12_man_101 ?_
          obtain ⟨r8, h⟩ := bu_ix h
          refine bz_iald hN rkL_166 r8 rfl dX12_man_102 ?_
          obtain rfl := Option.some.inj h
          exact bv_iret (x := (v3.2 166 (74 + x1).toNatClampNeg)) dX12_man_103 rfl ⟨rfl, rfl⟩
        · replace h := bu_f h c7
          by_cases c9 : x2 = 2
          · replace h := bu_t h c9
            refine bv_tableIn (tgt := 104) dX12_man_33 (by rw [c9]; decide) (by rw [c9]; decide) (by rw [c9]; rfl) (by decide) ?_
            refine bv_aload_n dX12_man_104 0 rfl ?_
            refine bv_iload_n dX12_man_105 1 rfl ?_
            obtain ⟨v10, p11, h⟩ := bu_bd h
            refine bw_callV (As := [.int x1]) hN okL_164 ⟨_, _, rfl⟩ dX12_man_106 mc_12_290 (c_X12_browOf (d := d + 0) hN hR p11) rfl rfl (by decide) ?_
            obtain rfl := Option.some.inj h
            exact bv_iret (x := v10) dX12_man_109 rfl ⟨rfl, rfl⟩
          · replace h := bu_f h c9
            by_cases c12 : x2 = 3
            · replace h := bu_t h c12
              refine bv_tableIn (tgt := 110) dX12_man_33 (by rw [c12]; decide) (by rw [c12]; decide) (by rw [c12]; rfl) (by decide) ?_
              refine bv_aload_n dX12_man_110 0 rfl ?_
              refine bz_getA (a := 166) hN okL_164 (hR _ _ _ r0_164_6) dX12_man_111 fl_12_33 rfl ?_
              refine bv_bipush (v := 63) dX12_man_114 (by decide) ?_
              refine bz_iald (j := 63) hN rkL_166 (bm_ix_in (by decide)) (by decide) dX12_man_116 ?_
              refine bv_iload_n dX12_man_117 1 rfl ?_
              refine bv_ishr dX12_man_118 ?_
              refine bv_iconst (v := 1) dX12_man_119 (by decide) ?_
              refine bv_iand dX12_man_120 ?_
              obtain rfl := Option.some.inj h
              exact bv_iret (x := ((bm_ishr (v3.2 166 63) x1) &&& 1)) dX12_man_121 rfl ⟨rfl, rfl⟩
            · replace h := bu_f h c12
              by_cases c13 : x2 = 4
              · replace h := bu_t h c13
                refine bv_tableIn (tgt := 122) dX12_man_33 (by rw [c13]; decide) (by rw [c13]; decide) (by rw [c13]; rfl) (by decide) ?_
                refine bv_aload_n dX12_man_122 0 rfl ?_
                refine bz_getA (a := 166) hN okL_164 (hR _ _ _ r0_164_6) dX12_man_123 fl_12_33 rfl ?_
                refine bv_bipush (v := 64) dX12_man_126 (by decide) ?_
                refine bz_iald (j := 64) hN rkL_166 (bm_ix_in (by decide)) (by decide) dX12_man_128 ?_
                refine bv_iload_n dX12_man_129 1 rfl ?_
                refine bv_ishr dX12_man_130 ?_
                refine bv_iconst (v := 1) dX12_man_131 (by decide) ?_
                refine bv_iand dX12_man_132 ?_
                obtain rfl := Option.some.inj h
                exact bv_iret (x := ((bm_ishr (v3.2 166 64) x1) &&& 1)) dX12_man_133 rfl ⟨rfl, rfl⟩
              · replace h := bu_f h c13
                by_cases c14 : x2 = 5
                · replace h := bu_t h c14
                  refine bv_tableIn (tgt := 134) dX12_man_33 (by rw [c14]; decide) (by rw [c14]; decide) (by rw [c14]; rfl) (by decide) ?_
                  refine bv_aload_n dX12_man_134 0 rfl ?_
                  refine bz_getA (a := 166) hN okL_164 (hR _ _ _ r0_164_6) dX12_man_135 fl_12_33 rfl ?_
                  refine bv_bipush (v := 82) dX12_man_138 (by decide) ?_
                  refine bv_iload_n dX12_man_140 1 rfl ?_
                  refine bv_iadd dX12_man_141 ?_
                  obtain ⟨r15, h⟩ := bu_ix h
                  refine bz_iald hN rkL_166 r15 rfl dX12_man_142 ?_
                  obtain rfl := Option.some.inj h
                  exact bv_iret (x := (v3.2 166 (82 + x1).toNatClampNeg)) dX12_man_143 rfl ⟨rfl, rfl⟩
                · replace h := bu_f h c14
                  by_cases c16 : x2 = 6
                  · replace h := bu_t h c16
                    refine bv_tableIn (tgt := 144) dX12_man_33 (by rw [c16]; decide) (by rw [c16]; decide) (by rw [c16]; rfl) (by decide) ?_
                    refine bv_aload_n dX12_man_144 0 rfl ?_
                    refine bz_getA (a := 166) hN okL_164 (hR _ _ _ r0_164_6) dX12_man_145 fl_12_33 rfl ?_
                    refine bv_bipush (v := 90) dX12_man_148 (by decide) ?_
                    refine bv_iload_n dX12_man_150 1 rfl ?_
                    refine bv_iadd dX12_man_151 ?_
                    obtain ⟨r17, h⟩ := bu_ix h
                    refine bz_iald hN rkL_166 r17 rfl dX12_man_152 ?_
                    refine bv_iconst (v := 1) dX12_man_153 (by decide) ?_
                    refine bv_isub dX12_man_154 ?_
                    obtain rfl := Option.some.inj h
                    exact bv_iret (x := ((v3.2 166 (90 + x1).toNatClampNeg) - 1)) dX12_man_155 rfl ⟨rfl, rfl⟩
                  · replace h := bu_f h c16
                    by_cases c18 : x2 = 7
                    · replace h := bu_t h c18
                      refine bv_tableIn (tgt := 156) dX12_man_33 (by rw [c18]; decide) (by rw [c18]; decide) (by rw [c18]; rfl) (by decide) ?_
                      refine bv_aload_n dX12_man_156 0 rfl ?_
                      refine bz_getA (a := 166) hN okL_164 (hR _ _ _ r0_164_6) dX12_man_157 fl_12_33 rfl ?_
                      refine bv_bipush (v := 65) dX12_man_160 (by decide) ?_
                      refine bz_iald (j := 65) hN rkL_166 (bm_ix_in (by decide)) (by decide) dX12_man_162 ?_
                      refine bv_iload_n dX12_man_163 1 rfl ?_
                      refine bv_ishr dX12_man_164 ?_
                      refine bv_iconst (v := 1) dX12_man_165 (by decide) ?_
                      refine bv_iand dX12_man_166 ?_
                      obtain rfl := Option.some.inj h
                      exact bv_iret (x := ((bm_ishr (v3.2 166 65) x1) &&& 1)) dX12_man_167 rfl ⟨rfl, rfl⟩
                    · replace h := bu_f h c18
                      by_cases c19 : x2 = 8
                      · replace h := bu_t h c19
                        refine bv_tableIn (tgt := 168) dX12_man_33 (by rw [c19]; decide) (by rw [c19]; decide) (by rw [c19]; rfl) (by decide) ?_
                        refine bv_aload_n dX12_man_168 0 rfl ?_
                        refine bz_getA (a := 166) hN okL_164 (hR _ _ _ r0_164_6) dX12_man_169 fl_12_33 rfl ?_
                        refine bv_bipush (v := 98) dX12_man_172 (by decide) ?_
                        refine bv_iload_n dX12_man_174 1 rfl ?_
                        refine bv_iadd dX12_man_175 ?_
                        obtain ⟨r20, h⟩ := bu_ix h
                        refine bz_iald hN rkL_166 r20 rfl dX12_man_176 ?_
                        obtain rfl := Option.some.inj h
                        exact bv_iret (x := (v3.2 166 (98 + x1).toNatClampNeg)) dX12_man_177 rfl ⟨rfl, rfl⟩
                      · replace h := bu_f h c19
                        refine bv_tableOut (tgt := 178) dX12_man_33 (bm_sw (k := 9) (by decide) (fun j hj => by match j, hj with | 0, _ => exact c5 | 1, _ => exact c7 | 2, _ => exact c9 | 3, _ => exact c12 | 4, _ => exact c13 | 5, _ => exact c14 | 6, _ => exact c16 | 7, _ => exact c18 | 8, _ => exact c19)) (by decide) ?_
                        refine bv_aload_n dX12_man_178 0 rfl ?_
                        refine bz_getA (a := 166) hN okL_164 (hR _ _ _ r0_164_6) dX12_man_179 fl_12_33 rfl ?_
                        refine bv_bipush (v := 31) dX12_man_182 (by decide) ?_
                        refine bv_iload_n dX12_man_184 1 rfl ?_
                        refine bv_iadd dX12_man_185 ?_
                        obtain ⟨r21, h⟩ := bu_ix h
                        refine bz_iald hN rkL_166 r21 rfl dX12_man_186 ?_
                        refine bv_iconst (v := 1) dX12_man_187 (by decide) ?_
                        refine bv_isub dX12_man_188 ?_
                        obtain rfl := Option.some.inj h
                        exact bv_iret (x := ((v3.2 166 (31 + x1).toNatClampNeg) - 1)) dX12_man_189 rfl ⟨rfl, rfl⟩
    · replace h := bu_bt h cc
      refine bv_iconst (v := 0) dX12_man_30 (by decide) ?_
      obtain rfl := Option.some.inj h
      exact bv_iret (x := 0) dX12_man_31 rfl ⟨rfl, rfl⟩
  · replace h := bu_bt h cc
    refine bv_iload_n dX12_man_9 2 rfl ?_
    refine bv_iconst (v := 0) dX12_man_10 (by decide) ?_
    refine bv_bipush (v := 9) dX12_man_11 (by decide) ?_
    refine bw_callS (As := [.int x2, .int 0, .int 9]) dX12_man_13 mc_12_206 (c_X12_isIn (d := d + 1) hN hR rfl) rfl rfl (Nat.le_of_ble_eq_true rfl) ?_
    refine bw_ifB_ne (b := (f_X12_isIn x2 0 9)) (tgt := 23) dX12_man_16 (by decide) (fun cc => ?_) (fun cc => ?_)
    · replace h := bu_bt h cc
      refine bv_iconst (v := 0) dX12_man_23 (by decide) ?_
      obtain ⟨v22, p23, h⟩ := bu_bd h
      refine bw_callV (As := [.int (bm_bi false)]) hN okL_164 ⟨_, _, rfl⟩ dX12_man_24 mc_12_306 (c_X12_throwsIf (d := d + 1) hN hR p23) rfl rfl (by decide) ?_
      refine bw_ifB_eq (b := v22.1) (tgt := 32) dX12_man_27 (by decide) (fun cc => ?_) (fun cc => ?_)
      · replace h := bu_bf h cc
        refine bv_iload_n dX12_man_32 2 rfl ?_
        by_cases c24 : x2 = 0
        · replace h := bu_t h c24
          refine bv_tableIn (tgt := 84) dX12_man_33 (by rw [c24]; decide) (by rw [c24]; decide) (by rw [c24]; rfl) (by decide) ?_
          refine bv_aload_n dX12_man_84 0 rfl ?_
          refine bz_getA (a := 166) hN okL_164 (hR _ _ _ r0_164_6) dX12_man_85 fl_12_33 rfl ?_
          refine bv_bipush (v := 66) dX12_man_88 (by decide) ?_
          refine bv_iload_n dX12_man_90 1 rfl ?_
          refine bv_iadd dX12_man_91 ?_
          obtain ⟨r25, h⟩ := bu_ix h
          refine bz_iald hN rkL_166 r25 rfl dX12_man_92 ?_
          obtain rfl := Option.some.inj h
          exact bv_iret (x := (v22.2 166 (66 + x1).toNatClampNeg)) dX12_man_93 rfl ⟨rfl, rfl⟩
        · replace h := bu_f h c24
          by_cases c26 : x2 = 1
          · replace h := bu_t h c26
            refine bv_tableIn (tgt := 94) dX12_man_33 (by rw [c26]; decide) (by rw [c26]; decide) (by rw [c26]; rfl) (by decide) ?_
            refine bv_aload_n dX12_man_94 0 rfl ?_
            refine bz_getA (a := 166) hN okL_164 (hR _ _ _ r0_164_6) dX12_man_95 fl_12_33 rfl ?_
            refine bv_bipush (v := 74) dX12_man_98 (by decide) ?_
            refine bv_iload_n dX12_man_100 1 rfl ?_
            refine bv_iadd dX12_man_101 ?_
            obtain ⟨r27, h⟩ := bu_ix h
            refine bz_iald hN rkL_166 r27 rfl dX12_man_102 ?_
            obtain rfl := Option.some.inj h
            exact bv_iret (x := (v22.2 166 (74 + x1).toNatClampNeg)) dX12_man_103 rfl ⟨rfl, rfl⟩
          · replace h := bu_f h c26
            by_cases c28 : x2 = 2
            · replace h := bu_t h c28
              refine bv_tableIn (tgt := 104) dX12_man_33 (by rw [c28]; decide) (by rw [c28]; decide) (by rw [c28]; rfl) (by decide) ?_
              refine bv_aload_n dX12_man_104 0 rfl ?_
              refine bv_iload_n dX12_man_105 1 rfl ?_
              obtain ⟨v29, p30, h⟩ := bu_bd h
              refine bw_callV (As := [.int x1]) hN okL_164 ⟨_, _, rfl⟩ dX12_man_106 mc_12_290 (c_X12_browOf (d := d + 0) hN hR p30) rfl rfl (by decide) ?_
              obtain rfl := Option.some.inj h
              exact bv_iret (x := v29) dX12_man_109 rfl ⟨rfl, rfl⟩
            · replace h := bu_f h c28
              by_cases c31 : x2 = 3
              · replace h := bu_t h c31
                refine bv_tableIn (tgt := 110) dX12_man_33 (by rw [c31]; decide) (by rw [c31]; decide) (by rw [c31]; rfl) (by decide) ?_
                refine bv_aload_n dX12_man_110 0 rfl ?_
                refine bz_getA (a := 166) hN okL_164 (hR _ _ _ r0_164_6) dX12_man_111 fl_12_33 rfl ?_
                refine bv_bipush (v := 63) dX12_man_114 (by decide) ?_
                refine bz_iald (j := 63) hN rkL_166 (bm_ix_in (by decide)) (by decide) dX12_man_116 ?_
                refine bv_iload_n dX12_man_117 1 rfl ?_
                refine bv_ishr dX12_man_118 ?_
                refine bv_iconst (v := 1) dX12_man_119 (by decide) ?_
                refine bv_iand dX12_man_120 ?_
                obtain rfl := Option.some.inj h
                exact bv_iret (x := ((bm_ishr (v22.2 166 63) x1) &&& 1)) dX12_man_121 rfl ⟨rfl, rfl⟩
              · replace h := bu_f h c31
                by_cases c32 : x2 = 4
                · replace h := bu_t h c32
                  refine bv_tableIn (tgt := 122) dX12_man_33 (by rw [c32]; decide) (by rw [c32]; decide) (by rw [c32]; rfl) (by decide) ?_
                  refine bv_aload_n dX12_man_122 0 rfl ?_
                  refine bz_getA (a := 166) hN okL_164 (hR _ _ _ r0_164_6) dX12_man_123 fl_12_33 rfl ?_
                  refine bv_bipush (v := 64) dX12_man_126 (by decide) ?_
                  refine bz_iald (j := 64) hN rkL_166 (bm_ix_in (by decide)) (by decide) dX12_man_128 ?_
                  refine bv_iload_n dX12_man_129 1 rfl ?_
                  refine bv_ishr dX12_man_130 ?_
                  refine bv_iconst (v := 1) dX12_man_131 (by decide) ?_
                  refine bv_iand dX12_man_132 ?_
                  obtain rfl := Option.some.inj h
                  exact bv_iret (x := ((bm_ishr (v22.2 166 64) x1) &&& 1)) dX12_man_133 rfl ⟨rfl, rfl⟩
                · replace h := bu_f h c32
                  by_cases c33 : x2 = 5
                  · replace h := bu_t h c33
                    refine bv_tableIn (tgt := 134) dX12_man_33 (by rw [c33]; decide) (by rw [c33]; decide) (by rw [c33]; rfl) (by decide) ?_
                    refine bv_aload_n dX12_man_134 0 rfl ?_
                    refine bz_getA (a := 166) hN okL_164 (hR _ _ _ r0_164_6) dX12_man_135 fl_12_33 rfl ?_
                    refine bv_bipush (v := 82) dX12_man_138 (by decide) ?_
                    refine bv_iload_n dX12_man_140 1 rfl ?_
                    refine bv_iadd dX12_man_141 ?_
                    obtain ⟨r34, h⟩ := bu_ix h
                    refine bz_iald hN rkL_166 r34 rfl dX12_man_142 ?_
                    obtain rfl := Option.some.inj h
                    exact bv_iret (x := (v22.2 166 (82 + x1).toNatClampNeg)) dX12_man_143 rfl ⟨rfl, rfl⟩
                  · replace h := bu_f h c33
                    by_cases c35 : x2 = 6
                    · replace h := bu_t h c35
                      refine bv_tableIn (tgt := 144) dX12_man_33 (by rw [c35]; decide) (by rw [c35]; decide) (by rw [c35]; rfl) (by decide) ?_
                      refine bv_aload_n dX12_man_144 0 rfl ?_
                      refine bz_getA (a := 166) hN okL_164 (hR _ _ _ r0_164_6) dX12_man_145 fl_12_33 rfl ?_
                      refine bv_bipush (v := 90) dX12_man_148 (by decide) ?_
                      refine bv_iload_n dX12_man_150 1 rfl ?_
                      refine bv_iadd dX12_man_151 ?_
                      obtain ⟨r36, h⟩ := bu_ix h
                      refine bz_iald hN rkL_166 r36 rfl dX12_man_152 ?_
                      refine bv_iconst (v := 1) dX12_man_153 (by decide) ?_
                      refine bv_isub dX12_man_154 ?_
                      obtain rfl := Option.some.inj h
                      exact bv_iret (x := ((v22.2 166 (90 + x1).toNatClampNeg) - 1)) dX12_man_155 rfl ⟨rfl, rfl⟩
                    · replace h := bu_f h c35
                      by_cases c37 : x2 = 7
                      · replace h := bu_t h c37
                        refine bv_tableIn (tgt := 156) dX12_man_33 (by rw [c37]; decide) (by rw [c37]; decide) (by rw [c37]; rfl) (by decide) ?_
                        refine bv_aload_n dX12_man_156 0 rfl ?_
                        refine bz_getA (a := 166) hN okL_164 (hR _ _ _ r0_164_6) dX12_man_157 fl_12_33 rfl ?_
                        refine bv_bipush (v := 65) dX12_man_160 (by decide) ?_
                        refine bz_iald (j := 65) hN rkL_166 (bm_ix_in (by decide)) (by decide) dX12_man_162 ?_
                        refine bv_iload_n dX12_man_163 1 rfl ?_
                        refine bv_ishr dX12_man_164 ?_
                        refine bv_iconst (v := 1) dX12_man_165 (by decide) ?_
                        refine bv_iand dX12_man_166 ?_
                        obtain rfl := Option.some.inj h
                        exact bv_iret (x := ((bm_ishr (v22.2 166 65) x1) &&& 1)) dX12_man_167 rfl ⟨rfl, rfl⟩
                      · replace h := bu_f h c37
                        by_cases c38 : x2 = 8
                        · replace h := bu_t h c38
                          refine bv_tableIn (tgt := 168) dX12_man_33 (by rw [c38]; decide) (by rw [c38]; decide) (by rw [c38]; rfl) (by decide) ?_
                          refine bv_aload_n dX12_man_168 0 rfl ?_
                          refine bz_getA (a := 166) hN okL_164 (hR _ _ _ r0_164_6) dX12_man_169 fl_12_33 rfl ?_
                          refine bv_bipush (v := 98) dX12_man_172 (by decide) ?_
                          refine bv_iload_n dX12_man_174 1 rfl ?_
                          refine bv_iadd dX12_man_175 ?_
                          obtain ⟨r39, h⟩ := bu_ix h
                          refine bz_iald hN rkL_166 r39 rfl dX12_man_176 ?_
                          obtain rfl := Option.some.inj h
                          exact bv_iret (x := (v22.2 166 (98 + x1).toNatClampNeg)) dX12_man_177 rfl ⟨rfl, rfl⟩
                        · replace h := bu_f h c38
                          refine bv_tableOut (tgt := 178) dX12_man_33 (bm_sw (k := 9) (by decide) (fun j hj => by match j, hj with | 0, _ => exact c24 | 1, _ => exact c26 | 2, _ => exact c28 | 3, _ => exact c31 | 4, _ => exact c32 | 5, _ => exact c33 | 6, _ => exact c35 | 7, _ => exact c37 | 8, _ => exact c38)) (by decide) ?_
                          refine bv_aload_n dX12_man_178 0 rfl ?_
                          refine bz_getA (a := 166) hN okL_164 (hR _ _ _ r0_164_6) dX12_man_179 fl_12_33 rfl ?_
                          refine bv_bipush (v := 31) dX12_man_182 (by decide) ?_
                          refine bv_iload_n dX12_man_184 1 rfl ?_
                          refine bv_iadd dX12_man_185 ?_
                          obtain ⟨r40, h⟩ := bu_ix h
                          refine bz_iald hN rkL_166 r40 rfl dX12_man_186 ?_
                          refine bv_iconst (v := 1) dX12_man_187 (by decide) ?_
                          refine bv_isub dX12_man_188 ?_
                          obtain rfl := Option.some.inj h
                          exact bv_iret (x := ((v22.2 166 (31 + x1).toNatClampNeg) - 1)) dX12_man_189 rfl ⟨rfl, rfl⟩
      · replace h := bu_bt h cc
        refine bv_iconst (v := 0) dX12_man_30 (by decide) ?_
        obtain rfl := Option.some.inj h
        exact bv_iret (x := 0) dX12_man_31 rfl ⟨rfl, rfl⟩
    · replace h := bu_bf h cc
      refine bv_iconst (v := 1) dX12_man_19 (by decide) ?_
      refine bv_goto (tgt := 24) dX12_man_20 (by decide) ?_
      obtain ⟨v41, p42, h⟩ := bu_bd h
      refine bw_callV (As := [.int (bm_bi true)]) hN okL_164 ⟨_, _, rfl⟩ dX12_man_24 mc_12_306 (c_X12_throwsIf (d := d + 1) hN hR p42) rfl rfl (by decide) ?_
      refine bw_ifB_eq (b := v41.1) (tgt := 32) dX12_man_27 (by decide) (fun cc => ?_) (fun cc => ?_)
      · replace h := bu_bf h cc
        refine bv_iload_n dX12_man_32 2 rfl ?_
        by_cases c43 : x2 = 0
        · replace h := bu_t h c43
          refine bv_tableIn (tgt := 84) dX12_man_33 (by rw [c43]; decide) (by rw [c43]; decide) (by rw [c43]; rfl) (by decide) ?_
          refine bv_aload_n dX12_man_84 0 rfl ?_
          refine bz_getA (a := 166) hN okL_164 (hR _ _ _ r0_164_6) dX12_man_85 fl_12_33 rfl ?_
          refine bv_bipush (v := 66) dX12_man_88 (by decide) ?_
          refine bv_iload_n dX12_man_90 1 rfl ?_
          refine bv_iadd dX12_man_91 ?_
          obtain ⟨r44, h⟩ := bu_ix h
          refine bz_iald hN rkL_166 r44 rfl dX12_man_92 ?_
          obtain rfl := Option.some.inj h
          exact bv_iret (x := (v41.2 166 (66 + x1).toNatClampNeg)) dX12_man_93 rfl ⟨rfl, rfl⟩
        · replace h := bu_f h c43
          by_cases c45 : x2 = 1
          · replace h := bu_t h c45
            refine bv_tableIn (tgt := 94) dX12_man_33 (by rw [c45]; decide) (by rw [c45]; decide) (by rw [c45]; rfl) (by decide) ?_
            refine bv_aload_n dX12_man_94 0 rfl ?_
            refine bz_getA (a := 166) hN okL_164 (hR _ _ _ r0_164_6) dX12_man_95 fl_12_33 rfl ?_
            refine bv_bipush (v := 74) dX12_man_98 (by decide) ?_
            refine bv_iload_n dX12_man_100 1 rfl ?_
            refine bv_iadd dX12_man_101 ?_
            obtain ⟨r46, h⟩ := bu_ix h
            refine bz_iald hN rkL_166 r46 rfl dX12_man_102 ?_
            obtain rfl := Option.some.inj h
            exact bv_iret (x := (v41.2 166 (74 + x1).toNatClampNeg)) dX12_man_103 rfl ⟨rfl, rfl⟩
          · replace h := bu_f h c45
            by_cases c47 : x2 = 2
            · replace h := bu_t h c47
              refine bv_tableIn (tgt := 104) dX12_man_33 (by rw [c47]; decide) (by rw [c47]; decide) (by rw [c47]; rfl) (by decide) ?_
              refine bv_aload_n dX12_man_104 0 rfl ?_
              refine bv_iload_n dX12_man_105 1 rfl ?_
              obtain ⟨v48, p49, h⟩ := bu_bd h
              refine bw_callV (As := [.int x1]) hN okL_164 ⟨_, _, rfl⟩ dX12_man_106 mc_12_290 (c_X12_browOf (d := d + 0) hN hR p49) rfl rfl (by decide) ?_
              obtain rfl := Option.some.inj h
              exact bv_iret (x := v48) dX12_man_109 rfl ⟨rfl, rfl⟩
            · replace h := bu_f h c47
              by_cases c50 : x2 = 3
              · replace h := bu_t h c50
                refine bv_tableIn (tgt := 110) dX12_man_33 (by rw [c50]; decide) (by rw [c50]; decide) (by rw [c50]; rfl) (by decide) ?_
                refine bv_aload_n dX12_man_110 0 rfl ?_
                refine bz_getA (a := 166) hN okL_164 (hR _ _ _ r0_164_6) dX12_man_111 fl_12_33 rfl ?_
                refine bv_bipush (v := 63) dX12_man_114 (by decide) ?_
                refine bz_iald (j := 63) hN rkL_166 (bm_ix_in (by decide)) (by decide) dX12_man_116 ?_
                refine bv_iload_n dX12_man_117 1 rfl ?_
                refine bv_ishr dX12_man_118 ?_
                refine bv_iconst (v := 1) dX12_man_119 (by decide) ?_
                refine bv_iand dX12_man_120 ?_
                obtain rfl := Option.some.inj h
                exact bv_iret (x := ((bm_ishr (v41.2 166 63) x1) &&& 1)) dX12_man_121 rfl ⟨rfl, rfl⟩
              · replace h := bu_f h c50
                by_cases c51 : x2 = 4
                · replace h := bu_t h c51
                  refine bv_tableIn (tgt := 122) dX12_man_33 (by rw [c51]; decide) (by rw [c51]; decide) (by rw [c51]; rfl) (by decide) ?_
                  refine bv_aload_n dX12_man_122 0 rfl ?_
                  refine bz_getA (a := 166) hN okL_164 (hR _ _ _ r0_164_6) dX12_man_123 fl_12_33 rfl ?_
                  refine bv_bipush (v := 64) dX12_man_126 (by decide) ?_
                  refine bz_iald (j := 64) hN rkL_166 (bm_ix_in (by decide)) (by decide) dX12_man_128 ?_
                  refine bv_iload_n dX12_man_129 1 rfl ?_
                  refine bv_ishr dX12_man_130 ?_
                  refine bv_iconst (v := 1) dX12_man_131 (by decide) ?_
                  refine bv_iand dX12_man_132 ?_
                  obtain rfl := Option.some.inj h
                  exact bv_iret (x := ((bm_ishr (v41.2 166 64) x1) &&& 1)) dX12_man_133 rfl ⟨rfl, rfl⟩
                · replace h := bu_f h c51
                  by_cases c52 : x2 = 5
                  · replace h := bu_t h c52
                    refine bv_tableIn (tgt := 134) dX12_man_33 (by rw [c52]; decide) (by rw [c52]; decide) (by rw [c52]; rfl) (by decide) ?_
                    refine bv_aload_n dX12_man_134 0 rfl ?_
                    refine bz_getA (a := 166) hN okL_164 (hR _ _ _ r0_164_6) dX12_man_135 fl_12_33 rfl ?_
                    refine bv_bipush (v := 82) dX12_man_138 (by decide) ?_
                    refine bv_iload_n dX12_man_140 1 rfl ?_
                    refine bv_iadd dX12_man_141 ?_
                    obtain ⟨r53, h⟩ := bu_ix h
                    refine bz_iald hN rkL_166 r53 rfl dX12_man_142 ?_
                    obtain rfl := Option.some.inj h
                    exact bv_iret (x := (v41.2 166 (82 + x1).toNatClampNeg)) dX12_man_143 rfl ⟨rfl, rfl⟩
                  · replace h := bu_f h c52
                    by_cases c54 : x2 = 6
                    · replace h := bu_t h c54
                      refine bv_tableIn (tgt := 144) dX12_man_33 (by rw [c54]; decide) (by rw [c54]; decide) (by rw [c54]; rfl) (by decide) ?_
                      refine bv_aload_n dX12_man_144 0 rfl ?_
                      refine bz_getA (a := 166) hN okL_164 (hR _ _ _ r0_164_6) dX12_man_145 fl_12_33 rfl ?_
                      refine bv_bipush (v := 90) dX12_man_148 (by decide) ?_
                      refine bv_iload_n dX12_man_150 1 rfl ?_
                      refine bv_iadd dX12_man_151 ?_
                      obtain ⟨r55, h⟩ := bu_ix h
                      refine bz_iald hN rkL_166 r55 rfl dX12_man_152 ?_
                      refine bv_iconst (v := 1) dX12_man_153 (by decide) ?_
                      refine bv_isub dX12_man_154 ?_
                      obtain rfl := Option.some.inj h
                      exact bv_iret (x := ((v41.2 166 (90 + x1).toNatClampNeg) - 1)) dX12_man_155 rfl ⟨rfl, rfl⟩
                    · replace h := bu_f h c54
                      by_cases c56 : x2 = 7
                      · replace h := bu_t h c56
                        refine bv_tableIn (tgt := 156) dX12_man_33 (by rw [c56]; decide) (by rw [c56]; decide) (by rw [c56]; rfl) (by decide) ?_
                        refine bv_aload_n dX12_man_156 0 rfl ?_
                        refine bz_getA (a := 166) hN okL_164 (hR _ _ _ r0_164_6) dX12_man_157 fl_12_33 rfl ?_
                        refine bv_bipush (v := 65) dX12_man_160 (by decide) ?_
                        refine bz_iald (j := 65) hN rkL_166 (bm_ix_in (by decide)) (by decide) dX12_man_162 ?_
                        refine bv_iload_n dX12_man_163 1 rfl ?_
                        refine bv_ishr dX12_man_164 ?_
                        refine bv_iconst (v := 1) dX12_man_165 (by decide) ?_
                        refine bv_iand dX12_man_166 ?_
                        obtain rfl := Option.some.inj h
                        exact bv_iret (x := ((bm_ishr (v41.2 166 65) x1) &&& 1)) dX12_man_167 rfl ⟨rfl, rfl⟩
                      · replace h := bu_f h c56
                        by_cases c57 : x2 = 8
                        · replace h := bu_t h c57
                          refine bv_tableIn (tgt := 168) dX12_man_33 (by rw [c57]; decide) (by rw [c57]; decide) (by rw [c57]; rfl) (by decide) ?_
                          refine bv_aload_n dX12_man_168 0 rfl ?_
                          refine bz_getA (a := 166) hN okL_164 (hR _ _ _ r0_164_6) dX12_man_169 fl_12_33 rfl ?_
                          refine bv_bipush (v := 98) dX12_man_172 (by decide) ?_
                          refine bv_iload_n dX12_man_174 1 rfl ?_
                          refine bv_iadd dX12_man_175 ?_
                          obtain ⟨r58, h⟩ := bu_ix h
                          refine bz_iald hN rkL_166 r58 rfl dX12_man_176 ?_
                          obtain rfl := Option.some.inj h
                          exact bv_iret (x := (v41.2 166 (98 + x1).toNatClampNeg)) dX12_man_177 rfl ⟨rfl, rfl⟩
                        · replace h := bu_f h c57
                          refine bv_tableOut (tgt := 178) dX12_man_33 (bm_sw (k := 9) (by decide) (fun j hj => by match j, hj with | 0, _ => exact c43 | 1, _ => exact c45 | 2, _ => exact c47 | 3, _ => exact c50 | 4, _ => exact c51 | 5, _ => exact c52 | 6, _ => exact c54 | 7, _ => exact c56 | 8, _ => exact c57)) (by decide) ?_
                          refine bv_aload_n dX12_man_178 0 rfl ?_
                          refine bz_getA (a := 166) hN okL_164 (hR _ _ _ r0_164_6) dX12_man_179 fl_12_33 rfl ?_
                          refine bv_bipush (v := 31) dX12_man_182 (by decide) ?_
                          refine bv_iload_n dX12_man_184 1 rfl ?_
                          refine bv_iadd dX12_man_185 ?_
                          obtain ⟨r59, h⟩ := bu_ix h
                          refine bz_iald hN rkL_166 r59 rfl dX12_man_186 ?_
                          refine bv_iconst (v := 1) dX12_man_187 (by decide) ?_
                          refine bv_isub dX12_man_188 ?_
                          obtain rfl := Option.some.inj h
                          exact bv_iret (x := ((v41.2 166 (31 + x1).toNatClampNeg) - 1)) dX12_man_189 rfl ⟨rfl, rfl⟩
      · replace h := bu_bt h cc
        refine bv_iconst (v := 0) dX12_man_30 (by decide) ?_
        obtain rfl := Option.some.inj h
        exact bv_iret (x := 0) dX12_man_31 rfl ⟨rfl, rfl⟩
def f_X12_order (I : bm_TI) (x1 : Int32) (x2 : Int32) : Option (Int32 × bm_TI) := ((f_X12_isOrder (bm_uI I 164 0 0) x1).bind fun v1 => (if v1 = true then (if x2 = 0 then (if bm_ix 287 (39 + x1) = true then some (((bm_uI I 164 0 0) 166 (39 + x1).toNatClampNeg), (bm_uI I 164 0 0)) else none) else (if x2 = 1 then (if bm_ix 287 (46 + x1) = true then some (((bm_uI I 164 0 0) 166 (46 + x1).toNatClampNeg), (bm_uI I 164 0 0)) else none) else (if x2 = 2 then ((f_X12_havers (bm_uI I 164 0 0) x1).bind fun v3 => some (v3, (bm_uI I 164 0 0))) else some ((-1), (bm_uI I 164 0 0))))) else some ((-1), (bm_uI I 164 0 0))))
set_option maxHeartbeats 4000000 in
set_option maxRecDepth 100000 in
theorem c_X12_order {lc : bm_L} {d n : Nat} {I : bm_TI} {J : bm_TJ} {R W : bm_TR} {x1 : Int32} {x2 : Int32} {v : Int32 × bm_TI} (hN : 181 ≤ n) (hR : bm_RR R) (h : f_X12_order I x1 x2 = some v) : bm_C lc m_X12_order (d + 2) n n [.ref 164, .int x1, .int x2] (I, J, R, W) (fun r M' => r = some (.int v.1) ∧ M' = (v.2, J, R, W)) := by
  refine bm_C.ofV (by decide) (Nat.le_of_ble_eq_true rfl) ?_
  show bm_V lc m_X12_order (d + 2) n n n 0 [(0, .ref 164), (1, .int x1), (2, .int x2)] [] (I, J, R, W) _
  unfold f_X12_order at h
  refine bv_aload_n dX12_order_0 0 rfl ?_
  refine bv_iconst (v := 0) dX12_order_1 (by decide) ?_
  refine bz_putI hN okL_164 dX12_order_2 fl_12_1 rfl ?_
  refine bv_aload_n dX12_order_5 0 rfl ?_
  refine bv_iload_n dX12_order_6 1 rfl ?_
  obtain ⟨v1, p2, h⟩ := bu_bd h
  refine bw_callV (As := [.int x1]) hN okL_164 ⟨_, _, rfl⟩ dX12_order_7 mc_12_310 (c_X12_isOrder (d := d + 0) hN hR p2) rfl rfl (by decide) ?_
  refine bw_ifB_ne (b := v1) (tgt := 15) dX12_order_10 (by decide) (fun cc => ?_) (fun cc => ?_)
  · replace h := bu_bt h cc
    refine bv_iload_n dX12_order_15 2 rfl ?_
    refine bv_if_ne (tgt := 31) dX12_order_16 (by decide) (fun cc => ?_) (fun cc => ?_)
    · replace h := bu_f h cc
      refine bv_iload_n dX12_order_31 2 rfl ?_
      refine bv_iconst (v := 1) dX12_order_32 (by decide) ?_
      refine bv_icmp_ne (tgt := 48) dX12_order_33 (by decide) (fun cc => ?_) (fun cc => ?_)
      · replace h := bu_f h cc
        refine bv_iload_n dX12_order_48 2 rfl ?_
        refine bv_iconst (v := 2) dX12_order_49 (by decide) ?_
        refine bv_icmp_ne (tgt := 61) dX12_order_50 (by decide) (fun cc => ?_) (fun cc => ?_)
        · replace h := bu_f h cc
          refine bv_iconst (v := (-1)) dX12_order_61 (by decide) ?_
          obtain rfl := Option.some.inj h
          exact bv_iret (x := (-1)) dX12_order_62 rfl ⟨rfl, rfl⟩
        · replace h := bu_t h cc
          refine bv_aload_n dX12_order_53 0 rfl ?_
          refine bv_iload_n dX12_order_54 1 rfl ?_
          obtain ⟨v3, p4, h⟩ := bu_bd h
          refine bw_callV (As := [.int x1]) hN okL_164 ⟨_, _, rfl⟩ dX12_order_55 mc_12_313 (c_X12_havers (d := d + 1) hN hR p4) rfl rfl (by decide) ?_
          refine bv_goto (tgt := 62) dX12_order_58 (by decide) ?_
          obtain rfl := Option.some.inj h
          exact bv_iret (x := v3) dX12_order_62 rfl ⟨rfl, rfl⟩
      · replace h := bu_t h cc
        refine bv_aload_n dX12_order_36 0 rfl ?_
        refine bz_getA (a := 166) hN okL_164 (hR _ _ _ r0_164_6) dX12_order_37 fl_12_33 rfl ?_
        refine bv_bipush (v := 46) dX12_order_40 (by decide) ?_
        refine bv_iload_n dX12_order_42 1 rfl ?_
        refine bv_iadd dX12_order_43 ?_
        obtain ⟨r5, h⟩ := bu_ix h
        refine bz_iald hN rkL_166 r5 rfl dX12_order_44 ?_
        refine bv_goto (tgt := 62) dX12_order_45 (by decide) ?_
        obtain rfl := Option.some.inj h
        exact bv_iret (x := ((bm_uI I 164 0 0) 166 (46 + x1).toNatClampNeg)) dX12_order_62 rfl ⟨rfl, rfl⟩
    · replace h := bu_t h cc
      refine bv_aload_n dX12_order_19 0 rfl ?_
      refine bz_getA (a := 166) hN okL_164 (hR _ _ _ r0_164_6) dX12_order_20 fl_12_33 rfl ?_
      refine bv_bipush (v := 39) dX12_order_23 (by decide) ?_
      refine bv_iload_n dX12_order_25 1 rfl ?_
      refine bv_iadd dX12_order_26 ?_
      obtain ⟨r6, h⟩ := bu_ix h
      refine bz_iald hN rkL_166 r6 rfl dX12_order_27 ?_
      refine bv_goto (tgt := 62) dX12_order_28 (by decide) ?_
      obtain rfl := Option.some.inj h
      exact bv_iret (x := ((bm_uI I 164 0 0) 166 (39 + x1).toNatClampNeg)) dX12_order_62 rfl ⟨rfl, rfl⟩
  · replace h := bu_bf h cc
    refine bv_iconst (v := (-1)) dX12_order_13 (by decide) ?_
    obtain rfl := Option.some.inj h
    exact bv_iret (x := (-1)) dX12_order_14 rfl ⟨rfl, rfl⟩
def f_X12_now_l9 (I : bm_TI) (x1 : Int32) : Nat → Int32 → Int32 → Option (Int32)
  | 0, _, _ => none
  | k + 1, x2, x3 => (if (I 166 0) ≤ x3 then some x2 else (if bm_ix 287 (98 + x3) = true then f_X12_now_l9 I x1 k (x2 + (I 166 (98 + x3).toNatClampNeg)) (x3 + 1) else none))
set_option maxHeartbeats 4000000 in
set_option maxRecDepth 100000 in
theorem v_X12_now_l9 {lc : bm_L} {d n : Nat} {Q : Option Value → bm_M → Prop} {R : bm_TR} {I : bm_TI} {J : bm_TJ} {W : bm_TR} {x1 : Int32} (hN : 181 ≤ n) (hR : bm_RR R) : ∀ (k : Nat) (x2 : Int32) (x3 : Int32) (r : Int32), f_X12_now_l9 I x1 k x2 x3 = some r → (∀ yy, yy = r → bm_V lc m_X12_now (d + 1) n n n 37 [(0, .ref 164), (1, .int x1), (2, .int yy)] [] (I, J, R, W) Q) → bm_V lc m_X12_now (d + 1) n n n 9 [(0, .ref 164), (1, .int x1), (2, .int x2), (3, .int x3)] [] (I, J, R, W) Q := by
  intro k
  induction k with
  | zero => intro x2 x3 r h; cases (show (none : Option (Int32)) = some r from h)
  | succ k ih =>
    intro x2 x3 r h K0
    unfold f_X12_now_l9 at h
    refine bv_iload_n dX12_now_9 3 rfl ?_
    refine bv_aload_n dX12_now_10 0 rfl ?_
    refine bz_getA (a := 166) hN okL_164 (hR _ _ _ r0_164_6) dX12_now_11 fl_12_33 rfl ?_
    refine bv_iconst (v := 0) dX12_now_14 (by decide) ?_
    refine bz_iald (j := 0) hN rkL_166 (bm_ix_in (by decide)) (by decide) dX12_now_15 ?_
    refine bv_icmp_ge (tgt := 37) dX12_now_16 (by decide) (fun cc => ?_) (fun cc => ?_)
    · replace h := bu_t h cc
      refine bw_ls (ls1 := [(0, .ref 164), (1, .int x1), (2, .int x2)]) [0, 1, 2] rfl ?_
      obtain rfl := Option.some.inj h
      exact K0 _ rfl
    · replace h := bu_f h cc
      refine bv_iload_n dX12_now_19 2 rfl ?_
      refine bv_aload_n dX12_now_20 0 rfl ?_
      refine bz_getA (a := 166) hN okL_164 (hR _ _ _ r0_164_6) dX12_now_21 fl_12_33 rfl ?_
      refine bv_bipush (v := 98) dX12_now_24 (by decide) ?_
      refine bv_iload_n dX12_now_26 3 rfl ?_
      refine bv_iadd dX12_now_27 ?_
      obtain ⟨r1, h⟩ := bu_ix h
      refine bz_iald hN rkL_166 r1 rfl dX12_now_28 ?_
      refine bv_iadd dX12_now_29 ?_
      refine bv_istore_n (ls1 := [(0, .ref 164), (1, .int x1), (2, .int (x2 + (I 166 (98 + x3).toNatClampNeg))), (3, .int x3)]) dX12_now_30 (by decide) rfl rfl ?_
      refine bv_iinc (j := 3) (v := (x3 + 1)) (ls1 := [(0, .ref 164), (1, .int x1), (2, .int (x2 + (I 166 (98 + x3).toNatClampNeg))), (3, .int (x3 + 1))]) dX12_now_31 rfl rfl (by decide) rfl rfl ?_
      refine bv_goto (tgt := 9) dX12_now_34 (by decide) ?_
      exact ih _ _ _ h K0
def f_X12_now (I : bm_TI) (x1 : Int32) : Option (Int32 × bm_TI) := ((f_X12_now_l9 (bm_uI I 164 0 0) x1 1000 0 0).bind fun y3 => (if x1 = 0 then some (((bm_uI I 164 0 0) 166 61), (bm_uI I 164 0 0)) else (if x1 = 1 then some (((bm_uI I 164 0 0) 166 63), (bm_uI I 164 0 0)) else (if x1 = 2 then some (((bm_uI I 164 0 0) 166 64), (bm_uI I 164 0 0)) else (if x1 = 3 then ((f_X12_orderly (bm_uI I 164 0 0)).bind fun v8 => some (v8, (bm_uI I 164 0 0))) else (if x1 = 4 then some (((bm_uI I 164 0 0) 166 65), (bm_uI I 164 0 0)) else (if x1 = 5 then some (y3, (bm_uI I 164 0 0)) else (if x1 = 6 then some (((bm_uI I 164 0 0) 166 62), (bm_uI I 164 0 0)) else some ((-1), (bm_uI I 164 0 0))))))))))
set_option maxHeartbeats 4000000 in
set_option maxRecDepth 100000 in
theorem c_X12_now {lc : bm_L} {d n : Nat} {I : bm_TI} {J : bm_TJ} {R W : bm_TR} {x1 : Int32} {v : Int32 × bm_TI} (hN : 181 ≤ n) (hR : bm_RR R) (h : f_X12_now I x1 = some v) : bm_C lc m_X12_now (d + 1) n n [.ref 164, .int x1] (I, J, R, W) (fun r M' => r = some (.int v.1) ∧ M' = (v.2, J, R, W)) := by
  refine bm_C.ofV (by decide) (Nat.le_of_ble_eq_true rfl) ?_
  show bm_V lc m_X12_now (d + 1) n n n 0 [(0, .ref 164), (1, .int x1)] [] (I, J, R, W) _
  unfold f_X12_now at h
  refine bv_aload_n dX12_now_0 0 rfl ?_
  refine bv_iconst (v := 0) dX12_now_1 (by decide) ?_
  refine bz_putI hN okL_164 dX12_now_2 fl_12_1 rfl ?_
  refine bv_iconst (v := 0) dX12_now_5 (by decide) ?_
  refine bv_istore_n (ls1 := [(0, .ref 164), (1, .int x1), (2, .int 0)]) dX12_now_6 (by decide) rfl rfl ?_
  refine bv_iconst (v := 0) dX12_now_7 (by decide) ?_
  refine bv_istore_n (ls1 := [(0, .ref 164), (1, .int x1), (2, .int 0), (3, .int 0)]) dX12_now_8 (by decide) rfl rfl ?_
  obtain ⟨r1, p2, h⟩ := bu_bd h
  refine v_X12_now_l9 hN hR 1000 _ _ _ p2 (fun y3 hy => ?_)
  · subst hy
    refine bv_iload_n dX12_now_37 1 rfl ?_
    by_cases c4 : x1 = 0
    · replace h := bu_t h c4
      refine bv_tableIn (tgt := 80) dX12_now_38 (by rw [c4]; decide) (by rw [c4]; decide) (by rw [c4]; rfl) (by decide) ?_
      refine bv_aload_n dX12_now_80 0 rfl ?_
      refine bz_getA (a := 166) hN okL_164 (hR _ _ _ r0_164_6) dX12_now_81 fl_12_33 rfl ?_
      refine bv_bipush (v := 61) dX12_now_84 (by decide) ?_
      refine bz_iald (j := 61) hN rkL_166 (bm_ix_in (by decide)) (by decide) dX12_now_86 ?_
      obtain rfl := Option.some.inj h
      exact bv_iret (x := ((bm_uI I 164 0 0) 166 61)) dX12_now_87 rfl ⟨rfl, rfl⟩
    · replace h := bu_f h c4
      by_cases c5 : x1 = 1
      · replace h := bu_t h c5
        refine bv_tableIn (tgt := 88) dX12_now_38 (by rw [c5]; decide) (by rw [c5]; decide) (by rw [c5]; rfl) (by decide) ?_
        refine bv_aload_n dX12_now_88 0 rfl ?_
        refine bz_getA (a := 166) hN okL_164 (hR _ _ _ r0_164_6) dX12_now_89 fl_12_33 rfl ?_
        refine bv_bipush (v := 63) dX12_now_92 (by decide) ?_
        refine bz_iald (j := 63) hN rkL_166 (bm_ix_in (by decide)) (by decide) dX12_now_94 ?_
        obtain rfl := Option.some.inj h
        exact bv_iret (x := ((bm_uI I 164 0 0) 166 63)) dX12_now_95 rfl ⟨rfl, rfl⟩
      · replace h := bu_f h c5
        by_cases c6 : x1 = 2
        · replace h := bu_t h c6
          refine bv_tableIn (tgt := 96) dX12_now_38 (by rw [c6]; decide) (by rw [c6]; decide) (by rw [c6]; rfl) (by decide) ?_
          refine bv_aload_n dX12_now_96 0 rfl ?_
          refine bz_getA (a := 166) hN okL_164 (hR _ _ _ r0_164_6) dX12_now_97 fl_12_33 rfl ?_
          refine bv_bipush (v := 64) dX12_now_100 (by decide) ?_
          refine bz_iald (j := 64) hN rkL_166 (bm_ix_in (by decide)) (by decide) dX12_now_102 ?_
          obtain rfl := Option.some.inj h
          exact bv_iret (x := ((bm_uI I 164 0 0) 166 64)) dX12_now_103 rfl ⟨rfl, rfl⟩
        · replace h := bu_f h c6
          by_cases c7 : x1 = 3
          · replace h := bu_t h c7
            refine bv_tableIn (tgt := 104) dX12_now_38 (by rw [c7]; decide) (by rw [c7]; decide) (by rw [c7]; rfl) (by decide) ?_
            refine bv_aload_n dX12_now_104 0 rfl ?_
            obtain ⟨v8, p9, h⟩ := bu_bd h
            refine bw_callV (As := []) hN okL_164 ⟨_, _, rfl⟩ dX12_now_105 mc_12_316 (c_X12_orderly (d := d + 0) hN hR p9) rfl rfl (by decide) ?_
            obtain rfl := Option.some.inj h
            exact bv_iret (x := v8) dX12_now_108 rfl ⟨rfl, rfl⟩
          · replace h := bu_f h c7
            by_cases c10 : x1 = 4
            · replace h := bu_t h c10
              refine bv_tableIn (tgt := 109) dX12_now_38 (by rw [c10]; decide) (by rw [c10]; decide) (by rw [c10]; rfl) (by decide) ?_
              refine bv_aload_n dX12_now_109 0 rfl ?_
              refine bz_getA (a := 166) hN okL_164 (hR _ _ _ r0_164_6) dX12_now_110 fl_12_33 rfl ?_
              refine bv_bipush (v := 65) dX12_now_113 (by decide) ?_
              refine bz_iald (j := 65) hN rkL_166 (bm_ix_in (by decide)) (by decide) dX12_now_115 ?_
              obtain rfl := Option.some.inj h
              exact bv_iret (x := ((bm_uI I 164 0 0) 166 65)) dX12_now_116 rfl ⟨rfl, rfl⟩
            · replace h := bu_f h c10
              by_cases c11 : x1 = 5
              · replace h := bu_t h c11
                refine bv_tableIn (tgt := 117) dX12_now_38 (by rw [c11]; decide) (by rw [c11]; decide) (by rw [c11]; rfl) (by decide) ?_
                refine bv_iload_n dX12_now_117 2 rfl ?_
                obtain rfl := Option.some.inj h
                exact bv_iret (x := y3) dX12_now_118 rfl ⟨rfl, rfl⟩
              · replace h := bu_f h c11
                by_cases c12 : x1 = 6
                · replace h := bu_t h c12
                  refine bv_tableIn (tgt := 119) dX12_now_38 (by rw [c12]; decide) (by rw [c12]; decide) (by rw [c12]; rfl) (by decide) ?_
                  refine bv_aload_n dX12_now_119 0 rfl ?_
                  refine bz_getA (a := 166) hN okL_164 (hR _ _ _ r0_164_6) dX12_now_120 fl_12_33 rfl ?_
                  refine bv_bipush (v := 62) dX12_now_123 (by decide) ?_
                  refine bz_iald (j := 62) hN rkL_166 (bm_ix_in (by decide)) (by decide) dX12_now_125 ?_
                  obtain rfl := Option.some.inj h
                  exact bv_iret (x := ((bm_uI I 164 0 0) 166 62)) dX12_now_126 rfl ⟨rfl, rfl⟩
                · replace h := bu_f h c12
                  refine bv_tableOut (tgt := 127) dX12_now_38 (bm_sw (k := 7) (by decide) (fun j hj => by match j, hj with | 0, _ => exact c4 | 1, _ => exact c5 | 2, _ => exact c6 | 3, _ => exact c7 | 4, _ => exact c10 | 5, _ => exact c11 | 6, _ => exact c12)) (by decide) ?_
                  refine bv_iconst (v := (-1)) dX12_now_127 (by decide) ?_
                  obtain rfl := Option.some.inj h
                  exact bv_iret (x := (-1)) dX12_now_128 rfl ⟨rfl, rfl⟩
def f_X12_orderBy_l2 (I : bm_TI) (x1 : Int32) (x2 : Int32) : Nat → Int32 → Option (((Int32) ⊕ (Unit)))
  | 0, _ => none
  | k + 1, x3 => (if (I 166 1) ≤ x3 then some (Sum.inr ()) else (if bm_ix 287 (39 + x3) = true then (if (I 166 (39 + x3).toNatClampNeg) = x1 then (if bm_ix 287 (46 + x3) = true then (if (I 166 (46 + x3).toNatClampNeg) = x2 then some (Sum.inl x3) else f_X12_orderBy_l2 I x1 x2 k (x3 + 1)) else none) else f_X12_orderBy_l2 I x1 x2 k (x3 + 1)) else none))
set_option maxHeartbeats 4000000 in
set_option maxRecDepth 100000 in
theorem v_X12_orderBy_l2 {lc : bm_L} {d n : Nat} {Q : Option Value → bm_M → Prop} {R : bm_TR} {I : bm_TI} {J : bm_TJ} {W : bm_TR} {x1 : Int32} {x2 : Int32} (hN : 181 ≤ n) (hR : bm_RR R) : ∀ (k : Nat) (x3 : Int32) (r : ((Int32) ⊕ (Unit))), f_X12_orderBy_l2 I x1 x2 k x3 = some r → (∀ yy, (Sum.inl yy) = r → bm_V lc m_X12_orderBy d n n n 38 [(3, .int yy)] [] (I, J, R, W) Q) → (∀ yy, (Sum.inr yy) = r → bm_V lc m_X12_orderBy d n n n 46 [] [] (I, J, R, W) Q) → bm_V lc m_X12_orderBy d n n n 2 [(0, .ref 164), (1, .int x1), (2, .int x2), (3, .int x3)] [] (I, J, R, W) Q := by
  intro k
  induction k with
  | zero => intro x3 r h; cases (show (none : Option (((Int32) ⊕ (Unit)))) = some r from h)
  | succ k ih =>
    intro x3 r h K0 K1
    unfold f_X12_orderBy_l2 at h
    refine bv_iload_n dX12_orderBy_2 3 rfl ?_
    refine bv_aload_n dX12_orderBy_3 0 rfl ?_
    refine bz_getA (a := 166) hN okL_164 (hR _ _ _ r0_164_6) dX12_orderBy_4 fl_12_33 rfl ?_
    refine bv_iconst (v := 1) dX12_orderBy_7 (by decide) ?_
    refine bz_iald (j := 1) hN rkL_166 (bm_ix_in (by decide)) (by decide) dX12_orderBy_8 ?_
    refine bv_icmp_ge (tgt := 46) dX12_orderBy_9 (by decide) (fun cc => ?_) (fun cc => ?_)
    · replace h := bu_t h cc
      refine bw_ls (ls1 := []) [] rfl ?_
      obtain rfl := Option.some.inj h
      exact K1 _ rfl
    · replace h := bu_f h cc
      refine bv_aload_n dX12_orderBy_12 0 rfl ?_
      refine bz_getA (a := 166) hN okL_164 (hR _ _ _ r0_164_6) dX12_orderBy_13 fl_12_33 rfl ?_
      refine bv_bipush (v := 39) dX12_orderBy_16 (by decide) ?_
      refine bv_iload_n dX12_orderBy_18 3 rfl ?_
      refine bv_iadd dX12_orderBy_19 ?_
      obtain ⟨r1, h⟩ := bu_ix h
      refine bz_iald hN rkL_166 r1 rfl dX12_orderBy_20 ?_
      refine bv_iload_n dX12_orderBy_21 1 rfl ?_
      refine bv_icmp_ne (tgt := 40) dX12_orderBy_22 (by decide) (fun cc => ?_) (fun cc => ?_)
      · replace h := bu_f h cc
        refine bv_iinc (j := 3) (v := (x3 + 1)) (ls1 := [(0, .ref 164), (1, .int x1), (2, .int x2), (3, .int (x3 + 1))]) dX12_orderBy_40 rfl rfl (by decide) rfl rfl ?_
        refine bv_goto (tgt := 2) dX12_orderBy_43 (by decide) ?_
        exact ih _ _ h K0 K1
      · replace h := bu_t h cc
        refine bv_aload_n dX12_orderBy_25 0 rfl ?_
        refine bz_getA (a := 166) hN okL_164 (hR _ _ _ r0_164_6) dX12_orderBy_26 fl_12_33 rfl ?_
        refine bv_bipush (v := 46) dX12_orderBy_29 (by decide) ?_
        refine bv_iload_n dX12_orderBy_31 3 rfl ?_
        refine bv_iadd dX12_orderBy_32 ?_
        obtain ⟨r2, h⟩ := bu_ix h
        refine bz_iald hN rkL_166 r2 rfl dX12_orderBy_33 ?_
        refine bv_iload_n dX12_orderBy_34 2 rfl ?_
        refine bv_icmp_ne (tgt := 40) dX12_orderBy_35 (by decide) (fun cc => ?_) (fun cc => ?_)
        · replace h := bu_f h cc
          refine bv_iinc (j := 3) (v := (x3 + 1)) (ls1 := [(0, .ref 164), (1, .int x1), (2, .int x2), (3, .int (x3 + 1))]) dX12_orderBy_40 rfl rfl (by decide) rfl rfl ?_
          refine bv_goto (tgt := 2) dX12_orderBy_43 (by decide) ?_
          exact ih _ _ h K0 K1
        · replace h := bu_t h cc
          refine bw_ls (ls1 := [(3, .int x3)]) [3] rfl ?_
          obtain rfl := Option.some.inj h
          exact K0 _ rfl
def f_X12_orderBy (I : bm_TI) (x1 : Int32) (x2 : Int32) : Option (Int32) := ((f_X12_orderBy_l2 I x1 x2 1000 0).bind fun rr => match rr with | (Sum.inl y3) => some y3 | (Sum.inr y3) => some (-1))
set_option maxHeartbeats 4000000 in
set_option maxRecDepth 100000 in
theorem c_X12_orderBy {lc : bm_L} {d n : Nat} {I : bm_TI} {J : bm_TJ} {R W : bm_TR} {x1 : Int32} {x2 : Int32} {v : Int32} (hN : 181 ≤ n) (hR : bm_RR R) (h : f_X12_orderBy I x1 x2 = some v) : bm_C lc m_X12_orderBy d n n [.ref 164, .int x1, .int x2] (I, J, R, W) (fun r M' => r = some (.int v) ∧ M' = (I, J, R, W)) := by
  refine bm_C.ofV (by decide) (Nat.le_of_ble_eq_true rfl) ?_
  show bm_V lc m_X12_orderBy d n n n 0 [(0, .ref 164), (1, .int x1), (2, .int x2)] [] (I, J, R, W) _
  unfold f_X12_orderBy at h
  refine bv_iconst (v := 0) dX12_orderBy_0 (by decide) ?_
  refine bv_istore_n (ls1 := [(0, .ref 164), (1, .int x1), (2, .int x2), (3, .int 0)]) dX12_orderBy_1 (by decide) rfl rfl ?_
  obtain ⟨r1, p2, h⟩ := bu_bd h
  refine v_X12_orderBy_l2 hN hR 1000 _ _ p2 (fun y3 hy => ?_) (fun y3 hy => ?_)
  · subst hy
    refine bv_iload_n dX12_orderBy_38 0 rfl ?_
    obtain rfl := Option.some.inj h
    exact bv_iret (x := y3) dX12_orderBy_39 rfl ⟨rfl, rfl⟩
  · subst hy
    refine bv_iconst (v := (-1)) dX12_orderBy_46 (by decide) ?_
    obtain rfl := Option.some.inj h
    exact bv_iret (x := (-1)) dX12_orderBy_47 rfl ⟨rfl, rfl⟩
def f_X12_hears (I : bm_TI) (x1 : Int32) (x2 : Int32) : Option (bm_TI) := (if (f_X12_bitOf (I 166 29) x1) = true then (if bm_ix 287 (90 + x1) = true then (if (I 166 (90 + x1).toNatClampNeg) ≤ 0 then (if bm_ix 287 (82 + x1) = true then (if (I 166 (82 + x1).toNatClampNeg) = 0 then (if (I 166 (82 + x1).toNatClampNeg) = 0 then some (bm_uI I 166 ((82 + x1).toNatClampNeg) x2) else ((f_X12_orderBy (bm_uI I 166 ((82 + x1).toNatClampNeg) x2) (I 166 (82 + x1).toNatClampNeg) x2).bind fun v15 => (if 0 ≤ v15 then some (bm_uI (bm_uI (bm_uI I 166 ((82 + x1).toNatClampNeg) x2) 166 ((90 + x1).toNatClampNeg) (v15 + 1)) 166 65 (((bm_uI (bm_uI I 166 ((82 + x1).toNatClampNeg) x2) 166 ((90 + x1).toNatClampNeg) (v15 + 1)) 166 65) ||| (bm_ishl 1 x1))) else (if bm_ix 287 (98 + x1) = true then some (bm_uI (bm_uI I 166 ((82 + x1).toNatClampNeg) x2) 166 ((98 + x1).toNatClampNeg) (f_X12_lesser 99 (((bm_uI I 166 ((82 + x1).toNatClampNeg) x2) 166 (98 + x1).toNatClampNeg) + 1))) else none)))) else (if (I 166 (82 + x1).toNatClampNeg) = 0 then some (bm_uI I 166 ((82 + x1).toNatClampNeg) 0) else ((f_X12_orderBy (bm_uI I 166 ((82 + x1).toNatClampNeg) 0) (I 166 (82 + x1).toNatClampNeg) x2).bind fun v12 => (if 0 ≤ v12 then some (bm_uI (bm_uI (bm_uI I 166 ((82 + x1).toNatClampNeg) 0) 166 ((90 + x1).toNatClampNeg) (v12 + 1)) 166 65 (((bm_uI (bm_uI I 166 ((82 + x1).toNatClampNeg) 0) 166 ((90 + x1).toNatClampNeg) (v12 + 1)) 166 65) ||| (bm_ishl 1 x1))) else (if bm_ix 287 (98 + x1) = true then some (bm_uI (bm_uI I 166 ((82 + x1).toNatClampNeg) 0) 166 ((98 + x1).toNatClampNeg) (f_X12_lesser 99 (((bm_uI I 166 ((82 + x1).toNatClampNeg) 0) 166 (98 + x1).toNatClampNeg) + 1))) else none))))) else none) else some I) else none) else (if bm_ix 287 (82 + x1) = true then (if (I 166 (82 + x1).toNatClampNeg) = 0 then (if (I 166 (82 + x1).toNatClampNeg) = 0 then some (bm_uI I 166 ((82 + x1).toNatClampNeg) x2) else ((f_X12_orderBy (bm_uI I 166 ((82 + x1).toNatClampNeg) x2) (I 166 (82 + x1).toNatClampNeg) x2).bind fun v6 => (if 0 ≤ v6 then (if bm_ix 287 (90 + x1) = true then some (bm_uI (bm_uI (bm_uI I 166 ((82 + x1).toNatClampNeg) x2) 166 ((90 + x1).toNatClampNeg) (v6 + 1)) 166 65 (((bm_uI (bm_uI I 166 ((82 + x1).toNatClampNeg) x2) 166 ((90 + x1).toNatClampNeg) (v6 + 1)) 166 65) ||| (bm_ishl 1 x1))) else none) else (if bm_ix 287 (98 + x1) = true then some (bm_uI (bm_uI I 166 ((82 + x1).toNatClampNeg) x2) 166 ((98 + x1).toNatClampNeg) (f_X12_lesser 99 (((bm_uI I 166 ((82 + x1).toNatClampNeg) x2) 166 (98 + x1).toNatClampNeg) + 1))) else none)))) else (if (I 166 (82 + x1).toNatClampNeg) = 0 then some (bm_uI I 166 ((82 + x1).toNatClampNeg) 0) else ((f_X12_orderBy (bm_uI I 166 ((82 + x1).toNatClampNeg) 0) (I 166 (82 + x1).toNatClampNeg) x2).bind fun v2 => (if 0 ≤ v2 then (if bm_ix 287 (90 + x1) = true then some (bm_uI (bm_uI (bm_uI I 166 ((82 + x1).toNatClampNeg) 0) 166 ((90 + x1).toNatClampNeg) (v2 + 1)) 166 65 (((bm_uI (bm_uI I 166 ((82 + x1).toNatClampNeg) 0) 166 ((90 + x1).toNatClampNeg) (v2 + 1)) 166 65) ||| (bm_ishl 1 x1))) else none) else (if bm_ix 287 (98 + x1) = true then some (bm_uI (bm_uI I 166 ((82 + x1).toNatClampNeg) 0) 166 ((98 + x1).toNatClampNeg) (f_X12_lesser 99 (((bm_uI I 166 ((82 + x1).toNatClampNeg) 0) 166 (98 + x1).toNatClampNeg) + 1))) else none))))) else none))
set_option maxHeartbeats 4000000 in
set_option maxRecDepth 100000 in
theorem c_X12_hears {lc : bm_L} {d n : Nat} {I : bm_TI} {J : bm_TJ} {R W : bm_TR} {x1 : Int32} {x2 : Int32} {v : bm_TI} (hN : 181 ≤ n) (hR : bm_RR R) (h : f_X12_hears I x1 x2 = some v) : bm_C lc m_X12_hears (d + 1) n n [.ref 164, .int x1, .int x2] (I, J, R, W) (fun r M' => r = none ∧ M' = (v, J, R, W)) := by
  refine bm_C.ofV (by decide) (Nat.le_of_ble_eq_true rfl) ?_
  show bm_V lc m_X12_hears (d + 1) n n n 0 [(0, .ref 164), (1, .int x1), (2, .int x2)] [] (I, J, R, W) _
  unfold f_X12_hears at h
  refine bv_aload_n dX12_hears_0 0 rfl ?_
  refine bz_getA (a := 166) hN okL_164 (hR _ _ _ r0_164_6) dX12_hears_1 fl_12_33 rfl ?_
  refine bv_bipush (v := 29) dX12_hears_4 (by decide) ?_
  refine bz_iald (j := 29) hN rkL_166 (bm_ix_in (by decide)) (by decide) dX12_hears_6 ?_
  refine bv_iload_n dX12_hears_7 1 rfl ?_
  refine bw_callS (As := [.int (I 166 29), .int x1]) dX12_hears_8 mc_12_231 (c_X12_bitOf (d := d + 0) hN hR rfl) rfl rfl (by decide) ?_
  refine bw_ifB_eq (b := (f_X12_bitOf (I 166 29) x1)) (tgt := 27) dX12_hears_11 (by decide) (fun cc => ?_) (fun cc => ?_)
  · replace h := bu_bf h cc
    refine bv_aload_n dX12_hears_27 0 rfl ?_
    refine bz_getA (a := 166) hN okL_164 (hR _ _ _ r0_164_6) dX12_hears_28 fl_12_33 rfl ?_
    refine bv_bipush (v := 82) dX12_hears_31 (by decide) ?_
    refine bv_iload_n dX12_hears_33 1 rfl ?_
    refine bv_iadd dX12_hears_34 ?_
    obtain ⟨r1, h⟩ := bu_ix h
    refine bz_iald hN rkL_166 r1 rfl dX12_hears_35 ?_
    refine bv_istore_n (ls1 := [(0, .ref 164), (1, .int x1), (2, .int x2), (3, .int (I 166 (82 + x1).toNatClampNeg))]) dX12_hears_36 (by decide) rfl rfl ?_
    refine bv_aload_n dX12_hears_37 0 rfl ?_
    refine bz_getA (a := 166) hN okL_164 (hR _ _ _ r0_164_6) dX12_hears_38 fl_12_33 rfl ?_
    refine bv_bipush (v := 82) dX12_hears_41 (by decide) ?_
    refine bv_iload_n dX12_hears_43 1 rfl ?_
    refine bv_iadd dX12_hears_44 ?_
    refine bv_iload_n dX12_hears_45 3 rfl ?_
    refine bv_if_ne (tgt := 53) dX12_hears_46 (by decide) (fun cc => ?_) (fun cc => ?_)
    · replace h := bu_f h cc
      refine bv_iconst (v := 0) dX12_hears_53 (by decide) ?_
      refine bz_iast hN rkL_166 r1 rfl dX12_hears_54 ?_
      refine bv_iload_n dX12_hears_55 3 rfl ?_
      refine bv_if_ne (tgt := 60) dX12_hears_56 (by decide) (fun cc => ?_) (fun cc => ?_)
      · replace h := bu_f h cc
        refine bv_aload_n dX12_hears_60 0 rfl ?_
        refine bv_iload_n dX12_hears_61 3 rfl ?_
        refine bv_iload_n dX12_hears_62 2 rfl ?_
        obtain ⟨v2, p3, h⟩ := bu_bd h
        refine bw_callV (As := [.int (I 166 (82 + x1).toNatClampNeg), .int x2]) hN okL_164 ⟨_, _, rfl⟩ dX12_hears_63 mc_12_319 (c_X12_orderBy (d := d + 0) hN hR p3) rfl rfl (by decide) ?_
        refine bv_istore (ls1 := [(0, .ref 164), (1, .int x1), (2, .int x2), (3, .int (I 166 (82 + x1).toNatClampNeg)), (4, .int v2)]) dX12_hears_66 (by decide) rfl rfl ?_
        refine bv_iload dX12_hears_68 4 rfl ?_
        refine bv_if_ge (tgt := 99) dX12_hears_70 (by decide) (fun cc => ?_) (fun cc => ?_)
        · replace h := bu_t h cc
          refine bv_aload_n dX12_hears_99 0 rfl ?_
          refine bz_getA (a := 166) hN okL_164 (hR _ _ _ r0_164_6) dX12_hears_100 fl_12_33 rfl ?_
          refine bv_bipush (v := 90) dX12_hears_103 (by decide) ?_
          refine bv_iload_n dX12_hears_105 1 rfl ?_
          refine bv_iadd dX12_hears_106 ?_
          refine bv_iload dX12_hears_107 4 rfl ?_
          refine bv_iconst (v := 1) dX12_hears_109 (by decide) ?_
          refine bv_iadd dX12_hears_110 ?_
          obtain ⟨r4, h⟩ := bu_ix h
          refine bz_iast hN rkL_166 r4 rfl dX12_hears_111 ?_
          refine bv_aload_n dX12_hears_112 0 rfl ?_
          refine bz_getA (a := 166) hN okL_164 (hR _ _ _ r0_164_6) dX12_hears_113 fl_12_33 rfl ?_
          refine bv_bipush (v := 65) dX12_hears_116 (by decide) ?_
          refine bv_dup2 dX12_hears_118 rfl rfl ?_
          refine bz_iald (j := 65) hN rkL_166 (bm_ix_in (by decide)) (by decide) dX12_hears_119 ?_
          refine bv_iconst (v := 1) dX12_hears_120 (by decide) ?_
          refine bv_iload_n dX12_hears_121 1 rfl ?_
          refine bv_ishl dX12_hears_122 ?_
          refine bv_ior dX12_hears_123 ?_
          refine bz_iast (j := 65) hN rkL_166 (bm_ix_in (by decide)) (by decide) dX12_hears_124 ?_
          obtain rfl := Option.some.inj h
          exact bv_vret dX12_hears_125 rfl ⟨rfl, rfl⟩
        · replace h := bu_f h cc
          refine bv_aload_n dX12_hears_73 0 rfl ?_
          refine bz_getA (a := 166) hN okL_164 (hR _ _ _ r0_164_6) dX12_hears_74 fl_12_33 rfl ?_
          refine bv_bipush (v := 98) dX12_hears_77 (by decide) ?_
          refine bv_iload_n dX12_hears_79 1 rfl ?_
          refine bv_iadd dX12_hears_80 ?_
          refine bv_bipush (v := 99) dX12_hears_81 (by decide) ?_
          refine bv_aload_n dX12_hears_83 0 rfl ?_
          refine bz_getA (a := 166) hN okL_164 (hR _ _ _ r0_164_6) dX12_hears_84 fl_12_33 rfl ?_
          refine bv_bipush (v := 98) dX12_hears_87 (by decide) ?_
          refine bv_iload_n dX12_hears_89 1 rfl ?_
          refine bv_iadd dX12_hears_90 ?_
          obtain ⟨r5, h⟩ := bu_ix h
          refine bz_iald hN rkL_166 r5 rfl dX12_hears_91 ?_
          refine bv_iconst (v := 1) dX12_hears_92 (by decide) ?_
          refine bv_iadd dX12_hears_93 ?_
          refine bw_callS (As := [.int 99, .int (((bm_uI I 166 ((82 + x1).toNatClampNeg) 0) 166 (98 + x1).toNatClampNeg) + 1)]) dX12_hears_94 mc_12_279 (c_X12_lesser (d := d + 0) hN hR rfl) rfl rfl (Nat.le_of_ble_eq_true rfl) ?_
          refine bz_iast hN rkL_166 r5 rfl dX12_hears_97 ?_
          obtain rfl := Option.some.inj h
          exact bv_vret dX12_hears_98 rfl ⟨rfl, rfl⟩
      · replace h := bu_t h cc
        obtain rfl := Option.some.inj h
        exact bv_vret dX12_hears_59 rfl ⟨rfl, rfl⟩
    · replace h := bu_t h cc
      refine bv_iload_n dX12_hears_49 2 rfl ?_
      refine bv_goto (tgt := 54) dX12_hears_50 (by decide) ?_
      refine bz_iast hN rkL_166 r1 rfl dX12_hears_54 ?_
      refine bv_iload_n dX12_hears_55 3 rfl ?_
      refine bv_if_ne (tgt := 60) dX12_hears_56 (by decide) (fun cc => ?_) (fun cc => ?_)
      · replace h := bu_f h cc
        refine bv_aload_n dX12_hears_60 0 rfl ?_
        refine bv_iload_n dX12_hears_61 3 rfl ?_
        refine bv_iload_n dX12_hears_62 2 rfl ?_
        obtain ⟨v6, p7, h⟩ := bu_bd h
        refine bw_callV (As := [.int (I 166 (82 + x1).toNatClampNeg), .int x2]) hN okL_164 ⟨_, _, rfl⟩ dX12_hears_63 mc_12_319 (c_X12_orderBy (d := d + 0) hN hR p7) rfl rfl (by decide) ?_
        refine bv_istore (ls1 := [(0, .ref 164), (1, .int x1), (2, .int x2), (3, .int (I 166 (82 + x1).toNatClampNeg)), (4, .int v6)]) dX12_hears_66 (by decide) rfl rfl ?_
        refine bv_iload dX12_hears_68 4 rfl ?_
        refine bv_if_ge (tgt := 99) dX12_hears_70 (by decide) (fun cc => ?_) (fun cc => ?_)
        · replace h := bu_t h cc
          refine bv_aload_n dX12_hears_99 0 rfl ?_
          refine bz_getA (a := 166) hN okL_164 (hR _ _ _ r0_164_6) dX12_hears_100 fl_12_33 rfl ?_
          refine bv_bipush (v := 90) dX12_hears_103 (by decide) ?_
          refine bv_iload_n dX12_hears_105 1 rfl ?_
          refine bv_iadd dX12_hears_106 ?_
          refine bv_iload dX12_hears_107 4 rfl ?_
          refine bv_iconst (v := 1) dX12_hears_109 (by decide) ?_
          refine bv_iadd dX12_hears_110 ?_
          obtain ⟨r8, h⟩ := bu_ix h
          refine bz_iast hN rkL_166 r8 rfl dX12_hears_111 ?_
          refine bv_aload_n dX12_hears_112 0 rfl ?_
          refine bz_getA (a := 166) hN okL_164 (hR _ _ _ r0_164_6) dX12_hears_113 fl_12_33 rfl ?_
          refine bv_bipush (v := 65) dX12_hears_116 (by decide) ?_
          refine bv_dup2 dX12_hears_118 rfl rfl ?_
          refine bz_iald (j := 65) hN rkL_166 (bm_ix_in (by decide)) (by decide) dX12_hears_119 ?_
          refine bv_iconst (v := 1) dX12_hears_120 (by decide) ?_
          refine bv_iload_n dX12_hears_121 1 rfl ?_
          refine bv_ishl dX12_hears_122 ?_
          refine bv_ior dX12_hears_123 ?_
          refine bz_iast (j := 65) hN rkL_166 (bm_ix_in (by decide)) (by decide) dX12_hears_124 ?_
          obtain rfl := Option.some.inj h
          exact bv_vret dX12_hears_125 rfl ⟨rfl, rfl⟩
        · replace h := bu_f h cc
          refine bv_aload_n dX12_hears_73 0 rfl ?_
          refine bz_getA (a := 166) hN okL_164 (hR _ _ _ r0_164_6) dX12_hears_74 fl_12_33 rfl ?_
          refine bv_bipush (v := 98) dX12_hears_77 (by decide) ?_
          refine bv_iload_n dX12_hears_79 1 rfl ?_
          refine bv_iadd dX12_hears_80 ?_
          refine bv_bipush (v := 99) dX12_hears_81 (by decide) ?_
          refine bv_aload_n dX12_hears_83 0 rfl ?_
          refine bz_getA (a := 166) hN okL_164 (hR _ _ _ r0_164_6) dX12_hears_84 fl_12_33 rfl ?_
          refine bv_bipush (v := 98) dX12_hears_87 (by decide) ?_
          refine bv_iload_n dX12_hears_89 1 rfl ?_
          refine bv_iadd dX12_hears_90 ?_
          obtain ⟨r9, h⟩ := bu_ix h
          refine bz_iald hN rkL_166 r9 rfl dX12_hears_91 ?_
          refine bv_iconst (v := 1) dX12_hears_92 (by decide) ?_
          refine bv_iadd dX12_hears_93 ?_
          refine bw_callS (As := [.int 99, .int (((bm_uI I 166 ((82 + x1).toNatClampNeg) x2) 166 (98 + x1).toNatClampNeg) + 1)]) dX12_hears_94 mc_12_279 (c_X12_lesser (d := d + 0) hN hR rfl) rfl rfl (Nat.le_of_ble_eq_true rfl) ?_
          refine bz_iast hN rkL_166 r9 rfl dX12_hears_97 ?_
          obtain rfl := Option.some.inj h
          exact bv_vret dX12_hears_98 rfl ⟨rfl, rfl⟩
      · replace h := bu_t h cc
        obtain rfl := Option.some.inj h
        exact bv_vret dX12_hears_59 rfl ⟨rfl, rfl⟩
  · replace h := bu_bt h cc
    refine bv_aload_n dX12_hears_14 0 rfl ?_
    refine bz_getA (a := 166) hN okL_164 (hR _ _ _ r0_164_6) dX12_hears_15 fl_12_33 rfl ?_
    refine bv_bipush (v := 90) dX12_hears_18 (by decide) ?_
    refine bv_iload_n dX12_hears_20 1 rfl ?_
    refine bv_iadd dX12_hears_21 ?_
    obtain ⟨r10, h⟩ := bu_ix h
    refine bz_iald hN rkL_166 r10 rfl dX12_hears_22 ?_
    refine bv_if_le (tgt := 27) dX12_hears_23 (by decide) (fun cc => ?_) (fun cc => ?_)
    · replace h := bu_t h cc
      refine bv_aload_n dX12_hears_27 0 rfl ?_
      refine bz_getA (a := 166) hN okL_164 (hR _ _ _ r0_164_6) dX12_hears_28 fl_12_33 rfl ?_
      refine bv_bipush (v := 82) dX12_hears_31 (by decide) ?_
      refine bv_iload_n dX12_hears_33 1 rfl ?_
      refine bv_iadd dX12_hears_34 ?_
      obtain ⟨r11, h⟩ := bu_ix h
      refine bz_iald hN rkL_166 r11 rfl dX12_hears_35 ?_
      refine bv_istore_n (ls1 := [(0, .ref 164), (1, .int x1), (2, .int x2), (3, .int (I 166 (82 + x1).toNatClampNeg))]) dX12_hears_36 (by decide) rfl rfl ?_
      refine bv_aload_n dX12_hears_37 0 rfl ?_
      refine bz_getA (a := 166) hN okL_164 (hR _ _ _ r0_164_6) dX12_hears_38 fl_12_33 rfl ?_
      refine bv_bipush (v := 82) dX12_hears_41 (by decide) ?_
      refine bv_iload_n dX12_hears_43 1 rfl ?_
      refine bv_iadd dX12_hears_44 ?_
      refine bv_iload_n dX12_hears_45 3 rfl ?_
      refine bv_if_ne (tgt := 53) dX12_hears_46 (by decide) (fun cc => ?_) (fun cc => ?_)
      · replace h := bu_f h cc
        refine bv_iconst (v := 0) dX12_hears_53 (by decide) ?_
        refine bz_iast hN rkL_166 r11 rfl dX12_hears_54 ?_
        refine bv_iload_n dX12_hears_55 3 rfl ?_
        refine bv_if_ne (tgt := 60) dX12_hears_56 (by decide) (fun cc => ?_) (fun cc => ?_)
        · replace h := bu_f h cc
          refine bv_aload_n dX12_hears_60 0 rfl ?_
          refine bv_iload_n dX12_hears_61 3 rfl ?_
          refine bv_iload_n dX12_hears_62 2 rfl ?_
          obtain ⟨v12, p13, h⟩ := bu_bd h
          refine bw_callV (As := [.int (I 166 (82 + x1).toNatClampNeg), .int x2]) hN okL_164 ⟨_, _, rfl⟩ dX12_hears_63 mc_12_319 (c_X12_orderBy (d := d + 0) hN hR p13) rfl rfl (by decide) ?_
          refine bv_istore (ls1 := [(0, .ref 164), (1, .int x1), (2, .int x2), (3, .int (I 166 (82 + x1).toNatClampNeg)), (4, .int v12)]) dX12_hears_66 (by decide) rfl rfl ?_
          refine bv_iload dX12_hears_68 4 rfl ?_
          refine bv_if_ge (tgt := 99) dX12_hears_70 (by decide) (fun cc => ?_) (fun cc => ?_)
          · replace h := bu_t h cc
            refine bv_aload_n dX12_hears_99 0 rfl ?_
            refine bz_getA (a := 166) hN okL_164 (hR _ _ _ r0_164_6) dX12_hears_100 fl_12_33 rfl ?_
            refine bv_bipush (v := 90) dX12_hears_103 (by decide) ?_
            refine bv_iload_n dX12_hears_105 1 rfl ?_
            refine bv_iadd dX12_hears_106 ?_
            refine bv_iload dX12_hears_107 4 rfl ?_
            refine bv_iconst (v := 1) dX12_hears_109 (by decide) ?_
            refine bv_iadd dX12_hears_110 ?_
            refine bz_iast hN rkL_166 r10 rfl dX12_hears_111 ?_
            refine bv_aload_n dX12_hears_112 0 rfl ?_
            refine bz_getA (a := 166) hN okL_164 (hR _ _ _ r0_164_6) dX12_hears_113 fl_12_33 rfl ?_
            refine bv_bipush (v := 65) dX12_hears_116 (by decide) ?_
            refine bv_dup2 dX12_hears_118 rfl rfl ?_
            refine bz_iald (j := 65) hN rkL_166 (bm_ix_in (by decide)) (by decide) dX12_hears_119 ?_
            refine bv_iconst (v := 1) dX12_hears_120 (by decide) ?_
            refine bv_iload_n dX12_hears_121 1 rfl ?_
            refine bv_ishl dX12_hears_122 ?_
            refine bv_ior dX12_hears_123 ?_
            refine bz_iast (j := 65) hN rkL_166 (bm_ix_in (by decide)) (by decide) dX12_hears_124 ?_
            obtain rfl := Option.some.inj h
            exact bv_vret dX12_hears_125 rfl ⟨rfl, rfl⟩
          · replace h := bu_f h cc
            refine bv_aload_n dX12_hears_73 0 rfl ?_
            refine bz_getA (a := 166) hN okL_164 (hR _ _ _ r0_164_6) dX12_hears_74 fl_12_33 rfl ?_
            refine bv_bipush (v := 98) dX12_hears_77 (by decide) ?_
            refine bv_iload_n dX12_hears_79 1 rfl ?_
            refine bv_iadd dX12_hears_80 ?_
            refine bv_bipush (v := 99) dX12_hears_81 (by decide) ?_
            refine bv_aload_n dX12_hears_83 0 rfl ?_
            refine bz_getA (a := 166) hN okL_164 (hR _ _ _ r0_164_6) dX12_hears_84 fl_12_33 rfl ?_
            refine bv_bipush (v := 98) dX12_hears_87 (by decide) ?_
            refine bv_iload_n dX12_hears_89 1 rfl ?_
            refine bv_iadd dX12_hears_90 ?_
            obtain ⟨r14, h⟩ := bu_ix h
            refine bz_iald hN rkL_166 r14 rfl dX12_hears_91 ?_
            refine bv_iconst (v := 1) dX12_hears_92 (by decide) ?_
            refine bv_iadd dX12_hears_93 ?_
            refine bw_callS (As := [.int 99, .int (((bm_uI I 166 ((82 + x1).toNatClampNeg) 0) 166 (98 + x1).toNatClampNeg) + 1)]) dX12_hears_94 mc_12_279 (c_X12_lesser (d := d + 0) hN hR rfl) rfl rfl (Nat.le_of_ble_eq_true rfl) ?_
            refine bz_iast hN rkL_166 r14 rfl dX12_hears_97 ?_
            obtain rfl := Option.some.inj h
            exact bv_vret dX12_hears_98 rfl ⟨rfl, rfl⟩
        · replace h := bu_t h cc
          obtain rfl := Option.some.inj h
          exact bv_vret dX12_hears_59 rfl ⟨rfl, rfl⟩
      · replace h := bu_t h cc
        refine bv_iload_n dX12_hears_49 2 rfl ?_
        refine bv_goto (tgt := 54) dX12_hears_50 (by decide) ?_
        refine bz_iast hN rkL_166 r11 rfl dX12_hears_54 ?_
        refine bv_iload_n dX12_hears_55 3 rfl ?_
        refine bv_if_ne (tgt := 60) dX12_hears_56 (by decide) (fun cc => ?_) (fun cc => ?_)
        · replace h := bu_f h cc
          refine bv_aload_n dX12_hears_60 0 rfl ?_
          refine bv_iload_n dX12_hears_61 3 rfl ?_
          refine bv_iload_n dX12_hears_62 2 rfl ?_
          obtain ⟨v15, p16, h⟩ := bu_bd h
          refine bw_callV (As := [.int (I 166 (82 + x1).toNatClampNeg), .int x2]) hN okL_164 ⟨_, _, rfl⟩ dX12_hears_63 mc_12_319 (c_X12_orderBy (d := d + 0) hN hR p16) rfl rfl (by decide) ?_
          refine bv_istore (ls1 := [(0, .ref 164), (1, .int x1), (2, .int x2), (3, .int (I 166 (82 + x1).toNatClampNeg)), (4, .int v15)]) dX12_hears_66 (by decide) rfl rfl ?_
          refine bv_iload dX12_hears_68 4 rfl ?_
          refine bv_if_ge (tgt := 99) dX12_hears_70 (by decide) (fun cc => ?_) (fun cc => ?_)
          · replace h := bu_t h cc
            refine bv_aload_n dX12_hears_99 0 rfl ?_
            refine bz_getA (a := 166) hN okL_164 (hR _ _ _ r0_164_6) dX12_hears_100 fl_12_33 rfl ?_
            refine bv_bipush (v := 90) dX12_hears_103 (by decide) ?_
            refine bv_iload_n dX12_hears_105 1 rfl ?_
            refine bv_iadd dX12_hears_106 ?_
            refine bv_iload dX12_hears_107 4 rfl ?_
            refine bv_iconst (v := 1) dX12_hears_109 (by decide) ?_
            refine bv_iadd dX12_hears_110 ?_
            refine bz_iast hN rkL_166 r10 rfl dX12_hears_111 ?_
            refine bv_aload_n dX12_hears_112 0 rfl ?_
            refine bz_getA (a := 166) hN okL_164 (hR _ _ _ r0_164_6) dX12_hears_113 fl_12_33 rfl ?_
            refine bv_bipush (v := 65) dX12_hears_116 (by decide) ?_
            refine bv_dup2 dX12_hears_118 rfl rfl ?_
            refine bz_iald (j := 65) hN rkL_166 (bm_ix_in (by decide)) (by decide) dX12_hears_119 ?_
            refine bv_iconst (v := 1) dX12_hears_120 (by decide) ?_
            refine bv_iload_n dX12_hears_121 1 rfl ?_
            refine bv_ishl dX12_hears_122 ?_
            refine bv_ior dX12_hears_123 ?_
            refine bz_iast (j := 65) hN rkL_166 (bm_ix_in (by decide)) (by decide) dX12_hears_124 ?_
            obtain rfl := Option.some.inj h
            exact bv_vret dX12_hears_125 rfl ⟨rfl, rfl⟩
          · replace h := bu_f h cc
            refine bv_aload_n dX12_hears_73 0 rfl ?_
            refine bz_getA (a := 166) hN okL_164 (hR _ _ _ r0_164_6) dX12_hears_74 fl_12_33 rfl ?_
            refine bv_bipush (v := 98) dX12_hears_77 (by decide) ?_
            refine bv_iload_n dX12_hears_79 1 rfl ?_
            refine bv_iadd dX12_hears_80 ?_
            refine bv_bipush (v := 99) dX12_hears_81 (by decide) ?_
            refine bv_aload_n dX12_hears_83 0 rfl ?_
            refine bz_getA (a := 166) hN okL_164 (hR _ _ _ r0_164_6) dX12_hears_84 fl_12_33 rfl ?_
            refine bv_bipush (v := 98) dX12_hears_87 (by decide) ?_
            refine bv_iload_n dX12_hears_89 1 rfl ?_
            refine bv_iadd dX12_hears_90 ?_
            obtain ⟨r17, h⟩ := bu_ix h
            refine bz_iald hN rkL_166 r17 rfl dX12_hears_91 ?_
            refine bv_iconst (v := 1) dX12_hears_92 (by decide) ?_
            refine bv_iadd dX12_hears_93 ?_
            refine bw_callS (As := [.int 99, .int (((bm_uI I 166 ((82 + x1).toNatClampNeg) x2) 166 (98 + x1).toNatClampNeg) + 1)]) dX12_hears_94 mc_12_279 (c_X12_lesser (d := d + 0) hN hR rfl) rfl rfl (Nat.le_of_ble_eq_true rfl) ?_
            refine bz_iast hN rkL_166 r17 rfl dX12_hears_97 ?_
            obtain rfl := Option.some.inj h
            exact bv_vret dX12_hears_98 rfl ⟨rfl, rfl⟩
        · replace h := bu_t h cc
          obtain rfl := Option.some.inj h
          exact bv_vret dX12_hears_59 rfl ⟨rfl, rfl⟩
    · replace h := bu_f h cc
      obtain rfl := Option.some.inj h
      exact bv_vret dX12_hears_26 rfl ⟨rfl, rfl⟩
