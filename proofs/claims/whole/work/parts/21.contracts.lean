def f_X11_bit (x0 : Int32) (x1 : Int32) : Int32 := ((bm_ishr x0 x1) &&& 1)
set_option maxHeartbeats 4000000 in
set_option maxRecDepth 100000 in
theorem c_X11_bit {lc : bm_L} {d n : Nat} {I : bm_TI} {J : bm_TJ} {R W : bm_TR} {x0 : Int32} {x1 : Int32} {v : Int32} (hN : 181 ≤ n) (hR : bm_RR R) (h : f_X11_bit x0 x1 = v) : bm_C lc m_X11_bit d n n [.int x0, .int x1] (I, J, R, W) (fun r M' => r = some (.int v) ∧ M' = (I, J, R, W)) := by
  refine bm_C.ofV (by decide) (Nat.le_of_ble_eq_true rfl) ?_
  show bm_V lc m_X11_bit d n n n 0 [(0, .int x0), (1, .int x1)] [] (I, J, R, W) _
  unfold f_X11_bit at h
  refine bv_iload_n dX11_bit_0 0 rfl ?_
  refine bv_iload_n dX11_bit_1 1 rfl ?_
  refine bv_ishr dX11_bit_2 ?_
  refine bv_iconst (v := 1) dX11_bit_3 (by decide) ?_
  refine bv_iand dX11_bit_4 ?_
  subst h
  exact bv_iret (x := ((bm_ishr x0 x1) &&& 1)) dX11_bit_5 rfl ⟨rfl, rfl⟩
def f_X2_mostLeft_l17 (I : bm_TI) (x0 : Int32) (x1 : Nat) (x2 : Int32) (x3 : Int32) (x4 : Int32) : Nat → Int32 → Int32 → Option (Int32)
  | 0, _, _ => none
  | k + 1, x5, x6 => (if x2 ≤ x6 then some x5 else (if (f_X11_bit x0 x6) = 1 then (if bm_ix 7 x6 = true then (if (I x1 x6.toNatClampNeg) = x4 then f_X2_mostLeft_l17 I x0 x1 x2 x3 x4 k (x5 + 1) (x6 + 1) else f_X2_mostLeft_l17 I x0 x1 x2 x3 x4 k x5 (x6 + 1)) else none) else f_X2_mostLeft_l17 I x0 x1 x2 x3 x4 k x5 (x6 + 1)))
set_option maxHeartbeats 4000000 in
set_option maxRecDepth 100000 in
theorem v_X2_mostLeft_l17 {lc : bm_L} {d n : Nat} {Q : Option Value → bm_M → Prop} {R : bm_TR} {I : bm_TI} {J : bm_TJ} {W : bm_TR} {x0 : Int32} {x1 : Nat} {x2 : Int32} {x3 : Int32} {x4 : Int32} (hN : 181 ≤ n) (hR : bm_RR R) (q_1 : bm_RK x1 0 7) : ∀ (k : Nat) (x5 : Int32) (x6 : Int32) (r : Int32), f_X2_mostLeft_l17 I x0 x1 x2 x3 x4 k x5 x6 = some r → (∀ yy, yy = r → bm_V lc m_X2_mostLeft (d + 1) n n n 51 [(0, .int x0), (1, .ref x1), (2, .int x2), (3, .int x3), (4, .int x4), (5, .int yy)] [] (I, J, R, W) Q) → bm_V lc m_X2_mostLeft (d + 1) n n n 17 [(0, .int x0), (1, .ref x1), (2, .int x2), (3, .int x3), (4, .int x4), (5, .int x5), (6, .int x6)] [] (I, J, R, W) Q := by
  intro k
  induction k with
  | zero => intro x5 x6 r h; cases (show (none : Option (Int32)) = some r from h)
  | succ k ih =>
    intro x5 x6 r h K0
    unfold f_X2_mostLeft_l17 at h
    refine bv_iload dX2_mostLeft_17 6 rfl ?_
    refine bv_iload_n dX2_mostLeft_19 2 rfl ?_
    refine bv_icmp_ge (tgt := 51) dX2_mostLeft_20 (by decide) (fun cc => ?_) (fun cc => ?_)
    · replace h := bu_t h cc
      refine bw_ls (ls1 := [(0, .int x0), (1, .ref x1), (2, .int x2), (3, .int x3), (4, .int x4), (5, .int x5)]) [0, 1, 2, 3, 4, 5] rfl ?_
      obtain rfl := Option.some.inj h
      exact K0 _ rfl
    · replace h := bu_f h cc
      refine bv_iload_n dX2_mostLeft_23 0 rfl ?_
      refine bv_iload dX2_mostLeft_24 6 rfl ?_
      refine bw_callSN (As := [.int x0, .int x6]) dX2_mostLeft_26 mc_2_54 (c_X11_bit (d := d + 0) hN hR rfl) rfl rfl (by decide) ?_
      refine bv_iconst (v := 1) dX2_mostLeft_29 (by decide) ?_
      refine bv_icmp_ne (tgt := 45) dX2_mostLeft_30 (by decide) (fun cc => ?_) (fun cc => ?_)
      · replace h := bu_f h cc
        refine bv_iinc (j := 6) (v := (x6 + 1)) (ls1 := [(0, .int x0), (1, .ref x1), (2, .int x2), (3, .int x3), (4, .int x4), (5, .int x5), (6, .int (x6 + 1))]) dX2_mostLeft_45 rfl rfl (by decide) rfl rfl ?_
        refine bv_goto (tgt := 17) dX2_mostLeft_48 (by decide) ?_
        exact ih _ _ _ h K0
      · replace h := bu_t h cc
        refine bv_aload_n dX2_mostLeft_33 1 rfl ?_
        refine bv_iload dX2_mostLeft_34 6 rfl ?_
        obtain ⟨r1, h⟩ := bu_ix h
        refine bz_iald hN q_1 r1 rfl dX2_mostLeft_36 ?_
        refine bv_iload dX2_mostLeft_37 4 rfl ?_
        refine bv_icmp_ne (tgt := 45) dX2_mostLeft_39 (by decide) (fun cc => ?_) (fun cc => ?_)
        · replace h := bu_f h cc
          refine bv_iinc (j := 6) (v := (x6 + 1)) (ls1 := [(0, .int x0), (1, .ref x1), (2, .int x2), (3, .int x3), (4, .int x4), (5, .int x5), (6, .int (x6 + 1))]) dX2_mostLeft_45 rfl rfl (by decide) rfl rfl ?_
          refine bv_goto (tgt := 17) dX2_mostLeft_48 (by decide) ?_
          exact ih _ _ _ h K0
        · replace h := bu_t h cc
          refine bv_iinc (j := 5) (v := (x5 + 1)) (ls1 := [(0, .int x0), (1, .ref x1), (2, .int x2), (3, .int x3), (4, .int x4), (5, .int (x5 + 1)), (6, .int x6)]) dX2_mostLeft_42 rfl rfl (by decide) rfl rfl ?_
          refine bv_iinc (j := 6) (v := (x6 + 1)) (ls1 := [(0, .int x0), (1, .ref x1), (2, .int x2), (3, .int x3), (4, .int x4), (5, .int (x5 + 1)), (6, .int (x6 + 1))]) dX2_mostLeft_45 rfl rfl (by decide) rfl rfl ?_
          refine bv_goto (tgt := 17) dX2_mostLeft_48 (by decide) ?_
          exact ih _ _ _ h K0
def f_X2_mostLeft_l5 (I : bm_TI) (x0 : Int32) (x1 : Nat) (x2 : Int32) : Nat → Int32 → Int32 → Option (Int32)
  | 0, _, _ => none
  | k + 1, x3, x4 => (if 3 < x4 then some x3 else ((f_X2_mostLeft_l17 I x0 x1 x2 x3 x4 1000 0 0).bind fun y3 => f_X2_mostLeft_l5 I x0 x1 x2 k (bm_max x3 y3) (x4 + 1)))
set_option maxHeartbeats 4000000 in
set_option maxRecDepth 100000 in
theorem v_X2_mostLeft_l5 {lc : bm_L} {d n : Nat} {Q : Option Value → bm_M → Prop} {R : bm_TR} {I : bm_TI} {J : bm_TJ} {W : bm_TR} {x0 : Int32} {x1 : Nat} {x2 : Int32} (hN : 181 ≤ n) (hR : bm_RR R) (q_1 : bm_RK x1 0 7) : ∀ (k : Nat) (x3 : Int32) (x4 : Int32) (r : Int32), f_X2_mostLeft_l5 I x0 x1 x2 k x3 x4 = some r → (∀ yy, yy = r → bm_V lc m_X2_mostLeft (d + 1) n n n 64 [(3, .int yy)] [] (I, J, R, W) Q) → bm_V lc m_X2_mostLeft (d + 1) n n n 5 [(0, .int x0), (1, .ref x1), (2, .int x2), (3, .int x3), (4, .int x4)] [] (I, J, R, W) Q := by
  intro k
  induction k with
  | zero => intro x3 x4 r h; cases (show (none : Option (Int32)) = some r from h)
  | succ k ih =>
    intro x3 x4 r h K0
    unfold f_X2_mostLeft_l5 at h
    refine bv_iload dX2_mostLeft_5 4 rfl ?_
    refine bv_iconst (v := 3) dX2_mostLeft_7 (by decide) ?_
    refine bv_icmp_gt (tgt := 64) dX2_mostLeft_8 (by decide) (fun cc => ?_) (fun cc => ?_)
    · replace h := bu_t h cc
      refine bw_ls (ls1 := [(3, .int x3)]) [3] rfl ?_
      obtain rfl := Option.some.inj h
      exact K0 _ rfl
    · replace h := bu_f h cc
      refine bv_iconst (v := 0) dX2_mostLeft_11 (by decide) ?_
      refine bv_istore (ls1 := [(0, .int x0), (1, .ref x1), (2, .int x2), (3, .int x3), (4, .int x4), (5, .int 0)]) dX2_mostLeft_12 (by decide) rfl rfl ?_
      refine bv_iconst (v := 0) dX2_mostLeft_14 (by decide) ?_
      refine bv_istore (ls1 := [(0, .int x0), (1, .ref x1), (2, .int x2), (3, .int x3), (4, .int x4), (5, .int 0), (6, .int 0)]) dX2_mostLeft_15 (by decide) rfl rfl ?_
      obtain ⟨r1, p2, h⟩ := bu_bd h
      refine v_X2_mostLeft_l17 hN hR q_1 1000 _ _ _ p2 (fun y3 hy => ?_)
      · subst hy
        refine bv_iload_n dX2_mostLeft_51 3 rfl ?_
        refine bv_iload dX2_mostLeft_52 5 rfl ?_
        refine bv_mmax dX2_mostLeft_54 mw_2_58 (by decide) (Nat.le_refl n) ?_
        refine bv_istore_n (ls1 := [(0, .int x0), (1, .ref x1), (2, .int x2), (3, .int (bm_max x3 y3)), (4, .int x4), (5, .int y3)]) dX2_mostLeft_57 (by decide) rfl rfl ?_
        refine bv_iinc (j := 4) (v := (x4 + 1)) (ls1 := [(0, .int x0), (1, .ref x1), (2, .int x2), (3, .int (bm_max x3 y3)), (4, .int (x4 + 1)), (5, .int y3)]) dX2_mostLeft_58 rfl rfl (by decide) rfl rfl ?_
        refine bv_goto (tgt := 5) dX2_mostLeft_61 (by decide) ?_
        refine bw_ls (ls1 := [(0, .int x0), (1, .ref x1), (2, .int x2), (3, .int (bm_max x3 y3)), (4, .int (x4 + 1))]) [0, 1, 2, 3, 4] rfl ?_
        exact ih _ _ _ h K0
def f_X2_mostLeft (I : bm_TI) (x0 : Int32) (x1 : Nat) (x2 : Int32) : Option (Int32) := ((f_X2_mostLeft_l5 I x0 x1 x2 1000 0 1).bind fun y3 => some y3)
set_option maxHeartbeats 4000000 in
set_option maxRecDepth 100000 in
theorem c_X2_mostLeft {lc : bm_L} {d n : Nat} {I : bm_TI} {J : bm_TJ} {R W : bm_TR} {x0 : Int32} {x1 : Nat} {x2 : Int32} {v : Int32} (hN : 181 ≤ n) (hR : bm_RR R) (q_1 : bm_RK x1 0 7) (h : f_X2_mostLeft I x0 x1 x2 = some v) : bm_C lc m_X2_mostLeft (d + 1) n n [.int x0, .ref x1, .int x2] (I, J, R, W) (fun r M' => r = some (.int v) ∧ M' = (I, J, R, W)) := by
  refine bm_C.ofV (by decide) (Nat.le_of_ble_eq_true rfl) ?_
  show bm_V lc m_X2_mostLeft (d + 1) n n n 0 [(0, .int x0), (1, .ref x1), (2, .int x2)] [] (I, J, R, W) _
  unfold f_X2_mostLeft at h
  refine bv_iconst (v := 0) dX2_mostLeft_0 (by decide) ?_
  refine bv_istore_n (ls1 := [(0, .int x0), (1, .ref x1), (2, .int x2), (3, .int 0)]) dX2_mostLeft_1 (by decide) rfl rfl ?_
  refine bv_iconst (v := 1) dX2_mostLeft_2 (by decide) ?_
  refine bv_istore (ls1 := [(0, .int x0), (1, .ref x1), (2, .int x2), (3, .int 0), (4, .int 1)]) dX2_mostLeft_3 (by decide) rfl rfl ?_
  obtain ⟨r1, p2, h⟩ := bu_bd h
  refine v_X2_mostLeft_l5 hN hR q_1 1000 _ _ _ p2 (fun y3 hy => ?_)
  · subst hy
    refine bv_iload_n dX2_mostLeft_64 0 rfl ?_
    obtain rfl := Option.some.inj h
    exact bv_iret (x := y3) dX2_mostLeft_65 rfl ⟨rfl, rfl⟩
def f_X2_weigh_l29 (I : bm_TI) : Nat → Int32 → Int32 → Int32 → Option (Int32 × Int32)
  | 0, _, _, _ => none
  | k + 1, x3, x4, x5 => (if (I 4 13) ≤ x5 then some (x3, x4) else (if bm_ix 7 x5 = true then ((f_X2_countWrong I (I 11 x5.toNatClampNeg) (I 12 x5.toNatClampNeg)).bind fun v2 => (if x4 ≤ v2 then (if v2 = x4 then f_X2_weigh_l29 I k (x3 ||| (bm_ishl 1 x5)) x4 (x5 + 1) else f_X2_weigh_l29 I k x3 x4 (x5 + 1)) else (if v2 = v2 then f_X2_weigh_l29 I k (0 ||| (bm_ishl 1 x5)) v2 (x5 + 1) else f_X2_weigh_l29 I k 0 v2 (x5 + 1)))) else none))
set_option maxHeartbeats 4000000 in
set_option maxRecDepth 100000 in
theorem v_X2_weigh_l29 {lc : bm_L} {d n : Nat} {Q : Option Value → bm_M → Prop} {R : bm_TR} {I : bm_TI} {J : bm_TJ} {W : bm_TR} (hN : 181 ≤ n) (hR : bm_RR R) : ∀ (k : Nat) (x3 : Int32) (x4 : Int32) (x5 : Int32) (r : Int32 × Int32), f_X2_weigh_l29 I k x3 x4 x5 = some r → (∀ yy, yy = r → bm_V lc m_X2_weigh (d + 2) n n n 91 [(0, .ref 161), (2, .ref 4), (3, .int yy.1), (4, .int yy.2)] [] (I, J, R, W) Q) → bm_V lc m_X2_weigh (d + 2) n n n 29 [(0, .ref 161), (1, .ref 1), (2, .ref 4), (3, .int x3), (4, .int x4), (5, .int x5)] [] (I, J, R, W) Q := by
  intro k
  induction k with
  | zero => intro x3 x4 x5 r h; cases (show (none : Option (Int32 × Int32)) = some r from h)
  | succ k ih =>
    intro x3 x4 x5 r h K0
    unfold f_X2_weigh_l29 at h
    refine bv_iload dX2_weigh_29 5 rfl ?_
    refine bv_aload_n dX2_weigh_31 2 rfl ?_
    refine bz_getI hN okL_4 dX2_weigh_32 fl_2_18 rfl ?_
    refine bv_icmp_ge (tgt := 91) dX2_weigh_35 (by decide) (fun cc => ?_) (fun cc => ?_)
    · replace h := bu_t h cc
      refine bw_ls (ls1 := [(0, .ref 161), (2, .ref 4), (3, .int x3), (4, .int x4)]) [0, 2, 3, 4] rfl ?_
      obtain rfl := Option.some.inj h
      exact K0 _ rfl
    · replace h := bu_f h cc
      refine bv_aload_n dX2_weigh_38 1 rfl ?_
      refine bv_aload_n dX2_weigh_39 2 rfl ?_
      refine bz_getA (a := 11) hN okL_4 (hR _ _ _ r0_4_6) dX2_weigh_40 fl_2_32 rfl ?_
      refine bv_iload dX2_weigh_43 5 rfl ?_
      obtain ⟨r1, h⟩ := bu_ix h
      refine bz_iald hN rkL_11 r1 rfl dX2_weigh_45 ?_
      refine bv_aload_n dX2_weigh_46 2 rfl ?_
      refine bz_getA (a := 12) hN okL_4 (hR _ _ _ r0_4_7) dX2_weigh_47 fl_2_36 rfl ?_
      refine bv_iload dX2_weigh_50 5 rfl ?_
      refine bz_iald hN rkL_12 r1 rfl dX2_weigh_52 ?_
      obtain ⟨v2, p3, h⟩ := bu_bd h
      refine bw_callS (As := [.ref 1, .int (I 11 x5.toNatClampNeg), .int (I 12 x5.toNatClampNeg)]) dX2_weigh_53 mc_2_39 (c_X2_countWrong (d := d + 1) hN hR p3) rfl rfl (by decide) ?_
      refine bv_istore (ls1 := [(0, .ref 161), (1, .ref 1), (2, .ref 4), (3, .int x3), (4, .int x4), (5, .int x5), (6, .int v2)]) dX2_weigh_56 (by decide) rfl rfl ?_
      refine bv_iload dX2_weigh_58 6 rfl ?_
      refine bv_iload dX2_weigh_60 4 rfl ?_
      refine bv_icmp_ge (tgt := 71) dX2_weigh_62 (by decide) (fun cc => ?_) (fun cc => ?_)
      · replace h := bu_t h cc
        refine bv_iload dX2_weigh_71 6 rfl ?_
        refine bv_iload dX2_weigh_73 4 rfl ?_
        refine bv_icmp_ne (tgt := 85) dX2_weigh_75 (by decide) (fun cc => ?_) (fun cc => ?_)
        · replace h := bu_f h cc
          refine bv_iinc (j := 5) (v := (x5 + 1)) (ls1 := [(0, .ref 161), (1, .ref 1), (2, .ref 4), (3, .int x3), (4, .int x4), (5, .int (x5 + 1)), (6, .int v2)]) dX2_weigh_85 rfl rfl (by decide) rfl rfl ?_
          refine bv_goto (tgt := 29) dX2_weigh_88 (by decide) ?_
          refine bw_ls (ls1 := [(0, .ref 161), (1, .ref 1), (2, .ref 4), (3, .int x3), (4, .int x4), (5, .int (x5 + 1))]) [0, 1, 2, 3, 4, 5] rfl ?_
          exact ih _ _ _ _ h K0
        · replace h := bu_t h cc
          refine bv_iload_n dX2_weigh_78 3 rfl ?_
          refine bv_iconst (v := 1) dX2_weigh_79 (by decide) ?_
          refine bv_iload dX2_weigh_80 5 rfl ?_
          refine bv_ishl dX2_weigh_82 ?_
          refine bv_ior dX2_weigh_83 ?_
          refine bv_istore_n (ls1 := [(0, .ref 161), (1, .ref 1), (2, .ref 4), (3, .int (x3 ||| (bm_ishl 1 x5))), (4, .int x4), (5, .int x5), (6, .int v2)]) dX2_weigh_84 (by decide) rfl rfl ?_
          refine bv_iinc (j := 5) (v := (x5 + 1)) (ls1 := [(0, .ref 161), (1, .ref 1), (2, .ref 4), (3, .int (x3 ||| (bm_ishl 1 x5))), (4, .int x4), (5, .int (x5 + 1)), (6, .int v2)]) dX2_weigh_85 rfl rfl (by decide) rfl rfl ?_
          refine bv_goto (tgt := 29) dX2_weigh_88 (by decide) ?_
          refine bw_ls (ls1 := [(0, .ref 161), (1, .ref 1), (2, .ref 4), (3, .int (x3 ||| (bm_ishl 1 x5))), (4, .int x4), (5, .int (x5 + 1))]) [0, 1, 2, 3, 4, 5] rfl ?_
          exact ih _ _ _ _ h K0
      · replace h := bu_f h cc
        refine bv_iload dX2_weigh_65 6 rfl ?_
        refine bv_istore (ls1 := [(0, .ref 161), (1, .ref 1), (2, .ref 4), (3, .int x3), (4, .int v2), (5, .int x5), (6, .int v2)]) dX2_weigh_67 (by decide) rfl rfl ?_
        refine bv_iconst (v := 0) dX2_weigh_69 (by decide) ?_
        refine bv_istore_n (ls1 := [(0, .ref 161), (1, .ref 1), (2, .ref 4), (3, .int 0), (4, .int v2), (5, .int x5), (6, .int v2)]) dX2_weigh_70 (by decide) rfl rfl ?_
        refine bv_iload dX2_weigh_71 6 rfl ?_
        refine bv_iload dX2_weigh_73 4 rfl ?_
        refine bv_icmp_ne (tgt := 85) dX2_weigh_75 (by decide) (fun cc => ?_) (fun cc => ?_)
        · replace h := bu_f h cc
          refine bv_iinc (j := 5) (v := (x5 + 1)) (ls1 := [(0, .ref 161), (1, .ref 1), (2, .ref 4), (3, .int 0), (4, .int v2), (5, .int (x5 + 1)), (6, .int v2)]) dX2_weigh_85 rfl rfl (by decide) rfl rfl ?_
          refine bv_goto (tgt := 29) dX2_weigh_88 (by decide) ?_
          refine bw_ls (ls1 := [(0, .ref 161), (1, .ref 1), (2, .ref 4), (3, .int 0), (4, .int v2), (5, .int (x5 + 1))]) [0, 1, 2, 3, 4, 5] rfl ?_
          exact ih _ _ _ _ h K0
        · replace h := bu_t h cc
          refine bv_iload_n dX2_weigh_78 3 rfl ?_
          refine bv_iconst (v := 1) dX2_weigh_79 (by decide) ?_
          refine bv_iload dX2_weigh_80 5 rfl ?_
          refine bv_ishl dX2_weigh_82 ?_
          refine bv_ior dX2_weigh_83 ?_
          refine bv_istore_n (ls1 := [(0, .ref 161), (1, .ref 1), (2, .ref 4), (3, .int (0 ||| (bm_ishl 1 x5))), (4, .int v2), (5, .int x5), (6, .int v2)]) dX2_weigh_84 (by decide) rfl rfl ?_
          refine bv_iinc (j := 5) (v := (x5 + 1)) (ls1 := [(0, .ref 161), (1, .ref 1), (2, .ref 4), (3, .int (0 ||| (bm_ishl 1 x5))), (4, .int v2), (5, .int (x5 + 1)), (6, .int v2)]) dX2_weigh_85 rfl rfl (by decide) rfl rfl ?_
          refine bv_goto (tgt := 29) dX2_weigh_88 (by decide) ?_
          refine bw_ls (ls1 := [(0, .ref 161), (1, .ref 1), (2, .ref 4), (3, .int (0 ||| (bm_ishl 1 x5))), (4, .int v2), (5, .int (x5 + 1))]) [0, 1, 2, 3, 4, 5] rfl ?_
          exact ih _ _ _ _ h K0
def f_X2_weigh (I : bm_TI) : Option (Int32 × bm_TI) := (if (I 4 13) = 0 then some ((-1), I) else ((f_X2_isAsTold I).bind fun v1 => (if v1 = true then ((f_X2_weigh_l29 I 1000 0 ((I 1 1) + 1) 0).bind fun y5 => ((f_X2_mostLeft (bm_uI I 161 0 y5.2) y5.1 12 ((bm_uI I 161 0 y5.2) 4 13)).bind fun v6 => ((f_X2_mostLeft (bm_uI I 161 0 y5.2) y5.1 11 ((bm_uI I 161 0 y5.2) 4 13)).bind fun v8 => (if v8 ≤ v6 then some (y5.1, (bm_uI (bm_uI I 161 0 y5.2) 161 1 0)) else some (y5.1, (bm_uI (bm_uI I 161 0 y5.2) 161 1 1)))))) else some ((-1), I))))
set_option maxHeartbeats 4000000 in
set_option maxRecDepth 100000 in
theorem c_X2_weigh {lc : bm_L} {d n : Nat} {I : bm_TI} {J : bm_TJ} {R W : bm_TR} {v : Int32 × bm_TI} (hN : 181 ≤ n) (hR : bm_RR R) (h : f_X2_weigh I = some v) : bm_C lc m_X2_weigh (d + 2) n n [.ref 161, .ref 1, .ref 4] (I, J, R, W) (fun r M' => r = some (.int v.1) ∧ M' = (v.2, J, R, W)) := by
  refine bm_C.ofV (by decide) (Nat.le_of_ble_eq_true rfl) ?_
  show bm_V lc m_X2_weigh (d + 2) n n n 0 [(0, .ref 161), (1, .ref 1), (2, .ref 4)] [] (I, J, R, W) _
  unfold f_X2_weigh at h
  refine bv_aload_n dX2_weigh_0 2 rfl ?_
  refine bz_getI hN okL_4 dX2_weigh_1 fl_2_18 rfl ?_
  refine bv_if_eq (tgt := 14) dX2_weigh_4 (by decide) (fun cc => ?_) (fun cc => ?_)
  · replace h := bu_t h cc
    refine bv_iconst (v := (-1)) dX2_weigh_14 (by decide) ?_
    obtain rfl := Option.some.inj h
    exact bv_iret (x := (-1)) dX2_weigh_15 rfl ⟨rfl, rfl⟩
  · replace h := bu_f h cc
    refine bv_aload_n dX2_weigh_7 1 rfl ?_
    obtain ⟨v1, p2, h⟩ := bu_bd h
    refine bw_callS (As := [.ref 1]) dX2_weigh_8 mc_2_23 (c_X2_isAsTold (d := d + 0) hN hR p2) rfl rfl (by decide) ?_
    refine bw_ifB_ne (b := v1) (tgt := 16) dX2_weigh_11 (by decide) (fun cc => ?_) (fun cc => ?_)
    · replace h := bu_bt h cc
      refine bv_iconst (v := 0) dX2_weigh_16 (by decide) ?_
      refine bv_istore_n (ls1 := [(0, .ref 161), (1, .ref 1), (2, .ref 4), (3, .int 0)]) dX2_weigh_17 (by decide) rfl rfl ?_
      refine bv_aload_n dX2_weigh_18 1 rfl ?_
      refine bz_getI hN okL_1 dX2_weigh_19 fl_2_27 rfl ?_
      refine bv_iconst (v := 1) dX2_weigh_22 (by decide) ?_
      refine bv_iadd dX2_weigh_23 ?_
      refine bv_istore (ls1 := [(0, .ref 161), (1, .ref 1), (2, .ref 4), (3, .int 0), (4, .int ((I 1 1) + 1))]) dX2_weigh_24 (by decide) rfl rfl ?_
      refine bv_iconst (v := 0) dX2_weigh_26 (by decide) ?_
      refine bv_istore (ls1 := [(0, .ref 161), (1, .ref 1), (2, .ref 4), (3, .int 0), (4, .int ((I 1 1) + 1)), (5, .int 0)]) dX2_weigh_27 (by decide) rfl rfl ?_
      obtain ⟨r3, p4, h⟩ := bu_bd h
      refine v_X2_weigh_l29 hN hR 1000 _ _ _ _ p4 (fun y5 hy => ?_)
      · subst hy
        refine bv_aload_n dX2_weigh_91 0 rfl ?_
        refine bv_iload dX2_weigh_92 3 rfl ?_
        refine bz_putI hN okL_161 dX2_weigh_94 fl_2_9 rfl ?_
        refine bv_aload_n dX2_weigh_97 0 rfl ?_
        refine bv_iload_n dX2_weigh_98 2 rfl ?_
        refine bv_aload_n dX2_weigh_99 1 rfl ?_
        refine bz_getA (a := 12) hN okL_4 (hR _ _ _ r0_4_7) dX2_weigh_100 fl_2_36 rfl ?_
        refine bv_aload_n dX2_weigh_103 1 rfl ?_
        refine bz_getI hN okL_4 dX2_weigh_104 fl_2_18 rfl ?_
        obtain ⟨v6, p7, h⟩ := bu_bd h
        refine bw_callS (As := [.int y5.1, .ref 12, .int ((bm_uI I 161 0 y5.2) 4 13)]) dX2_weigh_107 mc_2_43 (c_X2_mostLeft (d := d + 0) hN hR rkL_12 p7) rfl rfl (Nat.le_of_ble_eq_true rfl) ?_
        refine bv_iload_n dX2_weigh_110 2 rfl ?_
        refine bv_aload_n dX2_weigh_111 1 rfl ?_
        refine bz_getA (a := 11) hN okL_4 (hR _ _ _ r0_4_6) dX2_weigh_112 fl_2_32 rfl ?_
        refine bv_aload_n dX2_weigh_115 1 rfl ?_
        refine bz_getI hN okL_4 dX2_weigh_116 fl_2_18 rfl ?_
        obtain ⟨v8, p9, h⟩ := bu_bd h
        refine bw_callS (As := [.int y5.1, .ref 11, .int ((bm_uI I 161 0 y5.2) 4 13)]) dX2_weigh_119 mc_2_43 (c_X2_mostLeft (d := d + 0) hN hR rkL_11 p9) rfl rfl (Nat.le_of_ble_eq_true rfl) ?_
        refine bv_icmp_ge (tgt := 129) dX2_weigh_122 (by decide) (fun cc => ?_) (fun cc => ?_)
        · replace h := bu_t h cc
          refine bv_iconst (v := 0) dX2_weigh_129 (by decide) ?_
          refine bz_putI hN okL_161 dX2_weigh_130 fl_2_15 rfl ?_
          refine bv_iload_n dX2_weigh_133 2 rfl ?_
          obtain rfl := Option.some.inj h
          exact bv_iret (x := y5.1) dX2_weigh_134 rfl ⟨rfl, rfl⟩
        · replace h := bu_f h cc
          refine bv_iconst (v := 1) dX2_weigh_125 (by decide) ?_
          refine bv_goto (tgt := 130) dX2_weigh_126 (by decide) ?_
          refine bz_putI hN okL_161 dX2_weigh_130 fl_2_15 rfl ?_
          refine bv_iload_n dX2_weigh_133 2 rfl ?_
          obtain rfl := Option.some.inj h
          exact bv_iret (x := y5.1) dX2_weigh_134 rfl ⟨rfl, rfl⟩
    · replace h := bu_bf h cc
      refine bv_iconst (v := (-1)) dX2_weigh_14 (by decide) ?_
      obtain rfl := Option.some.inj h
      exact bv_iret (x := (-1)) dX2_weigh_15 rfl ⟨rfl, rfl⟩
def f_X7_copyFrom_l2 (x0 : Nat) (x1 : Nat) : Nat → Int32 → bm_TI → bm_TR → Option (bm_TI × bm_TR)
  | 0, _, _, _ => none
  | k + 1, x2, I, W => (if (I x1 4) ≤ x2 then some (I, W) else (if bm_ix 40 x2 = true then (if bm_iwq (W (x1 + 1) x2.toNatClampNeg) = true then f_X7_copyFrom_l2 x0 x1 k (x2 + 1) (bm_uI (bm_uI I (x0 + 2) x2.toNatClampNeg (I (x1 + 2) x2.toNatClampNeg)) (x0 + 3) x2.toNatClampNeg ((bm_uI I (x0 + 2) x2.toNatClampNeg (I (x1 + 2) x2.toNatClampNeg)) (x1 + 3) x2.toNatClampNeg)) (bm_uW W (x0 + 1) x2.toNatClampNeg (W (x1 + 1) x2.toNatClampNeg)) else none) else none))
set_option maxHeartbeats 4000000 in
set_option maxRecDepth 100000 in
theorem v_X7_copyFrom_l2 {lc : bm_L} {d n : Nat} {Q : Option Value → bm_M → Prop} {R : bm_TR} {J : bm_TJ} {x0 : Nat} {x1 : Nat} (hN : 181 ≤ n) (hR : bm_RR R) (q_0 : bm_OK x0 7) (q_1 : bm_OK x1 7) : ∀ (k : Nat) (x2 : Int32) (I : bm_TI) (W : bm_TR) (r : bm_TI × bm_TR), f_X7_copyFrom_l2 x0 x1 k x2 I W = some r → (∀ yy, yy = r → bm_V lc m_X7_copyFrom d n n n 52 [(0, .ref x0), (1, .ref x1)] [] (yy.1, J, R, yy.2) Q) → bm_V lc m_X7_copyFrom d n n n 2 [(0, .ref x0), (1, .ref x1), (2, .int x2)] [] (I, J, R, W) Q := by
  intro k
  induction k with
  | zero => intro x2 I W r h; cases (show (none : Option (bm_TI × bm_TR)) = some r from h)
  | succ k ih =>
    intro x2 I W r h K0
    unfold f_X7_copyFrom_l2 at h
    refine bv_iload_n dX7_copyFrom_2 2 rfl ?_
    refine bv_aload_n dX7_copyFrom_3 1 rfl ?_
    refine bz_getI hN q_1 dX7_copyFrom_4 fl_7_31 rfl ?_
    refine bv_icmp_ge (tgt := 52) dX7_copyFrom_7 (by decide) (fun cc => ?_) (fun cc => ?_)
    · replace h := bu_t h cc
      refine bw_ls (ls1 := [(0, .ref x0), (1, .ref x1)]) [0, 1] rfl ?_
      obtain rfl := Option.some.inj h
      exact K0 _ rfl
    · replace h := bu_f h cc
      refine bv_aload_n dX7_copyFrom_10 0 rfl ?_
      refine bz_getA (a := (x0 + 1)) hN q_0 (hR _ _ _ (tr_7_0 q_0)) dX7_copyFrom_11 fl_7_11 rfl ?_
      refine bv_iload_n dX7_copyFrom_14 2 rfl ?_
      refine bv_aload_n dX7_copyFrom_15 1 rfl ?_
      refine bz_getA (a := (x1 + 1)) hN q_1 (hR _ _ _ (tr_7_0 q_1)) dX7_copyFrom_16 fl_7_11 rfl ?_
      refine bv_iload_n dX7_copyFrom_19 2 rfl ?_
      obtain ⟨r1, h⟩ := bu_ix h
      refine bz_aaldW hN (rk_7_0 q_1) r1 rfl dX7_copyFrom_20 ?_
      obtain ⟨w2, h⟩ := bu_g h
      refine bz_aastQ (v := (W (x1 + 1) x2.toNatClampNeg)) hN (rk_7_0 q_0) r1 rfl w2 dX7_copyFrom_21 ?_
      refine bv_aload_n dX7_copyFrom_22 0 rfl ?_
      refine bz_getA (a := (x0 + 2)) hN q_0 (hR _ _ _ (tr_7_1 q_0)) dX7_copyFrom_23 fl_7_17 rfl ?_
      refine bv_iload_n dX7_copyFrom_26 2 rfl ?_
      refine bv_aload_n dX7_copyFrom_27 1 rfl ?_
      refine bz_getA (a := (x1 + 2)) hN q_1 (hR _ _ _ (tr_7_1 q_1)) dX7_copyFrom_28 fl_7_17 rfl ?_
      refine bv_iload_n dX7_copyFrom_31 2 rfl ?_
      refine bz_iald hN (rk_7_1 q_1) r1 rfl dX7_copyFrom_32 ?_
      refine bz_iast hN (rk_7_1 q_0) r1 rfl dX7_copyFrom_33 ?_
      refine bv_aload_n dX7_copyFrom_34 0 rfl ?_
      refine bz_getA (a := (x0 + 3)) hN q_0 (hR _ _ _ (tr_7_2 q_0)) dX7_copyFrom_35 fl_7_21 rfl ?_
      refine bv_iload_n dX7_copyFrom_38 2 rfl ?_
      refine bv_aload_n dX7_copyFrom_39 1 rfl ?_
      refine bz_getA (a := (x1 + 3)) hN q_1 (hR _ _ _ (tr_7_2 q_1)) dX7_copyFrom_40 fl_7_21 rfl ?_
      refine bv_iload_n dX7_copyFrom_43 2 rfl ?_
      refine bz_iald hN (rk_7_2 q_1) r1 rfl dX7_copyFrom_44 ?_
      refine bz_iast hN (rk_7_2 q_0) r1 rfl dX7_copyFrom_45 ?_
      refine bv_iinc (j := 2) (v := (x2 + 1)) (ls1 := [(0, .ref x0), (1, .ref x1), (2, .int (x2 + 1))]) dX7_copyFrom_46 rfl rfl (by decide) rfl rfl ?_
      refine bv_goto (tgt := 2) dX7_copyFrom_49 (by decide) ?_
      exact ih _ _ _ _ h K0
def f_X7_copyFrom (I : bm_TI) (W : bm_TR) (x0 : Nat) (x1 : Nat) : Option (bm_TI × bm_TR) := ((f_X7_copyFrom_l2 x0 x1 1000 0 I W).bind fun y3 => some ((bm_uI (bm_uI y3.1 x0 4 (y3.1 x1 4)) x0 5 ((bm_uI y3.1 x0 4 (y3.1 x1 4)) x1 5)), y3.2))
set_option maxHeartbeats 4000000 in
set_option maxRecDepth 100000 in
theorem c_X7_copyFrom {lc : bm_L} {d n : Nat} {I : bm_TI} {J : bm_TJ} {R W : bm_TR} {x0 : Nat} {x1 : Nat} {v : bm_TI × bm_TR} (hN : 181 ≤ n) (hR : bm_RR R) (q_0 : bm_OK x0 7) (q_1 : bm_OK x1 7) (h : f_X7_copyFrom I W x0 x1 = some v) : bm_C lc m_X7_copyFrom d n n [.ref x0, .ref x1] (I, J, R, W) (fun r M' => r = none ∧ M' = (v.1, J, R, v.2)) := by
  refine bm_C.ofV (by decide) (Nat.le_of_ble_eq_true rfl) ?_
  show bm_V lc m_X7_copyFrom d n n n 0 [(0, .ref x0), (1, .ref x1)] [] (I, J, R, W) _
  unfold f_X7_copyFrom at h
  refine bv_iconst (v := 0) dX7_copyFrom_0 (by decide) ?_
  refine bv_istore_n (ls1 := [(0, .ref x0), (1, .ref x1), (2, .int 0)]) dX7_copyFrom_1 (by decide) rfl rfl ?_
  obtain ⟨r1, p2, h⟩ := bu_bd h
  refine v_X7_copyFrom_l2 hN hR q_0 q_1 1000 _ _ _ _ p2 (fun y3 hy => ?_)
  · subst hy
    refine bv_aload_n dX7_copyFrom_52 0 rfl ?_
    refine bv_aload_n dX7_copyFrom_53 1 rfl ?_
    refine bz_getI hN q_1 dX7_copyFrom_54 fl_7_31 rfl ?_
    refine bz_putI hN q_0 dX7_copyFrom_57 fl_7_31 rfl ?_
    refine bv_aload_n dX7_copyFrom_60 0 rfl ?_
    refine bv_aload_n dX7_copyFrom_61 1 rfl ?_
    refine bz_getI hN q_1 dX7_copyFrom_62 fl_7_27 rfl ?_
    refine bz_putI hN q_0 dX7_copyFrom_65 fl_7_27 rfl ?_
    obtain rfl := Option.some.inj h
    exact bv_vret dX7_copyFrom_68 rfl ⟨rfl, rfl⟩
def f_X8_copyFrom (I : bm_TI) (x0 : Nat) (x1 : Nat) : Option (bm_TI) := some (bm_uI (bm_uI (bm_uI (bm_uI (bm_uI (bm_yI (bm_yI (bm_yI (bm_yI (bm_yI I (x1 + 1) (x0 + 1) 0 0 8) (x1 + 2) (x0 + 2) 0 0 8) (x1 + 3) (x0 + 3) 0 0 8) (x1 + 4) (x0 + 4) 0 0 8) (x1 + 5) (x0 + 5) 0 0 8) x0 7 ((bm_yI (bm_yI (bm_yI (bm_yI (bm_yI I (x1 + 1) (x0 + 1) 0 0 8) (x1 + 2) (x0 + 2) 0 0 8) (x1 + 3) (x0 + 3) 0 0 8) (x1 + 4) (x0 + 4) 0 0 8) (x1 + 5) (x0 + 5) 0 0 8) x1 7)) x0 8 ((bm_uI (bm_yI (bm_yI (bm_yI (bm_yI (bm_yI I (x1 + 1) (x0 + 1) 0 0 8) (x1 + 2) (x0 + 2) 0 0 8) (x1 + 3) (x0 + 3) 0 0 8) (x1 + 4) (x0 + 4) 0 0 8) (x1 + 5) (x0 + 5) 0 0 8) x0 7 ((bm_yI (bm_yI (bm_yI (bm_yI (bm_yI I (x1 + 1) (x0 + 1) 0 0 8) (x1 + 2) (x0 + 2) 0 0 8) (x1 + 3) (x0 + 3) 0 0 8) (x1 + 4) (x0 + 4) 0 0 8) (x1 + 5) (x0 + 5) 0 0 8) x1 7)) x1 8)) x0 9 ((bm_uI (bm_uI (bm_yI (bm_yI (bm_yI (bm_yI (bm_yI I (x1 + 1) (x0 + 1) 0 0 8) (x1 + 2) (x0 + 2) 0 0 8) (x1 + 3) (x0 + 3) 0 0 8) (x1 + 4) (x0 + 4) 0 0 8) (x1 + 5) (x0 + 5) 0 0 8) x0 7 ((bm_yI (bm_yI (bm_yI (bm_yI (bm_yI I (x1 + 1) (x0 + 1) 0 0 8) (x1 + 2) (x0 + 2) 0 0 8) (x1 + 3) (x0 + 3) 0 0 8) (x1 + 4) (x0 + 4) 0 0 8) (x1 + 5) (x0 + 5) 0 0 8) x1 7)) x0 8 ((bm_uI (bm_yI (bm_yI (bm_yI (bm_yI (bm_yI I (x1 + 1) (x0 + 1) 0 0 8) (x1 + 2) (x0 + 2) 0 0 8) (x1 + 3) (x0 + 3) 0 0 8) (x1 + 4) (x0 + 4) 0 0 8) (x1 + 5) (x0 + 5) 0 0 8) x0 7 ((bm_yI (bm_yI (bm_yI (bm_yI (bm_yI I (x1 + 1) (x0 + 1) 0 0 8) (x1 + 2) (x0 + 2) 0 0 8) (x1 + 3) (x0 + 3) 0 0 8) (x1 + 4) (x0 + 4) 0 0 8) (x1 + 5) (x0 + 5) 0 0 8) x1 7)) x1 8)) x1 9)) x0 10 ((bm_uI (bm_uI (bm_uI (bm_yI (bm_yI (bm_yI (bm_yI (bm_yI I (x1 + 1) (x0 + 1) 0 0 8) (x1 + 2) (x0 + 2) 0 0 8) (x1 + 3) (x0 + 3) 0 0 8) (x1 + 4) (x0 + 4) 0 0 8) (x1 + 5) (x0 + 5) 0 0 8) x0 7 ((bm_yI (bm_yI (bm_yI (bm_yI (bm_yI I (x1 + 1) (x0 + 1) 0 0 8) (x1 + 2) (x0 + 2) 0 0 8) (x1 + 3) (x0 + 3) 0 0 8) (x1 + 4) (x0 + 4) 0 0 8) (x1 + 5) (x0 + 5) 0 0 8) x1 7)) x0 8 ((bm_uI (bm_yI (bm_yI (bm_yI (bm_yI (bm_yI I (x1 + 1) (x0 + 1) 0 0 8) (x1 + 2) (x0 + 2) 0 0 8) (x1 + 3) (x0 + 3) 0 0 8) (x1 + 4) (x0 + 4) 0 0 8) (x1 + 5) (x0 + 5) 0 0 8) x0 7 ((bm_yI (bm_yI (bm_yI (bm_yI (bm_yI I (x1 + 1) (x0 + 1) 0 0 8) (x1 + 2) (x0 + 2) 0 0 8) (x1 + 3) (x0 + 3) 0 0 8) (x1 + 4) (x0 + 4) 0 0 8) (x1 + 5) (x0 + 5) 0 0 8) x1 7)) x1 8)) x0 9 ((bm_uI (bm_uI (bm_yI (bm_yI (bm_yI (bm_yI (bm_yI I (x1 + 1) (x0 + 1) 0 0 8) (x1 + 2) (x0 + 2) 0 0 8) (x1 + 3) (x0 + 3) 0 0 8) (x1 + 4) (x0 + 4) 0 0 8) (x1 + 5) (x0 + 5) 0 0 8) x0 7 ((bm_yI (bm_yI (bm_yI (bm_yI (bm_yI I (x1 + 1) (x0 + 1) 0 0 8) (x1 + 2) (x0 + 2) 0 0 8) (x1 + 3) (x0 + 3) 0 0 8) (x1 + 4) (x0 + 4) 0 0 8) (x1 + 5) (x0 + 5) 0 0 8) x1 7)) x0 8 ((bm_uI (bm_yI (bm_yI (bm_yI (bm_yI (bm_yI I (x1 + 1) (x0 + 1) 0 0 8) (x1 + 2) (x0 + 2) 0 0 8) (x1 + 3) (x0 + 3) 0 0 8) (x1 + 4) (x0 + 4) 0 0 8) (x1 + 5) (x0 + 5) 0 0 8) x0 7 ((bm_yI (bm_yI (bm_yI (bm_yI (bm_yI I (x1 + 1) (x0 + 1) 0 0 8) (x1 + 2) (x0 + 2) 0 0 8) (x1 + 3) (x0 + 3) 0 0 8) (x1 + 4) (x0 + 4) 0 0 8) (x1 + 5) (x0 + 5) 0 0 8) x1 7)) x1 8)) x1 9)) x1 10)) x0 11 ((bm_uI (bm_uI (bm_uI (bm_uI (bm_yI (bm_yI (bm_yI (bm_yI (bm_yI I (x1 + 1) (x0 + 1) 0 0 8) (x1 + 2) (x0 + 2) 0 0 8) (x1 + 3) (x0 + 3) 0 0 8) (x1 + 4) (x0 + 4) 0 0 8) (x1 + 5) (x0 + 5) 0 0 8) x0 7 ((bm_yI (bm_yI (bm_yI (bm_yI (bm_yI I (x1 + 1) (x0 + 1) 0 0 8) (x1 + 2) (x0 + 2) 0 0 8) (x1 + 3) (x0 + 3) 0 0 8) (x1 + 4) (x0 + 4) 0 0 8) (x1 + 5) (x0 + 5) 0 0 8) x1 7)) x0 8 ((bm_uI (bm_yI (bm_yI (bm_yI (bm_yI (bm_yI I (x1 + 1) (x0 + 1) 0 0 8) (x1 + 2) (x0 + 2) 0 0 8) (x1 + 3) (x0 + 3) 0 0 8) (x1 + 4) (x0 + 4) 0 0 8) (x1 + 5) (x0 + 5) 0 0 8) x0 7 ((bm_yI (bm_yI (bm_yI (bm_yI (bm_yI I (x1 + 1) (x0 + 1) 0 0 8) (x1 + 2) (x0 + 2) 0 0 8) (x1 + 3) (x0 + 3) 0 0 8) (x1 + 4) (x0 + 4) 0 0 8) (x1 + 5) (x0 + 5) 0 0 8) x1 7)) x1 8)) x0 9 ((bm_uI (bm_uI (bm_yI (bm_yI (bm_yI (bm_yI (bm_yI I (x1 + 1) (x0 + 1) 0 0 8) (x1 + 2) (x0 + 2) 0 0 8) (x1 + 3) (x0 + 3) 0 0 8) (x1 + 4) (x0 + 4) 0 0 8) (x1 + 5) (x0 + 5) 0 0 8) x0 7 ((bm_yI (bm_yI (bm_yI (bm_yI (bm_yI I (x1 + 1) (x0 + 1) 0 0 8) (x1 + 2) (x0 + 2) 0 0 8) (x1 + 3) (x0 + 3) 0 0 8) (x1 + 4) (x0 + 4) 0 0 8) (x1 + 5) (x0 + 5) 0 0 8) x1 7)) x0 8 ((bm_uI (bm_yI (bm_yI (bm_yI (bm_yI (bm_yI I (x1 + 1) (x0 + 1) 0 0 8) (x1 + 2) (x0 + 2) 0 0 8) (x1 + 3) (x0 + 3) 0 0 8) (x1 + 4) (x0 + 4) 0 0 8) (x1 + 5) (x0 + 5) 0 0 8) x0 7 ((bm_yI (bm_yI (bm_yI (bm_yI (bm_yI I (x1 + 1) (x0 + 1) 0 0 8) (x1 + 2) (x0 + 2) 0 0 8) (x1 + 3) (x0 + 3) 0 0 8) (x1 + 4) (x0 + 4) 0 0 8) (x1 + 5) (x0 + 5) 0 0 8) x1 7)) x1 8)) x1 9)) x0 10 ((bm_uI (bm_uI (bm_uI (bm_yI (bm_yI (bm_yI (bm_yI (bm_yI I (x1 + 1) (x0 + 1) 0 0 8) (x1 + 2) (x0 + 2) 0 0 8) (x1 + 3) (x0 + 3) 0 0 8) (x1 + 4) (x0 + 4) 0 0 8) (x1 + 5) (x0 + 5) 0 0 8) x0 7 ((bm_yI (bm_yI (bm_yI (bm_yI (bm_yI I (x1 + 1) (x0 + 1) 0 0 8) (x1 + 2) (x0 + 2) 0 0 8) (x1 + 3) (x0 + 3) 0 0 8) (x1 + 4) (x0 + 4) 0 0 8) (x1 + 5) (x0 + 5) 0 0 8) x1 7)) x0 8 ((bm_uI (bm_yI (bm_yI (bm_yI (bm_yI (bm_yI I (x1 + 1) (x0 + 1) 0 0 8) (x1 + 2) (x0 + 2) 0 0 8) (x1 + 3) (x0 + 3) 0 0 8) (x1 + 4) (x0 + 4) 0 0 8) (x1 + 5) (x0 + 5) 0 0 8) x0 7 ((bm_yI (bm_yI (bm_yI (bm_yI (bm_yI I (x1 + 1) (x0 + 1) 0 0 8) (x1 + 2) (x0 + 2) 0 0 8) (x1 + 3) (x0 + 3) 0 0 8) (x1 + 4) (x0 + 4) 0 0 8) (x1 + 5) (x0 + 5) 0 0 8) x1 7)) x1 8)) x0 9 ((bm_uI (bm_uI (bm_yI (bm_yI (bm_yI (bm_yI (bm_yI I (x1 + 1) (x0 + 1) 0 0 8) (x1 + 2) (x0 + 2) 0 0 8) (x1 + 3) (x0 + 3) 0 0 8) (x1 + 4) (x0 + 4) 0 0 8) (x1 + 5) (x0 + 5) 0 0 8) x0 7 ((bm_yI (bm_yI (bm_yI (bm_yI (bm_yI I (x1 + 1) (x0 + 1) 0 0 8) (x1 + 2) (x0 + 2) 0 0 8) (x1 + 3) (x0 + 3) 0 0 8) (x1 + 4) (x0 + 4) 0 0 8) (x1 + 5) (x0 + 5) 0 0 8) x1 7)) x0 8 ((bm_uI (bm_yI (bm_yI (bm_yI (bm_yI (bm_yI I (x1 + 1) (x0 + 1) 0 0 8) (x1 + 2) (x0 + 2) 0 0 8) (x1 + 3) (x0 + 3) 0 0 8) (x1 + 4) (x0 + 4) 0 0 8) (x1 + 5) (x0 + 5) 0 0 8) x0 7 ((bm_yI (bm_yI (bm_yI (bm_yI (bm_yI I (x1 + 1) (x0 + 1) 0 0 8) (x1 + 2) (x0 + 2) 0 0 8) (x1 + 3) (x0 + 3) 0 0 8) (x1 + 4) (x0 + 4) 0 0 8) (x1 + 5) (x0 + 5) 0 0 8) x1 7)) x1 8)) x1 9)) x1 10)) x1 11))
set_option maxHeartbeats 4000000 in
set_option maxRecDepth 100000 in
theorem c_X8_copyFrom {lc : bm_L} {d n : Nat} {I : bm_TI} {J : bm_TJ} {R W : bm_TR} {x0 : Nat} {x1 : Nat} {v : bm_TI} (hN : 181 ≤ n) (hR : bm_RR R) (q_0 : bm_OK x0 8) (q_1 : bm_OK x1 8) (h : f_X8_copyFrom I x0 x1 = some v) : bm_C lc m_X8_copyFrom (d + 1) n n [.ref x0, .ref x1] (I, J, R, W) (fun r M' => r = none ∧ M' = (v, J, R, W)) := by
  refine bm_C.ofV (by decide) (Nat.le_of_ble_eq_true rfl) ?_
  show bm_V lc m_X8_copyFrom (d + 1) n n n 0 [(0, .ref x0), (1, .ref x1)] [] (I, J, R, W) _
  unfold f_X8_copyFrom at h
  refine bv_aload_n dX8_copyFrom_0 1 rfl ?_
  refine bz_getA (a := (x1 + 1)) hN q_1 (hR _ _ _ (tr_8_1 q_1)) dX8_copyFrom_1 fl_8_9 rfl ?_
  refine bv_iconst (v := 0) dX8_copyFrom_4 (by decide) ?_
  refine bv_aload_n dX8_copyFrom_5 0 rfl ?_
  refine bz_getA (a := (x0 + 1)) hN q_0 (hR _ _ _ (tr_8_1 q_0)) dX8_copyFrom_6 fl_8_9 rfl ?_
  refine bv_iconst (v := 0) dX8_copyFrom_9 (by decide) ?_
  refine bv_bipush (v := 8) dX8_copyFrom_10 (by decide) ?_
  refine bz_copyI (sj := 0) (dj := 0) (zj := 8) hN (rk_8_1 q_1) (rk_8_1 q_0) (by decide) (by decide) (by decide) (by decide) (by decide) (by decide) (by decide) (by decide) dX8_copyFrom_12 mw_8_61 (by decide) ?_
  refine bv_aload_n dX8_copyFrom_15 1 rfl ?_
  refine bz_getA (a := (x1 + 2)) hN q_1 (hR _ _ _ (tr_8_2 q_1)) dX8_copyFrom_16 fl_8_15 rfl ?_
  refine bv_iconst (v := 0) dX8_copyFrom_19 (by decide) ?_
  refine bv_aload_n dX8_copyFrom_20 0 rfl ?_
  refine bz_getA (a := (x0 + 2)) hN q_0 (hR _ _ _ (tr_8_2 q_0)) dX8_copyFrom_21 fl_8_15 rfl ?_
  refine bv_iconst (v := 0) dX8_copyFrom_24 (by decide) ?_
  refine bv_bipush (v := 8) dX8_copyFrom_25 (by decide) ?_
  refine bz_copyI (sj := 0) (dj := 0) (zj := 8) hN (rk_8_2 q_1) (rk_8_2 q_0) (by decide) (by decide) (by decide) (by decide) (by decide) (by decide) (by decide) (by decide) dX8_copyFrom_27 mw_8_61 (by decide) ?_
  refine bv_aload_n dX8_copyFrom_30 1 rfl ?_
  refine bz_getA (a := (x1 + 3)) hN q_1 (hR _ _ _ (tr_8_3 q_1)) dX8_copyFrom_31 fl_8_18 rfl ?_
  refine bv_iconst (v := 0) dX8_copyFrom_34 (by decide) ?_
  refine bv_aload_n dX8_copyFrom_35 0 rfl ?_
  refine bz_getA (a := (x0 + 3)) hN q_0 (hR _ _ _ (tr_8_3 q_0)) dX8_copyFrom_36 fl_8_18 rfl ?_
  refine bv_iconst (v := 0) dX8_copyFrom_39 (by decide) ?_
  refine bv_bipush (v := 8) dX8_copyFrom_40 (by decide) ?_
  refine bz_copyI (sj := 0) (dj := 0) (zj := 8) hN (rk_8_3 q_1) (rk_8_3 q_0) (by decide) (by decide) (by decide) (by decide) (by decide) (by decide) (by decide) (by decide) dX8_copyFrom_42 mw_8_61 (by decide) ?_
  refine bv_aload_n dX8_copyFrom_45 1 rfl ?_
  refine bz_getA (a := (x1 + 4)) hN q_1 (hR _ _ _ (tr_8_4 q_1)) dX8_copyFrom_46 fl_8_21 rfl ?_
  refine bv_iconst (v := 0) dX8_copyFrom_49 (by decide) ?_
  refine bv_aload_n dX8_copyFrom_50 0 rfl ?_
  refine bz_getA (a := (x0 + 4)) hN q_0 (hR _ _ _ (tr_8_4 q_0)) dX8_copyFrom_51 fl_8_21 rfl ?_
  refine bv_iconst (v := 0) dX8_copyFrom_54 (by decide) ?_
  refine bv_bipush (v := 8) dX8_copyFrom_55 (by decide) ?_
  refine bz_copyI (sj := 0) (dj := 0) (zj := 8) hN (rk_8_4 q_1) (rk_8_4 q_0) (by decide) (by decide) (by decide) (by decide) (by decide) (by decide) (by decide) (by decide) dX8_copyFrom_57 mw_8_61 (by decide) ?_
  refine bv_aload_n dX8_copyFrom_60 1 rfl ?_
  refine bz_getA (a := (x1 + 5)) hN q_1 (hR _ _ _ (tr_8_5 q_1)) dX8_copyFrom_61 fl_8_24 rfl ?_
  refine bv_iconst (v := 0) dX8_copyFrom_64 (by decide) ?_
  refine bv_aload_n dX8_copyFrom_65 0 rfl ?_
  refine bz_getA (a := (x0 + 5)) hN q_0 (hR _ _ _ (tr_8_5 q_0)) dX8_copyFrom_66 fl_8_24 rfl ?_
  refine bv_iconst (v := 0) dX8_copyFrom_69 (by decide) ?_
  refine bv_bipush (v := 8) dX8_copyFrom_70 (by decide) ?_
  refine bz_copyI (sj := 0) (dj := 0) (zj := 8) hN (rk_8_5 q_1) (rk_8_5 q_0) (by decide) (by decide) (by decide) (by decide) (by decide) (by decide) (by decide) (by decide) dX8_copyFrom_72 mw_8_61 (by decide) ?_
  refine bv_aload_n dX8_copyFrom_75 0 rfl ?_
  refine bv_aload_n dX8_copyFrom_76 1 rfl ?_
  refine bz_getI hN q_1 dX8_copyFrom_77 fl_8_46 rfl ?_
  refine bz_putI hN q_0 dX8_copyFrom_80 fl_8_46 rfl ?_
  refine bv_aload_n dX8_copyFrom_83 0 rfl ?_
  refine bv_aload_n dX8_copyFrom_84 1 rfl ?_
  refine bz_getI hN q_1 dX8_copyFrom_85 fl_8_49 rfl ?_
  refine bz_putI hN q_0 dX8_copyFrom_88 fl_8_49 rfl ?_
  refine bv_aload_n dX8_copyFrom_91 0 rfl ?_
  refine bv_aload_n dX8_copyFrom_92 1 rfl ?_
  refine bz_getI hN q_1 dX8_copyFrom_93 fl_8_52 rfl ?_
  refine bz_putI hN q_0 dX8_copyFrom_96 fl_8_52 rfl ?_
  refine bv_aload_n dX8_copyFrom_99 0 rfl ?_
  refine bv_aload_n dX8_copyFrom_100 1 rfl ?_
  refine bz_getI hN q_1 dX8_copyFrom_101 fl_8_55 rfl ?_
  refine bz_putI hN q_0 dX8_copyFrom_104 fl_8_55 rfl ?_
  refine bv_aload_n dX8_copyFrom_107 0 rfl ?_
  refine bv_aload_n dX8_copyFrom_108 1 rfl ?_
  refine bz_getI hN q_1 dX8_copyFrom_109 fl_8_58 rfl ?_
  refine bz_putI hN q_0 dX8_copyFrom_112 fl_8_58 rfl ?_
  obtain rfl := Option.some.inj h
  exact bv_vret dX8_copyFrom_115 rfl ⟨rfl, rfl⟩
def f_X3_keep (I : bm_TI) (J : bm_TJ) (W : bm_TR) (x0 : Nat) : Option (bm_TI × bm_TJ × bm_TR) := ((f_X0_copyFrom I J (x0 + 1) 4).bind fun v1 => ((f_X8_copyFrom v1.1 (x0 + 12) 26).bind fun v3 => ((f_X7_copyFrom v3 W (x0 + 19) 151).bind fun v5 => some ((bm_uI v5.1 x0 3 (bm_bi true)), v1.2, v5.2))))
set_option maxHeartbeats 4000000 in
set_option maxRecDepth 100000 in
theorem c_X3_keep {lc : bm_L} {d n : Nat} {I : bm_TI} {J : bm_TJ} {R W : bm_TR} {x0 : Nat} {v : bm_TI × bm_TJ × bm_TR} (hN : 181 ≤ n) (hR : bm_RR R) (q_0 : bm_OK x0 3) (h : f_X3_keep I J W x0 = some v) : bm_C lc m_X3_keep (d + 2) n n [.ref x0, .ref 4, .ref 26, .ref 151] (I, J, R, W) (fun r M' => r = none ∧ M' = (v.1, v.2.1, R, v.2.2)) := by
  refine bm_C.ofV (by decide) (Nat.le_of_ble_eq_true rfl) ?_
  show bm_V lc m_X3_keep (d + 2) n n n 0 [(0, .ref x0), (1, .ref 4), (2, .ref 26), (3, .ref 151)] [] (I, J, R, W) _
  unfold f_X3_keep at h
  refine bv_aload_n dX3_keep_0 0 rfl ?_
  refine bz_getA (a := (x0 + 1)) hN q_0 (hR _ _ _ (tr_3_0 q_0)) dX3_keep_1 fl_3_10 rfl ?_
  refine bv_aload_n dX3_keep_4 1 rfl ?_
  obtain ⟨v1, p2, h⟩ := bu_bd h
  refine bw_callVv (As := [.ref 4]) hN (oc_3_0 q_0) ⟨_, _, rfl⟩ dX3_keep_5 mc_3_32 (c_X0_copyFrom (d := d + 0) hN hR (oc_3_0 q_0) okL_4 p2) rfl rfl (by decide) ?_
  refine bv_aload_n dX3_keep_8 0 rfl ?_
  refine bz_getA (a := (x0 + 12)) hN q_0 (hR _ _ _ (tr_3_1 q_0)) dX3_keep_9 fl_3_21 rfl ?_
  refine bv_aload_n dX3_keep_12 2 rfl ?_
  obtain ⟨v3, p4, h⟩ := bu_bd h
  refine bw_callVv (As := [.ref 26]) hN (oc_3_1 q_0) ⟨_, _, rfl⟩ dX3_keep_13 mc_3_35 (c_X8_copyFrom (d := d + 0) hN hR (oc_3_1 q_0) okL_26 p4) rfl rfl (by decide) ?_
  refine bv_aload_n dX3_keep_16 0 rfl ?_
  refine bz_getA (a := (x0 + 19)) hN q_0 (hR _ _ _ (tr_3_2 q_0)) dX3_keep_17 fl_3_28 rfl ?_
  refine bv_aload_n dX3_keep_20 3 rfl ?_
  obtain ⟨v5, p6, h⟩ := bu_bd h
  refine bw_callVv (As := [.ref 151]) hN (oc_3_2 q_0) ⟨_, _, rfl⟩ dX3_keep_21 mc_3_38 (c_X7_copyFrom (d := d + 1) hN hR (oc_3_2 q_0) okL_151 p6) rfl rfl (by decide) ?_
  refine bv_aload_n dX3_keep_24 0 rfl ?_
  refine bv_iconst (v := 1) dX3_keep_25 (by decide) ?_
  refine bz_putB (v := true) hN q_0 dX3_keep_26 fl_3_41 rfl ?_
  obtain rfl := Option.some.inj h
  exact bv_vret dX3_keep_29 rfl ⟨rfl, rfl⟩
def f_X4_keep (I : bm_TI) : Option (bm_TI) := (if bm_ix 8 (bm_rem ((I 40 1) + (I 40 2)) 8) = true then ((f_X8_copyFrom I (42 + 7 * (bm_rem ((I 40 1) + (I 40 2)) 8).toNatClampNeg) 26).bind fun v2 => (if 8 ≤ (v2 40 2) then some (bm_uI v2 40 1 (bm_rem ((v2 40 1) + 1) 8)) else some (bm_uI v2 40 2 ((v2 40 2) + 1)))) else none)
set_option maxHeartbeats 4000000 in
set_option maxRecDepth 100000 in
theorem c_X4_keep {lc : bm_L} {d n : Nat} {I : bm_TI} {J : bm_TJ} {R W : bm_TR} {v : bm_TI} (hN : 181 ≤ n) (hR : bm_RR R) (h : f_X4_keep I = some v) : bm_C lc m_X4_keep (d + 2) n n [.ref 40, .ref 26] (I, J, R, W) (fun r M' => r = none ∧ M' = (v, J, R, W)) := by
  refine bm_C.ofV (by decide) (Nat.le_of_ble_eq_true rfl) ?_
  show bm_V lc m_X4_keep (d + 2) n n n 0 [(0, .ref 40), (1, .ref 26)] [] (I, J, R, W) _
  unfold f_X4_keep at h
  refine bv_aload_n dX4_keep_0 0 rfl ?_
  refine bz_getA (a := 41) hN okL_40 (hR _ _ _ r0_40_0) dX4_keep_1 fl_4_11 rfl ?_
  refine bv_aload_n dX4_keep_4 0 rfl ?_
  refine bz_getI hN okL_40 dX4_keep_5 fl_4_20 rfl ?_
  refine bv_aload_n dX4_keep_8 0 rfl ?_
  refine bz_getI hN okL_40 dX4_keep_9 fl_4_24 rfl ?_
  refine bv_iadd dX4_keep_12 ?_
  refine bv_bipush (v := 8) dX4_keep_13 (by decide) ?_
  refine bv_irem dX4_keep_15 (by decide) ?_
  obtain ⟨r1, h⟩ := bu_ix h
  refine bz_aald hN rkL_41 (by decide) (by decide) r1 (hR _ _ _ (tr_past r1)) dX4_keep_16 ?_
  refine bv_aload_n dX4_keep_17 1 rfl ?_
  obtain ⟨v2, p3, h⟩ := bu_bd h
  refine bw_callVv (As := [.ref 26]) hN (ok_past r1) ⟨_, _, rfl⟩ dX4_keep_18 mc_4_27 (c_X8_copyFrom (d := d + 0) hN hR (ok_past r1) okL_26 p3) rfl rfl (by decide) ?_
  refine bv_aload_n dX4_keep_21 0 rfl ?_
  refine bz_getI hN okL_40 dX4_keep_22 fl_4_24 rfl ?_
  refine bv_bipush (v := 8) dX4_keep_25 (by decide) ?_
  refine bv_icmp_ge (tgt := 43) dX4_keep_27 (by decide) (fun cc => ?_) (fun cc => ?_)
  · replace h := bu_t h cc
    refine bv_aload_n dX4_keep_43 0 rfl ?_
    refine bv_aload_n dX4_keep_44 0 rfl ?_
    refine bz_getI hN okL_40 dX4_keep_45 fl_4_20 rfl ?_
    refine bv_iconst (v := 1) dX4_keep_48 (by decide) ?_
    refine bv_iadd dX4_keep_49 ?_
    refine bv_bipush (v := 8) dX4_keep_50 (by decide) ?_
    refine bv_irem dX4_keep_52 (by decide) ?_
    refine bz_putI hN okL_40 dX4_keep_53 fl_4_20 rfl ?_
    obtain rfl := Option.some.inj h
    exact bv_vret dX4_keep_56 rfl ⟨rfl, rfl⟩
  · replace h := bu_f h cc
    refine bv_aload_n dX4_keep_30 0 rfl ?_
    refine bv_dup dX4_keep_31 rfl ?_
    refine bz_getI hN okL_40 dX4_keep_32 fl_4_24 rfl ?_
    refine bv_iconst (v := 1) dX4_keep_35 (by decide) ?_
    refine bv_iadd dX4_keep_36 ?_
    refine bz_putI hN okL_40 dX4_keep_37 fl_4_24 rfl ?_
    refine bv_goto (tgt := 56) dX4_keep_40 (by decide) ?_
    obtain rfl := Option.some.inj h
    exact bv_vret dX4_keep_56 rfl ⟨rfl, rfl⟩
def f_X4_bringBack (I : bm_TI) : Option (Int32 × bm_TI) := (if (I 40 2) = 0 then some ((-1), I) else (if bm_ix 8 (bm_rem (((bm_uI I 40 2 ((I 40 2) - 1)) 40 1) + ((bm_uI I 40 2 ((I 40 2) - 1)) 40 2)) 8) = true then ((f_X8_copyFrom (bm_uI I 40 2 ((I 40 2) - 1)) 26 (42 + 7 * (bm_rem (((bm_uI I 40 2 ((I 40 2) - 1)) 40 1) + ((bm_uI I 40 2 ((I 40 2) - 1)) 40 2)) 8).toNatClampNeg)).bind fun v2 => some ((v2 40 2), v2)) else none))
set_option maxHeartbeats 4000000 in
set_option maxRecDepth 100000 in
theorem c_X4_bringBack {lc : bm_L} {d n : Nat} {I : bm_TI} {J : bm_TJ} {R W : bm_TR} {v : Int32 × bm_TI} (hN : 181 ≤ n) (hR : bm_RR R) (h : f_X4_bringBack I = some v) : bm_C lc m_X4_bringBack (d + 2) n n [.ref 40, .ref 26] (I, J, R, W) (fun r M' => r = some (.int v.1) ∧ M' = (v.2, J, R, W)) := by
  refine bm_C.ofV (by decide) (Nat.le_of_ble_eq_true rfl) ?_
  show bm_V lc m_X4_bringBack (d + 2) n n n 0 [(0, .ref 40), (1, .ref 26)] [] (I, J, R, W) _
  unfold f_X4_bringBack at h
  refine bv_aload_n dX4_bringBack_0 0 rfl ?_
  refine bz_getI hN okL_40 dX4_bringBack_1 fl_4_24 rfl ?_
  refine bv_if_ne (tgt := 9) dX4_bringBack_4 (by decide) (fun cc => ?_) (fun cc => ?_)
  · replace h := bu_f h cc
    refine bv_aload_n dX4_bringBack_9 0 rfl ?_
    refine bv_dup dX4_bringBack_10 rfl ?_
    refine bz_getI hN okL_40 dX4_bringBack_11 fl_4_24 rfl ?_
    refine bv_iconst (v := 1) dX4_bringBack_14 (by decide) ?_
    refine bv_isub dX4_bringBack_15 ?_
    refine bz_putI hN okL_40 dX4_bringBack_16 fl_4_24 rfl ?_
    refine bv_aload_n dX4_bringBack_19 1 rfl ?_
    refine bv_aload_n dX4_bringBack_20 0 rfl ?_
    refine bz_getA (a := 41) hN okL_40 (hR _ _ _ r0_40_0) dX4_bringBack_21 fl_4_11 rfl ?_
    refine bv_aload_n dX4_bringBack_24 0 rfl ?_
    refine bz_getI hN okL_40 dX4_bringBack_25 fl_4_20 rfl ?_
    refine bv_aload_n dX4_bringBack_28 0 rfl ?_
    refine bz_getI hN okL_40 dX4_bringBack_29 fl_4_24 rfl ?_
    refine bv_iadd dX4_bringBack_32 ?_
    refine bv_bipush (v := 8) dX4_bringBack_33 (by decide) ?_
    refine bv_irem dX4_bringBack_35 (by decide) ?_
    obtain ⟨r1, h⟩ := bu_ix h
    refine bz_aald hN rkL_41 (by decide) (by decide) r1 (hR _ _ _ (tr_past r1)) dX4_bringBack_36 ?_
    obtain ⟨v2, p3, h⟩ := bu_bd h
    refine bw_callVv (As := [.ref (42 + 7 * (bm_rem (((bm_uI I 40 2 ((I 40 2) - 1)) 40 1) + ((bm_uI I 40 2 ((I 40 2) - 1)) 40 2)) 8).toNatClampNeg)]) hN okL_26 ⟨_, _, rfl⟩ dX4_bringBack_37 mc_4_27 (c_X8_copyFrom (d := d + 0) hN hR okL_26 (ok_past r1) p3) rfl rfl (by decide) ?_
    refine bv_aload_n dX4_bringBack_40 0 rfl ?_
    refine bz_getI hN okL_40 dX4_bringBack_41 fl_4_24 rfl ?_
    obtain rfl := Option.some.inj h
    exact bv_iret (x := (v2 40 2)) dX4_bringBack_44 rfl ⟨rfl, rfl⟩
  · replace h := bu_t h cc
    refine bv_iconst (v := (-1)) dX4_bringBack_7 (by decide) ?_
    obtain rfl := Option.some.inj h
    exact bv_iret (x := (-1)) dX4_bringBack_8 rfl ⟨rfl, rfl⟩
def f_X4_forget (I : bm_TI) : Option (bm_TI) := some (bm_uI I 40 2 0)
set_option maxHeartbeats 4000000 in
set_option maxRecDepth 100000 in
theorem c_X4_forget {lc : bm_L} {d n : Nat} {I : bm_TI} {J : bm_TJ} {R W : bm_TR} {v : bm_TI} (hN : 181 ≤ n) (hR : bm_RR R) (h : f_X4_forget I = some v) : bm_C lc m_X4_forget d n n [.ref 40] (I, J, R, W) (fun r M' => r = none ∧ M' = (v, J, R, W)) := by
  refine bm_C.ofV (by decide) (Nat.le_of_ble_eq_true rfl) ?_
  show bm_V lc m_X4_forget d n n n 0 [(0, .ref 40)] [] (I, J, R, W) _
  unfold f_X4_forget at h
  refine bv_aload_n dX4_forget_0 0 rfl ?_
  refine bv_iconst (v := 0) dX4_forget_1 (by decide) ?_
  refine bz_putI hN okL_40 dX4_forget_2 fl_4_24 rfl ?_
  obtain rfl := Option.some.inj h
  exact bv_vret dX4_forget_5 rfl ⟨rfl, rfl⟩
def f_X5_begin (I : bm_TI) (J : bm_TJ) (W : bm_TR) (x1 : Int32) : Option (bm_TI × bm_TJ × bm_TR) := ((f_X5_advance (bm_uI (bm_uI (bm_uI (bm_uI I 3 1 x1) 3 2 0) 3 9 0) 3 10 0) J W).bind fun v1 => some (v1.1, v1.2.1, v1.2.2))
set_option maxHeartbeats 4000000 in
set_option maxRecDepth 100000 in
theorem c_X5_begin {lc : bm_L} {d n : Nat} {I : bm_TI} {J : bm_TJ} {R W : bm_TR} {x1 : Int32} {v : bm_TI × bm_TJ × bm_TR} (hN : 181 ≤ n) (hR : bm_RR R) (h : f_X5_begin I J W x1 = some v) : bm_C lc m_X5_begin (d + 3) n n [.ref 3, .int x1] (I, J, R, W) (fun r M' => r = none ∧ M' = (v.1, v.2.1, R, v.2.2)) := by
  refine bm_C.ofV (by decide) (Nat.le_of_ble_eq_true rfl) ?_
  show bm_V lc m_X5_begin (d + 3) n n n 0 [(0, .ref 3), (1, .int x1)] [] (I, J, R, W) _
  unfold f_X5_begin at h
  refine bv_aload_n dX5_begin_0 0 rfl ?_
  refine bv_iload_n dX5_begin_1 1 rfl ?_
  refine bz_putI hN okL_3 dX5_begin_2 fl_5_15 rfl ?_
  refine bv_aload_n dX5_begin_5 0 rfl ?_
  refine bv_iconst (v := 0) dX5_begin_6 (by decide) ?_
  refine bz_putI hN okL_3 dX5_begin_7 fl_5_19 rfl ?_
  refine bv_aload_n dX5_begin_10 0 rfl ?_
  refine bv_iconst (v := 0) dX5_begin_11 (by decide) ?_
  refine bz_putI hN okL_3 dX5_begin_12 fl_5_22 rfl ?_
  refine bv_aload_n dX5_begin_15 0 rfl ?_
  refine bv_iconst (v := 0) dX5_begin_16 (by decide) ?_
  refine bz_putI hN okL_3 dX5_begin_17 fl_5_25 rfl ?_
  refine bv_aload_n dX5_begin_20 0 rfl ?_
  obtain ⟨v1, p2, h⟩ := bu_bd h
  refine bw_callVv (As := []) hN okL_3 ⟨_, _, rfl⟩ dX5_begin_21 mc_5_28 (c_X5_advance (d := d + 0) hN hR p2) rfl rfl (by decide) ?_
  obtain rfl := Option.some.inj h
  exact bv_vret dX5_begin_24 rfl ⟨rfl, rfl⟩
def f_X6_addByte (I : bm_TI) (x1 : Int32) : Option (bm_TI) := (if 64 ≤ (I 162 1) then some I else (if bm_ix 64 (I 162 1) = true then some (bm_uI (bm_uI I 163 ((I 162 1).toNatClampNeg) x1) 162 1 (((bm_uI I 163 ((I 162 1).toNatClampNeg) x1) 162 1) + 1)) else none))
set_option maxHeartbeats 4000000 in
set_option maxRecDepth 100000 in
theorem c_X6_addByte {lc : bm_L} {d n : Nat} {I : bm_TI} {J : bm_TJ} {R W : bm_TR} {x1 : Int32} {v : bm_TI} (hN : 181 ≤ n) (hR : bm_RR R) (h : f_X6_addByte I x1 = some v) : bm_C lc m_X6_addByte d n n [.ref 162, .int x1] (I, J, R, W) (fun r M' => r = none ∧ M' = (v, J, R, W)) := by
  refine bm_C.ofV (by decide) (Nat.le_of_ble_eq_true rfl) ?_
  show bm_V lc m_X6_addByte d n n n 0 [(0, .ref 162), (1, .int x1)] [] (I, J, R, W) _
  unfold f_X6_addByte at h
  refine bv_aload_n dX6_addByte_0 0 rfl ?_
  refine bz_getI hN okL_162 dX6_addByte_1 fl_6_15 rfl ?_
  refine bv_bipush (v := 64) dX6_addByte_4 (by decide) ?_
  refine bv_icmp_ge (tgt := 29) dX6_addByte_6 (by decide) (fun cc => ?_) (fun cc => ?_)
  · replace h := bu_t h cc
    obtain rfl := Option.some.inj h
    exact bv_vret dX6_addByte_29 rfl ⟨rfl, rfl⟩
  · replace h := bu_f h cc
    refine bv_aload_n dX6_addByte_9 0 rfl ?_
    refine bz_getA (a := 163) hN okL_162 (hR _ _ _ r0_162_0) dX6_addByte_10 fl_6_9 rfl ?_
    refine bv_aload_n dX6_addByte_13 0 rfl ?_
    refine bz_getI hN okL_162 dX6_addByte_14 fl_6_15 rfl ?_
    refine bv_iload_n dX6_addByte_17 1 rfl ?_
    obtain ⟨r1, h⟩ := bu_ix h
    refine bz_iast hN rkL_163 r1 rfl dX6_addByte_18 ?_
    refine bv_aload_n dX6_addByte_19 0 rfl ?_
    refine bv_dup dX6_addByte_20 rfl ?_
    refine bz_getI hN okL_162 dX6_addByte_21 fl_6_15 rfl ?_
    refine bv_iconst (v := 1) dX6_addByte_24 (by decide) ?_
    refine bv_iadd dX6_addByte_25 ?_
    refine bz_putI hN okL_162 dX6_addByte_26 fl_6_15 rfl ?_
    obtain rfl := Option.some.inj h
    exact bv_vret dX6_addByte_29 rfl ⟨rfl, rfl⟩
def f_X6_addName_l3 (x1 : Int64) : Nat → Int32 → bm_TI → Option (bm_TI)
  | 0, _, _ => none
  | k + 1, x3, I => (if x3 < 0 then some I else (if ((bm_lshr x1 x3) &&& 31).toInt32 ≤ 0 then f_X6_addName_l3 x1 k (x3 + (-5)) I else ((f_X6_addByte I ((97 + (((bm_lshr x1 x3) &&& 31).toInt32)) - 1)).bind fun v1 => f_X6_addName_l3 x1 k (x3 + (-5)) v1)))
set_option maxHeartbeats 4000000 in
set_option maxRecDepth 100000 in
theorem v_X6_addName_l3 {lc : bm_L} {d n : Nat} {Q : Option Value → bm_M → Prop} {R : bm_TR} {J : bm_TJ} {W : bm_TR} {x1 : Int64} (hN : 181 ≤ n) (hR : bm_RR R) : ∀ (k : Nat) (x3 : Int32) (I : bm_TI) (r : bm_TI), f_X6_addName_l3 x1 k x3 I = some r → (∀ yy, yy = r → bm_V lc m_X6_addName (d + 1) n n n 39 [] [] (yy, J, R, W) Q) → bm_V lc m_X6_addName (d + 1) n n n 3 [(0, .ref 162), (1, .long x1), (3, .int x3)] [] (I, J, R, W) Q := by
  intro k
  induction k with
  | zero => intro x3 I r h; cases (show (none : Option (bm_TI)) = some r from h)
  | succ k ih =>
    intro x3 I r h K0
    unfold f_X6_addName_l3 at h
    refine bv_iload_n dX6_addName_3 2 rfl ?_
    refine bv_if_lt (tgt := 39) dX6_addName_4 (by decide) (fun cc => ?_) (fun cc => ?_)
    · replace h := bu_t h cc
      refine bw_ls (ls1 := []) [] rfl ?_
      obtain rfl := Option.some.inj h
      exact K0 _ rfl
    · replace h := bu_f h cc
      refine bv_lload_n dX6_addName_7 1 rfl ?_
      refine bv_iload_n dX6_addName_8 2 rfl ?_
      refine bv_lshr dX6_addName_9 ?_
      refine bv_ldc2 (v := 31) dX6_addName_10 cst_6_96 ?_
      refine bv_land dX6_addName_13 ?_
      refine bv_l2i dX6_addName_14 ?_
      refine bv_istore (ls1 := [(0, .ref 162), (1, .long x1), (3, .int x3), (4, .int ((bm_lshr x1 x3) &&& 31).toInt32)]) dX6_addName_15 (by decide) rfl rfl ?_
      refine bv_iload dX6_addName_17 3 rfl ?_
      refine bv_if_le (tgt := 33) dX6_addName_19 (by decide) (fun cc => ?_) (fun cc => ?_)
      · replace h := bu_t h cc
        refine bv_iinc (j := 2) (v := (x3 + (-5))) (ls1 := [(0, .ref 162), (1, .long x1), (3, .int (x3 + (-5))), (4, .int ((bm_lshr x1 x3) &&& 31).toInt32)]) dX6_addName_33 rfl rfl (by decide) rfl rfl ?_
        refine bv_goto (tgt := 3) dX6_addName_36 (by decide) ?_
        refine bw_ls (ls1 := [(0, .ref 162), (1, .long x1), (3, .int (x3 + (-5)))]) [0, 1, 2] rfl ?_
        exact ih _ _ _ h K0
      · replace h := bu_f h cc
        refine bv_aload_n dX6_addName_22 0 rfl ?_
        refine bv_bipush (v := 97) dX6_addName_23 (by decide) ?_
        refine bv_iload dX6_addName_25 3 rfl ?_
        refine bv_iadd dX6_addName_27 ?_
        refine bv_iconst (v := 1) dX6_addName_28 (by decide) ?_
        refine bv_isub dX6_addName_29 ?_
        obtain ⟨v1, p2, h⟩ := bu_bd h
        refine bw_callVv (As := [.int ((97 + (((bm_lshr x1 x3) &&& 31).toInt32)) - 1)]) hN okL_162 ⟨_, _, rfl⟩ dX6_addName_30 mc_6_92 (c_X6_addByte (d := d + 0) hN hR p2) rfl rfl (by decide) ?_
        refine bv_iinc (j := 2) (v := (x3 + (-5))) (ls1 := [(0, .ref 162), (1, .long x1), (3, .int (x3 + (-5))), (4, .int ((bm_lshr x1 x3) &&& 31).toInt32)]) dX6_addName_33 rfl rfl (by decide) rfl rfl ?_
        refine bv_goto (tgt := 3) dX6_addName_36 (by decide) ?_
        refine bw_ls (ls1 := [(0, .ref 162), (1, .long x1), (3, .int (x3 + (-5)))]) [0, 1, 2] rfl ?_
        exact ih _ _ _ h K0
def f_X6_addName (I : bm_TI) (x1 : Int64) : Option (bm_TI) := ((f_X6_addName_l3 x1 1000 30 I).bind fun y3 => some y3)
set_option maxHeartbeats 4000000 in
set_option maxRecDepth 100000 in
theorem c_X6_addName {lc : bm_L} {d n : Nat} {I : bm_TI} {J : bm_TJ} {R W : bm_TR} {x1 : Int64} {v : bm_TI} (hN : 181 ≤ n) (hR : bm_RR R) (h : f_X6_addName I x1 = some v) : bm_C lc m_X6_addName (d + 1) n n [.ref 162, .long x1] (I, J, R, W) (fun r M' => r = none ∧ M' = (v, J, R, W)) := by
  refine bm_C.ofV (by decide) (Nat.le_of_ble_eq_true rfl) ?_
  show bm_V lc m_X6_addName (d + 1) n n n 0 [(0, .ref 162), (1, .long x1)] [] (I, J, R, W) _
  unfold f_X6_addName at h
  refine bv_bipush (v := 30) dX6_addName_0 (by decide) ?_
  refine bv_istore_n (ls1 := [(0, .ref 162), (1, .long x1), (3, .int 30)]) dX6_addName_2 (by decide) rfl rfl ?_
  obtain ⟨r1, p2, h⟩ := bu_bd h
  refine v_X6_addName_l3 hN hR 1000 _ _ _ p2 (fun y3 hy => ?_)
  · subst hy
    obtain rfl := Option.some.inj h
    exact bv_vret dX6_addName_39 rfl ⟨rfl, rfl⟩
def f_X6_addText_l2 (x1 : Nat) : Nat → Int32 → bm_TI → Option (bm_TI)
  | 0, _, _ => none
  | k + 1, x2, I => ((a_strlen x1).bind fun v1 => (if v1 ≤ x2 then some I else ((a_strat x1 x2).bind fun v3 => ((f_X6_addByte I v3).bind fun v5 => f_X6_addText_l2 x1 k (x2 + 1) v5))))
set_option maxHeartbeats 4000000 in
set_option maxRecDepth 100000 in
theorem v_X6_addText_l2 {lc : bm_L} {d n : Nat} {Q : Option Value → bm_M → Prop} {R : bm_TR} {J : bm_TJ} {W : bm_TR} {x1 : Nat} (hN : 181 ≤ n) (hR : bm_RR R) : ∀ (k : Nat) (x2 : Int32) (I : bm_TI) (r : bm_TI), f_X6_addText_l2 x1 k x2 I = some r → (∀ yy, yy = r → bm_V lc m_X6_addText (d + 5) n n n 25 [] [] (yy, J, R, W) Q) → bm_V lc m_X6_addText (d + 5) n n n 2 [(0, .ref 162), (1, .ref x1), (2, .int x2)] [] (I, J, R, W) Q := by
  intro k
  induction k with
  | zero => intro x2 I r h; cases (show (none : Option (bm_TI)) = some r from h)
  | succ k ih =>
    intro x2 I r h K0
    unfold f_X6_addText_l2 at h
    refine bv_iload_n dX6_addText_2 2 rfl ?_
    refine bv_aload_n dX6_addText_3 1 rfl ?_
    obtain ⟨v1, p2, h⟩ := bu_bd h
    refine bw_callX (C := "java/lang/String") (x := x1) (As := []) (bm_is_ol (ca_strlen_is p2)) rfl dX6_addText_4 mc_6_83 (ca_strlen (d := d + 0) hN p2) rfl rfl (Nat.le_of_ble_eq_true rfl) ?_
    refine bv_icmp_ge (tgt := 25) dX6_addText_7 (by decide) (fun cc => ?_) (fun cc => ?_)
    · replace h := bu_t h cc
      refine bw_ls (ls1 := []) [] rfl ?_
      obtain rfl := Option.some.inj h
      exact K0 _ rfl
    · replace h := bu_f h cc
      refine bv_aload_n dX6_addText_10 0 rfl ?_
      refine bv_aload_n dX6_addText_11 1 rfl ?_
      refine bv_iload_n dX6_addText_12 2 rfl ?_
      obtain ⟨v3, p4, h⟩ := bu_bd h
      refine bw_callX (C := "java/lang/String") (x := x1) (As := [.int x2]) (bm_is_ol (ca_strat_is p4)) rfl dX6_addText_13 mc_6_88 (ca_strat (d := d + 0) hN p4) rfl rfl (Nat.le_of_ble_eq_true rfl) ?_
      obtain ⟨v5, p6, h⟩ := bu_bd h
      refine bw_callVv (As := [.int v3]) hN okL_162 ⟨_, _, rfl⟩ dX6_addText_16 mc_6_92 (c_X6_addByte (d := d + 4) hN hR p6) rfl rfl (by decide) ?_
      refine bv_iinc (j := 2) (v := (x2 + 1)) (ls1 := [(0, .ref 162), (1, .ref x1), (2, .int (x2 + 1))]) dX6_addText_19 rfl rfl (by decide) rfl rfl ?_
      refine bv_goto (tgt := 2) dX6_addText_22 (by decide) ?_
      exact ih _ _ _ h K0
def f_X6_addText (I : bm_TI) (x1 : Nat) : Option (bm_TI) := ((f_X6_addText_l2 x1 1000 0 I).bind fun y3 => some y3)
set_option maxHeartbeats 4000000 in
set_option maxRecDepth 100000 in
theorem c_X6_addText {lc : bm_L} {d n : Nat} {I : bm_TI} {J : bm_TJ} {R W : bm_TR} {x1 : Nat} {v : bm_TI} (hN : 181 ≤ n) (hR : bm_RR R) (h : f_X6_addText I x1 = some v) : bm_C lc m_X6_addText (d + 5) n n [.ref 162, .ref x1] (I, J, R, W) (fun r M' => r = none ∧ M' = (v, J, R, W)) := by
  refine bm_C.ofV (by decide) (Nat.le_of_ble_eq_true rfl) ?_
  show bm_V lc m_X6_addText (d + 5) n n n 0 [(0, .ref 162), (1, .ref x1)] [] (I, J, R, W) _
  unfold f_X6_addText at h
  refine bv_iconst (v := 0) dX6_addText_0 (by decide) ?_
  refine bv_istore_n (ls1 := [(0, .ref 162), (1, .ref x1), (2, .int 0)]) dX6_addText_1 (by decide) rfl rfl ?_
  obtain ⟨r1, p2, h⟩ := bu_bd h
  refine v_X6_addText_l2 hN hR 1000 _ _ _ p2 (fun y3 hy => ?_)
  · subst hy
    obtain rfl := Option.some.inj h
    exact bv_vret dX6_addText_25 rfl ⟨rfl, rfl⟩
def f_X6_liftText (x0 : Int32) : Option (Nat) := (if x0 = 1 then some ((1000 + 5) + 200) else (if x0 = 2 then some ((1000 + 6) + 200) else some ((1000 + 7) + 200)))
set_option maxHeartbeats 4000000 in
set_option maxRecDepth 100000 in
theorem c_X6_liftText {lc : bm_L} {d n : Nat} {I : bm_TI} {J : bm_TJ} {R W : bm_TR} {x0 : Int32} {v : Nat} (hN : 181 ≤ n) (hR : bm_RR R) (h : f_X6_liftText x0 = some v) : bm_C lc m_X6_liftText d n n [.int x0] (I, J, R, W) (fun r M' => r = some (.ref v) ∧ M' = (I, J, R, W)) := by
  refine bm_C.ofV (by decide) (Nat.le_of_ble_eq_true rfl) ?_
  show bm_V lc m_X6_liftText d n n n 0 [(0, .int x0)] [] (I, J, R, W) _
  unfold f_X6_liftText at h
  refine bv_iload_n dX6_liftText_0 0 rfl ?_
  refine bv_iconst (v := 1) dX6_liftText_1 (by decide) ?_
  refine bv_icmp_ne (tgt := 14) dX6_liftText_2 (by decide) (fun cc => ?_) (fun cc => ?_)
  · replace h := bu_f h cc
    refine bv_iload_n dX6_liftText_14 0 rfl ?_
    refine bv_iconst (v := 2) dX6_liftText_15 (by decide) ?_
    refine bv_icmp_ne (tgt := 28) dX6_liftText_16 (by decide) (fun cc => ?_) (fun cc => ?_)
    · replace h := bu_f h cc
      refine bw_getW (j := 7) dX6_liftText_28 fw_6_80 rfl ?_
      refine bw_wtx rfl dX6_liftText_31 fw_6_73 ?_
      obtain rfl := Option.some.inj h
      exact bv_aret (x := some ((1000 + 7) + 200)) dX6_liftText_34 rfl (Or.inl ⟨_, rfl⟩) ⟨rfl, rfl⟩
    · replace h := bu_t h cc
      refine bw_getW (j := 6) dX6_liftText_19 fw_6_77 rfl ?_
      refine bw_wtx rfl dX6_liftText_22 fw_6_73 ?_
      refine bv_goto (tgt := 34) dX6_liftText_25 (by decide) ?_
      obtain rfl := Option.some.inj h
      exact bv_aret (x := some ((1000 + 6) + 200)) dX6_liftText_34 rfl (Or.inl ⟨_, rfl⟩) ⟨rfl, rfl⟩
  · replace h := bu_t h cc
    refine bw_getW (j := 5) dX6_liftText_5 fw_6_67 rfl ?_
    refine bw_wtx rfl dX6_liftText_8 fw_6_73 ?_
    refine bv_goto (tgt := 34) dX6_liftText_11 (by decide) ?_
    obtain rfl := Option.some.inj h
    exact bv_aret (x := some ((1000 + 5) + 200)) dX6_liftText_34 rfl (Or.inl ⟨_, rfl⟩) ⟨rfl, rfl⟩
def f_X6_write (I : bm_TI) (J : bm_TJ) (x1 : Int32) : Option (bm_TI) := (if bm_ix 8 x1 = true then ((f_X6_addName (bm_uI I 162 1 0) (J 5 x1.toNatClampNeg)).bind fun v2 => (if (v2 30 x1.toNatClampNeg) = (-1) then ((f_X6_addText v2 1240).bind fun v19 => (if (v19 29 x1.toNatClampNeg) = 0 then (if (f_X11_bit (v19 26 7) x1) = 1 then ((f_X6_addText v19 1243).bind fun v21 => some v21) else some v19) else ((f_X6_addText v19 1242).bind fun v23 => ((f_X6_liftText (v23 29 x1.toNatClampNeg)).bind fun v25 => ((f_X6_addText v23 v25).bind fun v27 => (if (f_X11_bit (v27 26 7) x1) = 1 then ((f_X6_addText v27 1243).bind fun v29 => some v29) else some v27)))))) else ((f_X6_addText v2 1241).bind fun v4 => (if bm_ix 7 (v2 30 x1.toNatClampNeg) = true then ((f_X6_addName v4 (J 10 (v2 30 x1.toNatClampNeg).toNatClampNeg)).bind fun v7 => (if (v7 29 x1.toNatClampNeg) = 0 then (if (f_X11_bit (v7 26 7) x1) = 1 then ((f_X6_addText v7 1243).bind fun v9 => some v9) else some v7) else ((f_X6_addText v7 1242).bind fun v11 => ((f_X6_liftText (v11 29 x1.toNatClampNeg)).bind fun v13 => ((f_X6_addText v11 v13).bind fun v15 => (if (f_X11_bit (v15 26 7) x1) = 1 then ((f_X6_addText v15 1243).bind fun v17 => some v17) else some v15)))))) else none)))) else none)
set_option maxHeartbeats 4000000 in
set_option maxRecDepth 100000 in
theorem c_X6_write {lc : bm_L} {d n : Nat} {I : bm_TI} {J : bm_TJ} {R W : bm_TR} {x1 : Int32} {v : bm_TI} (hN : 181 ≤ n) (hR : bm_RR R) (h : f_X6_write I J x1 = some v) : bm_C lc m_X6_write (d + 6) n n [.ref 162, .int x1, .ref 26] (I, J, R, W) (fun r M' => r = none ∧ M' = (v, J, R, W)) := by
  refine bm_C.ofV (by decide) (Nat.le_of_ble_eq_true rfl) ?_
  show bm_V lc m_X6_write (d + 6) n n n 0 [(0, .ref 162), (1, .int x1), (2, .ref 26)] [] (I, J, R, W) _
  unfold f_X6_write at h
  refine bv_aload_n dX6_write_0 0 rfl ?_
  refine bv_iconst (v := 0) dX6_write_1 (by decide) ?_
  refine bz_putI hN okL_162 dX6_write_2 fl_6_15 rfl ?_
  refine bv_aload_n dX6_write_5 0 rfl ?_
  refine bv_aload_n dX6_write_6 2 rfl ?_
  refine bz_getA (a := 4) hN okL_26 (hR _ _ _ r0_26_0) dX6_write_7 fl_6_19 rfl ?_
  refine bz_getA (a := 5) hN okL_4 (hR _ _ _ r0_4_0) dX6_write_10 fl_6_25 rfl ?_
  refine bv_iload_n dX6_write_13 1 rfl ?_
  obtain ⟨r1, h⟩ := bu_ix h
  refine bz_lald hN rkL_5 r1 rfl dX6_write_14 ?_
  obtain ⟨v2, p3, h⟩ := bu_bd h
  refine bw_callVv (As := [.long (J 5 x1.toNatClampNeg)]) hN okL_162 ⟨_, _, rfl⟩ dX6_write_15 mc_6_31 (c_X6_addName (d := d + 4) hN hR p3) rfl rfl (by decide) ?_
  refine bv_aload_n dX6_write_18 2 rfl ?_
  refine bz_getA (a := 30) hN okL_26 (hR _ _ _ r0_26_4) dX6_write_19 fl_6_35 rfl ?_
  refine bv_iload_n dX6_write_22 1 rfl ?_
  refine bz_iald hN rkL_30 r1 rfl dX6_write_23 ?_
  refine bv_istore_n (ls1 := [(0, .ref 162), (1, .int x1), (2, .ref 26), (3, .int (v2 30 x1.toNatClampNeg))]) dX6_write_24 (by decide) rfl rfl ?_
  refine bv_iload_n dX6_write_25 3 rfl ?_
  refine bv_iconst (v := (-1)) dX6_write_26 (by decide) ?_
  refine bv_icmp_ne (tgt := 39) dX6_write_27 (by decide) (fun cc => ?_) (fun cc => ?_)
  · replace h := bu_f h cc
    refine bv_aload_n dX6_write_39 0 rfl ?_
    refine bv_ldcS (x := 1241) dX6_write_40 (List.mem_of_getElem? (i := 1) rfl) (by decide) ?_
    obtain ⟨v4, p5, h⟩ := bu_bd h
    refine bw_callVv (As := [.ref 1241]) hN okL_162 ⟨_, _, rfl⟩ dX6_write_42 mc_6_40 (c_X6_addText (d := d + 0) hN hR p5) rfl rfl (by decide) ?_
    refine bv_aload_n dX6_write_45 0 rfl ?_
    refine bv_aload_n dX6_write_46 2 rfl ?_
    refine bz_getA (a := 4) hN okL_26 (hR _ _ _ r0_26_0) dX6_write_47 fl_6_19 rfl ?_
    refine bz_getA (a := 10) hN okL_4 (hR _ _ _ r0_4_5) dX6_write_50 fl_6_46 rfl ?_
    refine bv_iload_n dX6_write_53 3 rfl ?_
    obtain ⟨r6, h⟩ := bu_ix h
    refine bz_lald hN rkL_10 r6 rfl dX6_write_54 ?_
    obtain ⟨v7, p8, h⟩ := bu_bd h
    refine bw_callVv (As := [.long (J 10 (v2 30 x1.toNatClampNeg).toNatClampNeg)]) hN okL_162 ⟨_, _, rfl⟩ dX6_write_55 mc_6_31 (c_X6_addName (d := d + 4) hN hR p8) rfl rfl (by decide) ?_
    refine bv_aload_n dX6_write_58 2 rfl ?_
    refine bz_getA (a := 29) hN okL_26 (hR _ _ _ r0_26_3) dX6_write_59 fl_6_49 rfl ?_
    refine bv_iload_n dX6_write_62 1 rfl ?_
    refine bz_iald hN rkL_29 r1 rfl dX6_write_63 ?_
    refine bv_if_eq (tgt := 86) dX6_write_64 (by decide) (fun cc => ?_) (fun cc => ?_)
    · replace h := bu_t h cc
      refine bv_aload_n dX6_write_86 2 rfl ?_
      refine bz_getI hN okL_26 dX6_write_87 fl_6_58 rfl ?_
      refine bv_iload_n dX6_write_90 1 rfl ?_
      refine bw_callSN (As := [.int (v7 26 7), .int x1]) dX6_write_91 mc_6_61 (c_X11_bit (d := d + 5) hN hR rfl) rfl rfl (by decide) ?_
      refine bv_iconst (v := 1) dX6_write_94 (by decide) ?_
      refine bv_icmp_ne (tgt := 104) dX6_write_95 (by decide) (fun cc => ?_) (fun cc => ?_)
      · replace h := bu_f h cc
        obtain rfl := Option.some.inj h
        exact bv_vret dX6_write_104 rfl ⟨rfl, rfl⟩
      · replace h := bu_t h cc
        refine bv_aload_n dX6_write_98 0 rfl ?_
        refine bv_ldcS (x := 1243) dX6_write_99 (List.mem_of_getElem? (i := 3) rfl) (by decide) ?_
        obtain ⟨v9, p10, h⟩ := bu_bd h
        refine bw_callVv (As := [.ref 1243]) hN okL_162 ⟨_, _, rfl⟩ dX6_write_101 mc_6_40 (c_X6_addText (d := d + 0) hN hR p10) rfl rfl (by decide) ?_
        obtain rfl := Option.some.inj h
        exact bv_vret dX6_write_104 rfl ⟨rfl, rfl⟩
    · replace h := bu_f h cc
      refine bv_aload_n dX6_write_67 0 rfl ?_
      refine bv_ldcS (x := 1242) dX6_write_68 (List.mem_of_getElem? (i := 2) rfl) (by decide) ?_
      obtain ⟨v11, p12, h⟩ := bu_bd h
      refine bw_callVv (As := [.ref 1242]) hN okL_162 ⟨_, _, rfl⟩ dX6_write_70 mc_6_40 (c_X6_addText (d := d + 0) hN hR p12) rfl rfl (by decide) ?_
      refine bv_aload_n dX6_write_73 0 rfl ?_
      refine bv_aload_n dX6_write_74 2 rfl ?_
      refine bz_getA (a := 29) hN okL_26 (hR _ _ _ r0_26_3) dX6_write_75 fl_6_49 rfl ?_
      refine bv_iload_n dX6_write_78 1 rfl ?_
      refine bz_iald hN rkL_29 r1 rfl dX6_write_79 ?_
      obtain ⟨v13, p14, h⟩ := bu_bd h
      refine bw_callS (As := [.int (v11 29 x1.toNatClampNeg)]) dX6_write_80 mc_6_54 (c_X6_liftText (d := d + 5) hN hR p14) rfl rfl (Nat.le_of_ble_eq_true rfl) ?_
      obtain ⟨v15, p16, h⟩ := bu_bd h
      refine bw_callVv (As := [.ref v13]) hN okL_162 ⟨_, _, rfl⟩ dX6_write_83 mc_6_40 (c_X6_addText (d := d + 0) hN hR p16) rfl rfl (by decide) ?_
      refine bv_aload_n dX6_write_86 2 rfl ?_
      refine bz_getI hN okL_26 dX6_write_87 fl_6_58 rfl ?_
      refine bv_iload_n dX6_write_90 1 rfl ?_
      refine bw_callSN (As := [.int (v15 26 7), .int x1]) dX6_write_91 mc_6_61 (c_X11_bit (d := d + 5) hN hR rfl) rfl rfl (by decide) ?_
      refine bv_iconst (v := 1) dX6_write_94 (by decide) ?_
      refine bv_icmp_ne (tgt := 104) dX6_write_95 (by decide) (fun cc => ?_) (fun cc => ?_)
      · replace h := bu_f h cc
        obtain rfl := Option.some.inj h
        exact bv_vret dX6_write_104 rfl ⟨rfl, rfl⟩
      · replace h := bu_t h cc
        refine bv_aload_n dX6_write_98 0 rfl ?_
        refine bv_ldcS (x := 1243) dX6_write_99 (List.mem_of_getElem? (i := 3) rfl) (by decide) ?_
        obtain ⟨v17, p18, h⟩ := bu_bd h
        refine bw_callVv (As := [.ref 1243]) hN okL_162 ⟨_, _, rfl⟩ dX6_write_101 mc_6_40 (c_X6_addText (d := d + 0) hN hR p18) rfl rfl (by decide) ?_
        obtain rfl := Option.some.inj h
        exact bv_vret dX6_write_104 rfl ⟨rfl, rfl⟩
  · replace h := bu_t h cc
    refine bv_aload_n dX6_write_30 0 rfl ?_
    refine bv_ldcS (x := 1240) dX6_write_31 (List.mem_of_getElem? (i := 0) rfl) (by decide) ?_
    obtain ⟨v19, p20, h⟩ := bu_bd h
    refine bw_callVv (As := [.ref 1240]) hN okL_162 ⟨_, _, rfl⟩ dX6_write_33 mc_6_40 (c_X6_addText (d := d + 0) hN hR p20) rfl rfl (by decide) ?_
    refine bv_goto (tgt := 58) dX6_write_36 (by decide) ?_
    refine bv_aload_n dX6_write_58 2 rfl ?_
    refine bz_getA (a := 29) hN okL_26 (hR _ _ _ r0_26_3) dX6_write_59 fl_6_49 rfl ?_
    refine bv_iload_n dX6_write_62 1 rfl ?_
    refine bz_iald hN rkL_29 r1 rfl dX6_write_63 ?_
    refine bv_if_eq (tgt := 86) dX6_write_64 (by decide) (fun cc => ?_) (fun cc => ?_)
    · replace h := bu_t h cc
      refine bv_aload_n dX6_write_86 2 rfl ?_
      refine bz_getI hN okL_26 dX6_write_87 fl_6_58 rfl ?_
      refine bv_iload_n dX6_write_90 1 rfl ?_
      refine bw_callSN (As := [.int (v19 26 7), .int x1]) dX6_write_91 mc_6_61 (c_X11_bit (d := d + 5) hN hR rfl) rfl rfl (by decide) ?_
      refine bv_iconst (v := 1) dX6_write_94 (by decide) ?_
      refine bv_icmp_ne (tgt := 104) dX6_write_95 (by decide) (fun cc => ?_) (fun cc => ?_)
      · replace h := bu_f h cc
        obtain rfl := Option.some.inj h
        exact bv_vret dX6_write_104 rfl ⟨rfl, rfl⟩
      · replace h := bu_t h cc
        refine bv_aload_n dX6_write_98 0 rfl ?_
        refine bv_ldcS (x := 1243) dX6_write_99 (List.mem_of_getElem? (i := 3) rfl) (by decide) ?_
        obtain ⟨v21, p22, h⟩ := bu_bd h
        refine bw_callVv (As := [.ref 1243]) hN okL_162 ⟨_, _, rfl⟩ dX6_write_101 mc_6_40 (c_X6_addText (d := d + 0) hN hR p22) rfl rfl (by decide) ?_
        obtain rfl := Option.some.inj h
        exact bv_vret dX6_write_104 rfl ⟨rfl, rfl⟩
    · replace h := bu_f h cc
      refine bv_aload_n dX6_write_67 0 rfl ?_
      refine bv_ldcS (x := 1242) dX6_write_68 (List.mem_of_getElem? (i := 2) rfl) (by decide) ?_
      obtain ⟨v23, p24, h⟩ := bu_bd h
      refine bw_callVv (As := [.ref 1242]) hN okL_162 ⟨_, _, rfl⟩ dX6_write_70 mc_6_40 (c_X6_addText (d := d + 0) hN hR p24) rfl rfl (by decide) ?_
      refine bv_aload_n dX6_write_73 0 rfl ?_
      refine bv_aload_n dX6_write_74 2 rfl ?_
      refine bz_getA (a := 29) hN okL_26 (hR _ _ _ r0_26_3) dX6_write_75 fl_6_49 rfl ?_
      refine bv_iload_n dX6_write_78 1 rfl ?_
      refine bz_iald hN rkL_29 r1 rfl dX6_write_79 ?_
      obtain ⟨v25, p26, h⟩ := bu_bd h
      refine bw_callS (As := [.int (v23 29 x1.toNatClampNeg)]) dX6_write_80 mc_6_54 (c_X6_liftText (d := d + 5) hN hR p26) rfl rfl (Nat.le_of_ble_eq_true rfl) ?_
      obtain ⟨v27, p28, h⟩ := bu_bd h
      refine bw_callVv (As := [.ref v25]) hN okL_162 ⟨_, _, rfl⟩ dX6_write_83 mc_6_40 (c_X6_addText (d := d + 0) hN hR p28) rfl rfl (by decide) ?_
      refine bv_aload_n dX6_write_86 2 rfl ?_
      refine bz_getI hN okL_26 dX6_write_87 fl_6_58 rfl ?_
      refine bv_iload_n dX6_write_90 1 rfl ?_
      refine bw_callSN (As := [.int (v27 26 7), .int x1]) dX6_write_91 mc_6_61 (c_X11_bit (d := d + 5) hN hR rfl) rfl rfl (by decide) ?_
      refine bv_iconst (v := 1) dX6_write_94 (by decide) ?_
      refine bv_icmp_ne (tgt := 104) dX6_write_95 (by decide) (fun cc => ?_) (fun cc => ?_)
      · replace h := bu_f h cc
        obtain rfl := Option.some.inj h
        exact bv_vret dX6_write_104 rfl ⟨rfl, rfl⟩
      · replace h := bu_t h cc
        refine bv_aload_n dX6_write_98 0 rfl ?_
        refine bv_ldcS (x := 1243) dX6_write_99 (List.mem_of_getElem? (i := 3) rfl) (by decide) ?_
        obtain ⟨v29, p30, h⟩ := bu_bd h
        refine bw_callVv (As := [.ref 1243]) hN okL_162 ⟨_, _, rfl⟩ dX6_write_101 mc_6_40 (c_X6_addText (d := d + 0) hN hR p30) rfl rfl (by decide) ?_
        obtain rfl := Option.some.inj h
        exact bv_vret dX6_write_104 rfl ⟨rfl, rfl⟩
def f_X7_forget (I : bm_TI) (x0 : Nat) : Option (bm_TI) := some (bm_uI (bm_uI I x0 5 0) x0 4 0)
set_option maxHeartbeats 4000000 in
set_option maxRecDepth 100000 in
theorem c_X7_forget {lc : bm_L} {d n : Nat} {I : bm_TI} {J : bm_TJ} {R W : bm_TR} {x0 : Nat} {v : bm_TI} (hN : 181 ≤ n) (hR : bm_RR R) (q_0 : bm_OK x0 7) (h : f_X7_forget I x0 = some v) : bm_C lc m_X7_forget d n n [.ref x0] (I, J, R, W) (fun r M' => r = none ∧ M' = (v, J, R, W)) := by
  refine bm_C.ofV (by decide) (Nat.le_of_ble_eq_true rfl) ?_
  show bm_V lc m_X7_forget d n n n 0 [(0, .ref x0)] [] (I, J, R, W) _
  unfold f_X7_forget at h
  refine bv_aload_n dX7_forget_0 0 rfl ?_
  refine bv_iconst (v := 0) dX7_forget_1 (by decide) ?_
  refine bz_putI hN q_0 dX7_forget_2 fl_7_27 rfl ?_
  refine bv_aload_n dX7_forget_5 0 rfl ?_
  refine bv_iconst (v := 0) dX7_forget_6 (by decide) ?_
  refine bz_putI hN q_0 dX7_forget_7 fl_7_31 rfl ?_
  obtain rfl := Option.some.inj h
  exact bv_vret dX7_forget_10 rfl ⟨rfl, rfl⟩
def f_X7_add (I : bm_TI) (W : bm_TR) (x1 : Option Nat) (x2 : Int32) (x3 : Int32) : Option (bm_TI × bm_TR) := (if 40 ≤ (I 156 4) then some (I, W) else (if bm_ix 40 (I 156 4) = true then (if bm_iwq x1 = true then (if bm_ix 40 ((bm_uI I 158 ((I 156 4).toNatClampNeg) x2) 156 4) = true then some ((bm_uI (bm_uI (bm_uI I 158 ((I 156 4).toNatClampNeg) x2) 159 (((bm_uI I 158 ((I 156 4).toNatClampNeg) x2) 156 4).toNatClampNeg) x3) 156 4 (((bm_uI (bm_uI I 158 ((I 156 4).toNatClampNeg) x2) 159 (((bm_uI I 158 ((I 156 4).toNatClampNeg) x2) 156 4).toNatClampNeg) x3) 156 4) + 1)), (bm_uW W 157 ((I 156 4).toNatClampNeg) x1)) else none) else none) else none))
set_option maxHeartbeats 4000000 in
set_option maxRecDepth 100000 in
theorem c_X7_add {lc : bm_L} {d n : Nat} {I : bm_TI} {J : bm_TJ} {R W : bm_TR} {x1 : Option Nat} {x2 : Int32} {x3 : Int32} {v : bm_TI × bm_TR} (hN : 181 ≤ n) (hR : bm_RR R) (h : f_X7_add I W x1 x2 x3 = some v) : bm_C lc m_X7_add d n n [.ref 156, va_rf x1, .int x2, .int x3] (I, J, R, W) (fun r M' => r = none ∧ M' = (v.1, J, R, v.2)) := by
  refine bm_C.ofV (by decide) (by cases x1 <;> exact Nat.le_of_ble_eq_true rfl) ?_
  rw [show bm_en 0 [.ref 156, va_rf x1, .int x2, .int x3] = [(0, .ref 156), (1, va_rf x1), (2, .int x2), (3, .int x3)] from by cases x1 <;> rfl]
  unfold f_X7_add at h
  refine bv_aload_n dX7_add_0 0 rfl ?_
  refine bz_getI hN okL_156 dX7_add_1 fl_7_31 rfl ?_
  refine bv_bipush (v := 40) dX7_add_4 (by decide) ?_
  refine bv_icmp_ge (tgt := 49) dX7_add_6 (by decide) (fun cc => ?_) (fun cc => ?_)
  · replace h := bu_t h cc
    obtain rfl := Option.some.inj h
    exact bv_vret dX7_add_49 rfl ⟨rfl, rfl⟩
  · replace h := bu_f h cc
    refine bv_aload_n dX7_add_9 0 rfl ?_
    refine bz_getA (a := 157) hN okL_156 (hR _ _ _ r0_156_0) dX7_add_10 fl_7_11 rfl ?_
    refine bv_aload_n dX7_add_13 0 rfl ?_
    refine bz_getI hN okL_156 dX7_add_14 fl_7_31 rfl ?_
    refine bv_aloadq_n (x := x1) dX7_add_17 1 rfl ?_
    obtain ⟨r1, h⟩ := bu_ix h
    obtain ⟨w2, h⟩ := bu_g h
    refine bz_aastQ (v := x1) hN rkL_157 r1 rfl w2 dX7_add_18 ?_
    refine bv_aload_n dX7_add_19 0 rfl ?_
    refine bz_getA (a := 158) hN okL_156 (hR _ _ _ r0_156_1) dX7_add_20 fl_7_17 rfl ?_
    refine bv_aload_n dX7_add_23 0 rfl ?_
    refine bz_getI hN okL_156 dX7_add_24 fl_7_31 rfl ?_
    refine bv_iload_n dX7_add_27 2 rfl ?_
    refine bz_iast hN rkL_158 r1 rfl dX7_add_28 ?_
    refine bv_aload_n dX7_add_29 0 rfl ?_
    refine bz_getA (a := 159) hN okL_156 (hR _ _ _ r0_156_2) dX7_add_30 fl_7_21 rfl ?_
    refine bv_aload_n dX7_add_33 0 rfl ?_
    refine bz_getI hN okL_156 dX7_add_34 fl_7_31 rfl ?_
    refine bv_iload_n dX7_add_37 3 rfl ?_
    obtain ⟨r3, h⟩ := bu_ix h
    refine bz_iast hN rkL_159 r3 rfl dX7_add_38 ?_
    refine bv_aload_n dX7_add_39 0 rfl ?_
    refine bv_dup dX7_add_40 rfl ?_
    refine bz_getI hN okL_156 dX7_add_41 fl_7_31 rfl ?_
    refine bv_iconst (v := 1) dX7_add_44 (by decide) ?_
    refine bv_iadd dX7_add_45 ?_
    refine bz_putI hN okL_156 dX7_add_46 fl_7_31 rfl ?_
    obtain rfl := Option.some.inj h
    exact bv_vret dX7_add_49 rfl ⟨rfl, rfl⟩
def f_X7_canBegin (x0 : Option Nat) : Option (Bool) := (if bm_iwq x0 = true then (if x0 = (some (1000 + 21)) then some true else (if x0 = none then some false else (x0.bind fun a2 => (if bm_iw a2 = true then (if (bm_wso a2) < 4 then some false else some true) else none)))) else none)
set_option maxHeartbeats 4000000 in
set_option maxRecDepth 100000 in
theorem c_X7_canBegin {lc : bm_L} {d n : Nat} {I : bm_TI} {J : bm_TJ} {R W : bm_TR} {x0 : Option Nat} {v : Bool} (hN : 181 ≤ n) (hR : bm_RR R) (h : f_X7_canBegin x0 = some v) : bm_C lc m_X7_canBegin d n n [va_rf x0] (I, J, R, W) (fun r M' => r = some (.int (bm_bi v)) ∧ M' = (I, J, R, W)) := by
  refine bm_C.ofV (by decide) (by cases x0 <;> exact Nat.le_of_ble_eq_true rfl) ?_
  rw [show bm_en 0 [va_rf x0] = [(0, va_rf x0)] from by cases x0 <;> rfl]
  unfold f_X7_canBegin at h
  refine bv_aloadq_n (x := x0) dX7_canBegin_0 0 rfl ?_
  refine bw_getW (j := 21) dX7_canBegin_1 fw_7_76 rfl ?_
  obtain ⟨w1, h⟩ := bu_g h
  refine bv_acmp_eq (x := x0) (y := (some (1000 + 21))) (tgt := 19) dX7_canBegin_4 (by decide) (bm_wq_of w1) (bm_wq_of rfl) (fun cc => ?_) (fun cc => ?_)
  · replace h := bu_t h cc
    refine bv_iconst (v := 1) dX7_canBegin_19 (by decide) ?_
    refine bv_goto (tgt := 24) dX7_canBegin_20 (by decide) ?_
    obtain rfl := Option.some.inj h
    exact bw_bret (b := true) dX7_canBegin_24 rfl ⟨rfl, rfl⟩
  · replace h := bu_f h cc
    refine bv_aloadq_n (x := x0) dX7_canBegin_7 0 rfl ?_
    refine bv_ifnull (x := x0) (tgt := 23) dX7_canBegin_8 (by decide) (fun cc => ?_) (fun cc => ?_)
    · replace h := bu_t h cc
      refine bv_iconst (v := 0) dX7_canBegin_23 (by decide) ?_
      obtain rfl := Option.some.inj h
      exact bw_bret (b := false) dX7_canBegin_24 rfl ⟨rfl, rfl⟩
    · replace h := bu_f h cc
      refine bv_aloadq_n (x := x0) dX7_canBegin_11 0 rfl ?_
      obtain ⟨a2, e3, h⟩ := bu_bd h
      refine bw_some e3 ?_
      obtain ⟨w4, h⟩ := bu_g h
      refine bw_wso w4 dX7_canBegin_12 fw_7_83 ?_
      refine bv_iconst (v := 4) dX7_canBegin_15 (by decide) ?_
      refine bv_icmp_lt (tgt := 23) dX7_canBegin_16 (by decide) (fun cc => ?_) (fun cc => ?_)
      · replace h := bu_t h cc
        refine bv_iconst (v := 0) dX7_canBegin_23 (by decide) ?_
        obtain rfl := Option.some.inj h
        exact bw_bret (b := false) dX7_canBegin_24 rfl ⟨rfl, rfl⟩
      · replace h := bu_f h cc
        refine bv_iconst (v := 1) dX7_canBegin_19 (by decide) ?_
        refine bv_goto (tgt := 24) dX7_canBegin_20 (by decide) ?_
        obtain rfl := Option.some.inj h
        exact bw_bret (b := true) dX7_canBegin_24 rfl ⟨rfl, rfl⟩
def f_X7_readPlain (I : bm_TI) (J : bm_TJ) (W : bm_TR) (x1 : Option Nat) : Option (Bool × bm_TI × bm_TJ × bm_TR) := (x1.bind fun a1 => (if bm_iw a1 = true then (if (bm_wso a1) = 5 then ((f_X5_manHere I J 4).bind fun v71 => (if v71.1 = (-1) then some (false, v71.2, J, W) else (x1.bind fun a73 => (if bm_iw a73 = true then (if (bm_wso a73) = 4 then ((f_X7_add v71.2 W x1 v71.1 0).bind fun v76 => some (true, v76.1, J, v76.2)) else ((f_X5_advance v71.2 J W).bind fun v78 => ((f_X7_add v78.1 v78.2.2 x1 v71.1 0).bind fun v80 => some (true, v80.1, v78.2.1, v80.2)))) else none)))) else (x1.bind fun a4 => (if bm_iw a4 = true then (if (bm_wso a4) = 6 then ((f_X5_orderHere I J).bind fun v60 => (if v60.1 = (-1) then some (false, v60.2, J, W) else (x1.bind fun a62 => (if bm_iw a62 = true then (if (bm_wso a62) = 4 then ((f_X7_add v60.2 W x1 v60.1 0).bind fun v65 => some (true, v65.1, J, v65.2)) else ((f_X5_advance v60.2 J W).bind fun v67 => ((f_X7_add v67.1 v67.2.2 x1 v60.1 0).bind fun v69 => some (true, v69.1, v67.2.1, v69.2)))) else none)))) else (x1.bind fun a7 => (if bm_iw a7 = true then (if (bm_wso a7) = 7 then (if (I 3 6) = 60 then ((f_X5_advance I J W).bind fun v19 => ((f_X5_numberHere v19.1 0 999).bind fun v21 => (if v21.1 = (-1) then some (false, v21.2, v19.2.1, v19.2.2) else (x1.bind fun a23 => (if bm_iw a23 = true then (if (bm_wso a23) = 4 then ((f_X7_add v21.2 v19.2.2 x1 v21.1 (I 3 6)).bind fun v26 => some (true, v26.1, v19.2.1, v26.2)) else ((f_X5_advance v21.2 v19.2.1 v19.2.2).bind fun v28 => ((f_X7_add v28.1 v28.2.2 x1 v21.1 (I 3 6)).bind fun v30 => some (true, v30.1, v28.2.1, v30.2)))) else none))))) else (if (I 3 6) = 61 then ((f_X5_advance I J W).bind fun v32 => ((f_X5_numberHere v32.1 0 999).bind fun v34 => (if v34.1 = (-1) then some (false, v34.2, v32.2.1, v32.2.2) else (x1.bind fun a36 => (if bm_iw a36 = true then (if (bm_wso a36) = 4 then ((f_X7_add v34.2 v32.2.2 x1 v34.1 (I 3 6)).bind fun v39 => some (true, v39.1, v32.2.1, v39.2)) else ((f_X5_advance v34.2 v32.2.1 v32.2.2).bind fun v41 => ((f_X7_add v41.1 v41.2.2 x1 v34.1 (I 3 6)).bind fun v43 => some (true, v43.1, v41.2.1, v43.2)))) else none))))) else (if (I 3 6) = 62 then ((f_X5_advance I J W).bind fun v45 => ((f_X5_numberHere v45.1 0 999).bind fun v47 => (if v47.1 = (-1) then some (false, v47.2, v45.2.1, v45.2.2) else (x1.bind fun a49 => (if bm_iw a49 = true then (if (bm_wso a49) = 4 then ((f_X7_add v47.2 v45.2.2 x1 v47.1 (I 3 6)).bind fun v52 => some (true, v52.1, v45.2.1, v52.2)) else ((f_X5_advance v47.2 v45.2.1 v45.2.2).bind fun v54 => ((f_X7_add v54.1 v54.2.2 x1 v47.1 (I 3 6)).bind fun v56 => some (true, v56.1, v54.2.1, v56.2)))) else none))))) else ((f_X5_refuse I 1).bind fun v58 => some (v58.1, v58.2, J, W))))) else (x1.bind fun a10 => (if bm_iw a10 = true then (if (bm_wso a10) = 4 then ((f_X7_add I W x1 0 0).bind fun v13 => some (true, v13.1, J, v13.2)) else ((f_X5_advance I J W).bind fun v15 => ((f_X7_add v15.1 v15.2.2 x1 0 0).bind fun v17 => some (true, v17.1, v15.2.1, v17.2)))) else none))) else none))) else none))) else none))
set_option maxHeartbeats 4000000 in
set_option maxRecDepth 100000 in
theorem c_X7_readPlain {lc : bm_L} {d n : Nat} {I : bm_TI} {J : bm_TJ} {R W : bm_TR} {x1 : Option Nat} {v : Bool × bm_TI × bm_TJ × bm_TR} (hN : 181 ≤ n) (hR : bm_RR R) (h : f_X7_readPlain I J W x1 = some v) : bm_C lc m_X7_readPlain (d + 3) n n [.ref 156, va_rf x1, .ref 3, .ref 4] (I, J, R, W) (fun r M' => r = some (.int (bm_bi v.1)) ∧ M' = (v.2.1, v.2.2.1, R, v.2.2.2)) := by
  refine bm_C.ofV (by decide) (by cases x1 <;> exact Nat.le_of_ble_eq_true rfl) ?_
  rw [show bm_en 0 [.ref 156, va_rf x1, .ref 3, .ref 4] = [(0, .ref 156), (1, va_rf x1), (2, .ref 3), (3, .ref 4)] from by cases x1 <;> rfl]
  unfold f_X7_readPlain at h
  refine bv_iconst (v := 0) dX7_readPlain_0 (by decide) ?_
  refine bv_istore (ls1 := [(0, .ref 156), (1, va_rf x1), (2, .ref 3), (3, .ref 4), (4, .int 0)]) dX7_readPlain_1 (by decide) (by simp [bm_ok1, bm_rf_cat, Value.category]) rfl ?_
  refine bv_iconst (v := 0) dX7_readPlain_3 (by decide) ?_
  refine bv_istore (ls1 := [(0, .ref 156), (1, va_rf x1), (2, .ref 3), (3, .ref 4), (4, .int 0), (5, .int 0)]) dX7_readPlain_4 (by decide) (by simp [bm_ok1, bm_rf_cat, Value.category]) rfl ?_
  refine bv_aloadq_n (x := x1) dX7_readPlain_6 1 rfl ?_
  obtain ⟨a1, e2, h⟩ := bu_bd h
  refine bw_some e2 ?_
  obtain ⟨w3, h⟩ := bu_g h
  refine bw_wso w3 dX7_readPlain_7 fw_7_83 ?_
  refine bv_iconst (v := 5) dX7_readPlain_10 (by decide) ?_
  refine bv_icmp_ne (tgt := 24) dX7_readPlain_11 (by decide) (fun cc => ?_) (fun cc => ?_)
  · replace h := bu_f h cc
    refine bv_aloadq_n (x := x1) dX7_readPlain_24 1 rfl ?_
    obtain ⟨a4, e5, h⟩ := bu_bd h
    refine bw_some e5 ?_
    obtain ⟨w6, h⟩ := bu_g h
    refine bw_wso w6 dX7_readPlain_25 fw_7_83 ?_
    refine bv_bipush (v := 6) dX7_readPlain_28 (by decide) ?_
    refine bv_icmp_ne (tgt := 43) dX7_readPlain_30 (by decide) (fun cc => ?_) (fun cc => ?_)
    · replace h := bu_f h cc
      refine bv_aloadq_n (x := x1) dX7_readPlain_43 1 rfl ?_
      obtain ⟨a7, e8, h⟩ := bu_bd h
      refine bw_some e8 ?_
      obtain ⟨w9, h⟩ := bu_g h
      refine bw_wso w9 dX7_readPlain_44 fw_7_83 ?_
      refine bv_bipush (v := 7) dX7_readPlain_47 (by decide) ?_
      refine bv_icmp_ne (tgt := 99) dX7_readPlain_49 (by decide) (fun cc => ?_) (fun cc => ?_)
      · replace h := bu_f h cc
        refine bv_iload dX7_readPlain_99 4 rfl ?_
        refine bv_iconst (v := (-1)) dX7_readPlain_101 (by decide) ?_
        refine bv_icmp_ne (tgt := 107) dX7_readPlain_102 (by decide) (fun cc => ?_) (fun cc => ?_)
        rotate_left
        · exact absurd cc (by decide)
        refine bv_aloadq_n (x := x1) dX7_readPlain_107 1 rfl ?_
        obtain ⟨a10, e11, h⟩ := bu_bd h
        refine bw_some e11 ?_
        obtain ⟨w12, h⟩ := bu_g h
        refine bw_wso w12 dX7_readPlain_108 fw_7_83 ?_
        refine bv_iconst (v := 4) dX7_readPlain_111 (by decide) ?_
        refine bv_icmp_eq (tgt := 119) dX7_readPlain_112 (by decide) (fun cc => ?_) (fun cc => ?_)
        · replace h := bu_t h cc
          refine bv_aload_n dX7_readPlain_119 0 rfl ?_
          refine bv_aloadq_n (x := x1) dX7_readPlain_120 1 rfl ?_
          refine bv_iload dX7_readPlain_121 4 rfl ?_
          refine bv_iload dX7_readPlain_123 5 rfl ?_
          obtain ⟨v13, p14, h⟩ := bu_bd h
          refine bw_callVv (As := [va_rf x1, .int 0, .int 0]) hN okL_156 ⟨_, _, rfl⟩ dX7_readPlain_125 mc_7_50 (c_X7_add (d := d + 2) hN hR p14) rfl rfl (by decide) ?_
          refine bv_iconst (v := 1) dX7_readPlain_128 (by decide) ?_
          obtain rfl := Option.some.inj h
          exact bw_bret (b := true) dX7_readPlain_129 rfl ⟨rfl, rfl⟩
        · replace h := bu_f h cc
          refine bv_aload_n dX7_readPlain_115 2 rfl ?_
          obtain ⟨v15, p16, h⟩ := bu_bd h
          refine bw_callVv (As := []) hN okL_3 ⟨_, _, rfl⟩ dX7_readPlain_116 mc_7_47 (c_X5_advance (d := d + 0) hN hR p16) rfl rfl (by decide) ?_
          refine bv_aload_n dX7_readPlain_119 0 rfl ?_
          refine bv_aloadq_n (x := x1) dX7_readPlain_120 1 rfl ?_
          refine bv_iload dX7_readPlain_121 4 rfl ?_
          refine bv_iload dX7_readPlain_123 5 rfl ?_
          obtain ⟨v17, p18, h⟩ := bu_bd h
          refine bw_callVv (As := [va_rf x1, .int 0, .int 0]) hN okL_156 ⟨_, _, rfl⟩ dX7_readPlain_125 mc_7_50 (c_X7_add (d := d + 2) hN hR p18) rfl rfl (by decide) ?_
          refine bv_iconst (v := 1) dX7_readPlain_128 (by decide) ?_
          obtain rfl := Option.some.inj h
          exact bw_bret (b := true) dX7_readPlain_129 rfl ⟨rfl, rfl⟩
      · replace h := bu_t h cc
        refine bv_aload_n dX7_readPlain_52 2 rfl ?_
        refine bz_getI hN okL_3 dX7_readPlain_53 fl_7_60 rfl ?_
        refine bv_istore (ls1 := [(0, .ref 156), (1, va_rf x1), (2, .ref 3), (3, .ref 4), (4, .int 0), (5, .int (I 3 6))]) dX7_readPlain_56 (by decide) (by simp [bm_ok1, bm_rf_cat, Value.category]) rfl ?_
        refine bv_iload dX7_readPlain_58 5 rfl ?_
        refine bv_bipush (v := 60) dX7_readPlain_60 (by decide) ?_
        refine bv_icmp_eq (tgt := 85) dX7_readPlain_62 (by decide) (fun cc => ?_) (fun cc => ?_)
        · replace h := bu_t h cc
          refine bv_aload_n dX7_readPlain_85 2 rfl ?_
          obtain ⟨v19, p20, h⟩ := bu_bd h
          refine bw_callVv (As := []) hN okL_3 ⟨_, _, rfl⟩ dX7_readPlain_86 mc_7_47 (c_X5_advance (d := d + 0) hN hR p20) rfl rfl (by decide) ?_
          refine bv_aload_n dX7_readPlain_89 2 rfl ?_
          refine bv_iconst (v := 0) dX7_readPlain_90 (by decide) ?_
          refine bv_sipush (v := 999) dX7_readPlain_91 (by decide) ?_
          obtain ⟨v21, p22, h⟩ := bu_bd h
          refine bw_callV (As := [.int 0, .int 999]) hN okL_3 ⟨_, _, rfl⟩ dX7_readPlain_94 mc_7_93 (c_X5_numberHere (d := d + 1) hN hR p22) rfl rfl (by decide) ?_
          refine bv_istore (ls1 := [(0, .ref 156), (1, va_rf x1), (2, .ref 3), (3, .ref 4), (4, .int v21.1), (5, .int (I 3 6))]) dX7_readPlain_97 (by decide) (by simp [bm_ok1, bm_rf_cat, Value.category]) rfl ?_
          refine bv_iload dX7_readPlain_99 4 rfl ?_
          refine bv_iconst (v := (-1)) dX7_readPlain_101 (by decide) ?_
          refine bv_icmp_ne (tgt := 107) dX7_readPlain_102 (by decide) (fun cc => ?_) (fun cc => ?_)
          · replace h := bu_f h cc
            refine bv_aloadq_n (x := x1) dX7_readPlain_107 1 rfl ?_
            obtain ⟨a23, e24, h⟩ := bu_bd h
            refine bw_some e24 ?_
            obtain ⟨w25, h⟩ := bu_g h
            refine bw_wso w25 dX7_readPlain_108 fw_7_83 ?_
            refine bv_iconst (v := 4) dX7_readPlain_111 (by decide) ?_
            refine bv_icmp_eq (tgt := 119) dX7_readPlain_112 (by decide) (fun cc => ?_) (fun cc => ?_)
            · replace h := bu_t h cc
              refine bv_aload_n dX7_readPlain_119 0 rfl ?_
              refine bv_aloadq_n (x := x1) dX7_readPlain_120 1 rfl ?_
              refine bv_iload dX7_readPlain_121 4 rfl ?_
              refine bv_iload dX7_readPlain_123 5 rfl ?_
              obtain ⟨v26, p27, h⟩ := bu_bd h
              refine bw_callVv (As := [va_rf x1, .int v21.1, .int (I 3 6)]) hN okL_156 ⟨_, _, rfl⟩ dX7_readPlain_125 mc_7_50 (c_X7_add (d := d + 2) hN hR p27) rfl rfl (by decide) ?_
              refine bv_iconst (v := 1) dX7_readPlain_128 (by decide) ?_
              obtain rfl := Option.some.inj h
              exact bw_bret (b := true) dX7_readPlain_129 rfl ⟨rfl, rfl⟩
            · replace h := bu_f h cc
              refine bv_aload_n dX7_readPlain_115 2 rfl ?_
              obtain ⟨v28, p29, h⟩ := bu_bd h
              refine bw_callVv (As := []) hN okL_3 ⟨_, _, rfl⟩ dX7_readPlain_116 mc_7_47 (c_X5_advance (d := d + 0) hN hR p29) rfl rfl (by decide) ?_
              refine bv_aload_n dX7_readPlain_119 0 rfl ?_
              refine bv_aloadq_n (x := x1) dX7_readPlain_120 1 rfl ?_
              refine bv_iload dX7_readPlain_121 4 rfl ?_
              refine bv_iload dX7_readPlain_123 5 rfl ?_
              obtain ⟨v30, p31, h⟩ := bu_bd h
              refine bw_callVv (As := [va_rf x1, .int v21.1, .int (I 3 6)]) hN okL_156 ⟨_, _, rfl⟩ dX7_readPlain_125 mc_7_50 (c_X7_add (d := d + 2) hN hR p31) rfl rfl (by decide) ?_
              refine bv_iconst (v := 1) dX7_readPlain_128 (by decide) ?_
              obtain rfl := Option.some.inj h
              exact bw_bret (b := true) dX7_readPlain_129 rfl ⟨rfl, rfl⟩
          · replace h := bu_t h cc
            refine bv_iconst (v := 0) dX7_readPlain_105 (by decide) ?_
            obtain rfl := Option.some.inj h
            exact bw_bret (b := false) dX7_readPlain_106 rfl ⟨rfl, rfl⟩
        · replace h := bu_f h cc
          refine bv_iload dX7_readPlain_65 5 rfl ?_
          refine bv_bipush (v := 61) dX7_readPlain_67 (by decide) ?_
          refine bv_icmp_eq (tgt := 85) dX7_readPlain_69 (by decide) (fun cc => ?_) (fun cc => ?_)
          · replace h := bu_t h cc
            refine bv_aload_n dX7_readPlain_85 2 rfl ?_
            obtain ⟨v32, p33, h⟩ := bu_bd h
            refine bw_callVv (As := []) hN okL_3 ⟨_, _, rfl⟩ dX7_readPlain_86 mc_7_47 (c_X5_advance (d := d + 0) hN hR p33) rfl rfl (by decide) ?_
            refine bv_aload_n dX7_readPlain_89 2 rfl ?_
            refine bv_iconst (v := 0) dX7_readPlain_90 (by decide) ?_
            refine bv_sipush (v := 999) dX7_readPlain_91 (by decide) ?_
            obtain ⟨v34, p35, h⟩ := bu_bd h
            refine bw_callV (As := [.int 0, .int 999]) hN okL_3 ⟨_, _, rfl⟩ dX7_readPlain_94 mc_7_93 (c_X5_numberHere (d := d + 1) hN hR p35) rfl rfl (by decide) ?_
            refine bv_istore (ls1 := [(0, .ref 156), (1, va_rf x1), (2, .ref 3), (3, .ref 4), (4, .int v34.1), (5, .int (I 3 6))]) dX7_readPlain_97 (by decide) (by simp [bm_ok1, bm_rf_cat, Value.category]) rfl ?_
            refine bv_iload dX7_readPlain_99 4 rfl ?_
            refine bv_iconst (v := (-1)) dX7_readPlain_101 (by decide) ?_
            refine bv_icmp_ne (tgt := 107) dX7_readPlain_102 (by decide) (fun cc => ?_) (fun cc => ?_)
            · replace h := bu_f h cc
              refine bv_aloadq_n (x := x1) dX7_readPlain_107 1 rfl ?_
              obtain ⟨a36, e37, h⟩ := bu_bd h
              refine bw_some e37 ?_
              obtain ⟨w38, h⟩ := bu_g h
              refine bw_wso w38 dX7_readPlain_108 fw_7_83 ?_
              refine bv_iconst (v := 4) dX7_readPlain_111 (by decide) ?_
              refine bv_icmp_eq (tgt := 119) dX7_readPlain_112 (by decide) (fun cc => ?_) (fun cc => ?_)
              · replace h := bu_t h cc
                refine bv_aload_n dX7_readPlain_119 0 rfl ?_
                refine bv_aloadq_n (x := x1) dX7_readPlain_120 1 rfl ?_
                refine bv_iload dX7_readPlain_121 4 rfl ?_
                refine bv_iload dX7_readPlain_123 5 rfl ?_
                obtain ⟨v39, p40, h⟩ := bu_bd h
                refine bw_callVv (As := [va_rf x1, .int v34.1, .int (I 3 6)]) hN okL_156 ⟨_, _, rfl⟩ dX7_readPlain_125 mc_7_50 (c_X7_add (d := d + 2) hN hR p40) rfl rfl (by decide) ?_
                refine bv_iconst (v := 1) dX7_readPlain_128 (by decide) ?_
                obtain rfl := Option.some.inj h
                exact bw_bret (b := true) dX7_readPlain_129 rfl ⟨rfl, rfl⟩
              · replace h := bu_f h cc
                refine bv_aload_n dX7_readPlain_115 2 rfl ?_
                obtain ⟨v41, p42, h⟩ := bu_bd h
                refine bw_callVv (As := []) hN okL_3 ⟨_, _, rfl⟩ dX7_readPlain_116 mc_7_47 (c_X5_advance (d := d + 0) hN hR p42) rfl rfl (by decide) ?_
                refine bv_aload_n dX7_readPlain_119 0 rfl ?_
                refine bv_aloadq_n (x := x1) dX7_readPlain_120 1 rfl ?_
                refine bv_iload dX7_readPlain_121 4 rfl ?_
                refine bv_iload dX7_readPlain_123 5 rfl ?_
                obtain ⟨v43, p44, h⟩ := bu_bd h
                refine bw_callVv (As := [va_rf x1, .int v34.1, .int (I 3 6)]) hN okL_156 ⟨_, _, rfl⟩ dX7_readPlain_125 mc_7_50 (c_X7_add (d := d + 2) hN hR p44) rfl rfl (by decide) ?_
                refine bv_iconst (v := 1) dX7_readPlain_128 (by decide) ?_
                obtain rfl := Option.some.inj h
                exact bw_bret (b := true) dX7_readPlain_129 rfl ⟨rfl, rfl⟩
            · replace h := bu_t h cc
              refine bv_iconst (v := 0) dX7_readPlain_105 (by decide) ?_
              obtain rfl := Option.some.inj h
              exact bw_bret (b := false) dX7_readPlain_106 rfl ⟨rfl, rfl⟩
          · replace h := bu_f h cc
            refine bv_iload dX7_readPlain_72 5 rfl ?_
            refine bv_bipush (v := 62) dX7_readPlain_74 (by decide) ?_
            refine bv_icmp_eq (tgt := 85) dX7_readPlain_76 (by decide) (fun cc => ?_) (fun cc => ?_)
            · replace h := bu_t h cc
              refine bv_aload_n dX7_readPlain_85 2 rfl ?_
              obtain ⟨v45, p46, h⟩ := bu_bd h
              refine bw_callVv (As := []) hN okL_3 ⟨_, _, rfl⟩ dX7_readPlain_86 mc_7_47 (c_X5_advance (d := d + 0) hN hR p46) rfl rfl (by decide) ?_
              refine bv_aload_n dX7_readPlain_89 2 rfl ?_
              refine bv_iconst (v := 0) dX7_readPlain_90 (by decide) ?_
              refine bv_sipush (v := 999) dX7_readPlain_91 (by decide) ?_
              obtain ⟨v47, p48, h⟩ := bu_bd h
              refine bw_callV (As := [.int 0, .int 999]) hN okL_3 ⟨_, _, rfl⟩ dX7_readPlain_94 mc_7_93 (c_X5_numberHere (d := d + 1) hN hR p48) rfl rfl (by decide) ?_
              refine bv_istore (ls1 := [(0, .ref 156), (1, va_rf x1), (2, .ref 3), (3, .ref 4), (4, .int v47.1), (5, .int (I 3 6))]) dX7_readPlain_97 (by decide) (by simp [bm_ok1, bm_rf_cat, Value.category]) rfl ?_
              refine bv_iload dX7_readPlain_99 4 rfl ?_
              refine bv_iconst (v := (-1)) dX7_readPlain_101 (by decide) ?_
              refine bv_icmp_ne (tgt := 107) dX7_readPlain_102 (by decide) (fun cc => ?_) (fun cc => ?_)
              · replace h := bu_f h cc
                refine bv_aloadq_n (x := x1) dX7_readPlain_107 1 rfl ?_
                obtain ⟨a49, e50, h⟩ := bu_bd h
                refine bw_some e50 ?_
                obtain ⟨w51, h⟩ := bu_g h
                refine bw_wso w51 dX7_readPlain_108 fw_7_83 ?_
                refine bv_iconst (v := 4) dX7_readPlain_111 (by decide) ?_
                refine bv_icmp_eq (tgt := 119) dX7_readPlain_112 (by decide) (fun cc => ?_) (fun cc => ?_)
                · replace h := bu_t h cc
                  refine bv_aload_n dX7_readPlain_119 0 rfl ?_
                  refine bv_aloadq_n (x := x1) dX7_readPlain_120 1 rfl ?_
                  refine bv_iload dX7_readPlain_121 4 rfl ?_
                  refine bv_iload dX7_readPlain_123 5 rfl ?_
                  obtain ⟨v52, p53, h⟩ := bu_bd h
                  refine bw_callVv (As := [va_rf x1, .int v47.1, .int (I 3 6)]) hN okL_156 ⟨_, _, rfl⟩ dX7_readPlain_125 mc_7_50 (c_X7_add (d := d + 2) hN hR p53) rfl rfl (by decide) ?_
                  refine bv_iconst (v := 1) dX7_readPlain_128 (by decide) ?_
                  obtain rfl := Option.some.inj h
                  exact bw_bret (b := true) dX7_readPlain_129 rfl ⟨rfl, rfl⟩
                · replace h := bu_f h cc
                  refine bv_aload_n dX7_readPlain_115 2 rfl ?_
                  obtain ⟨v54, p55, h⟩ := bu_bd h
                  refine bw_callVv (As := []) hN okL_3 ⟨_, _, rfl⟩ dX7_readPlain_116 mc_7_47 (c_X5_advance (d := d + 0) hN hR p55) rfl rfl (by decide) ?_
                  refine bv_aload_n dX7_readPlain_119 0 rfl ?_
                  refine bv_aloadq_n (x := x1) dX7_readPlain_120 1 rfl ?_
                  refine bv_iload dX7_readPlain_121 4 rfl ?_
                  refine bv_iload dX7_readPlain_123 5 rfl ?_
                  obtain ⟨v56, p57, h⟩ := bu_bd h
                  refine bw_callVv (As := [va_rf x1, .int v47.1, .int (I 3 6)]) hN okL_156 ⟨_, _, rfl⟩ dX7_readPlain_125 mc_7_50 (c_X7_add (d := d + 2) hN hR p57) rfl rfl (by decide) ?_
                  refine bv_iconst (v := 1) dX7_readPlain_128 (by decide) ?_
                  obtain rfl := Option.some.inj h
                  exact bw_bret (b := true) dX7_readPlain_129 rfl ⟨rfl, rfl⟩
              · replace h := bu_t h cc
                refine bv_iconst (v := 0) dX7_readPlain_105 (by decide) ?_
                obtain rfl := Option.some.inj h
                exact bw_bret (b := false) dX7_readPlain_106 rfl ⟨rfl, rfl⟩
            · replace h := bu_f h cc
              refine bv_aload_n dX7_readPlain_79 2 rfl ?_
              refine bv_iconst (v := 1) dX7_readPlain_80 (by decide) ?_
              obtain ⟨v58, p59, h⟩ := bu_bd h
              refine bw_callV (As := [.int 1]) hN okL_3 ⟨_, _, rfl⟩ dX7_readPlain_81 mc_7_66 (c_X5_refuse (d := d + 2) hN hR p59) rfl rfl (by decide) ?_
              obtain rfl := Option.some.inj h
              exact bw_bret (b := v58.1) dX7_readPlain_84 rfl ⟨rfl, rfl⟩
    · replace h := bu_t h cc
      refine bv_aload_n dX7_readPlain_33 2 rfl ?_
      refine bv_aload_n dX7_readPlain_34 3 rfl ?_
      obtain ⟨v60, p61, h⟩ := bu_bd h
      refine bw_callV (As := [.ref 4]) hN okL_3 ⟨_, _, rfl⟩ dX7_readPlain_35 mc_7_90 (c_X5_orderHere (d := d + 1) hN hR p61) rfl rfl (by decide) ?_
      refine bv_istore (ls1 := [(0, .ref 156), (1, va_rf x1), (2, .ref 3), (3, .ref 4), (4, .int v60.1), (5, .int 0)]) dX7_readPlain_38 (by decide) (by simp [bm_ok1, bm_rf_cat, Value.category]) rfl ?_
      refine bv_goto (tgt := 99) dX7_readPlain_40 (by decide) ?_
      refine bv_iload dX7_readPlain_99 4 rfl ?_
      refine bv_iconst (v := (-1)) dX7_readPlain_101 (by decide) ?_
      refine bv_icmp_ne (tgt := 107) dX7_readPlain_102 (by decide) (fun cc => ?_) (fun cc => ?_)
      · replace h := bu_f h cc
        refine bv_aloadq_n (x := x1) dX7_readPlain_107 1 rfl ?_
        obtain ⟨a62, e63, h⟩ := bu_bd h
        refine bw_some e63 ?_
        obtain ⟨w64, h⟩ := bu_g h
        refine bw_wso w64 dX7_readPlain_108 fw_7_83 ?_
        refine bv_iconst (v := 4) dX7_readPlain_111 (by decide) ?_
        refine bv_icmp_eq (tgt := 119) dX7_readPlain_112 (by decide) (fun cc => ?_) (fun cc => ?_)
        · replace h := bu_t h cc
          refine bv_aload_n dX7_readPlain_119 0 rfl ?_
          refine bv_aloadq_n (x := x1) dX7_readPlain_120 1 rfl ?_
          refine bv_iload dX7_readPlain_121 4 rfl ?_
          refine bv_iload dX7_readPlain_123 5 rfl ?_
          obtain ⟨v65, p66, h⟩ := bu_bd h
          refine bw_callVv (As := [va_rf x1, .int v60.1, .int 0]) hN okL_156 ⟨_, _, rfl⟩ dX7_readPlain_125 mc_7_50 (c_X7_add (d := d + 2) hN hR p66) rfl rfl (by decide) ?_
          refine bv_iconst (v := 1) dX7_readPlain_128 (by decide) ?_
          obtain rfl := Option.some.inj h
          exact bw_bret (b := true) dX7_readPlain_129 rfl ⟨rfl, rfl⟩
        · replace h := bu_f h cc
          refine bv_aload_n dX7_readPlain_115 2 rfl ?_
          obtain ⟨v67, p68, h⟩ := bu_bd h
          refine bw_callVv (As := []) hN okL_3 ⟨_, _, rfl⟩ dX7_readPlain_116 mc_7_47 (c_X5_advance (d := d + 0) hN hR p68) rfl rfl (by decide) ?_
          refine bv_aload_n dX7_readPlain_119 0 rfl ?_
          refine bv_aloadq_n (x := x1) dX7_readPlain_120 1 rfl ?_
          refine bv_iload dX7_readPlain_121 4 rfl ?_
          refine bv_iload dX7_readPlain_123 5 rfl ?_
          obtain ⟨v69, p70, h⟩ := bu_bd h
          refine bw_callVv (As := [va_rf x1, .int v60.1, .int 0]) hN okL_156 ⟨_, _, rfl⟩ dX7_readPlain_125 mc_7_50 (c_X7_add (d := d + 2) hN hR p70) rfl rfl (by decide) ?_
          refine bv_iconst (v := 1) dX7_readPlain_128 (by decide) ?_
          obtain rfl := Option.some.inj h
          exact bw_bret (b := true) dX7_readPlain_129 rfl ⟨rfl, rfl⟩
      · replace h := bu_t h cc
        refine bv_iconst (v := 0) dX7_readPlain_105 (by decide) ?_
        obtain rfl := Option.some.inj h
        exact bw_bret (b := false) dX7_readPlain_106 rfl ⟨rfl, rfl⟩
  · replace h := bu_t h cc
    refine bv_aload_n dX7_readPlain_14 2 rfl ?_
    refine bv_aload_n dX7_readPlain_15 3 rfl ?_
    obtain ⟨v71, p72, h⟩ := bu_bd h
    refine bw_callV (As := [.ref 4]) hN okL_3 ⟨_, _, rfl⟩ dX7_readPlain_16 mc_7_86 (c_X5_manHere (d := d + 1) hN hR okL_4 p72) rfl rfl (by decide) ?_
    refine bv_istore (ls1 := [(0, .ref 156), (1, va_rf x1), (2, .ref 3), (3, .ref 4), (4, .int v71.1), (5, .int 0)]) dX7_readPlain_19 (by decide) (by simp [bm_ok1, bm_rf_cat, Value.category]) rfl ?_
    refine bv_goto (tgt := 99) dX7_readPlain_21 (by decide) ?_
    refine bv_iload dX7_readPlain_99 4 rfl ?_
    refine bv_iconst (v := (-1)) dX7_readPlain_101 (by decide) ?_
    refine bv_icmp_ne (tgt := 107) dX7_readPlain_102 (by decide) (fun cc => ?_) (fun cc => ?_)
    · replace h := bu_f h cc
      refine bv_aloadq_n (x := x1) dX7_readPlain_107 1 rfl ?_
      obtain ⟨a73, e74, h⟩ := bu_bd h
      refine bw_some e74 ?_
      obtain ⟨w75, h⟩ := bu_g h
      refine bw_wso w75 dX7_readPlain_108 fw_7_83 ?_
      refine bv_iconst (v := 4) dX7_readPlain_111 (by decide) ?_
      refine bv_icmp_eq (tgt := 119) dX7_readPlain_112 (by decide) (fun cc => ?_) (fun cc => ?_)
      · replace h := bu_t h cc
        refine bv_aload_n dX7_readPlain_119 0 rfl ?_
        refine bv_aloadq_n (x := x1) dX7_readPlain_120 1 rfl ?_
        refine bv_iload dX7_readPlain_121 4 rfl ?_
        refine bv_iload dX7_readPlain_123 5 rfl ?_
        obtain ⟨v76, p77, h⟩ := bu_bd h
        refine bw_callVv (As := [va_rf x1, .int v71.1, .int 0]) hN okL_156 ⟨_, _, rfl⟩ dX7_readPlain_125 mc_7_50 (c_X7_add (d := d + 2) hN hR p77) rfl rfl (by decide) ?_
        refine bv_iconst (v := 1) dX7_readPlain_128 (by decide) ?_
        obtain rfl := Option.some.inj h
        exact bw_bret (b := true) dX7_readPlain_129 rfl ⟨rfl, rfl⟩
      · replace h := bu_f h cc
        refine bv_aload_n dX7_readPlain_115 2 rfl ?_
        obtain ⟨v78, p79, h⟩ := bu_bd h
        refine bw_callVv (As := []) hN okL_3 ⟨_, _, rfl⟩ dX7_readPlain_116 mc_7_47 (c_X5_advance (d := d + 0) hN hR p79) rfl rfl (by decide) ?_
        refine bv_aload_n dX7_readPlain_119 0 rfl ?_
        refine bv_aloadq_n (x := x1) dX7_readPlain_120 1 rfl ?_
        refine bv_iload dX7_readPlain_121 4 rfl ?_
        refine bv_iload dX7_readPlain_123 5 rfl ?_
        obtain ⟨v80, p81, h⟩ := bu_bd h
        refine bw_callVv (As := [va_rf x1, .int v71.1, .int 0]) hN okL_156 ⟨_, _, rfl⟩ dX7_readPlain_125 mc_7_50 (c_X7_add (d := d + 2) hN hR p81) rfl rfl (by decide) ?_
        refine bv_iconst (v := 1) dX7_readPlain_128 (by decide) ?_
        obtain rfl := Option.some.inj h
        exact bw_bret (b := true) dX7_readPlain_129 rfl ⟨rfl, rfl⟩
    · replace h := bu_t h cc
      refine bv_iconst (v := 0) dX7_readPlain_105 (by decide) ?_
      obtain rfl := Option.some.inj h
      exact bw_bret (b := false) dX7_readPlain_106 rfl ⟨rfl, rfl⟩
def m_grp (j : Nat) : bm_I := match j with
  | 0 => m_X7_readCondition
  | 1 => m_X7_readAll
  | _ => m_X7_readOne
def bm_rec (lc : bm_L) (R : bm_TR) (rec : Nat → bm_TI → bm_TJ → bm_TR → Int32 → Option (Bool × bm_TI × bm_TJ × bm_TR)) (D n : Nat) : Prop := ∀ (j : Nat) (I : bm_TI) (J : bm_TJ) (W : bm_TR) (x3 : Int32) (v : Bool × bm_TI × bm_TJ × bm_TR), rec j I J W x3 = some v → bm_C lc (m_grp j) D n n [.ref 156, .ref 3, .ref 4, .int x3] (I, J, R, W) (fun r M' => r = some (.int (bm_bi v.1)) ∧ M' = (v.2.1, v.2.2.1, R, v.2.2.2))
def f_X7_readOne_B (rec : Nat → bm_TI → bm_TJ → bm_TR → Int32 → Option (Bool × bm_TI × bm_TJ × bm_TR)) (I : bm_TI) (J : bm_TJ) (W : bm_TR) (x3 : Int32) : Option (Bool × bm_TI × bm_TJ × bm_TR) := (if (I 3 6) = 40 then (if 20 ≤ (I 156 5) then ((f_X5_refuse I 4).bind fun v18 => some (v18.1, v18.2, J, W)) else (if x3 ≤ 8 then ((f_X5_advance (bm_uI I 156 5 ((I 156 5) + 1)) J W).bind fun v20 => ((rec 0 v20.1 v20.2.1 v20.2.2 (x3 + 1)).bind fun v22 => (if v22.1 = true then ((f_X5_takeSign v22.2.1 v22.2.2.1 v22.2.2.2 41).bind fun v24 => (if v24.1 = true then some (true, v24.2.1, v24.2.2.1, v24.2.2.2) else some (false, v24.2.1, v24.2.2.1, v24.2.2.2))) else some (false, v22.2.1, v22.2.2.1, v22.2.2.2)))) else ((f_X5_refuse I 4).bind fun v26 => some (v26.1, v26.2, J, W)))) else ((f_X7_canBegin (W 3 8)).bind fun v1 => (if v1 = true then (if 20 ≤ (I 156 5) then ((f_X5_refuse I 4).bind fun v3 => some (v3.1, v3.2, J, W)) else (if x3 ≤ 8 then ((f_X5_advance (bm_uI I 156 5 ((I 156 5) + 1)) J W).bind fun v5 => (if bm_iwq (W 3 8) = true then (if (W 3 8) = (some (1000 + 21)) then ((rec 2 v5.1 v5.2.1 v5.2.2 (x3 + 1)).bind fun v10 => (if v10.1 = true then ((f_X7_add v10.2.1 v10.2.2.2 (some (1000 + 21)) 0 0).bind fun v12 => some (true, v12.1, v10.2.2.1, v12.2)) else some (false, v10.2.1, v10.2.2.1, v10.2.2.2))) else ((f_X7_readPlain v5.1 v5.2.1 v5.2.2 (W 3 8)).bind fun v8 => some (v8.1, v8.2.1, v8.2.2.1, v8.2.2.2))) else none)) else ((f_X5_refuse I 4).bind fun v14 => some (v14.1, v14.2, J, W)))) else ((f_X5_refuse I 1).bind fun v16 => some (v16.1, v16.2, J, W)))))
set_option maxHeartbeats 4000000 in
set_option maxRecDepth 100000 in
theorem c_X7_readOne {lc : bm_L} {d n : Nat} {I : bm_TI} {J : bm_TJ} {R W : bm_TR} {x3 : Int32} {v : Bool × bm_TI × bm_TJ × bm_TR} (hN : 181 ≤ n) (hR : bm_RR R) {rec : Nat → bm_TI → bm_TJ → bm_TR → Int32 → Option (Bool × bm_TI × bm_TJ × bm_TR)} (hrec : bm_rec lc R rec (d + 3) n) (h : f_X7_readOne_B rec I J W x3 = some v) : bm_C lc m_X7_readOne (d + 4) n n [.ref 156, .ref 3, .ref 4, .int x3] (I, J, R, W) (fun r M' => r = some (.int (bm_bi v.1)) ∧ M' = (v.2.1, v.2.2.1, R, v.2.2.2)) := by
  refine bm_C.ofV (by decide) (Nat.le_of_ble_eq_true rfl) ?_
  show bm_V lc m_X7_readOne (d + 4) n n n 0 [(0, .ref 156), (1, .ref 3), (2, .ref 4), (3, .int x3)] [] (I, J, R, W) _
  unfold f_X7_readOne_B at h
  refine bv_aload_n dX7_readOne_0 1 rfl ?_
  refine bz_getI hN okL_3 dX7_readOne_1 fl_7_60 rfl ?_
  refine bv_bipush (v := 40) dX7_readOne_4 (by decide) ?_
  refine bv_icmp_ne (tgt := 13) dX7_readOne_6 (by decide) (fun cc => ?_) (fun cc => ?_)
  · replace h := bu_f h cc
    refine bv_iconst (v := 0) dX7_readOne_13 (by decide) ?_
    refine bv_istore (ls1 := [(0, .ref 156), (1, .ref 3), (2, .ref 4), (3, .int x3), (4, .int 0)]) dX7_readOne_14 (by decide) rfl rfl ?_
    refine bv_aload_n dX7_readOne_16 1 rfl ?_
    refine bz_getQ hN okL_3 dX7_readOne_17 fl_7_38 rfl ?_
    refine bv_astoreq (x := (W 3 8)) (ls1 := [(0, .ref 156), (1, .ref 3), (2, .ref 4), (3, .int x3), (4, .int 0), (5, va_rf (W 3 8))]) dX7_readOne_20 (by decide) rfl rfl ?_
    refine bv_iload dX7_readOne_22 4 rfl ?_
    refine bv_if_ne (tgt := 41) dX7_readOne_24 (by decide) (fun cc => ?_) (fun cc => ?_)
    · exact absurd cc (by decide)
    refine bv_aloadq (x := (W 3 8)) dX7_readOne_27 5 rfl ?_
    obtain ⟨v1, p2, h⟩ := bu_bd h
    refine bw_callS (As := [va_rf (W 3 8)]) dX7_readOne_29 mc_7_62 (c_X7_canBegin (d := d + 3) hN hR p2) rfl rfl (by decide) ?_
    refine bw_ifB_ne (b := v1) (tgt := 41) dX7_readOne_32 (by decide) (fun cc => ?_) (fun cc => ?_)
    · replace h := bu_bt h cc
      refine bv_aload_n dX7_readOne_41 0 rfl ?_
      refine bz_getI hN okL_156 dX7_readOne_42 fl_7_27 rfl ?_
      refine bv_bipush (v := 20) dX7_readOne_45 (by decide) ?_
      refine bv_icmp_ge (tgt := 56) dX7_readOne_47 (by decide) (fun cc => ?_) (fun cc => ?_)
      · replace h := bu_t h cc
        refine bv_aload_n dX7_readOne_56 1 rfl ?_
        refine bv_iconst (v := 4) dX7_readOne_57 (by decide) ?_
        obtain ⟨v3, p4, h⟩ := bu_bd h
        refine bw_callV (As := [.int 4]) hN okL_3 ⟨_, _, rfl⟩ dX7_readOne_58 mc_7_66 (c_X5_refuse (d := d + 3) hN hR p4) rfl rfl (by decide) ?_
        obtain rfl := Option.some.inj h
        exact bw_bret (b := v3.1) dX7_readOne_61 rfl ⟨rfl, rfl⟩
      · replace h := bu_f h cc
        refine bv_iload_n dX7_readOne_50 3 rfl ?_
        refine bv_bipush (v := 8) dX7_readOne_51 (by decide) ?_
        refine bv_icmp_le (tgt := 62) dX7_readOne_53 (by decide) (fun cc => ?_) (fun cc => ?_)
        · replace h := bu_t h cc
          refine bv_aload_n dX7_readOne_62 0 rfl ?_
          refine bv_dup dX7_readOne_63 rfl ?_
          refine bz_getI hN okL_156 dX7_readOne_64 fl_7_27 rfl ?_
          refine bv_iconst (v := 1) dX7_readOne_67 (by decide) ?_
          refine bv_iadd dX7_readOne_68 ?_
          refine bz_putI hN okL_156 dX7_readOne_69 fl_7_27 rfl ?_
          refine bv_aload_n dX7_readOne_72 1 rfl ?_
          obtain ⟨v5, p6, h⟩ := bu_bd h
          refine bw_callVv (As := []) hN okL_3 ⟨_, _, rfl⟩ dX7_readOne_73 mc_7_47 (c_X5_advance (d := d + 1) hN hR p6) rfl rfl (by decide) ?_
          refine bv_iload dX7_readOne_76 4 rfl ?_
          refine bv_if_eq (tgt := 108) dX7_readOne_78 (by decide) (fun cc => ?_) (fun cc => ?_)
          rotate_left
          · exact absurd cc (by decide)
          refine bv_aloadq (x := (W 3 8)) dX7_readOne_108 5 rfl ?_
          refine bw_getW (j := 21) dX7_readOne_110 fw_7_76 rfl ?_
          obtain ⟨w7, h⟩ := bu_g h
          refine bv_acmp_ne (x := (W 3 8)) (y := (some (1000 + 21))) (tgt := 141) dX7_readOne_113 (by decide) (bm_wq_of w7) (bm_wq_of rfl) (fun cc => ?_) (fun cc => ?_)
          · replace h := bu_f h cc
            refine bv_aload_n dX7_readOne_141 0 rfl ?_
            refine bv_aloadq (x := (W 3 8)) dX7_readOne_142 5 rfl ?_
            refine bv_aload_n dX7_readOne_144 1 rfl ?_
            refine bv_aload_n dX7_readOne_145 2 rfl ?_
            obtain ⟨v8, p9, h⟩ := bu_bd h
            refine bw_callV (As := [va_rf (W 3 8), .ref 3, .ref 4]) hN okL_156 ⟨_, _, rfl⟩ dX7_readOne_146 mc_7_79 (c_X7_readPlain (d := d + 0) hN hR p9) rfl rfl (by decide) ?_
            obtain rfl := Option.some.inj h
            exact bw_bret (b := v8.1) dX7_readOne_149 rfl ⟨rfl, rfl⟩
          · replace h := bu_t h cc
            refine bv_aload_n dX7_readOne_116 0 rfl ?_
            refine bv_aload_n dX7_readOne_117 1 rfl ?_
            refine bv_aload_n dX7_readOne_118 2 rfl ?_
            refine bv_iload_n dX7_readOne_119 3 rfl ?_
            refine bv_iconst (v := 1) dX7_readOne_120 (by decide) ?_
            refine bv_iadd dX7_readOne_121 ?_
            obtain ⟨v10, p11, h⟩ := bu_bd h
            refine bw_callV (As := [.ref 3, .ref 4, .int (x3 + 1)]) hN okL_156 ⟨_, _, rfl⟩ dX7_readOne_122 mc_7_54 (hrec 2 _ _ _ _ _ p11) rfl rfl (by decide) ?_
            refine bw_ifB_ne (b := v10.1) (tgt := 130) dX7_readOne_125 (by decide) (fun cc => ?_) (fun cc => ?_)
            · replace h := bu_bt h cc
              refine bv_aload_n dX7_readOne_130 0 rfl ?_
              refine bw_getW (j := 21) dX7_readOne_131 fw_7_76 rfl ?_
              refine bv_iconst (v := 0) dX7_readOne_134 (by decide) ?_
              refine bv_iconst (v := 0) dX7_readOne_135 (by decide) ?_
              obtain ⟨v12, p13, h⟩ := bu_bd h
              refine bw_callVv (As := [va_rf (some (1000 + 21)), .int 0, .int 0]) hN okL_156 ⟨_, _, rfl⟩ dX7_readOne_136 mc_7_50 (c_X7_add (d := d + 3) hN hR p13) rfl rfl (by decide) ?_
              refine bv_iconst (v := 1) dX7_readOne_139 (by decide) ?_
              obtain rfl := Option.some.inj h
              exact bw_bret (b := true) dX7_readOne_140 rfl ⟨rfl, rfl⟩
            · replace h := bu_bf h cc
              refine bv_iconst (v := 0) dX7_readOne_128 (by decide) ?_
              obtain rfl := Option.some.inj h
              exact bw_bret (b := false) dX7_readOne_129 rfl ⟨rfl, rfl⟩
        · replace h := bu_f h cc
          refine bv_aload_n dX7_readOne_56 1 rfl ?_
          refine bv_iconst (v := 4) dX7_readOne_57 (by decide) ?_
          obtain ⟨v14, p15, h⟩ := bu_bd h
          refine bw_callV (As := [.int 4]) hN okL_3 ⟨_, _, rfl⟩ dX7_readOne_58 mc_7_66 (c_X5_refuse (d := d + 3) hN hR p15) rfl rfl (by decide) ?_
          obtain rfl := Option.some.inj h
          exact bw_bret (b := v14.1) dX7_readOne_61 rfl ⟨rfl, rfl⟩
    · replace h := bu_bf h cc
      refine bv_aload_n dX7_readOne_35 1 rfl ?_
      refine bv_iconst (v := 1) dX7_readOne_36 (by decide) ?_
      obtain ⟨v16, p17, h⟩ := bu_bd h
      refine bw_callV (As := [.int 1]) hN okL_3 ⟨_, _, rfl⟩ dX7_readOne_37 mc_7_66 (c_X5_refuse (d := d + 3) hN hR p17) rfl rfl (by decide) ?_
      obtain rfl := Option.some.inj h
      exact bw_bret (b := v16.1) dX7_readOne_40 rfl ⟨rfl, rfl⟩
  · replace h := bu_t h cc
    refine bv_iconst (v := 1) dX7_readOne_9 (by decide) ?_
    refine bv_goto (tgt := 14) dX7_readOne_10 (by decide) ?_
    refine bv_istore (ls1 := [(0, .ref 156), (1, .ref 3), (2, .ref 4), (3, .int x3), (4, .int 1)]) dX7_readOne_14 (by decide) rfl rfl ?_
    refine bv_aload_n dX7_readOne_16 1 rfl ?_
    refine bz_getQ hN okL_3 dX7_readOne_17 fl_7_38 rfl ?_
    refine bv_astoreq (x := (W 3 8)) (ls1 := [(0, .ref 156), (1, .ref 3), (2, .ref 4), (3, .int x3), (4, .int 1), (5, va_rf (W 3 8))]) dX7_readOne_20 (by decide) rfl rfl ?_
    refine bv_iload dX7_readOne_22 4 rfl ?_
    refine bv_if_ne (tgt := 41) dX7_readOne_24 (by decide) (fun cc => ?_) (fun cc => ?_)
    rotate_left
    · exact absurd cc (by decide)
    refine bv_aload_n dX7_readOne_41 0 rfl ?_
    refine bz_getI hN okL_156 dX7_readOne_42 fl_7_27 rfl ?_
    refine bv_bipush (v := 20) dX7_readOne_45 (by decide) ?_
    refine bv_icmp_ge (tgt := 56) dX7_readOne_47 (by decide) (fun cc => ?_) (fun cc => ?_)
    · replace h := bu_t h cc
      refine bv_aload_n dX7_readOne_56 1 rfl ?_
      refine bv_iconst (v := 4) dX7_readOne_57 (by decide) ?_
      obtain ⟨v18, p19, h⟩ := bu_bd h
      refine bw_callV (As := [.int 4]) hN okL_3 ⟨_, _, rfl⟩ dX7_readOne_58 mc_7_66 (c_X5_refuse (d := d + 3) hN hR p19) rfl rfl (by decide) ?_
      obtain rfl := Option.some.inj h
      exact bw_bret (b := v18.1) dX7_readOne_61 rfl ⟨rfl, rfl⟩
    · replace h := bu_f h cc
      refine bv_iload_n dX7_readOne_50 3 rfl ?_
      refine bv_bipush (v := 8) dX7_readOne_51 (by decide) ?_
      refine bv_icmp_le (tgt := 62) dX7_readOne_53 (by decide) (fun cc => ?_) (fun cc => ?_)
      · replace h := bu_t h cc
        refine bv_aload_n dX7_readOne_62 0 rfl ?_
        refine bv_dup dX7_readOne_63 rfl ?_
        refine bz_getI hN okL_156 dX7_readOne_64 fl_7_27 rfl ?_
        refine bv_iconst (v := 1) dX7_readOne_67 (by decide) ?_
        refine bv_iadd dX7_readOne_68 ?_
        refine bz_putI hN okL_156 dX7_readOne_69 fl_7_27 rfl ?_
        refine bv_aload_n dX7_readOne_72 1 rfl ?_
        obtain ⟨v20, p21, h⟩ := bu_bd h
        refine bw_callVv (As := []) hN okL_3 ⟨_, _, rfl⟩ dX7_readOne_73 mc_7_47 (c_X5_advance (d := d + 1) hN hR p21) rfl rfl (by decide) ?_
        refine bv_iload dX7_readOne_76 4 rfl ?_
        refine bv_if_eq (tgt := 108) dX7_readOne_78 (by decide) (fun cc => ?_) (fun cc => ?_)
        · exact absurd cc (by decide)
        refine bv_aload_n dX7_readOne_81 0 rfl ?_
        refine bv_aload_n dX7_readOne_82 1 rfl ?_
        refine bv_aload_n dX7_readOne_83 2 rfl ?_
        refine bv_iload_n dX7_readOne_84 3 rfl ?_
        refine bv_iconst (v := 1) dX7_readOne_85 (by decide) ?_
        refine bv_iadd dX7_readOne_86 ?_
        obtain ⟨v22, p23, h⟩ := bu_bd h
        refine bw_callV (As := [.ref 3, .ref 4, .int (x3 + 1)]) hN okL_156 ⟨_, _, rfl⟩ dX7_readOne_87 mc_7_70 (hrec 0 _ _ _ _ _ p23) rfl rfl (by decide) ?_
        refine bw_ifB_eq (b := v22.1) (tgt := 106) dX7_readOne_90 (by decide) (fun cc => ?_) (fun cc => ?_)
        · replace h := bu_bf h cc
          refine bv_iconst (v := 0) dX7_readOne_106 (by decide) ?_
          obtain rfl := Option.some.inj h
          exact bw_bret (b := false) dX7_readOne_107 rfl ⟨rfl, rfl⟩
        · replace h := bu_bt h cc
          refine bv_aload_n dX7_readOne_93 1 rfl ?_
          refine bv_bipush (v := 41) dX7_readOne_94 (by decide) ?_
          obtain ⟨v24, p25, h⟩ := bu_bd h
          refine bw_callV (As := [.int 41]) hN okL_3 ⟨_, _, rfl⟩ dX7_readOne_96 mc_7_73 (c_X5_takeSign (d := d + 0) hN hR p25) rfl rfl (by decide) ?_
          refine bw_ifB_eq (b := v24.1) (tgt := 106) dX7_readOne_99 (by decide) (fun cc => ?_) (fun cc => ?_)
          · replace h := bu_bf h cc
            refine bv_iconst (v := 0) dX7_readOne_106 (by decide) ?_
            obtain rfl := Option.some.inj h
            exact bw_bret (b := false) dX7_readOne_107 rfl ⟨rfl, rfl⟩
          · replace h := bu_bt h cc
            refine bv_iconst (v := 1) dX7_readOne_102 (by decide) ?_
            refine bv_goto (tgt := 107) dX7_readOne_103 (by decide) ?_
            obtain rfl := Option.some.inj h
            exact bw_bret (b := true) dX7_readOne_107 rfl ⟨rfl, rfl⟩
      · replace h := bu_f h cc
        refine bv_aload_n dX7_readOne_56 1 rfl ?_
        refine bv_iconst (v := 4) dX7_readOne_57 (by decide) ?_
        obtain ⟨v26, p27, h⟩ := bu_bd h
        refine bw_callV (As := [.int 4]) hN okL_3 ⟨_, _, rfl⟩ dX7_readOne_58 mc_7_66 (c_X5_refuse (d := d + 3) hN hR p27) rfl rfl (by decide) ?_
        obtain rfl := Option.some.inj h
        exact bw_bret (b := v26.1) dX7_readOne_61 rfl ⟨rfl, rfl⟩
def f_X7_readAll_B_l15 (rec : Nat → bm_TI → bm_TJ → bm_TR → Int32 → Option (Bool × bm_TI × bm_TJ × bm_TR)) (x3 : Int32) : Nat → Int32 → bm_TI → bm_TJ → bm_TR → Option (((bm_TI × bm_TJ × bm_TR) ⊕ (bm_TI × bm_TJ × bm_TR)))
  | 0, _, _, _, _ => none
  | k + 1, x4, I, J, W => (if 20 ≤ x4 then some (Sum.inr (I, J, W)) else (if bm_iwq (W 3 8) = true then (if (W 3 8) = (some (1000 + 20)) then ((f_X5_advance I J W).bind fun v2 => ((rec 2 v2.1 v2.2.1 v2.2.2 x3).bind fun v4 => (if v4.1 = true then ((f_X7_add v4.2.1 v4.2.2.2 (some (1000 + 20)) 0 0).bind fun v6 => f_X7_readAll_B_l15 rec x3 k (x4 + 1) v6.1 v4.2.2.1 v6.2) else some (Sum.inl (v4.2.1, v4.2.2.1, v4.2.2.2))))) else some (Sum.inr (I, J, W))) else none))
set_option maxHeartbeats 4000000 in
set_option maxRecDepth 100000 in
theorem v_X7_readAll_l15 {lc : bm_L} {d n : Nat} {Q : Option Value → bm_M → Prop} {R : bm_TR} {x3 : Int32} (hN : 181 ≤ n) (hR : bm_RR R) {rec : Nat → bm_TI → bm_TJ → bm_TR → Int32 → Option (Bool × bm_TI × bm_TJ × bm_TR)} (hrec : bm_rec lc R rec (d + 3) n) : ∀ (k : Nat) (x4 : Int32) (I : bm_TI) (J : bm_TJ) (W : bm_TR) (r : ((bm_TI × bm_TJ × bm_TR) ⊕ (bm_TI × bm_TJ × bm_TR))), f_X7_readAll_B_l15 rec x3 k x4 I J W = some r → (∀ yy, (Sum.inl yy) = r → bm_V lc m_X7_readAll (d + 4) n n n 46 [] [] (yy.1, yy.2.1, R, yy.2.2) Q) → (∀ yy, (Sum.inr yy) = r → bm_V lc m_X7_readAll (d + 4) n n n 63 [] [] (yy.1, yy.2.1, R, yy.2.2) Q) → bm_V lc m_X7_readAll (d + 4) n n n 15 [(0, .ref 156), (1, .ref 3), (2, .ref 4), (3, .int x3), (4, .int x4)] [] (I, J, R, W) Q := by
  intro k
  induction k with
  | zero => intro x4 I J W r h; cases (show (none : Option (((bm_TI × bm_TJ × bm_TR) ⊕ (bm_TI × bm_TJ × bm_TR)))) = some r from h)
  | succ k ih =>
    intro x4 I J W r h K0 K1
    unfold f_X7_readAll_B_l15 at h
    refine bv_iload dX7_readAll_15 4 rfl ?_
    refine bv_bipush (v := 20) dX7_readAll_17 (by decide) ?_
    refine bv_icmp_ge (tgt := 63) dX7_readAll_19 (by decide) (fun cc => ?_) (fun cc => ?_)
    · replace h := bu_t h cc
      refine bw_ls (ls1 := []) [] rfl ?_
      obtain rfl := Option.some.inj h
      exact K1 _ rfl
    · replace h := bu_f h cc
      refine bv_aload_n dX7_readAll_22 1 rfl ?_
      refine bz_getQ hN okL_3 dX7_readAll_23 fl_7_38 rfl ?_
      refine bw_getW (j := 20) dX7_readAll_26 fw_7_57 rfl ?_
      obtain ⟨w1, h⟩ := bu_g h
      refine bv_acmp_ne (x := (W 3 8)) (y := (some (1000 + 20))) (tgt := 63) dX7_readAll_29 (by decide) (bm_wq_of w1) (bm_wq_of rfl) (fun cc => ?_) (fun cc => ?_)
      · replace h := bu_f h cc
        refine bw_ls (ls1 := []) [] rfl ?_
        obtain rfl := Option.some.inj h
        exact K1 _ rfl
      · replace h := bu_t h cc
        refine bv_aload_n dX7_readAll_32 1 rfl ?_
        obtain ⟨v2, p3, h⟩ := bu_bd h
        refine bw_callVv (As := []) hN okL_3 ⟨_, _, rfl⟩ dX7_readAll_33 mc_7_47 (c_X5_advance (d := d + 1) hN hR p3) rfl rfl (by decide) ?_
        refine bv_aload_n dX7_readAll_36 0 rfl ?_
        refine bv_aload_n dX7_readAll_37 1 rfl ?_
        refine bv_aload_n dX7_readAll_38 2 rfl ?_
        refine bv_iload_n dX7_readAll_39 3 rfl ?_
        obtain ⟨v4, p5, h⟩ := bu_bd h
        refine bw_callV (As := [.ref 3, .ref 4, .int x3]) hN okL_156 ⟨_, _, rfl⟩ dX7_readAll_40 mc_7_54 (hrec 2 _ _ _ _ _ p5) rfl rfl (by decide) ?_
        refine bw_ifB_ne (b := v4.1) (tgt := 48) dX7_readAll_43 (by decide) (fun cc => ?_) (fun cc => ?_)
        · replace h := bu_bt h cc
          refine bv_aload_n dX7_readAll_48 0 rfl ?_
          refine bw_getW (j := 20) dX7_readAll_49 fw_7_57 rfl ?_
          refine bv_iconst (v := 0) dX7_readAll_52 (by decide) ?_
          refine bv_iconst (v := 0) dX7_readAll_53 (by decide) ?_
          obtain ⟨v6, p7, h⟩ := bu_bd h
          refine bw_callVv (As := [va_rf (some (1000 + 20)), .int 0, .int 0]) hN okL_156 ⟨_, _, rfl⟩ dX7_readAll_54 mc_7_50 (c_X7_add (d := d + 3) hN hR p7) rfl rfl (by decide) ?_
          refine bv_iinc (j := 4) (v := (x4 + 1)) (ls1 := [(0, .ref 156), (1, .ref 3), (2, .ref 4), (3, .int x3), (4, .int (x4 + 1))]) dX7_readAll_57 rfl rfl (by decide) rfl rfl ?_
          refine bv_goto (tgt := 15) dX7_readAll_60 (by decide) ?_
          exact ih _ _ _ _ _ h K0 K1
        · replace h := bu_bf h cc
          refine bw_ls (ls1 := []) [] rfl ?_
          obtain rfl := Option.some.inj h
          exact K0 _ rfl
def f_X7_readAll_B (rec : Nat → bm_TI → bm_TJ → bm_TR → Int32 → Option (Bool × bm_TI × bm_TJ × bm_TR)) (I : bm_TI) (J : bm_TJ) (W : bm_TR) (x3 : Int32) : Option (Bool × bm_TI × bm_TJ × bm_TR) := ((rec 2 I J W x3).bind fun v1 => (if v1.1 = true then ((f_X7_readAll_B_l15 rec x3 1000 0 v1.2.1 v1.2.2.1 v1.2.2.2).bind fun rr => match rr with | (Sum.inl y5) => some (false, y5.1, y5.2.1, y5.2.2) | (Sum.inr y5) => some (true, y5.1, y5.2.1, y5.2.2)) else some (false, v1.2.1, v1.2.2.1, v1.2.2.2)))
set_option maxHeartbeats 4000000 in
set_option maxRecDepth 100000 in
theorem c_X7_readAll {lc : bm_L} {d n : Nat} {I : bm_TI} {J : bm_TJ} {R W : bm_TR} {x3 : Int32} {v : Bool × bm_TI × bm_TJ × bm_TR} (hN : 181 ≤ n) (hR : bm_RR R) {rec : Nat → bm_TI → bm_TJ → bm_TR → Int32 → Option (Bool × bm_TI × bm_TJ × bm_TR)} (hrec : bm_rec lc R rec (d + 3) n) (h : f_X7_readAll_B rec I J W x3 = some v) : bm_C lc m_X7_readAll (d + 4) n n [.ref 156, .ref 3, .ref 4, .int x3] (I, J, R, W) (fun r M' => r = some (.int (bm_bi v.1)) ∧ M' = (v.2.1, v.2.2.1, R, v.2.2.2)) := by
  refine bm_C.ofV (by decide) (Nat.le_of_ble_eq_true rfl) ?_
  show bm_V lc m_X7_readAll (d + 4) n n n 0 [(0, .ref 156), (1, .ref 3), (2, .ref 4), (3, .int x3)] [] (I, J, R, W) _
  unfold f_X7_readAll_B at h
  refine bv_aload_n dX7_readAll_0 0 rfl ?_
  refine bv_aload_n dX7_readAll_1 1 rfl ?_
  refine bv_aload_n dX7_readAll_2 2 rfl ?_
  refine bv_iload_n dX7_readAll_3 3 rfl ?_
  obtain ⟨v1, p2, h⟩ := bu_bd h
  refine bw_callV (As := [.ref 3, .ref 4, .int x3]) hN okL_156 ⟨_, _, rfl⟩ dX7_readAll_4 mc_7_54 (hrec 2 _ _ _ _ _ p2) rfl rfl (by decide) ?_
  refine bw_ifB_ne (b := v1.1) (tgt := 12) dX7_readAll_7 (by decide) (fun cc => ?_) (fun cc => ?_)
  · replace h := bu_bt h cc
    refine bv_iconst (v := 0) dX7_readAll_12 (by decide) ?_
    refine bv_istore (ls1 := [(0, .ref 156), (1, .ref 3), (2, .ref 4), (3, .int x3), (4, .int 0)]) dX7_readAll_13 (by decide) rfl rfl ?_
    obtain ⟨r3, p4, h⟩ := bu_bd h
    refine v_X7_readAll_l15 hN hR hrec 1000 _ _ _ _ _ p4 (fun y5 hy => ?_) (fun y5 hy => ?_)
    · subst hy
      refine bv_iconst (v := 0) dX7_readAll_46 (by decide) ?_
      obtain rfl := Option.some.inj h
      exact bw_bret (b := false) dX7_readAll_47 rfl ⟨rfl, rfl⟩
    · subst hy
      refine bv_iconst (v := 1) dX7_readAll_63 (by decide) ?_
      obtain rfl := Option.some.inj h
      exact bw_bret (b := true) dX7_readAll_64 rfl ⟨rfl, rfl⟩
  · replace h := bu_bf h cc
    refine bv_iconst (v := 0) dX7_readAll_10 (by decide) ?_
    obtain rfl := Option.some.inj h
    exact bw_bret (b := false) dX7_readAll_11 rfl ⟨rfl, rfl⟩
def f_X7_readCondition_B_l15 (rec : Nat → bm_TI → bm_TJ → bm_TR → Int32 → Option (Bool × bm_TI × bm_TJ × bm_TR)) (x3 : Int32) : Nat → Int32 → bm_TI → bm_TJ → bm_TR → Option (((bm_TI × bm_TJ × bm_TR) ⊕ (bm_TI × bm_TJ × bm_TR)))
  | 0, _, _, _, _ => none
  | k + 1, x4, I, J, W => (if 20 ≤ x4 then some (Sum.inr (I, J, W)) else (if bm_iwq (W 3 8) = true then (if (W 3 8) = (some (1000 + 19)) then ((f_X5_advance I J W).bind fun v2 => ((rec 1 v2.1 v2.2.1 v2.2.2 x3).bind fun v4 => (if v4.1 = true then ((f_X7_add v4.2.1 v4.2.2.2 (some (1000 + 19)) 0 0).bind fun v6 => f_X7_readCondition_B_l15 rec x3 k (x4 + 1) v6.1 v4.2.2.1 v6.2) else some (Sum.inl (v4.2.1, v4.2.2.1, v4.2.2.2))))) else some (Sum.inr (I, J, W))) else none))
set_option maxHeartbeats 4000000 in
set_option maxRecDepth 100000 in
theorem v_X7_readCondition_l15 {lc : bm_L} {d n : Nat} {Q : Option Value → bm_M → Prop} {R : bm_TR} {x3 : Int32} (hN : 181 ≤ n) (hR : bm_RR R) {rec : Nat → bm_TI → bm_TJ → bm_TR → Int32 → Option (Bool × bm_TI × bm_TJ × bm_TR)} (hrec : bm_rec lc R rec (d + 3) n) : ∀ (k : Nat) (x4 : Int32) (I : bm_TI) (J : bm_TJ) (W : bm_TR) (r : ((bm_TI × bm_TJ × bm_TR) ⊕ (bm_TI × bm_TJ × bm_TR))), f_X7_readCondition_B_l15 rec x3 k x4 I J W = some r → (∀ yy, (Sum.inl yy) = r → bm_V lc m_X7_readCondition (d + 4) n n n 46 [] [] (yy.1, yy.2.1, R, yy.2.2) Q) → (∀ yy, (Sum.inr yy) = r → bm_V lc m_X7_readCondition (d + 4) n n n 63 [] [] (yy.1, yy.2.1, R, yy.2.2) Q) → bm_V lc m_X7_readCondition (d + 4) n n n 15 [(0, .ref 156), (1, .ref 3), (2, .ref 4), (3, .int x3), (4, .int x4)] [] (I, J, R, W) Q := by
  intro k
  induction k with
  | zero => intro x4 I J W r h; cases (show (none : Option (((bm_TI × bm_TJ × bm_TR) ⊕ (bm_TI × bm_TJ × bm_TR)))) = some r from h)
  | succ k ih =>
    intro x4 I J W r h K0 K1
    unfold f_X7_readCondition_B_l15 at h
    refine bv_iload dX7_readCondition_15 4 rfl ?_
    refine bv_bipush (v := 20) dX7_readCondition_17 (by decide) ?_
    refine bv_icmp_ge (tgt := 63) dX7_readCondition_19 (by decide) (fun cc => ?_) (fun cc => ?_)
    · replace h := bu_t h cc
      refine bw_ls (ls1 := []) [] rfl ?_
      obtain rfl := Option.some.inj h
      exact K1 _ rfl
    · replace h := bu_f h cc
      refine bv_aload_n dX7_readCondition_22 1 rfl ?_
      refine bz_getQ hN okL_3 dX7_readCondition_23 fl_7_38 rfl ?_
      refine bw_getW (j := 19) dX7_readCondition_26 fw_7_44 rfl ?_
      obtain ⟨w1, h⟩ := bu_g h
      refine bv_acmp_ne (x := (W 3 8)) (y := (some (1000 + 19))) (tgt := 63) dX7_readCondition_29 (by decide) (bm_wq_of w1) (bm_wq_of rfl) (fun cc => ?_) (fun cc => ?_)
      · replace h := bu_f h cc
        refine bw_ls (ls1 := []) [] rfl ?_
        obtain rfl := Option.some.inj h
        exact K1 _ rfl
      · replace h := bu_t h cc
        refine bv_aload_n dX7_readCondition_32 1 rfl ?_
        obtain ⟨v2, p3, h⟩ := bu_bd h
        refine bw_callVv (As := []) hN okL_3 ⟨_, _, rfl⟩ dX7_readCondition_33 mc_7_47 (c_X5_advance (d := d + 1) hN hR p3) rfl rfl (by decide) ?_
        refine bv_aload_n dX7_readCondition_36 0 rfl ?_
        refine bv_aload_n dX7_readCondition_37 1 rfl ?_
        refine bv_aload_n dX7_readCondition_38 2 rfl ?_
        refine bv_iload_n dX7_readCondition_39 3 rfl ?_
        obtain ⟨v4, p5, h⟩ := bu_bd h
        refine bw_callV (As := [.ref 3, .ref 4, .int x3]) hN okL_156 ⟨_, _, rfl⟩ dX7_readCondition_40 mc_7_34 (hrec 1 _ _ _ _ _ p5) rfl rfl (by decide) ?_
        refine bw_ifB_ne (b := v4.1) (tgt := 48) dX7_readCondition_43 (by decide) (fun cc => ?_) (fun cc => ?_)
        · replace h := bu_bt h cc
          refine bv_aload_n dX7_readCondition_48 0 rfl ?_
          refine bw_getW (j := 19) dX7_readCondition_49 fw_7_44 rfl ?_
          refine bv_iconst (v := 0) dX7_readCondition_52 (by decide) ?_
          refine bv_iconst (v := 0) dX7_readCondition_53 (by decide) ?_
          obtain ⟨v6, p7, h⟩ := bu_bd h
          refine bw_callVv (As := [va_rf (some (1000 + 19)), .int 0, .int 0]) hN okL_156 ⟨_, _, rfl⟩ dX7_readCondition_54 mc_7_50 (c_X7_add (d := d + 3) hN hR p7) rfl rfl (by decide) ?_
          refine bv_iinc (j := 4) (v := (x4 + 1)) (ls1 := [(0, .ref 156), (1, .ref 3), (2, .ref 4), (3, .int x3), (4, .int (x4 + 1))]) dX7_readCondition_57 rfl rfl (by decide) rfl rfl ?_
          refine bv_goto (tgt := 15) dX7_readCondition_60 (by decide) ?_
          exact ih _ _ _ _ _ h K0 K1
        · replace h := bu_bf h cc
          refine bw_ls (ls1 := []) [] rfl ?_
          obtain rfl := Option.some.inj h
          exact K0 _ rfl
def f_X7_readCondition_B (rec : Nat → bm_TI → bm_TJ → bm_TR → Int32 → Option (Bool × bm_TI × bm_TJ × bm_TR)) (I : bm_TI) (J : bm_TJ) (W : bm_TR) (x3 : Int32) : Option (Bool × bm_TI × bm_TJ × bm_TR) := ((rec 1 I J W x3).bind fun v1 => (if v1.1 = true then ((f_X7_readCondition_B_l15 rec x3 1000 0 v1.2.1 v1.2.2.1 v1.2.2.2).bind fun rr => match rr with | (Sum.inl y5) => some (false, y5.1, y5.2.1, y5.2.2) | (Sum.inr y5) => some (true, y5.1, y5.2.1, y5.2.2)) else some (false, v1.2.1, v1.2.2.1, v1.2.2.2)))
set_option maxHeartbeats 4000000 in
set_option maxRecDepth 100000 in
theorem c_X7_readCondition {lc : bm_L} {d n : Nat} {I : bm_TI} {J : bm_TJ} {R W : bm_TR} {x3 : Int32} {v : Bool × bm_TI × bm_TJ × bm_TR} (hN : 181 ≤ n) (hR : bm_RR R) {rec : Nat → bm_TI → bm_TJ → bm_TR → Int32 → Option (Bool × bm_TI × bm_TJ × bm_TR)} (hrec : bm_rec lc R rec (d + 3) n) (h : f_X7_readCondition_B rec I J W x3 = some v) : bm_C lc m_X7_readCondition (d + 4) n n [.ref 156, .ref 3, .ref 4, .int x3] (I, J, R, W) (fun r M' => r = some (.int (bm_bi v.1)) ∧ M' = (v.2.1, v.2.2.1, R, v.2.2.2)) := by
  refine bm_C.ofV (by decide) (Nat.le_of_ble_eq_true rfl) ?_
  show bm_V lc m_X7_readCondition (d + 4) n n n 0 [(0, .ref 156), (1, .ref 3), (2, .ref 4), (3, .int x3)] [] (I, J, R, W) _
  unfold f_X7_readCondition_B at h
  refine bv_aload_n dX7_readCondition_0 0 rfl ?_
  refine bv_aload_n dX7_readCondition_1 1 rfl ?_
  refine bv_aload_n dX7_readCondition_2 2 rfl ?_
  refine bv_iload_n dX7_readCondition_3 3 rfl ?_
  obtain ⟨v1, p2, h⟩ := bu_bd h
  refine bw_callV (As := [.ref 3, .ref 4, .int x3]) hN okL_156 ⟨_, _, rfl⟩ dX7_readCondition_4 mc_7_34 (hrec 1 _ _ _ _ _ p2) rfl rfl (by decide) ?_
  refine bw_ifB_ne (b := v1.1) (tgt := 12) dX7_readCondition_7 (by decide) (fun cc => ?_) (fun cc => ?_)
  · replace h := bu_bt h cc
    refine bv_iconst (v := 0) dX7_readCondition_12 (by decide) ?_
    refine bv_istore (ls1 := [(0, .ref 156), (1, .ref 3), (2, .ref 4), (3, .int x3), (4, .int 0)]) dX7_readCondition_13 (by decide) rfl rfl ?_
    obtain ⟨r3, p4, h⟩ := bu_bd h
    refine v_X7_readCondition_l15 hN hR hrec 1000 _ _ _ _ _ p4 (fun y5 hy => ?_) (fun y5 hy => ?_)
    · subst hy
      refine bv_iconst (v := 0) dX7_readCondition_46 (by decide) ?_
      obtain rfl := Option.some.inj h
      exact bw_bret (b := false) dX7_readCondition_47 rfl ⟨rfl, rfl⟩
    · subst hy
      refine bv_iconst (v := 1) dX7_readCondition_63 (by decide) ?_
      obtain rfl := Option.some.inj h
      exact bw_bret (b := true) dX7_readCondition_64 rfl ⟨rfl, rfl⟩
  · replace h := bu_bf h cc
    refine bv_iconst (v := 0) dX7_readCondition_10 (by decide) ?_
    obtain rfl := Option.some.inj h
    exact bw_bret (b := false) dX7_readCondition_11 rfl ⟨rfl, rfl⟩
def f_grp : Nat → Nat → bm_TI → bm_TJ → bm_TR → Int32 → Option (Bool × bm_TI × bm_TJ × bm_TR)
  | 0, _, _, _, _, _ => none
  | k + 1, j, I, J, W, x3 => match j with
    | 0 => f_X7_readCondition_B (f_grp k) I J W x3
    | 1 => f_X7_readAll_B (f_grp k) I J W x3
    | _ => f_X7_readOne_B (f_grp k) I J W x3
theorem c_grp {lc : bm_L} {n : Nat} {R : bm_TR} (k : Nat) {d : Nat} (hN : 181 ≤ n) (hR : bm_RR R) : ∀ (j : Nat) (I : bm_TI) (J : bm_TJ) (W : bm_TR) (x3 : Int32) (v : Bool × bm_TI × bm_TJ × bm_TR), f_grp k j I J W x3 = some v → bm_C lc (m_grp j) (d + 3 + k) n n [.ref 156, .ref 3, .ref 4, .int x3] (I, J, R, W) (fun r M' => r = some (.int (bm_bi v.1)) ∧ M' = (v.2.1, v.2.2.1, R, v.2.2.2)) := by
  induction k generalizing d with
  | zero => intro j I J W x3 v h; cases (show (none : Option (Bool × bm_TI × bm_TJ × bm_TR)) = some v from h)
  | succ k ih =>
    intro j I J W x3 v h
    have hrec : bm_rec lc R (f_grp k) (d + k + 3) n := by
      have e : d + k + 3 = d + 3 + k := by omega
      rw [e]
      exact fun j I J W x3 v h => ih j I J W x3 v h
    have e2 : d + 3 + (k + 1) = d + k + 4 := by omega
    rw [e2]
    match j, h with
    | 0, h => exact c_X7_readCondition hN hR hrec h
    | 1, h => exact c_X7_readAll hN hR hrec h
    | j + 2, h => exact c_X7_readOne hN hR hrec h
def f_X8_browOf (I : bm_TI) (x0 : Nat) (x1 : Int32) : Option (Int32) := (if bm_ix 8 x1 = true then some (bm_min 9 ((I 8 x1.toNatClampNeg) + (3 * (f_X11_bit (I x0 8) x1)))) else none)
set_option maxHeartbeats 4000000 in
set_option maxRecDepth 100000 in
theorem c_X8_browOf {lc : bm_L} {d n : Nat} {I : bm_TI} {J : bm_TJ} {R W : bm_TR} {x0 : Nat} {x1 : Int32} {v : Int32} (hN : 181 ≤ n) (hR : bm_RR R) (q_0 : bm_OK x0 8) (a_0 : bm_tr x0 0 = some 4) (h : f_X8_browOf I x0 x1 = some v) : bm_C lc m_X8_browOf (d + 1) n n [.ref x0, .int x1] (I, J, R, W) (fun r M' => r = some (.int v) ∧ M' = (I, J, R, W)) := by
  refine bm_C.ofV (by decide) (Nat.le_of_ble_eq_true rfl) ?_
  show bm_V lc m_X8_browOf (d + 1) n n n 0 [(0, .ref x0), (1, .int x1)] [] (I, J, R, W) _
  unfold f_X8_browOf at h
  refine bv_bipush (v := 9) dX8_browOf_0 (by decide) ?_
  refine bv_aload_n dX8_browOf_2 0 rfl ?_
  refine bz_getA (a := 4) hN q_0 (hR _ _ _ a_0) dX8_browOf_3 fl_8_30 rfl ?_
  refine bz_getA (a := 8) hN okL_4 (hR _ _ _ r0_4_3) dX8_browOf_6 fl_8_67 rfl ?_
  refine bv_iload_n dX8_browOf_9 1 rfl ?_
  obtain ⟨r1, h⟩ := bu_ix h
  refine bz_iald hN rkL_8 r1 rfl dX8_browOf_10 ?_
  refine bv_iconst (v := 3) dX8_browOf_11 (by decide) ?_
  refine bv_aload_n dX8_browOf_12 0 rfl ?_
  refine bz_getI hN q_0 dX8_browOf_13 fl_8_49 rfl ?_
  refine bv_iload_n dX8_browOf_16 1 rfl ?_
  refine bw_callSN (As := [.int (I x0 8), .int x1]) dX8_browOf_17 mc_8_70 (c_X11_bit (d := d + 0) hN hR rfl) rfl rfl (Nat.le_of_ble_eq_true rfl) ?_
  refine bv_imul dX8_browOf_20 ?_
  refine bv_iadd dX8_browOf_21 ?_
  refine bv_mmin dX8_browOf_22 mw_8_74 (by decide) (Nat.le_refl n) ?_
  obtain rfl := Option.some.inj h
  exact bv_iret (x := (bm_min 9 ((I 8 x1.toNatClampNeg) + (3 * (f_X11_bit (I x0 8) x1))))) dX8_browOf_25 rfl ⟨rfl, rfl⟩
def f_X7_measure (I : bm_TI) (x0 : Option Nat) (x1 : Int32) : Option (Int32) := (if bm_iwq x0 = true then (if x0 = (some (1000 + 30)) then ((f_X8_browOf I 26 x1).bind fun v4 => some v4) else (if x0 = (some (1000 + 31)) then (if bm_ix 8 x1 = true then some (I 29 x1.toNatClampNeg) else none) else (if x0 = (some (1000 + 32)) then (if bm_ix 8 x1 = true then some (I 31 x1.toNatClampNeg) else none) else some x1))) else none)
set_option maxHeartbeats 4000000 in
set_option maxRecDepth 100000 in
theorem c_X7_measure {lc : bm_L} {d n : Nat} {I : bm_TI} {J : bm_TJ} {R W : bm_TR} {x0 : Option Nat} {x1 : Int32} {v : Int32} (hN : 181 ≤ n) (hR : bm_RR R) (h : f_X7_measure I x0 x1 = some v) : bm_C lc m_X7_measure (d + 2) n n [va_rf x0, .int x1, .ref 26] (I, J, R, W) (fun r M' => r = some (.int v) ∧ M' = (I, J, R, W)) := by
  refine bm_C.ofV (by decide) (by cases x0 <;> exact Nat.le_of_ble_eq_true rfl) ?_
  rw [show bm_en 0 [va_rf x0, .int x1, .ref 26] = [(0, va_rf x0), (1, .int x1), (2, .ref 26)] from by cases x0 <;> rfl]
  unfold f_X7_measure at h
  refine bv_aloadq_n (x := x0) dX7_measure_0 0 rfl ?_
  refine bw_getW (j := 30) dX7_measure_1 fw_7_180 rfl ?_
  obtain ⟨w1, h⟩ := bu_g h
  refine bv_acmp_ne (x := x0) (y := (some (1000 + 30))) (tgt := 13) dX7_measure_4 (by decide) (bm_wq_of w1) (bm_wq_of rfl) (fun cc => ?_) (fun cc => ?_)
  · replace h := bu_f h cc
    refine bv_aloadq_n (x := x0) dX7_measure_13 0 rfl ?_
    refine bw_getW (j := 31) dX7_measure_14 fw_7_186 rfl ?_
    refine bv_acmp_ne (x := x0) (y := (some (1000 + 31))) (tgt := 27) dX7_measure_17 (by decide) (bm_wq_of w1) (bm_wq_of rfl) (fun cc => ?_) (fun cc => ?_)
    · replace h := bu_f h cc
      refine bv_aloadq_n (x := x0) dX7_measure_27 0 rfl ?_
      refine bw_getW (j := 32) dX7_measure_28 fw_7_192 rfl ?_
      refine bv_acmp_ne (x := x0) (y := (some (1000 + 32))) (tgt := 43) dX7_measure_31 (by decide) (bm_wq_of w1) (bm_wq_of rfl) (fun cc => ?_) (fun cc => ?_)
      · replace h := bu_f h cc
        refine bv_iload_n dX7_measure_43 1 rfl ?_
        obtain rfl := Option.some.inj h
        exact bv_iret (x := x1) dX7_measure_44 rfl ⟨rfl, rfl⟩
      · replace h := bu_t h cc
        refine bv_aload_n dX7_measure_34 2 rfl ?_
        refine bz_getA (a := 31) hN okL_26 (hR _ _ _ r0_26_5) dX7_measure_35 fl_7_195 rfl ?_
        refine bv_iload_n dX7_measure_38 1 rfl ?_
        obtain ⟨r2, h⟩ := bu_ix h
        refine bz_iald hN rkL_31 r2 rfl dX7_measure_39 ?_
        refine bv_goto (tgt := 44) dX7_measure_40 (by decide) ?_
        obtain rfl := Option.some.inj h
        exact bv_iret (x := (I 31 x1.toNatClampNeg)) dX7_measure_44 rfl ⟨rfl, rfl⟩
    · replace h := bu_t h cc
      refine bv_aload_n dX7_measure_20 2 rfl ?_
      refine bz_getA (a := 29) hN okL_26 (hR _ _ _ r0_26_3) dX7_measure_21 fl_7_189 rfl ?_
      refine bv_iload_n dX7_measure_24 1 rfl ?_
      obtain ⟨r3, h⟩ := bu_ix h
      refine bz_iald hN rkL_29 r3 rfl dX7_measure_25 ?_
      obtain rfl := Option.some.inj h
      exact bv_iret (x := (I 29 x1.toNatClampNeg)) dX7_measure_26 rfl ⟨rfl, rfl⟩
  · replace h := bu_t h cc
    refine bv_aload_n dX7_measure_7 2 rfl ?_
    refine bv_iload_n dX7_measure_8 1 rfl ?_
    obtain ⟨v4, p5, h⟩ := bu_bd h
    refine bw_callV (As := [.int x1]) hN okL_26 ⟨_, _, rfl⟩ dX7_measure_9 mc_7_183 (c_X8_browOf (d := d + 0) hN hR okL_26 r0_26_0 p5) rfl rfl (by decide) ?_
    obtain rfl := Option.some.inj h
    exact bv_iret (x := v4) dX7_measure_12 rfl ⟨rfl, rfl⟩
def f_J6_compare_7cf53 (x0 : Int32) (x1 : Int32) : Int32 := (if x1 ≤ x0 then (if x0 = x1 then 0 else 1) else (-1))
set_option maxHeartbeats 4000000 in
set_option maxRecDepth 100000 in
theorem c_J6_compare_7cf53 {lc : bm_L} {d n : Nat} {I : bm_TI} {J : bm_TJ} {R W : bm_TR} {x0 : Int32} {x1 : Int32} {v : Int32} (hN : 181 ≤ n) (hR : bm_RR R) (h : f_J6_compare_7cf53 x0 x1 = v) : bm_C lc m_J6_compare_7cf53 d n n [.int x0, .int x1] (I, J, R, W) (fun r M' => r = some (.int v) ∧ M' = (I, J, R, W)) := by
  refine bm_C.ofV (by decide) (Nat.le_of_ble_eq_true rfl) ?_
  show bm_V lc m_J6_compare_7cf53 d n n n 0 [(0, .int x0), (1, .int x1)] [] (I, J, R, W) _
  unfold f_J6_compare_7cf53 at h
  refine bv_iload_n dJ6_compare_7cf53_0 0 rfl ?_
  refine bv_iload_n dJ6_compare_7cf53_1 1 rfl ?_
  refine bv_icmp_ge (tgt := 9) dJ6_compare_7cf53_2 (by decide) (fun cc => ?_) (fun cc => ?_)
  · replace h := bu_t h cc
    refine bv_iload_n dJ6_compare_7cf53_9 0 rfl ?_
    refine bv_iload_n dJ6_compare_7cf53_10 1 rfl ?_
    refine bv_icmp_ne (tgt := 18) dJ6_compare_7cf53_11 (by decide) (fun cc => ?_) (fun cc => ?_)
    · replace h := bu_f h cc
      refine bv_iconst (v := 1) dJ6_compare_7cf53_18 (by decide) ?_
      subst h
      exact bv_iret (x := 1) dJ6_compare_7cf53_19 rfl ⟨rfl, rfl⟩
    · replace h := bu_t h cc
      refine bv_iconst (v := 0) dJ6_compare_7cf53_14 (by decide) ?_
      refine bv_goto (tgt := 19) dJ6_compare_7cf53_15 (by decide) ?_
      subst h
      exact bv_iret (x := 0) dJ6_compare_7cf53_19 rfl ⟨rfl, rfl⟩
  · replace h := bu_f h cc
    refine bv_iconst (v := (-1)) dJ6_compare_7cf53_5 (by decide) ?_
    refine bv_goto (tgt := 19) dJ6_compare_7cf53_6 (by decide) ?_
    subst h
    exact bv_iret (x := (-1)) dJ6_compare_7cf53_19 rfl ⟨rfl, rfl⟩
def f_X7_menByMeasure_l39 (I : bm_TI) (x1 : Option Nat) (x2 : Int32) (x4 : Int32) : Nat → Int32 → Int32 → Option (Int32)
  | 0, _, _ => none
  | k + 1, x5, x6 => (if (I 4 10) ≤ x6 then some x5 else ((f_X7_measure I x1 x6).bind fun v1 => (if bm_ix 40 x2 = true then (if (f_J6_compare_7cf53 v1 (I 153 x2.toNatClampNeg)) = x4 then f_X7_menByMeasure_l39 I x1 x2 x4 k (x5 ||| (bm_ishl 1 x6)) (x6 + 1) else f_X7_menByMeasure_l39 I x1 x2 x4 k x5 (x6 + 1)) else none)))
set_option maxHeartbeats 4000000 in
set_option maxRecDepth 100000 in
theorem v_X7_menByMeasure_l39 {lc : bm_L} {d n : Nat} {Q : Option Value → bm_M → Prop} {R : bm_TR} {I : bm_TI} {J : bm_TJ} {W : bm_TR} {x1 : Option Nat} {x2 : Int32} {x4 : Int32} (hN : 181 ≤ n) (hR : bm_RR R) : ∀ (k : Nat) (x5 : Int32) (x6 : Int32) (r : Int32), f_X7_menByMeasure_l39 I x1 x2 x4 k x5 x6 = some r → (∀ yy, yy = r → bm_V lc m_X7_menByMeasure (d + 3) n n n 87 [(5, .int yy)] [] (I, J, R, W) Q) → bm_V lc m_X7_menByMeasure (d + 3) n n n 39 [(0, .ref 151), (1, va_rf x1), (2, .int x2), (3, .ref 26), (4, .int x4), (5, .int x5), (6, .int x6)] [] (I, J, R, W) Q := by
  intro k
  induction k with
  | zero => intro x5 x6 r h; cases (show (none : Option (Int32)) = some r from h)
  | succ k ih =>
    intro x5 x6 r h K0
    unfold f_X7_menByMeasure_l39 at h
    refine bv_iload dX7_menByMeasure_39 6 rfl ?_
    refine bv_aload_n dX7_menByMeasure_41 3 rfl ?_
    refine bz_getA (a := 4) hN okL_26 (hR _ _ _ r0_26_0) dX7_menByMeasure_42 fl_7_97 rfl ?_
    refine bz_getI hN okL_4 dX7_menByMeasure_45 fl_7_163 rfl ?_
    refine bv_icmp_ge (tgt := 87) dX7_menByMeasure_48 (by decide) (fun cc => ?_) (fun cc => ?_)
    · replace h := bu_t h cc
      refine bw_ls (ls1 := [(5, .int x5)]) [5] rfl ?_
      obtain rfl := Option.some.inj h
      exact K0 _ rfl
    · replace h := bu_f h cc
      refine bv_aloadq_n (x := x1) dX7_menByMeasure_51 1 rfl ?_
      refine bv_iload dX7_menByMeasure_52 6 rfl ?_
      refine bv_aload_n dX7_menByMeasure_54 3 rfl ?_
      obtain ⟨v1, p2, h⟩ := bu_bd h
      refine bw_callS (As := [va_rf x1, .int x6, .ref 26]) dX7_menByMeasure_55 mc_7_172 (c_X7_measure (d := d + 0) hN hR p2) rfl rfl (by decide) ?_
      refine bv_aload_n dX7_menByMeasure_58 0 rfl ?_
      refine bz_getA (a := 153) hN okL_151 (hR _ _ _ r0_151_1) dX7_menByMeasure_59 fl_7_17 rfl ?_
      refine bv_iload_n dX7_menByMeasure_62 2 rfl ?_
      obtain ⟨r3, h⟩ := bu_ix h
      refine bz_iald hN rkL_153 r3 rfl dX7_menByMeasure_63 ?_
      refine bw_callS (As := [.int v1, .int (I 153 x2.toNatClampNeg)]) dX7_menByMeasure_64 mc_7_175 (c_J6_compare_7cf53 (d := d + 2) hN hR rfl) rfl rfl (by decide) ?_
      refine bv_iload dX7_menByMeasure_67 4 rfl ?_
      refine bv_icmp_ne (tgt := 81) dX7_menByMeasure_69 (by decide) (fun cc => ?_) (fun cc => ?_)
      · replace h := bu_f h cc
        refine bv_iinc (j := 6) (v := (x6 + 1)) (ls1 := [(0, .ref 151), (1, va_rf x1), (2, .int x2), (3, .ref 26), (4, .int x4), (5, .int x5), (6, .int (x6 + 1))]) dX7_menByMeasure_81 rfl rfl (by decide) (by simp [bm_ok1, bm_rf_cat, Value.category]) rfl ?_
        refine bv_goto (tgt := 39) dX7_menByMeasure_84 (by decide) ?_
        exact ih _ _ _ h K0
      · replace h := bu_t h cc
        refine bv_iload dX7_menByMeasure_72 5 rfl ?_
        refine bv_iconst (v := 1) dX7_menByMeasure_74 (by decide) ?_
        refine bv_iload dX7_menByMeasure_75 6 rfl ?_
        refine bv_ishl dX7_menByMeasure_77 ?_
        refine bv_ior dX7_menByMeasure_78 ?_
        refine bv_istore (ls1 := [(0, .ref 151), (1, va_rf x1), (2, .int x2), (3, .ref 26), (4, .int x4), (5, .int (x5 ||| (bm_ishl 1 x6))), (6, .int x6)]) dX7_menByMeasure_79 (by decide) (by simp [bm_ok1, bm_rf_cat, Value.category]) rfl ?_
        refine bv_iinc (j := 6) (v := (x6 + 1)) (ls1 := [(0, .ref 151), (1, va_rf x1), (2, .int x2), (3, .ref 26), (4, .int x4), (5, .int (x5 ||| (bm_ishl 1 x6))), (6, .int (x6 + 1))]) dX7_menByMeasure_81 rfl rfl (by decide) (by simp [bm_ok1, bm_rf_cat, Value.category]) rfl ?_
        refine bv_goto (tgt := 39) dX7_menByMeasure_84 (by decide) ?_
        exact ih _ _ _ h K0
def f_X7_menByMeasure (I : bm_TI) (x1 : Option Nat) (x2 : Int32) : Option (Int32) := (if bm_ix 40 x2 = true then (if (I 154 x2.toNatClampNeg) = 60 then ((f_X7_menByMeasure_l39 I x1 x2 (-1) 1000 0 0).bind fun y10 => some y10) else (if (I 154 x2.toNatClampNeg) = 62 then ((f_X7_menByMeasure_l39 I x1 x2 1 1000 0 0).bind fun y7 => some y7) else ((f_X7_menByMeasure_l39 I x1 x2 0 1000 0 0).bind fun y4 => some y4))) else none)
set_option maxHeartbeats 4000000 in
set_option maxRecDepth 100000 in
theorem c_X7_menByMeasure {lc : bm_L} {d n : Nat} {I : bm_TI} {J : bm_TJ} {R W : bm_TR} {x1 : Option Nat} {x2 : Int32} {v : Int32} (hN : 181 ≤ n) (hR : bm_RR R) (h : f_X7_menByMeasure I x1 x2 = some v) : bm_C lc m_X7_menByMeasure (d + 3) n n [.ref 151, va_rf x1, .int x2, .ref 26] (I, J, R, W) (fun r M' => r = some (.int v) ∧ M' = (I, J, R, W)) := by
  refine bm_C.ofV (by decide) (by cases x1 <;> exact Nat.le_of_ble_eq_true rfl) ?_
  rw [show bm_en 0 [.ref 151, va_rf x1, .int x2, .ref 26] = [(0, .ref 151), (1, va_rf x1), (2, .int x2), (3, .ref 26)] from by cases x1 <;> rfl]
  unfold f_X7_menByMeasure at h
  refine bv_aload_n dX7_menByMeasure_0 0 rfl ?_
  refine bz_getA (a := 154) hN okL_151 (hR _ _ _ r0_151_2) dX7_menByMeasure_1 fl_7_21 rfl ?_
  refine bv_iload_n dX7_menByMeasure_4 2 rfl ?_
  obtain ⟨r1, h⟩ := bu_ix h
  refine bz_iald hN rkL_154 r1 rfl dX7_menByMeasure_5 ?_
  refine bv_bipush (v := 60) dX7_menByMeasure_6 (by decide) ?_
  refine bv_icmp_ne (tgt := 15) dX7_menByMeasure_8 (by decide) (fun cc => ?_) (fun cc => ?_)
  · replace h := bu_f h cc
    refine bv_aload_n dX7_menByMeasure_15 0 rfl ?_
    refine bz_getA (a := 154) hN okL_151 (hR _ _ _ r0_151_2) dX7_menByMeasure_16 fl_7_21 rfl ?_
    refine bv_iload_n dX7_menByMeasure_19 2 rfl ?_
    refine bz_iald hN rkL_154 r1 rfl dX7_menByMeasure_20 ?_
    refine bv_bipush (v := 62) dX7_menByMeasure_21 (by decide) ?_
    refine bv_icmp_ne (tgt := 30) dX7_menByMeasure_23 (by decide) (fun cc => ?_) (fun cc => ?_)
    · replace h := bu_f h cc
      refine bv_iconst (v := 0) dX7_menByMeasure_30 (by decide) ?_
      refine bv_istore (ls1 := [(0, .ref 151), (1, va_rf x1), (2, .int x2), (3, .ref 26), (4, .int 0)]) dX7_menByMeasure_31 (by decide) (by simp [bm_ok1, bm_rf_cat, Value.category]) rfl ?_
      refine bv_iconst (v := 0) dX7_menByMeasure_33 (by decide) ?_
      refine bv_istore (ls1 := [(0, .ref 151), (1, va_rf x1), (2, .int x2), (3, .ref 26), (4, .int 0), (5, .int 0)]) dX7_menByMeasure_34 (by decide) (by simp [bm_ok1, bm_rf_cat, Value.category]) rfl ?_
      refine bv_iconst (v := 0) dX7_menByMeasure_36 (by decide) ?_
      refine bv_istore (ls1 := [(0, .ref 151), (1, va_rf x1), (2, .int x2), (3, .ref 26), (4, .int 0), (5, .int 0), (6, .int 0)]) dX7_menByMeasure_37 (by decide) (by simp [bm_ok1, bm_rf_cat, Value.category]) rfl ?_
      obtain ⟨r2, p3, h⟩ := bu_bd h
      refine v_X7_menByMeasure_l39 hN hR 1000 _ _ _ p3 (fun y4 hy => ?_)
      · subst hy
        refine bv_iload dX7_menByMeasure_87 0 rfl ?_
        obtain rfl := Option.some.inj h
        exact bv_iret (x := y4) dX7_menByMeasure_89 rfl ⟨rfl, rfl⟩
    · replace h := bu_t h cc
      refine bv_iconst (v := 1) dX7_menByMeasure_26 (by decide) ?_
      refine bv_goto (tgt := 31) dX7_menByMeasure_27 (by decide) ?_
      refine bv_istore (ls1 := [(0, .ref 151), (1, va_rf x1), (2, .int x2), (3, .ref 26), (4, .int 1)]) dX7_menByMeasure_31 (by decide) (by simp [bm_ok1, bm_rf_cat, Value.category]) rfl ?_
      refine bv_iconst (v := 0) dX7_menByMeasure_33 (by decide) ?_
      refine bv_istore (ls1 := [(0, .ref 151), (1, va_rf x1), (2, .int x2), (3, .ref 26), (4, .int 1), (5, .int 0)]) dX7_menByMeasure_34 (by decide) (by simp [bm_ok1, bm_rf_cat, Value.category]) rfl ?_
      refine bv_iconst (v := 0) dX7_menByMeasure_36 (by decide) ?_
      refine bv_istore (ls1 := [(0, .ref 151), (1, va_rf x1), (2, .int x2), (3, .ref 26), (4, .int 1), (5, .int 0), (6, .int 0)]) dX7_menByMeasure_37 (by decide) (by simp [bm_ok1, bm_rf_cat, Value.category]) rfl ?_
      obtain ⟨r5, p6, h⟩ := bu_bd h
      refine v_X7_menByMeasure_l39 hN hR 1000 _ _ _ p6 (fun y7 hy => ?_)
      · subst hy
        refine bv_iload dX7_menByMeasure_87 0 rfl ?_
        obtain rfl := Option.some.inj h
        exact bv_iret (x := y7) dX7_menByMeasure_89 rfl ⟨rfl, rfl⟩
  · replace h := bu_t h cc
    refine bv_iconst (v := (-1)) dX7_menByMeasure_11 (by decide) ?_
    refine bv_goto (tgt := 31) dX7_menByMeasure_12 (by decide) ?_
    refine bv_istore (ls1 := [(0, .ref 151), (1, va_rf x1), (2, .int x2), (3, .ref 26), (4, .int (-1))]) dX7_menByMeasure_31 (by decide) (by simp [bm_ok1, bm_rf_cat, Value.category]) rfl ?_
    refine bv_iconst (v := 0) dX7_menByMeasure_33 (by decide) ?_
    refine bv_istore (ls1 := [(0, .ref 151), (1, va_rf x1), (2, .int x2), (3, .ref 26), (4, .int (-1)), (5, .int 0)]) dX7_menByMeasure_34 (by decide) (by simp [bm_ok1, bm_rf_cat, Value.category]) rfl ?_
    refine bv_iconst (v := 0) dX7_menByMeasure_36 (by decide) ?_
    refine bv_istore (ls1 := [(0, .ref 151), (1, va_rf x1), (2, .int x2), (3, .ref 26), (4, .int (-1)), (5, .int 0), (6, .int 0)]) dX7_menByMeasure_37 (by decide) (by simp [bm_ok1, bm_rf_cat, Value.category]) rfl ?_
    obtain ⟨r8, p9, h⟩ := bu_bd h
    refine v_X7_menByMeasure_l39 hN hR 1000 _ _ _ p9 (fun y10 hy => ?_)
    · subst hy
      refine bv_iload dX7_menByMeasure_87 0 rfl ?_
      obtain rfl := Option.some.inj h
      exact bv_iret (x := y10) dX7_menByMeasure_89 rfl ⟨rfl, rfl⟩
def f_X11_far (x0 : Int32) (x1 : Int32) (x2 : Int32) (x3 : Int32) : Int32 := (if x2 ≤ x0 then (if x3 ≤ x1 then ((x0 - x2) + (x1 - x3)) else ((x0 - x2) + (x3 - x1))) else (if x3 ≤ x1 then ((x2 - x0) + (x1 - x3)) else ((x2 - x0) + (x3 - x1))))
set_option maxHeartbeats 4000000 in
set_option maxRecDepth 100000 in
theorem c_X11_far {lc : bm_L} {d n : Nat} {I : bm_TI} {J : bm_TJ} {R W : bm_TR} {x0 : Int32} {x1 : Int32} {x2 : Int32} {x3 : Int32} {v : Int32} (hN : 181 ≤ n) (hR : bm_RR R) (h : f_X11_far x0 x1 x2 x3 = v) : bm_C lc m_X11_far d n n [.int x0, .int x1, .int x2, .int x3] (I, J, R, W) (fun r M' => r = some (.int v) ∧ M' = (I, J, R, W)) := by
  refine bm_C.ofV (by decide) (Nat.le_of_ble_eq_true rfl) ?_
  show bm_V lc m_X11_far d n n n 0 [(0, .int x0), (1, .int x1), (2, .int x2), (3, .int x3)] [] (I, J, R, W) _
  unfold f_X11_far at h
  refine bv_iload_n dX11_far_0 0 rfl ?_
  refine bv_iload_n dX11_far_1 2 rfl ?_
  refine bv_icmp_ge (tgt := 11) dX11_far_2 (by decide) (fun cc => ?_) (fun cc => ?_)
  · replace h := bu_t h cc
    refine bv_iload_n dX11_far_11 0 rfl ?_
    refine bv_iload_n dX11_far_12 2 rfl ?_
    refine bv_isub dX11_far_13 ?_
    refine bv_istore (ls1 := [(0, .int x0), (1, .int x1), (2, .int x2), (3, .int x3), (4, .int (x0 - x2))]) dX11_far_14 (by decide) rfl rfl ?_
    refine bv_iload_n dX11_far_16 1 rfl ?_
    refine bv_iload_n dX11_far_17 3 rfl ?_
    refine bv_icmp_ge (tgt := 27) dX11_far_18 (by decide) (fun cc => ?_) (fun cc => ?_)
    · replace h := bu_t h cc
      refine bv_iload_n dX11_far_27 1 rfl ?_
      refine bv_iload_n dX11_far_28 3 rfl ?_
      refine bv_isub dX11_far_29 ?_
      refine bv_istore (ls1 := [(0, .int x0), (1, .int x1), (2, .int x2), (3, .int x3), (4, .int (x0 - x2)), (5, .int (x1 - x3))]) dX11_far_30 (by decide) rfl rfl ?_
      refine bv_iload dX11_far_32 4 rfl ?_
      refine bv_iload dX11_far_34 5 rfl ?_
      refine bv_iadd dX11_far_36 ?_
      subst h
      exact bv_iret (x := ((x0 - x2) + (x1 - x3))) dX11_far_37 rfl ⟨rfl, rfl⟩
    · replace h := bu_f h cc
      refine bv_iload_n dX11_far_21 3 rfl ?_
      refine bv_iload_n dX11_far_22 1 rfl ?_
      refine bv_isub dX11_far_23 ?_
      refine bv_goto (tgt := 30) dX11_far_24 (by decide) ?_
      refine bv_istore (ls1 := [(0, .int x0), (1, .int x1), (2, .int x2), (3, .int x3), (4, .int (x0 - x2)), (5, .int (x3 - x1))]) dX11_far_30 (by decide) rfl rfl ?_
      refine bv_iload dX11_far_32 4 rfl ?_
      refine bv_iload dX11_far_34 5 rfl ?_
      refine bv_iadd dX11_far_36 ?_
      subst h
      exact bv_iret (x := ((x0 - x2) + (x3 - x1))) dX11_far_37 rfl ⟨rfl, rfl⟩
  · replace h := bu_f h cc
    refine bv_iload_n dX11_far_5 2 rfl ?_
    refine bv_iload_n dX11_far_6 0 rfl ?_
    refine bv_isub dX11_far_7 ?_
    refine bv_goto (tgt := 14) dX11_far_8 (by decide) ?_
    refine bv_istore (ls1 := [(0, .int x0), (1, .int x1), (2, .int x2), (3, .int x3), (4, .int (x2 - x0))]) dX11_far_14 (by decide) rfl rfl ?_
    refine bv_iload_n dX11_far_16 1 rfl ?_
    refine bv_iload_n dX11_far_17 3 rfl ?_
    refine bv_icmp_ge (tgt := 27) dX11_far_18 (by decide) (fun cc => ?_) (fun cc => ?_)
    · replace h := bu_t h cc
      refine bv_iload_n dX11_far_27 1 rfl ?_
      refine bv_iload_n dX11_far_28 3 rfl ?_
      refine bv_isub dX11_far_29 ?_
      refine bv_istore (ls1 := [(0, .int x0), (1, .int x1), (2, .int x2), (3, .int x3), (4, .int (x2 - x0)), (5, .int (x1 - x3))]) dX11_far_30 (by decide) rfl rfl ?_
      refine bv_iload dX11_far_32 4 rfl ?_
      refine bv_iload dX11_far_34 5 rfl ?_
      refine bv_iadd dX11_far_36 ?_
      subst h
      exact bv_iret (x := ((x2 - x0) + (x1 - x3))) dX11_far_37 rfl ⟨rfl, rfl⟩
    · replace h := bu_f h cc
      refine bv_iload_n dX11_far_21 3 rfl ?_
      refine bv_iload_n dX11_far_22 1 rfl ?_
      refine bv_isub dX11_far_23 ?_
      refine bv_goto (tgt := 30) dX11_far_24 (by decide) ?_
      refine bv_istore (ls1 := [(0, .int x0), (1, .int x1), (2, .int x2), (3, .int x3), (4, .int (x2 - x0)), (5, .int (x3 - x1))]) dX11_far_30 (by decide) rfl rfl ?_
      refine bv_iload dX11_far_32 4 rfl ?_
      refine bv_iload dX11_far_34 5 rfl ?_
      refine bv_iadd dX11_far_36 ?_
      subst h
      exact bv_iret (x := ((x2 - x0) + (x3 - x1))) dX11_far_37 rfl ⟨rfl, rfl⟩
def f_X8_rangeOf (I : bm_TI) (x1 : Int32) : Option (Int32) := ((f_X8_browOf I 26 x1).bind fun v1 => (if v1 = 0 then some (-1) else some (v1 * (I 4 15))))
set_option maxHeartbeats 4000000 in
set_option maxRecDepth 100000 in
theorem c_X8_rangeOf {lc : bm_L} {d n : Nat} {I : bm_TI} {J : bm_TJ} {R W : bm_TR} {x1 : Int32} {v : Int32} (hN : 181 ≤ n) (hR : bm_RR R) (h : f_X8_rangeOf I x1 = some v) : bm_C lc m_X8_rangeOf (d + 2) n n [.ref 26, .int x1] (I, J, R, W) (fun r M' => r = some (.int v) ∧ M' = (I, J, R, W)) := by
  refine bm_C.ofV (by decide) (Nat.le_of_ble_eq_true rfl) ?_
  show bm_V lc m_X8_rangeOf (d + 2) n n n 0 [(0, .ref 26), (1, .int x1)] [] (I, J, R, W) _
  unfold f_X8_rangeOf at h
  refine bv_aload_n dX8_rangeOf_0 0 rfl ?_
  refine bv_iload_n dX8_rangeOf_1 1 rfl ?_
  obtain ⟨v1, p2, h⟩ := bu_bd h
  refine bw_callV (As := [.int x1]) hN okL_26 ⟨_, _, rfl⟩ dX8_rangeOf_2 mc_8_79 (c_X8_browOf (d := d + 0) hN hR okL_26 r0_26_0 p2) rfl rfl (by decide) ?_
  refine bv_istore_n (ls1 := [(0, .ref 26), (1, .int x1), (2, .int v1)]) dX8_rangeOf_5 (by decide) rfl rfl ?_
  refine bv_iload_n dX8_rangeOf_6 2 rfl ?_
  refine bv_if_ne (tgt := 14) dX8_rangeOf_7 (by decide) (fun cc => ?_) (fun cc => ?_)
  · replace h := bu_f h cc
    refine bv_iload_n dX8_rangeOf_14 2 rfl ?_
    refine bv_aload_n dX8_rangeOf_15 0 rfl ?_
    refine bz_getA (a := 4) hN okL_26 (hR _ _ _ r0_26_0) dX8_rangeOf_16 fl_8_30 rfl ?_
    refine bz_getI hN okL_4 dX8_rangeOf_19 fl_8_83 rfl ?_
    refine bv_imul dX8_rangeOf_22 ?_
    obtain rfl := Option.some.inj h
    exact bv_iret (x := (v1 * (I 4 15))) dX8_rangeOf_23 rfl ⟨rfl, rfl⟩
  · replace h := bu_t h cc
    refine bv_iconst (v := (-1)) dX8_rangeOf_10 (by decide) ?_
    refine bv_goto (tgt := 23) dX8_rangeOf_11 (by decide) ?_
    obtain rfl := Option.some.inj h
    exact bv_iret (x := (-1)) dX8_rangeOf_23 rfl ⟨rfl, rfl⟩
def f_X8_seenBy_l4 (I : bm_TI) (x1 : Int32) : Nat → Int32 → Int32 → Option (Int32)
  | 0, _, _ => none
  | k + 1, x2, x3 => (if (I 4 10) ≤ x3 then some x2 else (if x3 = x1 then f_X8_seenBy_l4 I x1 k x2 (x3 + 1) else (if bm_ix 8 x1 = true then (if bm_ix 8 x3 = true then ((f_X8_rangeOf I x3).bind fun v3 => (if v3 < (f_X11_far (I 27 x1.toNatClampNeg) (I 28 x1.toNatClampNeg) (I 27 x3.toNatClampNeg) (I 28 x3.toNatClampNeg)) then f_X8_seenBy_l4 I x1 k x2 (x3 + 1) else f_X8_seenBy_l4 I x1 k (x2 ||| (bm_ishl 1 x3)) (x3 + 1))) else none) else none)))
set_option maxHeartbeats 4000000 in
set_option maxRecDepth 100000 in
theorem v_X8_seenBy_l4 {lc : bm_L} {d n : Nat} {Q : Option Value → bm_M → Prop} {R : bm_TR} {I : bm_TI} {J : bm_TJ} {W : bm_TR} {x1 : Int32} (hN : 181 ≤ n) (hR : bm_RR R) : ∀ (k : Nat) (x2 : Int32) (x3 : Int32) (r : Int32), f_X8_seenBy_l4 I x1 k x2 x3 = some r → (∀ yy, yy = r → bm_V lc m_X8_seenBy (d + 3) n n n 67 [(0, .ref 26), (1, .int x1), (2, .int yy)] [] (I, J, R, W) Q) → bm_V lc m_X8_seenBy (d + 3) n n n 4 [(0, .ref 26), (1, .int x1), (2, .int x2), (3, .int x3)] [] (I, J, R, W) Q := by
  intro k
  induction k with
  | zero => intro x2 x3 r h; cases (show (none : Option (Int32)) = some r from h)
  | succ k ih =>
    intro x2 x3 r h K0
    unfold f_X8_seenBy_l4 at h
    refine bv_iload_n dX8_seenBy_4 3 rfl ?_
    refine bv_aload_n dX8_seenBy_5 0 rfl ?_
    refine bz_getA (a := 4) hN okL_26 (hR _ _ _ r0_26_0) dX8_seenBy_6 fl_8_30 rfl ?_
    refine bz_getI hN okL_4 dX8_seenBy_9 fl_8_34 rfl ?_
    refine bv_icmp_ge (tgt := 67) dX8_seenBy_12 (by decide) (fun cc => ?_) (fun cc => ?_)
    · replace h := bu_t h cc
      refine bw_ls (ls1 := [(0, .ref 26), (1, .int x1), (2, .int x2)]) [0, 1, 2] rfl ?_
      obtain rfl := Option.some.inj h
      exact K0 _ rfl
    · replace h := bu_f h cc
      refine bv_iload_n dX8_seenBy_15 3 rfl ?_
      refine bv_iload_n dX8_seenBy_16 1 rfl ?_
      refine bv_icmp_eq (tgt := 61) dX8_seenBy_17 (by decide) (fun cc => ?_) (fun cc => ?_)
      · replace h := bu_t h cc
        refine bv_iinc (j := 3) (v := (x3 + 1)) (ls1 := [(0, .ref 26), (1, .int x1), (2, .int x2), (3, .int (x3 + 1))]) dX8_seenBy_61 rfl rfl (by decide) rfl rfl ?_
        refine bv_goto (tgt := 4) dX8_seenBy_64 (by decide) ?_
        exact ih _ _ _ h K0
      · replace h := bu_f h cc
        refine bv_aload_n dX8_seenBy_20 0 rfl ?_
        refine bz_getA (a := 27) hN okL_26 (hR _ _ _ r0_26_1) dX8_seenBy_21 fl_8_9 rfl ?_
        refine bv_iload_n dX8_seenBy_24 1 rfl ?_
        obtain ⟨r1, h⟩ := bu_ix h
        refine bz_iald hN rkL_27 r1 rfl dX8_seenBy_25 ?_
        refine bv_aload_n dX8_seenBy_26 0 rfl ?_
        refine bz_getA (a := 28) hN okL_26 (hR _ _ _ r0_26_2) dX8_seenBy_27 fl_8_15 rfl ?_
        refine bv_iload_n dX8_seenBy_30 1 rfl ?_
        refine bz_iald hN rkL_28 r1 rfl dX8_seenBy_31 ?_
        refine bv_aload_n dX8_seenBy_32 0 rfl ?_
        refine bz_getA (a := 27) hN okL_26 (hR _ _ _ r0_26_1) dX8_seenBy_33 fl_8_9 rfl ?_
        refine bv_iload_n dX8_seenBy_36 3 rfl ?_
        obtain ⟨r2, h⟩ := bu_ix h
        refine bz_iald hN rkL_27 r2 rfl dX8_seenBy_37 ?_
        refine bv_aload_n dX8_seenBy_38 0 rfl ?_
        refine bz_getA (a := 28) hN okL_26 (hR _ _ _ r0_26_2) dX8_seenBy_39 fl_8_15 rfl ?_
        refine bv_iload_n dX8_seenBy_42 3 rfl ?_
        refine bz_iald hN rkL_28 r2 rfl dX8_seenBy_43 ?_
        refine bw_callSN (As := [.int (I 27 x1.toNatClampNeg), .int (I 28 x1.toNatClampNeg), .int (I 27 x3.toNatClampNeg), .int (I 28 x3.toNatClampNeg)]) dX8_seenBy_44 mc_8_86 (c_X11_far (d := d + 2) hN hR rfl) rfl rfl (by decide) ?_
        refine bv_aload_n dX8_seenBy_47 0 rfl ?_
        refine bv_iload_n dX8_seenBy_48 3 rfl ?_
        obtain ⟨v3, p4, h⟩ := bu_bd h
        refine bw_callV (As := [.int x3]) hN okL_26 ⟨_, _, rfl⟩ dX8_seenBy_49 mc_8_90 (c_X8_rangeOf (d := d + 0) hN hR p4) rfl rfl (Nat.le_of_ble_eq_true rfl) ?_
        refine bv_icmp_gt (tgt := 61) dX8_seenBy_52 (by decide) (fun cc => ?_) (fun cc => ?_)
        · replace h := bu_t h cc
          refine bv_iinc (j := 3) (v := (x3 + 1)) (ls1 := [(0, .ref 26), (1, .int x1), (2, .int x2), (3, .int (x3 + 1))]) dX8_seenBy_61 rfl rfl (by decide) rfl rfl ?_
          refine bv_goto (tgt := 4) dX8_seenBy_64 (by decide) ?_
          exact ih _ _ _ h K0
        · replace h := bu_f h cc
          refine bv_iload_n dX8_seenBy_55 2 rfl ?_
          refine bv_iconst (v := 1) dX8_seenBy_56 (by decide) ?_
          refine bv_iload_n dX8_seenBy_57 3 rfl ?_
          refine bv_ishl dX8_seenBy_58 ?_
          refine bv_ior dX8_seenBy_59 ?_
          refine bv_istore_n (ls1 := [(0, .ref 26), (1, .int x1), (2, .int (x2 ||| (bm_ishl 1 x3))), (3, .int x3)]) dX8_seenBy_60 (by decide) rfl rfl ?_
          refine bv_iinc (j := 3) (v := (x3 + 1)) (ls1 := [(0, .ref 26), (1, .int x1), (2, .int (x2 ||| (bm_ishl 1 x3))), (3, .int (x3 + 1))]) dX8_seenBy_61 rfl rfl (by decide) rfl rfl ?_
          refine bv_goto (tgt := 4) dX8_seenBy_64 (by decide) ?_
          exact ih _ _ _ h K0
def f_X8_seenBy (I : bm_TI) (x1 : Int32) : Option (Int32) := ((f_X8_seenBy_l4 I x1 1000 0 0).bind fun y3 => (if (f_X11_bit (I 26 7) x1) = 1 then some 0 else some y3))
set_option maxHeartbeats 4000000 in
set_option maxRecDepth 100000 in
theorem c_X8_seenBy {lc : bm_L} {d n : Nat} {I : bm_TI} {J : bm_TJ} {R W : bm_TR} {x1 : Int32} {v : Int32} (hN : 181 ≤ n) (hR : bm_RR R) (h : f_X8_seenBy I x1 = some v) : bm_C lc m_X8_seenBy (d + 3) n n [.ref 26, .int x1] (I, J, R, W) (fun r M' => r = some (.int v) ∧ M' = (I, J, R, W)) := by
  refine bm_C.ofV (by decide) (Nat.le_of_ble_eq_true rfl) ?_
  show bm_V lc m_X8_seenBy (d + 3) n n n 0 [(0, .ref 26), (1, .int x1)] [] (I, J, R, W) _
  unfold f_X8_seenBy at h
  refine bv_iconst (v := 0) dX8_seenBy_0 (by decide) ?_
  refine bv_istore_n (ls1 := [(0, .ref 26), (1, .int x1), (2, .int 0)]) dX8_seenBy_1 (by decide) rfl rfl ?_
  refine bv_iconst (v := 0) dX8_seenBy_2 (by decide) ?_
  refine bv_istore_n (ls1 := [(0, .ref 26), (1, .int x1), (2, .int 0), (3, .int 0)]) dX8_seenBy_3 (by decide) rfl rfl ?_
  obtain ⟨r1, p2, h⟩ := bu_bd h
  refine v_X8_seenBy_l4 hN hR 1000 _ _ _ p2 (fun y3 hy => ?_)
  · subst hy
    refine bv_aload_n dX8_seenBy_67 0 rfl ?_
    refine bz_getI hN okL_26 dX8_seenBy_68 fl_8_46 rfl ?_
    refine bv_iload_n dX8_seenBy_71 1 rfl ?_
    refine bw_callSN (As := [.int (I 26 7), .int x1]) dX8_seenBy_72 mc_8_70 (c_X11_bit (d := d + 2) hN hR rfl) rfl rfl (by decide) ?_
    refine bv_iconst (v := 1) dX8_seenBy_75 (by decide) ?_
    refine bv_icmp_ne (tgt := 83) dX8_seenBy_76 (by decide) (fun cc => ?_) (fun cc => ?_)
    · replace h := bu_f h cc
      refine bv_iload_n dX8_seenBy_83 2 rfl ?_
      obtain rfl := Option.some.inj h
      exact bv_iret (x := y3) dX8_seenBy_84 rfl ⟨rfl, rfl⟩
    · replace h := bu_t h cc
      refine bv_iconst (v := 0) dX8_seenBy_79 (by decide) ?_
      refine bv_goto (tgt := 84) dX8_seenBy_80 (by decide) ?_
      obtain rfl := Option.some.inj h
      exact bv_iret (x := 0) dX8_seenBy_84 rfl ⟨rfl, rfl⟩
def f_X7_menSeeing_l4 (I : bm_TI) (x0 : Int32) : Nat → Int32 → Int32 → Option (Int32)
  | 0, _, _ => none
  | k + 1, x2, x3 => (if (I 4 10) ≤ x3 then some x2 else ((f_X8_seenBy I x3).bind fun v1 => f_X7_menSeeing_l4 I x0 k (x2 ||| (bm_ishl (f_X11_bit v1 x0) x3)) (x3 + 1)))
set_option maxHeartbeats 4000000 in
set_option maxRecDepth 100000 in
theorem v_X7_menSeeing_l4 {lc : bm_L} {d n : Nat} {Q : Option Value → bm_M → Prop} {R : bm_TR} {I : bm_TI} {J : bm_TJ} {W : bm_TR} {x0 : Int32} (hN : 181 ≤ n) (hR : bm_RR R) : ∀ (k : Nat) (x2 : Int32) (x3 : Int32) (r : Int32), f_X7_menSeeing_l4 I x0 k x2 x3 = some r → (∀ yy, yy = r → bm_V lc m_X7_menSeeing (d + 4) n n n 35 [(2, .int yy)] [] (I, J, R, W) Q) → bm_V lc m_X7_menSeeing (d + 4) n n n 4 [(0, .int x0), (1, .ref 26), (2, .int x2), (3, .int x3)] [] (I, J, R, W) Q := by
  intro k
  induction k with
  | zero => intro x2 x3 r h; cases (show (none : Option (Int32)) = some r from h)
  | succ k ih =>
    intro x2 x3 r h K0
    unfold f_X7_menSeeing_l4 at h
    refine bv_iload_n dX7_menSeeing_4 3 rfl ?_
    refine bv_aload_n dX7_menSeeing_5 1 rfl ?_
    refine bz_getA (a := 4) hN okL_26 (hR _ _ _ r0_26_0) dX7_menSeeing_6 fl_7_97 rfl ?_
    refine bz_getI hN okL_4 dX7_menSeeing_9 fl_7_163 rfl ?_
    refine bv_icmp_ge (tgt := 35) dX7_menSeeing_12 (by decide) (fun cc => ?_) (fun cc => ?_)
    · replace h := bu_t h cc
      refine bw_ls (ls1 := [(2, .int x2)]) [2] rfl ?_
      obtain rfl := Option.some.inj h
      exact K0 _ rfl
    · replace h := bu_f h cc
      refine bv_iload_n dX7_menSeeing_15 2 rfl ?_
      refine bv_aload_n dX7_menSeeing_16 1 rfl ?_
      refine bv_iload_n dX7_menSeeing_17 3 rfl ?_
      obtain ⟨v1, p2, h⟩ := bu_bd h
      refine bw_callV (As := [.int x3]) hN okL_26 ⟨_, _, rfl⟩ dX7_menSeeing_18 mc_7_166 (c_X8_seenBy (d := d + 0) hN hR p2) rfl rfl (Nat.le_of_ble_eq_true rfl) ?_
      refine bv_iload_n dX7_menSeeing_21 0 rfl ?_
      refine bw_callSN (As := [.int v1, .int x0]) dX7_menSeeing_22 mc_7_169 (c_X11_bit (d := d + 3) hN hR rfl) rfl rfl (Nat.le_of_ble_eq_true rfl) ?_
      refine bv_iload_n dX7_menSeeing_25 3 rfl ?_
      refine bv_ishl dX7_menSeeing_26 ?_
      refine bv_ior dX7_menSeeing_27 ?_
      refine bv_istore_n (ls1 := [(0, .int x0), (1, .ref 26), (2, .int (x2 ||| (bm_ishl (f_X11_bit v1 x0) x3))), (3, .int x3)]) dX7_menSeeing_28 (by decide) rfl rfl ?_
      refine bv_iinc (j := 3) (v := (x3 + 1)) (ls1 := [(0, .int x0), (1, .ref 26), (2, .int (x2 ||| (bm_ishl (f_X11_bit v1 x0) x3))), (3, .int (x3 + 1))]) dX7_menSeeing_29 rfl rfl (by decide) rfl rfl ?_
      refine bv_goto (tgt := 4) dX7_menSeeing_32 (by decide) ?_
      exact ih _ _ _ h K0
def f_X7_menSeeing (I : bm_TI) (x0 : Int32) : Option (Int32) := ((f_X7_menSeeing_l4 I x0 1000 0 0).bind fun y3 => some y3)
set_option maxHeartbeats 4000000 in
set_option maxRecDepth 100000 in
theorem c_X7_menSeeing {lc : bm_L} {d n : Nat} {I : bm_TI} {J : bm_TJ} {R W : bm_TR} {x0 : Int32} {v : Int32} (hN : 181 ≤ n) (hR : bm_RR R) (h : f_X7_menSeeing I x0 = some v) : bm_C lc m_X7_menSeeing (d + 4) n n [.int x0, .ref 26] (I, J, R, W) (fun r M' => r = some (.int v) ∧ M' = (I, J, R, W)) := by
  refine bm_C.ofV (by decide) (Nat.le_of_ble_eq_true rfl) ?_
  show bm_V lc m_X7_menSeeing (d + 4) n n n 0 [(0, .int x0), (1, .ref 26)] [] (I, J, R, W) _
  unfold f_X7_menSeeing at h
  refine bv_iconst (v := 0) dX7_menSeeing_0 (by decide) ?_
  refine bv_istore_n (ls1 := [(0, .int x0), (1, .ref 26), (2, .int 0)]) dX7_menSeeing_1 (by decide) rfl rfl ?_
  refine bv_iconst (v := 0) dX7_menSeeing_2 (by decide) ?_
  refine bv_istore_n (ls1 := [(0, .int x0), (1, .ref 26), (2, .int 0), (3, .int 0)]) dX7_menSeeing_3 (by decide) rfl rfl ?_
  obtain ⟨r1, p2, h⟩ := bu_bd h
  refine v_X7_menSeeing_l4 hN hR 1000 _ _ _ p2 (fun y3 hy => ?_)
  · subst hy
    refine bv_iload_n dX7_menSeeing_35 0 rfl ?_
    obtain rfl := Option.some.inj h
    exact bv_iret (x := y3) dX7_menSeeing_36 rfl ⟨rfl, rfl⟩
def f_X8_holdersOf_l4 (I : bm_TI) (x0 : Nat) (x1 : Int32) : Nat → Int32 → Int32 → Option (Int32)
  | 0, _, _ => none
  | k + 1, x2, x3 => (if (I 4 10) ≤ x3 then some x2 else (if bm_ix 8 x3 = true then (if (I (x0 + 4) x3.toNatClampNeg) = x1 then f_X8_holdersOf_l4 I x0 x1 k (x2 ||| (bm_ishl 1 x3)) (x3 + 1) else f_X8_holdersOf_l4 I x0 x1 k x2 (x3 + 1)) else none))
set_option maxHeartbeats 4000000 in
set_option maxRecDepth 100000 in
theorem v_X8_holdersOf_l4 {lc : bm_L} {d n : Nat} {Q : Option Value → bm_M → Prop} {R : bm_TR} {I : bm_TI} {J : bm_TJ} {W : bm_TR} {x0 : Nat} {x1 : Int32} (hN : 181 ≤ n) (hR : bm_RR R) (q_0 : bm_OK x0 8) (a_0 : bm_tr x0 0 = some 4) : ∀ (k : Nat) (x2 : Int32) (x3 : Int32) (r : Int32), f_X8_holdersOf_l4 I x0 x1 k x2 x3 = some r → (∀ yy, yy = r → bm_V lc m_X8_holdersOf d n n n 37 [(2, .int yy)] [] (I, J, R, W) Q) → bm_V lc m_X8_holdersOf d n n n 4 [(0, .ref x0), (1, .int x1), (2, .int x2), (3, .int x3)] [] (I, J, R, W) Q := by
  intro k
  induction k with
  | zero => intro x2 x3 r h; cases (show (none : Option (Int32)) = some r from h)
  | succ k ih =>
    intro x2 x3 r h K0
    unfold f_X8_holdersOf_l4 at h
    refine bv_iload_n dX8_holdersOf_4 3 rfl ?_
    refine bv_aload_n dX8_holdersOf_5 0 rfl ?_
    refine bz_getA (a := 4) hN q_0 (hR _ _ _ a_0) dX8_holdersOf_6 fl_8_30 rfl ?_
    refine bz_getI hN okL_4 dX8_holdersOf_9 fl_8_34 rfl ?_
    refine bv_icmp_ge (tgt := 37) dX8_holdersOf_12 (by decide) (fun cc => ?_) (fun cc => ?_)
    · replace h := bu_t h cc
      refine bw_ls (ls1 := [(2, .int x2)]) [2] rfl ?_
      obtain rfl := Option.some.inj h
      exact K0 _ rfl
    · replace h := bu_f h cc
      refine bv_aload_n dX8_holdersOf_15 0 rfl ?_
      refine bz_getA (a := (x0 + 4)) hN q_0 (hR _ _ _ (tr_8_4 q_0)) dX8_holdersOf_16 fl_8_21 rfl ?_
      refine bv_iload_n dX8_holdersOf_19 3 rfl ?_
      obtain ⟨r1, h⟩ := bu_ix h
      refine bz_iald hN (rk_8_4 q_0) r1 rfl dX8_holdersOf_20 ?_
      refine bv_iload_n dX8_holdersOf_21 1 rfl ?_
      refine bv_icmp_ne (tgt := 31) dX8_holdersOf_22 (by decide) (fun cc => ?_) (fun cc => ?_)
      · replace h := bu_f h cc
        refine bv_iinc (j := 3) (v := (x3 + 1)) (ls1 := [(0, .ref x0), (1, .int x1), (2, .int x2), (3, .int (x3 + 1))]) dX8_holdersOf_31 rfl rfl (by decide) rfl rfl ?_
        refine bv_goto (tgt := 4) dX8_holdersOf_34 (by decide) ?_
        exact ih _ _ _ h K0
      · replace h := bu_t h cc
        refine bv_iload_n dX8_holdersOf_25 2 rfl ?_
        refine bv_iconst (v := 1) dX8_holdersOf_26 (by decide) ?_
        refine bv_iload_n dX8_holdersOf_27 3 rfl ?_
        refine bv_ishl dX8_holdersOf_28 ?_
        refine bv_ior dX8_holdersOf_29 ?_
        refine bv_istore_n (ls1 := [(0, .ref x0), (1, .int x1), (2, .int (x2 ||| (bm_ishl 1 x3))), (3, .int x3)]) dX8_holdersOf_30 (by decide) rfl rfl ?_
        refine bv_iinc (j := 3) (v := (x3 + 1)) (ls1 := [(0, .ref x0), (1, .int x1), (2, .int (x2 ||| (bm_ishl 1 x3))), (3, .int (x3 + 1))]) dX8_holdersOf_31 rfl rfl (by decide) rfl rfl ?_
        refine bv_goto (tgt := 4) dX8_holdersOf_34 (by decide) ?_
        exact ih _ _ _ h K0
def f_X8_holdersOf (I : bm_TI) (x0 : Nat) (x1 : Int32) : Option (Int32) := ((f_X8_holdersOf_l4 I x0 x1 1000 0 0).bind fun y3 => some y3)
set_option maxHeartbeats 4000000 in
set_option maxRecDepth 100000 in
theorem c_X8_holdersOf {lc : bm_L} {d n : Nat} {I : bm_TI} {J : bm_TJ} {R W : bm_TR} {x0 : Nat} {x1 : Int32} {v : Int32} (hN : 181 ≤ n) (hR : bm_RR R) (q_0 : bm_OK x0 8) (a_0 : bm_tr x0 0 = some 4) (h : f_X8_holdersOf I x0 x1 = some v) : bm_C lc m_X8_holdersOf d n n [.ref x0, .int x1] (I, J, R, W) (fun r M' => r = some (.int v) ∧ M' = (I, J, R, W)) := by
  refine bm_C.ofV (by decide) (Nat.le_of_ble_eq_true rfl) ?_
  show bm_V lc m_X8_holdersOf d n n n 0 [(0, .ref x0), (1, .int x1)] [] (I, J, R, W) _
  unfold f_X8_holdersOf at h
  refine bv_iconst (v := 0) dX8_holdersOf_0 (by decide) ?_
  refine bv_istore_n (ls1 := [(0, .ref x0), (1, .int x1), (2, .int 0)]) dX8_holdersOf_1 (by decide) rfl rfl ?_
  refine bv_iconst (v := 0) dX8_holdersOf_2 (by decide) ?_
  refine bv_istore_n (ls1 := [(0, .ref x0), (1, .int x1), (2, .int 0), (3, .int 0)]) dX8_holdersOf_3 (by decide) rfl rfl ?_
  obtain ⟨r1, p2, h⟩ := bu_bd h
  refine v_X8_holdersOf_l4 hN hR q_0 a_0 1000 _ _ _ p2 (fun y3 hy => ?_)
  · subst hy
    refine bv_iload_n dX8_holdersOf_37 0 rfl ?_
    obtain rfl := Option.some.inj h
    exact bv_iret (x := y3) dX8_holdersOf_38 rfl ⟨rfl, rfl⟩
def f_X7_menOfPlain (I : bm_TI) (x1 : Option Nat) (x2 : Int32) : Option (Int32) := (if bm_iwq x1 = true then (if x1 = (some (1000 + 22)) then some (I 26 7) else (if x1 = (some (1000 + 23)) then some (I 26 8) else (if x1 = (some (1000 + 24)) then some (I 4 11) else (if x1 = (some (1000 + 25)) then some (I 4 12) else (if x1 = (some (1000 + 26)) then ((f_X8_holdersOf I 26 (-1)).bind fun v13 => some v13) else (if x1 = (some (1000 + 27)) then (if bm_ix 40 x2 = true then ((f_X0_straightUnder I (I 153 x2.toNatClampNeg)).bind fun v11 => some v11) else none) else (if x1 = (some (1000 + 28)) then (if bm_ix 40 x2 = true then ((f_X7_menSeeing I (I 153 x2.toNatClampNeg)).bind fun v8 => some v8) else none) else (if x1 = (some (1000 + 29)) then (if bm_ix 40 x2 = true then ((f_X8_holdersOf I 26 (I 153 x2.toNatClampNeg)).bind fun v5 => some v5) else none) else ((f_X7_menByMeasure I x1 x2).bind fun v2 => some v2))))))))) else none)
set_option maxHeartbeats 4000000 in
set_option maxRecDepth 100000 in
theorem c_X7_menOfPlain {lc : bm_L} {d n : Nat} {I : bm_TI} {J : bm_TJ} {R W : bm_TR} {x1 : Option Nat} {x2 : Int32} {v : Int32} (hN : 181 ≤ n) (hR : bm_RR R) (h : f_X7_menOfPlain I x1 x2 = some v) : bm_C lc m_X7_menOfPlain (d + 5) n n [.ref 151, va_rf x1, .int x2, .ref 26] (I, J, R, W) (fun r M' => r = some (.int v) ∧ M' = (I, J, R, W)) := by
  refine bm_C.ofV (by decide) (by cases x1 <;> exact Nat.le_of_ble_eq_true rfl) ?_
  rw [show bm_en 0 [.ref 151, va_rf x1, .int x2, .ref 26] = [(0, .ref 151), (1, va_rf x1), (2, .int x2), (3, .ref 26)] from by cases x1 <;> rfl]
  unfold f_X7_menOfPlain at h
  refine bv_aloadq_n (x := x1) dX7_menOfPlain_0 1 rfl ?_
  refine bw_getW (j := 22) dX7_menOfPlain_1 fw_7_113 rfl ?_
  obtain ⟨w1, h⟩ := bu_g h
  refine bv_acmp_ne (x := x1) (y := (some (1000 + 22))) (tgt := 12) dX7_menOfPlain_4 (by decide) (bm_wq_of w1) (bm_wq_of rfl) (fun cc => ?_) (fun cc => ?_)
  · replace h := bu_f h cc
    refine bv_aloadq_n (x := x1) dX7_menOfPlain_12 1 rfl ?_
    refine bw_getW (j := 23) dX7_menOfPlain_13 fw_7_119 rfl ?_
    refine bv_acmp_ne (x := x1) (y := (some (1000 + 23))) (tgt := 24) dX7_menOfPlain_16 (by decide) (bm_wq_of w1) (bm_wq_of rfl) (fun cc => ?_) (fun cc => ?_)
    · replace h := bu_f h cc
      refine bv_aloadq_n (x := x1) dX7_menOfPlain_24 1 rfl ?_
      refine bw_getW (j := 24) dX7_menOfPlain_25 fw_7_125 rfl ?_
      refine bv_acmp_ne (x := x1) (y := (some (1000 + 24))) (tgt := 39) dX7_menOfPlain_28 (by decide) (bm_wq_of w1) (bm_wq_of rfl) (fun cc => ?_) (fun cc => ?_)
      · replace h := bu_f h cc
        refine bv_aloadq_n (x := x1) dX7_menOfPlain_39 1 rfl ?_
        refine bw_getW (j := 25) dX7_menOfPlain_40 fw_7_131 rfl ?_
        refine bv_acmp_ne (x := x1) (y := (some (1000 + 25))) (tgt := 54) dX7_menOfPlain_43 (by decide) (bm_wq_of w1) (bm_wq_of rfl) (fun cc => ?_) (fun cc => ?_)
        · replace h := bu_f h cc
          refine bv_aloadq_n (x := x1) dX7_menOfPlain_54 1 rfl ?_
          refine bw_getW (j := 26) dX7_menOfPlain_55 fw_7_137 rfl ?_
          refine bv_acmp_ne (x := x1) (y := (some (1000 + 26))) (tgt := 67) dX7_menOfPlain_58 (by decide) (bm_wq_of w1) (bm_wq_of rfl) (fun cc => ?_) (fun cc => ?_)
          · replace h := bu_f h cc
            refine bv_aloadq_n (x := x1) dX7_menOfPlain_67 1 rfl ?_
            refine bw_getW (j := 27) dX7_menOfPlain_68 fw_7_144 rfl ?_
            refine bv_acmp_ne (x := x1) (y := (some (1000 + 27))) (tgt := 88) dX7_menOfPlain_71 (by decide) (bm_wq_of w1) (bm_wq_of rfl) (fun cc => ?_) (fun cc => ?_)
            · replace h := bu_f h cc
              refine bv_aloadq_n (x := x1) dX7_menOfPlain_88 1 rfl ?_
              refine bw_getW (j := 28) dX7_menOfPlain_89 fw_7_150 rfl ?_
              refine bv_acmp_ne (x := x1) (y := (some (1000 + 28))) (tgt := 106) dX7_menOfPlain_92 (by decide) (bm_wq_of w1) (bm_wq_of rfl) (fun cc => ?_) (fun cc => ?_)
              · replace h := bu_f h cc
                refine bv_aloadq_n (x := x1) dX7_menOfPlain_106 1 rfl ?_
                refine bw_getW (j := 29) dX7_menOfPlain_107 fw_7_157 rfl ?_
                refine bv_acmp_ne (x := x1) (y := (some (1000 + 29))) (tgt := 124) dX7_menOfPlain_110 (by decide) (bm_wq_of w1) (bm_wq_of rfl) (fun cc => ?_) (fun cc => ?_)
                · replace h := bu_f h cc
                  refine bv_aload_n dX7_menOfPlain_124 0 rfl ?_
                  refine bv_aloadq_n (x := x1) dX7_menOfPlain_125 1 rfl ?_
                  refine bv_iload_n dX7_menOfPlain_126 2 rfl ?_
                  refine bv_aload_n dX7_menOfPlain_127 3 rfl ?_
                  obtain ⟨v2, p3, h⟩ := bu_bd h
                  refine bw_callV (As := [va_rf x1, .int x2, .ref 26]) hN okL_151 ⟨_, _, rfl⟩ dX7_menOfPlain_128 mc_7_160 (c_X7_menByMeasure (d := d + 1) hN hR p3) rfl rfl (by decide) ?_
                  obtain rfl := Option.some.inj h
                  exact bv_iret (x := v2) dX7_menOfPlain_131 rfl ⟨rfl, rfl⟩
                · replace h := bu_t h cc
                  refine bv_aload_n dX7_menOfPlain_113 3 rfl ?_
                  refine bv_aload_n dX7_menOfPlain_114 0 rfl ?_
                  refine bz_getA (a := 153) hN okL_151 (hR _ _ _ r0_151_1) dX7_menOfPlain_115 fl_7_17 rfl ?_
                  refine bv_iload_n dX7_menOfPlain_118 2 rfl ?_
                  obtain ⟨r4, h⟩ := bu_ix h
                  refine bz_iald hN rkL_153 r4 rfl dX7_menOfPlain_119 ?_
                  obtain ⟨v5, p6, h⟩ := bu_bd h
                  refine bw_callV (As := [.int (I 153 x2.toNatClampNeg)]) hN okL_26 ⟨_, _, rfl⟩ dX7_menOfPlain_120 mc_7_140 (c_X8_holdersOf (d := d + 4) hN hR okL_26 r0_26_0 p6) rfl rfl (by decide) ?_
                  obtain rfl := Option.some.inj h
                  exact bv_iret (x := v5) dX7_menOfPlain_123 rfl ⟨rfl, rfl⟩
              · replace h := bu_t h cc
                refine bv_aload_n dX7_menOfPlain_95 0 rfl ?_
                refine bz_getA (a := 153) hN okL_151 (hR _ _ _ r0_151_1) dX7_menOfPlain_96 fl_7_17 rfl ?_
                refine bv_iload_n dX7_menOfPlain_99 2 rfl ?_
                obtain ⟨r7, h⟩ := bu_ix h
                refine bz_iald hN rkL_153 r7 rfl dX7_menOfPlain_100 ?_
                refine bv_aload_n dX7_menOfPlain_101 3 rfl ?_
                obtain ⟨v8, p9, h⟩ := bu_bd h
                refine bw_callS (As := [.int (I 153 x2.toNatClampNeg), .ref 26]) dX7_menOfPlain_102 mc_7_153 (c_X7_menSeeing (d := d + 0) hN hR p9) rfl rfl (by decide) ?_
                obtain rfl := Option.some.inj h
                exact bv_iret (x := v8) dX7_menOfPlain_105 rfl ⟨rfl, rfl⟩
            · replace h := bu_t h cc
              refine bv_aload_n dX7_menOfPlain_74 3 rfl ?_
              refine bz_getA (a := 4) hN okL_26 (hR _ _ _ r0_26_0) dX7_menOfPlain_75 fl_7_97 rfl ?_
              refine bv_aload_n dX7_menOfPlain_78 0 rfl ?_
              refine bz_getA (a := 153) hN okL_151 (hR _ _ _ r0_151_1) dX7_menOfPlain_79 fl_7_17 rfl ?_
              refine bv_iload_n dX7_menOfPlain_82 2 rfl ?_
              obtain ⟨r10, h⟩ := bu_ix h
              refine bz_iald hN rkL_153 r10 rfl dX7_menOfPlain_83 ?_
              obtain ⟨v11, p12, h⟩ := bu_bd h
              refine bw_callV (As := [.int (I 153 x2.toNatClampNeg)]) hN okL_4 ⟨_, _, rfl⟩ dX7_menOfPlain_84 mc_7_147 (c_X0_straightUnder (d := d + 4) hN hR p12) rfl rfl (by decide) ?_
              obtain rfl := Option.some.inj h
              exact bv_iret (x := v11) dX7_menOfPlain_87 rfl ⟨rfl, rfl⟩
          · replace h := bu_t h cc
            refine bv_aload_n dX7_menOfPlain_61 3 rfl ?_
            refine bv_iconst (v := (-1)) dX7_menOfPlain_62 (by decide) ?_
            obtain ⟨v13, p14, h⟩ := bu_bd h
            refine bw_callV (As := [.int (-1)]) hN okL_26 ⟨_, _, rfl⟩ dX7_menOfPlain_63 mc_7_140 (c_X8_holdersOf (d := d + 4) hN hR okL_26 r0_26_0 p14) rfl rfl (by decide) ?_
            obtain rfl := Option.some.inj h
            exact bv_iret (x := v13) dX7_menOfPlain_66 rfl ⟨rfl, rfl⟩
        · replace h := bu_t h cc
          refine bv_aload_n dX7_menOfPlain_46 3 rfl ?_
          refine bz_getA (a := 4) hN okL_26 (hR _ _ _ r0_26_0) dX7_menOfPlain_47 fl_7_97 rfl ?_
          refine bz_getI hN okL_4 dX7_menOfPlain_50 fl_7_134 rfl ?_
          obtain rfl := Option.some.inj h
          exact bv_iret (x := (I 4 12)) dX7_menOfPlain_53 rfl ⟨rfl, rfl⟩
      · replace h := bu_t h cc
        refine bv_aload_n dX7_menOfPlain_31 3 rfl ?_
        refine bz_getA (a := 4) hN okL_26 (hR _ _ _ r0_26_0) dX7_menOfPlain_32 fl_7_97 rfl ?_
        refine bz_getI hN okL_4 dX7_menOfPlain_35 fl_7_128 rfl ?_
        obtain rfl := Option.some.inj h
        exact bv_iret (x := (I 4 11)) dX7_menOfPlain_38 rfl ⟨rfl, rfl⟩
    · replace h := bu_t h cc
      refine bv_aload_n dX7_menOfPlain_19 3 rfl ?_
      refine bz_getI hN okL_26 dX7_menOfPlain_20 fl_7_122 rfl ?_
      obtain rfl := Option.some.inj h
      exact bv_iret (x := (I 26 8)) dX7_menOfPlain_23 rfl ⟨rfl, rfl⟩
  · replace h := bu_t h cc
    refine bv_aload_n dX7_menOfPlain_7 3 rfl ?_
    refine bz_getI hN okL_26 dX7_menOfPlain_8 fl_7_116 rfl ?_
    obtain rfl := Option.some.inj h
    exact bv_iret (x := (I 26 7)) dX7_menOfPlain_11 rfl ⟨rfl, rfl⟩
def f_X7_menOf_l13 (W : bm_TR) (x2 : Int32) : Nat → Int32 → Int32 → bm_TI → Option (Int32 × bm_TI)
  | 0, _, _, _ => none
  | k + 1, x3, x4, I => (if (I 151 4) ≤ x4 then some (x3, I) else (if bm_ix 40 x4 = true then (if bm_iwq (W 152 x4.toNatClampNeg) = true then (if (W 152 x4.toNatClampNeg) = (some (1000 + 21)) then (if x3 < 1 then (if (W 152 x4.toNatClampNeg) = (some (1000 + 20)) then (if x3 < 2 then (if (W 152 x4.toNatClampNeg) = (some (1000 + 19)) then (if x3 < 2 then ((f_X7_menOfPlain I (W 152 x4.toNatClampNeg) x4).bind fun v32 => (if bm_ix 40 x3 = true then f_X7_menOf_l13 W x2 k (x3 + 1) (x4 + 1) (bm_uI I 155 x3.toNatClampNeg v32) else none)) else (if bm_ix 40 ((x3 + (-1)) - 1) = true then (if bm_ix 40 (x3 + (-1)) = true then f_X7_menOf_l13 W x2 k (x3 + (-1)) (x4 + 1) (bm_uI I 155 (((x3 + (-1)) - 1).toNatClampNeg) ((I 155 ((x3 + (-1)) - 1).toNatClampNeg) ||| (I 155 (x3 + (-1)).toNatClampNeg))) else none) else none)) else ((f_X7_menOfPlain I (W 152 x4.toNatClampNeg) x4).bind fun v29 => (if bm_ix 40 x3 = true then f_X7_menOf_l13 W x2 k (x3 + 1) (x4 + 1) (bm_uI I 155 x3.toNatClampNeg v29) else none))) else (if bm_ix 40 ((x3 + (-1)) - 1) = true then (if bm_ix 40 (x3 + (-1)) = true then f_X7_menOf_l13 W x2 k (x3 + (-1)) (x4 + 1) (bm_uI I 155 (((x3 + (-1)) - 1).toNatClampNeg) ((I 155 ((x3 + (-1)) - 1).toNatClampNeg) &&& (I 155 (x3 + (-1)).toNatClampNeg))) else none) else none)) else (if (W 152 x4.toNatClampNeg) = (some (1000 + 19)) then (if x3 < 2 then ((f_X7_menOfPlain I (W 152 x4.toNatClampNeg) x4).bind fun v24 => (if bm_ix 40 x3 = true then f_X7_menOf_l13 W x2 k (x3 + 1) (x4 + 1) (bm_uI I 155 x3.toNatClampNeg v24) else none)) else (if bm_ix 40 ((x3 + (-1)) - 1) = true then (if bm_ix 40 (x3 + (-1)) = true then f_X7_menOf_l13 W x2 k (x3 + (-1)) (x4 + 1) (bm_uI I 155 (((x3 + (-1)) - 1).toNatClampNeg) ((I 155 ((x3 + (-1)) - 1).toNatClampNeg) ||| (I 155 (x3 + (-1)).toNatClampNeg))) else none) else none)) else ((f_X7_menOfPlain I (W 152 x4.toNatClampNeg) x4).bind fun v21 => (if bm_ix 40 x3 = true then f_X7_menOf_l13 W x2 k (x3 + 1) (x4 + 1) (bm_uI I 155 x3.toNatClampNeg v21) else none)))) else (if bm_ix 40 (x3 - 1) = true then f_X7_menOf_l13 W x2 k x3 (x4 + 1) (bm_uI I 155 ((x3 - 1).toNatClampNeg) (x2 &&& ((I 155 (x3 - 1).toNatClampNeg) ^^^ (-1)))) else none)) else (if (W 152 x4.toNatClampNeg) = (some (1000 + 20)) then (if x3 < 2 then (if (W 152 x4.toNatClampNeg) = (some (1000 + 19)) then (if x3 < 2 then ((f_X7_menOfPlain I (W 152 x4.toNatClampNeg) x4).bind fun v14 => (if bm_ix 40 x3 = true then f_X7_menOf_l13 W x2 k (x3 + 1) (x4 + 1) (bm_uI I 155 x3.toNatClampNeg v14) else none)) else (if bm_ix 40 ((x3 + (-1)) - 1) = true then (if bm_ix 40 (x3 + (-1)) = true then f_X7_menOf_l13 W x2 k (x3 + (-1)) (x4 + 1) (bm_uI I 155 (((x3 + (-1)) - 1).toNatClampNeg) ((I 155 ((x3 + (-1)) - 1).toNatClampNeg) ||| (I 155 (x3 + (-1)).toNatClampNeg))) else none) else none)) else ((f_X7_menOfPlain I (W 152 x4.toNatClampNeg) x4).bind fun v11 => (if bm_ix 40 x3 = true then f_X7_menOf_l13 W x2 k (x3 + 1) (x4 + 1) (bm_uI I 155 x3.toNatClampNeg v11) else none))) else (if bm_ix 40 ((x3 + (-1)) - 1) = true then (if bm_ix 40 (x3 + (-1)) = true then f_X7_menOf_l13 W x2 k (x3 + (-1)) (x4 + 1) (bm_uI I 155 (((x3 + (-1)) - 1).toNatClampNeg) ((I 155 ((x3 + (-1)) - 1).toNatClampNeg) &&& (I 155 (x3 + (-1)).toNatClampNeg))) else none) else none)) else (if (W 152 x4.toNatClampNeg) = (some (1000 + 19)) then (if x3 < 2 then ((f_X7_menOfPlain I (W 152 x4.toNatClampNeg) x4).bind fun v6 => (if bm_ix 40 x3 = true then f_X7_menOf_l13 W x2 k (x3 + 1) (x4 + 1) (bm_uI I 155 x3.toNatClampNeg v6) else none)) else (if bm_ix 40 ((x3 + (-1)) - 1) = true then (if bm_ix 40 (x3 + (-1)) = true then f_X7_menOf_l13 W x2 k (x3 + (-1)) (x4 + 1) (bm_uI I 155 (((x3 + (-1)) - 1).toNatClampNeg) ((I 155 ((x3 + (-1)) - 1).toNatClampNeg) ||| (I 155 (x3 + (-1)).toNatClampNeg))) else none) else none)) else ((f_X7_menOfPlain I (W 152 x4.toNatClampNeg) x4).bind fun v3 => (if bm_ix 40 x3 = true then f_X7_menOf_l13 W x2 k (x3 + 1) (x4 + 1) (bm_uI I 155 x3.toNatClampNeg v3) else none))))) else none) else none))
set_option maxHeartbeats 4000000 in
set_option maxRecDepth 100000 in
theorem v_X7_menOf_l13 {lc : bm_L} {d n : Nat} {Q : Option Value → bm_M → Prop} {R : bm_TR} {J : bm_TJ} {W : bm_TR} {x2 : Int32} (hN : 181 ≤ n) (hR : bm_RR R) : ∀ (k : Nat) (x3 : Int32) (x4 : Int32) (I : bm_TI) (r : Int32 × bm_TI), f_X7_menOf_l13 W x2 k x3 x4 I = some r → (∀ yy, yy = r → bm_V lc m_X7_menOf (d + 6) n n n 163 [(0, .ref 151), (3, .int yy.1)] [] (yy.2, J, R, W) Q) → bm_V lc m_X7_menOf (d + 6) n n n 13 [(0, .ref 151), (1, .ref 26), (2, .int x2), (3, .int x3), (4, .int x4)] [] (I, J, R, W) Q := by
  intro k
  induction k with
  | zero => intro x3 x4 I r h; cases (show (none : Option (Int32 × bm_TI)) = some r from h)
  | succ k ih =>
    intro x3 x4 I r h K0
    unfold f_X7_menOf_l13 at h
    refine bv_iload dX7_menOf_13 4 rfl ?_
    refine bv_aload_n dX7_menOf_15 0 rfl ?_
    refine bz_getI hN okL_151 dX7_menOf_16 fl_7_31 rfl ?_
    refine bv_icmp_ge (tgt := 163) dX7_menOf_19 (by decide) (fun cc => ?_) (fun cc => ?_)
    · replace h := bu_t h cc
      refine bw_ls (ls1 := [(0, .ref 151), (3, .int x3)]) [0, 3] rfl ?_
      obtain rfl := Option.some.inj h
      exact K0 _ rfl
    · replace h := bu_f h cc
      refine bv_aload_n dX7_menOf_22 0 rfl ?_
      refine bz_getA (a := 152) hN okL_151 (hR _ _ _ r0_151_0) dX7_menOf_23 fl_7_11 rfl ?_
      refine bv_iload dX7_menOf_26 4 rfl ?_
      obtain ⟨r1, h⟩ := bu_ix h
      refine bz_aaldW hN rkL_152 r1 rfl dX7_menOf_28 ?_
      refine bv_astoreq (x := (W 152 x4.toNatClampNeg)) (ls1 := [(0, .ref 151), (1, .ref 26), (2, .int x2), (3, .int x3), (4, .int x4), (5, va_rf (W 152 x4.toNatClampNeg))]) dX7_menOf_29 (by decide) rfl rfl ?_
      refine bv_aloadq (x := (W 152 x4.toNatClampNeg)) dX7_menOf_31 5 rfl ?_
      refine bw_getW (j := 21) dX7_menOf_33 fw_7_76 rfl ?_
      obtain ⟨w2, h⟩ := bu_g h
      refine bv_acmp_ne (x := (W 152 x4.toNatClampNeg)) (y := (some (1000 + 21))) (tgt := 67) dX7_menOf_36 (by decide) (bm_wq_of w2) (bm_wq_of rfl) (fun cc => ?_) (fun cc => ?_)
      · replace h := bu_f h cc
        refine bv_aloadq (x := (W 152 x4.toNatClampNeg)) dX7_menOf_67 5 rfl ?_
        refine bw_getW (j := 20) dX7_menOf_69 fw_7_57 rfl ?_
        refine bv_acmp_ne (x := (W 152 x4.toNatClampNeg)) (y := (some (1000 + 20))) (tgt := 103) dX7_menOf_72 (by decide) (bm_wq_of w2) (bm_wq_of rfl) (fun cc => ?_) (fun cc => ?_)
        · replace h := bu_f h cc
          refine bv_aloadq (x := (W 152 x4.toNatClampNeg)) dX7_menOf_103 5 rfl ?_
          refine bw_getW (j := 19) dX7_menOf_105 fw_7_44 rfl ?_
          refine bv_acmp_ne (x := (W 152 x4.toNatClampNeg)) (y := (some (1000 + 19))) (tgt := 139) dX7_menOf_108 (by decide) (bm_wq_of w2) (bm_wq_of rfl) (fun cc => ?_) (fun cc => ?_)
          · replace h := bu_f h cc
            refine bv_aload_n dX7_menOf_139 0 rfl ?_
            refine bz_getA (a := 155) hN okL_151 (hR _ _ _ r0_151_3) dX7_menOf_140 fl_7_24 rfl ?_
            refine bv_iload_n dX7_menOf_143 3 rfl ?_
            refine bv_aload_n dX7_menOf_144 0 rfl ?_
            refine bv_aloadq (x := (W 152 x4.toNatClampNeg)) dX7_menOf_145 5 rfl ?_
            refine bv_iload dX7_menOf_147 4 rfl ?_
            refine bv_aload_n dX7_menOf_149 1 rfl ?_
            obtain ⟨v3, p4, h⟩ := bu_bd h
            refine bw_callV (As := [va_rf (W 152 x4.toNatClampNeg), .int x4, .ref 26]) hN okL_151 ⟨_, _, rfl⟩ dX7_menOf_150 mc_7_109 (c_X7_menOfPlain (d := d + 0) hN hR p4) rfl rfl (Nat.le_of_ble_eq_true rfl) ?_
            obtain ⟨r5, h⟩ := bu_ix h
            refine bz_iast hN rkL_155 r5 rfl dX7_menOf_153 ?_
            refine bv_iinc (j := 3) (v := (x3 + 1)) (ls1 := [(0, .ref 151), (1, .ref 26), (2, .int x2), (3, .int (x3 + 1)), (4, .int x4), (5, va_rf (W 152 x4.toNatClampNeg))]) dX7_menOf_154 rfl rfl (by decide) (by simp [bm_ok1, bm_rf_cat, Value.category]) rfl ?_
            refine bv_iinc (j := 4) (v := (x4 + 1)) (ls1 := [(0, .ref 151), (1, .ref 26), (2, .int x2), (3, .int (x3 + 1)), (4, .int (x4 + 1)), (5, va_rf (W 152 x4.toNatClampNeg))]) dX7_menOf_157 rfl rfl (by decide) (by simp [bm_ok1, bm_rf_cat, Value.category]) rfl ?_
            refine bv_goto (tgt := 13) dX7_menOf_160 (by decide) ?_
            refine bw_ls (ls1 := [(0, .ref 151), (1, .ref 26), (2, .int x2), (3, .int (x3 + 1)), (4, .int (x4 + 1))]) [0, 1, 2, 3, 4] rfl ?_
            exact ih _ _ _ _ h K0
          · replace h := bu_t h cc
            refine bv_iload_n dX7_menOf_111 3 rfl ?_
            refine bv_iconst (v := 2) dX7_menOf_112 (by decide) ?_
            refine bv_icmp_lt (tgt := 139) dX7_menOf_113 (by decide) (fun cc => ?_) (fun cc => ?_)
            · replace h := bu_t h cc
              refine bv_aload_n dX7_menOf_139 0 rfl ?_
              refine bz_getA (a := 155) hN okL_151 (hR _ _ _ r0_151_3) dX7_menOf_140 fl_7_24 rfl ?_
              refine bv_iload_n dX7_menOf_143 3 rfl ?_
              refine bv_aload_n dX7_menOf_144 0 rfl ?_
              refine bv_aloadq (x := (W 152 x4.toNatClampNeg)) dX7_menOf_145 5 rfl ?_
              refine bv_iload dX7_menOf_147 4 rfl ?_
              refine bv_aload_n dX7_menOf_149 1 rfl ?_
              obtain ⟨v6, p7, h⟩ := bu_bd h
              refine bw_callV (As := [va_rf (W 152 x4.toNatClampNeg), .int x4, .ref 26]) hN okL_151 ⟨_, _, rfl⟩ dX7_menOf_150 mc_7_109 (c_X7_menOfPlain (d := d + 0) hN hR p7) rfl rfl (Nat.le_of_ble_eq_true rfl) ?_
              obtain ⟨r8, h⟩ := bu_ix h
              refine bz_iast hN rkL_155 r8 rfl dX7_menOf_153 ?_
              refine bv_iinc (j := 3) (v := (x3 + 1)) (ls1 := [(0, .ref 151), (1, .ref 26), (2, .int x2), (3, .int (x3 + 1)), (4, .int x4), (5, va_rf (W 152 x4.toNatClampNeg))]) dX7_menOf_154 rfl rfl (by decide) (by simp [bm_ok1, bm_rf_cat, Value.category]) rfl ?_
              refine bv_iinc (j := 4) (v := (x4 + 1)) (ls1 := [(0, .ref 151), (1, .ref 26), (2, .int x2), (3, .int (x3 + 1)), (4, .int (x4 + 1)), (5, va_rf (W 152 x4.toNatClampNeg))]) dX7_menOf_157 rfl rfl (by decide) (by simp [bm_ok1, bm_rf_cat, Value.category]) rfl ?_
              refine bv_goto (tgt := 13) dX7_menOf_160 (by decide) ?_
              refine bw_ls (ls1 := [(0, .ref 151), (1, .ref 26), (2, .int x2), (3, .int (x3 + 1)), (4, .int (x4 + 1))]) [0, 1, 2, 3, 4] rfl ?_
              exact ih _ _ _ _ h K0
            · replace h := bu_f h cc
              refine bv_iinc (j := 3) (v := (x3 + (-1))) (ls1 := [(0, .ref 151), (1, .ref 26), (2, .int x2), (3, .int (x3 + (-1))), (4, .int x4), (5, va_rf (W 152 x4.toNatClampNeg))]) dX7_menOf_116 rfl rfl (by decide) (by simp [bm_ok1, bm_rf_cat, Value.category]) rfl ?_
              refine bv_aload_n dX7_menOf_119 0 rfl ?_
              refine bz_getA (a := 155) hN okL_151 (hR _ _ _ r0_151_3) dX7_menOf_120 fl_7_24 rfl ?_
              refine bv_iload_n dX7_menOf_123 3 rfl ?_
              refine bv_iconst (v := 1) dX7_menOf_124 (by decide) ?_
              refine bv_isub dX7_menOf_125 ?_
              refine bv_dup2 dX7_menOf_126 rfl rfl ?_
              obtain ⟨r9, h⟩ := bu_ix h
              refine bz_iald hN rkL_155 r9 rfl dX7_menOf_127 ?_
              refine bv_aload_n dX7_menOf_128 0 rfl ?_
              refine bz_getA (a := 155) hN okL_151 (hR _ _ _ r0_151_3) dX7_menOf_129 fl_7_24 rfl ?_
              refine bv_iload_n dX7_menOf_132 3 rfl ?_
              obtain ⟨r10, h⟩ := bu_ix h
              refine bz_iald hN rkL_155 r10 rfl dX7_menOf_133 ?_
              refine bv_ior dX7_menOf_134 ?_
              refine bz_iast hN rkL_155 r9 rfl dX7_menOf_135 ?_
              refine bv_goto (tgt := 157) dX7_menOf_136 (by decide) ?_
              refine bv_iinc (j := 4) (v := (x4 + 1)) (ls1 := [(0, .ref 151), (1, .ref 26), (2, .int x2), (3, .int (x3 + (-1))), (4, .int (x4 + 1)), (5, va_rf (W 152 x4.toNatClampNeg))]) dX7_menOf_157 rfl rfl (by decide) (by simp [bm_ok1, bm_rf_cat, Value.category]) rfl ?_
              refine bv_goto (tgt := 13) dX7_menOf_160 (by decide) ?_
              refine bw_ls (ls1 := [(0, .ref 151), (1, .ref 26), (2, .int x2), (3, .int (x3 + (-1))), (4, .int (x4 + 1))]) [0, 1, 2, 3, 4] rfl ?_
              exact ih _ _ _ _ h K0
        · replace h := bu_t h cc
          refine bv_iload_n dX7_menOf_75 3 rfl ?_
          refine bv_iconst (v := 2) dX7_menOf_76 (by decide) ?_
          refine bv_icmp_lt (tgt := 103) dX7_menOf_77 (by decide) (fun cc => ?_) (fun cc => ?_)
          · replace h := bu_t h cc
            refine bv_aloadq (x := (W 152 x4.toNatClampNeg)) dX7_menOf_103 5 rfl ?_
            refine bw_getW (j := 19) dX7_menOf_105 fw_7_44 rfl ?_
            refine bv_acmp_ne (x := (W 152 x4.toNatClampNeg)) (y := (some (1000 + 19))) (tgt := 139) dX7_menOf_108 (by decide) (bm_wq_of w2) (bm_wq_of rfl) (fun cc => ?_) (fun cc => ?_)
            · replace h := bu_f h cc
              refine bv_aload_n dX7_menOf_139 0 rfl ?_
              refine bz_getA (a := 155) hN okL_151 (hR _ _ _ r0_151_3) dX7_menOf_140 fl_7_24 rfl ?_
              refine bv_iload_n dX7_menOf_143 3 rfl ?_
              refine bv_aload_n dX7_menOf_144 0 rfl ?_
              refine bv_aloadq (x := (W 152 x4.toNatClampNeg)) dX7_menOf_145 5 rfl ?_
              refine bv_iload dX7_menOf_147 4 rfl ?_
              refine bv_aload_n dX7_menOf_149 1 rfl ?_
              obtain ⟨v11, p12, h⟩ := bu_bd h
              refine bw_callV (As := [va_rf (W 152 x4.toNatClampNeg), .int x4, .ref 26]) hN okL_151 ⟨_, _, rfl⟩ dX7_menOf_150 mc_7_109 (c_X7_menOfPlain (d := d + 0) hN hR p12) rfl rfl (Nat.le_of_ble_eq_true rfl) ?_
              obtain ⟨r13, h⟩ := bu_ix h
              refine bz_iast hN rkL_155 r13 rfl dX7_menOf_153 ?_
              refine bv_iinc (j := 3) (v := (x3 + 1)) (ls1 := [(0, .ref 151), (1, .ref 26), (2, .int x2), (3, .int (x3 + 1)), (4, .int x4), (5, va_rf (W 152 x4.toNatClampNeg))]) dX7_menOf_154 rfl rfl (by decide) (by simp [bm_ok1, bm_rf_cat, Value.category]) rfl ?_
              refine bv_iinc (j := 4) (v := (x4 + 1)) (ls1 := [(0, .ref 151), (1, .ref 26), (2, .int x2), (3, .int (x3 + 1)), (4, .int (x4 + 1)), (5, va_rf (W 152 x4.toNatClampNeg))]) dX7_menOf_157 rfl rfl (by decide) (by simp [bm_ok1, bm_rf_cat, Value.category]) rfl ?_
              refine bv_goto (tgt := 13) dX7_menOf_160 (by decide) ?_
              refine bw_ls (ls1 := [(0, .ref 151), (1, .ref 26), (2, .int x2), (3, .int (x3 + 1)), (4, .int (x4 + 1))]) [0, 1, 2, 3, 4] rfl ?_
              exact ih _ _ _ _ h K0
            · replace h := bu_t h cc
              refine bv_iload_n dX7_menOf_111 3 rfl ?_
              refine bv_iconst (v := 2) dX7_menOf_112 (by decide) ?_
              refine bv_icmp_lt (tgt := 139) dX7_menOf_113 (by decide) (fun cc => ?_) (fun cc => ?_)
              · replace h := bu_t h cc
                refine bv_aload_n dX7_menOf_139 0 rfl ?_
                refine bz_getA (a := 155) hN okL_151 (hR _ _ _ r0_151_3) dX7_menOf_140 fl_7_24 rfl ?_
                refine bv_iload_n dX7_menOf_143 3 rfl ?_
                refine bv_aload_n dX7_menOf_144 0 rfl ?_
                refine bv_aloadq (x := (W 152 x4.toNatClampNeg)) dX7_menOf_145 5 rfl ?_
                refine bv_iload dX7_menOf_147 4 rfl ?_
                refine bv_aload_n dX7_menOf_149 1 rfl ?_
                obtain ⟨v14, p15, h⟩ := bu_bd h
                refine bw_callV (As := [va_rf (W 152 x4.toNatClampNeg), .int x4, .ref 26]) hN okL_151 ⟨_, _, rfl⟩ dX7_menOf_150 mc_7_109 (c_X7_menOfPlain (d := d + 0) hN hR p15) rfl rfl (Nat.le_of_ble_eq_true rfl) ?_
                obtain ⟨r16, h⟩ := bu_ix h
                refine bz_iast hN rkL_155 r16 rfl dX7_menOf_153 ?_
                refine bv_iinc (j := 3) (v := (x3 + 1)) (ls1 := [(0, .ref 151), (1, .ref 26), (2, .int x2), (3, .int (x3 + 1)), (4, .int x4), (5, va_rf (W 152 x4.toNatClampNeg))]) dX7_menOf_154 rfl rfl (by decide) (by simp [bm_ok1, bm_rf_cat, Value.category]) rfl ?_
                refine bv_iinc (j := 4) (v := (x4 + 1)) (ls1 := [(0, .ref 151), (1, .ref 26), (2, .int x2), (3, .int (x3 + 1)), (4, .int (x4 + 1)), (5, va_rf (W 152 x4.toNatClampNeg))]) dX7_menOf_157 rfl rfl (by decide) (by simp [bm_ok1, bm_rf_cat, Value.category]) rfl ?_
                refine bv_goto (tgt := 13) dX7_menOf_160 (by decide) ?_
                refine bw_ls (ls1 := [(0, .ref 151), (1, .ref 26), (2, .int x2), (3, .int (x3 + 1)), (4, .int (x4 + 1))]) [0, 1, 2, 3, 4] rfl ?_
                exact ih _ _ _ _ h K0
              · replace h := bu_f h cc
                refine bv_iinc (j := 3) (v := (x3 + (-1))) (ls1 := [(0, .ref 151), (1, .ref 26), (2, .int x2), (3, .int (x3 + (-1))), (4, .int x4), (5, va_rf (W 152 x4.toNatClampNeg))]) dX7_menOf_116 rfl rfl (by decide) (by simp [bm_ok1, bm_rf_cat, Value.category]) rfl ?_
                refine bv_aload_n dX7_menOf_119 0 rfl ?_
                refine bz_getA (a := 155) hN okL_151 (hR _ _ _ r0_151_3) dX7_menOf_120 fl_7_24 rfl ?_
                refine bv_iload_n dX7_menOf_123 3 rfl ?_
                refine bv_iconst (v := 1) dX7_menOf_124 (by decide) ?_
                refine bv_isub dX7_menOf_125 ?_
                refine bv_dup2 dX7_menOf_126 rfl rfl ?_
                obtain ⟨r17, h⟩ := bu_ix h
                refine bz_iald hN rkL_155 r17 rfl dX7_menOf_127 ?_
                refine bv_aload_n dX7_menOf_128 0 rfl ?_
                refine bz_getA (a := 155) hN okL_151 (hR _ _ _ r0_151_3) dX7_menOf_129 fl_7_24 rfl ?_
                refine bv_iload_n dX7_menOf_132 3 rfl ?_
                obtain ⟨r18, h⟩ := bu_ix h
                refine bz_iald hN rkL_155 r18 rfl dX7_menOf_133 ?_
                refine bv_ior dX7_menOf_134 ?_
                refine bz_iast hN rkL_155 r17 rfl dX7_menOf_135 ?_
                refine bv_goto (tgt := 157) dX7_menOf_136 (by decide) ?_
                refine bv_iinc (j := 4) (v := (x4 + 1)) (ls1 := [(0, .ref 151), (1, .ref 26), (2, .int x2), (3, .int (x3 + (-1))), (4, .int (x4 + 1)), (5, va_rf (W 152 x4.toNatClampNeg))]) dX7_menOf_157 rfl rfl (by decide) (by simp [bm_ok1, bm_rf_cat, Value.category]) rfl ?_
                refine bv_goto (tgt := 13) dX7_menOf_160 (by decide) ?_
                refine bw_ls (ls1 := [(0, .ref 151), (1, .ref 26), (2, .int x2), (3, .int (x3 + (-1))), (4, .int (x4 + 1))]) [0, 1, 2, 3, 4] rfl ?_
                exact ih _ _ _ _ h K0
          · replace h := bu_f h cc
            refine bv_iinc (j := 3) (v := (x3 + (-1))) (ls1 := [(0, .ref 151), (1, .ref 26), (2, .int x2), (3, .int (x3 + (-1))), (4, .int x4), (5, va_rf (W 152 x4.toNatClampNeg))]) dX7_menOf_80 rfl rfl (by decide) (by simp [bm_ok1, bm_rf_cat, Value.category]) rfl ?_
            refine bv_aload_n dX7_menOf_83 0 rfl ?_
            refine bz_getA (a := 155) hN okL_151 (hR _ _ _ r0_151_3) dX7_menOf_84 fl_7_24 rfl ?_
            refine bv_iload_n dX7_menOf_87 3 rfl ?_
            refine bv_iconst (v := 1) dX7_menOf_88 (by decide) ?_
            refine bv_isub dX7_menOf_89 ?_
            refine bv_dup2 dX7_menOf_90 rfl rfl ?_
            obtain ⟨r19, h⟩ := bu_ix h
            refine bz_iald hN rkL_155 r19 rfl dX7_menOf_91 ?_
            refine bv_aload_n dX7_menOf_92 0 rfl ?_
            refine bz_getA (a := 155) hN okL_151 (hR _ _ _ r0_151_3) dX7_menOf_93 fl_7_24 rfl ?_
            refine bv_iload_n dX7_menOf_96 3 rfl ?_
            obtain ⟨r20, h⟩ := bu_ix h
            refine bz_iald hN rkL_155 r20 rfl dX7_menOf_97 ?_
            refine bv_iand dX7_menOf_98 ?_
            refine bz_iast hN rkL_155 r19 rfl dX7_menOf_99 ?_
            refine bv_goto (tgt := 157) dX7_menOf_100 (by decide) ?_
            refine bv_iinc (j := 4) (v := (x4 + 1)) (ls1 := [(0, .ref 151), (1, .ref 26), (2, .int x2), (3, .int (x3 + (-1))), (4, .int (x4 + 1)), (5, va_rf (W 152 x4.toNatClampNeg))]) dX7_menOf_157 rfl rfl (by decide) (by simp [bm_ok1, bm_rf_cat, Value.category]) rfl ?_
            refine bv_goto (tgt := 13) dX7_menOf_160 (by decide) ?_
            refine bw_ls (ls1 := [(0, .ref 151), (1, .ref 26), (2, .int x2), (3, .int (x3 + (-1))), (4, .int (x4 + 1))]) [0, 1, 2, 3, 4] rfl ?_
            exact ih _ _ _ _ h K0
      · replace h := bu_t h cc
        refine bv_iload_n dX7_menOf_39 3 rfl ?_
        refine bv_iconst (v := 1) dX7_menOf_40 (by decide) ?_
        refine bv_icmp_lt (tgt := 67) dX7_menOf_41 (by decide) (fun cc => ?_) (fun cc => ?_)
        · replace h := bu_t h cc
          refine bv_aloadq (x := (W 152 x4.toNatClampNeg)) dX7_menOf_67 5 rfl ?_
          refine bw_getW (j := 20) dX7_menOf_69 fw_7_57 rfl ?_
          refine bv_acmp_ne (x := (W 152 x4.toNatClampNeg)) (y := (some (1000 + 20))) (tgt := 103) dX7_menOf_72 (by decide) (bm_wq_of w2) (bm_wq_of rfl) (fun cc => ?_) (fun cc => ?_)
          · replace h := bu_f h cc
            refine bv_aloadq (x := (W 152 x4.toNatClampNeg)) dX7_menOf_103 5 rfl ?_
            refine bw_getW (j := 19) dX7_menOf_105 fw_7_44 rfl ?_
            refine bv_acmp_ne (x := (W 152 x4.toNatClampNeg)) (y := (some (1000 + 19))) (tgt := 139) dX7_menOf_108 (by decide) (bm_wq_of w2) (bm_wq_of rfl) (fun cc => ?_) (fun cc => ?_)
            · replace h := bu_f h cc
              refine bv_aload_n dX7_menOf_139 0 rfl ?_
              refine bz_getA (a := 155) hN okL_151 (hR _ _ _ r0_151_3) dX7_menOf_140 fl_7_24 rfl ?_
              refine bv_iload_n dX7_menOf_143 3 rfl ?_
              refine bv_aload_n dX7_menOf_144 0 rfl ?_
              refine bv_aloadq (x := (W 152 x4.toNatClampNeg)) dX7_menOf_145 5 rfl ?_
              refine bv_iload dX7_menOf_147 4 rfl ?_
              refine bv_aload_n dX7_menOf_149 1 rfl ?_
              obtain ⟨v21, p22, h⟩ := bu_bd h
              refine bw_callV (As := [va_rf (W 152 x4.toNatClampNeg), .int x4, .ref 26]) hN okL_151 ⟨_, _, rfl⟩ dX7_menOf_150 mc_7_109 (c_X7_menOfPlain (d := d + 0) hN hR p22) rfl rfl (Nat.le_of_ble_eq_true rfl) ?_
              obtain ⟨r23, h⟩ := bu_ix h
              refine bz_iast hN rkL_155 r23 rfl dX7_menOf_153 ?_
              refine bv_iinc (j := 3) (v := (x3 + 1)) (ls1 := [(0, .ref 151), (1, .ref 26), (2, .int x2), (3, .int (x3 + 1)), (4, .int x4), (5, va_rf (W 152 x4.toNatClampNeg))]) dX7_menOf_154 rfl rfl (by decide) (by simp [bm_ok1, bm_rf_cat, Value.category]) rfl ?_
              refine bv_iinc (j := 4) (v := (x4 + 1)) (ls1 := [(0, .ref 151), (1, .ref 26), (2, .int x2), (3, .int (x3 + 1)), (4, .int (x4 + 1)), (5, va_rf (W 152 x4.toNatClampNeg))]) dX7_menOf_157 rfl rfl (by decide) (by simp [bm_ok1, bm_rf_cat, Value.category]) rfl ?_
              refine bv_goto (tgt := 13) dX7_menOf_160 (by decide) ?_
              refine bw_ls (ls1 := [(0, .ref 151), (1, .ref 26), (2, .int x2), (3, .int (x3 + 1)), (4, .int (x4 + 1))]) [0, 1, 2, 3, 4] rfl ?_
              exact ih _ _ _ _ h K0
            · replace h := bu_t h cc
              refine bv_iload_n dX7_menOf_111 3 rfl ?_
              refine bv_iconst (v := 2) dX7_menOf_112 (by decide) ?_
              refine bv_icmp_lt (tgt := 139) dX7_menOf_113 (by decide) (fun cc => ?_) (fun cc => ?_)
              · replace h := bu_t h cc
                refine bv_aload_n dX7_menOf_139 0 rfl ?_
                refine bz_getA (a := 155) hN okL_151 (hR _ _ _ r0_151_3) dX7_menOf_140 fl_7_24 rfl ?_
                refine bv_iload_n dX7_menOf_143 3 rfl ?_
                refine bv_aload_n dX7_menOf_144 0 rfl ?_
                refine bv_aloadq (x := (W 152 x4.toNatClampNeg)) dX7_menOf_145 5 rfl ?_
                refine bv_iload dX7_menOf_147 4 rfl ?_
                refine bv_aload_n dX7_menOf_149 1 rfl ?_
                obtain ⟨v24, p25, h⟩ := bu_bd h
                refine bw_callV (As := [va_rf (W 152 x4.toNatClampNeg), .int x4, .ref 26]) hN okL_151 ⟨_, _, rfl⟩ dX7_menOf_150 mc_7_109 (c_X7_menOfPlain (d := d + 0) hN hR p25) rfl rfl (Nat.le_of_ble_eq_true rfl) ?_
                obtain ⟨r26, h⟩ := bu_ix h
                refine bz_iast hN rkL_155 r26 rfl dX7_menOf_153 ?_
                refine bv_iinc (j := 3) (v := (x3 + 1)) (ls1 := [(0, .ref 151), (1, .ref 26), (2, .int x2), (3, .int (x3 + 1)), (4, .int x4), (5, va_rf (W 152 x4.toNatClampNeg))]) dX7_menOf_154 rfl rfl (by decide) (by simp [bm_ok1, bm_rf_cat, Value.category]) rfl ?_
                refine bv_iinc (j := 4) (v := (x4 + 1)) (ls1 := [(0, .ref 151), (1, .ref 26), (2, .int x2), (3, .int (x3 + 1)), (4, .int (x4 + 1)), (5, va_rf (W 152 x4.toNatClampNeg))]) dX7_menOf_157 rfl rfl (by decide) (by simp [bm_ok1, bm_rf_cat, Value.category]) rfl ?_
                refine bv_goto (tgt := 13) dX7_menOf_160 (by decide) ?_
                refine bw_ls (ls1 := [(0, .ref 151), (1, .ref 26), (2, .int x2), (3, .int (x3 + 1)), (4, .int (x4 + 1))]) [0, 1, 2, 3, 4] rfl ?_
                exact ih _ _ _ _ h K0
              · replace h := bu_f h cc
                refine bv_iinc (j := 3) (v := (x3 + (-1))) (ls1 := [(0, .ref 151), (1, .ref 26), (2, .int x2), (3, .int (x3 + (-1))), (4, .int x4), (5, va_rf (W 152 x4.toNatClampNeg))]) dX7_menOf_116 rfl rfl (by decide) (by simp [bm_ok1, bm_rf_cat, Value.category]) rfl ?_
                refine bv_aload_n dX7_menOf_119 0 rfl ?_
                refine bz_getA (a := 155) hN okL_151 (hR _ _ _ r0_151_3) dX7_menOf_120 fl_7_24 rfl ?_
                refine bv_iload_n dX7_menOf_123 3 rfl ?_
                refine bv_iconst (v := 1) dX7_menOf_124 (by decide) ?_
                refine bv_isub dX7_menOf_125 ?_
                refine bv_dup2 dX7_menOf_126 rfl rfl ?_
                obtain ⟨r27, h⟩ := bu_ix h
                refine bz_iald hN rkL_155 r27 rfl dX7_menOf_127 ?_
                refine bv_aload_n dX7_menOf_128 0 rfl ?_
                refine bz_getA (a := 155) hN okL_151 (hR _ _ _ r0_151_3) dX7_menOf_129 fl_7_24 rfl ?_
                refine bv_iload_n dX7_menOf_132 3 rfl ?_
                obtain ⟨r28, h⟩ := bu_ix h
                refine bz_iald hN rkL_155 r28 rfl dX7_menOf_133 ?_
                refine bv_ior dX7_menOf_134 ?_
                refine bz_iast hN rkL_155 r27 rfl dX7_menOf_135 ?_
                refine bv_goto (tgt := 157) dX7_menOf_136 (by decide) ?_
                refine bv_iinc (j := 4) (v := (x4 + 1)) (ls1 := [(0, .ref 151), (1, .ref 26), (2, .int x2), (3, .int (x3 + (-1))), (4, .int (x4 + 1)), (5, va_rf (W 152 x4.toNatClampNeg))]) dX7_menOf_157 rfl rfl (by decide) (by simp [bm_ok1, bm_rf_cat, Value.category]) rfl ?_
                refine bv_goto (tgt := 13) dX7_menOf_160 (by decide) ?_
                refine bw_ls (ls1 := [(0, .ref 151), (1, .ref 26), (2, .int x2), (3, .int (x3 + (-1))), (4, .int (x4 + 1))]) [0, 1, 2, 3, 4] rfl ?_
                exact ih _ _ _ _ h K0
          · replace h := bu_t h cc
            refine bv_iload_n dX7_menOf_75 3 rfl ?_
            refine bv_iconst (v := 2) dX7_menOf_76 (by decide) ?_
            refine bv_icmp_lt (tgt := 103) dX7_menOf_77 (by decide) (fun cc => ?_) (fun cc => ?_)
            · replace h := bu_t h cc
              refine bv_aloadq (x := (W 152 x4.toNatClampNeg)) dX7_menOf_103 5 rfl ?_
              refine bw_getW (j := 19) dX7_menOf_105 fw_7_44 rfl ?_
              refine bv_acmp_ne (x := (W 152 x4.toNatClampNeg)) (y := (some (1000 + 19))) (tgt := 139) dX7_menOf_108 (by decide) (bm_wq_of w2) (bm_wq_of rfl) (fun cc => ?_) (fun cc => ?_)
              · replace h := bu_f h cc
                refine bv_aload_n dX7_menOf_139 0 rfl ?_
                refine bz_getA (a := 155) hN okL_151 (hR _ _ _ r0_151_3) dX7_menOf_140 fl_7_24 rfl ?_
                refine bv_iload_n dX7_menOf_143 3 rfl ?_
                refine bv_aload_n dX7_menOf_144 0 rfl ?_
                refine bv_aloadq (x := (W 152 x4.toNatClampNeg)) dX7_menOf_145 5 rfl ?_
                refine bv_iload dX7_menOf_147 4 rfl ?_
                refine bv_aload_n dX7_menOf_149 1 rfl ?_
                obtain ⟨v29, p30, h⟩ := bu_bd h
                refine bw_callV (As := [va_rf (W 152 x4.toNatClampNeg), .int x4, .ref 26]) hN okL_151 ⟨_, _, rfl⟩ dX7_menOf_150 mc_7_109 (c_X7_menOfPlain (d := d + 0) hN hR p30) rfl rfl (Nat.le_of_ble_eq_true rfl) ?_
                obtain ⟨r31, h⟩ := bu_ix h
                refine bz_iast hN rkL_155 r31 rfl dX7_menOf_153 ?_
                refine bv_iinc (j := 3) (v := (x3 + 1)) (ls1 := [(0, .ref 151), (1, .ref 26), (2, .int x2), (3, .int (x3 + 1)), (4, .int x4), (5, va_rf (W 152 x4.toNatClampNeg))]) dX7_menOf_154 rfl rfl (by decide) (by simp [bm_ok1, bm_rf_cat, Value.category]) rfl ?_
                refine bv_iinc (j := 4) (v := (x4 + 1)) (ls1 := [(0, .ref 151), (1, .ref 26), (2, .int x2), (3, .int (x3 + 1)), (4, .int (x4 + 1)), (5, va_rf (W 152 x4.toNatClampNeg))]) dX7_menOf_157 rfl rfl (by decide) (by simp [bm_ok1, bm_rf_cat, Value.category]) rfl ?_
                refine bv_goto (tgt := 13) dX7_menOf_160 (by decide) ?_
                refine bw_ls (ls1 := [(0, .ref 151), (1, .ref 26), (2, .int x2), (3, .int (x3 + 1)), (4, .int (x4 + 1))]) [0, 1, 2, 3, 4] rfl ?_
                exact ih _ _ _ _ h K0
              · replace h := bu_t h cc
                refine bv_iload_n dX7_menOf_111 3 rfl ?_
                refine bv_iconst (v := 2) dX7_menOf_112 (by decide) ?_
                refine bv_icmp_lt (tgt := 139) dX7_menOf_113 (by decide) (fun cc => ?_) (fun cc => ?_)
                · replace h := bu_t h cc
                  refine bv_aload_n dX7_menOf_139 0 rfl ?_
                  refine bz_getA (a := 155) hN okL_151 (hR _ _ _ r0_151_3) dX7_menOf_140 fl_7_24 rfl ?_
                  refine bv_iload_n dX7_menOf_143 3 rfl ?_
                  refine bv_aload_n dX7_menOf_144 0 rfl ?_
                  refine bv_aloadq (x := (W 152 x4.toNatClampNeg)) dX7_menOf_145 5 rfl ?_
                  refine bv_iload dX7_menOf_147 4 rfl ?_
                  refine bv_aload_n dX7_menOf_149 1 rfl ?_
                  obtain ⟨v32, p33, h⟩ := bu_bd h
                  refine bw_callV (As := [va_rf (W 152 x4.toNatClampNeg), .int x4, .ref 26]) hN okL_151 ⟨_, _, rfl⟩ dX7_menOf_150 mc_7_109 (c_X7_menOfPlain (d := d + 0) hN hR p33) rfl rfl (Nat.le_of_ble_eq_true rfl) ?_
                  obtain ⟨r34, h⟩ := bu_ix h
                  refine bz_iast hN rkL_155 r34 rfl dX7_menOf_153 ?_
                  refine bv_iinc (j := 3) (v := (x3 + 1)) (ls1 := [(0, .ref 151), (1, .ref 26), (2, .int x2), (3, .int (x3 + 1)), (4, .int x4), (5, va_rf (W 152 x4.toNatClampNeg))]) dX7_menOf_154 rfl rfl (by decide) (by simp [bm_ok1, bm_rf_cat, Value.category]) rfl ?_
                  refine bv_iinc (j := 4) (v := (x4 + 1)) (ls1 := [(0, .ref 151), (1, .ref 26), (2, .int x2), (3, .int (x3 + 1)), (4, .int (x4 + 1)), (5, va_rf (W 152 x4.toNatClampNeg))]) dX7_menOf_157 rfl rfl (by decide) (by simp [bm_ok1, bm_rf_cat, Value.category]) rfl ?_
                  refine bv_goto (tgt := 13) dX7_menOf_160 (by decide) ?_
                  refine bw_ls (ls1 := [(0, .ref 151), (1, .ref 26), (2, .int x2), (3, .int (x3 + 1)), (4, .int (x4 + 1))]) [0, 1, 2, 3, 4] rfl ?_
                  exact ih _ _ _ _ h K0
                · replace h := bu_f h cc
                  refine bv_iinc (j := 3) (v := (x3 + (-1))) (ls1 := [(0, .ref 151), (1, .ref 26), (2, .int x2), (3, .int (x3 + (-1))), (4, .int x4), (5, va_rf (W 152 x4.toNatClampNeg))]) dX7_menOf_116 rfl rfl (by decide) (by simp [bm_ok1, bm_rf_cat, Value.category]) rfl ?_
                  refine bv_aload_n dX7_menOf_119 0 rfl ?_
                  refine bz_getA (a := 155) hN okL_151 (hR _ _ _ r0_151_3) dX7_menOf_120 fl_7_24 rfl ?_
                  refine bv_iload_n dX7_menOf_123 3 rfl ?_
                  refine bv_iconst (v := 1) dX7_menOf_124 (by decide) ?_
                  refine bv_isub dX7_menOf_125 ?_
                  refine bv_dup2 dX7_menOf_126 rfl rfl ?_
                  obtain ⟨r35, h⟩ := bu_ix h
                  refine bz_iald hN rkL_155 r35 rfl dX7_menOf_127 ?_
                  refine bv_aload_n dX7_menOf_128 0 rfl ?_
                  refine bz_getA (a := 155) hN okL_151 (hR _ _ _ r0_151_3) dX7_menOf_129 fl_7_24 rfl ?_
                  refine bv_iload_n dX7_menOf_132 3 rfl ?_
                  obtain ⟨r36, h⟩ := bu_ix h
                  refine bz_iald hN rkL_155 r36 rfl dX7_menOf_133 ?_
                  refine bv_ior dX7_menOf_134 ?_
                  refine bz_iast hN rkL_155 r35 rfl dX7_menOf_135 ?_
                  refine bv_goto (tgt := 157) dX7_menOf_136 (by decide) ?_
                  refine bv_iinc (j := 4) (v := (x4 + 1)) (ls1 := [(0, .ref 151), (1, .ref 26), (2, .int x2), (3, .int (x3 + (-1))), (4, .int (x4 + 1)), (5, va_rf (W 152 x4.toNatClampNeg))]) dX7_menOf_157 rfl rfl (by decide) (by simp [bm_ok1, bm_rf_cat, Value.category]) rfl ?_
                  refine bv_goto (tgt := 13) dX7_menOf_160 (by decide) ?_
                  refine bw_ls (ls1 := [(0, .ref 151), (1, .ref 26), (2, .int x2), (3, .int (x3 + (-1))), (4, .int (x4 + 1))]) [0, 1, 2, 3, 4] rfl ?_
                  exact ih _ _ _ _ h K0
            · replace h := bu_f h cc
              refine bv_iinc (j := 3) (v := (x3 + (-1))) (ls1 := [(0, .ref 151), (1, .ref 26), (2, .int x2), (3, .int (x3 + (-1))), (4, .int x4), (5, va_rf (W 152 x4.toNatClampNeg))]) dX7_menOf_80 rfl rfl (by decide) (by simp [bm_ok1, bm_rf_cat, Value.category]) rfl ?_
              refine bv_aload_n dX7_menOf_83 0 rfl ?_
              refine bz_getA (a := 155) hN okL_151 (hR _ _ _ r0_151_3) dX7_menOf_84 fl_7_24 rfl ?_
              refine bv_iload_n dX7_menOf_87 3 rfl ?_
              refine bv_iconst (v := 1) dX7_menOf_88 (by decide) ?_
              refine bv_isub dX7_menOf_89 ?_
              refine bv_dup2 dX7_menOf_90 rfl rfl ?_
              obtain ⟨r37, h⟩ := bu_ix h
              refine bz_iald hN rkL_155 r37 rfl dX7_menOf_91 ?_
              refine bv_aload_n dX7_menOf_92 0 rfl ?_
              refine bz_getA (a := 155) hN okL_151 (hR _ _ _ r0_151_3) dX7_menOf_93 fl_7_24 rfl ?_
              refine bv_iload_n dX7_menOf_96 3 rfl ?_
              obtain ⟨r38, h⟩ := bu_ix h
              refine bz_iald hN rkL_155 r38 rfl dX7_menOf_97 ?_
              refine bv_iand dX7_menOf_98 ?_
              refine bz_iast hN rkL_155 r37 rfl dX7_menOf_99 ?_
              refine bv_goto (tgt := 157) dX7_menOf_100 (by decide) ?_
              refine bv_iinc (j := 4) (v := (x4 + 1)) (ls1 := [(0, .ref 151), (1, .ref 26), (2, .int x2), (3, .int (x3 + (-1))), (4, .int (x4 + 1)), (5, va_rf (W 152 x4.toNatClampNeg))]) dX7_menOf_157 rfl rfl (by decide) (by simp [bm_ok1, bm_rf_cat, Value.category]) rfl ?_
              refine bv_goto (tgt := 13) dX7_menOf_160 (by decide) ?_
              refine bw_ls (ls1 := [(0, .ref 151), (1, .ref 26), (2, .int x2), (3, .int (x3 + (-1))), (4, .int (x4 + 1))]) [0, 1, 2, 3, 4] rfl ?_
              exact ih _ _ _ _ h K0
        · replace h := bu_f h cc
          refine bv_aload_n dX7_menOf_44 0 rfl ?_
          refine bz_getA (a := 155) hN okL_151 (hR _ _ _ r0_151_3) dX7_menOf_45 fl_7_24 rfl ?_
          refine bv_iload_n dX7_menOf_48 3 rfl ?_
          refine bv_iconst (v := 1) dX7_menOf_49 (by decide) ?_
          refine bv_isub dX7_menOf_50 ?_
          refine bv_iload_n dX7_menOf_51 2 rfl ?_
          refine bv_aload_n dX7_menOf_52 0 rfl ?_
          refine bz_getA (a := 155) hN okL_151 (hR _ _ _ r0_151_3) dX7_menOf_53 fl_7_24 rfl ?_
          refine bv_iload_n dX7_menOf_56 3 rfl ?_
          refine bv_iconst (v := 1) dX7_menOf_57 (by decide) ?_
          refine bv_isub dX7_menOf_58 ?_
          obtain ⟨r39, h⟩ := bu_ix h
          refine bz_iald hN rkL_155 r39 rfl dX7_menOf_59 ?_
          refine bv_iconst (v := (-1)) dX7_menOf_60 (by decide) ?_
          refine bv_ixor dX7_menOf_61 ?_
          refine bv_iand dX7_menOf_62 ?_
          refine bz_iast hN rkL_155 r39 rfl dX7_menOf_63 ?_
          refine bv_goto (tgt := 157) dX7_menOf_64 (by decide) ?_
          refine bv_iinc (j := 4) (v := (x4 + 1)) (ls1 := [(0, .ref 151), (1, .ref 26), (2, .int x2), (3, .int x3), (4, .int (x4 + 1)), (5, va_rf (W 152 x4.toNatClampNeg))]) dX7_menOf_157 rfl rfl (by decide) (by simp [bm_ok1, bm_rf_cat, Value.category]) rfl ?_
          refine bv_goto (tgt := 13) dX7_menOf_160 (by decide) ?_
          refine bw_ls (ls1 := [(0, .ref 151), (1, .ref 26), (2, .int x2), (3, .int x3), (4, .int (x4 + 1))]) [0, 1, 2, 3, 4] rfl ?_
          exact ih _ _ _ _ h K0
def f_X7_menOf (I : bm_TI) (W : bm_TR) : Option (Int32 × bm_TI) := ((f_X0_allMen I).bind fun v1 => ((f_X7_menOf_l13 W v1 1000 0 0 I).bind fun y5 => (if y5.1 ≤ 0 then some (0, y5.2) else some ((y5.2 155 0), y5.2))))
set_option maxHeartbeats 4000000 in
set_option maxRecDepth 100000 in
theorem c_X7_menOf {lc : bm_L} {d n : Nat} {I : bm_TI} {J : bm_TJ} {R W : bm_TR} {v : Int32 × bm_TI} (hN : 181 ≤ n) (hR : bm_RR R) (h : f_X7_menOf I W = some v) : bm_C lc m_X7_menOf (d + 6) n n [.ref 151, .ref 26] (I, J, R, W) (fun r M' => r = some (.int v.1) ∧ M' = (v.2, J, R, W)) := by
  refine bm_C.ofV (by decide) (Nat.le_of_ble_eq_true rfl) ?_
  show bm_V lc m_X7_menOf (d + 6) n n n 0 [(0, .ref 151), (1, .ref 26)] [] (I, J, R, W) _
  unfold f_X7_menOf at h
  refine bv_aload_n dX7_menOf_0 1 rfl ?_
  refine bz_getA (a := 4) hN okL_26 (hR _ _ _ r0_26_0) dX7_menOf_1 fl_7_97 rfl ?_
  obtain ⟨v1, p2, h⟩ := bu_bd h
  refine bw_callV (As := []) hN okL_4 ⟨_, _, rfl⟩ dX7_menOf_4 mc_7_103 (c_X0_allMen (d := d + 5) hN hR p2) rfl rfl (by decide) ?_
  refine bv_istore_n (ls1 := [(0, .ref 151), (1, .ref 26), (2, .int v1)]) dX7_menOf_7 (by decide) rfl rfl ?_
  refine bv_iconst (v := 0) dX7_menOf_8 (by decide) ?_
  refine bv_istore_n (ls1 := [(0, .ref 151), (1, .ref 26), (2, .int v1), (3, .int 0)]) dX7_menOf_9 (by decide) rfl rfl ?_
  refine bv_iconst (v := 0) dX7_menOf_10 (by decide) ?_
  refine bv_istore (ls1 := [(0, .ref 151), (1, .ref 26), (2, .int v1), (3, .int 0), (4, .int 0)]) dX7_menOf_11 (by decide) rfl rfl ?_
  obtain ⟨r3, p4, h⟩ := bu_bd h
  refine v_X7_menOf_l13 hN hR 1000 _ _ _ _ p4 (fun y5 hy => ?_)
  · subst hy
    refine bv_iload_n dX7_menOf_163 1 rfl ?_
    refine bv_if_le (tgt := 176) dX7_menOf_164 (by decide) (fun cc => ?_) (fun cc => ?_)
    · replace h := bu_t h cc
      refine bv_iconst (v := 0) dX7_menOf_176 (by decide) ?_
      obtain rfl := Option.some.inj h
      exact bv_iret (x := 0) dX7_menOf_177 rfl ⟨rfl, rfl⟩
    · replace h := bu_f h cc
      refine bv_aload_n dX7_menOf_167 0 rfl ?_
      refine bz_getA (a := 155) hN okL_151 (hR _ _ _ r0_151_3) dX7_menOf_168 fl_7_24 rfl ?_
      refine bv_iconst (v := 0) dX7_menOf_171 (by decide) ?_
      refine bz_iald (j := 0) hN rkL_155 (bm_ix_in (by decide)) (by decide) dX7_menOf_172 ?_
      refine bv_goto (tgt := 177) dX7_menOf_173 (by decide) ?_
      obtain rfl := Option.some.inj h
      exact bv_iret (x := (y5.2 155 0)) dX7_menOf_177 rfl ⟨rfl, rfl⟩
def f_X8_begin_l2 : Nat → Int32 → bm_TI → Option (bm_TI)
  | 0, _, _ => none
  | k + 1, x1, I => (if (I 4 10) ≤ x1 then some I else (if bm_ix 8 x1 = true then f_X8_begin_l2 k (x1 + 1) (bm_uI (bm_uI (bm_uI (bm_uI (bm_uI I 27 x1.toNatClampNeg (I 6 x1.toNatClampNeg)) 28 x1.toNatClampNeg ((bm_uI I 27 x1.toNatClampNeg (I 6 x1.toNatClampNeg)) 7 x1.toNatClampNeg)) 29 x1.toNatClampNeg 0) 30 x1.toNatClampNeg (-1)) 31 x1.toNatClampNeg 0) else none))
set_option maxHeartbeats 4000000 in
set_option maxRecDepth 100000 in
theorem v_X8_begin_l2 {lc : bm_L} {d n : Nat} {Q : Option Value → bm_M → Prop} {R : bm_TR} {J : bm_TJ} {W : bm_TR} (hN : 181 ≤ n) (hR : bm_RR R) : ∀ (k : Nat) (x1 : Int32) (I : bm_TI) (r : bm_TI), f_X8_begin_l2 k x1 I = some r → (∀ yy, yy = r → bm_V lc m_X8_begin d n n n 70 [(0, .ref 26)] [] (yy, J, R, W) Q) → bm_V lc m_X8_begin d n n n 2 [(0, .ref 26), (1, .int x1)] [] (I, J, R, W) Q := by
  intro k
  induction k with
  | zero => intro x1 I r h; cases (show (none : Option (bm_TI)) = some r from h)
  | succ k ih =>
    intro x1 I r h K0
    unfold f_X8_begin_l2 at h
    refine bv_iload_n dX8_begin_2 1 rfl ?_
    refine bv_aload_n dX8_begin_3 0 rfl ?_
    refine bz_getA (a := 4) hN okL_26 (hR _ _ _ r0_26_0) dX8_begin_4 fl_8_30 rfl ?_
    refine bz_getI hN okL_4 dX8_begin_7 fl_8_34 rfl ?_
    refine bv_icmp_ge (tgt := 70) dX8_begin_10 (by decide) (fun cc => ?_) (fun cc => ?_)
    · replace h := bu_t h cc
      refine bw_ls (ls1 := [(0, .ref 26)]) [0] rfl ?_
      obtain rfl := Option.some.inj h
      exact K0 _ rfl
    · replace h := bu_f h cc
      refine bv_aload_n dX8_begin_13 0 rfl ?_
      refine bz_getA (a := 27) hN okL_26 (hR _ _ _ r0_26_1) dX8_begin_14 fl_8_9 rfl ?_
      refine bv_iload_n dX8_begin_17 1 rfl ?_
      refine bv_aload_n dX8_begin_18 0 rfl ?_
      refine bz_getA (a := 4) hN okL_26 (hR _ _ _ r0_26_0) dX8_begin_19 fl_8_30 rfl ?_
      refine bz_getA (a := 6) hN okL_4 (hR _ _ _ r0_4_1) dX8_begin_22 fl_8_40 rfl ?_
      refine bv_iload_n dX8_begin_25 1 rfl ?_
      obtain ⟨r1, h⟩ := bu_ix h
      refine bz_iald hN rkL_6 r1 rfl dX8_begin_26 ?_
      refine bz_iast hN rkL_27 r1 rfl dX8_begin_27 ?_
      refine bv_aload_n dX8_begin_28 0 rfl ?_
      refine bz_getA (a := 28) hN okL_26 (hR _ _ _ r0_26_2) dX8_begin_29 fl_8_15 rfl ?_
      refine bv_iload_n dX8_begin_32 1 rfl ?_
      refine bv_aload_n dX8_begin_33 0 rfl ?_
      refine bz_getA (a := 4) hN okL_26 (hR _ _ _ r0_26_0) dX8_begin_34 fl_8_30 rfl ?_
      refine bz_getA (a := 7) hN okL_4 (hR _ _ _ r0_4_2) dX8_begin_37 fl_8_43 rfl ?_
      refine bv_iload_n dX8_begin_40 1 rfl ?_
      refine bz_iald hN rkL_7 r1 rfl dX8_begin_41 ?_
      refine bz_iast hN rkL_28 r1 rfl dX8_begin_42 ?_
      refine bv_aload_n dX8_begin_43 0 rfl ?_
      refine bz_getA (a := 29) hN okL_26 (hR _ _ _ r0_26_3) dX8_begin_44 fl_8_18 rfl ?_
      refine bv_iload_n dX8_begin_47 1 rfl ?_
      refine bv_iconst (v := 0) dX8_begin_48 (by decide) ?_
      refine bz_iast hN rkL_29 r1 rfl dX8_begin_49 ?_
      refine bv_aload_n dX8_begin_50 0 rfl ?_
      refine bz_getA (a := 30) hN okL_26 (hR _ _ _ r0_26_4) dX8_begin_51 fl_8_21 rfl ?_
      refine bv_iload_n dX8_begin_54 1 rfl ?_
      refine bv_iconst (v := (-1)) dX8_begin_55 (by decide) ?_
      refine bz_iast hN rkL_30 r1 rfl dX8_begin_56 ?_
      refine bv_aload_n dX8_begin_57 0 rfl ?_
      refine bz_getA (a := 31) hN okL_26 (hR _ _ _ r0_26_5) dX8_begin_58 fl_8_24 rfl ?_
      refine bv_iload_n dX8_begin_61 1 rfl ?_
      refine bv_iconst (v := 0) dX8_begin_62 (by decide) ?_
      refine bz_iast hN rkL_31 r1 rfl dX8_begin_63 ?_
      refine bv_iinc (j := 1) (v := (x1 + 1)) (ls1 := [(0, .ref 26), (1, .int (x1 + 1))]) dX8_begin_64 rfl rfl (by decide) rfl rfl ?_
      refine bv_goto (tgt := 2) dX8_begin_67 (by decide) ?_
      exact ih _ _ _ h K0
def f_X8_begin (I : bm_TI) : Option (bm_TI) := ((f_X8_begin_l2 1000 0 I).bind fun y3 => some (bm_uI (bm_uI (bm_uI (bm_uI (bm_uI y3 26 7 0) 26 8 0) 26 9 0) 26 10 0) 26 11 0))
set_option maxHeartbeats 4000000 in
set_option maxRecDepth 100000 in
theorem c_X8_begin {lc : bm_L} {d n : Nat} {I : bm_TI} {J : bm_TJ} {R W : bm_TR} {v : bm_TI} (hN : 181 ≤ n) (hR : bm_RR R) (h : f_X8_begin I = some v) : bm_C lc m_X8_begin d n n [.ref 26] (I, J, R, W) (fun r M' => r = none ∧ M' = (v, J, R, W)) := by
  refine bm_C.ofV (by decide) (Nat.le_of_ble_eq_true rfl) ?_
  show bm_V lc m_X8_begin d n n n 0 [(0, .ref 26)] [] (I, J, R, W) _
  unfold f_X8_begin at h
  refine bv_iconst (v := 0) dX8_begin_0 (by decide) ?_
  refine bv_istore_n (ls1 := [(0, .ref 26), (1, .int 0)]) dX8_begin_1 (by decide) rfl rfl ?_
  obtain ⟨r1, p2, h⟩ := bu_bd h
  refine v_X8_begin_l2 hN hR 1000 _ _ _ p2 (fun y3 hy => ?_)
  · subst hy
    refine bv_aload_n dX8_begin_70 0 rfl ?_
    refine bv_iconst (v := 0) dX8_begin_71 (by decide) ?_
    refine bz_putI hN okL_26 dX8_begin_72 fl_8_46 rfl ?_
    refine bv_aload_n dX8_begin_75 0 rfl ?_
    refine bv_iconst (v := 0) dX8_begin_76 (by decide) ?_
    refine bz_putI hN okL_26 dX8_begin_77 fl_8_49 rfl ?_
    refine bv_aload_n dX8_begin_80 0 rfl ?_
    refine bv_iconst (v := 0) dX8_begin_81 (by decide) ?_
    refine bz_putI hN okL_26 dX8_begin_82 fl_8_52 rfl ?_
    refine bv_aload_n dX8_begin_85 0 rfl ?_
    refine bv_iconst (v := 0) dX8_begin_86 (by decide) ?_
    refine bz_putI hN okL_26 dX8_begin_87 fl_8_55 rfl ?_
    refine bv_aload_n dX8_begin_90 0 rfl ?_
    refine bv_iconst (v := 0) dX8_begin_91 (by decide) ?_
    refine bz_putI hN okL_26 dX8_begin_92 fl_8_58 rfl ?_
    obtain rfl := Option.some.inj h
    exact bv_vret dX8_begin_95 rfl ⟨rfl, rfl⟩
def f_X8_readersOf_l5 (I : bm_TI) (x0 : Nat) (x1 : Int32) (x2 : Int32) : Nat → Int32 → Int32 → Option (Int32)
  | 0, _, _ => none
  | k + 1, x3, x4 => (if (I 4 10) ≤ x4 then some x3 else (if bm_ix 8 x4 = true then (if (I 9 x4.toNatClampNeg) = x1 then (if bm_ix 8 x1 = true then (if x2 < (f_X11_far (I (x0 + 1) x1.toNatClampNeg) (I (x0 + 2) x1.toNatClampNeg) (I (x0 + 1) x4.toNatClampNeg) (I (x0 + 2) x4.toNatClampNeg)) then f_X8_readersOf_l5 I x0 x1 x2 k x3 (x4 + 1) else f_X8_readersOf_l5 I x0 x1 x2 k (x3 ||| (bm_ishl 1 x4)) (x4 + 1)) else none) else f_X8_readersOf_l5 I x0 x1 x2 k x3 (x4 + 1)) else none))
set_option maxHeartbeats 4000000 in
set_option maxRecDepth 100000 in
theorem v_X8_readersOf_l5 {lc : bm_L} {d n : Nat} {Q : Option Value → bm_M → Prop} {R : bm_TR} {I : bm_TI} {J : bm_TJ} {W : bm_TR} {x0 : Nat} {x1 : Int32} {x2 : Int32} (hN : 181 ≤ n) (hR : bm_RR R) (q_0 : bm_OK x0 8) (a_0 : bm_tr x0 0 = some 4) : ∀ (k : Nat) (x3 : Int32) (x4 : Int32) (r : Int32), f_X8_readersOf_l5 I x0 x1 x2 k x3 x4 = some r → (∀ yy, yy = r → bm_V lc m_X8_readersOf (d + 1) n n n 77 [(0, .ref x0), (3, .int yy)] [] (I, J, R, W) Q) → bm_V lc m_X8_readersOf (d + 1) n n n 5 [(0, .ref x0), (1, .int x1), (2, .int x2), (3, .int x3), (4, .int x4)] [] (I, J, R, W) Q := by
  intro k
  induction k with
  | zero => intro x3 x4 r h; cases (show (none : Option (Int32)) = some r from h)
  | succ k ih =>
    intro x3 x4 r h K0
    unfold f_X8_readersOf_l5 at h
    refine bv_iload dX8_readersOf_5 4 rfl ?_
    refine bv_aload_n dX8_readersOf_7 0 rfl ?_
    refine bz_getA (a := 4) hN q_0 (hR _ _ _ a_0) dX8_readersOf_8 fl_8_30 rfl ?_
    refine bz_getI hN okL_4 dX8_readersOf_11 fl_8_34 rfl ?_
    refine bv_icmp_ge (tgt := 77) dX8_readersOf_14 (by decide) (fun cc => ?_) (fun cc => ?_)
    · replace h := bu_t h cc
      refine bw_ls (ls1 := [(0, .ref x0), (3, .int x3)]) [0, 3] rfl ?_
      obtain rfl := Option.some.inj h
      exact K0 _ rfl
    · replace h := bu_f h cc
      refine bv_aload_n dX8_readersOf_17 0 rfl ?_
      refine bz_getA (a := 4) hN q_0 (hR _ _ _ a_0) dX8_readersOf_18 fl_8_30 rfl ?_
      refine bz_getA (a := 9) hN okL_4 (hR _ _ _ r0_4_4) dX8_readersOf_21 fl_8_93 rfl ?_
      refine bv_iload dX8_readersOf_24 4 rfl ?_
      obtain ⟨r1, h⟩ := bu_ix h
      refine bz_iald hN rkL_9 r1 rfl dX8_readersOf_26 ?_
      refine bv_iload_n dX8_readersOf_27 1 rfl ?_
      refine bv_icmp_ne (tgt := 71) dX8_readersOf_28 (by decide) (fun cc => ?_) (fun cc => ?_)
      · replace h := bu_f h cc
        refine bv_iinc (j := 4) (v := (x4 + 1)) (ls1 := [(0, .ref x0), (1, .int x1), (2, .int x2), (3, .int x3), (4, .int (x4 + 1))]) dX8_readersOf_71 rfl rfl (by decide) rfl rfl ?_
        refine bv_goto (tgt := 5) dX8_readersOf_74 (by decide) ?_
        exact ih _ _ _ h K0
      · replace h := bu_t h cc
        refine bv_aload_n dX8_readersOf_31 0 rfl ?_
        refine bz_getA (a := (x0 + 1)) hN q_0 (hR _ _ _ (tr_8_1 q_0)) dX8_readersOf_32 fl_8_9 rfl ?_
        refine bv_iload_n dX8_readersOf_35 1 rfl ?_
        obtain ⟨r2, h⟩ := bu_ix h
        refine bz_iald hN (rk_8_1 q_0) r2 rfl dX8_readersOf_36 ?_
        refine bv_aload_n dX8_readersOf_37 0 rfl ?_
        refine bz_getA (a := (x0 + 2)) hN q_0 (hR _ _ _ (tr_8_2 q_0)) dX8_readersOf_38 fl_8_15 rfl ?_
        refine bv_iload_n dX8_readersOf_41 1 rfl ?_
        refine bz_iald hN (rk_8_2 q_0) r2 rfl dX8_readersOf_42 ?_
        refine bv_aload_n dX8_readersOf_43 0 rfl ?_
        refine bz_getA (a := (x0 + 1)) hN q_0 (hR _ _ _ (tr_8_1 q_0)) dX8_readersOf_44 fl_8_9 rfl ?_
        refine bv_iload dX8_readersOf_47 4 rfl ?_
        refine bz_iald hN (rk_8_1 q_0) r1 rfl dX8_readersOf_49 ?_
        refine bv_aload_n dX8_readersOf_50 0 rfl ?_
        refine bz_getA (a := (x0 + 2)) hN q_0 (hR _ _ _ (tr_8_2 q_0)) dX8_readersOf_51 fl_8_15 rfl ?_
        refine bv_iload dX8_readersOf_54 4 rfl ?_
        refine bz_iald hN (rk_8_2 q_0) r1 rfl dX8_readersOf_56 ?_
        refine bw_callSN (As := [.int (I (x0 + 1) x1.toNatClampNeg), .int (I (x0 + 2) x1.toNatClampNeg), .int (I (x0 + 1) x4.toNatClampNeg), .int (I (x0 + 2) x4.toNatClampNeg)]) dX8_readersOf_57 mc_8_86 (c_X11_far (d := d + 0) hN hR rfl) rfl rfl (by decide) ?_
        refine bv_iload_n dX8_readersOf_60 2 rfl ?_
        refine bv_icmp_gt (tgt := 71) dX8_readersOf_61 (by decide) (fun cc => ?_) (fun cc => ?_)
        · replace h := bu_t h cc
          refine bv_iinc (j := 4) (v := (x4 + 1)) (ls1 := [(0, .ref x0), (1, .int x1), (2, .int x2), (3, .int x3), (4, .int (x4 + 1))]) dX8_readersOf_71 rfl rfl (by decide) rfl rfl ?_
          refine bv_goto (tgt := 5) dX8_readersOf_74 (by decide) ?_
          exact ih _ _ _ h K0
        · replace h := bu_f h cc
          refine bv_iload_n dX8_readersOf_64 3 rfl ?_
          refine bv_iconst (v := 1) dX8_readersOf_65 (by decide) ?_
          refine bv_iload dX8_readersOf_66 4 rfl ?_
          refine bv_ishl dX8_readersOf_68 ?_
          refine bv_ior dX8_readersOf_69 ?_
          refine bv_istore_n (ls1 := [(0, .ref x0), (1, .int x1), (2, .int x2), (3, .int (x3 ||| (bm_ishl 1 x4))), (4, .int x4)]) dX8_readersOf_70 (by decide) rfl rfl ?_
          refine bv_iinc (j := 4) (v := (x4 + 1)) (ls1 := [(0, .ref x0), (1, .int x1), (2, .int x2), (3, .int (x3 ||| (bm_ishl 1 x4))), (4, .int (x4 + 1))]) dX8_readersOf_71 rfl rfl (by decide) rfl rfl ?_
          refine bv_goto (tgt := 5) dX8_readersOf_74 (by decide) ?_
          exact ih _ _ _ h K0
def f_X8_readersOf (I : bm_TI) (x0 : Nat) (x1 : Int32) (x2 : Int32) : Option (Int32) := ((f_X8_readersOf_l5 I x0 x1 x2 1000 0 0).bind fun y3 => some (y3 &&& ((I x0 7) ^^^ (-1))))
set_option maxHeartbeats 4000000 in
set_option maxRecDepth 100000 in
theorem c_X8_readersOf {lc : bm_L} {d n : Nat} {I : bm_TI} {J : bm_TJ} {R W : bm_TR} {x0 : Nat} {x1 : Int32} {x2 : Int32} {v : Int32} (hN : 181 ≤ n) (hR : bm_RR R) (q_0 : bm_OK x0 8) (a_0 : bm_tr x0 0 = some 4) (h : f_X8_readersOf I x0 x1 x2 = some v) : bm_C lc m_X8_readersOf (d + 1) n n [.ref x0, .int x1, .int x2] (I, J, R, W) (fun r M' => r = some (.int v) ∧ M' = (I, J, R, W)) := by
  refine bm_C.ofV (by decide) (Nat.le_of_ble_eq_true rfl) ?_
  show bm_V lc m_X8_readersOf (d + 1) n n n 0 [(0, .ref x0), (1, .int x1), (2, .int x2)] [] (I, J, R, W) _
  unfold f_X8_readersOf at h
  refine bv_iconst (v := 0) dX8_readersOf_0 (by decide) ?_
  refine bv_istore_n (ls1 := [(0, .ref x0), (1, .int x1), (2, .int x2), (3, .int 0)]) dX8_readersOf_1 (by decide) rfl rfl ?_
  refine bv_iconst (v := 0) dX8_readersOf_2 (by decide) ?_
  refine bv_istore (ls1 := [(0, .ref x0), (1, .int x1), (2, .int x2), (3, .int 0), (4, .int 0)]) dX8_readersOf_3 (by decide) rfl rfl ?_
  obtain ⟨r1, p2, h⟩ := bu_bd h
  refine v_X8_readersOf_l5 hN hR q_0 a_0 1000 _ _ _ p2 (fun y3 hy => ?_)
  · subst hy
    refine bv_iload_n dX8_readersOf_77 1 rfl ?_
    refine bv_aload_n dX8_readersOf_78 0 rfl ?_
    refine bz_getI hN q_0 dX8_readersOf_79 fl_8_46 rfl ?_
    refine bv_iconst (v := (-1)) dX8_readersOf_82 (by decide) ?_
    refine bv_ixor dX8_readersOf_83 ?_
    refine bv_iand dX8_readersOf_84 ?_
    obtain rfl := Option.some.inj h
    exact bv_iret (x := (y3 &&& ((I x0 7) ^^^ (-1)))) dX8_readersOf_85 rfl ⟨rfl, rfl⟩
def f_X8_foesSeeing_l13 (I : bm_TI) (x2 : Int32) (x3 : Int32) (x4 : Int32) : Nat → Int32 → Int32 → Option (Int32)
  | 0, _, _ => none
  | k + 1, x5, x6 => (if (I 4 14) ≤ x6 then some x5 else (if bm_ix 4 x6 = true then (if x4 < (f_X11_far x2 x3 (I 13 x6.toNatClampNeg) (I 14 x6.toNatClampNeg)) then f_X8_foesSeeing_l13 I x2 x3 x4 k x5 (x6 + 1) else f_X8_foesSeeing_l13 I x2 x3 x4 k (x5 ||| (bm_ishl 1 x6)) (x6 + 1)) else none))
set_option maxHeartbeats 4000000 in
set_option maxRecDepth 100000 in
theorem v_X8_foesSeeing_l13 {lc : bm_L} {d n : Nat} {Q : Option Value → bm_M → Prop} {R : bm_TR} {I : bm_TI} {J : bm_TJ} {W : bm_TR} {x2 : Int32} {x3 : Int32} {x4 : Int32} (hN : 181 ≤ n) (hR : bm_RR R) : ∀ (k : Nat) (x5 : Int32) (x6 : Int32) (r : Int32), f_X8_foesSeeing_l13 I x2 x3 x4 k x5 x6 = some r → (∀ yy, yy = r → bm_V lc m_X8_foesSeeing (d + 3) n n n 70 [(5, .int yy)] [] (I, J, R, W) Q) → bm_V lc m_X8_foesSeeing (d + 3) n n n 13 [(0, .ref 26), (2, .int x2), (3, .int x3), (4, .int x4), (5, .int x5), (6, .int x6)] [] (I, J, R, W) Q := by
  intro k
  induction k with
  | zero => intro x5 x6 r h; cases (show (none : Option (Int32)) = some r from h)
  | succ k ih =>
    intro x5 x6 r h K0
    unfold f_X8_foesSeeing_l13 at h
    refine bv_iload dX8_foesSeeing_13 5 rfl ?_
    refine bv_aload_n dX8_foesSeeing_15 0 rfl ?_
    refine bz_getA (a := 4) hN okL_26 (hR _ _ _ r0_26_0) dX8_foesSeeing_16 fl_8_30 rfl ?_
    refine bz_getI hN okL_4 dX8_foesSeeing_19 fl_8_96 rfl ?_
    refine bv_icmp_ge (tgt := 70) dX8_foesSeeing_22 (by decide) (fun cc => ?_) (fun cc => ?_)
    · replace h := bu_t h cc
      refine bw_ls (ls1 := [(5, .int x5)]) [4] rfl ?_
      obtain rfl := Option.some.inj h
      exact K0 _ rfl
    · replace h := bu_f h cc
      refine bv_iload_n dX8_foesSeeing_25 1 rfl ?_
      refine bv_iload_n dX8_foesSeeing_26 2 rfl ?_
      refine bv_aload_n dX8_foesSeeing_27 0 rfl ?_
      refine bz_getA (a := 4) hN okL_26 (hR _ _ _ r0_26_0) dX8_foesSeeing_28 fl_8_30 rfl ?_
      refine bz_getA (a := 13) hN okL_4 (hR _ _ _ r0_4_8) dX8_foesSeeing_31 fl_8_99 rfl ?_
      refine bv_iload dX8_foesSeeing_34 5 rfl ?_
      obtain ⟨r1, h⟩ := bu_ix h
      refine bz_iald hN rkL_13 r1 rfl dX8_foesSeeing_36 ?_
      refine bv_aload_n dX8_foesSeeing_37 0 rfl ?_
      refine bz_getA (a := 4) hN okL_26 (hR _ _ _ r0_26_0) dX8_foesSeeing_38 fl_8_30 rfl ?_
      refine bz_getA (a := 14) hN okL_4 (hR _ _ _ r0_4_9) dX8_foesSeeing_41 fl_8_102 rfl ?_
      refine bv_iload dX8_foesSeeing_44 5 rfl ?_
      refine bz_iald hN rkL_14 r1 rfl dX8_foesSeeing_46 ?_
      refine bw_callSN (As := [.int x2, .int x3, .int (I 13 x6.toNatClampNeg), .int (I 14 x6.toNatClampNeg)]) dX8_foesSeeing_47 mc_8_86 (c_X11_far (d := d + 2) hN hR rfl) rfl rfl (by decide) ?_
      refine bv_iload dX8_foesSeeing_50 3 rfl ?_
      refine bv_icmp_gt (tgt := 64) dX8_foesSeeing_52 (by decide) (fun cc => ?_) (fun cc => ?_)
      · replace h := bu_t h cc
        refine bv_iinc (j := 5) (v := (x6 + 1)) (ls1 := [(0, .ref 26), (2, .int x2), (3, .int x3), (4, .int x4), (5, .int x5), (6, .int (x6 + 1))]) dX8_foesSeeing_64 rfl rfl (by decide) rfl rfl ?_
        refine bv_goto (tgt := 13) dX8_foesSeeing_67 (by decide) ?_
        exact ih _ _ _ h K0
      · replace h := bu_f h cc
        refine bv_iload dX8_foesSeeing_55 4 rfl ?_
        refine bv_iconst (v := 1) dX8_foesSeeing_57 (by decide) ?_
        refine bv_iload dX8_foesSeeing_58 5 rfl ?_
        refine bv_ishl dX8_foesSeeing_60 ?_
        refine bv_ior dX8_foesSeeing_61 ?_
        refine bv_istore (ls1 := [(0, .ref 26), (2, .int x2), (3, .int x3), (4, .int x4), (5, .int (x5 ||| (bm_ishl 1 x6))), (6, .int x6)]) dX8_foesSeeing_62 (by decide) rfl rfl ?_
        refine bv_iinc (j := 5) (v := (x6 + 1)) (ls1 := [(0, .ref 26), (2, .int x2), (3, .int x3), (4, .int x4), (5, .int (x5 ||| (bm_ishl 1 x6))), (6, .int (x6 + 1))]) dX8_foesSeeing_64 rfl rfl (by decide) rfl rfl ?_
        refine bv_goto (tgt := 13) dX8_foesSeeing_67 (by decide) ?_
        exact ih _ _ _ h K0
def f_X8_foesSeeing (I : bm_TI) (x1 : Int32) (x2 : Int32) (x3 : Int32) : Option (Int32) := ((f_X8_rangeOf I x1).bind fun v1 => ((f_X8_foesSeeing_l13 I x2 x3 v1 1000 0 0).bind fun y5 => some y5))
set_option maxHeartbeats 4000000 in
set_option maxRecDepth 100000 in
theorem c_X8_foesSeeing {lc : bm_L} {d n : Nat} {I : bm_TI} {J : bm_TJ} {R W : bm_TR} {x1 : Int32} {x2 : Int32} {x3 : Int32} {v : Int32} (hN : 181 ≤ n) (hR : bm_RR R) (h : f_X8_foesSeeing I x1 x2 x3 = some v) : bm_C lc m_X8_foesSeeing (d + 3) n n [.ref 26, .int x1, .int x2, .int x3] (I, J, R, W) (fun r M' => r = some (.int v) ∧ M' = (I, J, R, W)) := by
  refine bm_C.ofV (by decide) (Nat.le_of_ble_eq_true rfl) ?_
  show bm_V lc m_X8_foesSeeing (d + 3) n n n 0 [(0, .ref 26), (1, .int x1), (2, .int x2), (3, .int x3)] [] (I, J, R, W) _
  unfold f_X8_foesSeeing at h
  refine bv_aload_n dX8_foesSeeing_0 0 rfl ?_
  refine bv_iload_n dX8_foesSeeing_1 1 rfl ?_
  obtain ⟨v1, p2, h⟩ := bu_bd h
  refine bw_callV (As := [.int x1]) hN okL_26 ⟨_, _, rfl⟩ dX8_foesSeeing_2 mc_8_90 (c_X8_rangeOf (d := d + 0) hN hR p2) rfl rfl (by decide) ?_
  refine bv_istore (ls1 := [(0, .ref 26), (1, .int x1), (2, .int x2), (3, .int x3), (4, .int v1)]) dX8_foesSeeing_5 (by decide) rfl rfl ?_
  refine bv_iconst (v := 0) dX8_foesSeeing_7 (by decide) ?_
  refine bv_istore (ls1 := [(0, .ref 26), (1, .int x1), (2, .int x2), (3, .int x3), (4, .int v1), (5, .int 0)]) dX8_foesSeeing_8 (by decide) rfl rfl ?_
  refine bv_iconst (v := 0) dX8_foesSeeing_10 (by decide) ?_
  refine bv_istore (ls1 := [(0, .ref 26), (1, .int x1), (2, .int x2), (3, .int x3), (4, .int v1), (5, .int 0), (6, .int 0)]) dX8_foesSeeing_11 (by decide) rfl rfl ?_
  refine bw_ls (ls1 := [(0, .ref 26), (2, .int x2), (3, .int x3), (4, .int v1), (5, .int 0), (6, .int 0)]) [0, 2, 3, 4, 5, 6] rfl ?_
  obtain ⟨r3, p4, h⟩ := bu_bd h
  refine v_X8_foesSeeing_l13 hN hR 1000 _ _ _ p4 (fun y5 hy => ?_)
  · subst hy
    refine bv_iload dX8_foesSeeing_70 0 rfl ?_
    obtain rfl := Option.some.inj h
    exact bv_iret (x := y5) dX8_foesSeeing_72 rfl ⟨rfl, rfl⟩
def f_X8_underSeeing_l13 (I : bm_TI) (x1 : Int32) (x2 : Int32) (x3 : Int32) (x4 : Int32) : Nat → Int32 → Int32 → Option (Int32)
  | 0, _, _ => none
  | k + 1, x5, x6 => (if (I 4 10) ≤ x6 then some x5 else (if bm_ix 8 x6 = true then (if (I 9 x6.toNatClampNeg) = x1 then (if x4 < (f_X11_far x2 x3 (I 27 x6.toNatClampNeg) (I 28 x6.toNatClampNeg)) then f_X8_underSeeing_l13 I x1 x2 x3 x4 k x5 (x6 + 1) else f_X8_underSeeing_l13 I x1 x2 x3 x4 k (x5 + 1) (x6 + 1)) else f_X8_underSeeing_l13 I x1 x2 x3 x4 k x5 (x6 + 1)) else none))
set_option maxHeartbeats 4000000 in
set_option maxRecDepth 100000 in
theorem v_X8_underSeeing_l13 {lc : bm_L} {d n : Nat} {Q : Option Value → bm_M → Prop} {R : bm_TR} {I : bm_TI} {J : bm_TJ} {W : bm_TR} {x1 : Int32} {x2 : Int32} {x3 : Int32} {x4 : Int32} (hN : 181 ≤ n) (hR : bm_RR R) : ∀ (k : Nat) (x5 : Int32) (x6 : Int32) (r : Int32), f_X8_underSeeing_l13 I x1 x2 x3 x4 k x5 x6 = some r → (∀ yy, yy = r → bm_V lc m_X8_underSeeing (d + 3) n n n 72 [(5, .int yy)] [] (I, J, R, W) Q) → bm_V lc m_X8_underSeeing (d + 3) n n n 13 [(0, .ref 26), (1, .int x1), (2, .int x2), (3, .int x3), (4, .int x4), (5, .int x5), (6, .int x6)] [] (I, J, R, W) Q := by
  intro k
  induction k with
  | zero => intro x5 x6 r h; cases (show (none : Option (Int32)) = some r from h)
  | succ k ih =>
    intro x5 x6 r h K0
    unfold f_X8_underSeeing_l13 at h
    refine bv_iload dX8_underSeeing_13 6 rfl ?_
    refine bv_aload_n dX8_underSeeing_15 0 rfl ?_
    refine bz_getA (a := 4) hN okL_26 (hR _ _ _ r0_26_0) dX8_underSeeing_16 fl_8_30 rfl ?_
    refine bz_getI hN okL_4 dX8_underSeeing_19 fl_8_34 rfl ?_
    refine bv_icmp_ge (tgt := 72) dX8_underSeeing_22 (by decide) (fun cc => ?_) (fun cc => ?_)
    · replace h := bu_t h cc
      refine bw_ls (ls1 := [(5, .int x5)]) [5] rfl ?_
      obtain rfl := Option.some.inj h
      exact K0 _ rfl
    · replace h := bu_f h cc
      refine bv_aload_n dX8_underSeeing_25 0 rfl ?_
      refine bz_getA (a := 4) hN okL_26 (hR _ _ _ r0_26_0) dX8_underSeeing_26 fl_8_30 rfl ?_
      refine bz_getA (a := 9) hN okL_4 (hR _ _ _ r0_4_4) dX8_underSeeing_29 fl_8_93 rfl ?_
      refine bv_iload dX8_underSeeing_32 6 rfl ?_
      obtain ⟨r1, h⟩ := bu_ix h
      refine bz_iald hN rkL_9 r1 rfl dX8_underSeeing_34 ?_
      refine bv_iload_n dX8_underSeeing_35 1 rfl ?_
      refine bv_icmp_ne (tgt := 66) dX8_underSeeing_36 (by decide) (fun cc => ?_) (fun cc => ?_)
      · replace h := bu_f h cc
        refine bv_iinc (j := 6) (v := (x6 + 1)) (ls1 := [(0, .ref 26), (1, .int x1), (2, .int x2), (3, .int x3), (4, .int x4), (5, .int x5), (6, .int (x6 + 1))]) dX8_underSeeing_66 rfl rfl (by decide) rfl rfl ?_
        refine bv_goto (tgt := 13) dX8_underSeeing_69 (by decide) ?_
        exact ih _ _ _ h K0
      · replace h := bu_t h cc
        refine bv_iload_n dX8_underSeeing_39 2 rfl ?_
        refine bv_iload_n dX8_underSeeing_40 3 rfl ?_
        refine bv_aload_n dX8_underSeeing_41 0 rfl ?_
        refine bz_getA (a := 27) hN okL_26 (hR _ _ _ r0_26_1) dX8_underSeeing_42 fl_8_9 rfl ?_
        refine bv_iload dX8_underSeeing_45 6 rfl ?_
        refine bz_iald hN rkL_27 r1 rfl dX8_underSeeing_47 ?_
        refine bv_aload_n dX8_underSeeing_48 0 rfl ?_
        refine bz_getA (a := 28) hN okL_26 (hR _ _ _ r0_26_2) dX8_underSeeing_49 fl_8_15 rfl ?_
        refine bv_iload dX8_underSeeing_52 6 rfl ?_
        refine bz_iald hN rkL_28 r1 rfl dX8_underSeeing_54 ?_
        refine bw_callSN (As := [.int x2, .int x3, .int (I 27 x6.toNatClampNeg), .int (I 28 x6.toNatClampNeg)]) dX8_underSeeing_55 mc_8_86 (c_X11_far (d := d + 2) hN hR rfl) rfl rfl (by decide) ?_
        refine bv_iload dX8_underSeeing_58 4 rfl ?_
        refine bv_icmp_gt (tgt := 66) dX8_underSeeing_60 (by decide) (fun cc => ?_) (fun cc => ?_)
        · replace h := bu_t h cc
          refine bv_iinc (j := 6) (v := (x6 + 1)) (ls1 := [(0, .ref 26), (1, .int x1), (2, .int x2), (3, .int x3), (4, .int x4), (5, .int x5), (6, .int (x6 + 1))]) dX8_underSeeing_66 rfl rfl (by decide) rfl rfl ?_
          refine bv_goto (tgt := 13) dX8_underSeeing_69 (by decide) ?_
          exact ih _ _ _ h K0
        · replace h := bu_f h cc
          refine bv_iinc (j := 5) (v := (x5 + 1)) (ls1 := [(0, .ref 26), (1, .int x1), (2, .int x2), (3, .int x3), (4, .int x4), (5, .int (x5 + 1)), (6, .int x6)]) dX8_underSeeing_63 rfl rfl (by decide) rfl rfl ?_
          refine bv_iinc (j := 6) (v := (x6 + 1)) (ls1 := [(0, .ref 26), (1, .int x1), (2, .int x2), (3, .int x3), (4, .int x4), (5, .int (x5 + 1)), (6, .int (x6 + 1))]) dX8_underSeeing_66 rfl rfl (by decide) rfl rfl ?_
          refine bv_goto (tgt := 13) dX8_underSeeing_69 (by decide) ?_
          exact ih _ _ _ h K0
def f_X8_underSeeing (I : bm_TI) (x1 : Int32) (x2 : Int32) (x3 : Int32) : Option (Int32) := ((f_X8_rangeOf I x1).bind fun v1 => ((f_X8_underSeeing_l13 I x1 x2 x3 v1 1000 0 0).bind fun y5 => some y5))
set_option maxHeartbeats 4000000 in
set_option maxRecDepth 100000 in
theorem c_X8_underSeeing {lc : bm_L} {d n : Nat} {I : bm_TI} {J : bm_TJ} {R W : bm_TR} {x1 : Int32} {x2 : Int32} {x3 : Int32} {v : Int32} (hN : 181 ≤ n) (hR : bm_RR R) (h : f_X8_underSeeing I x1 x2 x3 = some v) : bm_C lc m_X8_underSeeing (d + 3) n n [.ref 26, .int x1, .int x2, .int x3] (I, J, R, W) (fun r M' => r = some (.int v) ∧ M' = (I, J, R, W)) := by
  refine bm_C.ofV (by decide) (Nat.le_of_ble_eq_true rfl) ?_
  show bm_V lc m_X8_underSeeing (d + 3) n n n 0 [(0, .ref 26), (1, .int x1), (2, .int x2), (3, .int x3)] [] (I, J, R, W) _
  unfold f_X8_underSeeing at h
  refine bv_aload_n dX8_underSeeing_0 0 rfl ?_
  refine bv_iload_n dX8_underSeeing_1 1 rfl ?_
  obtain ⟨v1, p2, h⟩ := bu_bd h
  refine bw_callV (As := [.int x1]) hN okL_26 ⟨_, _, rfl⟩ dX8_underSeeing_2 mc_8_90 (c_X8_rangeOf (d := d + 0) hN hR p2) rfl rfl (by decide) ?_
  refine bv_istore (ls1 := [(0, .ref 26), (1, .int x1), (2, .int x2), (3, .int x3), (4, .int v1)]) dX8_underSeeing_5 (by decide) rfl rfl ?_
  refine bv_iconst (v := 0) dX8_underSeeing_7 (by decide) ?_
  refine bv_istore (ls1 := [(0, .ref 26), (1, .int x1), (2, .int x2), (3, .int x3), (4, .int v1), (5, .int 0)]) dX8_underSeeing_8 (by decide) rfl rfl ?_
  refine bv_iconst (v := 0) dX8_underSeeing_10 (by decide) ?_
  refine bv_istore (ls1 := [(0, .ref 26), (1, .int x1), (2, .int x2), (3, .int x3), (4, .int v1), (5, .int 0), (6, .int 0)]) dX8_underSeeing_11 (by decide) rfl rfl ?_
  obtain ⟨r3, p4, h⟩ := bu_bd h
  refine v_X8_underSeeing_l13 hN hR 1000 _ _ _ p4 (fun y5 hy => ?_)
  · subst hy
    refine bv_iload dX8_underSeeing_72 0 rfl ?_
    obtain rfl := Option.some.inj h
    exact bv_iret (x := y5) dX8_underSeeing_74 rfl ⟨rfl, rfl⟩
def f_X8_holders (I : bm_TI) (x0 : Nat) : Option (Int32) := ((f_X0_allMen I).bind fun v1 => ((f_X8_holdersOf I x0 (-1)).bind fun v3 => some (v1 &&& (v3 ^^^ (-1)))))
set_option maxHeartbeats 4000000 in
set_option maxRecDepth 100000 in
theorem c_X8_holders {lc : bm_L} {d n : Nat} {I : bm_TI} {J : bm_TJ} {R W : bm_TR} {x0 : Nat} {v : Int32} (hN : 181 ≤ n) (hR : bm_RR R) (q_0 : bm_OK x0 8) (a_0 : bm_tr x0 0 = some 4) (h : f_X8_holders I x0 = some v) : bm_C lc m_X8_holders (d + 1) n n [.ref x0] (I, J, R, W) (fun r M' => r = some (.int v) ∧ M' = (I, J, R, W)) := by
  refine bm_C.ofV (by decide) (Nat.le_of_ble_eq_true rfl) ?_
  show bm_V lc m_X8_holders (d + 1) n n n 0 [(0, .ref x0)] [] (I, J, R, W) _
  unfold f_X8_holders at h
  refine bv_aload_n dX8_holders_0 0 rfl ?_
  refine bz_getA (a := 4) hN q_0 (hR _ _ _ a_0) dX8_holders_1 fl_8_30 rfl ?_
  obtain ⟨v1, p2, h⟩ := bu_bd h
  refine bw_callV (As := []) hN okL_4 ⟨_, _, rfl⟩ dX8_holders_4 mc_8_105 (c_X0_allMen (d := d + 0) hN hR p2) rfl rfl (by decide) ?_
  refine bv_aload_n dX8_holders_7 0 rfl ?_
  refine bv_iconst (v := (-1)) dX8_holders_8 (by decide) ?_
  obtain ⟨v3, p4, h⟩ := bu_bd h
  refine bw_callV (As := [.int (-1)]) hN q_0 ⟨_, _, rfl⟩ dX8_holders_9 mc_8_109 (c_X8_holdersOf (d := d + 0) hN hR q_0 a_0 p4) rfl rfl (Nat.le_of_ble_eq_true rfl) ?_
  refine bv_iconst (v := (-1)) dX8_holders_12 (by decide) ?_
  refine bv_ixor dX8_holders_13 ?_
  refine bv_iand dX8_holders_14 ?_
  obtain rfl := Option.some.inj h
  exact bv_iret (x := (v1 &&& (v3 ^^^ (-1)))) dX8_holders_15 rfl ⟨rfl, rfl⟩
def f_X8_allLost_l4 (I : bm_TI) : Nat → Int32 → Int32 → Option (Int32)
  | 0, _, _ => none
  | k + 1, x1, x2 => (if (I 4 10) ≤ x2 then some x1 else (if bm_ix 8 x2 = true then f_X8_allLost_l4 I k (x1 + (I 31 x2.toNatClampNeg)) (x2 + 1) else none))
set_option maxHeartbeats 4000000 in
set_option maxRecDepth 100000 in
theorem v_X8_allLost_l4 {lc : bm_L} {d n : Nat} {Q : Option Value → bm_M → Prop} {R : bm_TR} {I : bm_TI} {J : bm_TJ} {W : bm_TR} (hN : 181 ≤ n) (hR : bm_RR R) : ∀ (k : Nat) (x1 : Int32) (x2 : Int32) (r : Int32), f_X8_allLost_l4 I k x1 x2 = some r → (∀ yy, yy = r → bm_V lc m_X8_allLost d n n n 30 [(1, .int yy)] [] (I, J, R, W) Q) → bm_V lc m_X8_allLost d n n n 4 [(0, .ref 26), (1, .int x1), (2, .int x2)] [] (I, J, R, W) Q := by
  intro k
  induction k with
  | zero => intro x1 x2 r h; cases (show (none : Option (Int32)) = some r from h)
  | succ k ih =>
    intro x1 x2 r h K0
    unfold f_X8_allLost_l4 at h
    refine bv_iload_n dX8_allLost_4 2 rfl ?_
    refine bv_aload_n dX8_allLost_5 0 rfl ?_
    refine bz_getA (a := 4) hN okL_26 (hR _ _ _ r0_26_0) dX8_allLost_6 fl_8_30 rfl ?_
    refine bz_getI hN okL_4 dX8_allLost_9 fl_8_34 rfl ?_
    refine bv_icmp_ge (tgt := 30) dX8_allLost_12 (by decide) (fun cc => ?_) (fun cc => ?_)
    · replace h := bu_t h cc
      refine bw_ls (ls1 := [(1, .int x1)]) [1] rfl ?_
      obtain rfl := Option.some.inj h
      exact K0 _ rfl
    · replace h := bu_f h cc
      refine bv_iload_n dX8_allLost_15 1 rfl ?_
      refine bv_aload_n dX8_allLost_16 0 rfl ?_
      refine bz_getA (a := 31) hN okL_26 (hR _ _ _ r0_26_5) dX8_allLost_17 fl_8_24 rfl ?_
      refine bv_iload_n dX8_allLost_20 2 rfl ?_
      obtain ⟨r1, h⟩ := bu_ix h
      refine bz_iald hN rkL_31 r1 rfl dX8_allLost_21 ?_
      refine bv_iadd dX8_allLost_22 ?_
      refine bv_istore_n (ls1 := [(0, .ref 26), (1, .int (x1 + (I 31 x2.toNatClampNeg))), (2, .int x2)]) dX8_allLost_23 (by decide) rfl rfl ?_
      refine bv_iinc (j := 2) (v := (x2 + 1)) (ls1 := [(0, .ref 26), (1, .int (x1 + (I 31 x2.toNatClampNeg))), (2, .int (x2 + 1))]) dX8_allLost_24 rfl rfl (by decide) rfl rfl ?_
      refine bv_goto (tgt := 4) dX8_allLost_27 (by decide) ?_
      exact ih _ _ _ h K0
def f_X8_allLost (I : bm_TI) : Option (Int32) := ((f_X8_allLost_l4 I 1000 0 0).bind fun y3 => some y3)
set_option maxHeartbeats 4000000 in
set_option maxRecDepth 100000 in
theorem c_X8_allLost {lc : bm_L} {d n : Nat} {I : bm_TI} {J : bm_TJ} {R W : bm_TR} {v : Int32} (hN : 181 ≤ n) (hR : bm_RR R) (h : f_X8_allLost I = some v) : bm_C lc m_X8_allLost d n n [.ref 26] (I, J, R, W) (fun r M' => r = some (.int v) ∧ M' = (I, J, R, W)) := by
  refine bm_C.ofV (by decide) (Nat.le_of_ble_eq_true rfl) ?_
  show bm_V lc m_X8_allLost d n n n 0 [(0, .ref 26)] [] (I, J, R, W) _
  unfold f_X8_allLost at h
  refine bv_iconst (v := 0) dX8_allLost_0 (by decide) ?_
  refine bv_istore_n (ls1 := [(0, .ref 26), (1, .int 0)]) dX8_allLost_1 (by decide) rfl rfl ?_
  refine bv_iconst (v := 0) dX8_allLost_2 (by decide) ?_
  refine bv_istore_n (ls1 := [(0, .ref 26), (1, .int 0), (2, .int 0)]) dX8_allLost_3 (by decide) rfl rfl ?_
  obtain ⟨r1, p2, h⟩ := bu_bd h
  refine v_X8_allLost_l4 hN hR 1000 _ _ _ p2 (fun y3 hy => ?_)
  · subst hy
    refine bv_iload_n dX8_allLost_30 0 rfl ?_
    obtain rfl := Option.some.inj h
    exact bv_iret (x := y3) dX8_allLost_31 rfl ⟨rfl, rfl⟩
