def f_X8_hear (I : bm_TI) (x1 : Int32) (x2 : Int32) : Option (bm_TI) := (if (f_X11_bit (I 4 11) x1) = 1 then (if bm_ix 8 x1 = true then (if (I 37 x1.toNatClampNeg) = (-1) then (if (I 36 x1.toNatClampNeg) = 0 then some (bm_uI I 36 x1.toNatClampNeg x2) else ((f_X0_orderOf I 4 (I 36 x1.toNatClampNeg) x2).bind fun v5 => (if v5 = (-1) then some (bm_uI (bm_uI I 36 x1.toNatClampNeg 0) 38 x1.toNatClampNeg (bm_min 99 (((bm_uI I 36 x1.toNatClampNeg 0) 38 x1.toNatClampNeg) + 1))) else some (bm_uI (bm_uI (bm_uI I 36 x1.toNatClampNeg 0) 37 x1.toNatClampNeg v5) 33 9 (((bm_uI (bm_uI I 36 x1.toNatClampNeg 0) 37 x1.toNatClampNeg v5) 33 9) ||| (bm_ishl 1 x1)))))) else some I) else none) else (if bm_ix 8 x1 = true then (if (I 36 x1.toNatClampNeg) = 0 then some (bm_uI I 36 x1.toNatClampNeg x2) else ((f_X0_orderOf I 4 (I 36 x1.toNatClampNeg) x2).bind fun v2 => (if v2 = (-1) then some (bm_uI (bm_uI I 36 x1.toNatClampNeg 0) 38 x1.toNatClampNeg (bm_min 99 (((bm_uI I 36 x1.toNatClampNeg 0) 38 x1.toNatClampNeg) + 1))) else some (bm_uI (bm_uI (bm_uI I 36 x1.toNatClampNeg 0) 37 x1.toNatClampNeg v2) 33 9 (((bm_uI (bm_uI I 36 x1.toNatClampNeg 0) 37 x1.toNatClampNeg v2) 33 9) ||| (bm_ishl 1 x1)))))) else none))
set_option maxHeartbeats 4000000 in
set_option maxRecDepth 100000 in
theorem c_X8_hear {lc : bm_L} {d n : Nat} {I : bm_TI} {J : bm_TJ} {R W : bm_TR} {x1 : Int32} {x2 : Int32} {v : bm_TI} (hN : 181 ≤ n) (hR : bm_RR R) (h : f_X8_hear I x1 x2 = some v) : bm_C lc m_X8_hear (d + 1) n n [.ref 33, .int x1, .int x2] (I, J, R, W) (fun r M' => r = none ∧ M' = (v, J, R, W)) := by
  refine bm_C.ofV (by decide) (Nat.le_of_ble_eq_true rfl) ?_
  show bm_V lc m_X8_hear (d + 1) n n n 0 [(0, .ref 33), (1, .int x1), (2, .int x2)] [] (I, J, R, W) _
  unfold f_X8_hear at h
  refine bv_aload_n dX8_hear_0 0 rfl ?_
  refine bz_getA (a := 4) hN okL_33 (hR _ _ _ r0_33_0) dX8_hear_1 fl_8_30 rfl ?_
  refine bz_getI hN okL_4 dX8_hear_4 fl_8_140 rfl ?_
  refine bv_iload_n dX8_hear_7 1 rfl ?_
  refine bw_callSN (As := [.int (I 4 11), .int x1]) dX8_hear_8 mc_8_70 (c_X11_bit (d := d + 0) hN hR rfl) rfl rfl (by decide) ?_
  refine bv_iconst (v := 1) dX8_hear_11 (by decide) ?_
  refine bv_icmp_ne (tgt := 26) dX8_hear_12 (by decide) (fun cc => ?_) (fun cc => ?_)
  · replace h := bu_f h cc
    refine bv_aload_n dX8_hear_26 0 rfl ?_
    refine bz_getA (a := 36) hN okL_33 (hR _ _ _ r0_33_3) dX8_hear_27 fl_8_18 rfl ?_
    refine bv_iload_n dX8_hear_30 1 rfl ?_
    obtain ⟨r1, h⟩ := bu_ix h
    refine bz_iald hN rkL_36 r1 rfl dX8_hear_31 ?_
    refine bv_if_ne (tgt := 43) dX8_hear_32 (by decide) (fun cc => ?_) (fun cc => ?_)
    · replace h := bu_f h cc
      refine bv_aload_n dX8_hear_43 0 rfl ?_
      refine bz_getA (a := 4) hN okL_33 (hR _ _ _ r0_33_0) dX8_hear_44 fl_8_30 rfl ?_
      refine bv_aload_n dX8_hear_47 0 rfl ?_
      refine bz_getA (a := 36) hN okL_33 (hR _ _ _ r0_33_3) dX8_hear_48 fl_8_18 rfl ?_
      refine bv_iload_n dX8_hear_51 1 rfl ?_
      refine bz_iald hN rkL_36 r1 rfl dX8_hear_52 ?_
      refine bv_iload_n dX8_hear_53 2 rfl ?_
      obtain ⟨v2, p3, h⟩ := bu_bd h
      refine bw_callV (As := [.int (I 36 x1.toNatClampNeg), .int x2]) hN okL_4 ⟨_, _, rfl⟩ dX8_hear_54 mc_8_143 (c_X0_orderOf (d := d + 0) hN hR okL_4 p3) rfl rfl (by decide) ?_
      refine bv_istore_n (ls1 := [(0, .ref 33), (1, .int x1), (2, .int x2), (3, .int v2)]) dX8_hear_57 (by decide) rfl rfl ?_
      refine bv_aload_n dX8_hear_58 0 rfl ?_
      refine bz_getA (a := 36) hN okL_33 (hR _ _ _ r0_33_3) dX8_hear_59 fl_8_18 rfl ?_
      refine bv_iload_n dX8_hear_62 1 rfl ?_
      refine bv_iconst (v := 0) dX8_hear_63 (by decide) ?_
      refine bz_iast hN rkL_36 r1 rfl dX8_hear_64 ?_
      refine bv_iload_n dX8_hear_65 3 rfl ?_
      refine bv_iconst (v := (-1)) dX8_hear_66 (by decide) ?_
      refine bv_icmp_ne (tgt := 92) dX8_hear_67 (by decide) (fun cc => ?_) (fun cc => ?_)
      · replace h := bu_f h cc
        refine bv_aload_n dX8_hear_92 0 rfl ?_
        refine bz_getA (a := 37) hN okL_33 (hR _ _ _ r0_33_4) dX8_hear_93 fl_8_21 rfl ?_
        refine bv_iload_n dX8_hear_96 1 rfl ?_
        refine bv_iload_n dX8_hear_97 3 rfl ?_
        refine bz_iast hN rkL_37 r1 rfl dX8_hear_98 ?_
        refine bv_aload_n dX8_hear_99 0 rfl ?_
        refine bv_dup dX8_hear_100 rfl ?_
        refine bz_getI hN okL_33 dX8_hear_101 fl_8_52 rfl ?_
        refine bv_iconst (v := 1) dX8_hear_104 (by decide) ?_
        refine bv_iload_n dX8_hear_105 1 rfl ?_
        refine bv_ishl dX8_hear_106 ?_
        refine bv_ior dX8_hear_107 ?_
        refine bz_putI hN okL_33 dX8_hear_108 fl_8_52 rfl ?_
        obtain rfl := Option.some.inj h
        exact bv_vret dX8_hear_111 rfl ⟨rfl, rfl⟩
      · replace h := bu_t h cc
        refine bv_aload_n dX8_hear_70 0 rfl ?_
        refine bz_getA (a := 38) hN okL_33 (hR _ _ _ r0_33_5) dX8_hear_71 fl_8_24 rfl ?_
        refine bv_iload_n dX8_hear_74 1 rfl ?_
        refine bv_bipush (v := 99) dX8_hear_75 (by decide) ?_
        refine bv_aload_n dX8_hear_77 0 rfl ?_
        refine bz_getA (a := 38) hN okL_33 (hR _ _ _ r0_33_5) dX8_hear_78 fl_8_24 rfl ?_
        refine bv_iload_n dX8_hear_81 1 rfl ?_
        refine bz_iald hN rkL_38 r1 rfl dX8_hear_82 ?_
        refine bv_iconst (v := 1) dX8_hear_83 (by decide) ?_
        refine bv_iadd dX8_hear_84 ?_
        refine bv_mmin dX8_hear_85 mw_8_74 (Nat.le_of_ble_eq_true rfl) (Nat.le_refl n) ?_
        refine bz_iast hN rkL_38 r1 rfl dX8_hear_88 ?_
        refine bv_goto (tgt := 111) dX8_hear_89 (by decide) ?_
        obtain rfl := Option.some.inj h
        exact bv_vret dX8_hear_111 rfl ⟨rfl, rfl⟩
    · replace h := bu_t h cc
      refine bv_aload_n dX8_hear_35 0 rfl ?_
      refine bz_getA (a := 36) hN okL_33 (hR _ _ _ r0_33_3) dX8_hear_36 fl_8_18 rfl ?_
      refine bv_iload_n dX8_hear_39 1 rfl ?_
      refine bv_iload_n dX8_hear_40 2 rfl ?_
      refine bz_iast hN rkL_36 r1 rfl dX8_hear_41 ?_
      obtain rfl := Option.some.inj h
      exact bv_vret dX8_hear_42 rfl ⟨rfl, rfl⟩
  · replace h := bu_t h cc
    refine bv_aload_n dX8_hear_15 0 rfl ?_
    refine bz_getA (a := 37) hN okL_33 (hR _ _ _ r0_33_4) dX8_hear_16 fl_8_21 rfl ?_
    refine bv_iload_n dX8_hear_19 1 rfl ?_
    obtain ⟨r4, h⟩ := bu_ix h
    refine bz_iald hN rkL_37 r4 rfl dX8_hear_20 ?_
    refine bv_iconst (v := (-1)) dX8_hear_21 (by decide) ?_
    refine bv_icmp_eq (tgt := 26) dX8_hear_22 (by decide) (fun cc => ?_) (fun cc => ?_)
    · replace h := bu_t h cc
      refine bv_aload_n dX8_hear_26 0 rfl ?_
      refine bz_getA (a := 36) hN okL_33 (hR _ _ _ r0_33_3) dX8_hear_27 fl_8_18 rfl ?_
      refine bv_iload_n dX8_hear_30 1 rfl ?_
      refine bz_iald hN rkL_36 r4 rfl dX8_hear_31 ?_
      refine bv_if_ne (tgt := 43) dX8_hear_32 (by decide) (fun cc => ?_) (fun cc => ?_)
      · replace h := bu_f h cc
        refine bv_aload_n dX8_hear_43 0 rfl ?_
        refine bz_getA (a := 4) hN okL_33 (hR _ _ _ r0_33_0) dX8_hear_44 fl_8_30 rfl ?_
        refine bv_aload_n dX8_hear_47 0 rfl ?_
        refine bz_getA (a := 36) hN okL_33 (hR _ _ _ r0_33_3) dX8_hear_48 fl_8_18 rfl ?_
        refine bv_iload_n dX8_hear_51 1 rfl ?_
        refine bz_iald hN rkL_36 r4 rfl dX8_hear_52 ?_
        refine bv_iload_n dX8_hear_53 2 rfl ?_
        obtain ⟨v5, p6, h⟩ := bu_bd h
        refine bw_callV (As := [.int (I 36 x1.toNatClampNeg), .int x2]) hN okL_4 ⟨_, _, rfl⟩ dX8_hear_54 mc_8_143 (c_X0_orderOf (d := d + 0) hN hR okL_4 p6) rfl rfl (by decide) ?_
        refine bv_istore_n (ls1 := [(0, .ref 33), (1, .int x1), (2, .int x2), (3, .int v5)]) dX8_hear_57 (by decide) rfl rfl ?_
        refine bv_aload_n dX8_hear_58 0 rfl ?_
        refine bz_getA (a := 36) hN okL_33 (hR _ _ _ r0_33_3) dX8_hear_59 fl_8_18 rfl ?_
        refine bv_iload_n dX8_hear_62 1 rfl ?_
        refine bv_iconst (v := 0) dX8_hear_63 (by decide) ?_
        refine bz_iast hN rkL_36 r4 rfl dX8_hear_64 ?_
        refine bv_iload_n dX8_hear_65 3 rfl ?_
        refine bv_iconst (v := (-1)) dX8_hear_66 (by decide) ?_
        refine bv_icmp_ne (tgt := 92) dX8_hear_67 (by decide) (fun cc => ?_) (fun cc => ?_)
        · replace h := bu_f h cc
          refine bv_aload_n dX8_hear_92 0 rfl ?_
          refine bz_getA (a := 37) hN okL_33 (hR _ _ _ r0_33_4) dX8_hear_93 fl_8_21 rfl ?_
          refine bv_iload_n dX8_hear_96 1 rfl ?_
          refine bv_iload_n dX8_hear_97 3 rfl ?_
          refine bz_iast hN rkL_37 r4 rfl dX8_hear_98 ?_
          refine bv_aload_n dX8_hear_99 0 rfl ?_
          refine bv_dup dX8_hear_100 rfl ?_
          refine bz_getI hN okL_33 dX8_hear_101 fl_8_52 rfl ?_
          refine bv_iconst (v := 1) dX8_hear_104 (by decide) ?_
          refine bv_iload_n dX8_hear_105 1 rfl ?_
          refine bv_ishl dX8_hear_106 ?_
          refine bv_ior dX8_hear_107 ?_
          refine bz_putI hN okL_33 dX8_hear_108 fl_8_52 rfl ?_
          obtain rfl := Option.some.inj h
          exact bv_vret dX8_hear_111 rfl ⟨rfl, rfl⟩
        · replace h := bu_t h cc
          refine bv_aload_n dX8_hear_70 0 rfl ?_
          refine bz_getA (a := 38) hN okL_33 (hR _ _ _ r0_33_5) dX8_hear_71 fl_8_24 rfl ?_
          refine bv_iload_n dX8_hear_74 1 rfl ?_
          refine bv_bipush (v := 99) dX8_hear_75 (by decide) ?_
          refine bv_aload_n dX8_hear_77 0 rfl ?_
          refine bz_getA (a := 38) hN okL_33 (hR _ _ _ r0_33_5) dX8_hear_78 fl_8_24 rfl ?_
          refine bv_iload_n dX8_hear_81 1 rfl ?_
          refine bz_iald hN rkL_38 r4 rfl dX8_hear_82 ?_
          refine bv_iconst (v := 1) dX8_hear_83 (by decide) ?_
          refine bv_iadd dX8_hear_84 ?_
          refine bv_mmin dX8_hear_85 mw_8_74 (Nat.le_of_ble_eq_true rfl) (Nat.le_refl n) ?_
          refine bz_iast hN rkL_38 r4 rfl dX8_hear_88 ?_
          refine bv_goto (tgt := 111) dX8_hear_89 (by decide) ?_
          obtain rfl := Option.some.inj h
          exact bv_vret dX8_hear_111 rfl ⟨rfl, rfl⟩
      · replace h := bu_t h cc
        refine bv_aload_n dX8_hear_35 0 rfl ?_
        refine bz_getA (a := 36) hN okL_33 (hR _ _ _ r0_33_3) dX8_hear_36 fl_8_18 rfl ?_
        refine bv_iload_n dX8_hear_39 1 rfl ?_
        refine bv_iload_n dX8_hear_40 2 rfl ?_
        refine bz_iast hN rkL_36 r4 rfl dX8_hear_41 ?_
        obtain rfl := Option.some.inj h
        exact bv_vret dX8_hear_42 rfl ⟨rfl, rfl⟩
    · replace h := bu_f h cc
      obtain rfl := Option.some.inj h
      exact bv_vret dX8_hear_25 rfl ⟨rfl, rfl⟩
def f_X8_liftBy_l41 (x2 : Int32) (x4 : Int32) : Nat → Int32 → bm_TI → Option (bm_TI)
  | 0, _, _ => none
  | k + 1, x5, I => (if (I 4 10) ≤ x5 then some I else (if (f_X11_bit x4 x5) = 1 then ((f_X8_hear I x5 x2).bind fun v1 => f_X8_liftBy_l41 x2 x4 k (x5 + 1) v1) else f_X8_liftBy_l41 x2 x4 k (x5 + 1) I))
set_option maxHeartbeats 4000000 in
set_option maxRecDepth 100000 in
theorem v_X8_liftBy_l41 {lc : bm_L} {d n : Nat} {Q : Option Value → bm_M → Prop} {R : bm_TR} {J : bm_TJ} {W : bm_TR} {x2 : Int32} {x4 : Int32} (hN : 181 ≤ n) (hR : bm_RR R) : ∀ (k : Nat) (x5 : Int32) (I : bm_TI) (r : bm_TI), f_X8_liftBy_l41 x2 x4 k x5 I = some r → (∀ yy, yy = r → bm_V lc m_X8_liftBy (d + 2) n n n 77 [] [] (yy, J, R, W) Q) → bm_V lc m_X8_liftBy (d + 2) n n n 41 [(0, .ref 33), (2, .int x2), (4, .int x4), (5, .int x5)] [] (I, J, R, W) Q := by
  intro k
  induction k with
  | zero => intro x5 I r h; cases (show (none : Option (bm_TI)) = some r from h)
  | succ k ih =>
    intro x5 I r h K0
    unfold f_X8_liftBy_l41 at h
    refine bv_iload dX8_liftBy_41 3 rfl ?_
    refine bv_aload_n dX8_liftBy_43 0 rfl ?_
    refine bz_getA (a := 4) hN okL_33 (hR _ _ _ r0_33_0) dX8_liftBy_44 fl_8_30 rfl ?_
    refine bz_getI hN okL_4 dX8_liftBy_47 fl_8_34 rfl ?_
    refine bv_icmp_ge (tgt := 77) dX8_liftBy_50 (by decide) (fun cc => ?_) (fun cc => ?_)
    · replace h := bu_t h cc
      refine bw_ls (ls1 := []) [] rfl ?_
      obtain rfl := Option.some.inj h
      exact K0 _ rfl
    · replace h := bu_f h cc
      refine bv_iload dX8_liftBy_53 2 rfl ?_
      refine bv_iload dX8_liftBy_55 3 rfl ?_
      refine bw_callSN (As := [.int x4, .int x5]) dX8_liftBy_57 mc_8_70 (c_X11_bit (d := d + 1) hN hR rfl) rfl rfl (by decide) ?_
      refine bv_iconst (v := 1) dX8_liftBy_60 (by decide) ?_
      refine bv_icmp_ne (tgt := 71) dX8_liftBy_61 (by decide) (fun cc => ?_) (fun cc => ?_)
      · replace h := bu_f h cc
        refine bv_iinc (j := 3) (v := (x5 + 1)) (ls1 := [(0, .ref 33), (2, .int x2), (4, .int x4), (5, .int (x5 + 1))]) dX8_liftBy_71 rfl rfl (by decide) rfl rfl ?_
        refine bv_goto (tgt := 41) dX8_liftBy_74 (by decide) ?_
        exact ih _ _ _ h K0
      · replace h := bu_t h cc
        refine bv_aload_n dX8_liftBy_64 0 rfl ?_
        refine bv_iload dX8_liftBy_65 3 rfl ?_
        refine bv_iload_n dX8_liftBy_67 1 rfl ?_
        obtain ⟨v1, p2, h⟩ := bu_bd h
        refine bw_callVv (As := [.int x5, .int x2]) hN okL_33 ⟨_, _, rfl⟩ dX8_liftBy_68 mc_8_136 (c_X8_hear (d := d + 0) hN hR p2) rfl rfl (by decide) ?_
        refine bv_iinc (j := 3) (v := (x5 + 1)) (ls1 := [(0, .ref 33), (2, .int x2), (4, .int x4), (5, .int (x5 + 1))]) dX8_liftBy_71 rfl rfl (by decide) rfl rfl ?_
        refine bv_goto (tgt := 41) dX8_liftBy_74 (by decide) ?_
        exact ih _ _ _ h K0
def f_X8_liftBy (I : bm_TI) (x1 : Int32) (x2 : Int32) : Option (Int32 × bm_TI) := ((f_X8_browOf I 33 x1).bind fun v1 => (if v1 = 0 then some (1, I) else ((f_X8_readersOf (bm_uI I 33 11 ((I 33 11) + 1)) 33 x1 (v1 * ((bm_uI I 33 11 ((I 33 11) + 1)) 4 15))).bind fun v3 => ((f_X8_liftBy_l41 x2 v3 1000 0 (bm_uI I 33 11 ((I 33 11) + 1))).bind fun y7 => some (0, y7)))))
set_option maxHeartbeats 4000000 in
set_option maxRecDepth 100000 in
theorem c_X8_liftBy {lc : bm_L} {d n : Nat} {I : bm_TI} {J : bm_TJ} {R W : bm_TR} {x1 : Int32} {x2 : Int32} {v : Int32 × bm_TI} (hN : 181 ≤ n) (hR : bm_RR R) (h : f_X8_liftBy I x1 x2 = some v) : bm_C lc m_X8_liftBy (d + 2) n n [.ref 33, .int x1, .int x2] (I, J, R, W) (fun r M' => r = some (.int v.1) ∧ M' = (v.2, J, R, W)) := by
  refine bm_C.ofV (by decide) (Nat.le_of_ble_eq_true rfl) ?_
  show bm_V lc m_X8_liftBy (d + 2) n n n 0 [(0, .ref 33), (1, .int x1), (2, .int x2)] [] (I, J, R, W) _
  unfold f_X8_liftBy at h
  refine bv_aload_n dX8_liftBy_0 0 rfl ?_
  refine bv_iload_n dX8_liftBy_1 1 rfl ?_
  obtain ⟨v1, p2, h⟩ := bu_bd h
  refine bw_callV (As := [.int x1]) hN okL_33 ⟨_, _, rfl⟩ dX8_liftBy_2 mc_8_79 (c_X8_browOf (d := d + 0) hN hR okL_33 r0_33_0 p2) rfl rfl (by decide) ?_
  refine bv_istore_n (ls1 := [(0, .ref 33), (1, .int x1), (2, .int x2), (3, .int v1)]) dX8_liftBy_5 (by decide) rfl rfl ?_
  refine bv_iload_n dX8_liftBy_6 3 rfl ?_
  refine bv_if_ne (tgt := 12) dX8_liftBy_7 (by decide) (fun cc => ?_) (fun cc => ?_)
  · replace h := bu_f h cc
    refine bv_aload_n dX8_liftBy_12 0 rfl ?_
    refine bv_dup dX8_liftBy_13 rfl ?_
    refine bz_getI hN okL_33 dX8_liftBy_14 fl_8_58 rfl ?_
    refine bv_iconst (v := 1) dX8_liftBy_17 (by decide) ?_
    refine bv_iadd dX8_liftBy_18 ?_
    refine bz_putI hN okL_33 dX8_liftBy_19 fl_8_58 rfl ?_
    refine bv_aload_n dX8_liftBy_22 0 rfl ?_
    refine bv_iload_n dX8_liftBy_23 1 rfl ?_
    refine bv_iload_n dX8_liftBy_24 3 rfl ?_
    refine bv_aload_n dX8_liftBy_25 0 rfl ?_
    refine bz_getA (a := 4) hN okL_33 (hR _ _ _ r0_33_0) dX8_liftBy_26 fl_8_30 rfl ?_
    refine bz_getI hN okL_4 dX8_liftBy_29 fl_8_83 rfl ?_
    refine bv_imul dX8_liftBy_32 ?_
    obtain ⟨v3, p4, h⟩ := bu_bd h
    refine bw_callV (As := [.int x1, .int (v1 * ((bm_uI I 33 11 ((I 33 11) + 1)) 4 15))]) hN okL_33 ⟨_, _, rfl⟩ dX8_liftBy_33 mc_8_133 (c_X8_readersOf (d := d + 0) hN hR okL_33 r0_33_0 p4) rfl rfl (by decide) ?_
    refine bv_istore (ls1 := [(0, .ref 33), (1, .int x1), (2, .int x2), (3, .int v1), (4, .int v3)]) dX8_liftBy_36 (by decide) rfl rfl ?_
    refine bv_iconst (v := 0) dX8_liftBy_38 (by decide) ?_
    refine bv_istore (ls1 := [(0, .ref 33), (1, .int x1), (2, .int x2), (3, .int v1), (4, .int v3), (5, .int 0)]) dX8_liftBy_39 (by decide) rfl rfl ?_
    refine bw_ls (ls1 := [(0, .ref 33), (2, .int x2), (4, .int v3), (5, .int 0)]) [0, 2, 4, 5] rfl ?_
    obtain ⟨r5, p6, h⟩ := bu_bd h
    refine v_X8_liftBy_l41 hN hR 1000 _ _ _ p6 (fun y7 hy => ?_)
    · subst hy
      refine bv_iconst (v := 0) dX8_liftBy_77 (by decide) ?_
      obtain rfl := Option.some.inj h
      exact bv_iret (x := 0) dX8_liftBy_78 rfl ⟨rfl, rfl⟩
  · replace h := bu_t h cc
    refine bv_iconst (v := 1) dX8_liftBy_10 (by decide) ?_
    obtain rfl := Option.some.inj h
    exact bv_iret (x := 1) dX8_liftBy_11 rfl ⟨rfl, rfl⟩
def f_X8_giveBy (I : bm_TI) (x1 : Int32) (x2 : Int32) : Option (Int32 × bm_TI) := (if bm_ix 7 x2 = true then ((f_X8_liftBy I x1 (I 11 x2.toNatClampNeg)).bind fun v2 => (if v2.1 = 0 then ((f_X8_liftBy v2.2 x1 (v2.2 12 x2.toNatClampNeg)).bind fun v4 => some (v4.1, v4.2)) else some (1, v2.2))) else none)
set_option maxHeartbeats 4000000 in
set_option maxRecDepth 100000 in
theorem c_X8_giveBy {lc : bm_L} {d n : Nat} {I : bm_TI} {J : bm_TJ} {R W : bm_TR} {x1 : Int32} {x2 : Int32} {v : Int32 × bm_TI} (hN : 181 ≤ n) (hR : bm_RR R) (h : f_X8_giveBy I x1 x2 = some v) : bm_C lc m_X8_giveBy (d + 3) n n [.ref 33, .int x1, .int x2] (I, J, R, W) (fun r M' => r = some (.int v.1) ∧ M' = (v.2, J, R, W)) := by
  refine bm_C.ofV (by decide) (Nat.le_of_ble_eq_true rfl) ?_
  show bm_V lc m_X8_giveBy (d + 3) n n n 0 [(0, .ref 33), (1, .int x1), (2, .int x2)] [] (I, J, R, W) _
  unfold f_X8_giveBy at h
  refine bv_aload_n dX8_giveBy_0 0 rfl ?_
  refine bv_iload_n dX8_giveBy_1 1 rfl ?_
  refine bv_aload_n dX8_giveBy_2 0 rfl ?_
  refine bz_getA (a := 4) hN okL_33 (hR _ _ _ r0_33_0) dX8_giveBy_3 fl_8_30 rfl ?_
  refine bz_getA (a := 11) hN okL_4 (hR _ _ _ r0_4_6) dX8_giveBy_6 fl_8_146 rfl ?_
  refine bv_iload_n dX8_giveBy_9 2 rfl ?_
  obtain ⟨r1, h⟩ := bu_ix h
  refine bz_iald hN rkL_11 r1 rfl dX8_giveBy_10 ?_
  obtain ⟨v2, p3, h⟩ := bu_bd h
  refine bw_callV (As := [.int x1, .int (I 11 x2.toNatClampNeg)]) hN okL_33 ⟨_, _, rfl⟩ dX8_giveBy_11 mc_8_112 (c_X8_liftBy (d := d + 0) hN hR p3) rfl rfl (by decide) ?_
  refine bv_if_eq (tgt := 19) dX8_giveBy_14 (by decide) (fun cc => ?_) (fun cc => ?_)
  · replace h := bu_t h cc
    refine bv_aload_n dX8_giveBy_19 0 rfl ?_
    refine bv_iload_n dX8_giveBy_20 1 rfl ?_
    refine bv_aload_n dX8_giveBy_21 0 rfl ?_
    refine bz_getA (a := 4) hN okL_33 (hR _ _ _ r0_33_0) dX8_giveBy_22 fl_8_30 rfl ?_
    refine bz_getA (a := 12) hN okL_4 (hR _ _ _ r0_4_7) dX8_giveBy_25 fl_8_149 rfl ?_
    refine bv_iload_n dX8_giveBy_28 2 rfl ?_
    refine bz_iald hN rkL_12 r1 rfl dX8_giveBy_29 ?_
    obtain ⟨v4, p5, h⟩ := bu_bd h
    refine bw_callV (As := [.int x1, .int (v2.2 12 x2.toNatClampNeg)]) hN okL_33 ⟨_, _, rfl⟩ dX8_giveBy_30 mc_8_112 (c_X8_liftBy (d := d + 0) hN hR p5) rfl rfl (by decide) ?_
    obtain rfl := Option.some.inj h
    exact bv_iret (x := v4.1) dX8_giveBy_33 rfl ⟨rfl, rfl⟩
  · replace h := bu_f h cc
    refine bv_iconst (v := 1) dX8_giveBy_17 (by decide) ?_
    obtain rfl := Option.some.inj h
    exact bv_iret (x := 1) dX8_giveBy_18 rfl ⟨rfl, rfl⟩
def f_X8_goBy (I : bm_TI) (x1 : Int32) (x2 : Int32) : Option (Int32 × bm_TI) := (if bm_ix 8 x1 = true then (if x2 = 0 then (if x2 = 1 then (if ((I 34 x1.toNatClampNeg) + 1) < 0 then some (1, I) else (if 30 < ((I 34 x1.toNatClampNeg) + 1) then some (1, I) else (if ((I 35 x1.toNatClampNeg) + 1) < 0 then some (1, I) else (if ((I 35 x1.toNatClampNeg) + 1) ≤ 30 then some (0, (bm_uI (bm_uI I 34 x1.toNatClampNeg ((I 34 x1.toNatClampNeg) + 1)) 35 x1.toNatClampNeg ((I 35 x1.toNatClampNeg) + 1))) else some (1, I))))) else (if x2 = 3 then (if ((I 34 x1.toNatClampNeg) + 1) < 0 then some (1, I) else (if 30 < ((I 34 x1.toNatClampNeg) + 1) then some (1, I) else (if ((I 35 x1.toNatClampNeg) + (-1)) < 0 then some (1, I) else (if ((I 35 x1.toNatClampNeg) + (-1)) ≤ 30 then some (0, (bm_uI (bm_uI I 34 x1.toNatClampNeg ((I 34 x1.toNatClampNeg) + 1)) 35 x1.toNatClampNeg ((I 35 x1.toNatClampNeg) + (-1)))) else some (1, I))))) else (if ((I 34 x1.toNatClampNeg) + 1) < 0 then some (1, I) else (if 30 < ((I 34 x1.toNatClampNeg) + 1) then some (1, I) else (if ((I 35 x1.toNatClampNeg) + 0) < 0 then some (1, I) else (if ((I 35 x1.toNatClampNeg) + 0) ≤ 30 then some (0, (bm_uI (bm_uI I 34 x1.toNatClampNeg ((I 34 x1.toNatClampNeg) + 1)) 35 x1.toNatClampNeg ((I 35 x1.toNatClampNeg) + 0))) else some (1, I))))))) else (if x2 = 2 then (if x2 = 1 then (if ((I 34 x1.toNatClampNeg) + (-1)) < 0 then some (1, I) else (if 30 < ((I 34 x1.toNatClampNeg) + (-1)) then some (1, I) else (if ((I 35 x1.toNatClampNeg) + 1) < 0 then some (1, I) else (if ((I 35 x1.toNatClampNeg) + 1) ≤ 30 then some (0, (bm_uI (bm_uI I 34 x1.toNatClampNeg ((I 34 x1.toNatClampNeg) + (-1))) 35 x1.toNatClampNeg ((I 35 x1.toNatClampNeg) + 1))) else some (1, I))))) else (if x2 = 3 then (if ((I 34 x1.toNatClampNeg) + (-1)) < 0 then some (1, I) else (if 30 < ((I 34 x1.toNatClampNeg) + (-1)) then some (1, I) else (if ((I 35 x1.toNatClampNeg) + (-1)) < 0 then some (1, I) else (if ((I 35 x1.toNatClampNeg) + (-1)) ≤ 30 then some (0, (bm_uI (bm_uI I 34 x1.toNatClampNeg ((I 34 x1.toNatClampNeg) + (-1))) 35 x1.toNatClampNeg ((I 35 x1.toNatClampNeg) + (-1)))) else some (1, I))))) else (if ((I 34 x1.toNatClampNeg) + (-1)) < 0 then some (1, I) else (if 30 < ((I 34 x1.toNatClampNeg) + (-1)) then some (1, I) else (if ((I 35 x1.toNatClampNeg) + 0) < 0 then some (1, I) else (if ((I 35 x1.toNatClampNeg) + 0) ≤ 30 then some (0, (bm_uI (bm_uI I 34 x1.toNatClampNeg ((I 34 x1.toNatClampNeg) + (-1))) 35 x1.toNatClampNeg ((I 35 x1.toNatClampNeg) + 0))) else some (1, I))))))) else (if x2 = 1 then (if ((I 34 x1.toNatClampNeg) + 0) < 0 then some (1, I) else (if 30 < ((I 34 x1.toNatClampNeg) + 0) then some (1, I) else (if ((I 35 x1.toNatClampNeg) + 1) < 0 then some (1, I) else (if ((I 35 x1.toNatClampNeg) + 1) ≤ 30 then some (0, (bm_uI (bm_uI I 34 x1.toNatClampNeg ((I 34 x1.toNatClampNeg) + 0)) 35 x1.toNatClampNeg ((I 35 x1.toNatClampNeg) + 1))) else some (1, I))))) else (if x2 = 3 then (if ((I 34 x1.toNatClampNeg) + 0) < 0 then some (1, I) else (if 30 < ((I 34 x1.toNatClampNeg) + 0) then some (1, I) else (if ((I 35 x1.toNatClampNeg) + (-1)) < 0 then some (1, I) else (if ((I 35 x1.toNatClampNeg) + (-1)) ≤ 30 then some (0, (bm_uI (bm_uI I 34 x1.toNatClampNeg ((I 34 x1.toNatClampNeg) + 0)) 35 x1.toNatClampNeg ((I 35 x1.toNatClampNeg) + (-1)))) else some (1, I))))) else (if ((I 34 x1.toNatClampNeg) + 0) < 0 then some (1, I) else (if 30 < ((I 34 x1.toNatClampNeg) + 0) then some (1, I) else (if ((I 35 x1.toNatClampNeg) + 0) < 0 then some (1, I) else (if ((I 35 x1.toNatClampNeg) + 0) ≤ 30 then some (0, (bm_uI (bm_uI I 34 x1.toNatClampNeg ((I 34 x1.toNatClampNeg) + 0)) 35 x1.toNatClampNeg ((I 35 x1.toNatClampNeg) + 0))) else some (1, I))))))))) else none)
set_option maxHeartbeats 4000000 in
set_option maxRecDepth 100000 in
theorem c_X8_goBy {lc : bm_L} {d n : Nat} {I : bm_TI} {J : bm_TJ} {R W : bm_TR} {x1 : Int32} {x2 : Int32} {v : Int32 × bm_TI} (hN : 181 ≤ n) (hR : bm_RR R) (h : f_X8_goBy I x1 x2 = some v) : bm_C lc m_X8_goBy d n n [.ref 33, .int x1, .int x2] (I, J, R, W) (fun r M' => r = some (.int v.1) ∧ M' = (v.2, J, R, W)) := by
  refine bm_C.ofV (by decide) (Nat.le_of_ble_eq_true rfl) ?_
  show bm_V lc m_X8_goBy d n n n 0 [(0, .ref 33), (1, .int x1), (2, .int x2)] [] (I, J, R, W) _
  unfold f_X8_goBy at h
  refine bv_aload_n dX8_goBy_0 0 rfl ?_
  refine bz_getA (a := 34) hN okL_33 (hR _ _ _ r0_33_1) dX8_goBy_1 fl_8_9 rfl ?_
  refine bv_iload_n dX8_goBy_4 1 rfl ?_
  obtain ⟨r1, h⟩ := bu_ix h
  refine bz_iald hN rkL_34 r1 rfl dX8_goBy_5 ?_
  refine bv_iload_n dX8_goBy_6 2 rfl ?_
  refine bv_if_ne (tgt := 14) dX8_goBy_7 (by decide) (fun cc => ?_) (fun cc => ?_)
  · replace h := bu_f h cc
    refine bv_iload_n dX8_goBy_14 2 rfl ?_
    refine bv_iconst (v := 2) dX8_goBy_15 (by decide) ?_
    refine bv_icmp_ne (tgt := 23) dX8_goBy_16 (by decide) (fun cc => ?_) (fun cc => ?_)
    · replace h := bu_f h cc
      refine bv_iconst (v := 0) dX8_goBy_23 (by decide) ?_
      refine bv_iadd dX8_goBy_24 ?_
      refine bv_istore_n (ls1 := [(0, .ref 33), (1, .int x1), (2, .int x2), (3, .int ((I 34 x1.toNatClampNeg) + 0))]) dX8_goBy_25 (by decide) rfl rfl ?_
      refine bv_aload_n dX8_goBy_26 0 rfl ?_
      refine bz_getA (a := 35) hN okL_33 (hR _ _ _ r0_33_2) dX8_goBy_27 fl_8_15 rfl ?_
      refine bv_iload_n dX8_goBy_30 1 rfl ?_
      refine bz_iald hN rkL_35 r1 rfl dX8_goBy_31 ?_
      refine bv_iload_n dX8_goBy_32 2 rfl ?_
      refine bv_iconst (v := 1) dX8_goBy_33 (by decide) ?_
      refine bv_icmp_ne (tgt := 41) dX8_goBy_34 (by decide) (fun cc => ?_) (fun cc => ?_)
      · replace h := bu_f h cc
        refine bv_iload_n dX8_goBy_41 2 rfl ?_
        refine bv_iconst (v := 3) dX8_goBy_42 (by decide) ?_
        refine bv_icmp_ne (tgt := 50) dX8_goBy_43 (by decide) (fun cc => ?_) (fun cc => ?_)
        · replace h := bu_f h cc
          refine bv_iconst (v := 0) dX8_goBy_50 (by decide) ?_
          refine bv_iadd dX8_goBy_51 ?_
          refine bv_istore (ls1 := [(0, .ref 33), (1, .int x1), (2, .int x2), (3, .int ((I 34 x1.toNatClampNeg) + 0)), (4, .int ((I 35 x1.toNatClampNeg) + 0))]) dX8_goBy_52 (by decide) rfl rfl ?_
          refine bv_iload_n dX8_goBy_54 3 rfl ?_
          refine bv_if_lt (tgt := 76) dX8_goBy_55 (by decide) (fun cc => ?_) (fun cc => ?_)
          · replace h := bu_t h cc
            refine bv_iconst (v := 1) dX8_goBy_76 (by decide) ?_
            obtain rfl := Option.some.inj h
            exact bv_iret (x := 1) dX8_goBy_77 rfl ⟨rfl, rfl⟩
          · replace h := bu_f h cc
            refine bv_iload_n dX8_goBy_58 3 rfl ?_
            refine bv_bipush (v := 30) dX8_goBy_59 (by decide) ?_
            refine bv_icmp_gt (tgt := 76) dX8_goBy_61 (by decide) (fun cc => ?_) (fun cc => ?_)
            · replace h := bu_t h cc
              refine bv_iconst (v := 1) dX8_goBy_76 (by decide) ?_
              obtain rfl := Option.some.inj h
              exact bv_iret (x := 1) dX8_goBy_77 rfl ⟨rfl, rfl⟩
            · replace h := bu_f h cc
              refine bv_iload dX8_goBy_64 4 rfl ?_
              refine bv_if_lt (tgt := 76) dX8_goBy_66 (by decide) (fun cc => ?_) (fun cc => ?_)
              · replace h := bu_t h cc
                refine bv_iconst (v := 1) dX8_goBy_76 (by decide) ?_
                obtain rfl := Option.some.inj h
                exact bv_iret (x := 1) dX8_goBy_77 rfl ⟨rfl, rfl⟩
              · replace h := bu_f h cc
                refine bv_iload dX8_goBy_69 4 rfl ?_
                refine bv_bipush (v := 30) dX8_goBy_71 (by decide) ?_
                refine bv_icmp_le (tgt := 78) dX8_goBy_73 (by decide) (fun cc => ?_) (fun cc => ?_)
                · replace h := bu_t h cc
                  refine bv_aload_n dX8_goBy_78 0 rfl ?_
                  refine bz_getA (a := 34) hN okL_33 (hR _ _ _ r0_33_1) dX8_goBy_79 fl_8_9 rfl ?_
                  refine bv_iload_n dX8_goBy_82 1 rfl ?_
                  refine bv_iload_n dX8_goBy_83 3 rfl ?_
                  refine bz_iast hN rkL_34 r1 rfl dX8_goBy_84 ?_
                  refine bv_aload_n dX8_goBy_85 0 rfl ?_
                  refine bz_getA (a := 35) hN okL_33 (hR _ _ _ r0_33_2) dX8_goBy_86 fl_8_15 rfl ?_
                  refine bv_iload_n dX8_goBy_89 1 rfl ?_
                  refine bv_iload dX8_goBy_90 4 rfl ?_
                  refine bz_iast hN rkL_35 r1 rfl dX8_goBy_92 ?_
                  refine bv_iconst (v := 0) dX8_goBy_93 (by decide) ?_
                  obtain rfl := Option.some.inj h
                  exact bv_iret (x := 0) dX8_goBy_94 rfl ⟨rfl, rfl⟩
                · replace h := bu_f h cc
                  refine bv_iconst (v := 1) dX8_goBy_76 (by decide) ?_
                  obtain rfl := Option.some.inj h
                  exact bv_iret (x := 1) dX8_goBy_77 rfl ⟨rfl, rfl⟩
        · replace h := bu_t h cc
          refine bv_iconst (v := (-1)) dX8_goBy_46 (by decide) ?_
          refine bv_goto (tgt := 51) dX8_goBy_47 (by decide) ?_
          refine bv_iadd dX8_goBy_51 ?_
          refine bv_istore (ls1 := [(0, .ref 33), (1, .int x1), (2, .int x2), (3, .int ((I 34 x1.toNatClampNeg) + 0)), (4, .int ((I 35 x1.toNatClampNeg) + (-1)))]) dX8_goBy_52 (by decide) rfl rfl ?_
          refine bv_iload_n dX8_goBy_54 3 rfl ?_
          refine bv_if_lt (tgt := 76) dX8_goBy_55 (by decide) (fun cc => ?_) (fun cc => ?_)
          · replace h := bu_t h cc
            refine bv_iconst (v := 1) dX8_goBy_76 (by decide) ?_
            obtain rfl := Option.some.inj h
            exact bv_iret (x := 1) dX8_goBy_77 rfl ⟨rfl, rfl⟩
          · replace h := bu_f h cc
            refine bv_iload_n dX8_goBy_58 3 rfl ?_
            refine bv_bipush (v := 30) dX8_goBy_59 (by decide) ?_
            refine bv_icmp_gt (tgt := 76) dX8_goBy_61 (by decide) (fun cc => ?_) (fun cc => ?_)
            · replace h := bu_t h cc
              refine bv_iconst (v := 1) dX8_goBy_76 (by decide) ?_
              obtain rfl := Option.some.inj h
              exact bv_iret (x := 1) dX8_goBy_77 rfl ⟨rfl, rfl⟩
            · replace h := bu_f h cc
              refine bv_iload dX8_goBy_64 4 rfl ?_
              refine bv_if_lt (tgt := 76) dX8_goBy_66 (by decide) (fun cc => ?_) (fun cc => ?_)
              · replace h := bu_t h cc
                refine bv_iconst (v := 1) dX8_goBy_76 (by decide) ?_
                obtain rfl := Option.some.inj h
                exact bv_iret (x := 1) dX8_goBy_77 rfl ⟨rfl, rfl⟩
              · replace h := bu_f h cc
                refine bv_iload dX8_goBy_69 4 rfl ?_
                refine bv_bipush (v := 30) dX8_goBy_71 (by decide) ?_
                refine bv_icmp_le (tgt := 78) dX8_goBy_73 (by decide) (fun cc => ?_) (fun cc => ?_)
                · replace h := bu_t h cc
                  refine bv_aload_n dX8_goBy_78 0 rfl ?_
                  refine bz_getA (a := 34) hN okL_33 (hR _ _ _ r0_33_1) dX8_goBy_79 fl_8_9 rfl ?_
                  refine bv_iload_n dX8_goBy_82 1 rfl ?_
                  refine bv_iload_n dX8_goBy_83 3 rfl ?_
                  refine bz_iast hN rkL_34 r1 rfl dX8_goBy_84 ?_
                  refine bv_aload_n dX8_goBy_85 0 rfl ?_
                  refine bz_getA (a := 35) hN okL_33 (hR _ _ _ r0_33_2) dX8_goBy_86 fl_8_15 rfl ?_
                  refine bv_iload_n dX8_goBy_89 1 rfl ?_
                  refine bv_iload dX8_goBy_90 4 rfl ?_
                  refine bz_iast hN rkL_35 r1 rfl dX8_goBy_92 ?_
                  refine bv_iconst (v := 0) dX8_goBy_93 (by decide) ?_
                  obtain rfl := Option.some.inj h
                  exact bv_iret (x := 0) dX8_goBy_94 rfl ⟨rfl, rfl⟩
                · replace h := bu_f h cc
                  refine bv_iconst (v := 1) dX8_goBy_76 (by decide) ?_
                  obtain rfl := Option.some.inj h
                  exact bv_iret (x := 1) dX8_goBy_77 rfl ⟨rfl, rfl⟩
      · replace h := bu_t h cc
        refine bv_iconst (v := 1) dX8_goBy_37 (by decide) ?_
        refine bv_goto (tgt := 51) dX8_goBy_38 (by decide) ?_
        refine bv_iadd dX8_goBy_51 ?_
        refine bv_istore (ls1 := [(0, .ref 33), (1, .int x1), (2, .int x2), (3, .int ((I 34 x1.toNatClampNeg) + 0)), (4, .int ((I 35 x1.toNatClampNeg) + 1))]) dX8_goBy_52 (by decide) rfl rfl ?_
        refine bv_iload_n dX8_goBy_54 3 rfl ?_
        refine bv_if_lt (tgt := 76) dX8_goBy_55 (by decide) (fun cc => ?_) (fun cc => ?_)
        · replace h := bu_t h cc
          refine bv_iconst (v := 1) dX8_goBy_76 (by decide) ?_
          obtain rfl := Option.some.inj h
          exact bv_iret (x := 1) dX8_goBy_77 rfl ⟨rfl, rfl⟩
        · replace h := bu_f h cc
          refine bv_iload_n dX8_goBy_58 3 rfl ?_
          refine bv_bipush (v := 30) dX8_goBy_59 (by decide) ?_
          refine bv_icmp_gt (tgt := 76) dX8_goBy_61 (by decide) (fun cc => ?_) (fun cc => ?_)
          · replace h := bu_t h cc
            refine bv_iconst (v := 1) dX8_goBy_76 (by decide) ?_
            obtain rfl := Option.some.inj h
            exact bv_iret (x := 1) dX8_goBy_77 rfl ⟨rfl, rfl⟩
          · replace h := bu_f h cc
            refine bv_iload dX8_goBy_64 4 rfl ?_
            refine bv_if_lt (tgt := 76) dX8_goBy_66 (by decide) (fun cc => ?_) (fun cc => ?_)
            · replace h := bu_t h cc
              refine bv_iconst (v := 1) dX8_goBy_76 (by decide) ?_
              obtain rfl := Option.some.inj h
              exact bv_iret (x := 1) dX8_goBy_77 rfl ⟨rfl, rfl⟩
            · replace h := bu_f h cc
              refine bv_iload dX8_goBy_69 4 rfl ?_
              refine bv_bipush (v := 30) dX8_goBy_71 (by decide) ?_
              refine bv_icmp_le (tgt := 78) dX8_goBy_73 (by decide) (fun cc => ?_) (fun cc => ?_)
              · replace h := bu_t h cc
                refine bv_aload_n dX8_goBy_78 0 rfl ?_
                refine bz_getA (a := 34) hN okL_33 (hR _ _ _ r0_33_1) dX8_goBy_79 fl_8_9 rfl ?_
                refine bv_iload_n dX8_goBy_82 1 rfl ?_
                refine bv_iload_n dX8_goBy_83 3 rfl ?_
                refine bz_iast hN rkL_34 r1 rfl dX8_goBy_84 ?_
                refine bv_aload_n dX8_goBy_85 0 rfl ?_
                refine bz_getA (a := 35) hN okL_33 (hR _ _ _ r0_33_2) dX8_goBy_86 fl_8_15 rfl ?_
                refine bv_iload_n dX8_goBy_89 1 rfl ?_
                refine bv_iload dX8_goBy_90 4 rfl ?_
                refine bz_iast hN rkL_35 r1 rfl dX8_goBy_92 ?_
                refine bv_iconst (v := 0) dX8_goBy_93 (by decide) ?_
                obtain rfl := Option.some.inj h
                exact bv_iret (x := 0) dX8_goBy_94 rfl ⟨rfl, rfl⟩
              · replace h := bu_f h cc
                refine bv_iconst (v := 1) dX8_goBy_76 (by decide) ?_
                obtain rfl := Option.some.inj h
                exact bv_iret (x := 1) dX8_goBy_77 rfl ⟨rfl, rfl⟩
    · replace h := bu_t h cc
      refine bv_iconst (v := (-1)) dX8_goBy_19 (by decide) ?_
      refine bv_goto (tgt := 24) dX8_goBy_20 (by decide) ?_
      refine bv_iadd dX8_goBy_24 ?_
      refine bv_istore_n (ls1 := [(0, .ref 33), (1, .int x1), (2, .int x2), (3, .int ((I 34 x1.toNatClampNeg) + (-1)))]) dX8_goBy_25 (by decide) rfl rfl ?_
      refine bv_aload_n dX8_goBy_26 0 rfl ?_
      refine bz_getA (a := 35) hN okL_33 (hR _ _ _ r0_33_2) dX8_goBy_27 fl_8_15 rfl ?_
      refine bv_iload_n dX8_goBy_30 1 rfl ?_
      refine bz_iald hN rkL_35 r1 rfl dX8_goBy_31 ?_
      refine bv_iload_n dX8_goBy_32 2 rfl ?_
      refine bv_iconst (v := 1) dX8_goBy_33 (by decide) ?_
      refine bv_icmp_ne (tgt := 41) dX8_goBy_34 (by decide) (fun cc => ?_) (fun cc => ?_)
      · replace h := bu_f h cc
        refine bv_iload_n dX8_goBy_41 2 rfl ?_
        refine bv_iconst (v := 3) dX8_goBy_42 (by decide) ?_
        refine bv_icmp_ne (tgt := 50) dX8_goBy_43 (by decide) (fun cc => ?_) (fun cc => ?_)
        · replace h := bu_f h cc
          refine bv_iconst (v := 0) dX8_goBy_50 (by decide) ?_
          refine bv_iadd dX8_goBy_51 ?_
          refine bv_istore (ls1 := [(0, .ref 33), (1, .int x1), (2, .int x2), (3, .int ((I 34 x1.toNatClampNeg) + (-1))), (4, .int ((I 35 x1.toNatClampNeg) + 0))]) dX8_goBy_52 (by decide) rfl rfl ?_
          refine bv_iload_n dX8_goBy_54 3 rfl ?_
          refine bv_if_lt (tgt := 76) dX8_goBy_55 (by decide) (fun cc => ?_) (fun cc => ?_)
          · replace h := bu_t h cc
            refine bv_iconst (v := 1) dX8_goBy_76 (by decide) ?_
            obtain rfl := Option.some.inj h
            exact bv_iret (x := 1) dX8_goBy_77 rfl ⟨rfl, rfl⟩
          · replace h := bu_f h cc
            refine bv_iload_n dX8_goBy_58 3 rfl ?_
            refine bv_bipush (v := 30) dX8_goBy_59 (by decide) ?_
            refine bv_icmp_gt (tgt := 76) dX8_goBy_61 (by decide) (fun cc => ?_) (fun cc => ?_)
            · replace h := bu_t h cc
              refine bv_iconst (v := 1) dX8_goBy_76 (by decide) ?_
              obtain rfl := Option.some.inj h
              exact bv_iret (x := 1) dX8_goBy_77 rfl ⟨rfl, rfl⟩
            · replace h := bu_f h cc
              refine bv_iload dX8_goBy_64 4 rfl ?_
              refine bv_if_lt (tgt := 76) dX8_goBy_66 (by decide) (fun cc => ?_) (fun cc => ?_)
              · replace h := bu_t h cc
                refine bv_iconst (v := 1) dX8_goBy_76 (by decide) ?_
                obtain rfl := Option.some.inj h
                exact bv_iret (x := 1) dX8_goBy_77 rfl ⟨rfl, rfl⟩
              · replace h := bu_f h cc
                refine bv_iload dX8_goBy_69 4 rfl ?_
                refine bv_bipush (v := 30) dX8_goBy_71 (by decide) ?_
                refine bv_icmp_le (tgt := 78) dX8_goBy_73 (by decide) (fun cc => ?_) (fun cc => ?_)
                · replace h := bu_t h cc
                  refine bv_aload_n dX8_goBy_78 0 rfl ?_
                  refine bz_getA (a := 34) hN okL_33 (hR _ _ _ r0_33_1) dX8_goBy_79 fl_8_9 rfl ?_
                  refine bv_iload_n dX8_goBy_82 1 rfl ?_
                  refine bv_iload_n dX8_goBy_83 3 rfl ?_
                  refine bz_iast hN rkL_34 r1 rfl dX8_goBy_84 ?_
                  refine bv_aload_n dX8_goBy_85 0 rfl ?_
                  refine bz_getA (a := 35) hN okL_33 (hR _ _ _ r0_33_2) dX8_goBy_86 fl_8_15 rfl ?_
                  refine bv_iload_n dX8_goBy_89 1 rfl ?_
                  refine bv_iload dX8_goBy_90 4 rfl ?_
                  refine bz_iast hN rkL_35 r1 rfl dX8_goBy_92 ?_
                  refine bv_iconst (v := 0) dX8_goBy_93 (by decide) ?_
                  obtain rfl := Option.some.inj h
                  exact bv_iret (x := 0) dX8_goBy_94 rfl ⟨rfl, rfl⟩
                · replace h := bu_f h cc
                  refine bv_iconst (v := 1) dX8_goBy_76 (by decide) ?_
                  obtain rfl := Option.some.inj h
                  exact bv_iret (x := 1) dX8_goBy_77 rfl ⟨rfl, rfl⟩
        · replace h := bu_t h cc
          refine bv_iconst (v := (-1)) dX8_goBy_46 (by decide) ?_
          refine bv_goto (tgt := 51) dX8_goBy_47 (by decide) ?_
          refine bv_iadd dX8_goBy_51 ?_
          refine bv_istore (ls1 := [(0, .ref 33), (1, .int x1), (2, .int x2), (3, .int ((I 34 x1.toNatClampNeg) + (-1))), (4, .int ((I 35 x1.toNatClampNeg) + (-1)))]) dX8_goBy_52 (by decide) rfl rfl ?_
          refine bv_iload_n dX8_goBy_54 3 rfl ?_
          refine bv_if_lt (tgt := 76) dX8_goBy_55 (by decide) (fun cc => ?_) (fun cc => ?_)
          · replace h := bu_t h cc
            refine bv_iconst (v := 1) dX8_goBy_76 (by decide) ?_
            obtain rfl := Option.some.inj h
            exact bv_iret (x := 1) dX8_goBy_77 rfl ⟨rfl, rfl⟩
          · replace h := bu_f h cc
            refine bv_iload_n dX8_goBy_58 3 rfl ?_
            refine bv_bipush (v := 30) dX8_goBy_59 (by decide) ?_
            refine bv_icmp_gt (tgt := 76) dX8_goBy_61 (by decide) (fun cc => ?_) (fun cc => ?_)
            · replace h := bu_t h cc
              refine bv_iconst (v := 1) dX8_goBy_76 (by decide) ?_
              obtain rfl := Option.some.inj h
              exact bv_iret (x := 1) dX8_goBy_77 rfl ⟨rfl, rfl⟩
            · replace h := bu_f h cc
              refine bv_iload dX8_goBy_64 4 rfl ?_
              refine bv_if_lt (tgt := 76) dX8_goBy_66 (by decide) (fun cc => ?_) (fun cc => ?_)
              · replace h := bu_t h cc
                refine bv_iconst (v := 1) dX8_goBy_76 (by decide) ?_
                obtain rfl := Option.some.inj h
                exact bv_iret (x := 1) dX8_goBy_77 rfl ⟨rfl, rfl⟩
              · replace h := bu_f h cc
                refine bv_iload dX8_goBy_69 4 rfl ?_
                refine bv_bipush (v := 30) dX8_goBy_71 (by decide) ?_
                refine bv_icmp_le (tgt := 78) dX8_goBy_73 (by decide) (fun cc => ?_) (fun cc => ?_)
                · replace h := bu_t h cc
                  refine bv_aload_n dX8_goBy_78 0 rfl ?_
                  refine bz_getA (a := 34) hN okL_33 (hR _ _ _ r0_33_1) dX8_goBy_79 fl_8_9 rfl ?_
                  refine bv_iload_n dX8_goBy_82 1 rfl ?_
                  refine bv_iload_n dX8_goBy_83 3 rfl ?_
                  refine bz_iast hN rkL_34 r1 rfl dX8_goBy_84 ?_
                  refine bv_aload_n dX8_goBy_85 0 rfl ?_
                  refine bz_getA (a := 35) hN okL_33 (hR _ _ _ r0_33_2) dX8_goBy_86 fl_8_15 rfl ?_
                  refine bv_iload_n dX8_goBy_89 1 rfl ?_
                  refine bv_iload dX8_goBy_90 4 rfl ?_
                  refine bz_iast hN rkL_35 r1 rfl dX8_goBy_92 ?_
                  refine bv_iconst (v := 0) dX8_goBy_93 (by decide) ?_
                  obtain rfl := Option.some.inj h
                  exact bv_iret (x := 0) dX8_goBy_94 rfl ⟨rfl, rfl⟩
                · replace h := bu_f h cc
                  refine bv_iconst (v := 1) dX8_goBy_76 (by decide) ?_
                  obtain rfl := Option.some.inj h
                  exact bv_iret (x := 1) dX8_goBy_77 rfl ⟨rfl, rfl⟩
      · replace h := bu_t h cc
        refine bv_iconst (v := 1) dX8_goBy_37 (by decide) ?_
        refine bv_goto (tgt := 51) dX8_goBy_38 (by decide) ?_
        refine bv_iadd dX8_goBy_51 ?_
        refine bv_istore (ls1 := [(0, .ref 33), (1, .int x1), (2, .int x2), (3, .int ((I 34 x1.toNatClampNeg) + (-1))), (4, .int ((I 35 x1.toNatClampNeg) + 1))]) dX8_goBy_52 (by decide) rfl rfl ?_
        refine bv_iload_n dX8_goBy_54 3 rfl ?_
        refine bv_if_lt (tgt := 76) dX8_goBy_55 (by decide) (fun cc => ?_) (fun cc => ?_)
        · replace h := bu_t h cc
          refine bv_iconst (v := 1) dX8_goBy_76 (by decide) ?_
          obtain rfl := Option.some.inj h
          exact bv_iret (x := 1) dX8_goBy_77 rfl ⟨rfl, rfl⟩
        · replace h := bu_f h cc
          refine bv_iload_n dX8_goBy_58 3 rfl ?_
          refine bv_bipush (v := 30) dX8_goBy_59 (by decide) ?_
          refine bv_icmp_gt (tgt := 76) dX8_goBy_61 (by decide) (fun cc => ?_) (fun cc => ?_)
          · replace h := bu_t h cc
            refine bv_iconst (v := 1) dX8_goBy_76 (by decide) ?_
            obtain rfl := Option.some.inj h
            exact bv_iret (x := 1) dX8_goBy_77 rfl ⟨rfl, rfl⟩
          · replace h := bu_f h cc
            refine bv_iload dX8_goBy_64 4 rfl ?_
            refine bv_if_lt (tgt := 76) dX8_goBy_66 (by decide) (fun cc => ?_) (fun cc => ?_)
            · replace h := bu_t h cc
              refine bv_iconst (v := 1) dX8_goBy_76 (by decide) ?_
              obtain rfl := Option.some.inj h
              exact bv_iret (x := 1) dX8_goBy_77 rfl ⟨rfl, rfl⟩
            · replace h := bu_f h cc
              refine bv_iload dX8_goBy_69 4 rfl ?_
              refine bv_bipush (v := 30) dX8_goBy_71 (by decide) ?_
              refine bv_icmp_le (tgt := 78) dX8_goBy_73 (by decide) (fun cc => ?_) (fun cc => ?_)
              · replace h := bu_t h cc
                refine bv_aload_n dX8_goBy_78 0 rfl ?_
                refine bz_getA (a := 34) hN okL_33 (hR _ _ _ r0_33_1) dX8_goBy_79 fl_8_9 rfl ?_
                refine bv_iload_n dX8_goBy_82 1 rfl ?_
                refine bv_iload_n dX8_goBy_83 3 rfl ?_
                refine bz_iast hN rkL_34 r1 rfl dX8_goBy_84 ?_
                refine bv_aload_n dX8_goBy_85 0 rfl ?_
                refine bz_getA (a := 35) hN okL_33 (hR _ _ _ r0_33_2) dX8_goBy_86 fl_8_15 rfl ?_
                refine bv_iload_n dX8_goBy_89 1 rfl ?_
                refine bv_iload dX8_goBy_90 4 rfl ?_
                refine bz_iast hN rkL_35 r1 rfl dX8_goBy_92 ?_
                refine bv_iconst (v := 0) dX8_goBy_93 (by decide) ?_
                obtain rfl := Option.some.inj h
                exact bv_iret (x := 0) dX8_goBy_94 rfl ⟨rfl, rfl⟩
              · replace h := bu_f h cc
                refine bv_iconst (v := 1) dX8_goBy_76 (by decide) ?_
                obtain rfl := Option.some.inj h
                exact bv_iret (x := 1) dX8_goBy_77 rfl ⟨rfl, rfl⟩
  · replace h := bu_t h cc
    refine bv_iconst (v := 1) dX8_goBy_10 (by decide) ?_
    refine bv_goto (tgt := 24) dX8_goBy_11 (by decide) ?_
    refine bv_iadd dX8_goBy_24 ?_
    refine bv_istore_n (ls1 := [(0, .ref 33), (1, .int x1), (2, .int x2), (3, .int ((I 34 x1.toNatClampNeg) + 1))]) dX8_goBy_25 (by decide) rfl rfl ?_
    refine bv_aload_n dX8_goBy_26 0 rfl ?_
    refine bz_getA (a := 35) hN okL_33 (hR _ _ _ r0_33_2) dX8_goBy_27 fl_8_15 rfl ?_
    refine bv_iload_n dX8_goBy_30 1 rfl ?_
    refine bz_iald hN rkL_35 r1 rfl dX8_goBy_31 ?_
    refine bv_iload_n dX8_goBy_32 2 rfl ?_
    refine bv_iconst (v := 1) dX8_goBy_33 (by decide) ?_
    refine bv_icmp_ne (tgt := 41) dX8_goBy_34 (by decide) (fun cc => ?_) (fun cc => ?_)
    · replace h := bu_f h cc
      refine bv_iload_n dX8_goBy_41 2 rfl ?_
      refine bv_iconst (v := 3) dX8_goBy_42 (by decide) ?_
      refine bv_icmp_ne (tgt := 50) dX8_goBy_43 (by decide) (fun cc => ?_) (fun cc => ?_)
      · replace h := bu_f h cc
        refine bv_iconst (v := 0) dX8_goBy_50 (by decide) ?_
        refine bv_iadd dX8_goBy_51 ?_
        refine bv_istore (ls1 := [(0, .ref 33), (1, .int x1), (2, .int x2), (3, .int ((I 34 x1.toNatClampNeg) + 1)), (4, .int ((I 35 x1.toNatClampNeg) + 0))]) dX8_goBy_52 (by decide) rfl rfl ?_
        refine bv_iload_n dX8_goBy_54 3 rfl ?_
        refine bv_if_lt (tgt := 76) dX8_goBy_55 (by decide) (fun cc => ?_) (fun cc => ?_)
        · replace h := bu_t h cc
          refine bv_iconst (v := 1) dX8_goBy_76 (by decide) ?_
          obtain rfl := Option.some.inj h
          exact bv_iret (x := 1) dX8_goBy_77 rfl ⟨rfl, rfl⟩
        · replace h := bu_f h cc
          refine bv_iload_n dX8_goBy_58 3 rfl ?_
          refine bv_bipush (v := 30) dX8_goBy_59 (by decide) ?_
          refine bv_icmp_gt (tgt := 76) dX8_goBy_61 (by decide) (fun cc => ?_) (fun cc => ?_)
          · replace h := bu_t h cc
            refine bv_iconst (v := 1) dX8_goBy_76 (by decide) ?_
            obtain rfl := Option.some.inj h
            exact bv_iret (x := 1) dX8_goBy_77 rfl ⟨rfl, rfl⟩
          · replace h := bu_f h cc
            refine bv_iload dX8_goBy_64 4 rfl ?_
            refine bv_if_lt (tgt := 76) dX8_goBy_66 (by decide) (fun cc => ?_) (fun cc => ?_)
            · replace h := bu_t h cc
              refine bv_iconst (v := 1) dX8_goBy_76 (by decide) ?_
              obtain rfl := Option.some.inj h
              exact bv_iret (x := 1) dX8_goBy_77 rfl ⟨rfl, rfl⟩
            · replace h := bu_f h cc
              refine bv_iload dX8_goBy_69 4 rfl ?_
              refine bv_bipush (v := 30) dX8_goBy_71 (by decide) ?_
              refine bv_icmp_le (tgt := 78) dX8_goBy_73 (by decide) (fun cc => ?_) (fun cc => ?_)
              · replace h := bu_t h cc
                refine bv_aload_n dX8_goBy_78 0 rfl ?_
                refine bz_getA (a := 34) hN okL_33 (hR _ _ _ r0_33_1) dX8_goBy_79 fl_8_9 rfl ?_
                refine bv_iload_n dX8_goBy_82 1 rfl ?_
                refine bv_iload_n dX8_goBy_83 3 rfl ?_
                refine bz_iast hN rkL_34 r1 rfl dX8_goBy_84 ?_
                refine bv_aload_n dX8_goBy_85 0 rfl ?_
                refine bz_getA (a := 35) hN okL_33 (hR _ _ _ r0_33_2) dX8_goBy_86 fl_8_15 rfl ?_
                refine bv_iload_n dX8_goBy_89 1 rfl ?_
                refine bv_iload dX8_goBy_90 4 rfl ?_
                refine bz_iast hN rkL_35 r1 rfl dX8_goBy_92 ?_
                refine bv_iconst (v := 0) dX8_goBy_93 (by decide) ?_
                obtain rfl := Option.some.inj h
                exact bv_iret (x := 0) dX8_goBy_94 rfl ⟨rfl, rfl⟩
              · replace h := bu_f h cc
                refine bv_iconst (v := 1) dX8_goBy_76 (by decide) ?_
                obtain rfl := Option.some.inj h
                exact bv_iret (x := 1) dX8_goBy_77 rfl ⟨rfl, rfl⟩
      · replace h := bu_t h cc
        refine bv_iconst (v := (-1)) dX8_goBy_46 (by decide) ?_
        refine bv_goto (tgt := 51) dX8_goBy_47 (by decide) ?_
        refine bv_iadd dX8_goBy_51 ?_
        refine bv_istore (ls1 := [(0, .ref 33), (1, .int x1), (2, .int x2), (3, .int ((I 34 x1.toNatClampNeg) + 1)), (4, .int ((I 35 x1.toNatClampNeg) + (-1)))]) dX8_goBy_52 (by decide) rfl rfl ?_
        refine bv_iload_n dX8_goBy_54 3 rfl ?_
        refine bv_if_lt (tgt := 76) dX8_goBy_55 (by decide) (fun cc => ?_) (fun cc => ?_)
        · replace h := bu_t h cc
          refine bv_iconst (v := 1) dX8_goBy_76 (by decide) ?_
          obtain rfl := Option.some.inj h
          exact bv_iret (x := 1) dX8_goBy_77 rfl ⟨rfl, rfl⟩
        · replace h := bu_f h cc
          refine bv_iload_n dX8_goBy_58 3 rfl ?_
          refine bv_bipush (v := 30) dX8_goBy_59 (by decide) ?_
          refine bv_icmp_gt (tgt := 76) dX8_goBy_61 (by decide) (fun cc => ?_) (fun cc => ?_)
          · replace h := bu_t h cc
            refine bv_iconst (v := 1) dX8_goBy_76 (by decide) ?_
            obtain rfl := Option.some.inj h
            exact bv_iret (x := 1) dX8_goBy_77 rfl ⟨rfl, rfl⟩
          · replace h := bu_f h cc
            refine bv_iload dX8_goBy_64 4 rfl ?_
            refine bv_if_lt (tgt := 76) dX8_goBy_66 (by decide) (fun cc => ?_) (fun cc => ?_)
            · replace h := bu_t h cc
              refine bv_iconst (v := 1) dX8_goBy_76 (by decide) ?_
              obtain rfl := Option.some.inj h
              exact bv_iret (x := 1) dX8_goBy_77 rfl ⟨rfl, rfl⟩
            · replace h := bu_f h cc
              refine bv_iload dX8_goBy_69 4 rfl ?_
              refine bv_bipush (v := 30) dX8_goBy_71 (by decide) ?_
              refine bv_icmp_le (tgt := 78) dX8_goBy_73 (by decide) (fun cc => ?_) (fun cc => ?_)
              · replace h := bu_t h cc
                refine bv_aload_n dX8_goBy_78 0 rfl ?_
                refine bz_getA (a := 34) hN okL_33 (hR _ _ _ r0_33_1) dX8_goBy_79 fl_8_9 rfl ?_
                refine bv_iload_n dX8_goBy_82 1 rfl ?_
                refine bv_iload_n dX8_goBy_83 3 rfl ?_
                refine bz_iast hN rkL_34 r1 rfl dX8_goBy_84 ?_
                refine bv_aload_n dX8_goBy_85 0 rfl ?_
                refine bz_getA (a := 35) hN okL_33 (hR _ _ _ r0_33_2) dX8_goBy_86 fl_8_15 rfl ?_
                refine bv_iload_n dX8_goBy_89 1 rfl ?_
                refine bv_iload dX8_goBy_90 4 rfl ?_
                refine bz_iast hN rkL_35 r1 rfl dX8_goBy_92 ?_
                refine bv_iconst (v := 0) dX8_goBy_93 (by decide) ?_
                obtain rfl := Option.some.inj h
                exact bv_iret (x := 0) dX8_goBy_94 rfl ⟨rfl, rfl⟩
              · replace h := bu_f h cc
                refine bv_iconst (v := 1) dX8_goBy_76 (by decide) ?_
                obtain rfl := Option.some.inj h
                exact bv_iret (x := 1) dX8_goBy_77 rfl ⟨rfl, rfl⟩
    · replace h := bu_t h cc
      refine bv_iconst (v := 1) dX8_goBy_37 (by decide) ?_
      refine bv_goto (tgt := 51) dX8_goBy_38 (by decide) ?_
      refine bv_iadd dX8_goBy_51 ?_
      refine bv_istore (ls1 := [(0, .ref 33), (1, .int x1), (2, .int x2), (3, .int ((I 34 x1.toNatClampNeg) + 1)), (4, .int ((I 35 x1.toNatClampNeg) + 1))]) dX8_goBy_52 (by decide) rfl rfl ?_
      refine bv_iload_n dX8_goBy_54 3 rfl ?_
      refine bv_if_lt (tgt := 76) dX8_goBy_55 (by decide) (fun cc => ?_) (fun cc => ?_)
      · replace h := bu_t h cc
        refine bv_iconst (v := 1) dX8_goBy_76 (by decide) ?_
        obtain rfl := Option.some.inj h
        exact bv_iret (x := 1) dX8_goBy_77 rfl ⟨rfl, rfl⟩
      · replace h := bu_f h cc
        refine bv_iload_n dX8_goBy_58 3 rfl ?_
        refine bv_bipush (v := 30) dX8_goBy_59 (by decide) ?_
        refine bv_icmp_gt (tgt := 76) dX8_goBy_61 (by decide) (fun cc => ?_) (fun cc => ?_)
        · replace h := bu_t h cc
          refine bv_iconst (v := 1) dX8_goBy_76 (by decide) ?_
          obtain rfl := Option.some.inj h
          exact bv_iret (x := 1) dX8_goBy_77 rfl ⟨rfl, rfl⟩
        · replace h := bu_f h cc
          refine bv_iload dX8_goBy_64 4 rfl ?_
          refine bv_if_lt (tgt := 76) dX8_goBy_66 (by decide) (fun cc => ?_) (fun cc => ?_)
          · replace h := bu_t h cc
            refine bv_iconst (v := 1) dX8_goBy_76 (by decide) ?_
            obtain rfl := Option.some.inj h
            exact bv_iret (x := 1) dX8_goBy_77 rfl ⟨rfl, rfl⟩
          · replace h := bu_f h cc
            refine bv_iload dX8_goBy_69 4 rfl ?_
            refine bv_bipush (v := 30) dX8_goBy_71 (by decide) ?_
            refine bv_icmp_le (tgt := 78) dX8_goBy_73 (by decide) (fun cc => ?_) (fun cc => ?_)
            · replace h := bu_t h cc
              refine bv_aload_n dX8_goBy_78 0 rfl ?_
              refine bz_getA (a := 34) hN okL_33 (hR _ _ _ r0_33_1) dX8_goBy_79 fl_8_9 rfl ?_
              refine bv_iload_n dX8_goBy_82 1 rfl ?_
              refine bv_iload_n dX8_goBy_83 3 rfl ?_
              refine bz_iast hN rkL_34 r1 rfl dX8_goBy_84 ?_
              refine bv_aload_n dX8_goBy_85 0 rfl ?_
              refine bz_getA (a := 35) hN okL_33 (hR _ _ _ r0_33_2) dX8_goBy_86 fl_8_15 rfl ?_
              refine bv_iload_n dX8_goBy_89 1 rfl ?_
              refine bv_iload dX8_goBy_90 4 rfl ?_
              refine bz_iast hN rkL_35 r1 rfl dX8_goBy_92 ?_
              refine bv_iconst (v := 0) dX8_goBy_93 (by decide) ?_
              obtain rfl := Option.some.inj h
              exact bv_iret (x := 0) dX8_goBy_94 rfl ⟨rfl, rfl⟩
            · replace h := bu_f h cc
              refine bv_iconst (v := 1) dX8_goBy_76 (by decide) ?_
              obtain rfl := Option.some.inj h
              exact bv_iret (x := 1) dX8_goBy_77 rfl ⟨rfl, rfl⟩
def f_X8_passHours_l49 (x2 : Int32) (x3 : Int32) (x4 : Int32) : Nat → Int32 → bm_TI → Option (bm_TI)
  | 0, _, _ => none
  | k + 1, x5, I => (if (I 4 10) ≤ x5 then some I else (if (f_X11_bit x4 x5) = 1 then (if bm_ix 8 x5 = true then (if (I 39 x5.toNatClampNeg) = (-1) then f_X8_passHours_l49 x2 x3 x4 k (x5 + 1) I else ((f_X8_giveBy I x5 (I 39 x5.toNatClampNeg)).bind fun v2 => f_X8_passHours_l49 x2 x3 x4 k (x5 + 1) v2.2)) else none) else f_X8_passHours_l49 x2 x3 x4 k (x5 + 1) I))
set_option maxHeartbeats 4000000 in
set_option maxRecDepth 100000 in
theorem v_X8_passHours_l49 {lc : bm_L} {d n : Nat} {Q : Option Value → bm_M → Prop} {R : bm_TR} {J : bm_TJ} {W : bm_TR} {x2 : Int32} {x3 : Int32} {x4 : Int32} (hN : 181 ≤ n) (hR : bm_RR R) : ∀ (k : Nat) (x5 : Int32) (I : bm_TI) (r : bm_TI), f_X8_passHours_l49 x2 x3 x4 k x5 I = some r → (∀ yy, yy = r → bm_V lc m_X8_passHours (d + 4) n n n 103 [(0, .ref 33), (2, .int x2), (3, .int x3)] [] (yy, J, R, W) Q) → bm_V lc m_X8_passHours (d + 4) n n n 49 [(0, .ref 33), (2, .int x2), (3, .int x3), (4, .int x4), (5, .int x5)] [] (I, J, R, W) Q := by
  intro k
  induction k with
  | zero => intro x5 I r h; cases (show (none : Option (bm_TI)) = some r from h)
  | succ k ih =>
    intro x5 I r h K0
    unfold f_X8_passHours_l49 at h
    refine bv_iload dX8_passHours_49 4 rfl ?_
    refine bv_aload_n dX8_passHours_51 0 rfl ?_
    refine bz_getA (a := 4) hN okL_33 (hR _ _ _ r0_33_0) dX8_passHours_52 fl_8_30 rfl ?_
    refine bz_getI hN okL_4 dX8_passHours_55 fl_8_34 rfl ?_
    refine bv_icmp_ge (tgt := 103) dX8_passHours_58 (by decide) (fun cc => ?_) (fun cc => ?_)
    · replace h := bu_t h cc
      refine bw_ls (ls1 := [(0, .ref 33), (2, .int x2), (3, .int x3)]) [0, 1, 2] rfl ?_
      obtain rfl := Option.some.inj h
      exact K0 _ rfl
    · replace h := bu_f h cc
      refine bv_iload dX8_passHours_61 3 rfl ?_
      refine bv_iload dX8_passHours_63 4 rfl ?_
      refine bw_callSN (As := [.int x4, .int x5]) dX8_passHours_65 mc_8_70 (c_X11_bit (d := d + 3) hN hR rfl) rfl rfl (by decide) ?_
      refine bv_iconst (v := 1) dX8_passHours_68 (by decide) ?_
      refine bv_icmp_ne (tgt := 97) dX8_passHours_69 (by decide) (fun cc => ?_) (fun cc => ?_)
      · replace h := bu_f h cc
        refine bv_iinc (j := 4) (v := (x5 + 1)) (ls1 := [(0, .ref 33), (2, .int x2), (3, .int x3), (4, .int x4), (5, .int (x5 + 1))]) dX8_passHours_97 rfl rfl (by decide) rfl rfl ?_
        refine bv_goto (tgt := 49) dX8_passHours_100 (by decide) ?_
        exact ih _ _ _ h K0
      · replace h := bu_t h cc
        refine bv_aload_n dX8_passHours_72 0 rfl ?_
        refine bz_getA (a := 39) hN okL_33 (hR _ _ _ r0_33_6) dX8_passHours_73 fl_8_27 rfl ?_
        refine bv_iload dX8_passHours_76 4 rfl ?_
        obtain ⟨r1, h⟩ := bu_ix h
        refine bz_iald hN rkL_39 r1 rfl dX8_passHours_78 ?_
        refine bv_iconst (v := (-1)) dX8_passHours_79 (by decide) ?_
        refine bv_icmp_eq (tgt := 97) dX8_passHours_80 (by decide) (fun cc => ?_) (fun cc => ?_)
        · replace h := bu_t h cc
          refine bv_iinc (j := 4) (v := (x5 + 1)) (ls1 := [(0, .ref 33), (2, .int x2), (3, .int x3), (4, .int x4), (5, .int (x5 + 1))]) dX8_passHours_97 rfl rfl (by decide) rfl rfl ?_
          refine bv_goto (tgt := 49) dX8_passHours_100 (by decide) ?_
          exact ih _ _ _ h K0
        · replace h := bu_f h cc
          refine bv_aload_n dX8_passHours_83 0 rfl ?_
          refine bv_iload dX8_passHours_84 4 rfl ?_
          refine bv_aload_n dX8_passHours_86 0 rfl ?_
          refine bz_getA (a := 39) hN okL_33 (hR _ _ _ r0_33_6) dX8_passHours_87 fl_8_27 rfl ?_
          refine bv_iload dX8_passHours_90 4 rfl ?_
          refine bz_iald hN rkL_39 r1 rfl dX8_passHours_92 ?_
          obtain ⟨v2, p3, h⟩ := bu_bd h
          refine bw_callV (As := [.int x5, .int (I 39 x5.toNatClampNeg)]) hN okL_33 ⟨_, _, rfl⟩ dX8_passHours_93 mc_8_115 (c_X8_giveBy (d := d + 0) hN hR p3) rfl rfl (by decide) ?_
          refine bv_pop dX8_passHours_96 rfl ?_
          refine bv_iinc (j := 4) (v := (x5 + 1)) (ls1 := [(0, .ref 33), (2, .int x2), (3, .int x3), (4, .int x4), (5, .int (x5 + 1))]) dX8_passHours_97 rfl rfl (by decide) rfl rfl ?_
          refine bv_goto (tgt := 49) dX8_passHours_100 (by decide) ?_
          exact ih _ _ _ h K0
def f_X8_passHours_l15 (x2 : Int32) : Nat → Int32 → bm_TI → Option (bm_TI)
  | 0, _, _ => none
  | k + 1, x3, I => (if x2 ≤ x3 then some I else ((f_X8_passHours_l49 x2 x3 (I 33 9) 1000 0 (bm_uI (bm_yI I 37 39 0 0 8) 33 9 0)).bind fun y3 => (if ((bm_uI y3 33 10 ((y3 33 10) + 1)) 4 16) ≤ 0 then f_X8_passHours_l15 x2 k (x3 + 1) (bm_uI y3 33 10 ((y3 33 10) + 1)) else (if ¬ ((bm_uI y3 33 10 ((y3 33 10) + 1)) 4 16) = 0 then (if (bm_rem ((bm_uI y3 33 10 ((y3 33 10) + 1)) 33 10) ((bm_uI y3 33 10 ((y3 33 10) + 1)) 4 16)) = 0 then f_X8_passHours_l15 x2 k (x3 + 1) (bm_uI (bm_uI y3 33 10 ((y3 33 10) + 1)) 33 8 0) else f_X8_passHours_l15 x2 k (x3 + 1) (bm_uI y3 33 10 ((y3 33 10) + 1))) else none))))
set_option maxHeartbeats 4000000 in
set_option maxRecDepth 100000 in
theorem v_X8_passHours_l15 {lc : bm_L} {d n : Nat} {Q : Option Value → bm_M → Prop} {R : bm_TR} {J : bm_TJ} {W : bm_TR} {x2 : Int32} (hN : 181 ≤ n) (hR : bm_RR R) : ∀ (k : Nat) (x3 : Int32) (I : bm_TI) (r : bm_TI), f_X8_passHours_l15 x2 k x3 I = some r → (∀ yy, yy = r → bm_V lc m_X8_passHours (d + 4) n n n 149 [(2, .int x2)] [] (yy, J, R, W) Q) → bm_V lc m_X8_passHours (d + 4) n n n 15 [(0, .ref 33), (2, .int x2), (3, .int x3)] [] (I, J, R, W) Q := by
  intro k
  induction k with
  | zero => intro x3 I r h; cases (show (none : Option (bm_TI)) = some r from h)
  | succ k ih =>
    intro x3 I r h K0
    unfold f_X8_passHours_l15 at h
    refine bv_iload_n dX8_passHours_15 2 rfl ?_
    refine bv_iload_n dX8_passHours_16 1 rfl ?_
    refine bv_icmp_ge (tgt := 149) dX8_passHours_17 (by decide) (fun cc => ?_) (fun cc => ?_)
    · replace h := bu_t h cc
      refine bw_ls (ls1 := [(2, .int x2)]) [1] rfl ?_
      obtain rfl := Option.some.inj h
      exact K0 _ rfl
    · replace h := bu_f h cc
      refine bv_aload_n dX8_passHours_20 0 rfl ?_
      refine bz_getI hN okL_33 dX8_passHours_21 fl_8_52 rfl ?_
      refine bv_istore (ls1 := [(0, .ref 33), (2, .int x2), (3, .int x3), (4, .int (I 33 9))]) dX8_passHours_24 (by decide) rfl rfl ?_
      refine bv_aload_n dX8_passHours_26 0 rfl ?_
      refine bz_getA (a := 37) hN okL_33 (hR _ _ _ r0_33_4) dX8_passHours_27 fl_8_21 rfl ?_
      refine bv_iconst (v := 0) dX8_passHours_30 (by decide) ?_
      refine bv_aload_n dX8_passHours_31 0 rfl ?_
      refine bz_getA (a := 39) hN okL_33 (hR _ _ _ r0_33_6) dX8_passHours_32 fl_8_27 rfl ?_
      refine bv_iconst (v := 0) dX8_passHours_35 (by decide) ?_
      refine bv_bipush (v := 8) dX8_passHours_36 (by decide) ?_
      refine bz_copyI (sj := 0) (dj := 0) (zj := 8) hN rkL_37 rkL_39 (by decide) (by decide) (by decide) (by decide) (by decide) (by decide) (by decide) (by decide) dX8_passHours_38 mw_8_61 (by decide) ?_
      refine bv_aload_n dX8_passHours_41 0 rfl ?_
      refine bv_iconst (v := 0) dX8_passHours_42 (by decide) ?_
      refine bz_putI hN okL_33 dX8_passHours_43 fl_8_52 rfl ?_
      refine bv_iconst (v := 0) dX8_passHours_46 (by decide) ?_
      refine bv_istore (ls1 := [(0, .ref 33), (2, .int x2), (3, .int x3), (4, .int (I 33 9)), (5, .int 0)]) dX8_passHours_47 (by decide) rfl rfl ?_
      obtain ⟨r1, p2, h⟩ := bu_bd h
      refine v_X8_passHours_l49 hN hR 1000 _ _ _ p2 (fun y3 hy => ?_)
      · subst hy
        refine bv_aload_n dX8_passHours_103 0 rfl ?_
        refine bv_dup dX8_passHours_104 rfl ?_
        refine bz_getI hN okL_33 dX8_passHours_105 fl_8_55 rfl ?_
        refine bv_iconst (v := 1) dX8_passHours_108 (by decide) ?_
        refine bv_iadd dX8_passHours_109 ?_
        refine bz_putI hN okL_33 dX8_passHours_110 fl_8_55 rfl ?_
        refine bv_aload_n dX8_passHours_113 0 rfl ?_
        refine bz_getA (a := 4) hN okL_33 (hR _ _ _ r0_33_0) dX8_passHours_114 fl_8_30 rfl ?_
        refine bz_getI hN okL_4 dX8_passHours_117 fl_8_152 rfl ?_
        refine bv_if_le (tgt := 143) dX8_passHours_120 (by decide) (fun cc => ?_) (fun cc => ?_)
        · replace h := bu_t h cc
          refine bv_iinc (j := 2) (v := (x3 + 1)) (ls1 := [(0, .ref 33), (2, .int x2), (3, .int (x3 + 1))]) dX8_passHours_143 rfl rfl (by decide) rfl rfl ?_
          refine bv_goto (tgt := 15) dX8_passHours_146 (by decide) ?_
          exact ih _ _ _ h K0
        · replace h := bu_f h cc
          refine bv_aload_n dX8_passHours_123 0 rfl ?_
          refine bz_getI hN okL_33 dX8_passHours_124 fl_8_55 rfl ?_
          refine bv_aload_n dX8_passHours_127 0 rfl ?_
          refine bz_getA (a := 4) hN okL_33 (hR _ _ _ r0_33_0) dX8_passHours_128 fl_8_30 rfl ?_
          refine bz_getI hN okL_4 dX8_passHours_131 fl_8_152 rfl ?_
          obtain ⟨z4, h⟩ := bu_gp h
          refine bv_irem dX8_passHours_134 z4 ?_
          refine bv_if_ne (tgt := 143) dX8_passHours_135 (by decide) (fun cc => ?_) (fun cc => ?_)
          · replace h := bu_f h cc
            refine bv_iinc (j := 2) (v := (x3 + 1)) (ls1 := [(0, .ref 33), (2, .int x2), (3, .int (x3 + 1))]) dX8_passHours_143 rfl rfl (by decide) rfl rfl ?_
            refine bv_goto (tgt := 15) dX8_passHours_146 (by decide) ?_
            exact ih _ _ _ h K0
          · replace h := bu_t h cc
            refine bv_aload_n dX8_passHours_138 0 rfl ?_
            refine bv_iconst (v := 0) dX8_passHours_139 (by decide) ?_
            refine bz_putI hN okL_33 dX8_passHours_140 fl_8_49 rfl ?_
            refine bv_iinc (j := 2) (v := (x3 + 1)) (ls1 := [(0, .ref 33), (2, .int x2), (3, .int (x3 + 1))]) dX8_passHours_143 rfl rfl (by decide) rfl rfl ?_
            refine bv_goto (tgt := 15) dX8_passHours_146 (by decide) ?_
            exact ih _ _ _ h K0
def f_X8_passHours (I : bm_TI) (x1 : Int32) : Option (Int32 × bm_TI) := ((f_X8_passHours_l15 (bm_min x1 (400 - (I 33 10))) 1000 0 I).bind fun y3 => some ((bm_min x1 (400 - (I 33 10))), y3))
set_option maxHeartbeats 4000000 in
set_option maxRecDepth 100000 in
theorem c_X8_passHours {lc : bm_L} {d n : Nat} {I : bm_TI} {J : bm_TJ} {R W : bm_TR} {x1 : Int32} {v : Int32 × bm_TI} (hN : 181 ≤ n) (hR : bm_RR R) (h : f_X8_passHours I x1 = some v) : bm_C lc m_X8_passHours (d + 4) n n [.ref 33, .int x1] (I, J, R, W) (fun r M' => r = some (.int v.1) ∧ M' = (v.2, J, R, W)) := by
  refine bm_C.ofV (by decide) (Nat.le_of_ble_eq_true rfl) ?_
  show bm_V lc m_X8_passHours (d + 4) n n n 0 [(0, .ref 33), (1, .int x1)] [] (I, J, R, W) _
  unfold f_X8_passHours at h
  refine bv_iload_n dX8_passHours_0 1 rfl ?_
  refine bv_sipush (v := 400) dX8_passHours_1 (by decide) ?_
  refine bv_aload_n dX8_passHours_4 0 rfl ?_
  refine bz_getI hN okL_33 dX8_passHours_5 fl_8_55 rfl ?_
  refine bv_isub dX8_passHours_8 ?_
  refine bv_mmin dX8_passHours_9 mw_8_74 (by decide) (Nat.le_refl n) ?_
  refine bv_istore_n (ls1 := [(0, .ref 33), (1, .int x1), (2, .int (bm_min x1 (400 - (I 33 10))))]) dX8_passHours_12 (by decide) rfl rfl ?_
  refine bv_iconst (v := 0) dX8_passHours_13 (by decide) ?_
  refine bv_istore_n (ls1 := [(0, .ref 33), (1, .int x1), (2, .int (bm_min x1 (400 - (I 33 10)))), (3, .int 0)]) dX8_passHours_14 (by decide) rfl rfl ?_
  refine bw_ls (ls1 := [(0, .ref 33), (2, .int (bm_min x1 (400 - (I 33 10)))), (3, .int 0)]) [0, 2, 3] rfl ?_
  obtain ⟨r1, p2, h⟩ := bu_bd h
  refine v_X8_passHours_l15 hN hR 1000 _ _ _ p2 (fun y3 hy => ?_)
  · subst hy
    refine bv_iload_n dX8_passHours_149 0 rfl ?_
    obtain rfl := Option.some.inj h
    exact bv_iret (x := (bm_min x1 (400 - (I 33 10)))) dX8_passHours_150 rfl ⟨rfl, rfl⟩
def f_X8_sleepBy (I : bm_TI) (x1 : Int32) : Option (Int32 × bm_TI) := some ((f_X11_bit (I 33 7) x1), (bm_uI I 33 7 ((I 33 7) ||| (bm_ishl 1 x1))))
set_option maxHeartbeats 4000000 in
set_option maxRecDepth 100000 in
theorem c_X8_sleepBy {lc : bm_L} {d n : Nat} {I : bm_TI} {J : bm_TJ} {R W : bm_TR} {x1 : Int32} {v : Int32 × bm_TI} (hN : 181 ≤ n) (hR : bm_RR R) (h : f_X8_sleepBy I x1 = some v) : bm_C lc m_X8_sleepBy (d + 1) n n [.ref 33, .int x1] (I, J, R, W) (fun r M' => r = some (.int v.1) ∧ M' = (v.2, J, R, W)) := by
  refine bm_C.ofV (by decide) (Nat.le_of_ble_eq_true rfl) ?_
  show bm_V lc m_X8_sleepBy (d + 1) n n n 0 [(0, .ref 33), (1, .int x1)] [] (I, J, R, W) _
  unfold f_X8_sleepBy at h
  refine bv_aload_n dX8_sleepBy_0 0 rfl ?_
  refine bz_getI hN okL_33 dX8_sleepBy_1 fl_8_46 rfl ?_
  refine bv_iload_n dX8_sleepBy_4 1 rfl ?_
  refine bw_callSN (As := [.int (I 33 7), .int x1]) dX8_sleepBy_5 mc_8_70 (c_X11_bit (d := d + 0) hN hR rfl) rfl rfl (by decide) ?_
  refine bv_istore_n (ls1 := [(0, .ref 33), (1, .int x1), (2, .int (f_X11_bit (I 33 7) x1))]) dX8_sleepBy_8 (by decide) rfl rfl ?_
  refine bv_aload_n dX8_sleepBy_9 0 rfl ?_
  refine bv_dup dX8_sleepBy_10 rfl ?_
  refine bz_getI hN okL_33 dX8_sleepBy_11 fl_8_46 rfl ?_
  refine bv_iconst (v := 1) dX8_sleepBy_14 (by decide) ?_
  refine bv_iload_n dX8_sleepBy_15 1 rfl ?_
  refine bv_ishl dX8_sleepBy_16 ?_
  refine bv_ior dX8_sleepBy_17 ?_
  refine bz_putI hN okL_33 dX8_sleepBy_18 fl_8_46 rfl ?_
  refine bv_iload_n dX8_sleepBy_21 2 rfl ?_
  obtain rfl := Option.some.inj h
  exact bv_iret (x := (f_X11_bit (I 33 7) x1)) dX8_sleepBy_22 rfl ⟨rfl, rfl⟩
def f_X8_sootBy (I : bm_TI) (x1 : Int32) : Option (Int32 × bm_TI) := some ((f_X11_bit (I 33 8) x1), (bm_uI I 33 8 ((I 33 8) ||| (bm_ishl 1 x1))))
set_option maxHeartbeats 4000000 in
set_option maxRecDepth 100000 in
theorem c_X8_sootBy {lc : bm_L} {d n : Nat} {I : bm_TI} {J : bm_TJ} {R W : bm_TR} {x1 : Int32} {v : Int32 × bm_TI} (hN : 181 ≤ n) (hR : bm_RR R) (h : f_X8_sootBy I x1 = some v) : bm_C lc m_X8_sootBy (d + 1) n n [.ref 33, .int x1] (I, J, R, W) (fun r M' => r = some (.int v.1) ∧ M' = (v.2, J, R, W)) := by
  refine bm_C.ofV (by decide) (Nat.le_of_ble_eq_true rfl) ?_
  show bm_V lc m_X8_sootBy (d + 1) n n n 0 [(0, .ref 33), (1, .int x1)] [] (I, J, R, W) _
  unfold f_X8_sootBy at h
  refine bv_aload_n dX8_sootBy_0 0 rfl ?_
  refine bz_getI hN okL_33 dX8_sootBy_1 fl_8_49 rfl ?_
  refine bv_iload_n dX8_sootBy_4 1 rfl ?_
  refine bw_callSN (As := [.int (I 33 8), .int x1]) dX8_sootBy_5 mc_8_70 (c_X11_bit (d := d + 0) hN hR rfl) rfl rfl (by decide) ?_
  refine bv_istore_n (ls1 := [(0, .ref 33), (1, .int x1), (2, .int (f_X11_bit (I 33 8) x1))]) dX8_sootBy_8 (by decide) rfl rfl ?_
  refine bv_aload_n dX8_sootBy_9 0 rfl ?_
  refine bv_dup dX8_sootBy_10 rfl ?_
  refine bz_getI hN okL_33 dX8_sootBy_11 fl_8_49 rfl ?_
  refine bv_iconst (v := 1) dX8_sootBy_14 (by decide) ?_
  refine bv_iload_n dX8_sootBy_15 1 rfl ?_
  refine bv_ishl dX8_sootBy_16 ?_
  refine bv_ior dX8_sootBy_17 ?_
  refine bz_putI hN okL_33 dX8_sootBy_18 fl_8_49 rfl ?_
  refine bv_iload_n dX8_sootBy_21 2 rfl ?_
  obtain rfl := Option.some.inj h
  exact bv_iret (x := (f_X11_bit (I 33 8) x1)) dX8_sootBy_22 rfl ⟨rfl, rfl⟩
def f_X8_wakeBy (I : bm_TI) (x1 : Int32) : Option (Int32 × bm_TI) := some ((1 - (f_X11_bit (I 33 7) x1)), (bm_uI I 33 7 ((I 33 7) &&& ((bm_ishl 1 x1) ^^^ (-1)))))
set_option maxHeartbeats 4000000 in
set_option maxRecDepth 100000 in
theorem c_X8_wakeBy {lc : bm_L} {d n : Nat} {I : bm_TI} {J : bm_TJ} {R W : bm_TR} {x1 : Int32} {v : Int32 × bm_TI} (hN : 181 ≤ n) (hR : bm_RR R) (h : f_X8_wakeBy I x1 = some v) : bm_C lc m_X8_wakeBy (d + 1) n n [.ref 33, .int x1] (I, J, R, W) (fun r M' => r = some (.int v.1) ∧ M' = (v.2, J, R, W)) := by
  refine bm_C.ofV (by decide) (Nat.le_of_ble_eq_true rfl) ?_
  show bm_V lc m_X8_wakeBy (d + 1) n n n 0 [(0, .ref 33), (1, .int x1)] [] (I, J, R, W) _
  unfold f_X8_wakeBy at h
  refine bv_iconst (v := 1) dX8_wakeBy_0 (by decide) ?_
  refine bv_aload_n dX8_wakeBy_1 0 rfl ?_
  refine bz_getI hN okL_33 dX8_wakeBy_2 fl_8_46 rfl ?_
  refine bv_iload_n dX8_wakeBy_5 1 rfl ?_
  refine bw_callSN (As := [.int (I 33 7), .int x1]) dX8_wakeBy_6 mc_8_70 (c_X11_bit (d := d + 0) hN hR rfl) rfl rfl (Nat.le_of_ble_eq_true rfl) ?_
  refine bv_isub dX8_wakeBy_9 ?_
  refine bv_istore_n (ls1 := [(0, .ref 33), (1, .int x1), (2, .int (1 - (f_X11_bit (I 33 7) x1)))]) dX8_wakeBy_10 (by decide) rfl rfl ?_
  refine bv_aload_n dX8_wakeBy_11 0 rfl ?_
  refine bv_dup dX8_wakeBy_12 rfl ?_
  refine bz_getI hN okL_33 dX8_wakeBy_13 fl_8_46 rfl ?_
  refine bv_iconst (v := 1) dX8_wakeBy_16 (by decide) ?_
  refine bv_iload_n dX8_wakeBy_17 1 rfl ?_
  refine bv_ishl dX8_wakeBy_18 ?_
  refine bv_iconst (v := (-1)) dX8_wakeBy_19 (by decide) ?_
  refine bv_ixor dX8_wakeBy_20 ?_
  refine bv_iand dX8_wakeBy_21 ?_
  refine bz_putI hN okL_33 dX8_wakeBy_22 fl_8_46 rfl ?_
  refine bv_iload_n dX8_wakeBy_25 2 rfl ?_
  obtain rfl := Option.some.inj h
  exact bv_iret (x := (1 - (f_X11_bit (I 33 7) x1))) dX8_wakeBy_26 rfl ⟨rfl, rfl⟩
def f_X8_live (I : bm_TI) (x1 : Int32) (x2 : Int32) (x3 : Int32) : Option (Int32 × bm_TI) := (if x1 = 0 then ((f_X8_liftBy I x2 x3).bind fun v2 => some (v2.1, v2.2)) else (if x1 = 1 then ((f_X8_giveBy I x2 x3).bind fun v5 => some (v5.1, v5.2)) else (if x1 = 2 then ((f_X8_sleepBy I x2).bind fun v8 => some (v8.1, v8.2)) else (if x1 = 3 then ((f_X8_wakeBy I x2).bind fun v11 => some (v11.1, v11.2)) else (if x1 = 4 then ((f_X8_sootBy I x2).bind fun v14 => some (v14.1, v14.2)) else (if x1 = 5 then ((f_X8_goBy I x2 x3).bind fun v17 => some (v17.1, v17.2)) else (if x3 ≤ (400 - (I 33 10)) then ((f_X8_passHours I x3).bind fun v19 => some (0, v19.2)) else some (1, I))))))))
set_option maxHeartbeats 4000000 in
set_option maxRecDepth 100000 in
theorem c_X8_live {lc : bm_L} {d n : Nat} {I : bm_TI} {J : bm_TJ} {R W : bm_TR} {x1 : Int32} {x2 : Int32} {x3 : Int32} {v : Int32 × bm_TI} (hN : 181 ≤ n) (hR : bm_RR R) (h : f_X8_live I x1 x2 x3 = some v) : bm_C lc m_X8_live (d + 5) n n [.ref 33, .int x1, .int x2, .int x3] (I, J, R, W) (fun r M' => r = some (.int v.1) ∧ M' = (v.2, J, R, W)) := by
  refine bm_C.ofV (by decide) (Nat.le_of_ble_eq_true rfl) ?_
  show bm_V lc m_X8_live (d + 5) n n n 0 [(0, .ref 33), (1, .int x1), (2, .int x2), (3, .int x3)] [] (I, J, R, W) _
  unfold f_X8_live at h
  refine bv_iload_n dX8_live_0 1 rfl ?_
  by_cases c1 : x1 = 0
  · replace h := bu_t h c1
    refine bv_tableIn (tgt := 40) dX8_live_1 (by rw [c1]; decide) (by rw [c1]; decide) (by rw [c1]; rfl) (by decide) ?_
    refine bv_aload_n dX8_live_40 0 rfl ?_
    refine bv_iload_n dX8_live_41 2 rfl ?_
    refine bv_iload_n dX8_live_42 3 rfl ?_
    obtain ⟨v2, p3, h⟩ := bu_bd h
    refine bw_callV (As := [.int x2, .int x3]) hN okL_33 ⟨_, _, rfl⟩ dX8_live_43 mc_8_112 (c_X8_liftBy (d := d + 2) hN hR p3) rfl rfl (by decide) ?_
    obtain rfl := Option.some.inj h
    exact bv_iret (x := v2.1) dX8_live_46 rfl ⟨rfl, rfl⟩
  · replace h := bu_f h c1
    by_cases c4 : x1 = 1
    · replace h := bu_t h c4
      refine bv_tableIn (tgt := 47) dX8_live_1 (by rw [c4]; decide) (by rw [c4]; decide) (by rw [c4]; rfl) (by decide) ?_
      refine bv_aload_n dX8_live_47 0 rfl ?_
      refine bv_iload_n dX8_live_48 2 rfl ?_
      refine bv_iload_n dX8_live_49 3 rfl ?_
      obtain ⟨v5, p6, h⟩ := bu_bd h
      refine bw_callV (As := [.int x2, .int x3]) hN okL_33 ⟨_, _, rfl⟩ dX8_live_50 mc_8_115 (c_X8_giveBy (d := d + 1) hN hR p6) rfl rfl (by decide) ?_
      obtain rfl := Option.some.inj h
      exact bv_iret (x := v5.1) dX8_live_53 rfl ⟨rfl, rfl⟩
    · replace h := bu_f h c4
      by_cases c7 : x1 = 2
      · replace h := bu_t h c7
        refine bv_tableIn (tgt := 54) dX8_live_1 (by rw [c7]; decide) (by rw [c7]; decide) (by rw [c7]; rfl) (by decide) ?_
        refine bv_aload_n dX8_live_54 0 rfl ?_
        refine bv_iload_n dX8_live_55 2 rfl ?_
        obtain ⟨v8, p9, h⟩ := bu_bd h
        refine bw_callV (As := [.int x2]) hN okL_33 ⟨_, _, rfl⟩ dX8_live_56 mc_8_118 (c_X8_sleepBy (d := d + 3) hN hR p9) rfl rfl (by decide) ?_
        obtain rfl := Option.some.inj h
        exact bv_iret (x := v8.1) dX8_live_59 rfl ⟨rfl, rfl⟩
      · replace h := bu_f h c7
        by_cases c10 : x1 = 3
        · replace h := bu_t h c10
          refine bv_tableIn (tgt := 60) dX8_live_1 (by rw [c10]; decide) (by rw [c10]; decide) (by rw [c10]; rfl) (by decide) ?_
          refine bv_aload_n dX8_live_60 0 rfl ?_
          refine bv_iload_n dX8_live_61 2 rfl ?_
          obtain ⟨v11, p12, h⟩ := bu_bd h
          refine bw_callV (As := [.int x2]) hN okL_33 ⟨_, _, rfl⟩ dX8_live_62 mc_8_121 (c_X8_wakeBy (d := d + 3) hN hR p12) rfl rfl (by decide) ?_
          obtain rfl := Option.some.inj h
          exact bv_iret (x := v11.1) dX8_live_65 rfl ⟨rfl, rfl⟩
        · replace h := bu_f h c10
          by_cases c13 : x1 = 4
          · replace h := bu_t h c13
            refine bv_tableIn (tgt := 66) dX8_live_1 (by rw [c13]; decide) (by rw [c13]; decide) (by rw [c13]; rfl) (by decide) ?_
            refine bv_aload_n dX8_live_66 0 rfl ?_
            refine bv_iload_n dX8_live_67 2 rfl ?_
            obtain ⟨v14, p15, h⟩ := bu_bd h
            refine bw_callV (As := [.int x2]) hN okL_33 ⟨_, _, rfl⟩ dX8_live_68 mc_8_124 (c_X8_sootBy (d := d + 3) hN hR p15) rfl rfl (by decide) ?_
            obtain rfl := Option.some.inj h
            exact bv_iret (x := v14.1) dX8_live_71 rfl ⟨rfl, rfl⟩
          · replace h := bu_f h c13
            by_cases c16 : x1 = 5
            · replace h := bu_t h c16
              refine bv_tableIn (tgt := 72) dX8_live_1 (by rw [c16]; decide) (by rw [c16]; decide) (by rw [c16]; rfl) (by decide) ?_
              refine bv_aload_n dX8_live_72 0 rfl ?_
              refine bv_iload_n dX8_live_73 2 rfl ?_
              refine bv_iload_n dX8_live_74 3 rfl ?_
              obtain ⟨v17, p18, h⟩ := bu_bd h
              refine bw_callV (As := [.int x2, .int x3]) hN okL_33 ⟨_, _, rfl⟩ dX8_live_75 mc_8_127 (c_X8_goBy (d := d + 4) hN hR p18) rfl rfl (by decide) ?_
              obtain rfl := Option.some.inj h
              exact bv_iret (x := v17.1) dX8_live_78 rfl ⟨rfl, rfl⟩
            · replace h := bu_f h c16
              refine bv_tableOut (tgt := 79) dX8_live_1 (bm_sw (k := 6) (by decide) (fun j hj => by match j, hj with | 0, _ => exact c1 | 1, _ => exact c4 | 2, _ => exact c7 | 3, _ => exact c10 | 4, _ => exact c13 | 5, _ => exact c16)) (by decide) ?_
              refine bv_sipush (v := 400) dX8_live_79 (by decide) ?_
              refine bv_aload_n dX8_live_82 0 rfl ?_
              refine bz_getI hN okL_33 dX8_live_83 fl_8_55 rfl ?_
              refine bv_isub dX8_live_86 ?_
              refine bv_iload_n dX8_live_87 3 rfl ?_
              refine bv_icmp_ge (tgt := 93) dX8_live_88 (by decide) (fun cc => ?_) (fun cc => ?_)
              · replace h := bu_t h cc
                refine bv_aload_n dX8_live_93 0 rfl ?_
                refine bv_iload_n dX8_live_94 3 rfl ?_
                obtain ⟨v19, p20, h⟩ := bu_bd h
                refine bw_callV (As := [.int x3]) hN okL_33 ⟨_, _, rfl⟩ dX8_live_95 mc_8_130 (c_X8_passHours (d := d + 0) hN hR p20) rfl rfl (by decide) ?_
                refine bv_pop dX8_live_98 rfl ?_
                refine bv_iconst (v := 0) dX8_live_99 (by decide) ?_
                obtain rfl := Option.some.inj h
                exact bv_iret (x := 0) dX8_live_100 rfl ⟨rfl, rfl⟩
              · replace h := bu_f h cc
                refine bv_iconst (v := 1) dX8_live_91 (by decide) ?_
                obtain rfl := Option.some.inj h
                exact bv_iret (x := 1) dX8_live_92 rfl ⟨rfl, rfl⟩
def f_X8_draw (I : bm_TI) (x1 : Int32) : Option (Int32 × bm_TI) := (if x1 ≤ 0 then some (0, (bm_uI I 33 12 (((I 33 12) * 1103515245) + 12345))) else (if ¬ x1 = 0 then some ((bm_rem (bm_iushr ((bm_uI I 33 12 (((I 33 12) * 1103515245) + 12345)) 33 12) 8) x1), (bm_uI I 33 12 (((I 33 12) * 1103515245) + 12345))) else none))
set_option maxHeartbeats 4000000 in
set_option maxRecDepth 100000 in
theorem c_X8_draw {lc : bm_L} {d n : Nat} {I : bm_TI} {J : bm_TJ} {R W : bm_TR} {x1 : Int32} {v : Int32 × bm_TI} (hN : 181 ≤ n) (hR : bm_RR R) (h : f_X8_draw I x1 = some v) : bm_C lc m_X8_draw d n n [.ref 33, .int x1] (I, J, R, W) (fun r M' => r = some (.int v.1) ∧ M' = (v.2, J, R, W)) := by
  refine bm_C.ofV (by decide) (Nat.le_of_ble_eq_true rfl) ?_
  show bm_V lc m_X8_draw d n n n 0 [(0, .ref 33), (1, .int x1)] [] (I, J, R, W) _
  unfold f_X8_draw at h
  refine bv_aload_n dX8_draw_0 0 rfl ?_
  refine bv_aload_n dX8_draw_1 0 rfl ?_
  refine bz_getI hN okL_33 dX8_draw_2 fl_8_155 rfl ?_
  refine bv_ldc (v := 1103515245) dX8_draw_5 cst_8_171 ?_
  refine bv_imul dX8_draw_7 ?_
  refine bv_sipush (v := 12345) dX8_draw_8 (by decide) ?_
  refine bv_iadd dX8_draw_11 ?_
  refine bz_putI hN okL_33 dX8_draw_12 fl_8_155 rfl ?_
  refine bv_iload_n dX8_draw_15 1 rfl ?_
  refine bv_if_le (tgt := 31) dX8_draw_16 (by decide) (fun cc => ?_) (fun cc => ?_)
  · replace h := bu_t h cc
    refine bv_iconst (v := 0) dX8_draw_31 (by decide) ?_
    obtain rfl := Option.some.inj h
    exact bv_iret (x := 0) dX8_draw_32 rfl ⟨rfl, rfl⟩
  · replace h := bu_f h cc
    refine bv_aload_n dX8_draw_19 0 rfl ?_
    refine bz_getI hN okL_33 dX8_draw_20 fl_8_155 rfl ?_
    refine bv_bipush (v := 8) dX8_draw_23 (by decide) ?_
    refine bv_iushr dX8_draw_25 ?_
    refine bv_iload_n dX8_draw_26 1 rfl ?_
    obtain ⟨z1, h⟩ := bu_gp h
    refine bv_irem dX8_draw_27 z1 ?_
    refine bv_goto (tgt := 32) dX8_draw_28 (by decide) ?_
    obtain rfl := Option.some.inj h
    exact bv_iret (x := (bm_rem (bm_iushr ((bm_uI I 33 12 (((I 33 12) * 1103515245) + 12345)) 33 12) 8) x1)) dX8_draw_32 rfl ⟨rfl, rfl⟩
def f_X8_drawOrderFor (I : bm_TI) (x1 : Int32) : Option (bm_TI) := (if (I 4 13) ≤ 0 then some I else ((f_X8_draw I (I 4 13)).bind fun v1 => (if bm_ix 8 x1 = true then (if (v1.2 9 x1.toNatClampNeg) = (-1) then ((f_X8_giveBy v1.2 x1 v1.1).bind fun v4 => some v4.2) else some v1.2) else none)))
set_option maxHeartbeats 4000000 in
set_option maxRecDepth 100000 in
theorem c_X8_drawOrderFor {lc : bm_L} {d n : Nat} {I : bm_TI} {J : bm_TJ} {R W : bm_TR} {x1 : Int32} {v : bm_TI} (hN : 181 ≤ n) (hR : bm_RR R) (h : f_X8_drawOrderFor I x1 = some v) : bm_C lc m_X8_drawOrderFor (d + 4) n n [.ref 33, .int x1] (I, J, R, W) (fun r M' => r = none ∧ M' = (v, J, R, W)) := by
  refine bm_C.ofV (by decide) (Nat.le_of_ble_eq_true rfl) ?_
  show bm_V lc m_X8_drawOrderFor (d + 4) n n n 0 [(0, .ref 33), (1, .int x1)] [] (I, J, R, W) _
  unfold f_X8_drawOrderFor at h
  refine bv_aload_n dX8_drawOrderFor_0 0 rfl ?_
  refine bz_getA (a := 4) hN okL_33 (hR _ _ _ r0_33_0) dX8_drawOrderFor_1 fl_8_30 rfl ?_
  refine bz_getI hN okL_4 dX8_drawOrderFor_4 fl_8_168 rfl ?_
  refine bv_if_le (tgt := 42) dX8_drawOrderFor_7 (by decide) (fun cc => ?_) (fun cc => ?_)
  · replace h := bu_t h cc
    obtain rfl := Option.some.inj h
    exact bv_vret dX8_drawOrderFor_42 rfl ⟨rfl, rfl⟩
  · replace h := bu_f h cc
    refine bv_aload_n dX8_drawOrderFor_10 0 rfl ?_
    refine bv_aload_n dX8_drawOrderFor_11 0 rfl ?_
    refine bz_getA (a := 4) hN okL_33 (hR _ _ _ r0_33_0) dX8_drawOrderFor_12 fl_8_30 rfl ?_
    refine bz_getI hN okL_4 dX8_drawOrderFor_15 fl_8_168 rfl ?_
    obtain ⟨v1, p2, h⟩ := bu_bd h
    refine bw_callV (As := [.int (I 4 13)]) hN okL_33 ⟨_, _, rfl⟩ dX8_drawOrderFor_18 mc_8_162 (c_X8_draw (d := d + 3) hN hR p2) rfl rfl (by decide) ?_
    refine bv_istore_n (ls1 := [(0, .ref 33), (1, .int x1), (2, .int v1.1)]) dX8_drawOrderFor_21 (by decide) rfl rfl ?_
    refine bv_aload_n dX8_drawOrderFor_22 0 rfl ?_
    refine bz_getA (a := 4) hN okL_33 (hR _ _ _ r0_33_0) dX8_drawOrderFor_23 fl_8_30 rfl ?_
    refine bz_getA (a := 9) hN okL_4 (hR _ _ _ r0_4_4) dX8_drawOrderFor_26 fl_8_93 rfl ?_
    refine bv_iload_n dX8_drawOrderFor_29 1 rfl ?_
    obtain ⟨r3, h⟩ := bu_ix h
    refine bz_iald hN rkL_9 r3 rfl dX8_drawOrderFor_30 ?_
    refine bv_iconst (v := (-1)) dX8_drawOrderFor_31 (by decide) ?_
    refine bv_icmp_ne (tgt := 42) dX8_drawOrderFor_32 (by decide) (fun cc => ?_) (fun cc => ?_)
    · replace h := bu_f h cc
      obtain rfl := Option.some.inj h
      exact bv_vret dX8_drawOrderFor_42 rfl ⟨rfl, rfl⟩
    · replace h := bu_t h cc
      refine bv_aload_n dX8_drawOrderFor_35 0 rfl ?_
      refine bv_iload_n dX8_drawOrderFor_36 1 rfl ?_
      refine bv_iload_n dX8_drawOrderFor_37 2 rfl ?_
      obtain ⟨v4, p5, h⟩ := bu_bd h
      refine bw_callV (As := [.int x1, .int v1.1]) hN okL_33 ⟨_, _, rfl⟩ dX8_drawOrderFor_38 mc_8_115 (c_X8_giveBy (d := d + 0) hN hR p5) rfl rfl (by decide) ?_
      refine bv_pop dX8_drawOrderFor_41 rfl ?_
      obtain rfl := Option.some.inj h
      exact bv_vret dX8_drawOrderFor_42 rfl ⟨rfl, rfl⟩
def f_X8_drawFor (I : bm_TI) (x1 : Int32) : Option (bm_TI) := ((f_X8_draw I 8).bind fun v1 => (if v1.1 = 0 then ((f_X8_draw v1.2 3).bind fun v4 => ((f_X8_liftBy v4.2 x1 (v4.1 + 1)).bind fun v6 => some v6.2)) else (if v1.1 = 1 then some (bm_uI v1.2 33 7 ((v1.2 33 7) ^^^ (bm_ishl 1 x1))) else (if v1.1 = 2 then ((f_X8_draw v1.2 4).bind fun v10 => ((f_X8_goBy v10.2 x1 v10.1).bind fun v12 => some v12.2)) else (if v1.1 = 3 then ((f_X8_drawOrderFor v1.2 x1).bind fun v15 => some v15) else some v1.2)))))
set_option maxHeartbeats 4000000 in
set_option maxRecDepth 100000 in
theorem c_X8_drawFor {lc : bm_L} {d n : Nat} {I : bm_TI} {J : bm_TJ} {R W : bm_TR} {x1 : Int32} {v : bm_TI} (hN : 181 ≤ n) (hR : bm_RR R) (h : f_X8_drawFor I x1 = some v) : bm_C lc m_X8_drawFor (d + 5) n n [.ref 33, .int x1] (I, J, R, W) (fun r M' => r = none ∧ M' = (v, J, R, W)) := by
  refine bm_C.ofV (by decide) (Nat.le_of_ble_eq_true rfl) ?_
  show bm_V lc m_X8_drawFor (d + 5) n n n 0 [(0, .ref 33), (1, .int x1)] [] (I, J, R, W) _
  unfold f_X8_drawFor at h
  refine bv_aload_n dX8_drawFor_0 0 rfl ?_
  refine bv_bipush (v := 8) dX8_drawFor_1 (by decide) ?_
  obtain ⟨v1, p2, h⟩ := bu_bd h
  refine bw_callV (As := [.int 8]) hN okL_33 ⟨_, _, rfl⟩ dX8_drawFor_3 mc_8_162 (c_X8_draw (d := d + 4) hN hR p2) rfl rfl (by decide) ?_
  by_cases c3 : v1.1 = 0
  · replace h := bu_t h c3
    refine bv_tableIn (tgt := 36) dX8_drawFor_6 (by rw [c3]; decide) (by rw [c3]; decide) (by rw [c3]; rfl) (by decide) ?_
    refine bv_aload_n dX8_drawFor_36 0 rfl ?_
    refine bv_iload_n dX8_drawFor_37 1 rfl ?_
    refine bv_aload_n dX8_drawFor_38 0 rfl ?_
    refine bv_iconst (v := 3) dX8_drawFor_39 (by decide) ?_
    obtain ⟨v4, p5, h⟩ := bu_bd h
    refine bw_callV (As := [.int 3]) hN okL_33 ⟨_, _, rfl⟩ dX8_drawFor_40 mc_8_162 (c_X8_draw (d := d + 4) hN hR p5) rfl rfl (Nat.le_of_ble_eq_true rfl) ?_
    refine bv_iconst (v := 1) dX8_drawFor_43 (by decide) ?_
    refine bv_iadd dX8_drawFor_44 ?_
    obtain ⟨v6, p7, h⟩ := bu_bd h
    refine bw_callV (As := [.int x1, .int (v4.1 + 1)]) hN okL_33 ⟨_, _, rfl⟩ dX8_drawFor_45 mc_8_112 (c_X8_liftBy (d := d + 2) hN hR p7) rfl rfl (by decide) ?_
    refine bv_pop dX8_drawFor_48 rfl ?_
    refine bv_goto (tgt := 89) dX8_drawFor_49 (by decide) ?_
    obtain rfl := Option.some.inj h
    exact bv_vret dX8_drawFor_89 rfl ⟨rfl, rfl⟩
  · replace h := bu_f h c3
    by_cases c8 : v1.1 = 1
    · replace h := bu_t h c8
      refine bv_tableIn (tgt := 52) dX8_drawFor_6 (by rw [c8]; decide) (by rw [c8]; decide) (by rw [c8]; rfl) (by decide) ?_
      refine bv_aload_n dX8_drawFor_52 0 rfl ?_
      refine bv_dup dX8_drawFor_53 rfl ?_
      refine bz_getI hN okL_33 dX8_drawFor_54 fl_8_46 rfl ?_
      refine bv_iconst (v := 1) dX8_drawFor_57 (by decide) ?_
      refine bv_iload_n dX8_drawFor_58 1 rfl ?_
      refine bv_ishl dX8_drawFor_59 ?_
      refine bv_ixor dX8_drawFor_60 ?_
      refine bz_putI hN okL_33 dX8_drawFor_61 fl_8_46 rfl ?_
      refine bv_goto (tgt := 89) dX8_drawFor_64 (by decide) ?_
      obtain rfl := Option.some.inj h
      exact bv_vret dX8_drawFor_89 rfl ⟨rfl, rfl⟩
    · replace h := bu_f h c8
      by_cases c9 : v1.1 = 2
      · replace h := bu_t h c9
        refine bv_tableIn (tgt := 67) dX8_drawFor_6 (by rw [c9]; decide) (by rw [c9]; decide) (by rw [c9]; rfl) (by decide) ?_
        refine bv_aload_n dX8_drawFor_67 0 rfl ?_
        refine bv_iload_n dX8_drawFor_68 1 rfl ?_
        refine bv_aload_n dX8_drawFor_69 0 rfl ?_
        refine bv_iconst (v := 4) dX8_drawFor_70 (by decide) ?_
        obtain ⟨v10, p11, h⟩ := bu_bd h
        refine bw_callV (As := [.int 4]) hN okL_33 ⟨_, _, rfl⟩ dX8_drawFor_71 mc_8_162 (c_X8_draw (d := d + 4) hN hR p11) rfl rfl (Nat.le_of_ble_eq_true rfl) ?_
        obtain ⟨v12, p13, h⟩ := bu_bd h
        refine bw_callV (As := [.int x1, .int v10.1]) hN okL_33 ⟨_, _, rfl⟩ dX8_drawFor_74 mc_8_127 (c_X8_goBy (d := d + 4) hN hR p13) rfl rfl (by decide) ?_
        refine bv_pop dX8_drawFor_77 rfl ?_
        refine bv_goto (tgt := 89) dX8_drawFor_78 (by decide) ?_
        obtain rfl := Option.some.inj h
        exact bv_vret dX8_drawFor_89 rfl ⟨rfl, rfl⟩
      · replace h := bu_f h c9
        by_cases c14 : v1.1 = 3
        · replace h := bu_t h c14
          refine bv_tableIn (tgt := 81) dX8_drawFor_6 (by rw [c14]; decide) (by rw [c14]; decide) (by rw [c14]; rfl) (by decide) ?_
          refine bv_aload_n dX8_drawFor_81 0 rfl ?_
          refine bv_iload_n dX8_drawFor_82 1 rfl ?_
          obtain ⟨v15, p16, h⟩ := bu_bd h
          refine bw_callVv (As := [.int x1]) hN okL_33 ⟨_, _, rfl⟩ dX8_drawFor_83 mc_8_165 (c_X8_drawOrderFor (d := d + 0) hN hR p16) rfl rfl (by decide) ?_
          refine bv_goto (tgt := 89) dX8_drawFor_86 (by decide) ?_
          obtain rfl := Option.some.inj h
          exact bv_vret dX8_drawFor_89 rfl ⟨rfl, rfl⟩
        · replace h := bu_f h c14
          refine bv_tableOut (tgt := 89) dX8_drawFor_6 (bm_sw (k := 4) (by decide) (fun j hj => by match j, hj with | 0, _ => exact c3 | 1, _ => exact c8 | 2, _ => exact c9 | 3, _ => exact c14)) (by decide) ?_
          obtain rfl := Option.some.inj h
          exact bv_vret dX8_drawFor_89 rfl ⟨rfl, rfl⟩
def f_X8_drawHours_l25 (x1 : Int32) (x3 : Int32) : Nat → Int32 → bm_TI → Option (bm_TI)
  | 0, _, _ => none
  | k + 1, x4, I => (if (I 4 10) ≤ x4 then some I else ((f_X8_drawFor I x4).bind fun v1 => f_X8_drawHours_l25 x1 x3 k (x4 + 1) v1))
set_option maxHeartbeats 4000000 in
set_option maxRecDepth 100000 in
theorem v_X8_drawHours_l25 {lc : bm_L} {d n : Nat} {Q : Option Value → bm_M → Prop} {R : bm_TR} {J : bm_TJ} {W : bm_TR} {x1 : Int32} {x3 : Int32} (hN : 181 ≤ n) (hR : bm_RR R) : ∀ (k : Nat) (x4 : Int32) (I : bm_TI) (r : bm_TI), f_X8_drawHours_l25 x1 x3 k x4 I = some r → (∀ yy, yy = r → bm_V lc m_X8_drawHours (d + 6) n n n 49 [(0, .ref 33), (1, .int x1), (3, .int x3)] [] (yy, J, R, W) Q) → bm_V lc m_X8_drawHours (d + 6) n n n 25 [(0, .ref 33), (1, .int x1), (3, .int x3), (4, .int x4)] [] (I, J, R, W) Q := by
  intro k
  induction k with
  | zero => intro x4 I r h; cases (show (none : Option (bm_TI)) = some r from h)
  | succ k ih =>
    intro x4 I r h K0
    unfold f_X8_drawHours_l25 at h
    refine bv_iload dX8_drawHours_25 3 rfl ?_
    refine bv_aload_n dX8_drawHours_27 0 rfl ?_
    refine bz_getA (a := 4) hN okL_33 (hR _ _ _ r0_33_0) dX8_drawHours_28 fl_8_30 rfl ?_
    refine bz_getI hN okL_4 dX8_drawHours_31 fl_8_34 rfl ?_
    refine bv_icmp_ge (tgt := 49) dX8_drawHours_34 (by decide) (fun cc => ?_) (fun cc => ?_)
    · replace h := bu_t h cc
      refine bw_ls (ls1 := [(0, .ref 33), (1, .int x1), (3, .int x3)]) [0, 1, 2] rfl ?_
      obtain rfl := Option.some.inj h
      exact K0 _ rfl
    · replace h := bu_f h cc
      refine bv_aload_n dX8_drawHours_37 0 rfl ?_
      refine bv_iload dX8_drawHours_38 3 rfl ?_
      obtain ⟨v1, p2, h⟩ := bu_bd h
      refine bw_callVv (As := [.int x4]) hN okL_33 ⟨_, _, rfl⟩ dX8_drawHours_40 mc_8_158 (c_X8_drawFor (d := d + 0) hN hR p2) rfl rfl (by decide) ?_
      refine bv_iinc (j := 3) (v := (x4 + 1)) (ls1 := [(0, .ref 33), (1, .int x1), (3, .int x3), (4, .int (x4 + 1))]) dX8_drawHours_43 rfl rfl (by decide) rfl rfl ?_
      refine bv_goto (tgt := 25) dX8_drawHours_46 (by decide) ?_
      exact ih _ _ _ h K0
def f_X8_drawHours_l7 (x1 : Int32) : Nat → Int32 → bm_TI → Option (Int32 × bm_TI)
  | 0, _, _ => none
  | k + 1, x3, I => (if x1 ≤ x3 then some (x3, I) else (if 400 ≤ (I 33 10) then some (x3, I) else ((f_X8_drawHours_l25 x1 x3 1000 0 I).bind fun y3 => ((f_X8_passHours y3 1).bind fun v4 => f_X8_drawHours_l7 x1 k (x3 + 1) v4.2))))
set_option maxHeartbeats 4000000 in
set_option maxRecDepth 100000 in
theorem v_X8_drawHours_l7 {lc : bm_L} {d n : Nat} {Q : Option Value → bm_M → Prop} {R : bm_TR} {J : bm_TJ} {W : bm_TR} {x1 : Int32} (hN : 181 ≤ n) (hR : bm_RR R) : ∀ (k : Nat) (x3 : Int32) (I : bm_TI) (r : Int32 × bm_TI), f_X8_drawHours_l7 x1 k x3 I = some r → (∀ yy, yy = r → bm_V lc m_X8_drawHours (d + 6) n n n 61 [(3, .int yy.1)] [] (yy.2, J, R, W) Q) → bm_V lc m_X8_drawHours (d + 6) n n n 7 [(0, .ref 33), (1, .int x1), (3, .int x3)] [] (I, J, R, W) Q := by
  intro k
  induction k with
  | zero => intro x3 I r h; cases (show (none : Option (Int32 × bm_TI)) = some r from h)
  | succ k ih =>
    intro x3 I r h K0
    unfold f_X8_drawHours_l7 at h
    refine bv_iload_n dX8_drawHours_7 2 rfl ?_
    refine bv_iload_n dX8_drawHours_8 1 rfl ?_
    refine bv_icmp_ge (tgt := 61) dX8_drawHours_9 (by decide) (fun cc => ?_) (fun cc => ?_)
    · replace h := bu_t h cc
      refine bw_ls (ls1 := [(3, .int x3)]) [2] rfl ?_
      obtain rfl := Option.some.inj h
      exact K0 _ rfl
    · replace h := bu_f h cc
      refine bv_aload_n dX8_drawHours_12 0 rfl ?_
      refine bz_getI hN okL_33 dX8_drawHours_13 fl_8_55 rfl ?_
      refine bv_sipush (v := 400) dX8_drawHours_16 (by decide) ?_
      refine bv_icmp_ge (tgt := 61) dX8_drawHours_19 (by decide) (fun cc => ?_) (fun cc => ?_)
      · replace h := bu_t h cc
        refine bw_ls (ls1 := [(3, .int x3)]) [2] rfl ?_
        obtain rfl := Option.some.inj h
        exact K0 _ rfl
      · replace h := bu_f h cc
        refine bv_iconst (v := 0) dX8_drawHours_22 (by decide) ?_
        refine bv_istore (ls1 := [(0, .ref 33), (1, .int x1), (3, .int x3), (4, .int 0)]) dX8_drawHours_23 (by decide) rfl rfl ?_
        obtain ⟨r1, p2, h⟩ := bu_bd h
        refine v_X8_drawHours_l25 hN hR 1000 _ _ _ p2 (fun y3 hy => ?_)
        · subst hy
          refine bv_aload_n dX8_drawHours_49 0 rfl ?_
          refine bv_iconst (v := 1) dX8_drawHours_50 (by decide) ?_
          obtain ⟨v4, p5, h⟩ := bu_bd h
          refine bw_callV (As := [.int 1]) hN okL_33 ⟨_, _, rfl⟩ dX8_drawHours_51 mc_8_130 (c_X8_passHours (d := d + 1) hN hR p5) rfl rfl (by decide) ?_
          refine bv_pop dX8_drawHours_54 rfl ?_
          refine bv_iinc (j := 2) (v := (x3 + 1)) (ls1 := [(0, .ref 33), (1, .int x1), (3, .int (x3 + 1))]) dX8_drawHours_55 rfl rfl (by decide) rfl rfl ?_
          refine bv_goto (tgt := 7) dX8_drawHours_58 (by decide) ?_
          exact ih _ _ _ h K0
def f_X8_drawHours (I : bm_TI) (x1 : Int32) (x2 : Int32) : Option (Int32 × bm_TI) := ((f_X8_drawHours_l7 x1 1000 0 (bm_uI I 33 12 x2)).bind fun y3 => some (y3.1, y3.2))
set_option maxHeartbeats 4000000 in
set_option maxRecDepth 100000 in
theorem c_X8_drawHours {lc : bm_L} {d n : Nat} {I : bm_TI} {J : bm_TJ} {R W : bm_TR} {x1 : Int32} {x2 : Int32} {v : Int32 × bm_TI} (hN : 181 ≤ n) (hR : bm_RR R) (h : f_X8_drawHours I x1 x2 = some v) : bm_C lc m_X8_drawHours (d + 6) n n [.ref 33, .int x1, .int x2] (I, J, R, W) (fun r M' => r = some (.int v.1) ∧ M' = (v.2, J, R, W)) := by
  refine bm_C.ofV (by decide) (Nat.le_of_ble_eq_true rfl) ?_
  show bm_V lc m_X8_drawHours (d + 6) n n n 0 [(0, .ref 33), (1, .int x1), (2, .int x2)] [] (I, J, R, W) _
  unfold f_X8_drawHours at h
  refine bv_aload_n dX8_drawHours_0 0 rfl ?_
  refine bv_iload_n dX8_drawHours_1 2 rfl ?_
  refine bz_putI hN okL_33 dX8_drawHours_2 fl_8_155 rfl ?_
  refine bv_iconst (v := 0) dX8_drawHours_5 (by decide) ?_
  refine bv_istore_n (ls1 := [(0, .ref 33), (1, .int x1), (2, .int x2), (3, .int 0)]) dX8_drawHours_6 (by decide) rfl rfl ?_
  refine bw_ls (ls1 := [(0, .ref 33), (1, .int x1), (3, .int 0)]) [0, 1, 3] rfl ?_
  obtain ⟨r1, p2, h⟩ := bu_bd h
  refine v_X8_drawHours_l7 hN hR 1000 _ _ _ p2 (fun y3 hy => ?_)
  · subst hy
    refine bv_iload_n dX8_drawHours_61 0 rfl ?_
    obtain rfl := Option.some.inj h
    exact bv_iret (x := y3.1) dX8_drawHours_62 rfl ⟨rfl, rfl⟩
def f_X9_put_l3 (x1 : Int32) : Nat → Int32 → bm_TI → Option (bm_TI)
  | 0, _, _ => none
  | k + 1, x2, I => (if x2 < 0 then some I else (if 940 ≤ (I 1 1) then some I else (if bm_ix 940 (I 1 1) = true then f_X9_put_l3 x1 k (x2 + (-8)) (bm_uI (bm_uI I 2 ((I 1 1).toNatClampNeg) ((bm_iushr x1 x2) &&& 255)) 1 1 (((bm_uI I 2 ((I 1 1).toNatClampNeg) ((bm_iushr x1 x2) &&& 255)) 1 1) + 1)) else none)))
set_option maxHeartbeats 4000000 in
set_option maxRecDepth 100000 in
theorem v_X9_put_l3 {lc : bm_L} {d n : Nat} {Q : Option Value → bm_M → Prop} {R : bm_TR} {J : bm_TJ} {W : bm_TR} {x1 : Int32} (hN : 181 ≤ n) (hR : bm_RR R) : ∀ (k : Nat) (x2 : Int32) (I : bm_TI) (r : bm_TI), f_X9_put_l3 x1 k x2 I = some r → (∀ yy, yy = r → bm_V lc m_X9_put d n n n 49 [] [] (yy, J, R, W) Q) → bm_V lc m_X9_put d n n n 3 [(0, .ref 1), (1, .int x1), (2, .int x2)] [] (I, J, R, W) Q := by
  intro k
  induction k with
  | zero => intro x2 I r h; cases (show (none : Option (bm_TI)) = some r from h)
  | succ k ih =>
    intro x2 I r h K0
    unfold f_X9_put_l3 at h
    refine bv_iload_n dX9_put_3 2 rfl ?_
    refine bv_if_lt (tgt := 49) dX9_put_4 (by decide) (fun cc => ?_) (fun cc => ?_)
    · replace h := bu_t h cc
      refine bw_ls (ls1 := []) [] rfl ?_
      obtain rfl := Option.some.inj h
      exact K0 _ rfl
    · replace h := bu_f h cc
      refine bv_aload_n dX9_put_7 0 rfl ?_
      refine bz_getI hN okL_1 dX9_put_8 fl_9_15 rfl ?_
      refine bv_sipush (v := 940) dX9_put_11 (by decide) ?_
      refine bv_icmp_ge (tgt := 49) dX9_put_14 (by decide) (fun cc => ?_) (fun cc => ?_)
      · replace h := bu_t h cc
        refine bw_ls (ls1 := []) [] rfl ?_
        obtain rfl := Option.some.inj h
        exact K0 _ rfl
      · replace h := bu_f h cc
        refine bv_aload_n dX9_put_17 0 rfl ?_
        refine bz_getA (a := 2) hN okL_1 (hR _ _ _ r0_1_0) dX9_put_18 fl_9_9 rfl ?_
        refine bv_aload_n dX9_put_21 0 rfl ?_
        refine bz_getI hN okL_1 dX9_put_22 fl_9_15 rfl ?_
        refine bv_iload_n dX9_put_25 1 rfl ?_
        refine bv_iload_n dX9_put_26 2 rfl ?_
        refine bv_iushr dX9_put_27 ?_
        refine bv_sipush (v := 255) dX9_put_28 (by decide) ?_
        refine bv_iand dX9_put_31 ?_
        obtain ⟨r1, h⟩ := bu_ix h
        refine bz_iast hN rkL_2 r1 rfl dX9_put_32 ?_
        refine bv_aload_n dX9_put_33 0 rfl ?_
        refine bv_dup dX9_put_34 rfl ?_
        refine bz_getI hN okL_1 dX9_put_35 fl_9_15 rfl ?_
        refine bv_iconst (v := 1) dX9_put_38 (by decide) ?_
        refine bv_iadd dX9_put_39 ?_
        refine bz_putI hN okL_1 dX9_put_40 fl_9_15 rfl ?_
        refine bv_iinc (j := 2) (v := (x2 + (-8))) (ls1 := [(0, .ref 1), (1, .int x1), (2, .int (x2 + (-8)))]) dX9_put_43 rfl rfl (by decide) rfl rfl ?_
        refine bv_goto (tgt := 3) dX9_put_46 (by decide) ?_
        exact ih _ _ _ h K0
def f_X9_put (I : bm_TI) (x1 : Int32) : Option (bm_TI) := ((f_X9_put_l3 x1 1000 24 I).bind fun y3 => some y3)
set_option maxHeartbeats 4000000 in
set_option maxRecDepth 100000 in
theorem c_X9_put {lc : bm_L} {d n : Nat} {I : bm_TI} {J : bm_TJ} {R W : bm_TR} {x1 : Int32} {v : bm_TI} (hN : 181 ≤ n) (hR : bm_RR R) (h : f_X9_put I x1 = some v) : bm_C lc m_X9_put d n n [.ref 1, .int x1] (I, J, R, W) (fun r M' => r = none ∧ M' = (v, J, R, W)) := by
  refine bm_C.ofV (by decide) (Nat.le_of_ble_eq_true rfl) ?_
  show bm_V lc m_X9_put d n n n 0 [(0, .ref 1), (1, .int x1)] [] (I, J, R, W) _
  unfold f_X9_put at h
  refine bv_bipush (v := 24) dX9_put_0 (by decide) ?_
  refine bv_istore_n (ls1 := [(0, .ref 1), (1, .int x1), (2, .int 24)]) dX9_put_2 (by decide) rfl rfl ?_
  obtain ⟨r1, p2, h⟩ := bu_bd h
  refine v_X9_put_l3 hN hR 1000 _ _ _ p2 (fun y3 hy => ?_)
  · subst hy
    obtain rfl := Option.some.inj h
    exact bv_vret dX9_put_49 rfl ⟨rfl, rfl⟩
def f_X11_feed (I : bm_TI) (x1 : Int32) (x2 : Int32) (x3 : Int32) (x4 : Int32) (x5 : Int32) : Option (Int32 × bm_TI) := (if ((I 1 1) + 20) ≤ 940 then ((f_X9_put I x1).bind fun v1 => ((f_X9_put v1 x2).bind fun v3 => ((f_X9_put v3 x3).bind fun v5 => ((f_X9_put v5 x4).bind fun v7 => ((f_X9_put v7 x5).bind fun v9 => some ((v9 1 1), v9)))))) else some ((-1), I))
set_option maxHeartbeats 4000000 in
set_option maxRecDepth 100000 in
theorem c_X11_feed {lc : bm_L} {d n : Nat} {I : bm_TI} {J : bm_TJ} {R W : bm_TR} {x1 : Int32} {x2 : Int32} {x3 : Int32} {x4 : Int32} {x5 : Int32} {v : Int32 × bm_TI} (hN : 181 ≤ n) (hR : bm_RR R) (h : f_X11_feed I x1 x2 x3 x4 x5 = some v) : bm_C lc m_X11_feed (d + 1) n n [.ref 0, .int x1, .int x2, .int x3, .int x4, .int x5] (I, J, R, W) (fun r M' => r = some (.int v.1) ∧ M' = (v.2, J, R, W)) := by
  refine bm_C.ofV (by decide) (Nat.le_of_ble_eq_true rfl) ?_
  show bm_V lc m_X11_feed (d + 1) n n n 0 [(0, .ref 0), (1, .int x1), (2, .int x2), (3, .int x3), (4, .int x4), (5, .int x5)] [] (I, J, R, W) _
  unfold f_X11_feed at h
  refine bv_aload_n dX11_feed_0 0 rfl ?_
  refine bz_getA (a := 1) hN okL_0 (hR _ _ _ r0_0_0) dX11_feed_1 fl_11_12 rfl ?_
  refine bz_getI hN okL_1 dX11_feed_4 fl_11_102 rfl ?_
  refine bv_bipush (v := 20) dX11_feed_7 (by decide) ?_
  refine bv_iadd dX11_feed_9 ?_
  refine bv_sipush (v := 940) dX11_feed_10 (by decide) ?_
  refine bv_icmp_le (tgt := 18) dX11_feed_13 (by decide) (fun cc => ?_) (fun cc => ?_)
  · replace h := bu_t h cc
    refine bv_aload_n dX11_feed_18 0 rfl ?_
    refine bz_getA (a := 1) hN okL_0 (hR _ _ _ r0_0_0) dX11_feed_19 fl_11_12 rfl ?_
    refine bv_iload_n dX11_feed_22 1 rfl ?_
    obtain ⟨v1, p2, h⟩ := bu_bd h
    refine bw_callVv (As := [.int x1]) hN okL_1 ⟨_, _, rfl⟩ dX11_feed_23 mc_11_105 (c_X9_put (d := d + 0) hN hR p2) rfl rfl (by decide) ?_
    refine bv_aload_n dX11_feed_26 0 rfl ?_
    refine bz_getA (a := 1) hN okL_0 (hR _ _ _ r0_0_0) dX11_feed_27 fl_11_12 rfl ?_
    refine bv_iload_n dX11_feed_30 2 rfl ?_
    obtain ⟨v3, p4, h⟩ := bu_bd h
    refine bw_callVv (As := [.int x2]) hN okL_1 ⟨_, _, rfl⟩ dX11_feed_31 mc_11_105 (c_X9_put (d := d + 0) hN hR p4) rfl rfl (by decide) ?_
    refine bv_aload_n dX11_feed_34 0 rfl ?_
    refine bz_getA (a := 1) hN okL_0 (hR _ _ _ r0_0_0) dX11_feed_35 fl_11_12 rfl ?_
    refine bv_iload_n dX11_feed_38 3 rfl ?_
    obtain ⟨v5, p6, h⟩ := bu_bd h
    refine bw_callVv (As := [.int x3]) hN okL_1 ⟨_, _, rfl⟩ dX11_feed_39 mc_11_105 (c_X9_put (d := d + 0) hN hR p6) rfl rfl (by decide) ?_
    refine bv_aload_n dX11_feed_42 0 rfl ?_
    refine bz_getA (a := 1) hN okL_0 (hR _ _ _ r0_0_0) dX11_feed_43 fl_11_12 rfl ?_
    refine bv_iload dX11_feed_46 4 rfl ?_
    obtain ⟨v7, p8, h⟩ := bu_bd h
    refine bw_callVv (As := [.int x4]) hN okL_1 ⟨_, _, rfl⟩ dX11_feed_48 mc_11_105 (c_X9_put (d := d + 0) hN hR p8) rfl rfl (by decide) ?_
    refine bv_aload_n dX11_feed_51 0 rfl ?_
    refine bz_getA (a := 1) hN okL_0 (hR _ _ _ r0_0_0) dX11_feed_52 fl_11_12 rfl ?_
    refine bv_iload dX11_feed_55 5 rfl ?_
    obtain ⟨v9, p10, h⟩ := bu_bd h
    refine bw_callVv (As := [.int x5]) hN okL_1 ⟨_, _, rfl⟩ dX11_feed_57 mc_11_105 (c_X9_put (d := d + 0) hN hR p10) rfl rfl (by decide) ?_
    refine bv_aload_n dX11_feed_60 0 rfl ?_
    refine bz_getA (a := 1) hN okL_0 (hR _ _ _ r0_0_0) dX11_feed_61 fl_11_12 rfl ?_
    refine bz_getI hN okL_1 dX11_feed_64 fl_11_102 rfl ?_
    obtain rfl := Option.some.inj h
    exact bv_iret (x := (v9 1 1)) dX11_feed_67 rfl ⟨rfl, rfl⟩
  · replace h := bu_f h cc
    refine bv_iconst (v := (-1)) dX11_feed_16 (by decide) ?_
    obtain rfl := Option.some.inj h
    exact bv_iret (x := (-1)) dX11_feed_17 rfl ⟨rfl, rfl⟩
def f_X11_end (I : bm_TI) (x1 : Int32) : Option (Bool × bm_TI) := (if x1 < 0 then some (false, I) else (if x1 ≤ (I 1 1) then some (true, (bm_uI I 1 1 x1)) else some (false, I)))
set_option maxHeartbeats 4000000 in
set_option maxRecDepth 100000 in
theorem c_X11_end {lc : bm_L} {d n : Nat} {I : bm_TI} {J : bm_TJ} {R W : bm_TR} {x1 : Int32} {v : Bool × bm_TI} (hN : 181 ≤ n) (hR : bm_RR R) (h : f_X11_end I x1 = some v) : bm_C lc m_X11_end d n n [.ref 0, .int x1] (I, J, R, W) (fun r M' => r = some (.int (bm_bi v.1)) ∧ M' = (v.2, J, R, W)) := by
  refine bm_C.ofV (by decide) (Nat.le_of_ble_eq_true rfl) ?_
  show bm_V lc m_X11_end d n n n 0 [(0, .ref 0), (1, .int x1)] [] (I, J, R, W) _
  unfold f_X11_end at h
  refine bv_iload_n dX11_end_0 1 rfl ?_
  refine bv_if_lt (tgt := 15) dX11_end_1 (by decide) (fun cc => ?_) (fun cc => ?_)
  · replace h := bu_t h cc
    refine bv_iconst (v := 0) dX11_end_15 (by decide) ?_
    obtain rfl := Option.some.inj h
    exact bw_bret (b := false) dX11_end_16 rfl ⟨rfl, rfl⟩
  · replace h := bu_f h cc
    refine bv_iload_n dX11_end_4 1 rfl ?_
    refine bv_aload_n dX11_end_5 0 rfl ?_
    refine bz_getA (a := 1) hN okL_0 (hR _ _ _ r0_0_0) dX11_end_6 fl_11_12 rfl ?_
    refine bz_getI hN okL_1 dX11_end_9 fl_11_102 rfl ?_
    refine bv_icmp_le (tgt := 17) dX11_end_12 (by decide) (fun cc => ?_) (fun cc => ?_)
    · replace h := bu_t h cc
      refine bv_aload_n dX11_end_17 0 rfl ?_
      refine bz_getA (a := 1) hN okL_0 (hR _ _ _ r0_0_0) dX11_end_18 fl_11_12 rfl ?_
      refine bv_iload_n dX11_end_21 1 rfl ?_
      refine bz_putI hN okL_1 dX11_end_22 fl_11_102 rfl ?_
      refine bv_iconst (v := 1) dX11_end_25 (by decide) ?_
      obtain rfl := Option.some.inj h
      exact bw_bret (b := true) dX11_end_26 rfl ⟨rfl, rfl⟩
    · replace h := bu_f h cc
      refine bv_iconst (v := 0) dX11_end_15 (by decide) ?_
      obtain rfl := Option.some.inj h
      exact bw_bret (b := false) dX11_end_16 rfl ⟨rfl, rfl⟩
def f_X11_army (I : bm_TI) (J : bm_TJ) (W : bm_TR) : Option (Int32 × bm_TI × bm_TJ × bm_TR) := ((f_X5_begin I J W 900).bind fun v1 => ((f_X0_readFrom v1.1 v1.2.1 v1.2.2).bind fun v3 => (if ((bm_uI (bm_uI v3.2.1 1 1 0) 0 13 ((bm_uI v3.2.1 1 1 0) 3 9)) 0 13) = 0 then ((f_X0_copyFrom (bm_uI (bm_uI v3.2.1 1 1 0) 0 13 ((bm_uI v3.2.1 1 1 0) 3 9)) v3.2.2.1 4 15).bind fun v5 => ((f_X8_begin v5.1).bind fun v7 => ((f_X7_forget v7 151).bind fun v9 => ((f_X4_forget v9).bind fun v11 => some (v3.1, v11, v5.2, v3.2.2.2))))) else some (((-1) - ((bm_uI (bm_uI v3.2.1 1 1 0) 0 13 ((bm_uI v3.2.1 1 1 0) 3 9)) 3 10)), (bm_uI (bm_uI v3.2.1 1 1 0) 0 13 ((bm_uI v3.2.1 1 1 0) 3 9)), v3.2.2.1, v3.2.2.2))))
set_option maxHeartbeats 4000000 in
set_option maxRecDepth 100000 in
theorem c_X11_army {lc : bm_L} {d n : Nat} {I : bm_TI} {J : bm_TJ} {R W : bm_TR} {v : Int32 × bm_TI × bm_TJ × bm_TR} (hN : 181 ≤ n) (hR : bm_RR R) (h : f_X11_army I J W = some v) : bm_C lc m_X11_army (d + 7) n n [.ref 0] (I, J, R, W) (fun r M' => r = some (.int v.1) ∧ M' = (v.2.1, v.2.2.1, R, v.2.2.2)) := by
  refine bm_C.ofV (by decide) (Nat.le_of_ble_eq_true rfl) ?_
  show bm_V lc m_X11_army (d + 7) n n n 0 [(0, .ref 0)] [] (I, J, R, W) _
  unfold f_X11_army at h
  refine bv_aload_n dX11_army_0 0 rfl ?_
  refine bz_getA (a := 3) hN okL_0 (hR _ _ _ r0_0_1) dX11_army_1 fl_11_21 rfl ?_
  refine bv_sipush (v := 900) dX11_army_4 (by decide) ?_
  obtain ⟨v1, p2, h⟩ := bu_bd h
  refine bw_callVv (As := [.int 900]) hN okL_3 ⟨_, _, rfl⟩ dX11_army_7 mc_11_109 (c_X5_begin (d := d + 3) hN hR p2) rfl rfl (by decide) ?_
  refine bv_aload_n dX11_army_10 0 rfl ?_
  refine bz_getA (a := 15) hN okL_0 (hR _ _ _ r0_0_3) dX11_army_11 fl_11_32 rfl ?_
  refine bv_aload_n dX11_army_14 0 rfl ?_
  refine bz_getA (a := 3) hN okL_0 (hR _ _ _ r0_0_1) dX11_army_15 fl_11_21 rfl ?_
  obtain ⟨v3, p4, h⟩ := bu_bd h
  refine bw_callV (As := [.ref 3]) hN okL_15 ⟨_, _, rfl⟩ dX11_army_18 mc_11_112 (c_X0_readFrom (d := d + 0) hN hR p4) rfl rfl (by decide) ?_
  refine bv_istore_n (ls1 := [(0, .ref 0), (1, .int v3.1)]) dX11_army_21 (by decide) rfl rfl ?_
  refine bv_aload_n dX11_army_22 0 rfl ?_
  refine bz_getA (a := 1) hN okL_0 (hR _ _ _ r0_0_0) dX11_army_23 fl_11_12 rfl ?_
  refine bv_iconst (v := 0) dX11_army_26 (by decide) ?_
  refine bz_putI hN okL_1 dX11_army_27 fl_11_102 rfl ?_
  refine bv_aload_n dX11_army_30 0 rfl ?_
  refine bv_aload_n dX11_army_31 0 rfl ?_
  refine bz_getA (a := 3) hN okL_0 (hR _ _ _ r0_0_1) dX11_army_32 fl_11_21 rfl ?_
  refine bz_getI hN okL_3 dX11_army_35 fl_11_116 rfl ?_
  refine bz_putI hN okL_0 dX11_army_38 fl_11_119 rfl ?_
  refine bv_aload_n dX11_army_41 0 rfl ?_
  refine bz_getI hN okL_0 dX11_army_42 fl_11_119 rfl ?_
  refine bv_if_eq (tgt := 58) dX11_army_45 (by decide) (fun cc => ?_) (fun cc => ?_)
  · replace h := bu_t h cc
    refine bv_aload_n dX11_army_58 0 rfl ?_
    refine bz_getA (a := 4) hN okL_0 (hR _ _ _ r0_0_2) dX11_army_59 fl_11_28 rfl ?_
    refine bv_aload_n dX11_army_62 0 rfl ?_
    refine bz_getA (a := 15) hN okL_0 (hR _ _ _ r0_0_3) dX11_army_63 fl_11_32 rfl ?_
    obtain ⟨v5, p6, h⟩ := bu_bd h
    refine bw_callVv (As := [.ref 15]) hN okL_4 ⟨_, _, rfl⟩ dX11_army_66 mc_11_123 (c_X0_copyFrom (d := d + 5) hN hR okL_4 okL_15 p6) rfl rfl (by decide) ?_
    refine bv_aload_n dX11_army_69 0 rfl ?_
    refine bz_getA (a := 26) hN okL_0 (hR _ _ _ r0_0_4) dX11_army_70 fl_11_40 rfl ?_
    obtain ⟨v7, p8, h⟩ := bu_bd h
    refine bw_callVv (As := []) hN okL_26 ⟨_, _, rfl⟩ dX11_army_73 mc_11_126 (c_X8_begin (d := d + 6) hN hR p8) rfl rfl (by decide) ?_
    refine bv_aload_n dX11_army_76 0 rfl ?_
    refine bz_getA (a := 151) hN okL_0 (hR _ _ _ r0_0_9) dX11_army_77 fl_11_71 rfl ?_
    obtain ⟨v9, p10, h⟩ := bu_bd h
    refine bw_callVv (As := []) hN okL_151 ⟨_, _, rfl⟩ dX11_army_80 mc_11_128 (c_X7_forget (d := d + 6) hN hR okL_151 p10) rfl rfl (by decide) ?_
    refine bv_aload_n dX11_army_83 0 rfl ?_
    refine bz_getA (a := 40) hN okL_0 (hR _ _ _ r0_0_6) dX11_army_84 fl_11_50 rfl ?_
    obtain ⟨v11, p12, h⟩ := bu_bd h
    refine bw_callVv (As := []) hN okL_40 ⟨_, _, rfl⟩ dX11_army_87 mc_11_131 (c_X4_forget (d := d + 6) hN hR p12) rfl rfl (by decide) ?_
    refine bv_iload_n dX11_army_90 1 rfl ?_
    obtain rfl := Option.some.inj h
    exact bv_iret (x := v3.1) dX11_army_91 rfl ⟨rfl, rfl⟩
  · replace h := bu_f h cc
    refine bv_iconst (v := (-1)) dX11_army_48 (by decide) ?_
    refine bv_aload_n dX11_army_49 0 rfl ?_
    refine bz_getA (a := 3) hN okL_0 (hR _ _ _ r0_0_1) dX11_army_50 fl_11_21 rfl ?_
    refine bz_getI hN okL_3 dX11_army_53 fl_11_120 rfl ?_
    refine bv_isub dX11_army_56 ?_
    obtain rfl := Option.some.inj h
    exact bv_iret (x := ((-1) - ((bm_uI (bm_uI v3.2.1 1 1 0) 0 13 ((bm_uI v3.2.1 1 1 0) 3 9)) 3 10))) dX11_army_57 rfl ⟨rfl, rfl⟩
def f_X11_fault (I : bm_TI) : Option (Int32) := some (I 0 13)
set_option maxHeartbeats 4000000 in
set_option maxRecDepth 100000 in
theorem c_X11_fault {lc : bm_L} {d n : Nat} {I : bm_TI} {J : bm_TJ} {R W : bm_TR} {v : Int32} (hN : 181 ≤ n) (hR : bm_RR R) (h : f_X11_fault I = some v) : bm_C lc m_X11_fault d n n [.ref 0] (I, J, R, W) (fun r M' => r = some (.int v) ∧ M' = (I, J, R, W)) := by
  refine bm_C.ofV (by decide) (Nat.le_of_ble_eq_true rfl) ?_
  show bm_V lc m_X11_fault d n n n 0 [(0, .ref 0)] [] (I, J, R, W) _
  unfold f_X11_fault at h
  refine bv_aload_n dX11_fault_0 0 rfl ?_
  refine bz_getI hN okL_0 dX11_fault_1 fl_11_119 rfl ?_
  obtain rfl := Option.some.inj h
  exact bv_iret (x := (I 0 13)) dX11_fault_4 rfl ⟨rfl, rfl⟩
def f_X11_count (I : bm_TI) (x1 : Int32) : Option (Int32) := (if x1 = 0 then some (I 4 10) else (if x1 = 1 then some (I 4 13) else (if x1 = 2 then some (I 4 14) else (if x1 = 3 then some (I 4 15) else (if x1 = 4 then some (I 4 16) else (if x1 = 5 then some (I 1 1) else some (-1)))))))
set_option maxHeartbeats 4000000 in
set_option maxRecDepth 100000 in
theorem c_X11_count {lc : bm_L} {d n : Nat} {I : bm_TI} {J : bm_TJ} {R W : bm_TR} {x1 : Int32} {v : Int32} (hN : 181 ≤ n) (hR : bm_RR R) (h : f_X11_count I x1 = some v) : bm_C lc m_X11_count d n n [.ref 0, .int x1] (I, J, R, W) (fun r M' => r = some (.int v) ∧ M' = (I, J, R, W)) := by
  refine bm_C.ofV (by decide) (Nat.le_of_ble_eq_true rfl) ?_
  show bm_V lc m_X11_count d n n n 0 [(0, .ref 0), (1, .int x1)] [] (I, J, R, W) _
  unfold f_X11_count at h
  refine bv_iload_n dX11_count_0 1 rfl ?_
  by_cases c1 : x1 = 0
  · replace h := bu_t h c1
    refine bv_tableIn (tgt := 40) dX11_count_1 (by rw [c1]; decide) (by rw [c1]; decide) (by rw [c1]; rfl) (by decide) ?_
    refine bv_aload_n dX11_count_40 0 rfl ?_
    refine bz_getA (a := 4) hN okL_0 (hR _ _ _ r0_0_2) dX11_count_41 fl_11_28 rfl ?_
    refine bz_getI hN okL_4 dX11_count_44 fl_11_132 rfl ?_
    obtain rfl := Option.some.inj h
    exact bv_iret (x := (I 4 10)) dX11_count_47 rfl ⟨rfl, rfl⟩
  · replace h := bu_f h c1
    by_cases c2 : x1 = 1
    · replace h := bu_t h c2
      refine bv_tableIn (tgt := 48) dX11_count_1 (by rw [c2]; decide) (by rw [c2]; decide) (by rw [c2]; rfl) (by decide) ?_
      refine bv_aload_n dX11_count_48 0 rfl ?_
      refine bz_getA (a := 4) hN okL_0 (hR _ _ _ r0_0_2) dX11_count_49 fl_11_28 rfl ?_
      refine bz_getI hN okL_4 dX11_count_52 fl_11_135 rfl ?_
      obtain rfl := Option.some.inj h
      exact bv_iret (x := (I 4 13)) dX11_count_55 rfl ⟨rfl, rfl⟩
    · replace h := bu_f h c2
      by_cases c3 : x1 = 2
      · replace h := bu_t h c3
        refine bv_tableIn (tgt := 56) dX11_count_1 (by rw [c3]; decide) (by rw [c3]; decide) (by rw [c3]; rfl) (by decide) ?_
        refine bv_aload_n dX11_count_56 0 rfl ?_
        refine bz_getA (a := 4) hN okL_0 (hR _ _ _ r0_0_2) dX11_count_57 fl_11_28 rfl ?_
        refine bz_getI hN okL_4 dX11_count_60 fl_11_138 rfl ?_
        obtain rfl := Option.some.inj h
        exact bv_iret (x := (I 4 14)) dX11_count_63 rfl ⟨rfl, rfl⟩
      · replace h := bu_f h c3
        by_cases c4 : x1 = 3
        · replace h := bu_t h c4
          refine bv_tableIn (tgt := 64) dX11_count_1 (by rw [c4]; decide) (by rw [c4]; decide) (by rw [c4]; rfl) (by decide) ?_
          refine bv_aload_n dX11_count_64 0 rfl ?_
          refine bz_getA (a := 4) hN okL_0 (hR _ _ _ r0_0_2) dX11_count_65 fl_11_28 rfl ?_
          refine bz_getI hN okL_4 dX11_count_68 fl_11_141 rfl ?_
          obtain rfl := Option.some.inj h
          exact bv_iret (x := (I 4 15)) dX11_count_71 rfl ⟨rfl, rfl⟩
        · replace h := bu_f h c4
          by_cases c5 : x1 = 4
          · replace h := bu_t h c5
            refine bv_tableIn (tgt := 72) dX11_count_1 (by rw [c5]; decide) (by rw [c5]; decide) (by rw [c5]; rfl) (by decide) ?_
            refine bv_aload_n dX11_count_72 0 rfl ?_
            refine bz_getA (a := 4) hN okL_0 (hR _ _ _ r0_0_2) dX11_count_73 fl_11_28 rfl ?_
            refine bz_getI hN okL_4 dX11_count_76 fl_11_144 rfl ?_
            obtain rfl := Option.some.inj h
            exact bv_iret (x := (I 4 16)) dX11_count_79 rfl ⟨rfl, rfl⟩
          · replace h := bu_f h c5
            by_cases c6 : x1 = 5
            · replace h := bu_t h c6
              refine bv_tableIn (tgt := 80) dX11_count_1 (by rw [c6]; decide) (by rw [c6]; decide) (by rw [c6]; rfl) (by decide) ?_
              refine bv_aload_n dX11_count_80 0 rfl ?_
              refine bz_getA (a := 1) hN okL_0 (hR _ _ _ r0_0_0) dX11_count_81 fl_11_12 rfl ?_
              refine bz_getI hN okL_1 dX11_count_84 fl_11_102 rfl ?_
              obtain rfl := Option.some.inj h
              exact bv_iret (x := (I 1 1)) dX11_count_87 rfl ⟨rfl, rfl⟩
            · replace h := bu_f h c6
              refine bv_tableOut (tgt := 88) dX11_count_1 (bm_sw (k := 6) (by decide) (fun j hj => by match j, hj with | 0, _ => exact c1 | 1, _ => exact c2 | 2, _ => exact c3 | 3, _ => exact c4 | 4, _ => exact c5 | 5, _ => exact c6)) (by decide) ?_
              refine bv_iconst (v := (-1)) dX11_count_88 (by decide) ?_
              obtain rfl := Option.some.inj h
              exact bv_iret (x := (-1)) dX11_count_89 rfl ⟨rfl, rfl⟩
def f_X11_isMan (I : bm_TI) (x1 : Int32) : Option (Bool) := (if x1 < 0 then some false else (if (I 4 10) ≤ x1 then some false else some true))
set_option maxHeartbeats 4000000 in
set_option maxRecDepth 100000 in
theorem c_X11_isMan {lc : bm_L} {d n : Nat} {I : bm_TI} {J : bm_TJ} {R W : bm_TR} {x1 : Int32} {v : Bool} (hN : 181 ≤ n) (hR : bm_RR R) (h : f_X11_isMan I x1 = some v) : bm_C lc m_X11_isMan d n n [.ref 0, .int x1] (I, J, R, W) (fun r M' => r = some (.int (bm_bi v)) ∧ M' = (I, J, R, W)) := by
  refine bm_C.ofV (by decide) (Nat.le_of_ble_eq_true rfl) ?_
  show bm_V lc m_X11_isMan d n n n 0 [(0, .ref 0), (1, .int x1)] [] (I, J, R, W) _
  unfold f_X11_isMan at h
  refine bv_iload_n dX11_isMan_0 1 rfl ?_
  refine bv_if_lt (tgt := 19) dX11_isMan_1 (by decide) (fun cc => ?_) (fun cc => ?_)
  · replace h := bu_t h cc
    refine bv_iconst (v := 0) dX11_isMan_19 (by decide) ?_
    obtain rfl := Option.some.inj h
    exact bw_bret (b := false) dX11_isMan_20 rfl ⟨rfl, rfl⟩
  · replace h := bu_f h cc
    refine bv_iload_n dX11_isMan_4 1 rfl ?_
    refine bv_aload_n dX11_isMan_5 0 rfl ?_
    refine bz_getA (a := 4) hN okL_0 (hR _ _ _ r0_0_2) dX11_isMan_6 fl_11_28 rfl ?_
    refine bz_getI hN okL_4 dX11_isMan_9 fl_11_132 rfl ?_
    refine bv_icmp_ge (tgt := 19) dX11_isMan_12 (by decide) (fun cc => ?_) (fun cc => ?_)
    · replace h := bu_t h cc
      refine bv_iconst (v := 0) dX11_isMan_19 (by decide) ?_
      obtain rfl := Option.some.inj h
      exact bw_bret (b := false) dX11_isMan_20 rfl ⟨rfl, rfl⟩
    · replace h := bu_f h cc
      refine bv_iconst (v := 1) dX11_isMan_15 (by decide) ?_
      refine bv_goto (tgt := 20) dX11_isMan_16 (by decide) ?_
      obtain rfl := Option.some.inj h
      exact bw_bret (b := true) dX11_isMan_20 rfl ⟨rfl, rfl⟩
def f_X11_man (I : bm_TI) (x1 : Int32) (x2 : Int32) : Option (Int32) := ((f_X11_isMan I x1).bind fun v1 => (if v1 = true then (if x2 < 0 then none else (if x2 ≤ 9 then (if x2 = 0 then (if bm_ix 8 x1 = true then some (I 27 x1.toNatClampNeg) else none) else (if x2 = 1 then (if bm_ix 8 x1 = true then some (I 28 x1.toNatClampNeg) else none) else (if x2 = 2 then ((f_X8_browOf I 26 x1).bind fun v8 => some v8) else (if x2 = 3 then some (f_X11_bit (I 26 7) x1) else (if x2 = 4 then some (f_X11_bit (I 26 8) x1) else (if x2 = 5 then (if bm_ix 8 x1 = true then some (I 29 x1.toNatClampNeg) else none) else (if x2 = 6 then (if bm_ix 8 x1 = true then some (I 30 x1.toNatClampNeg) else none) else (if x2 = 7 then some (f_X11_bit (I 26 9) x1) else (if x2 = 8 then (if bm_ix 8 x1 = true then some (I 31 x1.toNatClampNeg) else none) else (if bm_ix 8 x1 = true then some (I 9 x1.toNatClampNeg) else none)))))))))) else none)) else none))
set_option maxHeartbeats 4000000 in
set_option maxRecDepth 100000 in
theorem c_X11_man {lc : bm_L} {d n : Nat} {I : bm_TI} {J : bm_TJ} {R W : bm_TR} {x1 : Int32} {x2 : Int32} {v : Int32} (hN : 181 ≤ n) (hR : bm_RR R) (h : f_X11_man I x1 x2 = some v) : bm_C lc m_X11_man (d + 2) n n [.ref 0, .int x1, .int x2] (I, J, R, W) (fun r M' => r = some (.int v) ∧ M' = (I, J, R, W)) := by
  refine bm_C.ofV (by decide) (Nat.le_of_ble_eq_true rfl) ?_
  show bm_V lc m_X11_man (d + 2) n n n 0 [(0, .ref 0), (1, .int x1), (2, .int x2)] [] (I, J, R, W) _
  unfold f_X11_man at h
  refine bv_aload_n dX11_man_0 0 rfl ?_
  refine bv_iload_n dX11_man_1 1 rfl ?_
  obtain ⟨v1, p2, h⟩ := bu_bd h
  refine bw_callV (As := [.int x1]) hN okL_0 ⟨_, _, rfl⟩ dX11_man_2 mc_11_147 (c_X11_isMan (d := d + 1) hN hR p2) rfl rfl (by decide) ?_
  refine bw_ifB_eq (b := v1) (tgt := 18) dX11_man_5 (by decide) (fun cc => ?_) (fun cc => ?_)
  · replace h := bu_bf h cc
    cases h
  · replace h := bu_bt h cc
    refine bv_iload_n dX11_man_8 2 rfl ?_
    refine bv_if_lt (tgt := 18) dX11_man_9 (by decide) (fun cc => ?_) (fun cc => ?_)
    · replace h := bu_t h cc
      cases h
    · replace h := bu_f h cc
      refine bv_iload_n dX11_man_12 2 rfl ?_
      refine bv_bipush (v := 9) dX11_man_13 (by decide) ?_
      refine bv_icmp_le (tgt := 28) dX11_man_15 (by decide) (fun cc => ?_) (fun cc => ?_)
      · replace h := bu_t h cc
        refine bv_iload_n dX11_man_28 2 rfl ?_
        by_cases c3 : x2 = 0
        · replace h := bu_t h c3
          refine bv_tableIn (tgt := 80) dX11_man_29 (by rw [c3]; decide) (by rw [c3]; decide) (by rw [c3]; rfl) (by decide) ?_
          refine bv_aload_n dX11_man_80 0 rfl ?_
          refine bz_getA (a := 26) hN okL_0 (hR _ _ _ r0_0_4) dX11_man_81 fl_11_40 rfl ?_
          refine bz_getA (a := 27) hN okL_26 (hR _ _ _ r0_26_1) dX11_man_84 fl_11_158 rfl ?_
          refine bv_iload_n dX11_man_87 1 rfl ?_
          obtain ⟨r4, h⟩ := bu_ix h
          refine bz_iald hN rkL_27 r4 rfl dX11_man_88 ?_
          obtain rfl := Option.some.inj h
          exact bv_iret (x := (I 27 x1.toNatClampNeg)) dX11_man_89 rfl ⟨rfl, rfl⟩
        · replace h := bu_f h c3
          by_cases c5 : x2 = 1
          · replace h := bu_t h c5
            refine bv_tableIn (tgt := 90) dX11_man_29 (by rw [c5]; decide) (by rw [c5]; decide) (by rw [c5]; rfl) (by decide) ?_
            refine bv_aload_n dX11_man_90 0 rfl ?_
            refine bz_getA (a := 26) hN okL_0 (hR _ _ _ r0_0_4) dX11_man_91 fl_11_40 rfl ?_
            refine bz_getA (a := 28) hN okL_26 (hR _ _ _ r0_26_2) dX11_man_94 fl_11_162 rfl ?_
            refine bv_iload_n dX11_man_97 1 rfl ?_
            obtain ⟨r6, h⟩ := bu_ix h
            refine bz_iald hN rkL_28 r6 rfl dX11_man_98 ?_
            obtain rfl := Option.some.inj h
            exact bv_iret (x := (I 28 x1.toNatClampNeg)) dX11_man_99 rfl ⟨rfl, rfl⟩
          · replace h := bu_f h c5
            by_cases c7 : x2 = 2
            · replace h := bu_t h c7
              refine bv_tableIn (tgt := 100) dX11_man_29 (by rw [c7]; decide) (by rw [c7]; decide) (by rw [c7]; rfl) (by decide) ?_
              refine bv_aload_n dX11_man_100 0 rfl ?_
              refine bz_getA (a := 26) hN okL_0 (hR _ _ _ r0_0_4) dX11_man_101 fl_11_40 rfl ?_
              refine bv_iload_n dX11_man_104 1 rfl ?_
              obtain ⟨v8, p9, h⟩ := bu_bd h
              refine bw_callV (As := [.int x1]) hN okL_26 ⟨_, _, rfl⟩ dX11_man_105 mc_11_165 (c_X8_browOf (d := d + 0) hN hR okL_26 r0_26_0 p9) rfl rfl (by decide) ?_
              obtain rfl := Option.some.inj h
              exact bv_iret (x := v8) dX11_man_108 rfl ⟨rfl, rfl⟩
            · replace h := bu_f h c7
              by_cases c10 : x2 = 3
              · replace h := bu_t h c10
                refine bv_tableIn (tgt := 109) dX11_man_29 (by rw [c10]; decide) (by rw [c10]; decide) (by rw [c10]; rfl) (by decide) ?_
                refine bv_aload_n dX11_man_109 0 rfl ?_
                refine bz_getA (a := 26) hN okL_0 (hR _ _ _ r0_0_4) dX11_man_110 fl_11_40 rfl ?_
                refine bz_getI hN okL_26 dX11_man_113 fl_11_169 rfl ?_
                refine bv_iload_n dX11_man_116 1 rfl ?_
                refine bw_callS (As := [.int (I 26 7), .int x1]) dX11_man_117 mc_11_172 (c_X11_bit (d := d + 1) hN hR rfl) rfl rfl (by decide) ?_
                obtain rfl := Option.some.inj h
                exact bv_iret (x := (f_X11_bit (I 26 7) x1)) dX11_man_120 rfl ⟨rfl, rfl⟩
              · replace h := bu_f h c10
                by_cases c11 : x2 = 4
                · replace h := bu_t h c11
                  refine bv_tableIn (tgt := 121) dX11_man_29 (by rw [c11]; decide) (by rw [c11]; decide) (by rw [c11]; rfl) (by decide) ?_
                  refine bv_aload_n dX11_man_121 0 rfl ?_
                  refine bz_getA (a := 26) hN okL_0 (hR _ _ _ r0_0_4) dX11_man_122 fl_11_40 rfl ?_
                  refine bz_getI hN okL_26 dX11_man_125 fl_11_176 rfl ?_
                  refine bv_iload_n dX11_man_128 1 rfl ?_
                  refine bw_callS (As := [.int (I 26 8), .int x1]) dX11_man_129 mc_11_172 (c_X11_bit (d := d + 1) hN hR rfl) rfl rfl (by decide) ?_
                  obtain rfl := Option.some.inj h
                  exact bv_iret (x := (f_X11_bit (I 26 8) x1)) dX11_man_132 rfl ⟨rfl, rfl⟩
                · replace h := bu_f h c11
                  by_cases c12 : x2 = 5
                  · replace h := bu_t h c12
                    refine bv_tableIn (tgt := 133) dX11_man_29 (by rw [c12]; decide) (by rw [c12]; decide) (by rw [c12]; rfl) (by decide) ?_
                    refine bv_aload_n dX11_man_133 0 rfl ?_
                    refine bz_getA (a := 26) hN okL_0 (hR _ _ _ r0_0_4) dX11_man_134 fl_11_40 rfl ?_
                    refine bz_getA (a := 29) hN okL_26 (hR _ _ _ r0_26_3) dX11_man_137 fl_11_179 rfl ?_
                    refine bv_iload_n dX11_man_140 1 rfl ?_
                    obtain ⟨r13, h⟩ := bu_ix h
                    refine bz_iald hN rkL_29 r13 rfl dX11_man_141 ?_
                    obtain rfl := Option.some.inj h
                    exact bv_iret (x := (I 29 x1.toNatClampNeg)) dX11_man_142 rfl ⟨rfl, rfl⟩
                  · replace h := bu_f h c12
                    by_cases c14 : x2 = 6
                    · replace h := bu_t h c14
                      refine bv_tableIn (tgt := 143) dX11_man_29 (by rw [c14]; decide) (by rw [c14]; decide) (by rw [c14]; rfl) (by decide) ?_
                      refine bv_aload_n dX11_man_143 0 rfl ?_
                      refine bz_getA (a := 26) hN okL_0 (hR _ _ _ r0_0_4) dX11_man_144 fl_11_40 rfl ?_
                      refine bz_getA (a := 30) hN okL_26 (hR _ _ _ r0_26_4) dX11_man_147 fl_11_182 rfl ?_
                      refine bv_iload_n dX11_man_150 1 rfl ?_
                      obtain ⟨r15, h⟩ := bu_ix h
                      refine bz_iald hN rkL_30 r15 rfl dX11_man_151 ?_
                      obtain rfl := Option.some.inj h
                      exact bv_iret (x := (I 30 x1.toNatClampNeg)) dX11_man_152 rfl ⟨rfl, rfl⟩
                    · replace h := bu_f h c14
                      by_cases c16 : x2 = 7
                      · replace h := bu_t h c16
                        refine bv_tableIn (tgt := 153) dX11_man_29 (by rw [c16]; decide) (by rw [c16]; decide) (by rw [c16]; rfl) (by decide) ?_
                        refine bv_aload_n dX11_man_153 0 rfl ?_
                        refine bz_getA (a := 26) hN okL_0 (hR _ _ _ r0_0_4) dX11_man_154 fl_11_40 rfl ?_
                        refine bz_getI hN okL_26 dX11_man_157 fl_11_185 rfl ?_
                        refine bv_iload_n dX11_man_160 1 rfl ?_
                        refine bw_callS (As := [.int (I 26 9), .int x1]) dX11_man_161 mc_11_172 (c_X11_bit (d := d + 1) hN hR rfl) rfl rfl (by decide) ?_
                        obtain rfl := Option.some.inj h
                        exact bv_iret (x := (f_X11_bit (I 26 9) x1)) dX11_man_164 rfl ⟨rfl, rfl⟩
                      · replace h := bu_f h c16
                        by_cases c17 : x2 = 8
                        · replace h := bu_t h c17
                          refine bv_tableIn (tgt := 165) dX11_man_29 (by rw [c17]; decide) (by rw [c17]; decide) (by rw [c17]; rfl) (by decide) ?_
                          refine bv_aload_n dX11_man_165 0 rfl ?_
                          refine bz_getA (a := 26) hN okL_0 (hR _ _ _ r0_0_4) dX11_man_166 fl_11_40 rfl ?_
                          refine bz_getA (a := 31) hN okL_26 (hR _ _ _ r0_26_5) dX11_man_169 fl_11_188 rfl ?_
                          refine bv_iload_n dX11_man_172 1 rfl ?_
                          obtain ⟨r18, h⟩ := bu_ix h
                          refine bz_iald hN rkL_31 r18 rfl dX11_man_173 ?_
                          obtain rfl := Option.some.inj h
                          exact bv_iret (x := (I 31 x1.toNatClampNeg)) dX11_man_174 rfl ⟨rfl, rfl⟩
                        · replace h := bu_f h c17
                          refine bv_tableOut (tgt := 175) dX11_man_29 (bm_sw (k := 9) (by decide) (fun j hj => by match j, hj with | 0, _ => exact c3 | 1, _ => exact c5 | 2, _ => exact c7 | 3, _ => exact c10 | 4, _ => exact c11 | 5, _ => exact c12 | 6, _ => exact c14 | 7, _ => exact c16 | 8, _ => exact c17)) (by decide) ?_
                          refine bv_aload_n dX11_man_175 0 rfl ?_
                          refine bz_getA (a := 4) hN okL_0 (hR _ _ _ r0_0_2) dX11_man_176 fl_11_28 rfl ?_
                          refine bz_getA (a := 9) hN okL_4 (hR _ _ _ r0_4_4) dX11_man_179 fl_11_191 rfl ?_
                          refine bv_iload_n dX11_man_182 1 rfl ?_
                          obtain ⟨r19, h⟩ := bu_ix h
                          refine bz_iald hN rkL_9 r19 rfl dX11_man_183 ?_
                          obtain rfl := Option.some.inj h
                          exact bv_iret (x := (I 9 x1.toNatClampNeg)) dX11_man_184 rfl ⟨rfl, rfl⟩
      · replace h := bu_f h cc
        cases h
def f_X11_isOrder (I : bm_TI) (x1 : Int32) : Option (Bool) := (if x1 < 0 then some false else (if (I 4 13) ≤ x1 then some false else some true))
set_option maxHeartbeats 4000000 in
set_option maxRecDepth 100000 in
theorem c_X11_isOrder {lc : bm_L} {d n : Nat} {I : bm_TI} {J : bm_TJ} {R W : bm_TR} {x1 : Int32} {v : Bool} (hN : 181 ≤ n) (hR : bm_RR R) (h : f_X11_isOrder I x1 = some v) : bm_C lc m_X11_isOrder d n n [.ref 0, .int x1] (I, J, R, W) (fun r M' => r = some (.int (bm_bi v)) ∧ M' = (I, J, R, W)) := by
  refine bm_C.ofV (by decide) (Nat.le_of_ble_eq_true rfl) ?_
  show bm_V lc m_X11_isOrder d n n n 0 [(0, .ref 0), (1, .int x1)] [] (I, J, R, W) _
  unfold f_X11_isOrder at h
  refine bv_iload_n dX11_isOrder_0 1 rfl ?_
  refine bv_if_lt (tgt := 19) dX11_isOrder_1 (by decide) (fun cc => ?_) (fun cc => ?_)
  · replace h := bu_t h cc
    refine bv_iconst (v := 0) dX11_isOrder_19 (by decide) ?_
    obtain rfl := Option.some.inj h
    exact bw_bret (b := false) dX11_isOrder_20 rfl ⟨rfl, rfl⟩
  · replace h := bu_f h cc
    refine bv_iload_n dX11_isOrder_4 1 rfl ?_
    refine bv_aload_n dX11_isOrder_5 0 rfl ?_
    refine bz_getA (a := 4) hN okL_0 (hR _ _ _ r0_0_2) dX11_isOrder_6 fl_11_28 rfl ?_
    refine bz_getI hN okL_4 dX11_isOrder_9 fl_11_135 rfl ?_
    refine bv_icmp_ge (tgt := 19) dX11_isOrder_12 (by decide) (fun cc => ?_) (fun cc => ?_)
    · replace h := bu_t h cc
      refine bv_iconst (v := 0) dX11_isOrder_19 (by decide) ?_
      obtain rfl := Option.some.inj h
      exact bw_bret (b := false) dX11_isOrder_20 rfl ⟨rfl, rfl⟩
    · replace h := bu_f h cc
      refine bv_iconst (v := 1) dX11_isOrder_15 (by decide) ?_
      refine bv_goto (tgt := 20) dX11_isOrder_16 (by decide) ?_
      obtain rfl := Option.some.inj h
      exact bw_bret (b := true) dX11_isOrder_20 rfl ⟨rfl, rfl⟩
def f_X11_order (I : bm_TI) (x1 : Int32) (x2 : Int32) : Option (Int32) := ((f_X11_isOrder I x1).bind fun v1 => (if v1 = true then (if x2 = 0 then (if bm_ix 7 x1 = true then some (I 11 x1.toNatClampNeg) else none) else (if x2 = 1 then (if bm_ix 7 x1 = true then some (I 12 x1.toNatClampNeg) else none) else (if x2 = 2 then ((f_X8_holdersOf I 26 x1).bind fun v8 => some v8) else some (-1)))) else some (-1)))
set_option maxHeartbeats 4000000 in
set_option maxRecDepth 100000 in
theorem c_X11_order {lc : bm_L} {d n : Nat} {I : bm_TI} {J : bm_TJ} {R W : bm_TR} {x1 : Int32} {x2 : Int32} {v : Int32} (hN : 181 ≤ n) (hR : bm_RR R) (h : f_X11_order I x1 x2 = some v) : bm_C lc m_X11_order (d + 1) n n [.ref 0, .int x1, .int x2] (I, J, R, W) (fun r M' => r = some (.int v) ∧ M' = (I, J, R, W)) := by
  refine bm_C.ofV (by decide) (Nat.le_of_ble_eq_true rfl) ?_
  show bm_V lc m_X11_order (d + 1) n n n 0 [(0, .ref 0), (1, .int x1), (2, .int x2)] [] (I, J, R, W) _
  unfold f_X11_order at h
  refine bv_aload_n dX11_order_0 0 rfl ?_
  refine bv_iload_n dX11_order_1 1 rfl ?_
  obtain ⟨v1, p2, h⟩ := bu_bd h
  refine bw_callV (As := [.int x1]) hN okL_0 ⟨_, _, rfl⟩ dX11_order_2 mc_11_194 (c_X11_isOrder (d := d + 0) hN hR p2) rfl rfl (by decide) ?_
  refine bw_ifB_ne (b := v1) (tgt := 10) dX11_order_5 (by decide) (fun cc => ?_) (fun cc => ?_)
  · replace h := bu_bt h cc
    refine bv_iload_n dX11_order_10 2 rfl ?_
    by_cases c3 : x2 = 0
    · replace h := bu_t h c3
      refine bv_tableIn (tgt := 36) dX11_order_11 (by rw [c3]; decide) (by rw [c3]; decide) (by rw [c3]; rfl) (by decide) ?_
      refine bv_aload_n dX11_order_36 0 rfl ?_
      refine bz_getA (a := 4) hN okL_0 (hR _ _ _ r0_0_2) dX11_order_37 fl_11_28 rfl ?_
      refine bz_getA (a := 11) hN okL_4 (hR _ _ _ r0_4_6) dX11_order_40 fl_11_197 rfl ?_
      refine bv_iload_n dX11_order_43 1 rfl ?_
      obtain ⟨r4, h⟩ := bu_ix h
      refine bz_iald hN rkL_11 r4 rfl dX11_order_44 ?_
      obtain rfl := Option.some.inj h
      exact bv_iret (x := (I 11 x1.toNatClampNeg)) dX11_order_45 rfl ⟨rfl, rfl⟩
    · replace h := bu_f h c3
      by_cases c5 : x2 = 1
      · replace h := bu_t h c5
        refine bv_tableIn (tgt := 46) dX11_order_11 (by rw [c5]; decide) (by rw [c5]; decide) (by rw [c5]; rfl) (by decide) ?_
        refine bv_aload_n dX11_order_46 0 rfl ?_
        refine bz_getA (a := 4) hN okL_0 (hR _ _ _ r0_0_2) dX11_order_47 fl_11_28 rfl ?_
        refine bz_getA (a := 12) hN okL_4 (hR _ _ _ r0_4_7) dX11_order_50 fl_11_200 rfl ?_
        refine bv_iload_n dX11_order_53 1 rfl ?_
        obtain ⟨r6, h⟩ := bu_ix h
        refine bz_iald hN rkL_12 r6 rfl dX11_order_54 ?_
        obtain rfl := Option.some.inj h
        exact bv_iret (x := (I 12 x1.toNatClampNeg)) dX11_order_55 rfl ⟨rfl, rfl⟩
      · replace h := bu_f h c5
        by_cases c7 : x2 = 2
        · replace h := bu_t h c7
          refine bv_tableIn (tgt := 56) dX11_order_11 (by rw [c7]; decide) (by rw [c7]; decide) (by rw [c7]; rfl) (by decide) ?_
          refine bv_aload_n dX11_order_56 0 rfl ?_
          refine bz_getA (a := 26) hN okL_0 (hR _ _ _ r0_0_4) dX11_order_57 fl_11_40 rfl ?_
          refine bv_iload_n dX11_order_60 1 rfl ?_
          obtain ⟨v8, p9, h⟩ := bu_bd h
          refine bw_callV (As := [.int x1]) hN okL_26 ⟨_, _, rfl⟩ dX11_order_61 mc_11_203 (c_X8_holdersOf (d := d + 0) hN hR okL_26 r0_26_0 p9) rfl rfl (by decide) ?_
          obtain rfl := Option.some.inj h
          exact bv_iret (x := v8) dX11_order_64 rfl ⟨rfl, rfl⟩
        · replace h := bu_f h c7
          refine bv_tableOut (tgt := 65) dX11_order_11 (bm_sw (k := 3) (by decide) (fun j hj => by match j, hj with | 0, _ => exact c3 | 1, _ => exact c5 | 2, _ => exact c7)) (by decide) ?_
          refine bv_iconst (v := (-1)) dX11_order_65 (by decide) ?_
          obtain rfl := Option.some.inj h
          exact bv_iret (x := (-1)) dX11_order_66 rfl ⟨rfl, rfl⟩
  · replace h := bu_bf h cc
    refine bv_iconst (v := (-1)) dX11_order_8 (by decide) ?_
    obtain rfl := Option.some.inj h
    exact bv_iret (x := (-1)) dX11_order_9 rfl ⟨rfl, rfl⟩
def f_X11_now (I : bm_TI) (x1 : Int32) : Option (Int32) := (if x1 = 0 then some (I 26 10) else (if x1 = 1 then some (I 26 7) else (if x1 = 2 then some (I 26 8) else (if x1 = 3 then ((f_X8_holders I 26).bind fun v5 => some v5) else (if x1 = 4 then some (I 26 9) else (if x1 = 5 then ((f_X8_allLost I).bind fun v9 => some v9) else (if x1 = 6 then some (I 26 11) else some (-1))))))))
set_option maxHeartbeats 4000000 in
set_option maxRecDepth 100000 in
theorem c_X11_now {lc : bm_L} {d n : Nat} {I : bm_TI} {J : bm_TJ} {R W : bm_TR} {x1 : Int32} {v : Int32} (hN : 181 ≤ n) (hR : bm_RR R) (h : f_X11_now I x1 = some v) : bm_C lc m_X11_now (d + 2) n n [.ref 0, .int x1] (I, J, R, W) (fun r M' => r = some (.int v) ∧ M' = (I, J, R, W)) := by
  refine bm_C.ofV (by decide) (Nat.le_of_ble_eq_true rfl) ?_
  show bm_V lc m_X11_now (d + 2) n n n 0 [(0, .ref 0), (1, .int x1)] [] (I, J, R, W) _
  unfold f_X11_now at h
  refine bv_iload_n dX11_now_0 1 rfl ?_
  by_cases c1 : x1 = 0
  · replace h := bu_t h c1
    refine bv_tableIn (tgt := 44) dX11_now_1 (by rw [c1]; decide) (by rw [c1]; decide) (by rw [c1]; rfl) (by decide) ?_
    refine bv_aload_n dX11_now_44 0 rfl ?_
    refine bz_getA (a := 26) hN okL_0 (hR _ _ _ r0_0_4) dX11_now_45 fl_11_40 rfl ?_
    refine bz_getI hN okL_26 dX11_now_48 fl_11_206 rfl ?_
    obtain rfl := Option.some.inj h
    exact bv_iret (x := (I 26 10)) dX11_now_51 rfl ⟨rfl, rfl⟩
  · replace h := bu_f h c1
    by_cases c2 : x1 = 1
    · replace h := bu_t h c2
      refine bv_tableIn (tgt := 52) dX11_now_1 (by rw [c2]; decide) (by rw [c2]; decide) (by rw [c2]; rfl) (by decide) ?_
      refine bv_aload_n dX11_now_52 0 rfl ?_
      refine bz_getA (a := 26) hN okL_0 (hR _ _ _ r0_0_4) dX11_now_53 fl_11_40 rfl ?_
      refine bz_getI hN okL_26 dX11_now_56 fl_11_169 rfl ?_
      obtain rfl := Option.some.inj h
      exact bv_iret (x := (I 26 7)) dX11_now_59 rfl ⟨rfl, rfl⟩
    · replace h := bu_f h c2
      by_cases c3 : x1 = 2
      · replace h := bu_t h c3
        refine bv_tableIn (tgt := 60) dX11_now_1 (by rw [c3]; decide) (by rw [c3]; decide) (by rw [c3]; rfl) (by decide) ?_
        refine bv_aload_n dX11_now_60 0 rfl ?_
        refine bz_getA (a := 26) hN okL_0 (hR _ _ _ r0_0_4) dX11_now_61 fl_11_40 rfl ?_
        refine bz_getI hN okL_26 dX11_now_64 fl_11_176 rfl ?_
        obtain rfl := Option.some.inj h
        exact bv_iret (x := (I 26 8)) dX11_now_67 rfl ⟨rfl, rfl⟩
      · replace h := bu_f h c3
        by_cases c4 : x1 = 3
        · replace h := bu_t h c4
          refine bv_tableIn (tgt := 68) dX11_now_1 (by rw [c4]; decide) (by rw [c4]; decide) (by rw [c4]; rfl) (by decide) ?_
          refine bv_aload_n dX11_now_68 0 rfl ?_
          refine bz_getA (a := 26) hN okL_0 (hR _ _ _ r0_0_4) dX11_now_69 fl_11_40 rfl ?_
          obtain ⟨v5, p6, h⟩ := bu_bd h
          refine bw_callV (As := []) hN okL_26 ⟨_, _, rfl⟩ dX11_now_72 mc_11_209 (c_X8_holders (d := d + 0) hN hR okL_26 r0_26_0 p6) rfl rfl (by decide) ?_
          obtain rfl := Option.some.inj h
          exact bv_iret (x := v5) dX11_now_75 rfl ⟨rfl, rfl⟩
        · replace h := bu_f h c4
          by_cases c7 : x1 = 4
          · replace h := bu_t h c7
            refine bv_tableIn (tgt := 76) dX11_now_1 (by rw [c7]; decide) (by rw [c7]; decide) (by rw [c7]; rfl) (by decide) ?_
            refine bv_aload_n dX11_now_76 0 rfl ?_
            refine bz_getA (a := 26) hN okL_0 (hR _ _ _ r0_0_4) dX11_now_77 fl_11_40 rfl ?_
            refine bz_getI hN okL_26 dX11_now_80 fl_11_185 rfl ?_
            obtain rfl := Option.some.inj h
            exact bv_iret (x := (I 26 9)) dX11_now_83 rfl ⟨rfl, rfl⟩
          · replace h := bu_f h c7
            by_cases c8 : x1 = 5
            · replace h := bu_t h c8
              refine bv_tableIn (tgt := 84) dX11_now_1 (by rw [c8]; decide) (by rw [c8]; decide) (by rw [c8]; rfl) (by decide) ?_
              refine bv_aload_n dX11_now_84 0 rfl ?_
              refine bz_getA (a := 26) hN okL_0 (hR _ _ _ r0_0_4) dX11_now_85 fl_11_40 rfl ?_
              obtain ⟨v9, p10, h⟩ := bu_bd h
              refine bw_callV (As := []) hN okL_26 ⟨_, _, rfl⟩ dX11_now_88 mc_11_213 (c_X8_allLost (d := d + 1) hN hR p10) rfl rfl (by decide) ?_
              obtain rfl := Option.some.inj h
              exact bv_iret (x := v9) dX11_now_91 rfl ⟨rfl, rfl⟩
            · replace h := bu_f h c8
              by_cases c11 : x1 = 6
              · replace h := bu_t h c11
                refine bv_tableIn (tgt := 92) dX11_now_1 (by rw [c11]; decide) (by rw [c11]; decide) (by rw [c11]; rfl) (by decide) ?_
                refine bv_aload_n dX11_now_92 0 rfl ?_
                refine bz_getA (a := 26) hN okL_0 (hR _ _ _ r0_0_4) dX11_now_93 fl_11_40 rfl ?_
                refine bz_getI hN okL_26 dX11_now_96 fl_11_216 rfl ?_
                obtain rfl := Option.some.inj h
                exact bv_iret (x := (I 26 11)) dX11_now_99 rfl ⟨rfl, rfl⟩
              · replace h := bu_f h c11
                refine bv_tableOut (tgt := 100) dX11_now_1 (bm_sw (k := 7) (by decide) (fun j hj => by match j, hj with | 0, _ => exact c1 | 1, _ => exact c2 | 2, _ => exact c3 | 3, _ => exact c4 | 4, _ => exact c7 | 5, _ => exact c8 | 6, _ => exact c11)) (by decide) ?_
                refine bv_iconst (v := (-1)) dX11_now_100 (by decide) ?_
                obtain rfl := Option.some.inj h
                exact bv_iret (x := (-1)) dX11_now_101 rfl ⟨rfl, rfl⟩
def f_X11_settleTrial (I : bm_TI) : Option (bm_TI) := ((f_X4_keep I).bind fun v1 => ((f_X8_copyFrom v1 26 33).bind fun v3 => some v3))
set_option maxHeartbeats 4000000 in
set_option maxRecDepth 100000 in
theorem c_X11_settleTrial {lc : bm_L} {d n : Nat} {I : bm_TI} {J : bm_TJ} {R W : bm_TR} {v : bm_TI} (hN : 181 ≤ n) (hR : bm_RR R) (h : f_X11_settleTrial I = some v) : bm_C lc m_X11_settleTrial (d + 3) n n [.ref 0] (I, J, R, W) (fun r M' => r = none ∧ M' = (v, J, R, W)) := by
  refine bm_C.ofV (by decide) (Nat.le_of_ble_eq_true rfl) ?_
  show bm_V lc m_X11_settleTrial (d + 3) n n n 0 [(0, .ref 0)] [] (I, J, R, W) _
  unfold f_X11_settleTrial at h
  refine bv_aload_n dX11_settleTrial_0 0 rfl ?_
  refine bz_getA (a := 40) hN okL_0 (hR _ _ _ r0_0_6) dX11_settleTrial_1 fl_11_50 rfl ?_
  refine bv_aload_n dX11_settleTrial_4 0 rfl ?_
  refine bz_getA (a := 26) hN okL_0 (hR _ _ _ r0_0_4) dX11_settleTrial_5 fl_11_40 rfl ?_
  obtain ⟨v1, p2, h⟩ := bu_bd h
  refine bw_callVv (As := [.ref 26]) hN okL_40 ⟨_, _, rfl⟩ dX11_settleTrial_8 mc_11_359 (c_X4_keep (d := d + 0) hN hR p2) rfl rfl (by decide) ?_
  refine bv_aload_n dX11_settleTrial_11 0 rfl ?_
  refine bz_getA (a := 26) hN okL_0 (hR _ _ _ r0_0_4) dX11_settleTrial_12 fl_11_40 rfl ?_
  refine bv_aload_n dX11_settleTrial_15 0 rfl ?_
  refine bz_getA (a := 33) hN okL_0 (hR _ _ _ r0_0_5) dX11_settleTrial_16 fl_11_44 rfl ?_
  obtain ⟨v3, p4, h⟩ := bu_bd h
  refine bw_callVv (As := [.ref 33]) hN okL_26 ⟨_, _, rfl⟩ dX11_settleTrial_19 mc_11_226 (c_X8_copyFrom (d := d + 1) hN hR okL_26 okL_33 p4) rfl rfl (by decide) ?_
  obtain rfl := Option.some.inj h
  exact bv_vret dX11_settleTrial_22 rfl ⟨rfl, rfl⟩
def f_X11_act (I : bm_TI) (x1 : Int32) (x2 : Int32) (x3 : Int32) : Option (Int32 × bm_TI) := ((f_X8_copyFrom I 33 26).bind fun v1 => ((f_X8_live v1 x1 x2 x3).bind fun v3 => (if v3.1 = 0 then ((f_X11_settleTrial v3.2).bind fun v5 => some (v3.1, v5)) else some (v3.1, v3.2))))
set_option maxHeartbeats 4000000 in
set_option maxRecDepth 100000 in
theorem c_X11_act {lc : bm_L} {d n : Nat} {I : bm_TI} {J : bm_TJ} {R W : bm_TR} {x1 : Int32} {x2 : Int32} {x3 : Int32} {v : Int32 × bm_TI} (hN : 181 ≤ n) (hR : bm_RR R) (h : f_X11_act I x1 x2 x3 = some v) : bm_C lc m_X11_act (d + 6) n n [.ref 0, .int x1, .int x2, .int x3] (I, J, R, W) (fun r M' => r = some (.int v.1) ∧ M' = (v.2, J, R, W)) := by
  refine bm_C.ofV (by decide) (Nat.le_of_ble_eq_true rfl) ?_
  show bm_V lc m_X11_act (d + 6) n n n 0 [(0, .ref 0), (1, .int x1), (2, .int x2), (3, .int x3)] [] (I, J, R, W) _
  unfold f_X11_act at h
  refine bv_aload_n dX11_act_0 0 rfl ?_
  refine bz_getA (a := 33) hN okL_0 (hR _ _ _ r0_0_5) dX11_act_1 fl_11_44 rfl ?_
  refine bv_aload_n dX11_act_4 0 rfl ?_
  refine bz_getA (a := 26) hN okL_0 (hR _ _ _ r0_0_4) dX11_act_5 fl_11_40 rfl ?_
  obtain ⟨v1, p2, h⟩ := bu_bd h
  refine bw_callVv (As := [.ref 26]) hN okL_33 ⟨_, _, rfl⟩ dX11_act_8 mc_11_226 (c_X8_copyFrom (d := d + 4) hN hR okL_33 okL_26 p2) rfl rfl (by decide) ?_
  refine bv_aload_n dX11_act_11 0 rfl ?_
  refine bz_getA (a := 33) hN okL_0 (hR _ _ _ r0_0_5) dX11_act_12 fl_11_44 rfl ?_
  refine bv_iload_n dX11_act_15 1 rfl ?_
  refine bv_iload_n dX11_act_16 2 rfl ?_
  refine bv_iload_n dX11_act_17 3 rfl ?_
  obtain ⟨v3, p4, h⟩ := bu_bd h
  refine bw_callV (As := [.int x1, .int x2, .int x3]) hN okL_33 ⟨_, _, rfl⟩ dX11_act_18 mc_11_356 (c_X8_live (d := d + 0) hN hR p4) rfl rfl (by decide) ?_
  refine bv_istore (ls1 := [(0, .ref 0), (1, .int x1), (2, .int x2), (3, .int x3), (4, .int v3.1)]) dX11_act_21 (by decide) rfl rfl ?_
  refine bv_iload dX11_act_23 4 rfl ?_
  refine bv_if_ne (tgt := 32) dX11_act_25 (by decide) (fun cc => ?_) (fun cc => ?_)
  · replace h := bu_f h cc
    refine bv_iload dX11_act_32 4 rfl ?_
    obtain rfl := Option.some.inj h
    exact bv_iret (x := v3.1) dX11_act_34 rfl ⟨rfl, rfl⟩
  · replace h := bu_t h cc
    refine bv_aload_n dX11_act_28 0 rfl ?_
    obtain ⟨v5, p6, h⟩ := bu_bd h
    refine bw_callVv (As := []) hN okL_0 ⟨_, _, rfl⟩ dX11_act_29 mc_11_232 (c_X11_settleTrial (d := d + 2) hN hR p6) rfl rfl (by decide) ?_
    refine bv_iload dX11_act_32 4 rfl ?_
    obtain rfl := Option.some.inj h
    exact bv_iret (x := v3.1) dX11_act_34 rfl ⟨rfl, rfl⟩
def f_X11_isLift (x0 : Int32) : Bool := (if x0 < 1 then false else (if 3 < x0 then false else true))
set_option maxHeartbeats 4000000 in
set_option maxRecDepth 100000 in
theorem c_X11_isLift {lc : bm_L} {d n : Nat} {I : bm_TI} {J : bm_TJ} {R W : bm_TR} {x0 : Int32} {v : Bool} (hN : 181 ≤ n) (hR : bm_RR R) (h : f_X11_isLift x0 = v) : bm_C lc m_X11_isLift d n n [.int x0] (I, J, R, W) (fun r M' => r = some (.int (bm_bi v)) ∧ M' = (I, J, R, W)) := by
  refine bm_C.ofV (by decide) (Nat.le_of_ble_eq_true rfl) ?_
  show bm_V lc m_X11_isLift d n n n 0 [(0, .int x0)] [] (I, J, R, W) _
  unfold f_X11_isLift at h
  refine bv_iload_n dX11_isLift_0 0 rfl ?_
  refine bv_iconst (v := 1) dX11_isLift_1 (by decide) ?_
  refine bv_icmp_lt (tgt := 14) dX11_isLift_2 (by decide) (fun cc => ?_) (fun cc => ?_)
  · replace h := bu_t h cc
    refine bv_iconst (v := 0) dX11_isLift_14 (by decide) ?_
    subst h
    exact bw_bret (b := false) dX11_isLift_15 rfl ⟨rfl, rfl⟩
  · replace h := bu_f h cc
    refine bv_iload_n dX11_isLift_5 0 rfl ?_
    refine bv_iconst (v := 3) dX11_isLift_6 (by decide) ?_
    refine bv_icmp_gt (tgt := 14) dX11_isLift_7 (by decide) (fun cc => ?_) (fun cc => ?_)
    · replace h := bu_t h cc
      refine bv_iconst (v := 0) dX11_isLift_14 (by decide) ?_
      subst h
      exact bw_bret (b := false) dX11_isLift_15 rfl ⟨rfl, rfl⟩
    · replace h := bu_f h cc
      refine bv_iconst (v := 1) dX11_isLift_10 (by decide) ?_
      refine bv_goto (tgt := 15) dX11_isLift_11 (by decide) ?_
      subst h
      exact bw_bret (b := true) dX11_isLift_15 rfl ⟨rfl, rfl⟩
def f_X11_lift (I : bm_TI) (x1 : Int32) (x2 : Int32) : Option (Int32 × bm_TI) := ((f_X11_isMan I x1).bind fun v1 => (if v1 = true then (if (f_X11_isLift x2) = true then ((f_X11_act I 0 x1 x2).bind fun v3 => some (v3.1, v3.2)) else some ((-1), I)) else some ((-1), I)))
set_option maxHeartbeats 4000000 in
set_option maxRecDepth 100000 in
theorem c_X11_lift {lc : bm_L} {d n : Nat} {I : bm_TI} {J : bm_TJ} {R W : bm_TR} {x1 : Int32} {x2 : Int32} {v : Int32 × bm_TI} (hN : 181 ≤ n) (hR : bm_RR R) (h : f_X11_lift I x1 x2 = some v) : bm_C lc m_X11_lift (d + 7) n n [.ref 0, .int x1, .int x2] (I, J, R, W) (fun r M' => r = some (.int v.1) ∧ M' = (v.2, J, R, W)) := by
  refine bm_C.ofV (by decide) (Nat.le_of_ble_eq_true rfl) ?_
  show bm_V lc m_X11_lift (d + 7) n n n 0 [(0, .ref 0), (1, .int x1), (2, .int x2)] [] (I, J, R, W) _
  unfold f_X11_lift at h
  refine bv_aload_n dX11_lift_0 0 rfl ?_
  refine bv_iload_n dX11_lift_1 1 rfl ?_
  obtain ⟨v1, p2, h⟩ := bu_bd h
  refine bw_callV (As := [.int x1]) hN okL_0 ⟨_, _, rfl⟩ dX11_lift_2 mc_11_147 (c_X11_isMan (d := d + 6) hN hR p2) rfl rfl (by decide) ?_
  refine bw_ifB_eq (b := v1) (tgt := 25) dX11_lift_5 (by decide) (fun cc => ?_) (fun cc => ?_)
  · replace h := bu_bf h cc
    refine bv_iconst (v := (-1)) dX11_lift_25 (by decide) ?_
    obtain rfl := Option.some.inj h
    exact bv_iret (x := (-1)) dX11_lift_26 rfl ⟨rfl, rfl⟩
  · replace h := bu_bt h cc
    refine bv_iload_n dX11_lift_8 2 rfl ?_
    refine bw_callS (As := [.int x2]) dX11_lift_9 mc_11_219 (c_X11_isLift (d := d + 6) hN hR rfl) rfl rfl (by decide) ?_
    refine bw_ifB_eq (b := (f_X11_isLift x2)) (tgt := 25) dX11_lift_12 (by decide) (fun cc => ?_) (fun cc => ?_)
    · replace h := bu_bf h cc
      refine bv_iconst (v := (-1)) dX11_lift_25 (by decide) ?_
      obtain rfl := Option.some.inj h
      exact bv_iret (x := (-1)) dX11_lift_26 rfl ⟨rfl, rfl⟩
    · replace h := bu_bt h cc
      refine bv_aload_n dX11_lift_15 0 rfl ?_
      refine bv_iconst (v := 0) dX11_lift_16 (by decide) ?_
      refine bv_iload_n dX11_lift_17 1 rfl ?_
      refine bv_iload_n dX11_lift_18 2 rfl ?_
      obtain ⟨v3, p4, h⟩ := bu_bd h
      refine bw_callV (As := [.int 0, .int x1, .int x2]) hN okL_0 ⟨_, _, rfl⟩ dX11_lift_19 mc_11_222 (c_X11_act (d := d + 0) hN hR p4) rfl rfl (by decide) ?_
      refine bv_goto (tgt := 26) dX11_lift_22 (by decide) ?_
      obtain rfl := Option.some.inj h
      exact bv_iret (x := v3.1) dX11_lift_26 rfl ⟨rfl, rfl⟩
def f_X11_give (I : bm_TI) (x1 : Int32) (x2 : Int32) : Option (Int32 × bm_TI) := ((f_X11_isMan I x1).bind fun v1 => (if v1 = true then ((f_X11_isOrder I x2).bind fun v3 => (if v3 = true then ((f_X11_act I 1 x1 x2).bind fun v5 => some (v5.1, v5.2)) else some ((-1), I))) else some ((-1), I)))
set_option maxHeartbeats 4000000 in
set_option maxRecDepth 100000 in
theorem c_X11_give {lc : bm_L} {d n : Nat} {I : bm_TI} {J : bm_TJ} {R W : bm_TR} {x1 : Int32} {x2 : Int32} {v : Int32 × bm_TI} (hN : 181 ≤ n) (hR : bm_RR R) (h : f_X11_give I x1 x2 = some v) : bm_C lc m_X11_give (d + 7) n n [.ref 0, .int x1, .int x2] (I, J, R, W) (fun r M' => r = some (.int v.1) ∧ M' = (v.2, J, R, W)) := by
  refine bm_C.ofV (by decide) (Nat.le_of_ble_eq_true rfl) ?_
  show bm_V lc m_X11_give (d + 7) n n n 0 [(0, .ref 0), (1, .int x1), (2, .int x2)] [] (I, J, R, W) _
  unfold f_X11_give at h
  refine bv_aload_n dX11_give_0 0 rfl ?_
  refine bv_iload_n dX11_give_1 1 rfl ?_
  obtain ⟨v1, p2, h⟩ := bu_bd h
  refine bw_callV (As := [.int x1]) hN okL_0 ⟨_, _, rfl⟩ dX11_give_2 mc_11_147 (c_X11_isMan (d := d + 6) hN hR p2) rfl rfl (by decide) ?_
  refine bw_ifB_eq (b := v1) (tgt := 26) dX11_give_5 (by decide) (fun cc => ?_) (fun cc => ?_)
  · replace h := bu_bf h cc
    refine bv_iconst (v := (-1)) dX11_give_26 (by decide) ?_
    obtain rfl := Option.some.inj h
    exact bv_iret (x := (-1)) dX11_give_27 rfl ⟨rfl, rfl⟩
  · replace h := bu_bt h cc
    refine bv_aload_n dX11_give_8 0 rfl ?_
    refine bv_iload_n dX11_give_9 2 rfl ?_
    obtain ⟨v3, p4, h⟩ := bu_bd h
    refine bw_callV (As := [.int x2]) hN okL_0 ⟨_, _, rfl⟩ dX11_give_10 mc_11_194 (c_X11_isOrder (d := d + 6) hN hR p4) rfl rfl (by decide) ?_
    refine bw_ifB_eq (b := v3) (tgt := 26) dX11_give_13 (by decide) (fun cc => ?_) (fun cc => ?_)
    · replace h := bu_bf h cc
      refine bv_iconst (v := (-1)) dX11_give_26 (by decide) ?_
      obtain rfl := Option.some.inj h
      exact bv_iret (x := (-1)) dX11_give_27 rfl ⟨rfl, rfl⟩
    · replace h := bu_bt h cc
      refine bv_aload_n dX11_give_16 0 rfl ?_
      refine bv_iconst (v := 1) dX11_give_17 (by decide) ?_
      refine bv_iload_n dX11_give_18 1 rfl ?_
      refine bv_iload_n dX11_give_19 2 rfl ?_
      obtain ⟨v5, p6, h⟩ := bu_bd h
      refine bw_callV (As := [.int 1, .int x1, .int x2]) hN okL_0 ⟨_, _, rfl⟩ dX11_give_20 mc_11_222 (c_X11_act (d := d + 0) hN hR p6) rfl rfl (by decide) ?_
      refine bv_goto (tgt := 27) dX11_give_23 (by decide) ?_
      obtain rfl := Option.some.inj h
      exact bv_iret (x := v5.1) dX11_give_27 rfl ⟨rfl, rfl⟩
def f_X11_sleep (I : bm_TI) (x1 : Int32) : Option (Int32 × bm_TI) := ((f_X11_isMan I x1).bind fun v1 => (if v1 = true then ((f_X11_act I 2 x1 0).bind fun v3 => some (v3.1, v3.2)) else some ((-1), I)))
set_option maxHeartbeats 4000000 in
set_option maxRecDepth 100000 in
theorem c_X11_sleep {lc : bm_L} {d n : Nat} {I : bm_TI} {J : bm_TJ} {R W : bm_TR} {x1 : Int32} {v : Int32 × bm_TI} (hN : 181 ≤ n) (hR : bm_RR R) (h : f_X11_sleep I x1 = some v) : bm_C lc m_X11_sleep (d + 7) n n [.ref 0, .int x1] (I, J, R, W) (fun r M' => r = some (.int v.1) ∧ M' = (v.2, J, R, W)) := by
  refine bm_C.ofV (by decide) (Nat.le_of_ble_eq_true rfl) ?_
  show bm_V lc m_X11_sleep (d + 7) n n n 0 [(0, .ref 0), (1, .int x1)] [] (I, J, R, W) _
  unfold f_X11_sleep at h
  refine bv_aload_n dX11_sleep_0 0 rfl ?_
  refine bv_iload_n dX11_sleep_1 1 rfl ?_
  obtain ⟨v1, p2, h⟩ := bu_bd h
  refine bw_callV (As := [.int x1]) hN okL_0 ⟨_, _, rfl⟩ dX11_sleep_2 mc_11_147 (c_X11_isMan (d := d + 6) hN hR p2) rfl rfl (by decide) ?_
  refine bw_ifB_eq (b := v1) (tgt := 18) dX11_sleep_5 (by decide) (fun cc => ?_) (fun cc => ?_)
  · replace h := bu_bf h cc
    refine bv_iconst (v := (-1)) dX11_sleep_18 (by decide) ?_
    obtain rfl := Option.some.inj h
    exact bv_iret (x := (-1)) dX11_sleep_19 rfl ⟨rfl, rfl⟩
  · replace h := bu_bt h cc
    refine bv_aload_n dX11_sleep_8 0 rfl ?_
    refine bv_iconst (v := 2) dX11_sleep_9 (by decide) ?_
    refine bv_iload_n dX11_sleep_10 1 rfl ?_
    refine bv_iconst (v := 0) dX11_sleep_11 (by decide) ?_
    obtain ⟨v3, p4, h⟩ := bu_bd h
    refine bw_callV (As := [.int 2, .int x1, .int 0]) hN okL_0 ⟨_, _, rfl⟩ dX11_sleep_12 mc_11_222 (c_X11_act (d := d + 0) hN hR p4) rfl rfl (by decide) ?_
    refine bv_goto (tgt := 19) dX11_sleep_15 (by decide) ?_
    obtain rfl := Option.some.inj h
    exact bv_iret (x := v3.1) dX11_sleep_19 rfl ⟨rfl, rfl⟩
def f_X11_wake (I : bm_TI) (x1 : Int32) : Option (Int32 × bm_TI) := ((f_X11_isMan I x1).bind fun v1 => (if v1 = true then ((f_X11_act I 3 x1 0).bind fun v3 => some (v3.1, v3.2)) else some ((-1), I)))
set_option maxHeartbeats 4000000 in
set_option maxRecDepth 100000 in
theorem c_X11_wake {lc : bm_L} {d n : Nat} {I : bm_TI} {J : bm_TJ} {R W : bm_TR} {x1 : Int32} {v : Int32 × bm_TI} (hN : 181 ≤ n) (hR : bm_RR R) (h : f_X11_wake I x1 = some v) : bm_C lc m_X11_wake (d + 7) n n [.ref 0, .int x1] (I, J, R, W) (fun r M' => r = some (.int v.1) ∧ M' = (v.2, J, R, W)) := by
  refine bm_C.ofV (by decide) (Nat.le_of_ble_eq_true rfl) ?_
  show bm_V lc m_X11_wake (d + 7) n n n 0 [(0, .ref 0), (1, .int x1)] [] (I, J, R, W) _
  unfold f_X11_wake at h
  refine bv_aload_n dX11_wake_0 0 rfl ?_
  refine bv_iload_n dX11_wake_1 1 rfl ?_
  obtain ⟨v1, p2, h⟩ := bu_bd h
  refine bw_callV (As := [.int x1]) hN okL_0 ⟨_, _, rfl⟩ dX11_wake_2 mc_11_147 (c_X11_isMan (d := d + 6) hN hR p2) rfl rfl (by decide) ?_
  refine bw_ifB_eq (b := v1) (tgt := 18) dX11_wake_5 (by decide) (fun cc => ?_) (fun cc => ?_)
  · replace h := bu_bf h cc
    refine bv_iconst (v := (-1)) dX11_wake_18 (by decide) ?_
    obtain rfl := Option.some.inj h
    exact bv_iret (x := (-1)) dX11_wake_19 rfl ⟨rfl, rfl⟩
  · replace h := bu_bt h cc
    refine bv_aload_n dX11_wake_8 0 rfl ?_
    refine bv_iconst (v := 3) dX11_wake_9 (by decide) ?_
    refine bv_iload_n dX11_wake_10 1 rfl ?_
    refine bv_iconst (v := 0) dX11_wake_11 (by decide) ?_
    obtain ⟨v3, p4, h⟩ := bu_bd h
    refine bw_callV (As := [.int 3, .int x1, .int 0]) hN okL_0 ⟨_, _, rfl⟩ dX11_wake_12 mc_11_222 (c_X11_act (d := d + 0) hN hR p4) rfl rfl (by decide) ?_
    refine bv_goto (tgt := 19) dX11_wake_15 (by decide) ?_
    obtain rfl := Option.some.inj h
    exact bv_iret (x := v3.1) dX11_wake_19 rfl ⟨rfl, rfl⟩
def f_X11_soot (I : bm_TI) (x1 : Int32) : Option (Int32 × bm_TI) := ((f_X11_isMan I x1).bind fun v1 => (if v1 = true then ((f_X11_act I 4 x1 0).bind fun v3 => some (v3.1, v3.2)) else some ((-1), I)))
set_option maxHeartbeats 4000000 in
set_option maxRecDepth 100000 in
theorem c_X11_soot {lc : bm_L} {d n : Nat} {I : bm_TI} {J : bm_TJ} {R W : bm_TR} {x1 : Int32} {v : Int32 × bm_TI} (hN : 181 ≤ n) (hR : bm_RR R) (h : f_X11_soot I x1 = some v) : bm_C lc m_X11_soot (d + 7) n n [.ref 0, .int x1] (I, J, R, W) (fun r M' => r = some (.int v.1) ∧ M' = (v.2, J, R, W)) := by
  refine bm_C.ofV (by decide) (Nat.le_of_ble_eq_true rfl) ?_
  show bm_V lc m_X11_soot (d + 7) n n n 0 [(0, .ref 0), (1, .int x1)] [] (I, J, R, W) _
  unfold f_X11_soot at h
  refine bv_aload_n dX11_soot_0 0 rfl ?_
  refine bv_iload_n dX11_soot_1 1 rfl ?_
  obtain ⟨v1, p2, h⟩ := bu_bd h
  refine bw_callV (As := [.int x1]) hN okL_0 ⟨_, _, rfl⟩ dX11_soot_2 mc_11_147 (c_X11_isMan (d := d + 6) hN hR p2) rfl rfl (by decide) ?_
  refine bw_ifB_eq (b := v1) (tgt := 18) dX11_soot_5 (by decide) (fun cc => ?_) (fun cc => ?_)
  · replace h := bu_bf h cc
    refine bv_iconst (v := (-1)) dX11_soot_18 (by decide) ?_
    obtain rfl := Option.some.inj h
    exact bv_iret (x := (-1)) dX11_soot_19 rfl ⟨rfl, rfl⟩
  · replace h := bu_bt h cc
    refine bv_aload_n dX11_soot_8 0 rfl ?_
    refine bv_iconst (v := 4) dX11_soot_9 (by decide) ?_
    refine bv_iload_n dX11_soot_10 1 rfl ?_
    refine bv_iconst (v := 0) dX11_soot_11 (by decide) ?_
    obtain ⟨v3, p4, h⟩ := bu_bd h
    refine bw_callV (As := [.int 4, .int x1, .int 0]) hN okL_0 ⟨_, _, rfl⟩ dX11_soot_12 mc_11_222 (c_X11_act (d := d + 0) hN hR p4) rfl rfl (by decide) ?_
    refine bv_goto (tgt := 19) dX11_soot_15 (by decide) ?_
    obtain rfl := Option.some.inj h
    exact bv_iret (x := v3.1) dX11_soot_19 rfl ⟨rfl, rfl⟩
def f_X11_go (I : bm_TI) (x1 : Int32) (x2 : Int32) : Option (Int32 × bm_TI) := ((f_X11_isMan I x1).bind fun v1 => (if v1 = true then (if x2 < 0 then some ((-1), I) else (if 4 ≤ x2 then some ((-1), I) else ((f_X11_act I 5 x1 x2).bind fun v3 => some (v3.1, v3.2)))) else some ((-1), I)))
set_option maxHeartbeats 4000000 in
set_option maxRecDepth 100000 in
theorem c_X11_go {lc : bm_L} {d n : Nat} {I : bm_TI} {J : bm_TJ} {R W : bm_TR} {x1 : Int32} {x2 : Int32} {v : Int32 × bm_TI} (hN : 181 ≤ n) (hR : bm_RR R) (h : f_X11_go I x1 x2 = some v) : bm_C lc m_X11_go (d + 7) n n [.ref 0, .int x1, .int x2] (I, J, R, W) (fun r M' => r = some (.int v.1) ∧ M' = (v.2, J, R, W)) := by
  refine bm_C.ofV (by decide) (Nat.le_of_ble_eq_true rfl) ?_
  show bm_V lc m_X11_go (d + 7) n n n 0 [(0, .ref 0), (1, .int x1), (2, .int x2)] [] (I, J, R, W) _
  unfold f_X11_go at h
  refine bv_aload_n dX11_go_0 0 rfl ?_
  refine bv_iload_n dX11_go_1 1 rfl ?_
  obtain ⟨v1, p2, h⟩ := bu_bd h
  refine bw_callV (As := [.int x1]) hN okL_0 ⟨_, _, rfl⟩ dX11_go_2 mc_11_147 (c_X11_isMan (d := d + 6) hN hR p2) rfl rfl (by decide) ?_
  refine bw_ifB_eq (b := v1) (tgt := 27) dX11_go_5 (by decide) (fun cc => ?_) (fun cc => ?_)
  · replace h := bu_bf h cc
    refine bv_iconst (v := (-1)) dX11_go_27 (by decide) ?_
    obtain rfl := Option.some.inj h
    exact bv_iret (x := (-1)) dX11_go_28 rfl ⟨rfl, rfl⟩
  · replace h := bu_bt h cc
    refine bv_iload_n dX11_go_8 2 rfl ?_
    refine bv_if_lt (tgt := 27) dX11_go_9 (by decide) (fun cc => ?_) (fun cc => ?_)
    · replace h := bu_t h cc
      refine bv_iconst (v := (-1)) dX11_go_27 (by decide) ?_
      obtain rfl := Option.some.inj h
      exact bv_iret (x := (-1)) dX11_go_28 rfl ⟨rfl, rfl⟩
    · replace h := bu_f h cc
      refine bv_iload_n dX11_go_12 2 rfl ?_
      refine bv_iconst (v := 4) dX11_go_13 (by decide) ?_
      refine bv_icmp_ge (tgt := 27) dX11_go_14 (by decide) (fun cc => ?_) (fun cc => ?_)
      · replace h := bu_t h cc
        refine bv_iconst (v := (-1)) dX11_go_27 (by decide) ?_
        obtain rfl := Option.some.inj h
        exact bv_iret (x := (-1)) dX11_go_28 rfl ⟨rfl, rfl⟩
      · replace h := bu_f h cc
        refine bv_aload_n dX11_go_17 0 rfl ?_
        refine bv_iconst (v := 5) dX11_go_18 (by decide) ?_
        refine bv_iload_n dX11_go_19 1 rfl ?_
        refine bv_iload_n dX11_go_20 2 rfl ?_
        obtain ⟨v3, p4, h⟩ := bu_bd h
        refine bw_callV (As := [.int 5, .int x1, .int x2]) hN okL_0 ⟨_, _, rfl⟩ dX11_go_21 mc_11_222 (c_X11_act (d := d + 0) hN hR p4) rfl rfl (by decide) ?_
        refine bv_goto (tgt := 28) dX11_go_24 (by decide) ?_
        obtain rfl := Option.some.inj h
        exact bv_iret (x := v3.1) dX11_go_28 rfl ⟨rfl, rfl⟩
def f_X11_hours (I : bm_TI) (x1 : Int32) : Option (Int32 × bm_TI) := (if x1 < 1 then some ((-1), I) else (if x1 ≤ 60 then ((f_X8_copyFrom I 33 26).bind fun v1 => ((f_X8_passHours v1 x1).bind fun v3 => (if v3.1 ≤ 0 then some (v3.1, v3.2) else ((f_X11_settleTrial v3.2).bind fun v5 => some (v3.1, v5))))) else some ((-1), I)))
set_option maxHeartbeats 4000000 in
set_option maxRecDepth 100000 in
theorem c_X11_hours {lc : bm_L} {d n : Nat} {I : bm_TI} {J : bm_TJ} {R W : bm_TR} {x1 : Int32} {v : Int32 × bm_TI} (hN : 181 ≤ n) (hR : bm_RR R) (h : f_X11_hours I x1 = some v) : bm_C lc m_X11_hours (d + 5) n n [.ref 0, .int x1] (I, J, R, W) (fun r M' => r = some (.int v.1) ∧ M' = (v.2, J, R, W)) := by
  refine bm_C.ofV (by decide) (Nat.le_of_ble_eq_true rfl) ?_
  show bm_V lc m_X11_hours (d + 5) n n n 0 [(0, .ref 0), (1, .int x1)] [] (I, J, R, W) _
  unfold f_X11_hours at h
  refine bv_iload_n dX11_hours_0 1 rfl ?_
  refine bv_iconst (v := 1) dX11_hours_1 (by decide) ?_
  refine bv_icmp_lt (tgt := 11) dX11_hours_2 (by decide) (fun cc => ?_) (fun cc => ?_)
  · replace h := bu_t h cc
    refine bv_iconst (v := (-1)) dX11_hours_11 (by decide) ?_
    obtain rfl := Option.some.inj h
    exact bv_iret (x := (-1)) dX11_hours_12 rfl ⟨rfl, rfl⟩
  · replace h := bu_f h cc
    refine bv_iload_n dX11_hours_5 1 rfl ?_
    refine bv_bipush (v := 60) dX11_hours_6 (by decide) ?_
    refine bv_icmp_le (tgt := 13) dX11_hours_8 (by decide) (fun cc => ?_) (fun cc => ?_)
    · replace h := bu_t h cc
      refine bv_aload_n dX11_hours_13 0 rfl ?_
      refine bz_getA (a := 33) hN okL_0 (hR _ _ _ r0_0_5) dX11_hours_14 fl_11_44 rfl ?_
      refine bv_aload_n dX11_hours_17 0 rfl ?_
      refine bz_getA (a := 26) hN okL_0 (hR _ _ _ r0_0_4) dX11_hours_18 fl_11_40 rfl ?_
      obtain ⟨v1, p2, h⟩ := bu_bd h
      refine bw_callVv (As := [.ref 26]) hN okL_33 ⟨_, _, rfl⟩ dX11_hours_21 mc_11_226 (c_X8_copyFrom (d := d + 3) hN hR okL_33 okL_26 p2) rfl rfl (by decide) ?_
      refine bv_aload_n dX11_hours_24 0 rfl ?_
      refine bz_getA (a := 33) hN okL_0 (hR _ _ _ r0_0_5) dX11_hours_25 fl_11_44 rfl ?_
      refine bv_iload_n dX11_hours_28 1 rfl ?_
      obtain ⟨v3, p4, h⟩ := bu_bd h
      refine bw_callV (As := [.int x1]) hN okL_33 ⟨_, _, rfl⟩ dX11_hours_29 mc_11_229 (c_X8_passHours (d := d + 0) hN hR p4) rfl rfl (by decide) ?_
      refine bv_istore_n (ls1 := [(0, .ref 0), (1, .int x1), (2, .int v3.1)]) dX11_hours_32 (by decide) rfl rfl ?_
      refine bv_iload_n dX11_hours_33 2 rfl ?_
      refine bv_if_le (tgt := 41) dX11_hours_34 (by decide) (fun cc => ?_) (fun cc => ?_)
      · replace h := bu_t h cc
        refine bv_iload_n dX11_hours_41 2 rfl ?_
        obtain rfl := Option.some.inj h
        exact bv_iret (x := v3.1) dX11_hours_42 rfl ⟨rfl, rfl⟩
      · replace h := bu_f h cc
        refine bv_aload_n dX11_hours_37 0 rfl ?_
        obtain ⟨v5, p6, h⟩ := bu_bd h
        refine bw_callVv (As := []) hN okL_0 ⟨_, _, rfl⟩ dX11_hours_38 mc_11_232 (c_X11_settleTrial (d := d + 1) hN hR p6) rfl rfl (by decide) ?_
        refine bv_iload_n dX11_hours_41 2 rfl ?_
        obtain rfl := Option.some.inj h
        exact bv_iret (x := v3.1) dX11_hours_42 rfl ⟨rfl, rfl⟩
    · replace h := bu_f h cc
      refine bv_iconst (v := (-1)) dX11_hours_11 (by decide) ?_
      obtain rfl := Option.some.inj h
      exact bv_iret (x := (-1)) dX11_hours_12 rfl ⟨rfl, rfl⟩
def f_X11_undo (I : bm_TI) : Option (Int32 × bm_TI) := ((f_X4_bringBack I).bind fun v1 => some (v1.1, v1.2))
set_option maxHeartbeats 4000000 in
set_option maxRecDepth 100000 in
theorem c_X11_undo {lc : bm_L} {d n : Nat} {I : bm_TI} {J : bm_TJ} {R W : bm_TR} {v : Int32 × bm_TI} (hN : 181 ≤ n) (hR : bm_RR R) (h : f_X11_undo I = some v) : bm_C lc m_X11_undo (d + 3) n n [.ref 0] (I, J, R, W) (fun r M' => r = some (.int v.1) ∧ M' = (v.2, J, R, W)) := by
  refine bm_C.ofV (by decide) (Nat.le_of_ble_eq_true rfl) ?_
  show bm_V lc m_X11_undo (d + 3) n n n 0 [(0, .ref 0)] [] (I, J, R, W) _
  unfold f_X11_undo at h
  refine bv_aload_n dX11_undo_0 0 rfl ?_
  refine bz_getA (a := 40) hN okL_0 (hR _ _ _ r0_0_6) dX11_undo_1 fl_11_50 rfl ?_
  refine bv_aload_n dX11_undo_4 0 rfl ?_
  refine bz_getA (a := 26) hN okL_0 (hR _ _ _ r0_0_4) dX11_undo_5 fl_11_40 rfl ?_
  obtain ⟨v1, p2, h⟩ := bu_bd h
  refine bw_callV (As := [.ref 26]) hN okL_40 ⟨_, _, rfl⟩ dX11_undo_8 mc_11_235 (c_X4_bringBack (d := d + 0) hN hR p2) rfl rfl (by decide) ?_
  obtain rfl := Option.some.inj h
  exact bv_iret (x := v1.1) dX11_undo_11 rfl ⟨rfl, rfl⟩
def f_X11_sees (I : bm_TI) (x1 : Int32) : Option (Int32) := ((f_X11_isMan I x1).bind fun v1 => (if v1 = true then ((f_X8_seenBy I x1).bind fun v3 => some v3) else some (-1)))
set_option maxHeartbeats 4000000 in
set_option maxRecDepth 100000 in
theorem c_X11_sees {lc : bm_L} {d n : Nat} {I : bm_TI} {J : bm_TJ} {R W : bm_TR} {x1 : Int32} {v : Int32} (hN : 181 ≤ n) (hR : bm_RR R) (h : f_X11_sees I x1 = some v) : bm_C lc m_X11_sees (d + 4) n n [.ref 0, .int x1] (I, J, R, W) (fun r M' => r = some (.int v) ∧ M' = (I, J, R, W)) := by
  refine bm_C.ofV (by decide) (Nat.le_of_ble_eq_true rfl) ?_
  show bm_V lc m_X11_sees (d + 4) n n n 0 [(0, .ref 0), (1, .int x1)] [] (I, J, R, W) _
  unfold f_X11_sees at h
  refine bv_aload_n dX11_sees_0 0 rfl ?_
  refine bv_iload_n dX11_sees_1 1 rfl ?_
  obtain ⟨v1, p2, h⟩ := bu_bd h
  refine bw_callV (As := [.int x1]) hN okL_0 ⟨_, _, rfl⟩ dX11_sees_2 mc_11_147 (c_X11_isMan (d := d + 3) hN hR p2) rfl rfl (by decide) ?_
  refine bw_ifB_eq (b := v1) (tgt := 19) dX11_sees_5 (by decide) (fun cc => ?_) (fun cc => ?_)
  · replace h := bu_bf h cc
    refine bv_iconst (v := (-1)) dX11_sees_19 (by decide) ?_
    obtain rfl := Option.some.inj h
    exact bv_iret (x := (-1)) dX11_sees_20 rfl ⟨rfl, rfl⟩
  · replace h := bu_bt h cc
    refine bv_aload_n dX11_sees_8 0 rfl ?_
    refine bz_getA (a := 26) hN okL_0 (hR _ _ _ r0_0_4) dX11_sees_9 fl_11_40 rfl ?_
    refine bv_iload_n dX11_sees_12 1 rfl ?_
    obtain ⟨v3, p4, h⟩ := bu_bd h
    refine bw_callV (As := [.int x1]) hN okL_26 ⟨_, _, rfl⟩ dX11_sees_13 mc_11_239 (c_X8_seenBy (d := d + 0) hN hR p4) rfl rfl (by decide) ?_
    refine bv_goto (tgt := 20) dX11_sees_16 (by decide) ?_
    obtain rfl := Option.some.inj h
    exact bv_iret (x := v3) dX11_sees_20 rfl ⟨rfl, rfl⟩
def f_X11_reads (I : bm_TI) (x1 : Int32) : Option (Int32) := ((f_X11_isMan I x1).bind fun v1 => (if v1 = true then ((f_X8_rangeOf I x1).bind fun v3 => ((f_X8_readersOf I 26 x1 v3).bind fun v5 => some v5)) else some (-1)))
set_option maxHeartbeats 4000000 in
set_option maxRecDepth 100000 in
theorem c_X11_reads {lc : bm_L} {d n : Nat} {I : bm_TI} {J : bm_TJ} {R W : bm_TR} {x1 : Int32} {v : Int32} (hN : 181 ≤ n) (hR : bm_RR R) (h : f_X11_reads I x1 = some v) : bm_C lc m_X11_reads (d + 3) n n [.ref 0, .int x1] (I, J, R, W) (fun r M' => r = some (.int v) ∧ M' = (I, J, R, W)) := by
  refine bm_C.ofV (by decide) (Nat.le_of_ble_eq_true rfl) ?_
  show bm_V lc m_X11_reads (d + 3) n n n 0 [(0, .ref 0), (1, .int x1)] [] (I, J, R, W) _
  unfold f_X11_reads at h
  refine bv_aload_n dX11_reads_0 0 rfl ?_
  refine bv_iload_n dX11_reads_1 1 rfl ?_
  obtain ⟨v1, p2, h⟩ := bu_bd h
  refine bw_callV (As := [.int x1]) hN okL_0 ⟨_, _, rfl⟩ dX11_reads_2 mc_11_147 (c_X11_isMan (d := d + 2) hN hR p2) rfl rfl (by decide) ?_
  refine bw_ifB_eq (b := v1) (tgt := 27) dX11_reads_5 (by decide) (fun cc => ?_) (fun cc => ?_)
  · replace h := bu_bf h cc
    refine bv_iconst (v := (-1)) dX11_reads_27 (by decide) ?_
    obtain rfl := Option.some.inj h
    exact bv_iret (x := (-1)) dX11_reads_28 rfl ⟨rfl, rfl⟩
  · replace h := bu_bt h cc
    refine bv_aload_n dX11_reads_8 0 rfl ?_
    refine bz_getA (a := 26) hN okL_0 (hR _ _ _ r0_0_4) dX11_reads_9 fl_11_40 rfl ?_
    refine bv_iload_n dX11_reads_12 1 rfl ?_
    refine bv_aload_n dX11_reads_13 0 rfl ?_
    refine bz_getA (a := 26) hN okL_0 (hR _ _ _ r0_0_4) dX11_reads_14 fl_11_40 rfl ?_
    refine bv_iload_n dX11_reads_17 1 rfl ?_
    obtain ⟨v3, p4, h⟩ := bu_bd h
    refine bw_callV (As := [.int x1]) hN okL_26 ⟨_, _, rfl⟩ dX11_reads_18 mc_11_242 (c_X8_rangeOf (d := d + 0) hN hR p4) rfl rfl (Nat.le_of_ble_eq_true rfl) ?_
    obtain ⟨v5, p6, h⟩ := bu_bd h
    refine bw_callV (As := [.int x1, .int v3]) hN okL_26 ⟨_, _, rfl⟩ dX11_reads_21 mc_11_245 (c_X8_readersOf (d := d + 1) hN hR okL_26 r0_26_0 p6) rfl rfl (by decide) ?_
    refine bv_goto (tgt := 28) dX11_reads_24 (by decide) ?_
    obtain rfl := Option.some.inj h
    exact bv_iret (x := v5) dX11_reads_28 rfl ⟨rfl, rfl⟩
def f_X11_foes (I : bm_TI) (x1 : Int32) : Option (Int32) := ((f_X11_isMan I x1).bind fun v1 => (if v1 = true then (if bm_ix 8 x1 = true then ((f_X8_foesSeeing I x1 (I 27 x1.toNatClampNeg) (I 28 x1.toNatClampNeg)).bind fun v4 => some v4) else none) else some (-1)))
set_option maxHeartbeats 4000000 in
set_option maxRecDepth 100000 in
theorem c_X11_foes {lc : bm_L} {d n : Nat} {I : bm_TI} {J : bm_TJ} {R W : bm_TR} {x1 : Int32} {v : Int32} (hN : 181 ≤ n) (hR : bm_RR R) (h : f_X11_foes I x1 = some v) : bm_C lc m_X11_foes (d + 4) n n [.ref 0, .int x1] (I, J, R, W) (fun r M' => r = some (.int v) ∧ M' = (I, J, R, W)) := by
  refine bm_C.ofV (by decide) (Nat.le_of_ble_eq_true rfl) ?_
  show bm_V lc m_X11_foes (d + 4) n n n 0 [(0, .ref 0), (1, .int x1)] [] (I, J, R, W) _
  unfold f_X11_foes at h
  refine bv_aload_n dX11_foes_0 0 rfl ?_
  refine bv_iload_n dX11_foes_1 1 rfl ?_
  obtain ⟨v1, p2, h⟩ := bu_bd h
  refine bw_callV (As := [.int x1]) hN okL_0 ⟨_, _, rfl⟩ dX11_foes_2 mc_11_147 (c_X11_isMan (d := d + 3) hN hR p2) rfl rfl (by decide) ?_
  refine bw_ifB_eq (b := v1) (tgt := 37) dX11_foes_5 (by decide) (fun cc => ?_) (fun cc => ?_)
  · replace h := bu_bf h cc
    refine bv_iconst (v := (-1)) dX11_foes_37 (by decide) ?_
    obtain rfl := Option.some.inj h
    exact bv_iret (x := (-1)) dX11_foes_38 rfl ⟨rfl, rfl⟩
  · replace h := bu_bt h cc
    refine bv_aload_n dX11_foes_8 0 rfl ?_
    refine bz_getA (a := 26) hN okL_0 (hR _ _ _ r0_0_4) dX11_foes_9 fl_11_40 rfl ?_
    refine bv_iload_n dX11_foes_12 1 rfl ?_
    refine bv_aload_n dX11_foes_13 0 rfl ?_
    refine bz_getA (a := 26) hN okL_0 (hR _ _ _ r0_0_4) dX11_foes_14 fl_11_40 rfl ?_
    refine bz_getA (a := 27) hN okL_26 (hR _ _ _ r0_26_1) dX11_foes_17 fl_11_158 rfl ?_
    refine bv_iload_n dX11_foes_20 1 rfl ?_
    obtain ⟨r3, h⟩ := bu_ix h
    refine bz_iald hN rkL_27 r3 rfl dX11_foes_21 ?_
    refine bv_aload_n dX11_foes_22 0 rfl ?_
    refine bz_getA (a := 26) hN okL_0 (hR _ _ _ r0_0_4) dX11_foes_23 fl_11_40 rfl ?_
    refine bz_getA (a := 28) hN okL_26 (hR _ _ _ r0_26_2) dX11_foes_26 fl_11_162 rfl ?_
    refine bv_iload_n dX11_foes_29 1 rfl ?_
    refine bz_iald hN rkL_28 r3 rfl dX11_foes_30 ?_
    obtain ⟨v4, p5, h⟩ := bu_bd h
    refine bw_callV (As := [.int x1, .int (I 27 x1.toNatClampNeg), .int (I 28 x1.toNatClampNeg)]) hN okL_26 ⟨_, _, rfl⟩ dX11_foes_31 mc_11_248 (c_X8_foesSeeing (d := d + 0) hN hR p5) rfl rfl (by decide) ?_
    refine bv_goto (tgt := 38) dX11_foes_34 (by decide) ?_
    obtain rfl := Option.some.inj h
    exact bv_iret (x := v4) dX11_foes_38 rfl ⟨rfl, rfl⟩
def f_X11_reachOf (I : bm_TI) (x1 : Int32) (x2 : Int32) : Option (Int32 × bm_TI) := ((f_X8_copyFrom I 33 26).bind fun v1 => ((f_X8_giveBy v1 x1 x2).bind fun v3 => (if v3.1 = 0 then ((f_X8_passHours v3.2 20).bind fun v5 => ((f_X8_holdersOf v5.2 33 x2).bind fun v7 => some (v7, v5.2))) else some ((-1), v3.2))))
set_option maxHeartbeats 4000000 in
set_option maxRecDepth 100000 in
theorem c_X11_reachOf {lc : bm_L} {d n : Nat} {I : bm_TI} {J : bm_TJ} {R W : bm_TR} {x1 : Int32} {x2 : Int32} {v : Int32 × bm_TI} (hN : 181 ≤ n) (hR : bm_RR R) (h : f_X11_reachOf I x1 x2 = some v) : bm_C lc m_X11_reachOf (d + 5) n n [.ref 0, .int x1, .int x2] (I, J, R, W) (fun r M' => r = some (.int v.1) ∧ M' = (v.2, J, R, W)) := by
  refine bm_C.ofV (by decide) (Nat.le_of_ble_eq_true rfl) ?_
  show bm_V lc m_X11_reachOf (d + 5) n n n 0 [(0, .ref 0), (1, .int x1), (2, .int x2)] [] (I, J, R, W) _
  unfold f_X11_reachOf at h
  refine bv_aload_n dX11_reachOf_0 0 rfl ?_
  refine bz_getA (a := 33) hN okL_0 (hR _ _ _ r0_0_5) dX11_reachOf_1 fl_11_44 rfl ?_
  refine bv_aload_n dX11_reachOf_4 0 rfl ?_
  refine bz_getA (a := 26) hN okL_0 (hR _ _ _ r0_0_4) dX11_reachOf_5 fl_11_40 rfl ?_
  obtain ⟨v1, p2, h⟩ := bu_bd h
  refine bw_callVv (As := [.ref 26]) hN okL_33 ⟨_, _, rfl⟩ dX11_reachOf_8 mc_11_226 (c_X8_copyFrom (d := d + 3) hN hR okL_33 okL_26 p2) rfl rfl (by decide) ?_
  refine bv_aload_n dX11_reachOf_11 0 rfl ?_
  refine bz_getA (a := 33) hN okL_0 (hR _ _ _ r0_0_5) dX11_reachOf_12 fl_11_44 rfl ?_
  refine bv_iload_n dX11_reachOf_15 1 rfl ?_
  refine bv_iload_n dX11_reachOf_16 2 rfl ?_
  obtain ⟨v3, p4, h⟩ := bu_bd h
  refine bw_callV (As := [.int x1, .int x2]) hN okL_33 ⟨_, _, rfl⟩ dX11_reachOf_17 mc_11_254 (c_X8_giveBy (d := d + 1) hN hR p4) rfl rfl (by decide) ?_
  refine bv_if_eq (tgt := 25) dX11_reachOf_20 (by decide) (fun cc => ?_) (fun cc => ?_)
  · replace h := bu_t h cc
    refine bv_aload_n dX11_reachOf_25 0 rfl ?_
    refine bz_getA (a := 33) hN okL_0 (hR _ _ _ r0_0_5) dX11_reachOf_26 fl_11_44 rfl ?_
    refine bv_bipush (v := 20) dX11_reachOf_29 (by decide) ?_
    obtain ⟨v5, p6, h⟩ := bu_bd h
    refine bw_callV (As := [.int 20]) hN okL_33 ⟨_, _, rfl⟩ dX11_reachOf_31 mc_11_229 (c_X8_passHours (d := d + 0) hN hR p6) rfl rfl (by decide) ?_
    refine bv_pop dX11_reachOf_34 rfl ?_
    refine bv_aload_n dX11_reachOf_35 0 rfl ?_
    refine bz_getA (a := 33) hN okL_0 (hR _ _ _ r0_0_5) dX11_reachOf_36 fl_11_44 rfl ?_
    refine bv_iload_n dX11_reachOf_39 2 rfl ?_
    obtain ⟨v7, p8, h⟩ := bu_bd h
    refine bw_callV (As := [.int x2]) hN okL_33 ⟨_, _, rfl⟩ dX11_reachOf_40 mc_11_203 (c_X8_holdersOf (d := d + 4) hN hR okL_33 r0_33_0 p8) rfl rfl (by decide) ?_
    obtain rfl := Option.some.inj h
    exact bv_iret (x := v7) dX11_reachOf_43 rfl ⟨rfl, rfl⟩
  · replace h := bu_f h cc
    refine bv_iconst (v := (-1)) dX11_reachOf_23 (by decide) ?_
    obtain rfl := Option.some.inj h
    exact bv_iret (x := (-1)) dX11_reachOf_24 rfl ⟨rfl, rfl⟩
def f_X11_reach (I : bm_TI) (x1 : Int32) (x2 : Int32) : Option (Int32 × bm_TI) := ((f_X11_isMan I x1).bind fun v1 => (if v1 = true then ((f_X11_isOrder I x2).bind fun v3 => (if v3 = true then ((f_X11_reachOf I x1 x2).bind fun v5 => some (v5.1, v5.2)) else some ((-1), I))) else some ((-1), I)))
set_option maxHeartbeats 4000000 in
set_option maxRecDepth 100000 in
theorem c_X11_reach {lc : bm_L} {d n : Nat} {I : bm_TI} {J : bm_TJ} {R W : bm_TR} {x1 : Int32} {x2 : Int32} {v : Int32 × bm_TI} (hN : 181 ≤ n) (hR : bm_RR R) (h : f_X11_reach I x1 x2 = some v) : bm_C lc m_X11_reach (d + 6) n n [.ref 0, .int x1, .int x2] (I, J, R, W) (fun r M' => r = some (.int v.1) ∧ M' = (v.2, J, R, W)) := by
  refine bm_C.ofV (by decide) (Nat.le_of_ble_eq_true rfl) ?_
  show bm_V lc m_X11_reach (d + 6) n n n 0 [(0, .ref 0), (1, .int x1), (2, .int x2)] [] (I, J, R, W) _
  unfold f_X11_reach at h
  refine bv_aload_n dX11_reach_0 0 rfl ?_
  refine bv_iload_n dX11_reach_1 1 rfl ?_
  obtain ⟨v1, p2, h⟩ := bu_bd h
  refine bw_callV (As := [.int x1]) hN okL_0 ⟨_, _, rfl⟩ dX11_reach_2 mc_11_147 (c_X11_isMan (d := d + 5) hN hR p2) rfl rfl (by decide) ?_
  refine bw_ifB_eq (b := v1) (tgt := 25) dX11_reach_5 (by decide) (fun cc => ?_) (fun cc => ?_)
  · replace h := bu_bf h cc
    refine bv_iconst (v := (-1)) dX11_reach_25 (by decide) ?_
    obtain rfl := Option.some.inj h
    exact bv_iret (x := (-1)) dX11_reach_26 rfl ⟨rfl, rfl⟩
  · replace h := bu_bt h cc
    refine bv_aload_n dX11_reach_8 0 rfl ?_
    refine bv_iload_n dX11_reach_9 2 rfl ?_
    obtain ⟨v3, p4, h⟩ := bu_bd h
    refine bw_callV (As := [.int x2]) hN okL_0 ⟨_, _, rfl⟩ dX11_reach_10 mc_11_194 (c_X11_isOrder (d := d + 5) hN hR p4) rfl rfl (by decide) ?_
    refine bw_ifB_eq (b := v3) (tgt := 25) dX11_reach_13 (by decide) (fun cc => ?_) (fun cc => ?_)
    · replace h := bu_bf h cc
      refine bv_iconst (v := (-1)) dX11_reach_25 (by decide) ?_
      obtain rfl := Option.some.inj h
      exact bv_iret (x := (-1)) dX11_reach_26 rfl ⟨rfl, rfl⟩
    · replace h := bu_bt h cc
      refine bv_aload_n dX11_reach_16 0 rfl ?_
      refine bv_iload_n dX11_reach_17 1 rfl ?_
      refine bv_iload_n dX11_reach_18 2 rfl ?_
      obtain ⟨v5, p6, h⟩ := bu_bd h
      refine bw_callV (As := [.int x1, .int x2]) hN okL_0 ⟨_, _, rfl⟩ dX11_reach_19 mc_11_251 (c_X11_reachOf (d := d + 0) hN hR p6) rfl rfl (by decide) ?_
      refine bv_goto (tgt := 26) dX11_reach_22 (by decide) ?_
      obtain rfl := Option.some.inj h
      exact bv_iret (x := v5.1) dX11_reach_26 rfl ⟨rfl, rfl⟩
def f_X11_soon_l55 (x2 : Int32) (x3 : Int32) : Nat → Int32 → bm_TI → Option (((Int32 × bm_TI) ⊕ (((bm_TI) ⊕ (bm_TI)))))
  | 0, _, _ => none
  | k + 1, x4, I => (if 20 < x4 then some (Sum.inr (Sum.inr I)) else ((f_X8_holdersOf I 33 x2).bind fun v1 => (if (v1 &&& x3) = x3 then some (Sum.inl (x4, I)) else ((f_X8_passHours I 1).bind fun v3 => (if v3.1 = 0 then some (Sum.inr (Sum.inl v3.2)) else f_X11_soon_l55 x2 x3 k (x4 + 1) v3.2)))))
set_option maxHeartbeats 4000000 in
set_option maxRecDepth 100000 in
theorem v_X11_soon_l55 {lc : bm_L} {d n : Nat} {Q : Option Value → bm_M → Prop} {R : bm_TR} {J : bm_TJ} {W : bm_TR} {x2 : Int32} {x3 : Int32} (hN : 181 ≤ n) (hR : bm_RR R) : ∀ (k : Nat) (x4 : Int32) (I : bm_TI) (r : ((Int32 × bm_TI) ⊕ (((bm_TI) ⊕ (bm_TI))))), f_X11_soon_l55 x2 x3 k x4 I = some r → (∀ yy, (Sum.inl yy) = r → bm_V lc m_X11_soon (d + 5) n n n 76 [(4, .int yy.1)] [] (yy.2, J, R, W) Q) → (∀ yy, (Sum.inr (Sum.inl yy)) = r → bm_V lc m_X11_soon (d + 5) n n n 90 [] [] (yy, J, R, W) Q) → (∀ yy, (Sum.inr (Sum.inr yy)) = r → bm_V lc m_X11_soon (d + 5) n n n 98 [] [] (yy, J, R, W) Q) → bm_V lc m_X11_soon (d + 5) n n n 55 [(0, .ref 0), (2, .int x2), (3, .int x3), (4, .int x4)] [] (I, J, R, W) Q := by
  intro k
  induction k with
  | zero => intro x4 I r h; cases (show (none : Option (((Int32 × bm_TI) ⊕ (((bm_TI) ⊕ (bm_TI)))))) = some r from h)
  | succ k ih =>
    intro x4 I r h K0 K1 K2
    unfold f_X11_soon_l55 at h
    refine bv_iload dX11_soon_55 3 rfl ?_
    refine bv_bipush (v := 20) dX11_soon_57 (by decide) ?_
    refine bv_icmp_gt (tgt := 98) dX11_soon_59 (by decide) (fun cc => ?_) (fun cc => ?_)
    · replace h := bu_t h cc
      refine bw_ls (ls1 := []) [] rfl ?_
      obtain rfl := Option.some.inj h
      exact K2 _ rfl
    · replace h := bu_f h cc
      refine bv_aload_n dX11_soon_62 0 rfl ?_
      refine bz_getA (a := 33) hN okL_0 (hR _ _ _ r0_0_5) dX11_soon_63 fl_11_44 rfl ?_
      refine bv_iload_n dX11_soon_66 1 rfl ?_
      obtain ⟨v1, p2, h⟩ := bu_bd h
      refine bw_callV (As := [.int x2]) hN okL_33 ⟨_, _, rfl⟩ dX11_soon_67 mc_11_203 (c_X8_holdersOf (d := d + 4) hN hR okL_33 r0_33_0 p2) rfl rfl (by decide) ?_
      refine bv_iload_n dX11_soon_70 2 rfl ?_
      refine bv_iand dX11_soon_71 ?_
      refine bv_iload_n dX11_soon_72 2 rfl ?_
      refine bv_icmp_ne (tgt := 79) dX11_soon_73 (by decide) (fun cc => ?_) (fun cc => ?_)
      · replace h := bu_f h cc
        refine bv_aload_n dX11_soon_79 0 rfl ?_
        refine bz_getA (a := 33) hN okL_0 (hR _ _ _ r0_0_5) dX11_soon_80 fl_11_44 rfl ?_
        refine bv_iconst (v := 1) dX11_soon_83 (by decide) ?_
        obtain ⟨v3, p4, h⟩ := bu_bd h
        refine bw_callV (As := [.int 1]) hN okL_33 ⟨_, _, rfl⟩ dX11_soon_84 mc_11_229 (c_X8_passHours (d := d + 0) hN hR p4) rfl rfl (by decide) ?_
        refine bv_if_ne (tgt := 92) dX11_soon_87 (by decide) (fun cc => ?_) (fun cc => ?_)
        · replace h := bu_f h cc
          refine bv_iinc (j := 3) (v := (x4 + 1)) (ls1 := [(0, .ref 0), (2, .int x2), (3, .int x3), (4, .int (x4 + 1))]) dX11_soon_92 rfl rfl (by decide) rfl rfl ?_
          refine bv_goto (tgt := 55) dX11_soon_95 (by decide) ?_
          exact ih _ _ _ h K0 K1 K2
        · replace h := bu_t h cc
          refine bw_ls (ls1 := []) [] rfl ?_
          obtain rfl := Option.some.inj h
          exact K1 _ rfl
      · replace h := bu_t h cc
        refine bw_ls (ls1 := [(4, .int x4)]) [3] rfl ?_
        obtain rfl := Option.some.inj h
        exact K0 _ rfl
def f_X11_soon (I : bm_TI) (x1 : Int32) (x2 : Int32) : Option (Int32 × bm_TI) := ((f_X11_isMan I x1).bind fun v1 => (if v1 = true then ((f_X11_isOrder I x2).bind fun v3 => (if v3 = true then ((f_X8_copyFrom I 33 26).bind fun v5 => ((f_X8_giveBy v5 x1 x2).bind fun v7 => (if v7.1 = 0 then ((f_X0_allUnder v7.2 x1).bind fun v9 => ((f_X11_soon_l55 x2 v9 1000 0 v7.2).bind fun rr => match rr with | (Sum.inl y13) => some (y13.1, y13.2) | (Sum.inr (Sum.inl y13)) => some ((-1), y13) | (Sum.inr (Sum.inr y13)) => some ((-1), y13))) else some ((-1), v7.2)))) else some ((-1), I))) else some ((-1), I)))
set_option maxHeartbeats 4000000 in
set_option maxRecDepth 100000 in
theorem c_X11_soon {lc : bm_L} {d n : Nat} {I : bm_TI} {J : bm_TJ} {R W : bm_TR} {x1 : Int32} {x2 : Int32} {v : Int32 × bm_TI} (hN : 181 ≤ n) (hR : bm_RR R) (h : f_X11_soon I x1 x2 = some v) : bm_C lc m_X11_soon (d + 5) n n [.ref 0, .int x1, .int x2] (I, J, R, W) (fun r M' => r = some (.int v.1) ∧ M' = (v.2, J, R, W)) := by
  refine bm_C.ofV (by decide) (Nat.le_of_ble_eq_true rfl) ?_
  show bm_V lc m_X11_soon (d + 5) n n n 0 [(0, .ref 0), (1, .int x1), (2, .int x2)] [] (I, J, R, W) _
  unfold f_X11_soon at h
  refine bv_aload_n dX11_soon_0 0 rfl ?_
  refine bv_iload_n dX11_soon_1 1 rfl ?_
  obtain ⟨v1, p2, h⟩ := bu_bd h
  refine bw_callV (As := [.int x1]) hN okL_0 ⟨_, _, rfl⟩ dX11_soon_2 mc_11_147 (c_X11_isMan (d := d + 4) hN hR p2) rfl rfl (by decide) ?_
  refine bw_ifB_eq (b := v1) (tgt := 16) dX11_soon_5 (by decide) (fun cc => ?_) (fun cc => ?_)
  · replace h := bu_bf h cc
    refine bv_iconst (v := (-1)) dX11_soon_16 (by decide) ?_
    obtain rfl := Option.some.inj h
    exact bv_iret (x := (-1)) dX11_soon_17 rfl ⟨rfl, rfl⟩
  · replace h := bu_bt h cc
    refine bv_aload_n dX11_soon_8 0 rfl ?_
    refine bv_iload_n dX11_soon_9 2 rfl ?_
    obtain ⟨v3, p4, h⟩ := bu_bd h
    refine bw_callV (As := [.int x2]) hN okL_0 ⟨_, _, rfl⟩ dX11_soon_10 mc_11_194 (c_X11_isOrder (d := d + 4) hN hR p4) rfl rfl (by decide) ?_
    refine bw_ifB_ne (b := v3) (tgt := 18) dX11_soon_13 (by decide) (fun cc => ?_) (fun cc => ?_)
    · replace h := bu_bt h cc
      refine bv_aload_n dX11_soon_18 0 rfl ?_
      refine bz_getA (a := 33) hN okL_0 (hR _ _ _ r0_0_5) dX11_soon_19 fl_11_44 rfl ?_
      refine bv_aload_n dX11_soon_22 0 rfl ?_
      refine bz_getA (a := 26) hN okL_0 (hR _ _ _ r0_0_4) dX11_soon_23 fl_11_40 rfl ?_
      obtain ⟨v5, p6, h⟩ := bu_bd h
      refine bw_callVv (As := [.ref 26]) hN okL_33 ⟨_, _, rfl⟩ dX11_soon_26 mc_11_226 (c_X8_copyFrom (d := d + 3) hN hR okL_33 okL_26 p6) rfl rfl (by decide) ?_
      refine bv_aload_n dX11_soon_29 0 rfl ?_
      refine bz_getA (a := 33) hN okL_0 (hR _ _ _ r0_0_5) dX11_soon_30 fl_11_44 rfl ?_
      refine bv_iload_n dX11_soon_33 1 rfl ?_
      refine bv_iload_n dX11_soon_34 2 rfl ?_
      obtain ⟨v7, p8, h⟩ := bu_bd h
      refine bw_callV (As := [.int x1, .int x2]) hN okL_33 ⟨_, _, rfl⟩ dX11_soon_35 mc_11_254 (c_X8_giveBy (d := d + 1) hN hR p8) rfl rfl (by decide) ?_
      refine bv_if_eq (tgt := 43) dX11_soon_38 (by decide) (fun cc => ?_) (fun cc => ?_)
      · replace h := bu_t h cc
        refine bv_aload_n dX11_soon_43 0 rfl ?_
        refine bz_getA (a := 4) hN okL_0 (hR _ _ _ r0_0_2) dX11_soon_44 fl_11_28 rfl ?_
        refine bv_iload_n dX11_soon_47 1 rfl ?_
        obtain ⟨v9, p10, h⟩ := bu_bd h
        refine bw_callV (As := [.int x1]) hN okL_4 ⟨_, _, rfl⟩ dX11_soon_48 mc_11_257 (c_X0_allUnder (d := d + 3) hN hR p10) rfl rfl (by decide) ?_
        refine bv_istore_n (ls1 := [(0, .ref 0), (1, .int x1), (2, .int x2), (3, .int v9)]) dX11_soon_51 (by decide) rfl rfl ?_
        refine bv_iconst (v := 0) dX11_soon_52 (by decide) ?_
        refine bv_istore (ls1 := [(0, .ref 0), (1, .int x1), (2, .int x2), (3, .int v9), (4, .int 0)]) dX11_soon_53 (by decide) rfl rfl ?_
        refine bw_ls (ls1 := [(0, .ref 0), (2, .int x2), (3, .int v9), (4, .int 0)]) [0, 2, 3, 4] rfl ?_
        obtain ⟨r11, p12, h⟩ := bu_bd h
        refine v_X11_soon_l55 hN hR 1000 _ _ _ p12 (fun y13 hy => ?_) (fun y13 hy => ?_) (fun y13 hy => ?_)
        · subst hy
          refine bv_iload dX11_soon_76 0 rfl ?_
          obtain rfl := Option.some.inj h
          exact bv_iret (x := y13.1) dX11_soon_78 rfl ⟨rfl, rfl⟩
        · subst hy
          refine bv_iconst (v := (-1)) dX11_soon_90 (by decide) ?_
          obtain rfl := Option.some.inj h
          exact bv_iret (x := (-1)) dX11_soon_91 rfl ⟨rfl, rfl⟩
        · subst hy
          refine bv_iconst (v := (-1)) dX11_soon_98 (by decide) ?_
          obtain rfl := Option.some.inj h
          exact bv_iret (x := (-1)) dX11_soon_99 rfl ⟨rfl, rfl⟩
      · replace h := bu_f h cc
        refine bv_iconst (v := (-1)) dX11_soon_41 (by decide) ?_
        obtain rfl := Option.some.inj h
        exact bv_iret (x := (-1)) dX11_soon_42 rfl ⟨rfl, rfl⟩
    · replace h := bu_bf h cc
      refine bv_iconst (v := (-1)) dX11_soon_16 (by decide) ?_
      obtain rfl := Option.some.inj h
      exact bv_iret (x := (-1)) dX11_soon_17 rfl ⟨rfl, rfl⟩
def f_J6_bitCount_0f7a4 (x0 : Int32) : Int32 := ((((((((x0 - ((bm_iushr x0 1) &&& 1431655765)) &&& 858993459) + ((bm_iushr (x0 - ((bm_iushr x0 1) &&& 1431655765)) 2) &&& 858993459)) + (bm_iushr (((x0 - ((bm_iushr x0 1) &&& 1431655765)) &&& 858993459) + ((bm_iushr (x0 - ((bm_iushr x0 1) &&& 1431655765)) 2) &&& 858993459)) 4)) &&& 252645135) + (bm_iushr (((((x0 - ((bm_iushr x0 1) &&& 1431655765)) &&& 858993459) + ((bm_iushr (x0 - ((bm_iushr x0 1) &&& 1431655765)) 2) &&& 858993459)) + (bm_iushr (((x0 - ((bm_iushr x0 1) &&& 1431655765)) &&& 858993459) + ((bm_iushr (x0 - ((bm_iushr x0 1) &&& 1431655765)) 2) &&& 858993459)) 4)) &&& 252645135) 8)) + (bm_iushr ((((((x0 - ((bm_iushr x0 1) &&& 1431655765)) &&& 858993459) + ((bm_iushr (x0 - ((bm_iushr x0 1) &&& 1431655765)) 2) &&& 858993459)) + (bm_iushr (((x0 - ((bm_iushr x0 1) &&& 1431655765)) &&& 858993459) + ((bm_iushr (x0 - ((bm_iushr x0 1) &&& 1431655765)) 2) &&& 858993459)) 4)) &&& 252645135) + (bm_iushr (((((x0 - ((bm_iushr x0 1) &&& 1431655765)) &&& 858993459) + ((bm_iushr (x0 - ((bm_iushr x0 1) &&& 1431655765)) 2) &&& 858993459)) + (bm_iushr (((x0 - ((bm_iushr x0 1) &&& 1431655765)) &&& 858993459) + ((bm_iushr (x0 - ((bm_iushr x0 1) &&& 1431655765)) 2) &&& 858993459)) 4)) &&& 252645135) 8)) 16)) &&& 63)
set_option maxHeartbeats 4000000 in
set_option maxRecDepth 100000 in
theorem c_J6_bitCount_0f7a4 {lc : bm_L} {d n : Nat} {I : bm_TI} {J : bm_TJ} {R W : bm_TR} {x0 : Int32} {v : Int32} (hN : 181 ≤ n) (hR : bm_RR R) (h : f_J6_bitCount_0f7a4 x0 = v) : bm_C lc m_J6_bitCount_0f7a4 d n n [.int x0] (I, J, R, W) (fun r M' => r = some (.int v) ∧ M' = (I, J, R, W)) := by
  refine bm_C.ofV (by decide) (Nat.le_of_ble_eq_true rfl) ?_
  show bm_V lc m_J6_bitCount_0f7a4 d n n n 0 [(0, .int x0)] [] (I, J, R, W) _
  unfold f_J6_bitCount_0f7a4 at h
  refine bv_iload_n dJ6_bitCount_0f7a4_0 0 rfl ?_
  refine bv_iload_n dJ6_bitCount_0f7a4_1 0 rfl ?_
  refine bv_iconst (v := 1) dJ6_bitCount_0f7a4_2 (by decide) ?_
  refine bv_iushr dJ6_bitCount_0f7a4_3 ?_
  refine bv_ldcw (v := 1431655765) dJ6_bitCount_0f7a4_4 cst_J6_265 ?_
  refine bv_iand dJ6_bitCount_0f7a4_7 ?_
  refine bv_isub dJ6_bitCount_0f7a4_8 ?_
  refine bv_istore_n (ls1 := [(0, .int (x0 - ((bm_iushr x0 1) &&& 1431655765)))]) dJ6_bitCount_0f7a4_9 (by decide) rfl rfl ?_
  refine bv_iload_n dJ6_bitCount_0f7a4_10 0 rfl ?_
  refine bv_ldcw (v := 858993459) dJ6_bitCount_0f7a4_11 cst_J6_266 ?_
  refine bv_iand dJ6_bitCount_0f7a4_14 ?_
  refine bv_iload_n dJ6_bitCount_0f7a4_15 0 rfl ?_
  refine bv_iconst (v := 2) dJ6_bitCount_0f7a4_16 (by decide) ?_
  refine bv_iushr dJ6_bitCount_0f7a4_17 ?_
  refine bv_ldcw (v := 858993459) dJ6_bitCount_0f7a4_18 cst_J6_266 ?_
  refine bv_iand dJ6_bitCount_0f7a4_21 ?_
  refine bv_iadd dJ6_bitCount_0f7a4_22 ?_
  refine bv_istore_n (ls1 := [(0, .int (((x0 - ((bm_iushr x0 1) &&& 1431655765)) &&& 858993459) + ((bm_iushr (x0 - ((bm_iushr x0 1) &&& 1431655765)) 2) &&& 858993459)))]) dJ6_bitCount_0f7a4_23 (by decide) rfl rfl ?_
  refine bv_iload_n dJ6_bitCount_0f7a4_24 0 rfl ?_
  refine bv_iload_n dJ6_bitCount_0f7a4_25 0 rfl ?_
  refine bv_iconst (v := 4) dJ6_bitCount_0f7a4_26 (by decide) ?_
  refine bv_iushr dJ6_bitCount_0f7a4_27 ?_
  refine bv_iadd dJ6_bitCount_0f7a4_28 ?_
  refine bv_ldcw (v := 252645135) dJ6_bitCount_0f7a4_29 cst_J6_267 ?_
  refine bv_iand dJ6_bitCount_0f7a4_32 ?_
  refine bv_istore_n (ls1 := [(0, .int (((((x0 - ((bm_iushr x0 1) &&& 1431655765)) &&& 858993459) + ((bm_iushr (x0 - ((bm_iushr x0 1) &&& 1431655765)) 2) &&& 858993459)) + (bm_iushr (((x0 - ((bm_iushr x0 1) &&& 1431655765)) &&& 858993459) + ((bm_iushr (x0 - ((bm_iushr x0 1) &&& 1431655765)) 2) &&& 858993459)) 4)) &&& 252645135))]) dJ6_bitCount_0f7a4_33 (by decide) rfl rfl ?_
  refine bv_iload_n dJ6_bitCount_0f7a4_34 0 rfl ?_
  refine bv_iload_n dJ6_bitCount_0f7a4_35 0 rfl ?_
  refine bv_bipush (v := 8) dJ6_bitCount_0f7a4_36 (by decide) ?_
  refine bv_iushr dJ6_bitCount_0f7a4_38 ?_
  refine bv_iadd dJ6_bitCount_0f7a4_39 ?_
  refine bv_istore_n (ls1 := [(0, .int ((((((x0 - ((bm_iushr x0 1) &&& 1431655765)) &&& 858993459) + ((bm_iushr (x0 - ((bm_iushr x0 1) &&& 1431655765)) 2) &&& 858993459)) + (bm_iushr (((x0 - ((bm_iushr x0 1) &&& 1431655765)) &&& 858993459) + ((bm_iushr (x0 - ((bm_iushr x0 1) &&& 1431655765)) 2) &&& 858993459)) 4)) &&& 252645135) + (bm_iushr (((((x0 - ((bm_iushr x0 1) &&& 1431655765)) &&& 858993459) + ((bm_iushr (x0 - ((bm_iushr x0 1) &&& 1431655765)) 2) &&& 858993459)) + (bm_iushr (((x0 - ((bm_iushr x0 1) &&& 1431655765)) &&& 858993459) + ((bm_iushr (x0 - ((bm_iushr x0 1) &&& 1431655765)) 2) &&& 858993459)) 4)) &&& 252645135) 8)))]) dJ6_bitCount_0f7a4_40 (by decide) rfl rfl ?_
  refine bv_iload_n dJ6_bitCount_0f7a4_41 0 rfl ?_
  refine bv_iload_n dJ6_bitCount_0f7a4_42 0 rfl ?_
  refine bv_bipush (v := 16) dJ6_bitCount_0f7a4_43 (by decide) ?_
  refine bv_iushr dJ6_bitCount_0f7a4_45 ?_
  refine bv_iadd dJ6_bitCount_0f7a4_46 ?_
  refine bv_istore_n (ls1 := [(0, .int (((((((x0 - ((bm_iushr x0 1) &&& 1431655765)) &&& 858993459) + ((bm_iushr (x0 - ((bm_iushr x0 1) &&& 1431655765)) 2) &&& 858993459)) + (bm_iushr (((x0 - ((bm_iushr x0 1) &&& 1431655765)) &&& 858993459) + ((bm_iushr (x0 - ((bm_iushr x0 1) &&& 1431655765)) 2) &&& 858993459)) 4)) &&& 252645135) + (bm_iushr (((((x0 - ((bm_iushr x0 1) &&& 1431655765)) &&& 858993459) + ((bm_iushr (x0 - ((bm_iushr x0 1) &&& 1431655765)) 2) &&& 858993459)) + (bm_iushr (((x0 - ((bm_iushr x0 1) &&& 1431655765)) &&& 858993459) + ((bm_iushr (x0 - ((bm_iushr x0 1) &&& 1431655765)) 2) &&& 858993459)) 4)) &&& 252645135) 8)) + (bm_iushr ((((((x0 - ((bm_iushr x0 1) &&& 1431655765)) &&& 858993459) + ((bm_iushr (x0 - ((bm_iushr x0 1) &&& 1431655765)) 2) &&& 858993459)) + (bm_iushr (((x0 - ((bm_iushr x0 1) &&& 1431655765)) &&& 858993459) + ((bm_iushr (x0 - ((bm_iushr x0 1) &&& 1431655765)) 2) &&& 858993459)) 4)) &&& 252645135) + (bm_iushr (((((x0 - ((bm_iushr x0 1) &&& 1431655765)) &&& 858993459) + ((bm_iushr (x0 - ((bm_iushr x0 1) &&& 1431655765)) 2) &&& 858993459)) + (bm_iushr (((x0 - ((bm_iushr x0 1) &&& 1431655765)) &&& 858993459) + ((bm_iushr (x0 - ((bm_iushr x0 1) &&& 1431655765)) 2) &&& 858993459)) 4)) &&& 252645135) 8)) 16)))]) dJ6_bitCount_0f7a4_47 (by decide) rfl rfl ?_
  refine bv_iload_n dJ6_bitCount_0f7a4_48 0 rfl ?_
  refine bv_bipush (v := 63) dJ6_bitCount_0f7a4_49 (by decide) ?_
  refine bv_iand dJ6_bitCount_0f7a4_51 ?_
  subst h
  exact bv_iret (x := ((((((((x0 - ((bm_iushr x0 1) &&& 1431655765)) &&& 858993459) + ((bm_iushr (x0 - ((bm_iushr x0 1) &&& 1431655765)) 2) &&& 858993459)) + (bm_iushr (((x0 - ((bm_iushr x0 1) &&& 1431655765)) &&& 858993459) + ((bm_iushr (x0 - ((bm_iushr x0 1) &&& 1431655765)) 2) &&& 858993459)) 4)) &&& 252645135) + (bm_iushr (((((x0 - ((bm_iushr x0 1) &&& 1431655765)) &&& 858993459) + ((bm_iushr (x0 - ((bm_iushr x0 1) &&& 1431655765)) 2) &&& 858993459)) + (bm_iushr (((x0 - ((bm_iushr x0 1) &&& 1431655765)) &&& 858993459) + ((bm_iushr (x0 - ((bm_iushr x0 1) &&& 1431655765)) 2) &&& 858993459)) 4)) &&& 252645135) 8)) + (bm_iushr ((((((x0 - ((bm_iushr x0 1) &&& 1431655765)) &&& 858993459) + ((bm_iushr (x0 - ((bm_iushr x0 1) &&& 1431655765)) 2) &&& 858993459)) + (bm_iushr (((x0 - ((bm_iushr x0 1) &&& 1431655765)) &&& 858993459) + ((bm_iushr (x0 - ((bm_iushr x0 1) &&& 1431655765)) 2) &&& 858993459)) 4)) &&& 252645135) + (bm_iushr (((((x0 - ((bm_iushr x0 1) &&& 1431655765)) &&& 858993459) + ((bm_iushr (x0 - ((bm_iushr x0 1) &&& 1431655765)) 2) &&& 858993459)) + (bm_iushr (((x0 - ((bm_iushr x0 1) &&& 1431655765)) &&& 858993459) + ((bm_iushr (x0 - ((bm_iushr x0 1) &&& 1431655765)) 2) &&& 858993459)) 4)) &&& 252645135) 8)) 16)) &&& 63)) dJ6_bitCount_0f7a4_52 rfl ⟨rfl, rfl⟩
def f_X11_best_l17 (x1 : Int32) : Nat → Int32 → Int32 → Int32 → bm_TI → Option (Int32 × bm_TI)
  | 0, _, _, _, _ => none
  | k + 1, x2, x3, x4, I => (if (I 4 10) ≤ x4 then some (x2, I) else ((f_X11_reachOf I x4 x1).bind fun v1 => (if v1.1 = (-1) then f_X11_best_l17 x1 k x2 x3 (x4 + 1) v1.2 else (if (f_J6_bitCount_0f7a4 v1.1) ≤ x3 then f_X11_best_l17 x1 k x2 x3 (x4 + 1) v1.2 else f_X11_best_l17 x1 k x4 (f_J6_bitCount_0f7a4 v1.1) (x4 + 1) v1.2))))
set_option maxHeartbeats 4000000 in
set_option maxRecDepth 100000 in
theorem v_X11_best_l17 {lc : bm_L} {d n : Nat} {Q : Option Value → bm_M → Prop} {R : bm_TR} {J : bm_TJ} {W : bm_TR} {x1 : Int32} (hN : 181 ≤ n) (hR : bm_RR R) : ∀ (k : Nat) (x2 : Int32) (x3 : Int32) (x4 : Int32) (I : bm_TI) (r : Int32 × bm_TI), f_X11_best_l17 x1 k x2 x3 x4 I = some r → (∀ yy, yy = r → bm_V lc m_X11_best (d + 6) n n n 68 [(2, .int yy.1)] [] (yy.2, J, R, W) Q) → bm_V lc m_X11_best (d + 6) n n n 17 [(0, .ref 0), (1, .int x1), (2, .int x2), (3, .int x3), (4, .int x4)] [] (I, J, R, W) Q := by
  intro k
  induction k with
  | zero => intro x2 x3 x4 I r h; cases (show (none : Option (Int32 × bm_TI)) = some r from h)
  | succ k ih =>
    intro x2 x3 x4 I r h K0
    unfold f_X11_best_l17 at h
    refine bv_iload dX11_best_17 4 rfl ?_
    refine bv_aload_n dX11_best_19 0 rfl ?_
    refine bz_getA (a := 4) hN okL_0 (hR _ _ _ r0_0_2) dX11_best_20 fl_11_28 rfl ?_
    refine bz_getI hN okL_4 dX11_best_23 fl_11_132 rfl ?_
    refine bv_icmp_ge (tgt := 68) dX11_best_26 (by decide) (fun cc => ?_) (fun cc => ?_)
    · replace h := bu_t h cc
      refine bw_ls (ls1 := [(2, .int x2)]) [2] rfl ?_
      obtain rfl := Option.some.inj h
      exact K0 _ rfl
    · replace h := bu_f h cc
      refine bv_aload_n dX11_best_29 0 rfl ?_
      refine bv_iload dX11_best_30 4 rfl ?_
      refine bv_iload_n dX11_best_32 1 rfl ?_
      obtain ⟨v1, p2, h⟩ := bu_bd h
      refine bw_callV (As := [.int x4, .int x1]) hN okL_0 ⟨_, _, rfl⟩ dX11_best_33 mc_11_251 (c_X11_reachOf (d := d + 0) hN hR p2) rfl rfl (by decide) ?_
      refine bv_istore (ls1 := [(0, .ref 0), (1, .int x1), (2, .int x2), (3, .int x3), (4, .int x4), (5, .int v1.1)]) dX11_best_36 (by decide) rfl rfl ?_
      refine bv_iload dX11_best_38 5 rfl ?_
      refine bv_iconst (v := (-1)) dX11_best_40 (by decide) ?_
      refine bv_icmp_eq (tgt := 62) dX11_best_41 (by decide) (fun cc => ?_) (fun cc => ?_)
      · replace h := bu_t h cc
        refine bv_iinc (j := 4) (v := (x4 + 1)) (ls1 := [(0, .ref 0), (1, .int x1), (2, .int x2), (3, .int x3), (4, .int (x4 + 1)), (5, .int v1.1)]) dX11_best_62 rfl rfl (by decide) rfl rfl ?_
        refine bv_goto (tgt := 17) dX11_best_65 (by decide) ?_
        refine bw_ls (ls1 := [(0, .ref 0), (1, .int x1), (2, .int x2), (3, .int x3), (4, .int (x4 + 1))]) [0, 1, 2, 3, 4] rfl ?_
        exact ih _ _ _ _ _ h K0
      · replace h := bu_f h cc
        refine bv_iload dX11_best_44 5 rfl ?_
        refine bw_callS (As := [.int v1.1]) dX11_best_46 mc_11_260 (c_J6_bitCount_0f7a4 (d := d + 5) hN hR rfl) rfl rfl (by decide) ?_
        refine bv_iload_n dX11_best_49 3 rfl ?_
        refine bv_icmp_le (tgt := 62) dX11_best_50 (by decide) (fun cc => ?_) (fun cc => ?_)
        · replace h := bu_t h cc
          refine bv_iinc (j := 4) (v := (x4 + 1)) (ls1 := [(0, .ref 0), (1, .int x1), (2, .int x2), (3, .int x3), (4, .int (x4 + 1)), (5, .int v1.1)]) dX11_best_62 rfl rfl (by decide) rfl rfl ?_
          refine bv_goto (tgt := 17) dX11_best_65 (by decide) ?_
          refine bw_ls (ls1 := [(0, .ref 0), (1, .int x1), (2, .int x2), (3, .int x3), (4, .int (x4 + 1))]) [0, 1, 2, 3, 4] rfl ?_
          exact ih _ _ _ _ _ h K0
        · replace h := bu_f h cc
          refine bv_iload dX11_best_53 4 rfl ?_
          refine bv_istore_n (ls1 := [(0, .ref 0), (1, .int x1), (2, .int x4), (3, .int x3), (4, .int x4), (5, .int v1.1)]) dX11_best_55 (by decide) rfl rfl ?_
          refine bv_iload dX11_best_56 5 rfl ?_
          refine bw_callS (As := [.int v1.1]) dX11_best_58 mc_11_260 (c_J6_bitCount_0f7a4 (d := d + 5) hN hR rfl) rfl rfl (by decide) ?_
          refine bv_istore_n (ls1 := [(0, .ref 0), (1, .int x1), (2, .int x4), (3, .int (f_J6_bitCount_0f7a4 v1.1)), (4, .int x4), (5, .int v1.1)]) dX11_best_61 (by decide) rfl rfl ?_
          refine bv_iinc (j := 4) (v := (x4 + 1)) (ls1 := [(0, .ref 0), (1, .int x1), (2, .int x4), (3, .int (f_J6_bitCount_0f7a4 v1.1)), (4, .int (x4 + 1)), (5, .int v1.1)]) dX11_best_62 rfl rfl (by decide) rfl rfl ?_
          refine bv_goto (tgt := 17) dX11_best_65 (by decide) ?_
          refine bw_ls (ls1 := [(0, .ref 0), (1, .int x1), (2, .int x4), (3, .int (f_J6_bitCount_0f7a4 v1.1)), (4, .int (x4 + 1))]) [0, 1, 2, 3, 4] rfl ?_
          exact ih _ _ _ _ _ h K0
def f_X11_best (I : bm_TI) (x1 : Int32) : Option (Int32 × bm_TI) := ((f_X11_isOrder I x1).bind fun v1 => (if v1 = true then ((f_X11_best_l17 x1 1000 (-1) (-1) 0 I).bind fun y5 => some (y5.1, y5.2)) else some ((-1), I)))
set_option maxHeartbeats 4000000 in
set_option maxRecDepth 100000 in
theorem c_X11_best {lc : bm_L} {d n : Nat} {I : bm_TI} {J : bm_TJ} {R W : bm_TR} {x1 : Int32} {v : Int32 × bm_TI} (hN : 181 ≤ n) (hR : bm_RR R) (h : f_X11_best I x1 = some v) : bm_C lc m_X11_best (d + 6) n n [.ref 0, .int x1] (I, J, R, W) (fun r M' => r = some (.int v.1) ∧ M' = (v.2, J, R, W)) := by
  refine bm_C.ofV (by decide) (Nat.le_of_ble_eq_true rfl) ?_
  show bm_V lc m_X11_best (d + 6) n n n 0 [(0, .ref 0), (1, .int x1)] [] (I, J, R, W) _
  unfold f_X11_best at h
  refine bv_aload_n dX11_best_0 0 rfl ?_
  refine bv_iload_n dX11_best_1 1 rfl ?_
  obtain ⟨v1, p2, h⟩ := bu_bd h
  refine bw_callV (As := [.int x1]) hN okL_0 ⟨_, _, rfl⟩ dX11_best_2 mc_11_194 (c_X11_isOrder (d := d + 5) hN hR p2) rfl rfl (by decide) ?_
  refine bw_ifB_ne (b := v1) (tgt := 10) dX11_best_5 (by decide) (fun cc => ?_) (fun cc => ?_)
  · replace h := bu_bt h cc
    refine bv_iconst (v := (-1)) dX11_best_10 (by decide) ?_
    refine bv_istore_n (ls1 := [(0, .ref 0), (1, .int x1), (2, .int (-1))]) dX11_best_11 (by decide) rfl rfl ?_
    refine bv_iconst (v := (-1)) dX11_best_12 (by decide) ?_
    refine bv_istore_n (ls1 := [(0, .ref 0), (1, .int x1), (2, .int (-1)), (3, .int (-1))]) dX11_best_13 (by decide) rfl rfl ?_
    refine bv_iconst (v := 0) dX11_best_14 (by decide) ?_
    refine bv_istore (ls1 := [(0, .ref 0), (1, .int x1), (2, .int (-1)), (3, .int (-1)), (4, .int 0)]) dX11_best_15 (by decide) rfl rfl ?_
    obtain ⟨r3, p4, h⟩ := bu_bd h
    refine v_X11_best_l17 hN hR 1000 _ _ _ _ _ p4 (fun y5 hy => ?_)
    · subst hy
      refine bv_iload_n dX11_best_68 0 rfl ?_
      obtain rfl := Option.some.inj h
      exact bv_iret (x := y5.1) dX11_best_69 rfl ⟨rfl, rfl⟩
  · replace h := bu_bf h cc
    refine bv_iconst (v := (-1)) dX11_best_8 (by decide) ?_
    obtain rfl := Option.some.inj h
    exact bv_iret (x := (-1)) dX11_best_9 rfl ⟨rfl, rfl⟩
def f_X11_stand_l27 (x1 : Int32) (x4 : Int32) : Nat → Int32 → Int32 → Int32 → bm_TI → Option (Int32 × Int32 × bm_TI)
  | 0, _, _, _, _ => none
  | k + 1, x2, x3, x5, I => (if 30 < x5 then some (x2, x3, I) else ((f_X8_underSeeing I x1 x5 x4).bind fun v1 => (if bm_ix 8 x1 = true then (if x2 < v1 then f_X11_stand_l27 x1 x4 k v1 (f_X11_far x5 x4 (I 27 x1.toNatClampNeg) (I 28 x1.toNatClampNeg)) (x5 + 1) (bm_uI (bm_uI I 0 14 x5) 0 15 x4) else (if v1 = x2 then (if x3 ≤ (f_X11_far x5 x4 (I 27 x1.toNatClampNeg) (I 28 x1.toNatClampNeg)) then f_X11_stand_l27 x1 x4 k x2 x3 (x5 + 1) I else f_X11_stand_l27 x1 x4 k v1 (f_X11_far x5 x4 (I 27 x1.toNatClampNeg) (I 28 x1.toNatClampNeg)) (x5 + 1) (bm_uI (bm_uI I 0 14 x5) 0 15 x4)) else f_X11_stand_l27 x1 x4 k x2 x3 (x5 + 1) I)) else none)))
set_option maxHeartbeats 4000000 in
set_option maxRecDepth 100000 in
theorem v_X11_stand_l27 {lc : bm_L} {d n : Nat} {Q : Option Value → bm_M → Prop} {R : bm_TR} {J : bm_TJ} {W : bm_TR} {x1 : Int32} {x4 : Int32} (hN : 181 ≤ n) (hR : bm_RR R) : ∀ (k : Nat) (x2 : Int32) (x3 : Int32) (x5 : Int32) (I : bm_TI) (r : Int32 × Int32 × bm_TI), f_X11_stand_l27 x1 x4 k x2 x3 x5 I = some r → (∀ yy, yy = r → bm_V lc m_X11_stand (d + 4) n n n 117 [(0, .ref 0), (1, .int x1), (2, .int yy.1), (3, .int yy.2.1), (4, .int x4)] [] (yy.2.2, J, R, W) Q) → bm_V lc m_X11_stand (d + 4) n n n 27 [(0, .ref 0), (1, .int x1), (2, .int x2), (3, .int x3), (4, .int x4), (5, .int x5)] [] (I, J, R, W) Q := by
  intro k
  induction k with
  | zero => intro x2 x3 x5 I r h; cases (show (none : Option (Int32 × Int32 × bm_TI)) = some r from h)
  | succ k ih =>
    intro x2 x3 x5 I r h K0
    unfold f_X11_stand_l27 at h
    refine bv_iload dX11_stand_27 5 rfl ?_
    refine bv_bipush (v := 30) dX11_stand_29 (by decide) ?_
    refine bv_icmp_gt (tgt := 117) dX11_stand_31 (by decide) (fun cc => ?_) (fun cc => ?_)
    · replace h := bu_t h cc
      refine bw_ls (ls1 := [(0, .ref 0), (1, .int x1), (2, .int x2), (3, .int x3), (4, .int x4)]) [0, 1, 2, 3, 4] rfl ?_
      obtain rfl := Option.some.inj h
      exact K0 _ rfl
    · replace h := bu_f h cc
      refine bv_aload_n dX11_stand_34 0 rfl ?_
      refine bz_getA (a := 26) hN okL_0 (hR _ _ _ r0_0_4) dX11_stand_35 fl_11_40 rfl ?_
      refine bv_iload_n dX11_stand_38 1 rfl ?_
      refine bv_iload dX11_stand_39 5 rfl ?_
      refine bv_iload dX11_stand_41 4 rfl ?_
      obtain ⟨v1, p2, h⟩ := bu_bd h
      refine bw_callV (As := [.int x1, .int x5, .int x4]) hN okL_26 ⟨_, _, rfl⟩ dX11_stand_43 mc_11_265 (c_X8_underSeeing (d := d + 0) hN hR p2) rfl rfl (by decide) ?_
      refine bv_istore (ls1 := [(0, .ref 0), (1, .int x1), (2, .int x2), (3, .int x3), (4, .int x4), (5, .int x5), (6, .int v1)]) dX11_stand_46 (by decide) rfl rfl ?_
      refine bv_iload dX11_stand_48 5 rfl ?_
      refine bv_iload dX11_stand_50 4 rfl ?_
      refine bv_aload_n dX11_stand_52 0 rfl ?_
      refine bz_getA (a := 26) hN okL_0 (hR _ _ _ r0_0_4) dX11_stand_53 fl_11_40 rfl ?_
      refine bz_getA (a := 27) hN okL_26 (hR _ _ _ r0_26_1) dX11_stand_56 fl_11_158 rfl ?_
      refine bv_iload_n dX11_stand_59 1 rfl ?_
      obtain ⟨r3, h⟩ := bu_ix h
      refine bz_iald hN rkL_27 r3 rfl dX11_stand_60 ?_
      refine bv_aload_n dX11_stand_61 0 rfl ?_
      refine bz_getA (a := 26) hN okL_0 (hR _ _ _ r0_0_4) dX11_stand_62 fl_11_40 rfl ?_
      refine bz_getA (a := 28) hN okL_26 (hR _ _ _ r0_26_2) dX11_stand_65 fl_11_162 rfl ?_
      refine bv_iload_n dX11_stand_68 1 rfl ?_
      refine bz_iald hN rkL_28 r3 rfl dX11_stand_69 ?_
      refine bw_callS (As := [.int x5, .int x4, .int (I 27 x1.toNatClampNeg), .int (I 28 x1.toNatClampNeg)]) dX11_stand_70 mc_11_268 (c_X11_far (d := d + 3) hN hR rfl) rfl rfl (by decide) ?_
      refine bv_istore (ls1 := [(0, .ref 0), (1, .int x1), (2, .int x2), (3, .int x3), (4, .int x4), (5, .int x5), (6, .int v1), (7, .int (f_X11_far x5 x4 (I 27 x1.toNatClampNeg) (I 28 x1.toNatClampNeg)))]) dX11_stand_73 (by decide) rfl rfl ?_
      refine bv_iload dX11_stand_75 6 rfl ?_
      refine bv_iload_n dX11_stand_77 2 rfl ?_
      refine bv_icmp_gt (tgt := 93) dX11_stand_78 (by decide) (fun cc => ?_) (fun cc => ?_)
      · replace h := bu_t h cc
        refine bv_iload dX11_stand_93 6 rfl ?_
        refine bv_istore_n (ls1 := [(0, .ref 0), (1, .int x1), (2, .int v1), (3, .int x3), (4, .int x4), (5, .int x5), (6, .int v1), (7, .int (f_X11_far x5 x4 (I 27 x1.toNatClampNeg) (I 28 x1.toNatClampNeg)))]) dX11_stand_95 (by decide) rfl rfl ?_
        refine bv_iload dX11_stand_96 7 rfl ?_
        refine bv_istore_n (ls1 := [(0, .ref 0), (1, .int x1), (2, .int v1), (3, .int (f_X11_far x5 x4 (I 27 x1.toNatClampNeg) (I 28 x1.toNatClampNeg))), (4, .int x4), (5, .int x5), (6, .int v1), (7, .int (f_X11_far x5 x4 (I 27 x1.toNatClampNeg) (I 28 x1.toNatClampNeg)))]) dX11_stand_98 (by decide) rfl rfl ?_
        refine bv_aload_n dX11_stand_99 0 rfl ?_
        refine bv_iload dX11_stand_100 5 rfl ?_
        refine bz_putI hN okL_0 dX11_stand_102 fl_11_92 rfl ?_
        refine bv_aload_n dX11_stand_105 0 rfl ?_
        refine bv_iload dX11_stand_106 4 rfl ?_
        refine bz_putI hN okL_0 dX11_stand_108 fl_11_96 rfl ?_
        refine bv_iinc (j := 5) (v := (x5 + 1)) (ls1 := [(0, .ref 0), (1, .int x1), (2, .int v1), (3, .int (f_X11_far x5 x4 (I 27 x1.toNatClampNeg) (I 28 x1.toNatClampNeg))), (4, .int x4), (5, .int (x5 + 1)), (6, .int v1), (7, .int (f_X11_far x5 x4 (I 27 x1.toNatClampNeg) (I 28 x1.toNatClampNeg)))]) dX11_stand_111 rfl rfl (by decide) rfl rfl ?_
        refine bv_goto (tgt := 27) dX11_stand_114 (by decide) ?_
        refine bw_ls (ls1 := [(0, .ref 0), (1, .int x1), (2, .int v1), (3, .int (f_X11_far x5 x4 (I 27 x1.toNatClampNeg) (I 28 x1.toNatClampNeg))), (4, .int x4), (5, .int (x5 + 1))]) [0, 1, 2, 3, 4, 5] rfl ?_
        exact ih _ _ _ _ _ h K0
      · replace h := bu_f h cc
        refine bv_iload dX11_stand_81 6 rfl ?_
        refine bv_iload_n dX11_stand_83 2 rfl ?_
        refine bv_icmp_ne (tgt := 111) dX11_stand_84 (by decide) (fun cc => ?_) (fun cc => ?_)
        · replace h := bu_f h cc
          refine bv_iinc (j := 5) (v := (x5 + 1)) (ls1 := [(0, .ref 0), (1, .int x1), (2, .int x2), (3, .int x3), (4, .int x4), (5, .int (x5 + 1)), (6, .int v1), (7, .int (f_X11_far x5 x4 (I 27 x1.toNatClampNeg) (I 28 x1.toNatClampNeg)))]) dX11_stand_111 rfl rfl (by decide) rfl rfl ?_
          refine bv_goto (tgt := 27) dX11_stand_114 (by decide) ?_
          refine bw_ls (ls1 := [(0, .ref 0), (1, .int x1), (2, .int x2), (3, .int x3), (4, .int x4), (5, .int (x5 + 1))]) [0, 1, 2, 3, 4, 5] rfl ?_
          exact ih _ _ _ _ _ h K0
        · replace h := bu_t h cc
          refine bv_iload dX11_stand_87 7 rfl ?_
          refine bv_iload_n dX11_stand_89 3 rfl ?_
          refine bv_icmp_ge (tgt := 111) dX11_stand_90 (by decide) (fun cc => ?_) (fun cc => ?_)
          · replace h := bu_t h cc
            refine bv_iinc (j := 5) (v := (x5 + 1)) (ls1 := [(0, .ref 0), (1, .int x1), (2, .int x2), (3, .int x3), (4, .int x4), (5, .int (x5 + 1)), (6, .int v1), (7, .int (f_X11_far x5 x4 (I 27 x1.toNatClampNeg) (I 28 x1.toNatClampNeg)))]) dX11_stand_111 rfl rfl (by decide) rfl rfl ?_
            refine bv_goto (tgt := 27) dX11_stand_114 (by decide) ?_
            refine bw_ls (ls1 := [(0, .ref 0), (1, .int x1), (2, .int x2), (3, .int x3), (4, .int x4), (5, .int (x5 + 1))]) [0, 1, 2, 3, 4, 5] rfl ?_
            exact ih _ _ _ _ _ h K0
          · replace h := bu_f h cc
            refine bv_iload dX11_stand_93 6 rfl ?_
            refine bv_istore_n (ls1 := [(0, .ref 0), (1, .int x1), (2, .int v1), (3, .int x3), (4, .int x4), (5, .int x5), (6, .int v1), (7, .int (f_X11_far x5 x4 (I 27 x1.toNatClampNeg) (I 28 x1.toNatClampNeg)))]) dX11_stand_95 (by decide) rfl rfl ?_
            refine bv_iload dX11_stand_96 7 rfl ?_
            refine bv_istore_n (ls1 := [(0, .ref 0), (1, .int x1), (2, .int v1), (3, .int (f_X11_far x5 x4 (I 27 x1.toNatClampNeg) (I 28 x1.toNatClampNeg))), (4, .int x4), (5, .int x5), (6, .int v1), (7, .int (f_X11_far x5 x4 (I 27 x1.toNatClampNeg) (I 28 x1.toNatClampNeg)))]) dX11_stand_98 (by decide) rfl rfl ?_
            refine bv_aload_n dX11_stand_99 0 rfl ?_
            refine bv_iload dX11_stand_100 5 rfl ?_
            refine bz_putI hN okL_0 dX11_stand_102 fl_11_92 rfl ?_
            refine bv_aload_n dX11_stand_105 0 rfl ?_
            refine bv_iload dX11_stand_106 4 rfl ?_
            refine bz_putI hN okL_0 dX11_stand_108 fl_11_96 rfl ?_
            refine bv_iinc (j := 5) (v := (x5 + 1)) (ls1 := [(0, .ref 0), (1, .int x1), (2, .int v1), (3, .int (f_X11_far x5 x4 (I 27 x1.toNatClampNeg) (I 28 x1.toNatClampNeg))), (4, .int x4), (5, .int (x5 + 1)), (6, .int v1), (7, .int (f_X11_far x5 x4 (I 27 x1.toNatClampNeg) (I 28 x1.toNatClampNeg)))]) dX11_stand_111 rfl rfl (by decide) rfl rfl ?_
            refine bv_goto (tgt := 27) dX11_stand_114 (by decide) ?_
            refine bw_ls (ls1 := [(0, .ref 0), (1, .int x1), (2, .int v1), (3, .int (f_X11_far x5 x4 (I 27 x1.toNatClampNeg) (I 28 x1.toNatClampNeg))), (4, .int x4), (5, .int (x5 + 1))]) [0, 1, 2, 3, 4, 5] rfl ?_
            exact ih _ _ _ _ _ h K0
def f_X11_stand_l17 (x1 : Int32) : Nat → Int32 → Int32 → Int32 → bm_TI → Option (Int32 × bm_TI)
  | 0, _, _, _, _ => none
  | k + 1, x2, x3, x4, I => (if 30 < x4 then some (x2, I) else ((f_X11_stand_l27 x1 x4 1000 x2 x3 0 I).bind fun y3 => f_X11_stand_l17 x1 k y3.1 y3.2.1 (x4 + 1) y3.2.2))
set_option maxHeartbeats 4000000 in
set_option maxRecDepth 100000 in
theorem v_X11_stand_l17 {lc : bm_L} {d n : Nat} {Q : Option Value → bm_M → Prop} {R : bm_TR} {J : bm_TJ} {W : bm_TR} {x1 : Int32} (hN : 181 ≤ n) (hR : bm_RR R) : ∀ (k : Nat) (x2 : Int32) (x3 : Int32) (x4 : Int32) (I : bm_TI) (r : Int32 × bm_TI), f_X11_stand_l17 x1 k x2 x3 x4 I = some r → (∀ yy, yy = r → bm_V lc m_X11_stand (d + 4) n n n 123 [(2, .int yy.1)] [] (yy.2, J, R, W) Q) → bm_V lc m_X11_stand (d + 4) n n n 17 [(0, .ref 0), (1, .int x1), (2, .int x2), (3, .int x3), (4, .int x4)] [] (I, J, R, W) Q := by
  intro k
  induction k with
  | zero => intro x2 x3 x4 I r h; cases (show (none : Option (Int32 × bm_TI)) = some r from h)
  | succ k ih =>
    intro x2 x3 x4 I r h K0
    unfold f_X11_stand_l17 at h
    refine bv_iload dX11_stand_17 4 rfl ?_
    refine bv_bipush (v := 30) dX11_stand_19 (by decide) ?_
    refine bv_icmp_gt (tgt := 123) dX11_stand_21 (by decide) (fun cc => ?_) (fun cc => ?_)
    · replace h := bu_t h cc
      refine bw_ls (ls1 := [(2, .int x2)]) [2] rfl ?_
      obtain rfl := Option.some.inj h
      exact K0 _ rfl
    · replace h := bu_f h cc
      refine bv_iconst (v := 0) dX11_stand_24 (by decide) ?_
      refine bv_istore (ls1 := [(0, .ref 0), (1, .int x1), (2, .int x2), (3, .int x3), (4, .int x4), (5, .int 0)]) dX11_stand_25 (by decide) rfl rfl ?_
      obtain ⟨r1, p2, h⟩ := bu_bd h
      refine v_X11_stand_l27 hN hR 1000 _ _ _ _ _ p2 (fun y3 hy => ?_)
      · subst hy
        refine bv_iinc (j := 4) (v := (x4 + 1)) (ls1 := [(0, .ref 0), (1, .int x1), (2, .int y3.1), (3, .int y3.2.1), (4, .int (x4 + 1))]) dX11_stand_117 rfl rfl (by decide) rfl rfl ?_
        refine bv_goto (tgt := 17) dX11_stand_120 (by decide) ?_
        exact ih _ _ _ _ _ h K0
def f_X11_stand (I : bm_TI) (x1 : Int32) : Option (Int32 × bm_TI) := ((f_X11_isMan I x1).bind fun v1 => (if v1 = true then ((f_X11_stand_l17 x1 1000 (-1) 0 0 I).bind fun y5 => some (y5.1, y5.2)) else some ((-1), I)))
set_option maxHeartbeats 4000000 in
set_option maxRecDepth 100000 in
theorem c_X11_stand {lc : bm_L} {d n : Nat} {I : bm_TI} {J : bm_TJ} {R W : bm_TR} {x1 : Int32} {v : Int32 × bm_TI} (hN : 181 ≤ n) (hR : bm_RR R) (h : f_X11_stand I x1 = some v) : bm_C lc m_X11_stand (d + 4) n n [.ref 0, .int x1] (I, J, R, W) (fun r M' => r = some (.int v.1) ∧ M' = (v.2, J, R, W)) := by
  refine bm_C.ofV (by decide) (Nat.le_of_ble_eq_true rfl) ?_
  show bm_V lc m_X11_stand (d + 4) n n n 0 [(0, .ref 0), (1, .int x1)] [] (I, J, R, W) _
  unfold f_X11_stand at h
  refine bv_aload_n dX11_stand_0 0 rfl ?_
  refine bv_iload_n dX11_stand_1 1 rfl ?_
  obtain ⟨v1, p2, h⟩ := bu_bd h
  refine bw_callV (As := [.int x1]) hN okL_0 ⟨_, _, rfl⟩ dX11_stand_2 mc_11_147 (c_X11_isMan (d := d + 3) hN hR p2) rfl rfl (by decide) ?_
  refine bw_ifB_ne (b := v1) (tgt := 10) dX11_stand_5 (by decide) (fun cc => ?_) (fun cc => ?_)
  · replace h := bu_bt h cc
    refine bv_iconst (v := (-1)) dX11_stand_10 (by decide) ?_
    refine bv_istore_n (ls1 := [(0, .ref 0), (1, .int x1), (2, .int (-1))]) dX11_stand_11 (by decide) rfl rfl ?_
    refine bv_iconst (v := 0) dX11_stand_12 (by decide) ?_
    refine bv_istore_n (ls1 := [(0, .ref 0), (1, .int x1), (2, .int (-1)), (3, .int 0)]) dX11_stand_13 (by decide) rfl rfl ?_
    refine bv_iconst (v := 0) dX11_stand_14 (by decide) ?_
    refine bv_istore (ls1 := [(0, .ref 0), (1, .int x1), (2, .int (-1)), (3, .int 0), (4, .int 0)]) dX11_stand_15 (by decide) rfl rfl ?_
    obtain ⟨r3, p4, h⟩ := bu_bd h
    refine v_X11_stand_l17 hN hR 1000 _ _ _ _ _ p4 (fun y5 hy => ?_)
    · subst hy
      refine bv_iload_n dX11_stand_123 0 rfl ?_
      obtain rfl := Option.some.inj h
      exact bv_iret (x := y5.1) dX11_stand_124 rfl ⟨rfl, rfl⟩
  · replace h := bu_bf h cc
    refine bv_iconst (v := (-1)) dX11_stand_8 (by decide) ?_
    obtain rfl := Option.some.inj h
    exact bv_iret (x := (-1)) dX11_stand_9 rfl ⟨rfl, rfl⟩
def f_X11_hide_l23 (x1 : Int32) (x3 : Int32) : Nat → Int32 → Int32 → bm_TI → Option (Int32 × bm_TI)
  | 0, _, _, _ => none
  | k + 1, x2, x4, I => (if 30 < x4 then some (x2, I) else (if bm_ix 8 x1 = true then (if x2 = (-1) then ((f_X8_foesSeeing I x1 x4 x3).bind fun v2 => (if v2 = 0 then ((f_X8_underSeeing I x1 x4 x3).bind fun v4 => (if v4 ≤ 0 then f_X11_hide_l23 x1 x3 k x2 (x4 + 1) I else f_X11_hide_l23 x1 x3 k (f_X11_far x4 x3 (I 27 x1.toNatClampNeg) (I 28 x1.toNatClampNeg)) (x4 + 1) (bm_uI (bm_uI I 0 14 x4) 0 15 x3))) else f_X11_hide_l23 x1 x3 k x2 (x4 + 1) I)) else (if x2 ≤ (f_X11_far x4 x3 (I 27 x1.toNatClampNeg) (I 28 x1.toNatClampNeg)) then f_X11_hide_l23 x1 x3 k x2 (x4 + 1) I else ((f_X8_foesSeeing I x1 x4 x3).bind fun v6 => (if v6 = 0 then ((f_X8_underSeeing I x1 x4 x3).bind fun v8 => (if v8 ≤ 0 then f_X11_hide_l23 x1 x3 k x2 (x4 + 1) I else f_X11_hide_l23 x1 x3 k (f_X11_far x4 x3 (I 27 x1.toNatClampNeg) (I 28 x1.toNatClampNeg)) (x4 + 1) (bm_uI (bm_uI I 0 14 x4) 0 15 x3))) else f_X11_hide_l23 x1 x3 k x2 (x4 + 1) I)))) else none))
set_option maxHeartbeats 4000000 in
set_option maxRecDepth 100000 in
theorem v_X11_hide_l23 {lc : bm_L} {d n : Nat} {Q : Option Value → bm_M → Prop} {R : bm_TR} {J : bm_TJ} {W : bm_TR} {x1 : Int32} {x3 : Int32} (hN : 181 ≤ n) (hR : bm_RR R) : ∀ (k : Nat) (x2 : Int32) (x4 : Int32) (I : bm_TI) (r : Int32 × bm_TI), f_X11_hide_l23 x1 x3 k x2 x4 I = some r → (∀ yy, yy = r → bm_V lc m_X11_hide (d + 4) n n n 127 [(0, .ref 0), (1, .int x1), (2, .int yy.1), (3, .int x3)] [] (yy.2, J, R, W) Q) → bm_V lc m_X11_hide (d + 4) n n n 23 [(0, .ref 0), (1, .int x1), (2, .int x2), (3, .int x3), (4, .int x4)] [] (I, J, R, W) Q := by
  intro k
  induction k with
  | zero => intro x2 x4 I r h; cases (show (none : Option (Int32 × bm_TI)) = some r from h)
  | succ k ih =>
    intro x2 x4 I r h K0
    unfold f_X11_hide_l23 at h
    refine bv_iload dX11_hide_23 4 rfl ?_
    refine bv_bipush (v := 30) dX11_hide_25 (by decide) ?_
    refine bv_icmp_gt (tgt := 127) dX11_hide_27 (by decide) (fun cc => ?_) (fun cc => ?_)
    · replace h := bu_t h cc
      refine bw_ls (ls1 := [(0, .ref 0), (1, .int x1), (2, .int x2), (3, .int x3)]) [0, 1, 2, 3] rfl ?_
      obtain rfl := Option.some.inj h
      exact K0 _ rfl
    · replace h := bu_f h cc
      refine bv_iload dX11_hide_30 4 rfl ?_
      refine bv_iload_n dX11_hide_32 3 rfl ?_
      refine bv_aload_n dX11_hide_33 0 rfl ?_
      refine bz_getA (a := 26) hN okL_0 (hR _ _ _ r0_0_4) dX11_hide_34 fl_11_40 rfl ?_
      refine bz_getA (a := 27) hN okL_26 (hR _ _ _ r0_26_1) dX11_hide_37 fl_11_158 rfl ?_
      refine bv_iload_n dX11_hide_40 1 rfl ?_
      obtain ⟨r1, h⟩ := bu_ix h
      refine bz_iald hN rkL_27 r1 rfl dX11_hide_41 ?_
      refine bv_aload_n dX11_hide_42 0 rfl ?_
      refine bz_getA (a := 26) hN okL_0 (hR _ _ _ r0_0_4) dX11_hide_43 fl_11_40 rfl ?_
      refine bz_getA (a := 28) hN okL_26 (hR _ _ _ r0_26_2) dX11_hide_46 fl_11_162 rfl ?_
      refine bv_iload_n dX11_hide_49 1 rfl ?_
      refine bz_iald hN rkL_28 r1 rfl dX11_hide_50 ?_
      refine bw_callS (As := [.int x4, .int x3, .int (I 27 x1.toNatClampNeg), .int (I 28 x1.toNatClampNeg)]) dX11_hide_51 mc_11_268 (c_X11_far (d := d + 3) hN hR rfl) rfl rfl (by decide) ?_
      refine bv_istore (ls1 := [(0, .ref 0), (1, .int x1), (2, .int x2), (3, .int x3), (4, .int x4), (5, .int (f_X11_far x4 x3 (I 27 x1.toNatClampNeg) (I 28 x1.toNatClampNeg)))]) dX11_hide_54 (by decide) rfl rfl ?_
      refine bv_iload_n dX11_hide_56 2 rfl ?_
      refine bv_iconst (v := (-1)) dX11_hide_57 (by decide) ?_
      refine bv_icmp_eq (tgt := 67) dX11_hide_58 (by decide) (fun cc => ?_) (fun cc => ?_)
      · replace h := bu_t h cc
        refine bv_iconst (v := 1) dX11_hide_67 (by decide) ?_
        refine bv_goto (tgt := 72) dX11_hide_68 (by decide) ?_
        refine bv_istore (ls1 := [(0, .ref 0), (1, .int x1), (2, .int x2), (3, .int x3), (4, .int x4), (5, .int (f_X11_far x4 x3 (I 27 x1.toNatClampNeg) (I 28 x1.toNatClampNeg))), (6, .int 1)]) dX11_hide_72 (by decide) rfl rfl ?_
        refine bv_iload dX11_hide_74 6 rfl ?_
        refine bv_if_eq (tgt := 121) dX11_hide_76 (by decide) (fun cc => ?_) (fun cc => ?_)
        · exact absurd cc (by decide)
        refine bv_aload_n dX11_hide_79 0 rfl ?_
        refine bz_getA (a := 26) hN okL_0 (hR _ _ _ r0_0_4) dX11_hide_80 fl_11_40 rfl ?_
        refine bv_iload_n dX11_hide_83 1 rfl ?_
        refine bv_iload dX11_hide_84 4 rfl ?_
        refine bv_iload_n dX11_hide_86 3 rfl ?_
        obtain ⟨v2, p3, h⟩ := bu_bd h
        refine bw_callV (As := [.int x1, .int x4, .int x3]) hN okL_26 ⟨_, _, rfl⟩ dX11_hide_87 mc_11_248 (c_X8_foesSeeing (d := d + 0) hN hR p3) rfl rfl (by decide) ?_
        refine bv_if_ne (tgt := 121) dX11_hide_90 (by decide) (fun cc => ?_) (fun cc => ?_)
        · replace h := bu_f h cc
          refine bv_iinc (j := 4) (v := (x4 + 1)) (ls1 := [(0, .ref 0), (1, .int x1), (2, .int x2), (3, .int x3), (4, .int (x4 + 1)), (5, .int (f_X11_far x4 x3 (I 27 x1.toNatClampNeg) (I 28 x1.toNatClampNeg))), (6, .int 1)]) dX11_hide_121 rfl rfl (by decide) rfl rfl ?_
          refine bv_goto (tgt := 23) dX11_hide_124 (by decide) ?_
          refine bw_ls (ls1 := [(0, .ref 0), (1, .int x1), (2, .int x2), (3, .int x3), (4, .int (x4 + 1))]) [0, 1, 2, 3, 4] rfl ?_
          exact ih _ _ _ _ h K0
        · replace h := bu_t h cc
          refine bv_aload_n dX11_hide_93 0 rfl ?_
          refine bz_getA (a := 26) hN okL_0 (hR _ _ _ r0_0_4) dX11_hide_94 fl_11_40 rfl ?_
          refine bv_iload_n dX11_hide_97 1 rfl ?_
          refine bv_iload dX11_hide_98 4 rfl ?_
          refine bv_iload_n dX11_hide_100 3 rfl ?_
          obtain ⟨v4, p5, h⟩ := bu_bd h
          refine bw_callV (As := [.int x1, .int x4, .int x3]) hN okL_26 ⟨_, _, rfl⟩ dX11_hide_101 mc_11_265 (c_X8_underSeeing (d := d + 0) hN hR p5) rfl rfl (by decide) ?_
          refine bv_if_le (tgt := 121) dX11_hide_104 (by decide) (fun cc => ?_) (fun cc => ?_)
          · replace h := bu_t h cc
            refine bv_iinc (j := 4) (v := (x4 + 1)) (ls1 := [(0, .ref 0), (1, .int x1), (2, .int x2), (3, .int x3), (4, .int (x4 + 1)), (5, .int (f_X11_far x4 x3 (I 27 x1.toNatClampNeg) (I 28 x1.toNatClampNeg))), (6, .int 1)]) dX11_hide_121 rfl rfl (by decide) rfl rfl ?_
            refine bv_goto (tgt := 23) dX11_hide_124 (by decide) ?_
            refine bw_ls (ls1 := [(0, .ref 0), (1, .int x1), (2, .int x2), (3, .int x3), (4, .int (x4 + 1))]) [0, 1, 2, 3, 4] rfl ?_
            exact ih _ _ _ _ h K0
          · replace h := bu_f h cc
            refine bv_iload dX11_hide_107 5 rfl ?_
            refine bv_istore_n (ls1 := [(0, .ref 0), (1, .int x1), (2, .int (f_X11_far x4 x3 (I 27 x1.toNatClampNeg) (I 28 x1.toNatClampNeg))), (3, .int x3), (4, .int x4), (5, .int (f_X11_far x4 x3 (I 27 x1.toNatClampNeg) (I 28 x1.toNatClampNeg))), (6, .int 1)]) dX11_hide_109 (by decide) rfl rfl ?_
            refine bv_aload_n dX11_hide_110 0 rfl ?_
            refine bv_iload dX11_hide_111 4 rfl ?_
            refine bz_putI hN okL_0 dX11_hide_113 fl_11_92 rfl ?_
            refine bv_aload_n dX11_hide_116 0 rfl ?_
            refine bv_iload_n dX11_hide_117 3 rfl ?_
            refine bz_putI hN okL_0 dX11_hide_118 fl_11_96 rfl ?_
            refine bv_iinc (j := 4) (v := (x4 + 1)) (ls1 := [(0, .ref 0), (1, .int x1), (2, .int (f_X11_far x4 x3 (I 27 x1.toNatClampNeg) (I 28 x1.toNatClampNeg))), (3, .int x3), (4, .int (x4 + 1)), (5, .int (f_X11_far x4 x3 (I 27 x1.toNatClampNeg) (I 28 x1.toNatClampNeg))), (6, .int 1)]) dX11_hide_121 rfl rfl (by decide) rfl rfl ?_
            refine bv_goto (tgt := 23) dX11_hide_124 (by decide) ?_
            refine bw_ls (ls1 := [(0, .ref 0), (1, .int x1), (2, .int (f_X11_far x4 x3 (I 27 x1.toNatClampNeg) (I 28 x1.toNatClampNeg))), (3, .int x3), (4, .int (x4 + 1))]) [0, 1, 2, 3, 4] rfl ?_
            exact ih _ _ _ _ h K0
      · replace h := bu_f h cc
        refine bv_iload dX11_hide_61 5 rfl ?_
        refine bv_iload_n dX11_hide_63 2 rfl ?_
        refine bv_icmp_ge (tgt := 71) dX11_hide_64 (by decide) (fun cc => ?_) (fun cc => ?_)
        · replace h := bu_t h cc
          refine bv_iconst (v := 0) dX11_hide_71 (by decide) ?_
          refine bv_istore (ls1 := [(0, .ref 0), (1, .int x1), (2, .int x2), (3, .int x3), (4, .int x4), (5, .int (f_X11_far x4 x3 (I 27 x1.toNatClampNeg) (I 28 x1.toNatClampNeg))), (6, .int 0)]) dX11_hide_72 (by decide) rfl rfl ?_
          refine bv_iload dX11_hide_74 6 rfl ?_
          refine bv_if_eq (tgt := 121) dX11_hide_76 (by decide) (fun cc => ?_) (fun cc => ?_)
          rotate_left
          · exact absurd cc (by decide)
          refine bv_iinc (j := 4) (v := (x4 + 1)) (ls1 := [(0, .ref 0), (1, .int x1), (2, .int x2), (3, .int x3), (4, .int (x4 + 1)), (5, .int (f_X11_far x4 x3 (I 27 x1.toNatClampNeg) (I 28 x1.toNatClampNeg))), (6, .int 0)]) dX11_hide_121 rfl rfl (by decide) rfl rfl ?_
          refine bv_goto (tgt := 23) dX11_hide_124 (by decide) ?_
          refine bw_ls (ls1 := [(0, .ref 0), (1, .int x1), (2, .int x2), (3, .int x3), (4, .int (x4 + 1))]) [0, 1, 2, 3, 4] rfl ?_
          exact ih _ _ _ _ h K0
        · replace h := bu_f h cc
          refine bv_iconst (v := 1) dX11_hide_67 (by decide) ?_
          refine bv_goto (tgt := 72) dX11_hide_68 (by decide) ?_
          refine bv_istore (ls1 := [(0, .ref 0), (1, .int x1), (2, .int x2), (3, .int x3), (4, .int x4), (5, .int (f_X11_far x4 x3 (I 27 x1.toNatClampNeg) (I 28 x1.toNatClampNeg))), (6, .int 1)]) dX11_hide_72 (by decide) rfl rfl ?_
          refine bv_iload dX11_hide_74 6 rfl ?_
          refine bv_if_eq (tgt := 121) dX11_hide_76 (by decide) (fun cc => ?_) (fun cc => ?_)
          · exact absurd cc (by decide)
          refine bv_aload_n dX11_hide_79 0 rfl ?_
          refine bz_getA (a := 26) hN okL_0 (hR _ _ _ r0_0_4) dX11_hide_80 fl_11_40 rfl ?_
          refine bv_iload_n dX11_hide_83 1 rfl ?_
          refine bv_iload dX11_hide_84 4 rfl ?_
          refine bv_iload_n dX11_hide_86 3 rfl ?_
          obtain ⟨v6, p7, h⟩ := bu_bd h
          refine bw_callV (As := [.int x1, .int x4, .int x3]) hN okL_26 ⟨_, _, rfl⟩ dX11_hide_87 mc_11_248 (c_X8_foesSeeing (d := d + 0) hN hR p7) rfl rfl (by decide) ?_
          refine bv_if_ne (tgt := 121) dX11_hide_90 (by decide) (fun cc => ?_) (fun cc => ?_)
          · replace h := bu_f h cc
            refine bv_iinc (j := 4) (v := (x4 + 1)) (ls1 := [(0, .ref 0), (1, .int x1), (2, .int x2), (3, .int x3), (4, .int (x4 + 1)), (5, .int (f_X11_far x4 x3 (I 27 x1.toNatClampNeg) (I 28 x1.toNatClampNeg))), (6, .int 1)]) dX11_hide_121 rfl rfl (by decide) rfl rfl ?_
            refine bv_goto (tgt := 23) dX11_hide_124 (by decide) ?_
            refine bw_ls (ls1 := [(0, .ref 0), (1, .int x1), (2, .int x2), (3, .int x3), (4, .int (x4 + 1))]) [0, 1, 2, 3, 4] rfl ?_
            exact ih _ _ _ _ h K0
          · replace h := bu_t h cc
            refine bv_aload_n dX11_hide_93 0 rfl ?_
            refine bz_getA (a := 26) hN okL_0 (hR _ _ _ r0_0_4) dX11_hide_94 fl_11_40 rfl ?_
            refine bv_iload_n dX11_hide_97 1 rfl ?_
            refine bv_iload dX11_hide_98 4 rfl ?_
            refine bv_iload_n dX11_hide_100 3 rfl ?_
            obtain ⟨v8, p9, h⟩ := bu_bd h
            refine bw_callV (As := [.int x1, .int x4, .int x3]) hN okL_26 ⟨_, _, rfl⟩ dX11_hide_101 mc_11_265 (c_X8_underSeeing (d := d + 0) hN hR p9) rfl rfl (by decide) ?_
            refine bv_if_le (tgt := 121) dX11_hide_104 (by decide) (fun cc => ?_) (fun cc => ?_)
            · replace h := bu_t h cc
              refine bv_iinc (j := 4) (v := (x4 + 1)) (ls1 := [(0, .ref 0), (1, .int x1), (2, .int x2), (3, .int x3), (4, .int (x4 + 1)), (5, .int (f_X11_far x4 x3 (I 27 x1.toNatClampNeg) (I 28 x1.toNatClampNeg))), (6, .int 1)]) dX11_hide_121 rfl rfl (by decide) rfl rfl ?_
              refine bv_goto (tgt := 23) dX11_hide_124 (by decide) ?_
              refine bw_ls (ls1 := [(0, .ref 0), (1, .int x1), (2, .int x2), (3, .int x3), (4, .int (x4 + 1))]) [0, 1, 2, 3, 4] rfl ?_
              exact ih _ _ _ _ h K0
            · replace h := bu_f h cc
              refine bv_iload dX11_hide_107 5 rfl ?_
              refine bv_istore_n (ls1 := [(0, .ref 0), (1, .int x1), (2, .int (f_X11_far x4 x3 (I 27 x1.toNatClampNeg) (I 28 x1.toNatClampNeg))), (3, .int x3), (4, .int x4), (5, .int (f_X11_far x4 x3 (I 27 x1.toNatClampNeg) (I 28 x1.toNatClampNeg))), (6, .int 1)]) dX11_hide_109 (by decide) rfl rfl ?_
              refine bv_aload_n dX11_hide_110 0 rfl ?_
              refine bv_iload dX11_hide_111 4 rfl ?_
              refine bz_putI hN okL_0 dX11_hide_113 fl_11_92 rfl ?_
              refine bv_aload_n dX11_hide_116 0 rfl ?_
              refine bv_iload_n dX11_hide_117 3 rfl ?_
              refine bz_putI hN okL_0 dX11_hide_118 fl_11_96 rfl ?_
              refine bv_iinc (j := 4) (v := (x4 + 1)) (ls1 := [(0, .ref 0), (1, .int x1), (2, .int (f_X11_far x4 x3 (I 27 x1.toNatClampNeg) (I 28 x1.toNatClampNeg))), (3, .int x3), (4, .int (x4 + 1)), (5, .int (f_X11_far x4 x3 (I 27 x1.toNatClampNeg) (I 28 x1.toNatClampNeg))), (6, .int 1)]) dX11_hide_121 rfl rfl (by decide) rfl rfl ?_
              refine bv_goto (tgt := 23) dX11_hide_124 (by decide) ?_
              refine bw_ls (ls1 := [(0, .ref 0), (1, .int x1), (2, .int (f_X11_far x4 x3 (I 27 x1.toNatClampNeg) (I 28 x1.toNatClampNeg))), (3, .int x3), (4, .int (x4 + 1))]) [0, 1, 2, 3, 4] rfl ?_
              exact ih _ _ _ _ h K0
def f_X11_hide_l14 (x1 : Int32) : Nat → Int32 → Int32 → bm_TI → Option (Int32 × bm_TI)
  | 0, _, _, _ => none
  | k + 1, x2, x3, I => (if 30 < x3 then some (x2, I) else ((f_X11_hide_l23 x1 x3 1000 x2 0 I).bind fun y3 => f_X11_hide_l14 x1 k y3.1 (x3 + 1) y3.2))
set_option maxHeartbeats 4000000 in
set_option maxRecDepth 100000 in
theorem v_X11_hide_l14 {lc : bm_L} {d n : Nat} {Q : Option Value → bm_M → Prop} {R : bm_TR} {J : bm_TJ} {W : bm_TR} {x1 : Int32} (hN : 181 ≤ n) (hR : bm_RR R) : ∀ (k : Nat) (x2 : Int32) (x3 : Int32) (I : bm_TI) (r : Int32 × bm_TI), f_X11_hide_l14 x1 k x2 x3 I = some r → (∀ yy, yy = r → bm_V lc m_X11_hide (d + 4) n n n 133 [(2, .int yy.1)] [] (yy.2, J, R, W) Q) → bm_V lc m_X11_hide (d + 4) n n n 14 [(0, .ref 0), (1, .int x1), (2, .int x2), (3, .int x3)] [] (I, J, R, W) Q := by
  intro k
  induction k with
  | zero => intro x2 x3 I r h; cases (show (none : Option (Int32 × bm_TI)) = some r from h)
  | succ k ih =>
    intro x2 x3 I r h K0
    unfold f_X11_hide_l14 at h
    refine bv_iload_n dX11_hide_14 3 rfl ?_
    refine bv_bipush (v := 30) dX11_hide_15 (by decide) ?_
    refine bv_icmp_gt (tgt := 133) dX11_hide_17 (by decide) (fun cc => ?_) (fun cc => ?_)
    · replace h := bu_t h cc
      refine bw_ls (ls1 := [(2, .int x2)]) [2] rfl ?_
      obtain rfl := Option.some.inj h
      exact K0 _ rfl
    · replace h := bu_f h cc
      refine bv_iconst (v := 0) dX11_hide_20 (by decide) ?_
      refine bv_istore (ls1 := [(0, .ref 0), (1, .int x1), (2, .int x2), (3, .int x3), (4, .int 0)]) dX11_hide_21 (by decide) rfl rfl ?_
      obtain ⟨r1, p2, h⟩ := bu_bd h
      refine v_X11_hide_l23 hN hR 1000 _ _ _ _ p2 (fun y3 hy => ?_)
      · subst hy
        refine bv_iinc (j := 3) (v := (x3 + 1)) (ls1 := [(0, .ref 0), (1, .int x1), (2, .int y3.1), (3, .int (x3 + 1))]) dX11_hide_127 rfl rfl (by decide) rfl rfl ?_
        refine bv_goto (tgt := 14) dX11_hide_130 (by decide) ?_
        exact ih _ _ _ _ h K0
def f_X11_hide (I : bm_TI) (x1 : Int32) : Option (Int32 × bm_TI) := ((f_X11_isMan I x1).bind fun v1 => (if v1 = true then ((f_X11_hide_l14 x1 1000 (-1) 0 I).bind fun y5 => some (y5.1, y5.2)) else some ((-1), I)))
set_option maxHeartbeats 4000000 in
set_option maxRecDepth 100000 in
theorem c_X11_hide {lc : bm_L} {d n : Nat} {I : bm_TI} {J : bm_TJ} {R W : bm_TR} {x1 : Int32} {v : Int32 × bm_TI} (hN : 181 ≤ n) (hR : bm_RR R) (h : f_X11_hide I x1 = some v) : bm_C lc m_X11_hide (d + 4) n n [.ref 0, .int x1] (I, J, R, W) (fun r M' => r = some (.int v.1) ∧ M' = (v.2, J, R, W)) := by
  refine bm_C.ofV (by decide) (Nat.le_of_ble_eq_true rfl) ?_
  show bm_V lc m_X11_hide (d + 4) n n n 0 [(0, .ref 0), (1, .int x1)] [] (I, J, R, W) _
  unfold f_X11_hide at h
  refine bv_aload_n dX11_hide_0 0 rfl ?_
  refine bv_iload_n dX11_hide_1 1 rfl ?_
  obtain ⟨v1, p2, h⟩ := bu_bd h
  refine bw_callV (As := [.int x1]) hN okL_0 ⟨_, _, rfl⟩ dX11_hide_2 mc_11_147 (c_X11_isMan (d := d + 3) hN hR p2) rfl rfl (by decide) ?_
  refine bw_ifB_ne (b := v1) (tgt := 10) dX11_hide_5 (by decide) (fun cc => ?_) (fun cc => ?_)
  · replace h := bu_bt h cc
    refine bv_iconst (v := (-1)) dX11_hide_10 (by decide) ?_
    refine bv_istore_n (ls1 := [(0, .ref 0), (1, .int x1), (2, .int (-1))]) dX11_hide_11 (by decide) rfl rfl ?_
    refine bv_iconst (v := 0) dX11_hide_12 (by decide) ?_
    refine bv_istore_n (ls1 := [(0, .ref 0), (1, .int x1), (2, .int (-1)), (3, .int 0)]) dX11_hide_13 (by decide) rfl rfl ?_
    obtain ⟨r3, p4, h⟩ := bu_bd h
    refine v_X11_hide_l14 hN hR 1000 _ _ _ _ p4 (fun y5 hy => ?_)
    · subst hy
      refine bv_iload_n dX11_hide_133 0 rfl ?_
      obtain rfl := Option.some.inj h
      exact bv_iret (x := y5.1) dX11_hide_134 rfl ⟨rfl, rfl⟩
  · replace h := bu_bf h cc
    refine bv_iconst (v := (-1)) dX11_hide_8 (by decide) ?_
    obtain rfl := Option.some.inj h
    exact bv_iret (x := (-1)) dX11_hide_9 rfl ⟨rfl, rfl⟩
