def f_X8_begin_l2 (x0 : Nat) : Nat → Int32 → bm_M → Option (bm_M)
  | 0, _, _ => none
  | k + 1, x1, M => (if bm_io x0 8 then ((M.2.2 x0 0).bind fun a2 => (if bm_io a2 0 then (if (M.1 a2 10) ≤ x1 then some M else ((M.2.2 x0 1).bind fun a5 => ((M.2.2 a2 1).bind fun a7 => (if bm_ia a7 0 x1 = true then (if bm_ia a5 0 x1 = true then ((M.2.2 x0 2).bind fun a11 => ((M.2.2 a2 2).bind fun a13 => (if bm_ia a13 0 x1 = true then (if bm_ia a11 0 x1 = true then ((M.2.2 x0 3).bind fun a17 => (if bm_ia a17 0 x1 = true then ((M.2.2 x0 4).bind fun a20 => (if bm_ia a20 0 x1 = true then ((M.2.2 x0 5).bind fun a23 => (if bm_ia a23 0 x1 = true then f_X8_begin_l2 x0 k (x1 + 1) (bm_sI (bm_sI (bm_sI (bm_sI (bm_sI M a5 x1.toNatClampNeg (M.1 a7 x1.toNatClampNeg)) a11 x1.toNatClampNeg ((bm_sI M a5 x1.toNatClampNeg (M.1 a7 x1.toNatClampNeg)).1 a13 x1.toNatClampNeg)) a17 x1.toNatClampNeg 0) a20 x1.toNatClampNeg (-1)) a23 x1.toNatClampNeg 0) else none)) else none)) else none)) else none) else none))) else none) else none)))) else none)) else none)
set_option maxHeartbeats 4000000 in
set_option maxRecDepth 100000 in
theorem v_X8_begin_l2 {L : bm_L} {d n : Nat} {Q : Option Value → bm_M → Prop} {x0 : Nat} (hN : 181 ≤ n) : ∀ (k : Nat) (x1 : Int32) (M : bm_M) (r : bm_M), f_X8_begin_l2 x0 k x1 M = some r → (∀ yy, yy = r → bm_V L m_X8_begin d n n n 70 [(0, .ref x0)] [] yy Q) → bm_V L m_X8_begin d n n n 2 [(0, .ref x0), (1, .int x1)] [] M Q := by
  intro k
  induction k with
  | zero => intro x1 M r h; cases (show (none : Option (bm_M)) = some r from h)
  | succ k ih =>
    intro x1 M r h K0
    unfold f_X8_begin_l2 at h
    refine bv_iload_n dX8_begin_2 1 rfl ?_
    refine bv_aload_n dX8_begin_3 0 rfl ?_
    obtain ⟨q1, h⟩ := bu_io h
    obtain ⟨a2, e3, h⟩ := bu_bd h
    refine bw_getA (a := a2) hN q1 e3 dX8_begin_4 fl_8_30 rfl ?_
    obtain ⟨q4, h⟩ := bu_io h
    refine bw_getI hN q4 dX8_begin_7 fl_8_34 rfl ?_
    refine bv_icmp_ge (tgt := 70) dX8_begin_10 (by decide) (fun cc => ?_) (fun cc => ?_)
    · replace h := bu_t h cc
      refine bw_ls (ls1 := [(0, .ref x0)]) [0] rfl ?_
      obtain rfl := Option.some.inj h
      exact K0 _ rfl
    · replace h := bu_f h cc
      refine bv_aload_n dX8_begin_13 0 rfl ?_
      obtain ⟨a5, e6, h⟩ := bu_bd h
      refine bw_getA (a := a5) hN q1 e6 dX8_begin_14 fl_8_9 rfl ?_
      refine bv_iload_n dX8_begin_17 1 rfl ?_
      refine bv_aload_n dX8_begin_18 0 rfl ?_
      refine bw_getA (a := a2) hN q1 e3 dX8_begin_19 fl_8_30 rfl ?_
      obtain ⟨a7, e8, h⟩ := bu_bd h
      refine bw_getA (a := a7) hN q4 e8 dX8_begin_22 fl_8_40 rfl ?_
      refine bv_iload_n dX8_begin_25 1 rfl ?_
      obtain ⟨r9, h⟩ := bu_ia h
      refine bw_iald hN r9 dX8_begin_26 ?_
      obtain ⟨r10, h⟩ := bu_ia h
      refine bw_iast hN r10 dX8_begin_27 ?_
      refine bv_aload_n dX8_begin_28 0 rfl ?_
      obtain ⟨a11, e12, h⟩ := bu_bd h
      refine bw_getA (a := a11) hN q1 e12 dX8_begin_29 fl_8_15 rfl ?_
      refine bv_iload_n dX8_begin_32 1 rfl ?_
      refine bv_aload_n dX8_begin_33 0 rfl ?_
      refine bw_getA (a := a2) hN q1 e3 dX8_begin_34 fl_8_30 rfl ?_
      obtain ⟨a13, e14, h⟩ := bu_bd h
      refine bw_getA (a := a13) hN q4 e14 dX8_begin_37 fl_8_43 rfl ?_
      refine bv_iload_n dX8_begin_40 1 rfl ?_
      obtain ⟨r15, h⟩ := bu_ia h
      refine bw_iald hN r15 dX8_begin_41 ?_
      obtain ⟨r16, h⟩ := bu_ia h
      refine bw_iast hN r16 dX8_begin_42 ?_
      refine bv_aload_n dX8_begin_43 0 rfl ?_
      obtain ⟨a17, e18, h⟩ := bu_bd h
      refine bw_getA (a := a17) hN q1 e18 dX8_begin_44 fl_8_18 rfl ?_
      refine bv_iload_n dX8_begin_47 1 rfl ?_
      refine bv_iconst (v := 0) dX8_begin_48 (by decide) ?_
      obtain ⟨r19, h⟩ := bu_ia h
      refine bw_iast hN r19 dX8_begin_49 ?_
      refine bv_aload_n dX8_begin_50 0 rfl ?_
      obtain ⟨a20, e21, h⟩ := bu_bd h
      refine bw_getA (a := a20) hN q1 e21 dX8_begin_51 fl_8_21 rfl ?_
      refine bv_iload_n dX8_begin_54 1 rfl ?_
      refine bv_iconst (v := (-1)) dX8_begin_55 (by decide) ?_
      obtain ⟨r22, h⟩ := bu_ia h
      refine bw_iast hN r22 dX8_begin_56 ?_
      refine bv_aload_n dX8_begin_57 0 rfl ?_
      obtain ⟨a23, e24, h⟩ := bu_bd h
      refine bw_getA (a := a23) hN q1 e24 dX8_begin_58 fl_8_24 rfl ?_
      refine bv_iload_n dX8_begin_61 1 rfl ?_
      refine bv_iconst (v := 0) dX8_begin_62 (by decide) ?_
      obtain ⟨r25, h⟩ := bu_ia h
      refine bw_iast hN r25 dX8_begin_63 ?_
      refine bv_iinc (j := 1) (v := (x1 + 1)) (ls1 := [(0, .ref x0), (1, .int (x1 + 1))]) dX8_begin_64 rfl rfl (by decide) rfl rfl ?_
      refine bv_goto (tgt := 2) dX8_begin_67 (by decide) ?_
      exact ih _ _ _ h K0
def f_X8_begin (M : bm_M) (x0 : Nat) : Option (bm_M) := ((f_X8_begin_l2 x0 1000 0 M).bind fun y3 => (if bm_io x0 8 then some (bm_sI (bm_sI (bm_sI (bm_sI (bm_sI y3 x0 7 0) x0 8 0) x0 9 0) x0 10 0) x0 11 0) else none))
set_option maxHeartbeats 4000000 in
set_option maxRecDepth 100000 in
theorem c_X8_begin {L : bm_L} {d n : Nat} {M : bm_M} {x0 : Nat} {v : bm_M} (hN : 181 ≤ n) (h : f_X8_begin M x0 = some v) : bm_C L m_X8_begin d n n [.ref x0] M (fun r M' => r = none ∧ M' = v) := by
  refine bm_C.ofV (by decide) (Nat.le_of_ble_eq_true rfl) ?_
  show bm_V L m_X8_begin d n n n 0 [(0, .ref x0)] [] M _
  unfold f_X8_begin at h
  refine bv_iconst (v := 0) dX8_begin_0 (by decide) ?_
  refine bv_istore_n (ls1 := [(0, .ref x0), (1, .int 0)]) dX8_begin_1 (by decide) rfl rfl ?_
  obtain ⟨r1, p2, h⟩ := bu_bd h
  refine v_X8_begin_l2 hN 1000 _ _ _ p2 (fun y3 hy => ?_)
  · subst hy
    refine bv_aload_n dX8_begin_70 0 rfl ?_
    refine bv_iconst (v := 0) dX8_begin_71 (by decide) ?_
    obtain ⟨q4, h⟩ := bu_io h
    refine bw_putI hN q4 dX8_begin_72 fl_8_46 rfl ?_
    refine bv_aload_n dX8_begin_75 0 rfl ?_
    refine bv_iconst (v := 0) dX8_begin_76 (by decide) ?_
    refine bw_putI hN q4 dX8_begin_77 fl_8_49 rfl ?_
    refine bv_aload_n dX8_begin_80 0 rfl ?_
    refine bv_iconst (v := 0) dX8_begin_81 (by decide) ?_
    refine bw_putI hN q4 dX8_begin_82 fl_8_52 rfl ?_
    refine bv_aload_n dX8_begin_85 0 rfl ?_
    refine bv_iconst (v := 0) dX8_begin_86 (by decide) ?_
    refine bw_putI hN q4 dX8_begin_87 fl_8_55 rfl ?_
    refine bv_aload_n dX8_begin_90 0 rfl ?_
    refine bv_iconst (v := 0) dX8_begin_91 (by decide) ?_
    refine bw_putI hN q4 dX8_begin_92 fl_8_58 rfl ?_
    obtain rfl := Option.some.inj h
    exact bv_vret dX8_begin_95 rfl ⟨rfl, rfl⟩
def f_X8_readersOf_l5 (M : bm_M) (x0 : Nat) (x1 : Int32) (x2 : Int32) : Nat → Int32 → Int32 → Option (Int32)
  | 0, _, _ => none
  | k + 1, x3, x4 => (if bm_io x0 8 then ((M.2.2 x0 0).bind fun a2 => (if bm_io a2 0 then (if (M.1 a2 10) ≤ x4 then some x3 else ((M.2.2 a2 4).bind fun a5 => (if bm_ia a5 0 x4 = true then (if (M.1 a5 x4.toNatClampNeg) = x1 then ((M.2.2 x0 1).bind fun a8 => (if bm_ia a8 0 x1 = true then ((M.2.2 x0 2).bind fun a11 => (if bm_ia a11 0 x1 = true then (if bm_ia a8 0 x4 = true then (if bm_ia a11 0 x4 = true then (if x2 < (f_X11_far (M.1 a8 x1.toNatClampNeg) (M.1 a11 x1.toNatClampNeg) (M.1 a8 x4.toNatClampNeg) (M.1 a11 x4.toNatClampNeg)) then f_X8_readersOf_l5 M x0 x1 x2 k x3 (x4 + 1) else f_X8_readersOf_l5 M x0 x1 x2 k (x3 ||| (bm_ishl 1 x4)) (x4 + 1)) else none) else none) else none)) else none)) else f_X8_readersOf_l5 M x0 x1 x2 k x3 (x4 + 1)) else none))) else none)) else none)
set_option maxHeartbeats 4000000 in
set_option maxRecDepth 100000 in
theorem v_X8_readersOf_l5 {L : bm_L} {d n : Nat} {Q : Option Value → bm_M → Prop} {M : bm_M} {x0 : Nat} {x1 : Int32} {x2 : Int32} (hN : 181 ≤ n) : ∀ (k : Nat) (x3 : Int32) (x4 : Int32) (r : Int32), f_X8_readersOf_l5 M x0 x1 x2 k x3 x4 = some r → (∀ yy, yy = r → bm_V L m_X8_readersOf (d + 1) n n n 77 [(0, .ref x0), (3, .int yy)] [] M Q) → bm_V L m_X8_readersOf (d + 1) n n n 5 [(0, .ref x0), (1, .int x1), (2, .int x2), (3, .int x3), (4, .int x4)] [] M Q := by
  intro k
  induction k with
  | zero => intro x3 x4 r h; cases (show (none : Option (Int32)) = some r from h)
  | succ k ih =>
    intro x3 x4 r h K0
    unfold f_X8_readersOf_l5 at h
    refine bv_iload dX8_readersOf_5 4 rfl ?_
    refine bv_aload_n dX8_readersOf_7 0 rfl ?_
    obtain ⟨q1, h⟩ := bu_io h
    obtain ⟨a2, e3, h⟩ := bu_bd h
    refine bw_getA (a := a2) hN q1 e3 dX8_readersOf_8 fl_8_30 rfl ?_
    obtain ⟨q4, h⟩ := bu_io h
    refine bw_getI hN q4 dX8_readersOf_11 fl_8_34 rfl ?_
    refine bv_icmp_ge (tgt := 77) dX8_readersOf_14 (by decide) (fun cc => ?_) (fun cc => ?_)
    · replace h := bu_t h cc
      refine bw_ls (ls1 := [(0, .ref x0), (3, .int x3)]) [0, 3] rfl ?_
      obtain rfl := Option.some.inj h
      exact K0 _ rfl
    · replace h := bu_f h cc
      refine bv_aload_n dX8_readersOf_17 0 rfl ?_
      refine bw_getA (a := a2) hN q1 e3 dX8_readersOf_18 fl_8_30 rfl ?_
      obtain ⟨a5, e6, h⟩ := bu_bd h
      refine bw_getA (a := a5) hN q4 e6 dX8_readersOf_21 fl_8_93 rfl ?_
      refine bv_iload dX8_readersOf_24 4 rfl ?_
      obtain ⟨r7, h⟩ := bu_ia h
      refine bw_iald hN r7 dX8_readersOf_26 ?_
      refine bv_iload_n dX8_readersOf_27 1 rfl ?_
      refine bv_icmp_ne (tgt := 71) dX8_readersOf_28 (by decide) (fun cc => ?_) (fun cc => ?_)
      · replace h := bu_f h cc
        refine bv_iinc (j := 4) (v := (x4 + 1)) (ls1 := [(0, .ref x0), (1, .int x1), (2, .int x2), (3, .int x3), (4, .int (x4 + 1))]) dX8_readersOf_71 rfl rfl (by decide) rfl rfl ?_
        refine bv_goto (tgt := 5) dX8_readersOf_74 (by decide) ?_
        exact ih _ _ _ h K0
      · replace h := bu_t h cc
        refine bv_aload_n dX8_readersOf_31 0 rfl ?_
        obtain ⟨a8, e9, h⟩ := bu_bd h
        refine bw_getA (a := a8) hN q1 e9 dX8_readersOf_32 fl_8_9 rfl ?_
        refine bv_iload_n dX8_readersOf_35 1 rfl ?_
        obtain ⟨r10, h⟩ := bu_ia h
        refine bw_iald hN r10 dX8_readersOf_36 ?_
        refine bv_aload_n dX8_readersOf_37 0 rfl ?_
        obtain ⟨a11, e12, h⟩ := bu_bd h
        refine bw_getA (a := a11) hN q1 e12 dX8_readersOf_38 fl_8_15 rfl ?_
        refine bv_iload_n dX8_readersOf_41 1 rfl ?_
        obtain ⟨r13, h⟩ := bu_ia h
        refine bw_iald hN r13 dX8_readersOf_42 ?_
        refine bv_aload_n dX8_readersOf_43 0 rfl ?_
        refine bw_getA (a := a8) hN q1 e9 dX8_readersOf_44 fl_8_9 rfl ?_
        refine bv_iload dX8_readersOf_47 4 rfl ?_
        obtain ⟨r14, h⟩ := bu_ia h
        refine bw_iald hN r14 dX8_readersOf_49 ?_
        refine bv_aload_n dX8_readersOf_50 0 rfl ?_
        refine bw_getA (a := a11) hN q1 e12 dX8_readersOf_51 fl_8_15 rfl ?_
        refine bv_iload dX8_readersOf_54 4 rfl ?_
        obtain ⟨r15, h⟩ := bu_ia h
        refine bw_iald hN r15 dX8_readersOf_56 ?_
        refine bw_callSN (As := [.int (M.1 a8 x1.toNatClampNeg), .int (M.1 a11 x1.toNatClampNeg), .int (M.1 a8 x4.toNatClampNeg), .int (M.1 a11 x4.toNatClampNeg)]) dX8_readersOf_57 mc_8_86 (c_X11_far (d := d + 0) hN rfl) rfl rfl (by decide) ?_
        refine bv_iload_n dX8_readersOf_60 2 rfl ?_
        refine bv_icmp_gt (tgt := 71) dX8_readersOf_61 (by decide) (fun cc => ?_) (fun cc => ?_)
        · replace h := bu_t h cc
          refine bv_iinc (j := 4) (v := (x4 + 1)) (ls1 := [(0, .ref x0), (1, .int x1), (2, .int x2), (3, .int x3), (4, .int (x4 + 1))]) dX8_readersOf_71 rfl rfl (by decide) rfl rfl ?_
          refine bv_goto (tgt := 5) dX8_readersOf_74 (by decide) ?_
          exact ih _ _ _ h K0
        · replace h := bu_f h cc
          refine bv_iload_n dX8_readersOf_64 3 rfl ?_
          refine bv_iconst (v := 1) dX8_readersOf_65 (by decide) ?_
          refine bv_iload dX8_readersOf_66 4 rfl ?_
          refine bv_ishl dX8_readersOf_68 ?_
          refine bv_ior dX8_readersOf_69 ?_
          refine bv_istore_n (ls1 := [(0, .ref x0), (1, .int x1), (2, .int x2), (3, .int (x3 ||| (bm_ishl 1 x4))), (4, .int x4)]) dX8_readersOf_70 (by decide) rfl rfl ?_
          refine bv_iinc (j := 4) (v := (x4 + 1)) (ls1 := [(0, .ref x0), (1, .int x1), (2, .int x2), (3, .int (x3 ||| (bm_ishl 1 x4))), (4, .int (x4 + 1))]) dX8_readersOf_71 rfl rfl (by decide) rfl rfl ?_
          refine bv_goto (tgt := 5) dX8_readersOf_74 (by decide) ?_
          exact ih _ _ _ h K0
def f_X8_readersOf (M : bm_M) (x0 : Nat) (x1 : Int32) (x2 : Int32) : Option (Int32) := ((f_X8_readersOf_l5 M x0 x1 x2 1000 0 0).bind fun y3 => (if bm_io x0 8 then some (y3 &&& ((M.1 x0 7) ^^^ (-1))) else none))
set_option maxHeartbeats 4000000 in
set_option maxRecDepth 100000 in
theorem c_X8_readersOf {L : bm_L} {d n : Nat} {M : bm_M} {x0 : Nat} {x1 : Int32} {x2 : Int32} {v : Int32} (hN : 181 ≤ n) (h : f_X8_readersOf M x0 x1 x2 = some v) : bm_C L m_X8_readersOf (d + 1) n n [.ref x0, .int x1, .int x2] M (fun r M' => r = some (.int v) ∧ M' = M) := by
  refine bm_C.ofV (by decide) (Nat.le_of_ble_eq_true rfl) ?_
  show bm_V L m_X8_readersOf (d + 1) n n n 0 [(0, .ref x0), (1, .int x1), (2, .int x2)] [] M _
  unfold f_X8_readersOf at h
  refine bv_iconst (v := 0) dX8_readersOf_0 (by decide) ?_
  refine bv_istore_n (ls1 := [(0, .ref x0), (1, .int x1), (2, .int x2), (3, .int 0)]) dX8_readersOf_1 (by decide) rfl rfl ?_
  refine bv_iconst (v := 0) dX8_readersOf_2 (by decide) ?_
  refine bv_istore (ls1 := [(0, .ref x0), (1, .int x1), (2, .int x2), (3, .int 0), (4, .int 0)]) dX8_readersOf_3 (by decide) rfl rfl ?_
  obtain ⟨r1, p2, h⟩ := bu_bd h
  refine v_X8_readersOf_l5 hN 1000 _ _ _ p2 (fun y3 hy => ?_)
  · subst hy
    refine bv_iload_n dX8_readersOf_77 1 rfl ?_
    refine bv_aload_n dX8_readersOf_78 0 rfl ?_
    obtain ⟨q4, h⟩ := bu_io h
    refine bw_getI hN q4 dX8_readersOf_79 fl_8_46 rfl ?_
    refine bv_iconst (v := (-1)) dX8_readersOf_82 (by decide) ?_
    refine bv_ixor dX8_readersOf_83 ?_
    refine bv_iand dX8_readersOf_84 ?_
    obtain rfl := Option.some.inj h
    exact bv_iret (x := (y3 &&& ((M.1 x0 7) ^^^ (-1)))) dX8_readersOf_85 rfl ⟨rfl, rfl⟩
def f_X8_foesSeeing_l13 (M : bm_M) (x0 : Nat) (x2 : Int32) (x3 : Int32) (x4 : Int32) : Nat → Int32 → Int32 → Option (Int32)
  | 0, _, _ => none
  | k + 1, x5, x6 => ((M.2.2 x0 0).bind fun a1 => (if bm_io a1 0 then (if (M.1 a1 14) ≤ x6 then some x5 else ((M.2.2 a1 8).bind fun a4 => (if bm_ia a4 0 x6 = true then ((M.2.2 a1 9).bind fun a7 => (if bm_ia a7 0 x6 = true then (if x4 < (f_X11_far x2 x3 (M.1 a4 x6.toNatClampNeg) (M.1 a7 x6.toNatClampNeg)) then f_X8_foesSeeing_l13 M x0 x2 x3 x4 k x5 (x6 + 1) else f_X8_foesSeeing_l13 M x0 x2 x3 x4 k (x5 ||| (bm_ishl 1 x6)) (x6 + 1)) else none)) else none))) else none))
set_option maxHeartbeats 4000000 in
set_option maxRecDepth 100000 in
theorem v_X8_foesSeeing_l13 {L : bm_L} {d n : Nat} {Q : Option Value → bm_M → Prop} {M : bm_M} {x0 : Nat} {x2 : Int32} {x3 : Int32} {x4 : Int32} (hN : 181 ≤ n) (q_0 : bm_OK x0 8) : ∀ (k : Nat) (x5 : Int32) (x6 : Int32) (r : Int32), f_X8_foesSeeing_l13 M x0 x2 x3 x4 k x5 x6 = some r → (∀ yy, yy = r → bm_V L m_X8_foesSeeing (d + 3) n n n 70 [(5, .int yy)] [] M Q) → bm_V L m_X8_foesSeeing (d + 3) n n n 13 [(0, .ref x0), (2, .int x2), (3, .int x3), (4, .int x4), (5, .int x5), (6, .int x6)] [] M Q := by
  intro k
  induction k with
  | zero => intro x5 x6 r h; cases (show (none : Option (Int32)) = some r from h)
  | succ k ih =>
    intro x5 x6 r h K0
    unfold f_X8_foesSeeing_l13 at h
    refine bv_iload dX8_foesSeeing_13 5 rfl ?_
    refine bv_aload_n dX8_foesSeeing_15 0 rfl ?_
    obtain ⟨a1, e2, h⟩ := bu_bd h
    refine bw_getA (a := a1) hN q_0 e2 dX8_foesSeeing_16 fl_8_30 rfl ?_
    obtain ⟨q3, h⟩ := bu_io h
    refine bw_getI hN q3 dX8_foesSeeing_19 fl_8_96 rfl ?_
    refine bv_icmp_ge (tgt := 70) dX8_foesSeeing_22 (by decide) (fun cc => ?_) (fun cc => ?_)
    · replace h := bu_t h cc
      refine bw_ls (ls1 := [(5, .int x5)]) [4] rfl ?_
      obtain rfl := Option.some.inj h
      exact K0 _ rfl
    · replace h := bu_f h cc
      refine bv_iload_n dX8_foesSeeing_25 1 rfl ?_
      refine bv_iload_n dX8_foesSeeing_26 2 rfl ?_
      refine bv_aload_n dX8_foesSeeing_27 0 rfl ?_
      refine bw_getA (a := a1) hN q_0 e2 dX8_foesSeeing_28 fl_8_30 rfl ?_
      obtain ⟨a4, e5, h⟩ := bu_bd h
      refine bw_getA (a := a4) hN q3 e5 dX8_foesSeeing_31 fl_8_99 rfl ?_
      refine bv_iload dX8_foesSeeing_34 5 rfl ?_
      obtain ⟨r6, h⟩ := bu_ia h
      refine bw_iald hN r6 dX8_foesSeeing_36 ?_
      refine bv_aload_n dX8_foesSeeing_37 0 rfl ?_
      refine bw_getA (a := a1) hN q_0 e2 dX8_foesSeeing_38 fl_8_30 rfl ?_
      obtain ⟨a7, e8, h⟩ := bu_bd h
      refine bw_getA (a := a7) hN q3 e8 dX8_foesSeeing_41 fl_8_102 rfl ?_
      refine bv_iload dX8_foesSeeing_44 5 rfl ?_
      obtain ⟨r9, h⟩ := bu_ia h
      refine bw_iald hN r9 dX8_foesSeeing_46 ?_
      refine bw_callSN (As := [.int x2, .int x3, .int (M.1 a4 x6.toNatClampNeg), .int (M.1 a7 x6.toNatClampNeg)]) dX8_foesSeeing_47 mc_8_86 (c_X11_far (d := d + 2) hN rfl) rfl rfl (by decide) ?_
      refine bv_iload dX8_foesSeeing_50 3 rfl ?_
      refine bv_icmp_gt (tgt := 64) dX8_foesSeeing_52 (by decide) (fun cc => ?_) (fun cc => ?_)
      · replace h := bu_t h cc
        refine bv_iinc (j := 5) (v := (x6 + 1)) (ls1 := [(0, .ref x0), (2, .int x2), (3, .int x3), (4, .int x4), (5, .int x5), (6, .int (x6 + 1))]) dX8_foesSeeing_64 rfl rfl (by decide) rfl rfl ?_
        refine bv_goto (tgt := 13) dX8_foesSeeing_67 (by decide) ?_
        exact ih _ _ _ h K0
      · replace h := bu_f h cc
        refine bv_iload dX8_foesSeeing_55 4 rfl ?_
        refine bv_iconst (v := 1) dX8_foesSeeing_57 (by decide) ?_
        refine bv_iload dX8_foesSeeing_58 5 rfl ?_
        refine bv_ishl dX8_foesSeeing_60 ?_
        refine bv_ior dX8_foesSeeing_61 ?_
        refine bv_istore (ls1 := [(0, .ref x0), (2, .int x2), (3, .int x3), (4, .int x4), (5, .int (x5 ||| (bm_ishl 1 x6))), (6, .int x6)]) dX8_foesSeeing_62 (by decide) rfl rfl ?_
        refine bv_iinc (j := 5) (v := (x6 + 1)) (ls1 := [(0, .ref x0), (2, .int x2), (3, .int x3), (4, .int x4), (5, .int (x5 ||| (bm_ishl 1 x6))), (6, .int (x6 + 1))]) dX8_foesSeeing_64 rfl rfl (by decide) rfl rfl ?_
        refine bv_goto (tgt := 13) dX8_foesSeeing_67 (by decide) ?_
        exact ih _ _ _ h K0
def f_X8_foesSeeing (M : bm_M) (x0 : Nat) (x1 : Int32) (x2 : Int32) (x3 : Int32) : Option (Int32) := (if bm_io x0 8 then ((f_X8_rangeOf M x0 x1).bind fun v2 => ((f_X8_foesSeeing_l13 M x0 x2 x3 v2 1000 0 0).bind fun y6 => some y6)) else none)
set_option maxHeartbeats 4000000 in
set_option maxRecDepth 100000 in
theorem c_X8_foesSeeing {L : bm_L} {d n : Nat} {M : bm_M} {x0 : Nat} {x1 : Int32} {x2 : Int32} {x3 : Int32} {v : Int32} (hN : 181 ≤ n) (h : f_X8_foesSeeing M x0 x1 x2 x3 = some v) : bm_C L m_X8_foesSeeing (d + 3) n n [.ref x0, .int x1, .int x2, .int x3] M (fun r M' => r = some (.int v) ∧ M' = M) := by
  refine bm_C.ofV (by decide) (Nat.le_of_ble_eq_true rfl) ?_
  show bm_V L m_X8_foesSeeing (d + 3) n n n 0 [(0, .ref x0), (1, .int x1), (2, .int x2), (3, .int x3)] [] M _
  unfold f_X8_foesSeeing at h
  refine bv_aload_n dX8_foesSeeing_0 0 rfl ?_
  refine bv_iload_n dX8_foesSeeing_1 1 rfl ?_
  obtain ⟨q1, h⟩ := bu_io h
  obtain ⟨v2, p3, h⟩ := bu_bd h
  refine bw_callV (As := [.int x1]) hN q1 ⟨_, _, rfl⟩ dX8_foesSeeing_2 mc_8_90 (c_X8_rangeOf (d := d + 0) hN p3) rfl rfl (by decide) ?_
  refine bv_istore (ls1 := [(0, .ref x0), (1, .int x1), (2, .int x2), (3, .int x3), (4, .int v2)]) dX8_foesSeeing_5 (by decide) rfl rfl ?_
  refine bv_iconst (v := 0) dX8_foesSeeing_7 (by decide) ?_
  refine bv_istore (ls1 := [(0, .ref x0), (1, .int x1), (2, .int x2), (3, .int x3), (4, .int v2), (5, .int 0)]) dX8_foesSeeing_8 (by decide) rfl rfl ?_
  refine bv_iconst (v := 0) dX8_foesSeeing_10 (by decide) ?_
  refine bv_istore (ls1 := [(0, .ref x0), (1, .int x1), (2, .int x2), (3, .int x3), (4, .int v2), (5, .int 0), (6, .int 0)]) dX8_foesSeeing_11 (by decide) rfl rfl ?_
  refine bw_ls (ls1 := [(0, .ref x0), (2, .int x2), (3, .int x3), (4, .int v2), (5, .int 0), (6, .int 0)]) [0, 2, 3, 4, 5, 6] rfl ?_
  obtain ⟨r4, p5, h⟩ := bu_bd h
  refine v_X8_foesSeeing_l13 hN q1 1000 _ _ _ p5 (fun y6 hy => ?_)
  · subst hy
    refine bv_iload dX8_foesSeeing_70 0 rfl ?_
    obtain rfl := Option.some.inj h
    exact bv_iret (x := y6) dX8_foesSeeing_72 rfl ⟨rfl, rfl⟩
def f_X8_underSeeing_l13 (M : bm_M) (x0 : Nat) (x1 : Int32) (x2 : Int32) (x3 : Int32) (x4 : Int32) : Nat → Int32 → Int32 → Option (Int32)
  | 0, _, _ => none
  | k + 1, x5, x6 => ((M.2.2 x0 0).bind fun a1 => (if bm_io a1 0 then (if (M.1 a1 10) ≤ x6 then some x5 else ((M.2.2 a1 4).bind fun a4 => (if bm_ia a4 0 x6 = true then (if (M.1 a4 x6.toNatClampNeg) = x1 then ((M.2.2 x0 1).bind fun a7 => (if bm_ia a7 0 x6 = true then ((M.2.2 x0 2).bind fun a10 => (if bm_ia a10 0 x6 = true then (if x4 < (f_X11_far x2 x3 (M.1 a7 x6.toNatClampNeg) (M.1 a10 x6.toNatClampNeg)) then f_X8_underSeeing_l13 M x0 x1 x2 x3 x4 k x5 (x6 + 1) else f_X8_underSeeing_l13 M x0 x1 x2 x3 x4 k (x5 + 1) (x6 + 1)) else none)) else none)) else f_X8_underSeeing_l13 M x0 x1 x2 x3 x4 k x5 (x6 + 1)) else none))) else none))
set_option maxHeartbeats 4000000 in
set_option maxRecDepth 100000 in
theorem v_X8_underSeeing_l13 {L : bm_L} {d n : Nat} {Q : Option Value → bm_M → Prop} {M : bm_M} {x0 : Nat} {x1 : Int32} {x2 : Int32} {x3 : Int32} {x4 : Int32} (hN : 181 ≤ n) (q_0 : bm_OK x0 8) : ∀ (k : Nat) (x5 : Int32) (x6 : Int32) (r : Int32), f_X8_underSeeing_l13 M x0 x1 x2 x3 x4 k x5 x6 = some r → (∀ yy, yy = r → bm_V L m_X8_underSeeing (d + 3) n n n 72 [(5, .int yy)] [] M Q) → bm_V L m_X8_underSeeing (d + 3) n n n 13 [(0, .ref x0), (1, .int x1), (2, .int x2), (3, .int x3), (4, .int x4), (5, .int x5), (6, .int x6)] [] M Q := by
  intro k
  induction k with
  | zero => intro x5 x6 r h; cases (show (none : Option (Int32)) = some r from h)
  | succ k ih =>
    intro x5 x6 r h K0
    unfold f_X8_underSeeing_l13 at h
    refine bv_iload dX8_underSeeing_13 6 rfl ?_
    refine bv_aload_n dX8_underSeeing_15 0 rfl ?_
    obtain ⟨a1, e2, h⟩ := bu_bd h
    refine bw_getA (a := a1) hN q_0 e2 dX8_underSeeing_16 fl_8_30 rfl ?_
    obtain ⟨q3, h⟩ := bu_io h
    refine bw_getI hN q3 dX8_underSeeing_19 fl_8_34 rfl ?_
    refine bv_icmp_ge (tgt := 72) dX8_underSeeing_22 (by decide) (fun cc => ?_) (fun cc => ?_)
    · replace h := bu_t h cc
      refine bw_ls (ls1 := [(5, .int x5)]) [5] rfl ?_
      obtain rfl := Option.some.inj h
      exact K0 _ rfl
    · replace h := bu_f h cc
      refine bv_aload_n dX8_underSeeing_25 0 rfl ?_
      refine bw_getA (a := a1) hN q_0 e2 dX8_underSeeing_26 fl_8_30 rfl ?_
      obtain ⟨a4, e5, h⟩ := bu_bd h
      refine bw_getA (a := a4) hN q3 e5 dX8_underSeeing_29 fl_8_93 rfl ?_
      refine bv_iload dX8_underSeeing_32 6 rfl ?_
      obtain ⟨r6, h⟩ := bu_ia h
      refine bw_iald hN r6 dX8_underSeeing_34 ?_
      refine bv_iload_n dX8_underSeeing_35 1 rfl ?_
      refine bv_icmp_ne (tgt := 66) dX8_underSeeing_36 (by decide) (fun cc => ?_) (fun cc => ?_)
      · replace h := bu_f h cc
        refine bv_iinc (j := 6) (v := (x6 + 1)) (ls1 := [(0, .ref x0), (1, .int x1), (2, .int x2), (3, .int x3), (4, .int x4), (5, .int x5), (6, .int (x6 + 1))]) dX8_underSeeing_66 rfl rfl (by decide) rfl rfl ?_
        refine bv_goto (tgt := 13) dX8_underSeeing_69 (by decide) ?_
        exact ih _ _ _ h K0
      · replace h := bu_t h cc
        refine bv_iload_n dX8_underSeeing_39 2 rfl ?_
        refine bv_iload_n dX8_underSeeing_40 3 rfl ?_
        refine bv_aload_n dX8_underSeeing_41 0 rfl ?_
        obtain ⟨a7, e8, h⟩ := bu_bd h
        refine bw_getA (a := a7) hN q_0 e8 dX8_underSeeing_42 fl_8_9 rfl ?_
        refine bv_iload dX8_underSeeing_45 6 rfl ?_
        obtain ⟨r9, h⟩ := bu_ia h
        refine bw_iald hN r9 dX8_underSeeing_47 ?_
        refine bv_aload_n dX8_underSeeing_48 0 rfl ?_
        obtain ⟨a10, e11, h⟩ := bu_bd h
        refine bw_getA (a := a10) hN q_0 e11 dX8_underSeeing_49 fl_8_15 rfl ?_
        refine bv_iload dX8_underSeeing_52 6 rfl ?_
        obtain ⟨r12, h⟩ := bu_ia h
        refine bw_iald hN r12 dX8_underSeeing_54 ?_
        refine bw_callSN (As := [.int x2, .int x3, .int (M.1 a7 x6.toNatClampNeg), .int (M.1 a10 x6.toNatClampNeg)]) dX8_underSeeing_55 mc_8_86 (c_X11_far (d := d + 2) hN rfl) rfl rfl (by decide) ?_
        refine bv_iload dX8_underSeeing_58 4 rfl ?_
        refine bv_icmp_gt (tgt := 66) dX8_underSeeing_60 (by decide) (fun cc => ?_) (fun cc => ?_)
        · replace h := bu_t h cc
          refine bv_iinc (j := 6) (v := (x6 + 1)) (ls1 := [(0, .ref x0), (1, .int x1), (2, .int x2), (3, .int x3), (4, .int x4), (5, .int x5), (6, .int (x6 + 1))]) dX8_underSeeing_66 rfl rfl (by decide) rfl rfl ?_
          refine bv_goto (tgt := 13) dX8_underSeeing_69 (by decide) ?_
          exact ih _ _ _ h K0
        · replace h := bu_f h cc
          refine bv_iinc (j := 5) (v := (x5 + 1)) (ls1 := [(0, .ref x0), (1, .int x1), (2, .int x2), (3, .int x3), (4, .int x4), (5, .int (x5 + 1)), (6, .int x6)]) dX8_underSeeing_63 rfl rfl (by decide) rfl rfl ?_
          refine bv_iinc (j := 6) (v := (x6 + 1)) (ls1 := [(0, .ref x0), (1, .int x1), (2, .int x2), (3, .int x3), (4, .int x4), (5, .int (x5 + 1)), (6, .int (x6 + 1))]) dX8_underSeeing_66 rfl rfl (by decide) rfl rfl ?_
          refine bv_goto (tgt := 13) dX8_underSeeing_69 (by decide) ?_
          exact ih _ _ _ h K0
def f_X8_underSeeing (M : bm_M) (x0 : Nat) (x1 : Int32) (x2 : Int32) (x3 : Int32) : Option (Int32) := (if bm_io x0 8 then ((f_X8_rangeOf M x0 x1).bind fun v2 => ((f_X8_underSeeing_l13 M x0 x1 x2 x3 v2 1000 0 0).bind fun y6 => some y6)) else none)
set_option maxHeartbeats 4000000 in
set_option maxRecDepth 100000 in
theorem c_X8_underSeeing {L : bm_L} {d n : Nat} {M : bm_M} {x0 : Nat} {x1 : Int32} {x2 : Int32} {x3 : Int32} {v : Int32} (hN : 181 ≤ n) (h : f_X8_underSeeing M x0 x1 x2 x3 = some v) : bm_C L m_X8_underSeeing (d + 3) n n [.ref x0, .int x1, .int x2, .int x3] M (fun r M' => r = some (.int v) ∧ M' = M) := by
  refine bm_C.ofV (by decide) (Nat.le_of_ble_eq_true rfl) ?_
  show bm_V L m_X8_underSeeing (d + 3) n n n 0 [(0, .ref x0), (1, .int x1), (2, .int x2), (3, .int x3)] [] M _
  unfold f_X8_underSeeing at h
  refine bv_aload_n dX8_underSeeing_0 0 rfl ?_
  refine bv_iload_n dX8_underSeeing_1 1 rfl ?_
  obtain ⟨q1, h⟩ := bu_io h
  obtain ⟨v2, p3, h⟩ := bu_bd h
  refine bw_callV (As := [.int x1]) hN q1 ⟨_, _, rfl⟩ dX8_underSeeing_2 mc_8_90 (c_X8_rangeOf (d := d + 0) hN p3) rfl rfl (by decide) ?_
  refine bv_istore (ls1 := [(0, .ref x0), (1, .int x1), (2, .int x2), (3, .int x3), (4, .int v2)]) dX8_underSeeing_5 (by decide) rfl rfl ?_
  refine bv_iconst (v := 0) dX8_underSeeing_7 (by decide) ?_
  refine bv_istore (ls1 := [(0, .ref x0), (1, .int x1), (2, .int x2), (3, .int x3), (4, .int v2), (5, .int 0)]) dX8_underSeeing_8 (by decide) rfl rfl ?_
  refine bv_iconst (v := 0) dX8_underSeeing_10 (by decide) ?_
  refine bv_istore (ls1 := [(0, .ref x0), (1, .int x1), (2, .int x2), (3, .int x3), (4, .int v2), (5, .int 0), (6, .int 0)]) dX8_underSeeing_11 (by decide) rfl rfl ?_
  obtain ⟨r4, p5, h⟩ := bu_bd h
  refine v_X8_underSeeing_l13 hN q1 1000 _ _ _ p5 (fun y6 hy => ?_)
  · subst hy
    refine bv_iload dX8_underSeeing_72 0 rfl ?_
    obtain rfl := Option.some.inj h
    exact bv_iret (x := y6) dX8_underSeeing_74 rfl ⟨rfl, rfl⟩
def f_X8_holders (M : bm_M) (x0 : Nat) : Option (Int32) := (if bm_io x0 8 then ((M.2.2 x0 0).bind fun a2 => (if bm_io a2 0 then ((f_X0_allMen M a2).bind fun v5 => ((f_X8_holdersOf M x0 (-1)).bind fun v7 => some (v5 &&& (v7 ^^^ (-1))))) else none)) else none)
set_option maxHeartbeats 4000000 in
set_option maxRecDepth 100000 in
theorem c_X8_holders {L : bm_L} {d n : Nat} {M : bm_M} {x0 : Nat} {v : Int32} (hN : 181 ≤ n) (h : f_X8_holders M x0 = some v) : bm_C L m_X8_holders (d + 1) n n [.ref x0] M (fun r M' => r = some (.int v) ∧ M' = M) := by
  refine bm_C.ofV (by decide) (Nat.le_of_ble_eq_true rfl) ?_
  show bm_V L m_X8_holders (d + 1) n n n 0 [(0, .ref x0)] [] M _
  unfold f_X8_holders at h
  refine bv_aload_n dX8_holders_0 0 rfl ?_
  obtain ⟨q1, h⟩ := bu_io h
  obtain ⟨a2, e3, h⟩ := bu_bd h
  refine bw_getA (a := a2) hN q1 e3 dX8_holders_1 fl_8_30 rfl ?_
  obtain ⟨q4, h⟩ := bu_io h
  obtain ⟨v5, p6, h⟩ := bu_bd h
  refine bw_callV (As := []) hN q4 ⟨_, _, rfl⟩ dX8_holders_4 mc_8_105 (c_X0_allMen (d := d + 0) hN p6) rfl rfl (by decide) ?_
  refine bv_aload_n dX8_holders_7 0 rfl ?_
  refine bv_iconst (v := (-1)) dX8_holders_8 (by decide) ?_
  obtain ⟨v7, p8, h⟩ := bu_bd h
  refine bw_callV (As := [.int (-1)]) hN q1 ⟨_, _, rfl⟩ dX8_holders_9 mc_8_109 (c_X8_holdersOf (d := d + 0) hN p8) rfl rfl (Nat.le_of_ble_eq_true rfl) ?_
  refine bv_iconst (v := (-1)) dX8_holders_12 (by decide) ?_
  refine bv_ixor dX8_holders_13 ?_
  refine bv_iand dX8_holders_14 ?_
  obtain rfl := Option.some.inj h
  exact bv_iret (x := (v5 &&& (v7 ^^^ (-1)))) dX8_holders_15 rfl ⟨rfl, rfl⟩
def f_X8_allLost_l4 (M : bm_M) (x0 : Nat) : Nat → Int32 → Int32 → Option (Int32)
  | 0, _, _ => none
  | k + 1, x1, x2 => (if bm_io x0 8 then ((M.2.2 x0 0).bind fun a2 => (if bm_io a2 0 then (if (M.1 a2 10) ≤ x2 then some x1 else ((M.2.2 x0 5).bind fun a5 => (if bm_ia a5 0 x2 = true then f_X8_allLost_l4 M x0 k (x1 + (M.1 a5 x2.toNatClampNeg)) (x2 + 1) else none))) else none)) else none)
set_option maxHeartbeats 4000000 in
set_option maxRecDepth 100000 in
theorem v_X8_allLost_l4 {L : bm_L} {d n : Nat} {Q : Option Value → bm_M → Prop} {M : bm_M} {x0 : Nat} (hN : 181 ≤ n) : ∀ (k : Nat) (x1 : Int32) (x2 : Int32) (r : Int32), f_X8_allLost_l4 M x0 k x1 x2 = some r → (∀ yy, yy = r → bm_V L m_X8_allLost d n n n 30 [(1, .int yy)] [] M Q) → bm_V L m_X8_allLost d n n n 4 [(0, .ref x0), (1, .int x1), (2, .int x2)] [] M Q := by
  intro k
  induction k with
  | zero => intro x1 x2 r h; cases (show (none : Option (Int32)) = some r from h)
  | succ k ih =>
    intro x1 x2 r h K0
    unfold f_X8_allLost_l4 at h
    refine bv_iload_n dX8_allLost_4 2 rfl ?_
    refine bv_aload_n dX8_allLost_5 0 rfl ?_
    obtain ⟨q1, h⟩ := bu_io h
    obtain ⟨a2, e3, h⟩ := bu_bd h
    refine bw_getA (a := a2) hN q1 e3 dX8_allLost_6 fl_8_30 rfl ?_
    obtain ⟨q4, h⟩ := bu_io h
    refine bw_getI hN q4 dX8_allLost_9 fl_8_34 rfl ?_
    refine bv_icmp_ge (tgt := 30) dX8_allLost_12 (by decide) (fun cc => ?_) (fun cc => ?_)
    · replace h := bu_t h cc
      refine bw_ls (ls1 := [(1, .int x1)]) [1] rfl ?_
      obtain rfl := Option.some.inj h
      exact K0 _ rfl
    · replace h := bu_f h cc
      refine bv_iload_n dX8_allLost_15 1 rfl ?_
      refine bv_aload_n dX8_allLost_16 0 rfl ?_
      obtain ⟨a5, e6, h⟩ := bu_bd h
      refine bw_getA (a := a5) hN q1 e6 dX8_allLost_17 fl_8_24 rfl ?_
      refine bv_iload_n dX8_allLost_20 2 rfl ?_
      obtain ⟨r7, h⟩ := bu_ia h
      refine bw_iald hN r7 dX8_allLost_21 ?_
      refine bv_iadd dX8_allLost_22 ?_
      refine bv_istore_n (ls1 := [(0, .ref x0), (1, .int (x1 + (M.1 a5 x2.toNatClampNeg))), (2, .int x2)]) dX8_allLost_23 (by decide) rfl rfl ?_
      refine bv_iinc (j := 2) (v := (x2 + 1)) (ls1 := [(0, .ref x0), (1, .int (x1 + (M.1 a5 x2.toNatClampNeg))), (2, .int (x2 + 1))]) dX8_allLost_24 rfl rfl (by decide) rfl rfl ?_
      refine bv_goto (tgt := 4) dX8_allLost_27 (by decide) ?_
      exact ih _ _ _ h K0
def f_X8_allLost (M : bm_M) (x0 : Nat) : Option (Int32) := ((f_X8_allLost_l4 M x0 1000 0 0).bind fun y3 => some y3)
set_option maxHeartbeats 4000000 in
set_option maxRecDepth 100000 in
theorem c_X8_allLost {L : bm_L} {d n : Nat} {M : bm_M} {x0 : Nat} {v : Int32} (hN : 181 ≤ n) (h : f_X8_allLost M x0 = some v) : bm_C L m_X8_allLost d n n [.ref x0] M (fun r M' => r = some (.int v) ∧ M' = M) := by
  refine bm_C.ofV (by decide) (Nat.le_of_ble_eq_true rfl) ?_
  show bm_V L m_X8_allLost d n n n 0 [(0, .ref x0)] [] M _
  unfold f_X8_allLost at h
  refine bv_iconst (v := 0) dX8_allLost_0 (by decide) ?_
  refine bv_istore_n (ls1 := [(0, .ref x0), (1, .int 0)]) dX8_allLost_1 (by decide) rfl rfl ?_
  refine bv_iconst (v := 0) dX8_allLost_2 (by decide) ?_
  refine bv_istore_n (ls1 := [(0, .ref x0), (1, .int 0), (2, .int 0)]) dX8_allLost_3 (by decide) rfl rfl ?_
  obtain ⟨r1, p2, h⟩ := bu_bd h
  refine v_X8_allLost_l4 hN 1000 _ _ _ p2 (fun y3 hy => ?_)
  · subst hy
    refine bv_iload_n dX8_allLost_30 0 rfl ?_
    obtain rfl := Option.some.inj h
    exact bv_iret (x := y3) dX8_allLost_31 rfl ⟨rfl, rfl⟩
def f_X8_hear (M : bm_M) (x0 : Nat) (x1 : Int32) (x2 : Int32) : Option (bm_M) := (if bm_io x0 8 then ((M.2.2 x0 0).bind fun a2 => (if bm_io a2 0 then (if (f_X11_bit (M.1 a2 11) x1) = 1 then ((M.2.2 x0 4).bind fun a16 => (if bm_ia a16 0 x1 = true then (if (M.1 a16 x1.toNatClampNeg) = (-1) then ((M.2.2 x0 3).bind fun a19 => (if bm_ia a19 0 x1 = true then (if (M.1 a19 x1.toNatClampNeg) = 0 then some (bm_sI M a19 x1.toNatClampNeg x2) else ((f_X0_orderOf M a2 (M.1 a19 x1.toNatClampNeg) x2).bind fun v22 => (if v22 = (-1) then ((M.2.2 x0 5).bind fun a24 => (if bm_ia a24 0 x1 = true then some (bm_sI (bm_sI M a19 x1.toNatClampNeg 0) a24 x1.toNatClampNeg (bm_min 99 (((bm_sI M a19 x1.toNatClampNeg 0).1 a24 x1.toNatClampNeg) + 1))) else none)) else some (bm_sI (bm_sI (bm_sI M a19 x1.toNatClampNeg 0) a16 x1.toNatClampNeg v22) x0 9 (((bm_sI (bm_sI M a19 x1.toNatClampNeg 0) a16 x1.toNatClampNeg v22).1 x0 9) ||| (bm_ishl 1 x1)))))) else none)) else some M) else none)) else ((M.2.2 x0 3).bind fun a5 => (if bm_ia a5 0 x1 = true then (if (M.1 a5 x1.toNatClampNeg) = 0 then some (bm_sI M a5 x1.toNatClampNeg x2) else ((f_X0_orderOf M a2 (M.1 a5 x1.toNatClampNeg) x2).bind fun v8 => (if v8 = (-1) then ((M.2.2 x0 5).bind fun a13 => (if bm_ia a13 0 x1 = true then some (bm_sI (bm_sI M a5 x1.toNatClampNeg 0) a13 x1.toNatClampNeg (bm_min 99 (((bm_sI M a5 x1.toNatClampNeg 0).1 a13 x1.toNatClampNeg) + 1))) else none)) else ((M.2.2 x0 4).bind fun a10 => (if bm_ia a10 0 x1 = true then some (bm_sI (bm_sI (bm_sI M a5 x1.toNatClampNeg 0) a10 x1.toNatClampNeg v8) x0 9 (((bm_sI (bm_sI M a5 x1.toNatClampNeg 0) a10 x1.toNatClampNeg v8).1 x0 9) ||| (bm_ishl 1 x1))) else none))))) else none))) else none)) else none)
set_option maxHeartbeats 4000000 in
set_option maxRecDepth 100000 in
theorem c_X8_hear {L : bm_L} {d n : Nat} {M : bm_M} {x0 : Nat} {x1 : Int32} {x2 : Int32} {v : bm_M} (hN : 181 ≤ n) (h : f_X8_hear M x0 x1 x2 = some v) : bm_C L m_X8_hear (d + 1) n n [.ref x0, .int x1, .int x2] M (fun r M' => r = none ∧ M' = v) := by
  refine bm_C.ofV (by decide) (Nat.le_of_ble_eq_true rfl) ?_
  show bm_V L m_X8_hear (d + 1) n n n 0 [(0, .ref x0), (1, .int x1), (2, .int x2)] [] M _
  unfold f_X8_hear at h
  refine bv_aload_n dX8_hear_0 0 rfl ?_
  obtain ⟨q1, h⟩ := bu_io h
  obtain ⟨a2, e3, h⟩ := bu_bd h
  refine bw_getA (a := a2) hN q1 e3 dX8_hear_1 fl_8_30 rfl ?_
  obtain ⟨q4, h⟩ := bu_io h
  refine bw_getI hN q4 dX8_hear_4 fl_8_140 rfl ?_
  refine bv_iload_n dX8_hear_7 1 rfl ?_
  refine bw_callSN (As := [.int (M.1 a2 11), .int x1]) dX8_hear_8 mc_8_70 (c_X11_bit (d := d + 0) hN rfl) rfl rfl (by decide) ?_
  refine bv_iconst (v := 1) dX8_hear_11 (by decide) ?_
  refine bv_icmp_ne (tgt := 26) dX8_hear_12 (by decide) (fun cc => ?_) (fun cc => ?_)
  · replace h := bu_f h cc
    refine bv_aload_n dX8_hear_26 0 rfl ?_
    obtain ⟨a5, e6, h⟩ := bu_bd h
    refine bw_getA (a := a5) hN q1 e6 dX8_hear_27 fl_8_18 rfl ?_
    refine bv_iload_n dX8_hear_30 1 rfl ?_
    obtain ⟨r7, h⟩ := bu_ia h
    refine bw_iald hN r7 dX8_hear_31 ?_
    refine bv_if_ne (tgt := 43) dX8_hear_32 (by decide) (fun cc => ?_) (fun cc => ?_)
    · replace h := bu_f h cc
      refine bv_aload_n dX8_hear_43 0 rfl ?_
      refine bw_getA (a := a2) hN q1 e3 dX8_hear_44 fl_8_30 rfl ?_
      refine bv_aload_n dX8_hear_47 0 rfl ?_
      refine bw_getA (a := a5) hN q1 e6 dX8_hear_48 fl_8_18 rfl ?_
      refine bv_iload_n dX8_hear_51 1 rfl ?_
      refine bw_iald hN r7 dX8_hear_52 ?_
      refine bv_iload_n dX8_hear_53 2 rfl ?_
      obtain ⟨v8, p9, h⟩ := bu_bd h
      refine bw_callV (As := [.int (M.1 a5 x1.toNatClampNeg), .int x2]) hN q4 ⟨_, _, rfl⟩ dX8_hear_54 mc_8_143 (c_X0_orderOf (d := d + 0) hN p9) rfl rfl (by decide) ?_
      refine bv_istore_n (ls1 := [(0, .ref x0), (1, .int x1), (2, .int x2), (3, .int v8)]) dX8_hear_57 (by decide) rfl rfl ?_
      refine bv_aload_n dX8_hear_58 0 rfl ?_
      refine bw_getA (a := a5) hN q1 e6 dX8_hear_59 fl_8_18 rfl ?_
      refine bv_iload_n dX8_hear_62 1 rfl ?_
      refine bv_iconst (v := 0) dX8_hear_63 (by decide) ?_
      refine bw_iast hN r7 dX8_hear_64 ?_
      refine bv_iload_n dX8_hear_65 3 rfl ?_
      refine bv_iconst (v := (-1)) dX8_hear_66 (by decide) ?_
      refine bv_icmp_ne (tgt := 92) dX8_hear_67 (by decide) (fun cc => ?_) (fun cc => ?_)
      · replace h := bu_f h cc
        refine bv_aload_n dX8_hear_92 0 rfl ?_
        obtain ⟨a10, e11, h⟩ := bu_bd h
        refine bw_getA (a := a10) hN q1 e11 dX8_hear_93 fl_8_21 rfl ?_
        refine bv_iload_n dX8_hear_96 1 rfl ?_
        refine bv_iload_n dX8_hear_97 3 rfl ?_
        obtain ⟨r12, h⟩ := bu_ia h
        refine bw_iast hN r12 dX8_hear_98 ?_
        refine bv_aload_n dX8_hear_99 0 rfl ?_
        refine bv_dup dX8_hear_100 rfl ?_
        refine bw_getI hN q1 dX8_hear_101 fl_8_52 rfl ?_
        refine bv_iconst (v := 1) dX8_hear_104 (by decide) ?_
        refine bv_iload_n dX8_hear_105 1 rfl ?_
        refine bv_ishl dX8_hear_106 ?_
        refine bv_ior dX8_hear_107 ?_
        refine bw_putI hN q1 dX8_hear_108 fl_8_52 rfl ?_
        obtain rfl := Option.some.inj h
        exact bv_vret dX8_hear_111 rfl ⟨rfl, rfl⟩
      · replace h := bu_t h cc
        refine bv_aload_n dX8_hear_70 0 rfl ?_
        obtain ⟨a13, e14, h⟩ := bu_bd h
        refine bw_getA (a := a13) hN q1 e14 dX8_hear_71 fl_8_24 rfl ?_
        refine bv_iload_n dX8_hear_74 1 rfl ?_
        refine bv_bipush (v := 99) dX8_hear_75 (by decide) ?_
        refine bv_aload_n dX8_hear_77 0 rfl ?_
        refine bw_getA (a := a13) hN q1 e14 dX8_hear_78 fl_8_24 rfl ?_
        refine bv_iload_n dX8_hear_81 1 rfl ?_
        obtain ⟨r15, h⟩ := bu_ia h
        refine bw_iald hN r15 dX8_hear_82 ?_
        refine bv_iconst (v := 1) dX8_hear_83 (by decide) ?_
        refine bv_iadd dX8_hear_84 ?_
        refine bv_mmin dX8_hear_85 mw_8_74 (Nat.le_of_ble_eq_true rfl) (Nat.le_refl n) ?_
        refine bw_iast hN r15 dX8_hear_88 ?_
        refine bv_goto (tgt := 111) dX8_hear_89 (by decide) ?_
        obtain rfl := Option.some.inj h
        exact bv_vret dX8_hear_111 rfl ⟨rfl, rfl⟩
    · replace h := bu_t h cc
      refine bv_aload_n dX8_hear_35 0 rfl ?_
      refine bw_getA (a := a5) hN q1 e6 dX8_hear_36 fl_8_18 rfl ?_
      refine bv_iload_n dX8_hear_39 1 rfl ?_
      refine bv_iload_n dX8_hear_40 2 rfl ?_
      refine bw_iast hN r7 dX8_hear_41 ?_
      obtain rfl := Option.some.inj h
      exact bv_vret dX8_hear_42 rfl ⟨rfl, rfl⟩
  · replace h := bu_t h cc
    refine bv_aload_n dX8_hear_15 0 rfl ?_
    obtain ⟨a16, e17, h⟩ := bu_bd h
    refine bw_getA (a := a16) hN q1 e17 dX8_hear_16 fl_8_21 rfl ?_
    refine bv_iload_n dX8_hear_19 1 rfl ?_
    obtain ⟨r18, h⟩ := bu_ia h
    refine bw_iald hN r18 dX8_hear_20 ?_
    refine bv_iconst (v := (-1)) dX8_hear_21 (by decide) ?_
    refine bv_icmp_eq (tgt := 26) dX8_hear_22 (by decide) (fun cc => ?_) (fun cc => ?_)
    · replace h := bu_t h cc
      refine bv_aload_n dX8_hear_26 0 rfl ?_
      obtain ⟨a19, e20, h⟩ := bu_bd h
      refine bw_getA (a := a19) hN q1 e20 dX8_hear_27 fl_8_18 rfl ?_
      refine bv_iload_n dX8_hear_30 1 rfl ?_
      obtain ⟨r21, h⟩ := bu_ia h
      refine bw_iald hN r21 dX8_hear_31 ?_
      refine bv_if_ne (tgt := 43) dX8_hear_32 (by decide) (fun cc => ?_) (fun cc => ?_)
      · replace h := bu_f h cc
        refine bv_aload_n dX8_hear_43 0 rfl ?_
        refine bw_getA (a := a2) hN q1 e3 dX8_hear_44 fl_8_30 rfl ?_
        refine bv_aload_n dX8_hear_47 0 rfl ?_
        refine bw_getA (a := a19) hN q1 e20 dX8_hear_48 fl_8_18 rfl ?_
        refine bv_iload_n dX8_hear_51 1 rfl ?_
        refine bw_iald hN r21 dX8_hear_52 ?_
        refine bv_iload_n dX8_hear_53 2 rfl ?_
        obtain ⟨v22, p23, h⟩ := bu_bd h
        refine bw_callV (As := [.int (M.1 a19 x1.toNatClampNeg), .int x2]) hN q4 ⟨_, _, rfl⟩ dX8_hear_54 mc_8_143 (c_X0_orderOf (d := d + 0) hN p23) rfl rfl (by decide) ?_
        refine bv_istore_n (ls1 := [(0, .ref x0), (1, .int x1), (2, .int x2), (3, .int v22)]) dX8_hear_57 (by decide) rfl rfl ?_
        refine bv_aload_n dX8_hear_58 0 rfl ?_
        refine bw_getA (a := a19) hN q1 e20 dX8_hear_59 fl_8_18 rfl ?_
        refine bv_iload_n dX8_hear_62 1 rfl ?_
        refine bv_iconst (v := 0) dX8_hear_63 (by decide) ?_
        refine bw_iast hN r21 dX8_hear_64 ?_
        refine bv_iload_n dX8_hear_65 3 rfl ?_
        refine bv_iconst (v := (-1)) dX8_hear_66 (by decide) ?_
        refine bv_icmp_ne (tgt := 92) dX8_hear_67 (by decide) (fun cc => ?_) (fun cc => ?_)
        · replace h := bu_f h cc
          refine bv_aload_n dX8_hear_92 0 rfl ?_
          refine bw_getA (a := a16) hN q1 e17 dX8_hear_93 fl_8_21 rfl ?_
          refine bv_iload_n dX8_hear_96 1 rfl ?_
          refine bv_iload_n dX8_hear_97 3 rfl ?_
          refine bw_iast hN r18 dX8_hear_98 ?_
          refine bv_aload_n dX8_hear_99 0 rfl ?_
          refine bv_dup dX8_hear_100 rfl ?_
          refine bw_getI hN q1 dX8_hear_101 fl_8_52 rfl ?_
          refine bv_iconst (v := 1) dX8_hear_104 (by decide) ?_
          refine bv_iload_n dX8_hear_105 1 rfl ?_
          refine bv_ishl dX8_hear_106 ?_
          refine bv_ior dX8_hear_107 ?_
          refine bw_putI hN q1 dX8_hear_108 fl_8_52 rfl ?_
          obtain rfl := Option.some.inj h
          exact bv_vret dX8_hear_111 rfl ⟨rfl, rfl⟩
        · replace h := bu_t h cc
          refine bv_aload_n dX8_hear_70 0 rfl ?_
          obtain ⟨a24, e25, h⟩ := bu_bd h
          refine bw_getA (a := a24) hN q1 e25 dX8_hear_71 fl_8_24 rfl ?_
          refine bv_iload_n dX8_hear_74 1 rfl ?_
          refine bv_bipush (v := 99) dX8_hear_75 (by decide) ?_
          refine bv_aload_n dX8_hear_77 0 rfl ?_
          refine bw_getA (a := a24) hN q1 e25 dX8_hear_78 fl_8_24 rfl ?_
          refine bv_iload_n dX8_hear_81 1 rfl ?_
          obtain ⟨r26, h⟩ := bu_ia h
          refine bw_iald hN r26 dX8_hear_82 ?_
          refine bv_iconst (v := 1) dX8_hear_83 (by decide) ?_
          refine bv_iadd dX8_hear_84 ?_
          refine bv_mmin dX8_hear_85 mw_8_74 (Nat.le_of_ble_eq_true rfl) (Nat.le_refl n) ?_
          refine bw_iast hN r26 dX8_hear_88 ?_
          refine bv_goto (tgt := 111) dX8_hear_89 (by decide) ?_
          obtain rfl := Option.some.inj h
          exact bv_vret dX8_hear_111 rfl ⟨rfl, rfl⟩
      · replace h := bu_t h cc
        refine bv_aload_n dX8_hear_35 0 rfl ?_
        refine bw_getA (a := a19) hN q1 e20 dX8_hear_36 fl_8_18 rfl ?_
        refine bv_iload_n dX8_hear_39 1 rfl ?_
        refine bv_iload_n dX8_hear_40 2 rfl ?_
        refine bw_iast hN r21 dX8_hear_41 ?_
        obtain rfl := Option.some.inj h
        exact bv_vret dX8_hear_42 rfl ⟨rfl, rfl⟩
    · replace h := bu_f h cc
      obtain rfl := Option.some.inj h
      exact bv_vret dX8_hear_25 rfl ⟨rfl, rfl⟩
def f_X8_liftBy_l41 (x0 : Nat) (x2 : Int32) (x4 : Int32) : Nat → Int32 → bm_M → Option (bm_M)
  | 0, _, _ => none
  | k + 1, x5, M => ((M.2.2 x0 0).bind fun a1 => (if bm_io a1 0 then (if (M.1 a1 10) ≤ x5 then some M else (if (f_X11_bit x4 x5) = 1 then ((f_X8_hear M x0 x5 x2).bind fun v4 => f_X8_liftBy_l41 x0 x2 x4 k (x5 + 1) v4) else f_X8_liftBy_l41 x0 x2 x4 k (x5 + 1) M)) else none))
set_option maxHeartbeats 4000000 in
set_option maxRecDepth 100000 in
theorem v_X8_liftBy_l41 {L : bm_L} {d n : Nat} {Q : Option Value → bm_M → Prop} {x0 : Nat} {x2 : Int32} {x4 : Int32} (hN : 181 ≤ n) (q_0 : bm_OK x0 8) : ∀ (k : Nat) (x5 : Int32) (M : bm_M) (r : bm_M), f_X8_liftBy_l41 x0 x2 x4 k x5 M = some r → (∀ yy, yy = r → bm_V L m_X8_liftBy (d + 2) n n n 77 [] [] yy Q) → bm_V L m_X8_liftBy (d + 2) n n n 41 [(0, .ref x0), (2, .int x2), (4, .int x4), (5, .int x5)] [] M Q := by
  intro k
  induction k with
  | zero => intro x5 M r h; cases (show (none : Option (bm_M)) = some r from h)
  | succ k ih =>
    intro x5 M r h K0
    unfold f_X8_liftBy_l41 at h
    refine bv_iload dX8_liftBy_41 3 rfl ?_
    refine bv_aload_n dX8_liftBy_43 0 rfl ?_
    obtain ⟨a1, e2, h⟩ := bu_bd h
    refine bw_getA (a := a1) hN q_0 e2 dX8_liftBy_44 fl_8_30 rfl ?_
    obtain ⟨q3, h⟩ := bu_io h
    refine bw_getI hN q3 dX8_liftBy_47 fl_8_34 rfl ?_
    refine bv_icmp_ge (tgt := 77) dX8_liftBy_50 (by decide) (fun cc => ?_) (fun cc => ?_)
    · replace h := bu_t h cc
      refine bw_ls (ls1 := []) [] rfl ?_
      obtain rfl := Option.some.inj h
      exact K0 _ rfl
    · replace h := bu_f h cc
      refine bv_iload dX8_liftBy_53 2 rfl ?_
      refine bv_iload dX8_liftBy_55 3 rfl ?_
      refine bw_callSN (As := [.int x4, .int x5]) dX8_liftBy_57 mc_8_70 (c_X11_bit (d := d + 1) hN rfl) rfl rfl (by decide) ?_
      refine bv_iconst (v := 1) dX8_liftBy_60 (by decide) ?_
      refine bv_icmp_ne (tgt := 71) dX8_liftBy_61 (by decide) (fun cc => ?_) (fun cc => ?_)
      · replace h := bu_f h cc
        refine bv_iinc (j := 3) (v := (x5 + 1)) (ls1 := [(0, .ref x0), (2, .int x2), (4, .int x4), (5, .int (x5 + 1))]) dX8_liftBy_71 rfl rfl (by decide) rfl rfl ?_
        refine bv_goto (tgt := 41) dX8_liftBy_74 (by decide) ?_
        exact ih _ _ _ h K0
      · replace h := bu_t h cc
        refine bv_aload_n dX8_liftBy_64 0 rfl ?_
        refine bv_iload dX8_liftBy_65 3 rfl ?_
        refine bv_iload_n dX8_liftBy_67 1 rfl ?_
        obtain ⟨v4, p5, h⟩ := bu_bd h
        refine bw_callVv (As := [.int x5, .int x2]) hN q_0 ⟨_, _, rfl⟩ dX8_liftBy_68 mc_8_136 (c_X8_hear (d := d + 0) hN p5) rfl rfl (by decide) ?_
        refine bv_iinc (j := 3) (v := (x5 + 1)) (ls1 := [(0, .ref x0), (2, .int x2), (4, .int x4), (5, .int (x5 + 1))]) dX8_liftBy_71 rfl rfl (by decide) rfl rfl ?_
        refine bv_goto (tgt := 41) dX8_liftBy_74 (by decide) ?_
        exact ih _ _ _ h K0
def f_X8_liftBy (M : bm_M) (x0 : Nat) (x1 : Int32) (x2 : Int32) : Option (Int32 × bm_M) := (if bm_io x0 8 then ((f_X8_browOf M x0 x1).bind fun v2 => (if v2 = 0 then some (1, M) else ((M.2.2 x0 0).bind fun a4 => (if bm_io a4 0 then ((f_X8_readersOf (bm_sI M x0 11 ((M.1 x0 11) + 1)) x0 x1 (v2 * ((bm_sI M x0 11 ((M.1 x0 11) + 1)).1 a4 15))).bind fun v7 => ((f_X8_liftBy_l41 x0 x2 v7 1000 0 (bm_sI M x0 11 ((M.1 x0 11) + 1))).bind fun y11 => some (0, y11))) else none)))) else none)
set_option maxHeartbeats 4000000 in
set_option maxRecDepth 100000 in
theorem c_X8_liftBy {L : bm_L} {d n : Nat} {M : bm_M} {x0 : Nat} {x1 : Int32} {x2 : Int32} {v : Int32 × bm_M} (hN : 181 ≤ n) (h : f_X8_liftBy M x0 x1 x2 = some v) : bm_C L m_X8_liftBy (d + 2) n n [.ref x0, .int x1, .int x2] M (fun r M' => r = some (.int v.1) ∧ M' = v.2) := by
  refine bm_C.ofV (by decide) (Nat.le_of_ble_eq_true rfl) ?_
  show bm_V L m_X8_liftBy (d + 2) n n n 0 [(0, .ref x0), (1, .int x1), (2, .int x2)] [] M _
  unfold f_X8_liftBy at h
  refine bv_aload_n dX8_liftBy_0 0 rfl ?_
  refine bv_iload_n dX8_liftBy_1 1 rfl ?_
  obtain ⟨q1, h⟩ := bu_io h
  obtain ⟨v2, p3, h⟩ := bu_bd h
  refine bw_callV (As := [.int x1]) hN q1 ⟨_, _, rfl⟩ dX8_liftBy_2 mc_8_79 (c_X8_browOf (d := d + 0) hN p3) rfl rfl (by decide) ?_
  refine bv_istore_n (ls1 := [(0, .ref x0), (1, .int x1), (2, .int x2), (3, .int v2)]) dX8_liftBy_5 (by decide) rfl rfl ?_
  refine bv_iload_n dX8_liftBy_6 3 rfl ?_
  refine bv_if_ne (tgt := 12) dX8_liftBy_7 (by decide) (fun cc => ?_) (fun cc => ?_)
  · replace h := bu_f h cc
    refine bv_aload_n dX8_liftBy_12 0 rfl ?_
    refine bv_dup dX8_liftBy_13 rfl ?_
    refine bw_getI hN q1 dX8_liftBy_14 fl_8_58 rfl ?_
    refine bv_iconst (v := 1) dX8_liftBy_17 (by decide) ?_
    refine bv_iadd dX8_liftBy_18 ?_
    refine bw_putI hN q1 dX8_liftBy_19 fl_8_58 rfl ?_
    refine bv_aload_n dX8_liftBy_22 0 rfl ?_
    refine bv_iload_n dX8_liftBy_23 1 rfl ?_
    refine bv_iload_n dX8_liftBy_24 3 rfl ?_
    refine bv_aload_n dX8_liftBy_25 0 rfl ?_
    obtain ⟨a4, e5, h⟩ := bu_bd h
    refine bw_getA (a := a4) hN q1 e5 dX8_liftBy_26 fl_8_30 rfl ?_
    obtain ⟨q6, h⟩ := bu_io h
    refine bw_getI hN q6 dX8_liftBy_29 fl_8_83 rfl ?_
    refine bv_imul dX8_liftBy_32 ?_
    obtain ⟨v7, p8, h⟩ := bu_bd h
    refine bw_callV (As := [.int x1, .int (v2 * ((bm_sI M x0 11 ((M.1 x0 11) + 1)).1 a4 15))]) hN q1 ⟨_, _, rfl⟩ dX8_liftBy_33 mc_8_133 (c_X8_readersOf (d := d + 0) hN p8) rfl rfl (by decide) ?_
    refine bv_istore (ls1 := [(0, .ref x0), (1, .int x1), (2, .int x2), (3, .int v2), (4, .int v7)]) dX8_liftBy_36 (by decide) rfl rfl ?_
    refine bv_iconst (v := 0) dX8_liftBy_38 (by decide) ?_
    refine bv_istore (ls1 := [(0, .ref x0), (1, .int x1), (2, .int x2), (3, .int v2), (4, .int v7), (5, .int 0)]) dX8_liftBy_39 (by decide) rfl rfl ?_
    refine bw_ls (ls1 := [(0, .ref x0), (2, .int x2), (4, .int v7), (5, .int 0)]) [0, 2, 4, 5] rfl ?_
    obtain ⟨r9, p10, h⟩ := bu_bd h
    refine v_X8_liftBy_l41 hN q1 1000 _ _ _ p10 (fun y11 hy => ?_)
    · subst hy
      refine bv_iconst (v := 0) dX8_liftBy_77 (by decide) ?_
      obtain rfl := Option.some.inj h
      exact bv_iret (x := 0) dX8_liftBy_78 rfl ⟨rfl, rfl⟩
  · replace h := bu_t h cc
    refine bv_iconst (v := 1) dX8_liftBy_10 (by decide) ?_
    obtain rfl := Option.some.inj h
    exact bv_iret (x := 1) dX8_liftBy_11 rfl ⟨rfl, rfl⟩
def f_X8_giveBy (M : bm_M) (x0 : Nat) (x1 : Int32) (x2 : Int32) : Option (Int32 × bm_M) := (if bm_io x0 8 then ((M.2.2 x0 0).bind fun a2 => (if bm_io a2 0 then ((M.2.2 a2 6).bind fun a5 => (if bm_ia a5 0 x2 = true then ((f_X8_liftBy M x0 x1 (M.1 a5 x2.toNatClampNeg)).bind fun v8 => (if v8.1 = 0 then ((v8.2.2.2 x0 0).bind fun a10 => (if bm_io a10 0 then ((v8.2.2.2 a10 7).bind fun a13 => (if bm_ia a13 0 x2 = true then ((f_X8_liftBy v8.2 x0 x1 (v8.2.1 a13 x2.toNatClampNeg)).bind fun v16 => some (v16.1, v16.2)) else none)) else none)) else some (1, v8.2))) else none)) else none)) else none)
set_option maxHeartbeats 4000000 in
set_option maxRecDepth 100000 in
theorem c_X8_giveBy {L : bm_L} {d n : Nat} {M : bm_M} {x0 : Nat} {x1 : Int32} {x2 : Int32} {v : Int32 × bm_M} (hN : 181 ≤ n) (h : f_X8_giveBy M x0 x1 x2 = some v) : bm_C L m_X8_giveBy (d + 3) n n [.ref x0, .int x1, .int x2] M (fun r M' => r = some (.int v.1) ∧ M' = v.2) := by
  refine bm_C.ofV (by decide) (Nat.le_of_ble_eq_true rfl) ?_
  show bm_V L m_X8_giveBy (d + 3) n n n 0 [(0, .ref x0), (1, .int x1), (2, .int x2)] [] M _
  unfold f_X8_giveBy at h
  refine bv_aload_n dX8_giveBy_0 0 rfl ?_
  refine bv_iload_n dX8_giveBy_1 1 rfl ?_
  refine bv_aload_n dX8_giveBy_2 0 rfl ?_
  obtain ⟨q1, h⟩ := bu_io h
  obtain ⟨a2, e3, h⟩ := bu_bd h
  refine bw_getA (a := a2) hN q1 e3 dX8_giveBy_3 fl_8_30 rfl ?_
  obtain ⟨q4, h⟩ := bu_io h
  obtain ⟨a5, e6, h⟩ := bu_bd h
  refine bw_getA (a := a5) hN q4 e6 dX8_giveBy_6 fl_8_146 rfl ?_
  refine bv_iload_n dX8_giveBy_9 2 rfl ?_
  obtain ⟨r7, h⟩ := bu_ia h
  refine bw_iald hN r7 dX8_giveBy_10 ?_
  obtain ⟨v8, p9, h⟩ := bu_bd h
  refine bw_callV (As := [.int x1, .int (M.1 a5 x2.toNatClampNeg)]) hN q1 ⟨_, _, rfl⟩ dX8_giveBy_11 mc_8_112 (c_X8_liftBy (d := d + 0) hN p9) rfl rfl (by decide) ?_
  refine bv_if_eq (tgt := 19) dX8_giveBy_14 (by decide) (fun cc => ?_) (fun cc => ?_)
  · replace h := bu_t h cc
    refine bv_aload_n dX8_giveBy_19 0 rfl ?_
    refine bv_iload_n dX8_giveBy_20 1 rfl ?_
    refine bv_aload_n dX8_giveBy_21 0 rfl ?_
    obtain ⟨a10, e11, h⟩ := bu_bd h
    refine bw_getA (a := a10) hN q1 e11 dX8_giveBy_22 fl_8_30 rfl ?_
    obtain ⟨q12, h⟩ := bu_io h
    obtain ⟨a13, e14, h⟩ := bu_bd h
    refine bw_getA (a := a13) hN q12 e14 dX8_giveBy_25 fl_8_149 rfl ?_
    refine bv_iload_n dX8_giveBy_28 2 rfl ?_
    obtain ⟨r15, h⟩ := bu_ia h
    refine bw_iald hN r15 dX8_giveBy_29 ?_
    obtain ⟨v16, p17, h⟩ := bu_bd h
    refine bw_callV (As := [.int x1, .int (v8.2.1 a13 x2.toNatClampNeg)]) hN q1 ⟨_, _, rfl⟩ dX8_giveBy_30 mc_8_112 (c_X8_liftBy (d := d + 0) hN p17) rfl rfl (by decide) ?_
    obtain rfl := Option.some.inj h
    exact bv_iret (x := v16.1) dX8_giveBy_33 rfl ⟨rfl, rfl⟩
  · replace h := bu_f h cc
    refine bv_iconst (v := 1) dX8_giveBy_17 (by decide) ?_
    obtain rfl := Option.some.inj h
    exact bv_iret (x := 1) dX8_giveBy_18 rfl ⟨rfl, rfl⟩
def f_X8_goBy (M : bm_M) (x0 : Nat) (x1 : Int32) (x2 : Int32) : Option (Int32 × bm_M) := (if bm_io x0 8 then ((M.2.2 x0 1).bind fun a2 => (if bm_ia a2 0 x1 = true then (if x2 = 0 then ((M.2.2 x0 2).bind fun a11 => (if bm_ia a11 0 x1 = true then (if x2 = 1 then (if ((M.1 a2 x1.toNatClampNeg) + 1) < 0 then some (1, M) else (if 30 < ((M.1 a2 x1.toNatClampNeg) + 1) then some (1, M) else (if ((M.1 a11 x1.toNatClampNeg) + 1) < 0 then some (1, M) else (if ((M.1 a11 x1.toNatClampNeg) + 1) ≤ 30 then some (0, (bm_sI (bm_sI M a2 x1.toNatClampNeg ((M.1 a2 x1.toNatClampNeg) + 1)) a11 x1.toNatClampNeg ((M.1 a11 x1.toNatClampNeg) + 1))) else some (1, M))))) else (if x2 = 3 then (if ((M.1 a2 x1.toNatClampNeg) + 1) < 0 then some (1, M) else (if 30 < ((M.1 a2 x1.toNatClampNeg) + 1) then some (1, M) else (if ((M.1 a11 x1.toNatClampNeg) + (-1)) < 0 then some (1, M) else (if ((M.1 a11 x1.toNatClampNeg) + (-1)) ≤ 30 then some (0, (bm_sI (bm_sI M a2 x1.toNatClampNeg ((M.1 a2 x1.toNatClampNeg) + 1)) a11 x1.toNatClampNeg ((M.1 a11 x1.toNatClampNeg) + (-1)))) else some (1, M))))) else (if ((M.1 a2 x1.toNatClampNeg) + 1) < 0 then some (1, M) else (if 30 < ((M.1 a2 x1.toNatClampNeg) + 1) then some (1, M) else (if ((M.1 a11 x1.toNatClampNeg) + 0) < 0 then some (1, M) else (if ((M.1 a11 x1.toNatClampNeg) + 0) ≤ 30 then some (0, (bm_sI (bm_sI M a2 x1.toNatClampNeg ((M.1 a2 x1.toNatClampNeg) + 1)) a11 x1.toNatClampNeg ((M.1 a11 x1.toNatClampNeg) + 0))) else some (1, M))))))) else none)) else (if x2 = 2 then ((M.2.2 x0 2).bind fun a8 => (if bm_ia a8 0 x1 = true then (if x2 = 1 then (if ((M.1 a2 x1.toNatClampNeg) + (-1)) < 0 then some (1, M) else (if 30 < ((M.1 a2 x1.toNatClampNeg) + (-1)) then some (1, M) else (if ((M.1 a8 x1.toNatClampNeg) + 1) < 0 then some (1, M) else (if ((M.1 a8 x1.toNatClampNeg) + 1) ≤ 30 then some (0, (bm_sI (bm_sI M a2 x1.toNatClampNeg ((M.1 a2 x1.toNatClampNeg) + (-1))) a8 x1.toNatClampNeg ((M.1 a8 x1.toNatClampNeg) + 1))) else some (1, M))))) else (if x2 = 3 then (if ((M.1 a2 x1.toNatClampNeg) + (-1)) < 0 then some (1, M) else (if 30 < ((M.1 a2 x1.toNatClampNeg) + (-1)) then some (1, M) else (if ((M.1 a8 x1.toNatClampNeg) + (-1)) < 0 then some (1, M) else (if ((M.1 a8 x1.toNatClampNeg) + (-1)) ≤ 30 then some (0, (bm_sI (bm_sI M a2 x1.toNatClampNeg ((M.1 a2 x1.toNatClampNeg) + (-1))) a8 x1.toNatClampNeg ((M.1 a8 x1.toNatClampNeg) + (-1)))) else some (1, M))))) else (if ((M.1 a2 x1.toNatClampNeg) + (-1)) < 0 then some (1, M) else (if 30 < ((M.1 a2 x1.toNatClampNeg) + (-1)) then some (1, M) else (if ((M.1 a8 x1.toNatClampNeg) + 0) < 0 then some (1, M) else (if ((M.1 a8 x1.toNatClampNeg) + 0) ≤ 30 then some (0, (bm_sI (bm_sI M a2 x1.toNatClampNeg ((M.1 a2 x1.toNatClampNeg) + (-1))) a8 x1.toNatClampNeg ((M.1 a8 x1.toNatClampNeg) + 0))) else some (1, M))))))) else none)) else ((M.2.2 x0 2).bind fun a5 => (if bm_ia a5 0 x1 = true then (if x2 = 1 then (if ((M.1 a2 x1.toNatClampNeg) + 0) < 0 then some (1, M) else (if 30 < ((M.1 a2 x1.toNatClampNeg) + 0) then some (1, M) else (if ((M.1 a5 x1.toNatClampNeg) + 1) < 0 then some (1, M) else (if ((M.1 a5 x1.toNatClampNeg) + 1) ≤ 30 then some (0, (bm_sI (bm_sI M a2 x1.toNatClampNeg ((M.1 a2 x1.toNatClampNeg) + 0)) a5 x1.toNatClampNeg ((M.1 a5 x1.toNatClampNeg) + 1))) else some (1, M))))) else (if x2 = 3 then (if ((M.1 a2 x1.toNatClampNeg) + 0) < 0 then some (1, M) else (if 30 < ((M.1 a2 x1.toNatClampNeg) + 0) then some (1, M) else (if ((M.1 a5 x1.toNatClampNeg) + (-1)) < 0 then some (1, M) else (if ((M.1 a5 x1.toNatClampNeg) + (-1)) ≤ 30 then some (0, (bm_sI (bm_sI M a2 x1.toNatClampNeg ((M.1 a2 x1.toNatClampNeg) + 0)) a5 x1.toNatClampNeg ((M.1 a5 x1.toNatClampNeg) + (-1)))) else some (1, M))))) else (if ((M.1 a2 x1.toNatClampNeg) + 0) < 0 then some (1, M) else (if 30 < ((M.1 a2 x1.toNatClampNeg) + 0) then some (1, M) else (if ((M.1 a5 x1.toNatClampNeg) + 0) < 0 then some (1, M) else (if ((M.1 a5 x1.toNatClampNeg) + 0) ≤ 30 then some (0, (bm_sI (bm_sI M a2 x1.toNatClampNeg ((M.1 a2 x1.toNatClampNeg) + 0)) a5 x1.toNatClampNeg ((M.1 a5 x1.toNatClampNeg) + 0))) else some (1, M))))))) else none)))) else none)) else none)
set_option maxHeartbeats 4000000 in
set_option maxRecDepth 100000 in
theorem c_X8_goBy {L : bm_L} {d n : Nat} {M : bm_M} {x0 : Nat} {x1 : Int32} {x2 : Int32} {v : Int32 × bm_M} (hN : 181 ≤ n) (h : f_X8_goBy M x0 x1 x2 = some v) : bm_C L m_X8_goBy d n n [.ref x0, .int x1, .int x2] M (fun r M' => r = some (.int v.1) ∧ M' = v.2) := by
  refine bm_C.ofV (by decide) (Nat.le_of_ble_eq_true rfl) ?_
  show bm_V L m_X8_goBy d n n n 0 [(0, .ref x0), (1, .int x1), (2, .int x2)] [] M _
  unfold f_X8_goBy at h
  refine bv_aload_n dX8_goBy_0 0 rfl ?_
  obtain ⟨q1, h⟩ := bu_io h
  obtain ⟨a2, e3, h⟩ := bu_bd h
  refine bw_getA (a := a2) hN q1 e3 dX8_goBy_1 fl_8_9 rfl ?_
  refine bv_iload_n dX8_goBy_4 1 rfl ?_
  obtain ⟨r4, h⟩ := bu_ia h
  refine bw_iald hN r4 dX8_goBy_5 ?_
  refine bv_iload_n dX8_goBy_6 2 rfl ?_
  refine bv_if_ne (tgt := 14) dX8_goBy_7 (by decide) (fun cc => ?_) (fun cc => ?_)
  · replace h := bu_f h cc
    refine bv_iload_n dX8_goBy_14 2 rfl ?_
    refine bv_iconst (v := 2) dX8_goBy_15 (by decide) ?_
    refine bv_icmp_ne (tgt := 23) dX8_goBy_16 (by decide) (fun cc => ?_) (fun cc => ?_)
    · replace h := bu_f h cc
      refine bv_iconst (v := 0) dX8_goBy_23 (by decide) ?_
      refine bv_iadd dX8_goBy_24 ?_
      refine bv_istore_n (ls1 := [(0, .ref x0), (1, .int x1), (2, .int x2), (3, .int ((M.1 a2 x1.toNatClampNeg) + 0))]) dX8_goBy_25 (by decide) rfl rfl ?_
      refine bv_aload_n dX8_goBy_26 0 rfl ?_
      obtain ⟨a5, e6, h⟩ := bu_bd h
      refine bw_getA (a := a5) hN q1 e6 dX8_goBy_27 fl_8_15 rfl ?_
      refine bv_iload_n dX8_goBy_30 1 rfl ?_
      obtain ⟨r7, h⟩ := bu_ia h
      refine bw_iald hN r7 dX8_goBy_31 ?_
      refine bv_iload_n dX8_goBy_32 2 rfl ?_
      refine bv_iconst (v := 1) dX8_goBy_33 (by decide) ?_
      refine bv_icmp_ne (tgt := 41) dX8_goBy_34 (by decide) (fun cc => ?_) (fun cc => ?_)
      · replace h := bu_f h cc
        refine bv_iload_n dX8_goBy_41 2 rfl ?_
        refine bv_iconst (v := 3) dX8_goBy_42 (by decide) ?_
        refine bv_icmp_ne (tgt := 50) dX8_goBy_43 (by decide) (fun cc => ?_) (fun cc => ?_)
        · replace h := bu_f h cc
          refine bv_iconst (v := 0) dX8_goBy_50 (by decide) ?_
          refine bv_iadd dX8_goBy_51 ?_
          refine bv_istore (ls1 := [(0, .ref x0), (1, .int x1), (2, .int x2), (3, .int ((M.1 a2 x1.toNatClampNeg) + 0)), (4, .int ((M.1 a5 x1.toNatClampNeg) + 0))]) dX8_goBy_52 (by decide) rfl rfl ?_
          refine bv_iload_n dX8_goBy_54 3 rfl ?_
          refine bv_if_lt (tgt := 76) dX8_goBy_55 (by decide) (fun cc => ?_) (fun cc => ?_)
          · replace h := bu_t h cc
            refine bv_iconst (v := 1) dX8_goBy_76 (by decide) ?_
            obtain rfl := Option.some.inj h
            exact bv_iret (x := 1) dX8_goBy_77 rfl ⟨rfl, rfl⟩
          · replace h := bu_f h cc
            refine bv_iload_n dX8_goBy_58 3 rfl ?_
            refine bv_bipush (v := 30) dX8_goBy_59 (by decide) ?_
            refine bv_icmp_gt (tgt := 76) dX8_goBy_61 (by decide) (fun cc => ?_) (fun cc => ?_)
            · replace h := bu_t h cc
              refine bv_iconst (v := 1) dX8_goBy_76 (by decide) ?_
              obtain rfl := Option.some.inj h
              exact bv_iret (x := 1) dX8_goBy_77 rfl ⟨rfl, rfl⟩
            · replace h := bu_f h cc
              refine bv_iload dX8_goBy_64 4 rfl ?_
              refine bv_if_lt (tgt := 76) dX8_goBy_66 (by decide) (fun cc => ?_) (fun cc => ?_)
              · replace h := bu_t h cc
                refine bv_iconst (v := 1) dX8_goBy_76 (by decide) ?_
                obtain rfl := Option.some.inj h
                exact bv_iret (x := 1) dX8_goBy_77 rfl ⟨rfl, rfl⟩
              · replace h := bu_f h cc
                refine bv_iload dX8_goBy_69 4 rfl ?_
                refine bv_bipush (v := 30) dX8_goBy_71 (by decide) ?_
                refine bv_icmp_le (tgt := 78) dX8_goBy_73 (by decide) (fun cc => ?_) (fun cc => ?_)
                · replace h := bu_t h cc
                  refine bv_aload_n dX8_goBy_78 0 rfl ?_
                  refine bw_getA (a := a2) hN q1 e3 dX8_goBy_79 fl_8_9 rfl ?_
                  refine bv_iload_n dX8_goBy_82 1 rfl ?_
                  refine bv_iload_n dX8_goBy_83 3 rfl ?_
                  refine bw_iast hN r4 dX8_goBy_84 ?_
                  refine bv_aload_n dX8_goBy_85 0 rfl ?_
                  refine bw_getA (a := a5) hN q1 e6 dX8_goBy_86 fl_8_15 rfl ?_
                  refine bv_iload_n dX8_goBy_89 1 rfl ?_
                  refine bv_iload dX8_goBy_90 4 rfl ?_
                  refine bw_iast hN r7 dX8_goBy_92 ?_
                  refine bv_iconst (v := 0) dX8_goBy_93 (by decide) ?_
                  obtain rfl := Option.some.inj h
                  exact bv_iret (x := 0) dX8_goBy_94 rfl ⟨rfl, rfl⟩
                · replace h := bu_f h cc
                  refine bv_iconst (v := 1) dX8_goBy_76 (by decide) ?_
                  obtain rfl := Option.some.inj h
                  exact bv_iret (x := 1) dX8_goBy_77 rfl ⟨rfl, rfl⟩
        · replace h := bu_t h cc
          refine bv_iconst (v := (-1)) dX8_goBy_46 (by decide) ?_
          refine bv_goto (tgt := 51) dX8_goBy_47 (by decide) ?_
          refine bv_iadd dX8_goBy_51 ?_
          refine bv_istore (ls1 := [(0, .ref x0), (1, .int x1), (2, .int x2), (3, .int ((M.1 a2 x1.toNatClampNeg) + 0)), (4, .int ((M.1 a5 x1.toNatClampNeg) + (-1)))]) dX8_goBy_52 (by decide) rfl rfl ?_
          refine bv_iload_n dX8_goBy_54 3 rfl ?_
          refine bv_if_lt (tgt := 76) dX8_goBy_55 (by decide) (fun cc => ?_) (fun cc => ?_)
          · replace h := bu_t h cc
            refine bv_iconst (v := 1) dX8_goBy_76 (by decide) ?_
            obtain rfl := Option.some.inj h
            exact bv_iret (x := 1) dX8_goBy_77 rfl ⟨rfl, rfl⟩
          · replace h := bu_f h cc
            refine bv_iload_n dX8_goBy_58 3 rfl ?_
            refine bv_bipush (v := 30) dX8_goBy_59 (by decide) ?_
            refine bv_icmp_gt (tgt := 76) dX8_goBy_61 (by decide) (fun cc => ?_) (fun cc => ?_)
            · replace h := bu_t h cc
              refine bv_iconst (v := 1) dX8_goBy_76 (by decide) ?_
              obtain rfl := Option.some.inj h
              exact bv_iret (x := 1) dX8_goBy_77 rfl ⟨rfl, rfl⟩
            · replace h := bu_f h cc
              refine bv_iload dX8_goBy_64 4 rfl ?_
              refine bv_if_lt (tgt := 76) dX8_goBy_66 (by decide) (fun cc => ?_) (fun cc => ?_)
              · replace h := bu_t h cc
                refine bv_iconst (v := 1) dX8_goBy_76 (by decide) ?_
                obtain rfl := Option.some.inj h
                exact bv_iret (x := 1) dX8_goBy_77 rfl ⟨rfl, rfl⟩
              · replace h := bu_f h cc
                refine bv_iload dX8_goBy_69 4 rfl ?_
                refine bv_bipush (v := 30) dX8_goBy_71 (by decide) ?_
                refine bv_icmp_le (tgt := 78) dX8_goBy_73 (by decide) (fun cc => ?_) (fun cc => ?_)
                · replace h := bu_t h cc
                  refine bv_aload_n dX8_goBy_78 0 rfl ?_
                  refine bw_getA (a := a2) hN q1 e3 dX8_goBy_79 fl_8_9 rfl ?_
                  refine bv_iload_n dX8_goBy_82 1 rfl ?_
                  refine bv_iload_n dX8_goBy_83 3 rfl ?_
                  refine bw_iast hN r4 dX8_goBy_84 ?_
                  refine bv_aload_n dX8_goBy_85 0 rfl ?_
                  refine bw_getA (a := a5) hN q1 e6 dX8_goBy_86 fl_8_15 rfl ?_
                  refine bv_iload_n dX8_goBy_89 1 rfl ?_
                  refine bv_iload dX8_goBy_90 4 rfl ?_
                  refine bw_iast hN r7 dX8_goBy_92 ?_
                  refine bv_iconst (v := 0) dX8_goBy_93 (by decide) ?_
                  obtain rfl := Option.some.inj h
                  exact bv_iret (x := 0) dX8_goBy_94 rfl ⟨rfl, rfl⟩
                · replace h := bu_f h cc
                  refine bv_iconst (v := 1) dX8_goBy_76 (by decide) ?_
                  obtain rfl := Option.some.inj h
                  exact bv_iret (x := 1) dX8_goBy_77 rfl ⟨rfl, rfl⟩
      · replace h := bu_t h cc
        refine bv_iconst (v := 1) dX8_goBy_37 (by decide) ?_
        refine bv_goto (tgt := 51) dX8_goBy_38 (by decide) ?_
        refine bv_iadd dX8_goBy_51 ?_
        refine bv_istore (ls1 := [(0, .ref x0), (1, .int x1), (2, .int x2), (3, .int ((M.1 a2 x1.toNatClampNeg) + 0)), (4, .int ((M.1 a5 x1.toNatClampNeg) + 1))]) dX8_goBy_52 (by decide) rfl rfl ?_
        refine bv_iload_n dX8_goBy_54 3 rfl ?_
        refine bv_if_lt (tgt := 76) dX8_goBy_55 (by decide) (fun cc => ?_) (fun cc => ?_)
        · replace h := bu_t h cc
          refine bv_iconst (v := 1) dX8_goBy_76 (by decide) ?_
          obtain rfl := Option.some.inj h
          exact bv_iret (x := 1) dX8_goBy_77 rfl ⟨rfl, rfl⟩
        · replace h := bu_f h cc
          refine bv_iload_n dX8_goBy_58 3 rfl ?_
          refine bv_bipush (v := 30) dX8_goBy_59 (by decide) ?_
          refine bv_icmp_gt (tgt := 76) dX8_goBy_61 (by decide) (fun cc => ?_) (fun cc => ?_)
          · replace h := bu_t h cc
            refine bv_iconst (v := 1) dX8_goBy_76 (by decide) ?_
            obtain rfl := Option.some.inj h
            exact bv_iret (x := 1) dX8_goBy_77 rfl ⟨rfl, rfl⟩
          · replace h := bu_f h cc
            refine bv_iload dX8_goBy_64 4 rfl ?_
            refine bv_if_lt (tgt := 76) dX8_goBy_66 (by decide) (fun cc => ?_) (fun cc => ?_)
            · replace h := bu_t h cc
              refine bv_iconst (v := 1) dX8_goBy_76 (by decide) ?_
              obtain rfl := Option.some.inj h
              exact bv_iret (x := 1) dX8_goBy_77 rfl ⟨rfl, rfl⟩
            · replace h := bu_f h cc
              refine bv_iload dX8_goBy_69 4 rfl ?_
              refine bv_bipush (v := 30) dX8_goBy_71 (by decide) ?_
              refine bv_icmp_le (tgt := 78) dX8_goBy_73 (by decide) (fun cc => ?_) (fun cc => ?_)
              · replace h := bu_t h cc
                refine bv_aload_n dX8_goBy_78 0 rfl ?_
                refine bw_getA (a := a2) hN q1 e3 dX8_goBy_79 fl_8_9 rfl ?_
                refine bv_iload_n dX8_goBy_82 1 rfl ?_
                refine bv_iload_n dX8_goBy_83 3 rfl ?_
                refine bw_iast hN r4 dX8_goBy_84 ?_
                refine bv_aload_n dX8_goBy_85 0 rfl ?_
                refine bw_getA (a := a5) hN q1 e6 dX8_goBy_86 fl_8_15 rfl ?_
                refine bv_iload_n dX8_goBy_89 1 rfl ?_
                refine bv_iload dX8_goBy_90 4 rfl ?_
                refine bw_iast hN r7 dX8_goBy_92 ?_
                refine bv_iconst (v := 0) dX8_goBy_93 (by decide) ?_
                obtain rfl := Option.some.inj h
                exact bv_iret (x := 0) dX8_goBy_94 rfl ⟨rfl, rfl⟩
              · replace h := bu_f h cc
                refine bv_iconst (v := 1) dX8_goBy_76 (by decide) ?_
                obtain rfl := Option.some.inj h
                exact bv_iret (x := 1) dX8_goBy_77 rfl ⟨rfl, rfl⟩
    · replace h := bu_t h cc
      refine bv_iconst (v := (-1)) dX8_goBy_19 (by decide) ?_
      refine bv_goto (tgt := 24) dX8_goBy_20 (by decide) ?_
      refine bv_iadd dX8_goBy_24 ?_
      refine bv_istore_n (ls1 := [(0, .ref x0), (1, .int x1), (2, .int x2), (3, .int ((M.1 a2 x1.toNatClampNeg) + (-1)))]) dX8_goBy_25 (by decide) rfl rfl ?_
      refine bv_aload_n dX8_goBy_26 0 rfl ?_
      obtain ⟨a8, e9, h⟩ := bu_bd h
      refine bw_getA (a := a8) hN q1 e9 dX8_goBy_27 fl_8_15 rfl ?_
      refine bv_iload_n dX8_goBy_30 1 rfl ?_
      obtain ⟨r10, h⟩ := bu_ia h
      refine bw_iald hN r10 dX8_goBy_31 ?_
      refine bv_iload_n dX8_goBy_32 2 rfl ?_
      refine bv_iconst (v := 1) dX8_goBy_33 (by decide) ?_
      refine bv_icmp_ne (tgt := 41) dX8_goBy_34 (by decide) (fun cc => ?_) (fun cc => ?_)
      · replace h := bu_f h cc
        refine bv_iload_n dX8_goBy_41 2 rfl ?_
        refine bv_iconst (v := 3) dX8_goBy_42 (by decide) ?_
        refine bv_icmp_ne (tgt := 50) dX8_goBy_43 (by decide) (fun cc => ?_) (fun cc => ?_)
        · replace h := bu_f h cc
          refine bv_iconst (v := 0) dX8_goBy_50 (by decide) ?_
          refine bv_iadd dX8_goBy_51 ?_
          refine bv_istore (ls1 := [(0, .ref x0), (1, .int x1), (2, .int x2), (3, .int ((M.1 a2 x1.toNatClampNeg) + (-1))), (4, .int ((M.1 a8 x1.toNatClampNeg) + 0))]) dX8_goBy_52 (by decide) rfl rfl ?_
          refine bv_iload_n dX8_goBy_54 3 rfl ?_
          refine bv_if_lt (tgt := 76) dX8_goBy_55 (by decide) (fun cc => ?_) (fun cc => ?_)
          · replace h := bu_t h cc
            refine bv_iconst (v := 1) dX8_goBy_76 (by decide) ?_
            obtain rfl := Option.some.inj h
            exact bv_iret (x := 1) dX8_goBy_77 rfl ⟨rfl, rfl⟩
          · replace h := bu_f h cc
            refine bv_iload_n dX8_goBy_58 3 rfl ?_
            refine bv_bipush (v := 30) dX8_goBy_59 (by decide) ?_
            refine bv_icmp_gt (tgt := 76) dX8_goBy_61 (by decide) (fun cc => ?_) (fun cc => ?_)
            · replace h := bu_t h cc
              refine bv_iconst (v := 1) dX8_goBy_76 (by decide) ?_
              obtain rfl := Option.some.inj h
              exact bv_iret (x := 1) dX8_goBy_77 rfl ⟨rfl, rfl⟩
            · replace h := bu_f h cc
              refine bv_iload dX8_goBy_64 4 rfl ?_
              refine bv_if_lt (tgt := 76) dX8_goBy_66 (by decide) (fun cc => ?_) (fun cc => ?_)
              · replace h := bu_t h cc
                refine bv_iconst (v := 1) dX8_goBy_76 (by decide) ?_
                obtain rfl := Option.some.inj h
                exact bv_iret (x := 1) dX8_goBy_77 rfl ⟨rfl, rfl⟩
              · replace h := bu_f h cc
                refine bv_iload dX8_goBy_69 4 rfl ?_
                refine bv_bipush (v := 30) dX8_goBy_71 (by decide) ?_
                refine bv_icmp_le (tgt := 78) dX8_goBy_73 (by decide) (fun cc => ?_) (fun cc => ?_)
                · replace h := bu_t h cc
                  refine bv_aload_n dX8_goBy_78 0 rfl ?_
                  refine bw_getA (a := a2) hN q1 e3 dX8_goBy_79 fl_8_9 rfl ?_
                  refine bv_iload_n dX8_goBy_82 1 rfl ?_
                  refine bv_iload_n dX8_goBy_83 3 rfl ?_
                  refine bw_iast hN r4 dX8_goBy_84 ?_
                  refine bv_aload_n dX8_goBy_85 0 rfl ?_
                  refine bw_getA (a := a8) hN q1 e9 dX8_goBy_86 fl_8_15 rfl ?_
                  refine bv_iload_n dX8_goBy_89 1 rfl ?_
                  refine bv_iload dX8_goBy_90 4 rfl ?_
                  refine bw_iast hN r10 dX8_goBy_92 ?_
                  refine bv_iconst (v := 0) dX8_goBy_93 (by decide) ?_
                  obtain rfl := Option.some.inj h
                  exact bv_iret (x := 0) dX8_goBy_94 rfl ⟨rfl, rfl⟩
                · replace h := bu_f h cc
                  refine bv_iconst (v := 1) dX8_goBy_76 (by decide) ?_
                  obtain rfl := Option.some.inj h
                  exact bv_iret (x := 1) dX8_goBy_77 rfl ⟨rfl, rfl⟩
        · replace h := bu_t h cc
          refine bv_iconst (v := (-1)) dX8_goBy_46 (by decide) ?_
          refine bv_goto (tgt := 51) dX8_goBy_47 (by decide) ?_
          refine bv_iadd dX8_goBy_51 ?_
          refine bv_istore (ls1 := [(0, .ref x0), (1, .int x1), (2, .int x2), (3, .int ((M.1 a2 x1.toNatClampNeg) + (-1))), (4, .int ((M.1 a8 x1.toNatClampNeg) + (-1)))]) dX8_goBy_52 (by decide) rfl rfl ?_
          refine bv_iload_n dX8_goBy_54 3 rfl ?_
          refine bv_if_lt (tgt := 76) dX8_goBy_55 (by decide) (fun cc => ?_) (fun cc => ?_)
          · replace h := bu_t h cc
            refine bv_iconst (v := 1) dX8_goBy_76 (by decide) ?_
            obtain rfl := Option.some.inj h
            exact bv_iret (x := 1) dX8_goBy_77 rfl ⟨rfl, rfl⟩
          · replace h := bu_f h cc
            refine bv_iload_n dX8_goBy_58 3 rfl ?_
            refine bv_bipush (v := 30) dX8_goBy_59 (by decide) ?_
            refine bv_icmp_gt (tgt := 76) dX8_goBy_61 (by decide) (fun cc => ?_) (fun cc => ?_)
            · replace h := bu_t h cc
              refine bv_iconst (v := 1) dX8_goBy_76 (by decide) ?_
              obtain rfl := Option.some.inj h
              exact bv_iret (x := 1) dX8_goBy_77 rfl ⟨rfl, rfl⟩
            · replace h := bu_f h cc
              refine bv_iload dX8_goBy_64 4 rfl ?_
              refine bv_if_lt (tgt := 76) dX8_goBy_66 (by decide) (fun cc => ?_) (fun cc => ?_)
              · replace h := bu_t h cc
                refine bv_iconst (v := 1) dX8_goBy_76 (by decide) ?_
                obtain rfl := Option.some.inj h
                exact bv_iret (x := 1) dX8_goBy_77 rfl ⟨rfl, rfl⟩
              · replace h := bu_f h cc
                refine bv_iload dX8_goBy_69 4 rfl ?_
                refine bv_bipush (v := 30) dX8_goBy_71 (by decide) ?_
                refine bv_icmp_le (tgt := 78) dX8_goBy_73 (by decide) (fun cc => ?_) (fun cc => ?_)
                · replace h := bu_t h cc
                  refine bv_aload_n dX8_goBy_78 0 rfl ?_
                  refine bw_getA (a := a2) hN q1 e3 dX8_goBy_79 fl_8_9 rfl ?_
                  refine bv_iload_n dX8_goBy_82 1 rfl ?_
                  refine bv_iload_n dX8_goBy_83 3 rfl ?_
                  refine bw_iast hN r4 dX8_goBy_84 ?_
                  refine bv_aload_n dX8_goBy_85 0 rfl ?_
                  refine bw_getA (a := a8) hN q1 e9 dX8_goBy_86 fl_8_15 rfl ?_
                  refine bv_iload_n dX8_goBy_89 1 rfl ?_
                  refine bv_iload dX8_goBy_90 4 rfl ?_
                  refine bw_iast hN r10 dX8_goBy_92 ?_
                  refine bv_iconst (v := 0) dX8_goBy_93 (by decide) ?_
                  obtain rfl := Option.some.inj h
                  exact bv_iret (x := 0) dX8_goBy_94 rfl ⟨rfl, rfl⟩
                · replace h := bu_f h cc
                  refine bv_iconst (v := 1) dX8_goBy_76 (by decide) ?_
                  obtain rfl := Option.some.inj h
                  exact bv_iret (x := 1) dX8_goBy_77 rfl ⟨rfl, rfl⟩
      · replace h := bu_t h cc
        refine bv_iconst (v := 1) dX8_goBy_37 (by decide) ?_
        refine bv_goto (tgt := 51) dX8_goBy_38 (by decide) ?_
        refine bv_iadd dX8_goBy_51 ?_
        refine bv_istore (ls1 := [(0, .ref x0), (1, .int x1), (2, .int x2), (3, .int ((M.1 a2 x1.toNatClampNeg) + (-1))), (4, .int ((M.1 a8 x1.toNatClampNeg) + 1))]) dX8_goBy_52 (by decide) rfl rfl ?_
        refine bv_iload_n dX8_goBy_54 3 rfl ?_
        refine bv_if_lt (tgt := 76) dX8_goBy_55 (by decide) (fun cc => ?_) (fun cc => ?_)
        · replace h := bu_t h cc
          refine bv_iconst (v := 1) dX8_goBy_76 (by decide) ?_
          obtain rfl := Option.some.inj h
          exact bv_iret (x := 1) dX8_goBy_77 rfl ⟨rfl, rfl⟩
        · replace h := bu_f h cc
          refine bv_iload_n dX8_goBy_58 3 rfl ?_
          refine bv_bipush (v := 30) dX8_goBy_59 (by decide) ?_
          refine bv_icmp_gt (tgt := 76) dX8_goBy_61 (by decide) (fun cc => ?_) (fun cc => ?_)
          · replace h := bu_t h cc
            refine bv_iconst (v := 1) dX8_goBy_76 (by decide) ?_
            obtain rfl := Option.some.inj h
            exact bv_iret (x := 1) dX8_goBy_77 rfl ⟨rfl, rfl⟩
          · replace h := bu_f h cc
            refine bv_iload dX8_goBy_64 4 rfl ?_
            refine bv_if_lt (tgt := 76) dX8_goBy_66 (by decide) (fun cc => ?_) (fun cc => ?_)
            · replace h := bu_t h cc
              refine bv_iconst (v := 1) dX8_goBy_76 (by decide) ?_
              obtain rfl := Option.some.inj h
              exact bv_iret (x := 1) dX8_goBy_77 rfl ⟨rfl, rfl⟩
            · replace h := bu_f h cc
              refine bv_iload dX8_goBy_69 4 rfl ?_
              refine bv_bipush (v := 30) dX8_goBy_71 (by decide) ?_
              refine bv_icmp_le (tgt := 78) dX8_goBy_73 (by decide) (fun cc => ?_) (fun cc => ?_)
              · replace h := bu_t h cc
                refine bv_aload_n dX8_goBy_78 0 rfl ?_
                refine bw_getA (a := a2) hN q1 e3 dX8_goBy_79 fl_8_9 rfl ?_
                refine bv_iload_n dX8_goBy_82 1 rfl ?_
                refine bv_iload_n dX8_goBy_83 3 rfl ?_
                refine bw_iast hN r4 dX8_goBy_84 ?_
                refine bv_aload_n dX8_goBy_85 0 rfl ?_
                refine bw_getA (a := a8) hN q1 e9 dX8_goBy_86 fl_8_15 rfl ?_
                refine bv_iload_n dX8_goBy_89 1 rfl ?_
                refine bv_iload dX8_goBy_90 4 rfl ?_
                refine bw_iast hN r10 dX8_goBy_92 ?_
                refine bv_iconst (v := 0) dX8_goBy_93 (by decide) ?_
                obtain rfl := Option.some.inj h
                exact bv_iret (x := 0) dX8_goBy_94 rfl ⟨rfl, rfl⟩
              · replace h := bu_f h cc
                refine bv_iconst (v := 1) dX8_goBy_76 (by decide) ?_
                obtain rfl := Option.some.inj h
                exact bv_iret (x := 1) dX8_goBy_77 rfl ⟨rfl, rfl⟩
  · replace h := bu_t h cc
    refine bv_iconst (v := 1) dX8_goBy_10 (by decide) ?_
    refine bv_goto (tgt := 24) dX8_goBy_11 (by decide) ?_
    refine bv_iadd dX8_goBy_24 ?_
    refine bv_istore_n (ls1 := [(0, .ref x0), (1, .int x1), (2, .int x2), (3, .int ((M.1 a2 x1.toNatClampNeg) + 1))]) dX8_goBy_25 (by decide) rfl rfl ?_
    refine bv_aload_n dX8_goBy_26 0 rfl ?_
    obtain ⟨a11, e12, h⟩ := bu_bd h
    refine bw_getA (a := a11) hN q1 e12 dX8_goBy_27 fl_8_15 rfl ?_
    refine bv_iload_n dX8_goBy_30 1 rfl ?_
    obtain ⟨r13, h⟩ := bu_ia h
    refine bw_iald hN r13 dX8_goBy_31 ?_
    refine bv_iload_n dX8_goBy_32 2 rfl ?_
    refine bv_iconst (v := 1) dX8_goBy_33 (by decide) ?_
    refine bv_icmp_ne (tgt := 41) dX8_goBy_34 (by decide) (fun cc => ?_) (fun cc => ?_)
    · replace h := bu_f h cc
      refine bv_iload_n dX8_goBy_41 2 rfl ?_
      refine bv_iconst (v := 3) dX8_goBy_42 (by decide) ?_
      refine bv_icmp_ne (tgt := 50) dX8_goBy_43 (by decide) (fun cc => ?_) (fun cc => ?_)
      · replace h := bu_f h cc
        refine bv_iconst (v := 0) dX8_goBy_50 (by decide) ?_
        refine bv_iadd dX8_goBy_51 ?_
        refine bv_istore (ls1 := [(0, .ref x0), (1, .int x1), (2, .int x2), (3, .int ((M.1 a2 x1.toNatClampNeg) + 1)), (4, .int ((M.1 a11 x1.toNatClampNeg) + 0))]) dX8_goBy_52 (by decide) rfl rfl ?_
        refine bv_iload_n dX8_goBy_54 3 rfl ?_
        refine bv_if_lt (tgt := 76) dX8_goBy_55 (by decide) (fun cc => ?_) (fun cc => ?_)
        · replace h := bu_t h cc
          refine bv_iconst (v := 1) dX8_goBy_76 (by decide) ?_
          obtain rfl := Option.some.inj h
          exact bv_iret (x := 1) dX8_goBy_77 rfl ⟨rfl, rfl⟩
        · replace h := bu_f h cc
          refine bv_iload_n dX8_goBy_58 3 rfl ?_
          refine bv_bipush (v := 30) dX8_goBy_59 (by decide) ?_
          refine bv_icmp_gt (tgt := 76) dX8_goBy_61 (by decide) (fun cc => ?_) (fun cc => ?_)
          · replace h := bu_t h cc
            refine bv_iconst (v := 1) dX8_goBy_76 (by decide) ?_
            obtain rfl := Option.some.inj h
            exact bv_iret (x := 1) dX8_goBy_77 rfl ⟨rfl, rfl⟩
          · replace h := bu_f h cc
            refine bv_iload dX8_goBy_64 4 rfl ?_
            refine bv_if_lt (tgt := 76) dX8_goBy_66 (by decide) (fun cc => ?_) (fun cc => ?_)
            · replace h := bu_t h cc
              refine bv_iconst (v := 1) dX8_goBy_76 (by decide) ?_
              obtain rfl := Option.some.inj h
              exact bv_iret (x := 1) dX8_goBy_77 rfl ⟨rfl, rfl⟩
            · replace h := bu_f h cc
              refine bv_iload dX8_goBy_69 4 rfl ?_
              refine bv_bipush (v := 30) dX8_goBy_71 (by decide) ?_
              refine bv_icmp_le (tgt := 78) dX8_goBy_73 (by decide) (fun cc => ?_) (fun cc => ?_)
              · replace h := bu_t h cc
                refine bv_aload_n dX8_goBy_78 0 rfl ?_
                refine bw_getA (a := a2) hN q1 e3 dX8_goBy_79 fl_8_9 rfl ?_
                refine bv_iload_n dX8_goBy_82 1 rfl ?_
                refine bv_iload_n dX8_goBy_83 3 rfl ?_
                refine bw_iast hN r4 dX8_goBy_84 ?_
                refine bv_aload_n dX8_goBy_85 0 rfl ?_
                refine bw_getA (a := a11) hN q1 e12 dX8_goBy_86 fl_8_15 rfl ?_
                refine bv_iload_n dX8_goBy_89 1 rfl ?_
                refine bv_iload dX8_goBy_90 4 rfl ?_
                refine bw_iast hN r13 dX8_goBy_92 ?_
                refine bv_iconst (v := 0) dX8_goBy_93 (by decide) ?_
                obtain rfl := Option.some.inj h
                exact bv_iret (x := 0) dX8_goBy_94 rfl ⟨rfl, rfl⟩
              · replace h := bu_f h cc
                refine bv_iconst (v := 1) dX8_goBy_76 (by decide) ?_
                obtain rfl := Option.some.inj h
                exact bv_iret (x := 1) dX8_goBy_77 rfl ⟨rfl, rfl⟩
      · replace h := bu_t h cc
        refine bv_iconst (v := (-1)) dX8_goBy_46 (by decide) ?_
        refine bv_goto (tgt := 51) dX8_goBy_47 (by decide) ?_
        refine bv_iadd dX8_goBy_51 ?_
        refine bv_istore (ls1 := [(0, .ref x0), (1, .int x1), (2, .int x2), (3, .int ((M.1 a2 x1.toNatClampNeg) + 1)), (4, .int ((M.1 a11 x1.toNatClampNeg) + (-1)))]) dX8_goBy_52 (by decide) rfl rfl ?_
        refine bv_iload_n dX8_goBy_54 3 rfl ?_
        refine bv_if_lt (tgt := 76) dX8_goBy_55 (by decide) (fun cc => ?_) (fun cc => ?_)
        · replace h := bu_t h cc
          refine bv_iconst (v := 1) dX8_goBy_76 (by decide) ?_
          obtain rfl := Option.some.inj h
          exact bv_iret (x := 1) dX8_goBy_77 rfl ⟨rfl, rfl⟩
        · replace h := bu_f h cc
          refine bv_iload_n dX8_goBy_58 3 rfl ?_
          refine bv_bipush (v := 30) dX8_goBy_59 (by decide) ?_
          refine bv_icmp_gt (tgt := 76) dX8_goBy_61 (by decide) (fun cc => ?_) (fun cc => ?_)
          · replace h := bu_t h cc
            refine bv_iconst (v := 1) dX8_goBy_76 (by decide) ?_
            obtain rfl := Option.some.inj h
            exact bv_iret (x := 1) dX8_goBy_77 rfl ⟨rfl, rfl⟩
          · replace h := bu_f h cc
            refine bv_iload dX8_goBy_64 4 rfl ?_
            refine bv_if_lt (tgt := 76) dX8_goBy_66 (by decide) (fun cc => ?_) (fun cc => ?_)
            · replace h := bu_t h cc
              refine bv_iconst (v := 1) dX8_goBy_76 (by decide) ?_
              obtain rfl := Option.some.inj h
              exact bv_iret (x := 1) dX8_goBy_77 rfl ⟨rfl, rfl⟩
            · replace h := bu_f h cc
              refine bv_iload dX8_goBy_69 4 rfl ?_
              refine bv_bipush (v := 30) dX8_goBy_71 (by decide) ?_
              refine bv_icmp_le (tgt := 78) dX8_goBy_73 (by decide) (fun cc => ?_) (fun cc => ?_)
              · replace h := bu_t h cc
                refine bv_aload_n dX8_goBy_78 0 rfl ?_
                refine bw_getA (a := a2) hN q1 e3 dX8_goBy_79 fl_8_9 rfl ?_
                refine bv_iload_n dX8_goBy_82 1 rfl ?_
                refine bv_iload_n dX8_goBy_83 3 rfl ?_
                refine bw_iast hN r4 dX8_goBy_84 ?_
                refine bv_aload_n dX8_goBy_85 0 rfl ?_
                refine bw_getA (a := a11) hN q1 e12 dX8_goBy_86 fl_8_15 rfl ?_
                refine bv_iload_n dX8_goBy_89 1 rfl ?_
                refine bv_iload dX8_goBy_90 4 rfl ?_
                refine bw_iast hN r13 dX8_goBy_92 ?_
                refine bv_iconst (v := 0) dX8_goBy_93 (by decide) ?_
                obtain rfl := Option.some.inj h
                exact bv_iret (x := 0) dX8_goBy_94 rfl ⟨rfl, rfl⟩
              · replace h := bu_f h cc
                refine bv_iconst (v := 1) dX8_goBy_76 (by decide) ?_
                obtain rfl := Option.some.inj h
                exact bv_iret (x := 1) dX8_goBy_77 rfl ⟨rfl, rfl⟩
    · replace h := bu_t h cc
      refine bv_iconst (v := 1) dX8_goBy_37 (by decide) ?_
      refine bv_goto (tgt := 51) dX8_goBy_38 (by decide) ?_
      refine bv_iadd dX8_goBy_51 ?_
      refine bv_istore (ls1 := [(0, .ref x0), (1, .int x1), (2, .int x2), (3, .int ((M.1 a2 x1.toNatClampNeg) + 1)), (4, .int ((M.1 a11 x1.toNatClampNeg) + 1))]) dX8_goBy_52 (by decide) rfl rfl ?_
      refine bv_iload_n dX8_goBy_54 3 rfl ?_
      refine bv_if_lt (tgt := 76) dX8_goBy_55 (by decide) (fun cc => ?_) (fun cc => ?_)
      · replace h := bu_t h cc
        refine bv_iconst (v := 1) dX8_goBy_76 (by decide) ?_
        obtain rfl := Option.some.inj h
        exact bv_iret (x := 1) dX8_goBy_77 rfl ⟨rfl, rfl⟩
      · replace h := bu_f h cc
        refine bv_iload_n dX8_goBy_58 3 rfl ?_
        refine bv_bipush (v := 30) dX8_goBy_59 (by decide) ?_
        refine bv_icmp_gt (tgt := 76) dX8_goBy_61 (by decide) (fun cc => ?_) (fun cc => ?_)
        · replace h := bu_t h cc
          refine bv_iconst (v := 1) dX8_goBy_76 (by decide) ?_
          obtain rfl := Option.some.inj h
          exact bv_iret (x := 1) dX8_goBy_77 rfl ⟨rfl, rfl⟩
        · replace h := bu_f h cc
          refine bv_iload dX8_goBy_64 4 rfl ?_
          refine bv_if_lt (tgt := 76) dX8_goBy_66 (by decide) (fun cc => ?_) (fun cc => ?_)
          · replace h := bu_t h cc
            refine bv_iconst (v := 1) dX8_goBy_76 (by decide) ?_
            obtain rfl := Option.some.inj h
            exact bv_iret (x := 1) dX8_goBy_77 rfl ⟨rfl, rfl⟩
          · replace h := bu_f h cc
            refine bv_iload dX8_goBy_69 4 rfl ?_
            refine bv_bipush (v := 30) dX8_goBy_71 (by decide) ?_
            refine bv_icmp_le (tgt := 78) dX8_goBy_73 (by decide) (fun cc => ?_) (fun cc => ?_)
            · replace h := bu_t h cc
              refine bv_aload_n dX8_goBy_78 0 rfl ?_
              refine bw_getA (a := a2) hN q1 e3 dX8_goBy_79 fl_8_9 rfl ?_
              refine bv_iload_n dX8_goBy_82 1 rfl ?_
              refine bv_iload_n dX8_goBy_83 3 rfl ?_
              refine bw_iast hN r4 dX8_goBy_84 ?_
              refine bv_aload_n dX8_goBy_85 0 rfl ?_
              refine bw_getA (a := a11) hN q1 e12 dX8_goBy_86 fl_8_15 rfl ?_
              refine bv_iload_n dX8_goBy_89 1 rfl ?_
              refine bv_iload dX8_goBy_90 4 rfl ?_
              refine bw_iast hN r13 dX8_goBy_92 ?_
              refine bv_iconst (v := 0) dX8_goBy_93 (by decide) ?_
              obtain rfl := Option.some.inj h
              exact bv_iret (x := 0) dX8_goBy_94 rfl ⟨rfl, rfl⟩
            · replace h := bu_f h cc
              refine bv_iconst (v := 1) dX8_goBy_76 (by decide) ?_
              obtain rfl := Option.some.inj h
              exact bv_iret (x := 1) dX8_goBy_77 rfl ⟨rfl, rfl⟩
def f_X8_passHours_l49 (x0 : Nat) (x2 : Int32) (x3 : Int32) (x4 : Int32) : Nat → Int32 → bm_M → Option (bm_M)
  | 0, _, _ => none
  | k + 1, x5, M => ((M.2.2 x0 0).bind fun a1 => (if bm_io a1 0 then (if (M.1 a1 10) ≤ x5 then some M else (if (f_X11_bit x4 x5) = 1 then ((M.2.2 x0 6).bind fun a4 => (if bm_ia a4 0 x5 = true then (if (M.1 a4 x5.toNatClampNeg) = (-1) then f_X8_passHours_l49 x0 x2 x3 x4 k (x5 + 1) M else ((f_X8_giveBy M x0 x5 (M.1 a4 x5.toNatClampNeg)).bind fun v7 => f_X8_passHours_l49 x0 x2 x3 x4 k (x5 + 1) v7.2)) else none)) else f_X8_passHours_l49 x0 x2 x3 x4 k (x5 + 1) M)) else none))
set_option maxHeartbeats 4000000 in
set_option maxRecDepth 100000 in
theorem v_X8_passHours_l49 {L : bm_L} {d n : Nat} {Q : Option Value → bm_M → Prop} {x0 : Nat} {x2 : Int32} {x3 : Int32} {x4 : Int32} (hN : 181 ≤ n) (q_0 : bm_OK x0 8) : ∀ (k : Nat) (x5 : Int32) (M : bm_M) (r : bm_M), f_X8_passHours_l49 x0 x2 x3 x4 k x5 M = some r → (∀ yy, yy = r → bm_V L m_X8_passHours (d + 4) n n n 103 [(0, .ref x0), (2, .int x2), (3, .int x3)] [] yy Q) → bm_V L m_X8_passHours (d + 4) n n n 49 [(0, .ref x0), (2, .int x2), (3, .int x3), (4, .int x4), (5, .int x5)] [] M Q := by
  intro k
  induction k with
  | zero => intro x5 M r h; cases (show (none : Option (bm_M)) = some r from h)
  | succ k ih =>
    intro x5 M r h K0
    unfold f_X8_passHours_l49 at h
    refine bv_iload dX8_passHours_49 4 rfl ?_
    refine bv_aload_n dX8_passHours_51 0 rfl ?_
    obtain ⟨a1, e2, h⟩ := bu_bd h
    refine bw_getA (a := a1) hN q_0 e2 dX8_passHours_52 fl_8_30 rfl ?_
    obtain ⟨q3, h⟩ := bu_io h
    refine bw_getI hN q3 dX8_passHours_55 fl_8_34 rfl ?_
    refine bv_icmp_ge (tgt := 103) dX8_passHours_58 (by decide) (fun cc => ?_) (fun cc => ?_)
    · replace h := bu_t h cc
      refine bw_ls (ls1 := [(0, .ref x0), (2, .int x2), (3, .int x3)]) [0, 1, 2] rfl ?_
      obtain rfl := Option.some.inj h
      exact K0 _ rfl
    · replace h := bu_f h cc
      refine bv_iload dX8_passHours_61 3 rfl ?_
      refine bv_iload dX8_passHours_63 4 rfl ?_
      refine bw_callSN (As := [.int x4, .int x5]) dX8_passHours_65 mc_8_70 (c_X11_bit (d := d + 3) hN rfl) rfl rfl (by decide) ?_
      refine bv_iconst (v := 1) dX8_passHours_68 (by decide) ?_
      refine bv_icmp_ne (tgt := 97) dX8_passHours_69 (by decide) (fun cc => ?_) (fun cc => ?_)
      · replace h := bu_f h cc
        refine bv_iinc (j := 4) (v := (x5 + 1)) (ls1 := [(0, .ref x0), (2, .int x2), (3, .int x3), (4, .int x4), (5, .int (x5 + 1))]) dX8_passHours_97 rfl rfl (by decide) rfl rfl ?_
        refine bv_goto (tgt := 49) dX8_passHours_100 (by decide) ?_
        exact ih _ _ _ h K0
      · replace h := bu_t h cc
        refine bv_aload_n dX8_passHours_72 0 rfl ?_
        obtain ⟨a4, e5, h⟩ := bu_bd h
        refine bw_getA (a := a4) hN q_0 e5 dX8_passHours_73 fl_8_27 rfl ?_
        refine bv_iload dX8_passHours_76 4 rfl ?_
        obtain ⟨r6, h⟩ := bu_ia h
        refine bw_iald hN r6 dX8_passHours_78 ?_
        refine bv_iconst (v := (-1)) dX8_passHours_79 (by decide) ?_
        refine bv_icmp_eq (tgt := 97) dX8_passHours_80 (by decide) (fun cc => ?_) (fun cc => ?_)
        · replace h := bu_t h cc
          refine bv_iinc (j := 4) (v := (x5 + 1)) (ls1 := [(0, .ref x0), (2, .int x2), (3, .int x3), (4, .int x4), (5, .int (x5 + 1))]) dX8_passHours_97 rfl rfl (by decide) rfl rfl ?_
          refine bv_goto (tgt := 49) dX8_passHours_100 (by decide) ?_
          exact ih _ _ _ h K0
        · replace h := bu_f h cc
          refine bv_aload_n dX8_passHours_83 0 rfl ?_
          refine bv_iload dX8_passHours_84 4 rfl ?_
          refine bv_aload_n dX8_passHours_86 0 rfl ?_
          refine bw_getA (a := a4) hN q_0 e5 dX8_passHours_87 fl_8_27 rfl ?_
          refine bv_iload dX8_passHours_90 4 rfl ?_
          refine bw_iald hN r6 dX8_passHours_92 ?_
          obtain ⟨v7, p8, h⟩ := bu_bd h
          refine bw_callV (As := [.int x5, .int (M.1 a4 x5.toNatClampNeg)]) hN q_0 ⟨_, _, rfl⟩ dX8_passHours_93 mc_8_115 (c_X8_giveBy (d := d + 0) hN p8) rfl rfl (by decide) ?_
          refine bv_pop dX8_passHours_96 rfl ?_
          refine bv_iinc (j := 4) (v := (x5 + 1)) (ls1 := [(0, .ref x0), (2, .int x2), (3, .int x3), (4, .int x4), (5, .int (x5 + 1))]) dX8_passHours_97 rfl rfl (by decide) rfl rfl ?_
          refine bv_goto (tgt := 49) dX8_passHours_100 (by decide) ?_
          exact ih _ _ _ h K0
def f_X8_passHours_l15 (x0 : Nat) (x2 : Int32) : Nat → Int32 → bm_M → Option (bm_M)
  | 0, _, _ => none
  | k + 1, x3, M => (if x2 ≤ x3 then some M else ((M.2.2 x0 4).bind fun a1 => ((M.2.2 x0 6).bind fun a3 => (if bm_ic a1 0 0 8 = true then (if bm_ic a3 0 0 8 = true then ((f_X8_passHours_l49 x0 x2 x3 (M.1 x0 9) 1000 0 (bm_sI (bm_cI M a1 a3 (0 : Int32).toNatClampNeg (0 : Int32).toNatClampNeg (8 : Int32).toNatClampNeg) x0 9 0)).bind fun y9 => ((y9.2.2 x0 0).bind fun a10 => (if bm_io a10 0 then (if ((bm_sI y9 x0 10 ((y9.1 x0 10) + 1)).1 a10 16) ≤ 0 then f_X8_passHours_l15 x0 x2 k (x3 + 1) (bm_sI y9 x0 10 ((y9.1 x0 10) + 1)) else (if ¬ ((bm_sI y9 x0 10 ((y9.1 x0 10) + 1)).1 a10 16) = 0 then (if (bm_rem ((bm_sI y9 x0 10 ((y9.1 x0 10) + 1)).1 x0 10) ((bm_sI y9 x0 10 ((y9.1 x0 10) + 1)).1 a10 16)) = 0 then f_X8_passHours_l15 x0 x2 k (x3 + 1) (bm_sI (bm_sI y9 x0 10 ((y9.1 x0 10) + 1)) x0 8 0) else f_X8_passHours_l15 x0 x2 k (x3 + 1) (bm_sI y9 x0 10 ((y9.1 x0 10) + 1))) else none)) else none))) else none) else none))))
set_option maxHeartbeats 4000000 in
set_option maxRecDepth 100000 in
theorem v_X8_passHours_l15 {L : bm_L} {d n : Nat} {Q : Option Value → bm_M → Prop} {x0 : Nat} {x2 : Int32} (hN : 181 ≤ n) (q_0 : bm_OK x0 8) : ∀ (k : Nat) (x3 : Int32) (M : bm_M) (r : bm_M), f_X8_passHours_l15 x0 x2 k x3 M = some r → (∀ yy, yy = r → bm_V L m_X8_passHours (d + 4) n n n 149 [(2, .int x2)] [] yy Q) → bm_V L m_X8_passHours (d + 4) n n n 15 [(0, .ref x0), (2, .int x2), (3, .int x3)] [] M Q := by
  intro k
  induction k with
  | zero => intro x3 M r h; cases (show (none : Option (bm_M)) = some r from h)
  | succ k ih =>
    intro x3 M r h K0
    unfold f_X8_passHours_l15 at h
    refine bv_iload_n dX8_passHours_15 2 rfl ?_
    refine bv_iload_n dX8_passHours_16 1 rfl ?_
    refine bv_icmp_ge (tgt := 149) dX8_passHours_17 (by decide) (fun cc => ?_) (fun cc => ?_)
    · replace h := bu_t h cc
      refine bw_ls (ls1 := [(2, .int x2)]) [1] rfl ?_
      obtain rfl := Option.some.inj h
      exact K0 _ rfl
    · replace h := bu_f h cc
      refine bv_aload_n dX8_passHours_20 0 rfl ?_
      refine bw_getI hN q_0 dX8_passHours_21 fl_8_52 rfl ?_
      refine bv_istore (ls1 := [(0, .ref x0), (2, .int x2), (3, .int x3), (4, .int (M.1 x0 9))]) dX8_passHours_24 (by decide) rfl rfl ?_
      refine bv_aload_n dX8_passHours_26 0 rfl ?_
      obtain ⟨a1, e2, h⟩ := bu_bd h
      refine bw_getA (a := a1) hN q_0 e2 dX8_passHours_27 fl_8_21 rfl ?_
      refine bv_iconst (v := 0) dX8_passHours_30 (by decide) ?_
      refine bv_aload_n dX8_passHours_31 0 rfl ?_
      obtain ⟨a3, e4, h⟩ := bu_bd h
      refine bw_getA (a := a3) hN q_0 e4 dX8_passHours_32 fl_8_27 rfl ?_
      refine bv_iconst (v := 0) dX8_passHours_35 (by decide) ?_
      refine bv_bipush (v := 8) dX8_passHours_36 (by decide) ?_
      obtain ⟨r5, h⟩ := bu_ic h
      obtain ⟨r6, h⟩ := bu_ic h
      refine bw_copyI hN r5 r6 dX8_passHours_38 mw_8_61 (by decide) ?_
      refine bv_aload_n dX8_passHours_41 0 rfl ?_
      refine bv_iconst (v := 0) dX8_passHours_42 (by decide) ?_
      refine bw_putI hN q_0 dX8_passHours_43 fl_8_52 rfl ?_
      refine bv_iconst (v := 0) dX8_passHours_46 (by decide) ?_
      refine bv_istore (ls1 := [(0, .ref x0), (2, .int x2), (3, .int x3), (4, .int (M.1 x0 9)), (5, .int 0)]) dX8_passHours_47 (by decide) rfl rfl ?_
      obtain ⟨r7, p8, h⟩ := bu_bd h
      refine v_X8_passHours_l49 hN q_0 1000 _ _ _ p8 (fun y9 hy => ?_)
      · subst hy
        refine bv_aload_n dX8_passHours_103 0 rfl ?_
        refine bv_dup dX8_passHours_104 rfl ?_
        refine bw_getI hN q_0 dX8_passHours_105 fl_8_55 rfl ?_
        refine bv_iconst (v := 1) dX8_passHours_108 (by decide) ?_
        refine bv_iadd dX8_passHours_109 ?_
        refine bw_putI hN q_0 dX8_passHours_110 fl_8_55 rfl ?_
        refine bv_aload_n dX8_passHours_113 0 rfl ?_
        obtain ⟨a10, e11, h⟩ := bu_bd h
        refine bw_getA (a := a10) hN q_0 e11 dX8_passHours_114 fl_8_30 rfl ?_
        obtain ⟨q12, h⟩ := bu_io h
        refine bw_getI hN q12 dX8_passHours_117 fl_8_152 rfl ?_
        refine bv_if_le (tgt := 143) dX8_passHours_120 (by decide) (fun cc => ?_) (fun cc => ?_)
        · replace h := bu_t h cc
          refine bv_iinc (j := 2) (v := (x3 + 1)) (ls1 := [(0, .ref x0), (2, .int x2), (3, .int (x3 + 1))]) dX8_passHours_143 rfl rfl (by decide) rfl rfl ?_
          refine bv_goto (tgt := 15) dX8_passHours_146 (by decide) ?_
          exact ih _ _ _ h K0
        · replace h := bu_f h cc
          refine bv_aload_n dX8_passHours_123 0 rfl ?_
          refine bw_getI hN q_0 dX8_passHours_124 fl_8_55 rfl ?_
          refine bv_aload_n dX8_passHours_127 0 rfl ?_
          refine bw_getA (a := a10) hN q_0 e11 dX8_passHours_128 fl_8_30 rfl ?_
          refine bw_getI hN q12 dX8_passHours_131 fl_8_152 rfl ?_
          obtain ⟨z13, h⟩ := bu_gp h
          refine bv_irem dX8_passHours_134 z13 ?_
          refine bv_if_ne (tgt := 143) dX8_passHours_135 (by decide) (fun cc => ?_) (fun cc => ?_)
          · replace h := bu_f h cc
            refine bv_iinc (j := 2) (v := (x3 + 1)) (ls1 := [(0, .ref x0), (2, .int x2), (3, .int (x3 + 1))]) dX8_passHours_143 rfl rfl (by decide) rfl rfl ?_
            refine bv_goto (tgt := 15) dX8_passHours_146 (by decide) ?_
            exact ih _ _ _ h K0
          · replace h := bu_t h cc
            refine bv_aload_n dX8_passHours_138 0 rfl ?_
            refine bv_iconst (v := 0) dX8_passHours_139 (by decide) ?_
            refine bw_putI hN q_0 dX8_passHours_140 fl_8_49 rfl ?_
            refine bv_iinc (j := 2) (v := (x3 + 1)) (ls1 := [(0, .ref x0), (2, .int x2), (3, .int (x3 + 1))]) dX8_passHours_143 rfl rfl (by decide) rfl rfl ?_
            refine bv_goto (tgt := 15) dX8_passHours_146 (by decide) ?_
            exact ih _ _ _ h K0
def f_X8_passHours (M : bm_M) (x0 : Nat) (x1 : Int32) : Option (Int32 × bm_M) := (if bm_io x0 8 then ((f_X8_passHours_l15 x0 (bm_min x1 (400 - (M.1 x0 10))) 1000 0 M).bind fun y4 => some ((bm_min x1 (400 - (M.1 x0 10))), y4)) else none)
set_option maxHeartbeats 4000000 in
set_option maxRecDepth 100000 in
theorem c_X8_passHours {L : bm_L} {d n : Nat} {M : bm_M} {x0 : Nat} {x1 : Int32} {v : Int32 × bm_M} (hN : 181 ≤ n) (h : f_X8_passHours M x0 x1 = some v) : bm_C L m_X8_passHours (d + 4) n n [.ref x0, .int x1] M (fun r M' => r = some (.int v.1) ∧ M' = v.2) := by
  refine bm_C.ofV (by decide) (Nat.le_of_ble_eq_true rfl) ?_
  show bm_V L m_X8_passHours (d + 4) n n n 0 [(0, .ref x0), (1, .int x1)] [] M _
  unfold f_X8_passHours at h
  refine bv_iload_n dX8_passHours_0 1 rfl ?_
  refine bv_sipush (v := 400) dX8_passHours_1 (by decide) ?_
  refine bv_aload_n dX8_passHours_4 0 rfl ?_
  obtain ⟨q1, h⟩ := bu_io h
  refine bw_getI hN q1 dX8_passHours_5 fl_8_55 rfl ?_
  refine bv_isub dX8_passHours_8 ?_
  refine bv_mmin dX8_passHours_9 mw_8_74 (by decide) (Nat.le_refl n) ?_
  refine bv_istore_n (ls1 := [(0, .ref x0), (1, .int x1), (2, .int (bm_min x1 (400 - (M.1 x0 10))))]) dX8_passHours_12 (by decide) rfl rfl ?_
  refine bv_iconst (v := 0) dX8_passHours_13 (by decide) ?_
  refine bv_istore_n (ls1 := [(0, .ref x0), (1, .int x1), (2, .int (bm_min x1 (400 - (M.1 x0 10)))), (3, .int 0)]) dX8_passHours_14 (by decide) rfl rfl ?_
  refine bw_ls (ls1 := [(0, .ref x0), (2, .int (bm_min x1 (400 - (M.1 x0 10)))), (3, .int 0)]) [0, 2, 3] rfl ?_
  obtain ⟨r2, p3, h⟩ := bu_bd h
  refine v_X8_passHours_l15 hN q1 1000 _ _ _ p3 (fun y4 hy => ?_)
  · subst hy
    refine bv_iload_n dX8_passHours_149 0 rfl ?_
    obtain rfl := Option.some.inj h
    exact bv_iret (x := (bm_min x1 (400 - (M.1 x0 10)))) dX8_passHours_150 rfl ⟨rfl, rfl⟩
def f_X8_sleepBy (M : bm_M) (x0 : Nat) (x1 : Int32) : Option (Int32 × bm_M) := (if bm_io x0 8 then some ((f_X11_bit (M.1 x0 7) x1), (bm_sI M x0 7 ((M.1 x0 7) ||| (bm_ishl 1 x1)))) else none)
set_option maxHeartbeats 4000000 in
set_option maxRecDepth 100000 in
theorem c_X8_sleepBy {L : bm_L} {d n : Nat} {M : bm_M} {x0 : Nat} {x1 : Int32} {v : Int32 × bm_M} (hN : 181 ≤ n) (h : f_X8_sleepBy M x0 x1 = some v) : bm_C L m_X8_sleepBy (d + 1) n n [.ref x0, .int x1] M (fun r M' => r = some (.int v.1) ∧ M' = v.2) := by
  refine bm_C.ofV (by decide) (Nat.le_of_ble_eq_true rfl) ?_
  show bm_V L m_X8_sleepBy (d + 1) n n n 0 [(0, .ref x0), (1, .int x1)] [] M _
  unfold f_X8_sleepBy at h
  refine bv_aload_n dX8_sleepBy_0 0 rfl ?_
  obtain ⟨q1, h⟩ := bu_io h
  refine bw_getI hN q1 dX8_sleepBy_1 fl_8_46 rfl ?_
  refine bv_iload_n dX8_sleepBy_4 1 rfl ?_
  refine bw_callSN (As := [.int (M.1 x0 7), .int x1]) dX8_sleepBy_5 mc_8_70 (c_X11_bit (d := d + 0) hN rfl) rfl rfl (by decide) ?_
  refine bv_istore_n (ls1 := [(0, .ref x0), (1, .int x1), (2, .int (f_X11_bit (M.1 x0 7) x1))]) dX8_sleepBy_8 (by decide) rfl rfl ?_
  refine bv_aload_n dX8_sleepBy_9 0 rfl ?_
  refine bv_dup dX8_sleepBy_10 rfl ?_
  refine bw_getI hN q1 dX8_sleepBy_11 fl_8_46 rfl ?_
  refine bv_iconst (v := 1) dX8_sleepBy_14 (by decide) ?_
  refine bv_iload_n dX8_sleepBy_15 1 rfl ?_
  refine bv_ishl dX8_sleepBy_16 ?_
  refine bv_ior dX8_sleepBy_17 ?_
  refine bw_putI hN q1 dX8_sleepBy_18 fl_8_46 rfl ?_
  refine bv_iload_n dX8_sleepBy_21 2 rfl ?_
  obtain rfl := Option.some.inj h
  exact bv_iret (x := (f_X11_bit (M.1 x0 7) x1)) dX8_sleepBy_22 rfl ⟨rfl, rfl⟩
def f_X8_sootBy (M : bm_M) (x0 : Nat) (x1 : Int32) : Option (Int32 × bm_M) := (if bm_io x0 8 then some ((f_X11_bit (M.1 x0 8) x1), (bm_sI M x0 8 ((M.1 x0 8) ||| (bm_ishl 1 x1)))) else none)
set_option maxHeartbeats 4000000 in
set_option maxRecDepth 100000 in
theorem c_X8_sootBy {L : bm_L} {d n : Nat} {M : bm_M} {x0 : Nat} {x1 : Int32} {v : Int32 × bm_M} (hN : 181 ≤ n) (h : f_X8_sootBy M x0 x1 = some v) : bm_C L m_X8_sootBy (d + 1) n n [.ref x0, .int x1] M (fun r M' => r = some (.int v.1) ∧ M' = v.2) := by
  refine bm_C.ofV (by decide) (Nat.le_of_ble_eq_true rfl) ?_
  show bm_V L m_X8_sootBy (d + 1) n n n 0 [(0, .ref x0), (1, .int x1)] [] M _
  unfold f_X8_sootBy at h
  refine bv_aload_n dX8_sootBy_0 0 rfl ?_
  obtain ⟨q1, h⟩ := bu_io h
  refine bw_getI hN q1 dX8_sootBy_1 fl_8_49 rfl ?_
  refine bv_iload_n dX8_sootBy_4 1 rfl ?_
  refine bw_callSN (As := [.int (M.1 x0 8), .int x1]) dX8_sootBy_5 mc_8_70 (c_X11_bit (d := d + 0) hN rfl) rfl rfl (by decide) ?_
  refine bv_istore_n (ls1 := [(0, .ref x0), (1, .int x1), (2, .int (f_X11_bit (M.1 x0 8) x1))]) dX8_sootBy_8 (by decide) rfl rfl ?_
  refine bv_aload_n dX8_sootBy_9 0 rfl ?_
  refine bv_dup dX8_sootBy_10 rfl ?_
  refine bw_getI hN q1 dX8_sootBy_11 fl_8_49 rfl ?_
  refine bv_iconst (v := 1) dX8_sootBy_14 (by decide) ?_
  refine bv_iload_n dX8_sootBy_15 1 rfl ?_
  refine bv_ishl dX8_sootBy_16 ?_
  refine bv_ior dX8_sootBy_17 ?_
  refine bw_putI hN q1 dX8_sootBy_18 fl_8_49 rfl ?_
  refine bv_iload_n dX8_sootBy_21 2 rfl ?_
  obtain rfl := Option.some.inj h
  exact bv_iret (x := (f_X11_bit (M.1 x0 8) x1)) dX8_sootBy_22 rfl ⟨rfl, rfl⟩
def f_X8_wakeBy (M : bm_M) (x0 : Nat) (x1 : Int32) : Option (Int32 × bm_M) := (if bm_io x0 8 then some ((1 - (f_X11_bit (M.1 x0 7) x1)), (bm_sI M x0 7 ((M.1 x0 7) &&& ((bm_ishl 1 x1) ^^^ (-1))))) else none)
set_option maxHeartbeats 4000000 in
set_option maxRecDepth 100000 in
theorem c_X8_wakeBy {L : bm_L} {d n : Nat} {M : bm_M} {x0 : Nat} {x1 : Int32} {v : Int32 × bm_M} (hN : 181 ≤ n) (h : f_X8_wakeBy M x0 x1 = some v) : bm_C L m_X8_wakeBy (d + 1) n n [.ref x0, .int x1] M (fun r M' => r = some (.int v.1) ∧ M' = v.2) := by
  refine bm_C.ofV (by decide) (Nat.le_of_ble_eq_true rfl) ?_
  show bm_V L m_X8_wakeBy (d + 1) n n n 0 [(0, .ref x0), (1, .int x1)] [] M _
  unfold f_X8_wakeBy at h
  refine bv_iconst (v := 1) dX8_wakeBy_0 (by decide) ?_
  refine bv_aload_n dX8_wakeBy_1 0 rfl ?_
  obtain ⟨q1, h⟩ := bu_io h
  refine bw_getI hN q1 dX8_wakeBy_2 fl_8_46 rfl ?_
  refine bv_iload_n dX8_wakeBy_5 1 rfl ?_
  refine bw_callSN (As := [.int (M.1 x0 7), .int x1]) dX8_wakeBy_6 mc_8_70 (c_X11_bit (d := d + 0) hN rfl) rfl rfl (Nat.le_of_ble_eq_true rfl) ?_
  refine bv_isub dX8_wakeBy_9 ?_
  refine bv_istore_n (ls1 := [(0, .ref x0), (1, .int x1), (2, .int (1 - (f_X11_bit (M.1 x0 7) x1)))]) dX8_wakeBy_10 (by decide) rfl rfl ?_
  refine bv_aload_n dX8_wakeBy_11 0 rfl ?_
  refine bv_dup dX8_wakeBy_12 rfl ?_
  refine bw_getI hN q1 dX8_wakeBy_13 fl_8_46 rfl ?_
  refine bv_iconst (v := 1) dX8_wakeBy_16 (by decide) ?_
  refine bv_iload_n dX8_wakeBy_17 1 rfl ?_
  refine bv_ishl dX8_wakeBy_18 ?_
  refine bv_iconst (v := (-1)) dX8_wakeBy_19 (by decide) ?_
  refine bv_ixor dX8_wakeBy_20 ?_
  refine bv_iand dX8_wakeBy_21 ?_
  refine bw_putI hN q1 dX8_wakeBy_22 fl_8_46 rfl ?_
  refine bv_iload_n dX8_wakeBy_25 2 rfl ?_
  obtain rfl := Option.some.inj h
  exact bv_iret (x := (1 - (f_X11_bit (M.1 x0 7) x1))) dX8_wakeBy_26 rfl ⟨rfl, rfl⟩
def f_X8_live (M : bm_M) (x0 : Nat) (x1 : Int32) (x2 : Int32) (x3 : Int32) : Option (Int32 × bm_M) := (if x1 = 0 then (if bm_io x0 8 then ((f_X8_liftBy M x0 x2 x3).bind fun v3 => some (v3.1, v3.2)) else none) else (if x1 = 1 then (if bm_io x0 8 then ((f_X8_giveBy M x0 x2 x3).bind fun v7 => some (v7.1, v7.2)) else none) else (if x1 = 2 then (if bm_io x0 8 then ((f_X8_sleepBy M x0 x2).bind fun v11 => some (v11.1, v11.2)) else none) else (if x1 = 3 then (if bm_io x0 8 then ((f_X8_wakeBy M x0 x2).bind fun v15 => some (v15.1, v15.2)) else none) else (if x1 = 4 then (if bm_io x0 8 then ((f_X8_sootBy M x0 x2).bind fun v19 => some (v19.1, v19.2)) else none) else (if x1 = 5 then (if bm_io x0 8 then ((f_X8_goBy M x0 x2 x3).bind fun v23 => some (v23.1, v23.2)) else none) else (if bm_io x0 8 then (if x3 ≤ (400 - (M.1 x0 10)) then ((f_X8_passHours M x0 x3).bind fun v26 => some (0, v26.2)) else some (1, M)) else none)))))))
set_option maxHeartbeats 4000000 in
set_option maxRecDepth 100000 in
theorem c_X8_live {L : bm_L} {d n : Nat} {M : bm_M} {x0 : Nat} {x1 : Int32} {x2 : Int32} {x3 : Int32} {v : Int32 × bm_M} (hN : 181 ≤ n) (h : f_X8_live M x0 x1 x2 x3 = some v) : bm_C L m_X8_live (d + 5) n n [.ref x0, .int x1, .int x2, .int x3] M (fun r M' => r = some (.int v.1) ∧ M' = v.2) := by
  refine bm_C.ofV (by decide) (Nat.le_of_ble_eq_true rfl) ?_
  show bm_V L m_X8_live (d + 5) n n n 0 [(0, .ref x0), (1, .int x1), (2, .int x2), (3, .int x3)] [] M _
  unfold f_X8_live at h
  refine bv_iload_n dX8_live_0 1 rfl ?_
  by_cases c1 : x1 = 0
  · replace h := bu_t h c1
    refine bv_tableIn (tgt := 40) dX8_live_1 (by rw [c1]; decide) (by rw [c1]; decide) (by rw [c1]; rfl) (by decide) ?_
    refine bv_aload_n dX8_live_40 0 rfl ?_
    refine bv_iload_n dX8_live_41 2 rfl ?_
    refine bv_iload_n dX8_live_42 3 rfl ?_
    obtain ⟨q2, h⟩ := bu_io h
    obtain ⟨v3, p4, h⟩ := bu_bd h
    refine bw_callV (As := [.int x2, .int x3]) hN q2 ⟨_, _, rfl⟩ dX8_live_43 mc_8_112 (c_X8_liftBy (d := d + 2) hN p4) rfl rfl (by decide) ?_
    obtain rfl := Option.some.inj h
    exact bv_iret (x := v3.1) dX8_live_46 rfl ⟨rfl, rfl⟩
  · replace h := bu_f h c1
    by_cases c5 : x1 = 1
    · replace h := bu_t h c5
      refine bv_tableIn (tgt := 47) dX8_live_1 (by rw [c5]; decide) (by rw [c5]; decide) (by rw [c5]; rfl) (by decide) ?_
      refine bv_aload_n dX8_live_47 0 rfl ?_
      refine bv_iload_n dX8_live_48 2 rfl ?_
      refine bv_iload_n dX8_live_49 3 rfl ?_
      obtain ⟨q6, h⟩ := bu_io h
      obtain ⟨v7, p8, h⟩ := bu_bd h
      refine bw_callV (As := [.int x2, .int x3]) hN q6 ⟨_, _, rfl⟩ dX8_live_50 mc_8_115 (c_X8_giveBy (d := d + 1) hN p8) rfl rfl (by decide) ?_
      obtain rfl := Option.some.inj h
      exact bv_iret (x := v7.1) dX8_live_53 rfl ⟨rfl, rfl⟩
    · replace h := bu_f h c5
      by_cases c9 : x1 = 2
      · replace h := bu_t h c9
        refine bv_tableIn (tgt := 54) dX8_live_1 (by rw [c9]; decide) (by rw [c9]; decide) (by rw [c9]; rfl) (by decide) ?_
        refine bv_aload_n dX8_live_54 0 rfl ?_
        refine bv_iload_n dX8_live_55 2 rfl ?_
        obtain ⟨q10, h⟩ := bu_io h
        obtain ⟨v11, p12, h⟩ := bu_bd h
        refine bw_callV (As := [.int x2]) hN q10 ⟨_, _, rfl⟩ dX8_live_56 mc_8_118 (c_X8_sleepBy (d := d + 3) hN p12) rfl rfl (by decide) ?_
        obtain rfl := Option.some.inj h
        exact bv_iret (x := v11.1) dX8_live_59 rfl ⟨rfl, rfl⟩
      · replace h := bu_f h c9
        by_cases c13 : x1 = 3
        · replace h := bu_t h c13
          refine bv_tableIn (tgt := 60) dX8_live_1 (by rw [c13]; decide) (by rw [c13]; decide) (by rw [c13]; rfl) (by decide) ?_
          refine bv_aload_n dX8_live_60 0 rfl ?_
          refine bv_iload_n dX8_live_61 2 rfl ?_
          obtain ⟨q14, h⟩ := bu_io h
          obtain ⟨v15, p16, h⟩ := bu_bd h
          refine bw_callV (As := [.int x2]) hN q14 ⟨_, _, rfl⟩ dX8_live_62 mc_8_121 (c_X8_wakeBy (d := d + 3) hN p16) rfl rfl (by decide) ?_
          obtain rfl := Option.some.inj h
          exact bv_iret (x := v15.1) dX8_live_65 rfl ⟨rfl, rfl⟩
        · replace h := bu_f h c13
          by_cases c17 : x1 = 4
          · replace h := bu_t h c17
            refine bv_tableIn (tgt := 66) dX8_live_1 (by rw [c17]; decide) (by rw [c17]; decide) (by rw [c17]; rfl) (by decide) ?_
            refine bv_aload_n dX8_live_66 0 rfl ?_
            refine bv_iload_n dX8_live_67 2 rfl ?_
            obtain ⟨q18, h⟩ := bu_io h
            obtain ⟨v19, p20, h⟩ := bu_bd h
            refine bw_callV (As := [.int x2]) hN q18 ⟨_, _, rfl⟩ dX8_live_68 mc_8_124 (c_X8_sootBy (d := d + 3) hN p20) rfl rfl (by decide) ?_
            obtain rfl := Option.some.inj h
            exact bv_iret (x := v19.1) dX8_live_71 rfl ⟨rfl, rfl⟩
          · replace h := bu_f h c17
            by_cases c21 : x1 = 5
            · replace h := bu_t h c21
              refine bv_tableIn (tgt := 72) dX8_live_1 (by rw [c21]; decide) (by rw [c21]; decide) (by rw [c21]; rfl) (by decide) ?_
              refine bv_aload_n dX8_live_72 0 rfl ?_
              refine bv_iload_n dX8_live_73 2 rfl ?_
              refine bv_iload_n dX8_live_74 3 rfl ?_
              obtain ⟨q22, h⟩ := bu_io h
              obtain ⟨v23, p24, h⟩ := bu_bd h
              refine bw_callV (As := [.int x2, .int x3]) hN q22 ⟨_, _, rfl⟩ dX8_live_75 mc_8_127 (c_X8_goBy (d := d + 4) hN p24) rfl rfl (by decide) ?_
              obtain rfl := Option.some.inj h
              exact bv_iret (x := v23.1) dX8_live_78 rfl ⟨rfl, rfl⟩
            · replace h := bu_f h c21
              refine bv_tableOut (tgt := 79) dX8_live_1 (bm_sw (k := 6) (by decide) (fun j hj => by match j, hj with | 0, _ => exact c1 | 1, _ => exact c5 | 2, _ => exact c9 | 3, _ => exact c13 | 4, _ => exact c17 | 5, _ => exact c21)) (by decide) ?_
              refine bv_sipush (v := 400) dX8_live_79 (by decide) ?_
              refine bv_aload_n dX8_live_82 0 rfl ?_
              obtain ⟨q25, h⟩ := bu_io h
              refine bw_getI hN q25 dX8_live_83 fl_8_55 rfl ?_
              refine bv_isub dX8_live_86 ?_
              refine bv_iload_n dX8_live_87 3 rfl ?_
              refine bv_icmp_ge (tgt := 93) dX8_live_88 (by decide) (fun cc => ?_) (fun cc => ?_)
              · replace h := bu_t h cc
                refine bv_aload_n dX8_live_93 0 rfl ?_
                refine bv_iload_n dX8_live_94 3 rfl ?_
                obtain ⟨v26, p27, h⟩ := bu_bd h
                refine bw_callV (As := [.int x3]) hN q25 ⟨_, _, rfl⟩ dX8_live_95 mc_8_130 (c_X8_passHours (d := d + 0) hN p27) rfl rfl (by decide) ?_
                refine bv_pop dX8_live_98 rfl ?_
                refine bv_iconst (v := 0) dX8_live_99 (by decide) ?_
                obtain rfl := Option.some.inj h
                exact bv_iret (x := 0) dX8_live_100 rfl ⟨rfl, rfl⟩
              · replace h := bu_f h cc
                refine bv_iconst (v := 1) dX8_live_91 (by decide) ?_
                obtain rfl := Option.some.inj h
                exact bv_iret (x := 1) dX8_live_92 rfl ⟨rfl, rfl⟩
def f_X8_draw (M : bm_M) (x0 : Nat) (x1 : Int32) : Option (Int32 × bm_M) := (if bm_io x0 8 then (if x1 ≤ 0 then some (0, (bm_sI M x0 12 (((M.1 x0 12) * 1103515245) + 12345))) else (if ¬ x1 = 0 then some ((bm_rem (bm_iushr ((bm_sI M x0 12 (((M.1 x0 12) * 1103515245) + 12345)).1 x0 12) 8) x1), (bm_sI M x0 12 (((M.1 x0 12) * 1103515245) + 12345))) else none)) else none)
set_option maxHeartbeats 4000000 in
set_option maxRecDepth 100000 in
theorem c_X8_draw {L : bm_L} {d n : Nat} {M : bm_M} {x0 : Nat} {x1 : Int32} {v : Int32 × bm_M} (hN : 181 ≤ n) (h : f_X8_draw M x0 x1 = some v) : bm_C L m_X8_draw d n n [.ref x0, .int x1] M (fun r M' => r = some (.int v.1) ∧ M' = v.2) := by
  refine bm_C.ofV (by decide) (Nat.le_of_ble_eq_true rfl) ?_
  show bm_V L m_X8_draw d n n n 0 [(0, .ref x0), (1, .int x1)] [] M _
  unfold f_X8_draw at h
  refine bv_aload_n dX8_draw_0 0 rfl ?_
  refine bv_aload_n dX8_draw_1 0 rfl ?_
  obtain ⟨q1, h⟩ := bu_io h
  refine bw_getI hN q1 dX8_draw_2 fl_8_155 rfl ?_
  refine bv_ldc (v := 1103515245) dX8_draw_5 cst_8_171 ?_
  refine bv_imul dX8_draw_7 ?_
  refine bv_sipush (v := 12345) dX8_draw_8 (by decide) ?_
  refine bv_iadd dX8_draw_11 ?_
  refine bw_putI hN q1 dX8_draw_12 fl_8_155 rfl ?_
  refine bv_iload_n dX8_draw_15 1 rfl ?_
  refine bv_if_le (tgt := 31) dX8_draw_16 (by decide) (fun cc => ?_) (fun cc => ?_)
  · replace h := bu_t h cc
    refine bv_iconst (v := 0) dX8_draw_31 (by decide) ?_
    obtain rfl := Option.some.inj h
    exact bv_iret (x := 0) dX8_draw_32 rfl ⟨rfl, rfl⟩
  · replace h := bu_f h cc
    refine bv_aload_n dX8_draw_19 0 rfl ?_
    refine bw_getI hN q1 dX8_draw_20 fl_8_155 rfl ?_
    refine bv_bipush (v := 8) dX8_draw_23 (by decide) ?_
    refine bv_iushr dX8_draw_25 ?_
    refine bv_iload_n dX8_draw_26 1 rfl ?_
    obtain ⟨z2, h⟩ := bu_gp h
    refine bv_irem dX8_draw_27 z2 ?_
    refine bv_goto (tgt := 32) dX8_draw_28 (by decide) ?_
    obtain rfl := Option.some.inj h
    exact bv_iret (x := (bm_rem (bm_iushr ((bm_sI M x0 12 (((M.1 x0 12) * 1103515245) + 12345)).1 x0 12) 8) x1)) dX8_draw_32 rfl ⟨rfl, rfl⟩
def f_X8_drawOrderFor (M : bm_M) (x0 : Nat) (x1 : Int32) : Option (bm_M) := (if bm_io x0 8 then ((M.2.2 x0 0).bind fun a2 => (if bm_io a2 0 then (if (M.1 a2 13) ≤ 0 then some M else ((f_X8_draw M x0 (M.1 a2 13)).bind fun v5 => ((v5.2.2.2 x0 0).bind fun a7 => (if bm_io a7 0 then ((v5.2.2.2 a7 4).bind fun a10 => (if bm_ia a10 0 x1 = true then (if (v5.2.1 a10 x1.toNatClampNeg) = (-1) then ((f_X8_giveBy v5.2 x0 x1 v5.1).bind fun v13 => some v13.2) else some v5.2) else none)) else none)))) else none)) else none)
set_option maxHeartbeats 4000000 in
set_option maxRecDepth 100000 in
theorem c_X8_drawOrderFor {L : bm_L} {d n : Nat} {M : bm_M} {x0 : Nat} {x1 : Int32} {v : bm_M} (hN : 181 ≤ n) (h : f_X8_drawOrderFor M x0 x1 = some v) : bm_C L m_X8_drawOrderFor (d + 4) n n [.ref x0, .int x1] M (fun r M' => r = none ∧ M' = v) := by
  refine bm_C.ofV (by decide) (Nat.le_of_ble_eq_true rfl) ?_
  show bm_V L m_X8_drawOrderFor (d + 4) n n n 0 [(0, .ref x0), (1, .int x1)] [] M _
  unfold f_X8_drawOrderFor at h
  refine bv_aload_n dX8_drawOrderFor_0 0 rfl ?_
  obtain ⟨q1, h⟩ := bu_io h
  obtain ⟨a2, e3, h⟩ := bu_bd h
  refine bw_getA (a := a2) hN q1 e3 dX8_drawOrderFor_1 fl_8_30 rfl ?_
  obtain ⟨q4, h⟩ := bu_io h
  refine bw_getI hN q4 dX8_drawOrderFor_4 fl_8_168 rfl ?_
  refine bv_if_le (tgt := 42) dX8_drawOrderFor_7 (by decide) (fun cc => ?_) (fun cc => ?_)
  · replace h := bu_t h cc
    obtain rfl := Option.some.inj h
    exact bv_vret dX8_drawOrderFor_42 rfl ⟨rfl, rfl⟩
  · replace h := bu_f h cc
    refine bv_aload_n dX8_drawOrderFor_10 0 rfl ?_
    refine bv_aload_n dX8_drawOrderFor_11 0 rfl ?_
    refine bw_getA (a := a2) hN q1 e3 dX8_drawOrderFor_12 fl_8_30 rfl ?_
    refine bw_getI hN q4 dX8_drawOrderFor_15 fl_8_168 rfl ?_
    obtain ⟨v5, p6, h⟩ := bu_bd h
    refine bw_callV (As := [.int (M.1 a2 13)]) hN q1 ⟨_, _, rfl⟩ dX8_drawOrderFor_18 mc_8_162 (c_X8_draw (d := d + 3) hN p6) rfl rfl (by decide) ?_
    refine bv_istore_n (ls1 := [(0, .ref x0), (1, .int x1), (2, .int v5.1)]) dX8_drawOrderFor_21 (by decide) rfl rfl ?_
    refine bv_aload_n dX8_drawOrderFor_22 0 rfl ?_
    obtain ⟨a7, e8, h⟩ := bu_bd h
    refine bw_getA (a := a7) hN q1 e8 dX8_drawOrderFor_23 fl_8_30 rfl ?_
    obtain ⟨q9, h⟩ := bu_io h
    obtain ⟨a10, e11, h⟩ := bu_bd h
    refine bw_getA (a := a10) hN q9 e11 dX8_drawOrderFor_26 fl_8_93 rfl ?_
    refine bv_iload_n dX8_drawOrderFor_29 1 rfl ?_
    obtain ⟨r12, h⟩ := bu_ia h
    refine bw_iald hN r12 dX8_drawOrderFor_30 ?_
    refine bv_iconst (v := (-1)) dX8_drawOrderFor_31 (by decide) ?_
    refine bv_icmp_ne (tgt := 42) dX8_drawOrderFor_32 (by decide) (fun cc => ?_) (fun cc => ?_)
    · replace h := bu_f h cc
      obtain rfl := Option.some.inj h
      exact bv_vret dX8_drawOrderFor_42 rfl ⟨rfl, rfl⟩
    · replace h := bu_t h cc
      refine bv_aload_n dX8_drawOrderFor_35 0 rfl ?_
      refine bv_iload_n dX8_drawOrderFor_36 1 rfl ?_
      refine bv_iload_n dX8_drawOrderFor_37 2 rfl ?_
      obtain ⟨v13, p14, h⟩ := bu_bd h
      refine bw_callV (As := [.int x1, .int v5.1]) hN q1 ⟨_, _, rfl⟩ dX8_drawOrderFor_38 mc_8_115 (c_X8_giveBy (d := d + 0) hN p14) rfl rfl (by decide) ?_
      refine bv_pop dX8_drawOrderFor_41 rfl ?_
      obtain rfl := Option.some.inj h
      exact bv_vret dX8_drawOrderFor_42 rfl ⟨rfl, rfl⟩
def f_X8_drawFor (M : bm_M) (x0 : Nat) (x1 : Int32) : Option (bm_M) := (if bm_io x0 8 then ((f_X8_draw M x0 8).bind fun v2 => (if v2.1 = 0 then ((f_X8_draw v2.2 x0 3).bind fun v5 => ((f_X8_liftBy v5.2 x0 x1 (v5.1 + 1)).bind fun v7 => some v7.2)) else (if v2.1 = 1 then some (bm_sI v2.2 x0 7 ((v2.2.1 x0 7) ^^^ (bm_ishl 1 x1))) else (if v2.1 = 2 then ((f_X8_draw v2.2 x0 4).bind fun v11 => ((f_X8_goBy v11.2 x0 x1 v11.1).bind fun v13 => some v13.2)) else (if v2.1 = 3 then ((f_X8_drawOrderFor v2.2 x0 x1).bind fun v16 => some v16) else some v2.2))))) else none)
set_option maxHeartbeats 4000000 in
set_option maxRecDepth 100000 in
theorem c_X8_drawFor {L : bm_L} {d n : Nat} {M : bm_M} {x0 : Nat} {x1 : Int32} {v : bm_M} (hN : 181 ≤ n) (h : f_X8_drawFor M x0 x1 = some v) : bm_C L m_X8_drawFor (d + 5) n n [.ref x0, .int x1] M (fun r M' => r = none ∧ M' = v) := by
  refine bm_C.ofV (by decide) (Nat.le_of_ble_eq_true rfl) ?_
  show bm_V L m_X8_drawFor (d + 5) n n n 0 [(0, .ref x0), (1, .int x1)] [] M _
  unfold f_X8_drawFor at h
  refine bv_aload_n dX8_drawFor_0 0 rfl ?_
  refine bv_bipush (v := 8) dX8_drawFor_1 (by decide) ?_
  obtain ⟨q1, h⟩ := bu_io h
  obtain ⟨v2, p3, h⟩ := bu_bd h
  refine bw_callV (As := [.int 8]) hN q1 ⟨_, _, rfl⟩ dX8_drawFor_3 mc_8_162 (c_X8_draw (d := d + 4) hN p3) rfl rfl (by decide) ?_
  by_cases c4 : v2.1 = 0
  · replace h := bu_t h c4
    refine bv_tableIn (tgt := 36) dX8_drawFor_6 (by rw [c4]; decide) (by rw [c4]; decide) (by rw [c4]; rfl) (by decide) ?_
    refine bv_aload_n dX8_drawFor_36 0 rfl ?_
    refine bv_iload_n dX8_drawFor_37 1 rfl ?_
    refine bv_aload_n dX8_drawFor_38 0 rfl ?_
    refine bv_iconst (v := 3) dX8_drawFor_39 (by decide) ?_
    obtain ⟨v5, p6, h⟩ := bu_bd h
    refine bw_callV (As := [.int 3]) hN q1 ⟨_, _, rfl⟩ dX8_drawFor_40 mc_8_162 (c_X8_draw (d := d + 4) hN p6) rfl rfl (Nat.le_of_ble_eq_true rfl) ?_
    refine bv_iconst (v := 1) dX8_drawFor_43 (by decide) ?_
    refine bv_iadd dX8_drawFor_44 ?_
    obtain ⟨v7, p8, h⟩ := bu_bd h
    refine bw_callV (As := [.int x1, .int (v5.1 + 1)]) hN q1 ⟨_, _, rfl⟩ dX8_drawFor_45 mc_8_112 (c_X8_liftBy (d := d + 2) hN p8) rfl rfl (by decide) ?_
    refine bv_pop dX8_drawFor_48 rfl ?_
    refine bv_goto (tgt := 89) dX8_drawFor_49 (by decide) ?_
    obtain rfl := Option.some.inj h
    exact bv_vret dX8_drawFor_89 rfl ⟨rfl, rfl⟩
  · replace h := bu_f h c4
    by_cases c9 : v2.1 = 1
    · replace h := bu_t h c9
      refine bv_tableIn (tgt := 52) dX8_drawFor_6 (by rw [c9]; decide) (by rw [c9]; decide) (by rw [c9]; rfl) (by decide) ?_
      refine bv_aload_n dX8_drawFor_52 0 rfl ?_
      refine bv_dup dX8_drawFor_53 rfl ?_
      refine bw_getI hN q1 dX8_drawFor_54 fl_8_46 rfl ?_
      refine bv_iconst (v := 1) dX8_drawFor_57 (by decide) ?_
      refine bv_iload_n dX8_drawFor_58 1 rfl ?_
      refine bv_ishl dX8_drawFor_59 ?_
      refine bv_ixor dX8_drawFor_60 ?_
      refine bw_putI hN q1 dX8_drawFor_61 fl_8_46 rfl ?_
      refine bv_goto (tgt := 89) dX8_drawFor_64 (by decide) ?_
      obtain rfl := Option.some.inj h
      exact bv_vret dX8_drawFor_89 rfl ⟨rfl, rfl⟩
    · replace h := bu_f h c9
      by_cases c10 : v2.1 = 2
      · replace h := bu_t h c10
        refine bv_tableIn (tgt := 67) dX8_drawFor_6 (by rw [c10]; decide) (by rw [c10]; decide) (by rw [c10]; rfl) (by decide) ?_
        refine bv_aload_n dX8_drawFor_67 0 rfl ?_
        refine bv_iload_n dX8_drawFor_68 1 rfl ?_
        refine bv_aload_n dX8_drawFor_69 0 rfl ?_
        refine bv_iconst (v := 4) dX8_drawFor_70 (by decide) ?_
        obtain ⟨v11, p12, h⟩ := bu_bd h
        refine bw_callV (As := [.int 4]) hN q1 ⟨_, _, rfl⟩ dX8_drawFor_71 mc_8_162 (c_X8_draw (d := d + 4) hN p12) rfl rfl (Nat.le_of_ble_eq_true rfl) ?_
        obtain ⟨v13, p14, h⟩ := bu_bd h
        refine bw_callV (As := [.int x1, .int v11.1]) hN q1 ⟨_, _, rfl⟩ dX8_drawFor_74 mc_8_127 (c_X8_goBy (d := d + 4) hN p14) rfl rfl (by decide) ?_
        refine bv_pop dX8_drawFor_77 rfl ?_
        refine bv_goto (tgt := 89) dX8_drawFor_78 (by decide) ?_
        obtain rfl := Option.some.inj h
        exact bv_vret dX8_drawFor_89 rfl ⟨rfl, rfl⟩
      · replace h := bu_f h c10
        by_cases c15 : v2.1 = 3
        · replace h := bu_t h c15
          refine bv_tableIn (tgt := 81) dX8_drawFor_6 (by rw [c15]; decide) (by rw [c15]; decide) (by rw [c15]; rfl) (by decide) ?_
          refine bv_aload_n dX8_drawFor_81 0 rfl ?_
          refine bv_iload_n dX8_drawFor_82 1 rfl ?_
          obtain ⟨v16, p17, h⟩ := bu_bd h
          refine bw_callVv (As := [.int x1]) hN q1 ⟨_, _, rfl⟩ dX8_drawFor_83 mc_8_165 (c_X8_drawOrderFor (d := d + 0) hN p17) rfl rfl (by decide) ?_
          refine bv_goto (tgt := 89) dX8_drawFor_86 (by decide) ?_
          obtain rfl := Option.some.inj h
          exact bv_vret dX8_drawFor_89 rfl ⟨rfl, rfl⟩
        · replace h := bu_f h c15
          refine bv_tableOut (tgt := 89) dX8_drawFor_6 (bm_sw (k := 4) (by decide) (fun j hj => by match j, hj with | 0, _ => exact c4 | 1, _ => exact c9 | 2, _ => exact c10 | 3, _ => exact c15)) (by decide) ?_
          obtain rfl := Option.some.inj h
          exact bv_vret dX8_drawFor_89 rfl ⟨rfl, rfl⟩
def f_X8_drawHours_l25 (x0 : Nat) (x1 : Int32) (x3 : Int32) : Nat → Int32 → bm_M → Option (bm_M)
  | 0, _, _ => none
  | k + 1, x4, M => ((M.2.2 x0 0).bind fun a1 => (if bm_io a1 0 then (if (M.1 a1 10) ≤ x4 then some M else ((f_X8_drawFor M x0 x4).bind fun v4 => f_X8_drawHours_l25 x0 x1 x3 k (x4 + 1) v4)) else none))
set_option maxHeartbeats 4000000 in
set_option maxRecDepth 100000 in
theorem v_X8_drawHours_l25 {L : bm_L} {d n : Nat} {Q : Option Value → bm_M → Prop} {x0 : Nat} {x1 : Int32} {x3 : Int32} (hN : 181 ≤ n) (q_0 : bm_OK x0 8) : ∀ (k : Nat) (x4 : Int32) (M : bm_M) (r : bm_M), f_X8_drawHours_l25 x0 x1 x3 k x4 M = some r → (∀ yy, yy = r → bm_V L m_X8_drawHours (d + 6) n n n 49 [(0, .ref x0), (1, .int x1), (3, .int x3)] [] yy Q) → bm_V L m_X8_drawHours (d + 6) n n n 25 [(0, .ref x0), (1, .int x1), (3, .int x3), (4, .int x4)] [] M Q := by
  intro k
  induction k with
  | zero => intro x4 M r h; cases (show (none : Option (bm_M)) = some r from h)
  | succ k ih =>
    intro x4 M r h K0
    unfold f_X8_drawHours_l25 at h
    refine bv_iload dX8_drawHours_25 3 rfl ?_
    refine bv_aload_n dX8_drawHours_27 0 rfl ?_
    obtain ⟨a1, e2, h⟩ := bu_bd h
    refine bw_getA (a := a1) hN q_0 e2 dX8_drawHours_28 fl_8_30 rfl ?_
    obtain ⟨q3, h⟩ := bu_io h
    refine bw_getI hN q3 dX8_drawHours_31 fl_8_34 rfl ?_
    refine bv_icmp_ge (tgt := 49) dX8_drawHours_34 (by decide) (fun cc => ?_) (fun cc => ?_)
    · replace h := bu_t h cc
      refine bw_ls (ls1 := [(0, .ref x0), (1, .int x1), (3, .int x3)]) [0, 1, 2] rfl ?_
      obtain rfl := Option.some.inj h
      exact K0 _ rfl
    · replace h := bu_f h cc
      refine bv_aload_n dX8_drawHours_37 0 rfl ?_
      refine bv_iload dX8_drawHours_38 3 rfl ?_
      obtain ⟨v4, p5, h⟩ := bu_bd h
      refine bw_callVv (As := [.int x4]) hN q_0 ⟨_, _, rfl⟩ dX8_drawHours_40 mc_8_158 (c_X8_drawFor (d := d + 0) hN p5) rfl rfl (by decide) ?_
      refine bv_iinc (j := 3) (v := (x4 + 1)) (ls1 := [(0, .ref x0), (1, .int x1), (3, .int x3), (4, .int (x4 + 1))]) dX8_drawHours_43 rfl rfl (by decide) rfl rfl ?_
      refine bv_goto (tgt := 25) dX8_drawHours_46 (by decide) ?_
      exact ih _ _ _ h K0
def f_X8_drawHours_l7 (x0 : Nat) (x1 : Int32) : Nat → Int32 → bm_M → Option (Int32 × bm_M)
  | 0, _, _ => none
  | k + 1, x3, M => (if x1 ≤ x3 then some (x3, M) else (if 400 ≤ (M.1 x0 10) then some (x3, M) else ((f_X8_drawHours_l25 x0 x1 x3 1000 0 M).bind fun y3 => ((f_X8_passHours y3 x0 1).bind fun v4 => f_X8_drawHours_l7 x0 x1 k (x3 + 1) v4.2))))
set_option maxHeartbeats 4000000 in
set_option maxRecDepth 100000 in
theorem v_X8_drawHours_l7 {L : bm_L} {d n : Nat} {Q : Option Value → bm_M → Prop} {x0 : Nat} {x1 : Int32} (hN : 181 ≤ n) (q_0 : bm_OK x0 8) : ∀ (k : Nat) (x3 : Int32) (M : bm_M) (r : Int32 × bm_M), f_X8_drawHours_l7 x0 x1 k x3 M = some r → (∀ yy, yy = r → bm_V L m_X8_drawHours (d + 6) n n n 61 [(3, .int yy.1)] [] yy.2 Q) → bm_V L m_X8_drawHours (d + 6) n n n 7 [(0, .ref x0), (1, .int x1), (3, .int x3)] [] M Q := by
  intro k
  induction k with
  | zero => intro x3 M r h; cases (show (none : Option (Int32 × bm_M)) = some r from h)
  | succ k ih =>
    intro x3 M r h K0
    unfold f_X8_drawHours_l7 at h
    refine bv_iload_n dX8_drawHours_7 2 rfl ?_
    refine bv_iload_n dX8_drawHours_8 1 rfl ?_
    refine bv_icmp_ge (tgt := 61) dX8_drawHours_9 (by decide) (fun cc => ?_) (fun cc => ?_)
    · replace h := bu_t h cc
      refine bw_ls (ls1 := [(3, .int x3)]) [2] rfl ?_
      obtain rfl := Option.some.inj h
      exact K0 _ rfl
    · replace h := bu_f h cc
      refine bv_aload_n dX8_drawHours_12 0 rfl ?_
      refine bw_getI hN q_0 dX8_drawHours_13 fl_8_55 rfl ?_
      refine bv_sipush (v := 400) dX8_drawHours_16 (by decide) ?_
      refine bv_icmp_ge (tgt := 61) dX8_drawHours_19 (by decide) (fun cc => ?_) (fun cc => ?_)
      · replace h := bu_t h cc
        refine bw_ls (ls1 := [(3, .int x3)]) [2] rfl ?_
        obtain rfl := Option.some.inj h
        exact K0 _ rfl
      · replace h := bu_f h cc
        refine bv_iconst (v := 0) dX8_drawHours_22 (by decide) ?_
        refine bv_istore (ls1 := [(0, .ref x0), (1, .int x1), (3, .int x3), (4, .int 0)]) dX8_drawHours_23 (by decide) rfl rfl ?_
        obtain ⟨r1, p2, h⟩ := bu_bd h
        refine v_X8_drawHours_l25 hN q_0 1000 _ _ _ p2 (fun y3 hy => ?_)
        · subst hy
          refine bv_aload_n dX8_drawHours_49 0 rfl ?_
          refine bv_iconst (v := 1) dX8_drawHours_50 (by decide) ?_
          obtain ⟨v4, p5, h⟩ := bu_bd h
          refine bw_callV (As := [.int 1]) hN q_0 ⟨_, _, rfl⟩ dX8_drawHours_51 mc_8_130 (c_X8_passHours (d := d + 1) hN p5) rfl rfl (by decide) ?_
          refine bv_pop dX8_drawHours_54 rfl ?_
          refine bv_iinc (j := 2) (v := (x3 + 1)) (ls1 := [(0, .ref x0), (1, .int x1), (3, .int (x3 + 1))]) dX8_drawHours_55 rfl rfl (by decide) rfl rfl ?_
          refine bv_goto (tgt := 7) dX8_drawHours_58 (by decide) ?_
          exact ih _ _ _ h K0
def f_X8_drawHours (M : bm_M) (x0 : Nat) (x1 : Int32) (x2 : Int32) : Option (Int32 × bm_M) := (if bm_io x0 8 then ((f_X8_drawHours_l7 x0 x1 1000 0 (bm_sI M x0 12 x2)).bind fun y4 => some (y4.1, y4.2)) else none)
set_option maxHeartbeats 4000000 in
set_option maxRecDepth 100000 in
theorem c_X8_drawHours {L : bm_L} {d n : Nat} {M : bm_M} {x0 : Nat} {x1 : Int32} {x2 : Int32} {v : Int32 × bm_M} (hN : 181 ≤ n) (h : f_X8_drawHours M x0 x1 x2 = some v) : bm_C L m_X8_drawHours (d + 6) n n [.ref x0, .int x1, .int x2] M (fun r M' => r = some (.int v.1) ∧ M' = v.2) := by
  refine bm_C.ofV (by decide) (Nat.le_of_ble_eq_true rfl) ?_
  show bm_V L m_X8_drawHours (d + 6) n n n 0 [(0, .ref x0), (1, .int x1), (2, .int x2)] [] M _
  unfold f_X8_drawHours at h
  refine bv_aload_n dX8_drawHours_0 0 rfl ?_
  refine bv_iload_n dX8_drawHours_1 2 rfl ?_
  obtain ⟨q1, h⟩ := bu_io h
  refine bw_putI hN q1 dX8_drawHours_2 fl_8_155 rfl ?_
  refine bv_iconst (v := 0) dX8_drawHours_5 (by decide) ?_
  refine bv_istore_n (ls1 := [(0, .ref x0), (1, .int x1), (2, .int x2), (3, .int 0)]) dX8_drawHours_6 (by decide) rfl rfl ?_
  refine bw_ls (ls1 := [(0, .ref x0), (1, .int x1), (3, .int 0)]) [0, 1, 3] rfl ?_
  obtain ⟨r2, p3, h⟩ := bu_bd h
  refine v_X8_drawHours_l7 hN q1 1000 _ _ _ p3 (fun y4 hy => ?_)
  · subst hy
    refine bv_iload_n dX8_drawHours_61 0 rfl ?_
    obtain rfl := Option.some.inj h
    exact bv_iret (x := y4.1) dX8_drawHours_62 rfl ⟨rfl, rfl⟩
def f_X9_put_l3 (x0 : Nat) (x1 : Int32) : Nat → Int32 → bm_M → Option (bm_M)
  | 0, _, _ => none
  | k + 1, x2, M => (if x2 < 0 then some M else (if bm_io x0 9 then (if 940 ≤ (M.1 x0 1) then some M else ((M.2.2 x0 0).bind fun a2 => (if bm_ia a2 0 (M.1 x0 1) = true then f_X9_put_l3 x0 x1 k (x2 + (-8)) (bm_sI (bm_sI M a2 (M.1 x0 1).toNatClampNeg ((bm_iushr x1 x2) &&& 255)) x0 1 (((bm_sI M a2 (M.1 x0 1).toNatClampNeg ((bm_iushr x1 x2) &&& 255)).1 x0 1) + 1)) else none))) else none))
set_option maxHeartbeats 4000000 in
set_option maxRecDepth 100000 in
theorem v_X9_put_l3 {L : bm_L} {d n : Nat} {Q : Option Value → bm_M → Prop} {x0 : Nat} {x1 : Int32} (hN : 181 ≤ n) : ∀ (k : Nat) (x2 : Int32) (M : bm_M) (r : bm_M), f_X9_put_l3 x0 x1 k x2 M = some r → (∀ yy, yy = r → bm_V L m_X9_put d n n n 49 [] [] yy Q) → bm_V L m_X9_put d n n n 3 [(0, .ref x0), (1, .int x1), (2, .int x2)] [] M Q := by
  intro k
  induction k with
  | zero => intro x2 M r h; cases (show (none : Option (bm_M)) = some r from h)
  | succ k ih =>
    intro x2 M r h K0
    unfold f_X9_put_l3 at h
    refine bv_iload_n dX9_put_3 2 rfl ?_
    refine bv_if_lt (tgt := 49) dX9_put_4 (by decide) (fun cc => ?_) (fun cc => ?_)
    · replace h := bu_t h cc
      refine bw_ls (ls1 := []) [] rfl ?_
      obtain rfl := Option.some.inj h
      exact K0 _ rfl
    · replace h := bu_f h cc
      refine bv_aload_n dX9_put_7 0 rfl ?_
      obtain ⟨q1, h⟩ := bu_io h
      refine bw_getI hN q1 dX9_put_8 fl_9_15 rfl ?_
      refine bv_sipush (v := 940) dX9_put_11 (by decide) ?_
      refine bv_icmp_ge (tgt := 49) dX9_put_14 (by decide) (fun cc => ?_) (fun cc => ?_)
      · replace h := bu_t h cc
        refine bw_ls (ls1 := []) [] rfl ?_
        obtain rfl := Option.some.inj h
        exact K0 _ rfl
      · replace h := bu_f h cc
        refine bv_aload_n dX9_put_17 0 rfl ?_
        obtain ⟨a2, e3, h⟩ := bu_bd h
        refine bw_getA (a := a2) hN q1 e3 dX9_put_18 fl_9_9 rfl ?_
        refine bv_aload_n dX9_put_21 0 rfl ?_
        refine bw_getI hN q1 dX9_put_22 fl_9_15 rfl ?_
        refine bv_iload_n dX9_put_25 1 rfl ?_
        refine bv_iload_n dX9_put_26 2 rfl ?_
        refine bv_iushr dX9_put_27 ?_
        refine bv_sipush (v := 255) dX9_put_28 (by decide) ?_
        refine bv_iand dX9_put_31 ?_
        obtain ⟨r4, h⟩ := bu_ia h
        refine bw_iast hN r4 dX9_put_32 ?_
        refine bv_aload_n dX9_put_33 0 rfl ?_
        refine bv_dup dX9_put_34 rfl ?_
        refine bw_getI hN q1 dX9_put_35 fl_9_15 rfl ?_
        refine bv_iconst (v := 1) dX9_put_38 (by decide) ?_
        refine bv_iadd dX9_put_39 ?_
        refine bw_putI hN q1 dX9_put_40 fl_9_15 rfl ?_
        refine bv_iinc (j := 2) (v := (x2 + (-8))) (ls1 := [(0, .ref x0), (1, .int x1), (2, .int (x2 + (-8)))]) dX9_put_43 rfl rfl (by decide) rfl rfl ?_
        refine bv_goto (tgt := 3) dX9_put_46 (by decide) ?_
        exact ih _ _ _ h K0
def f_X9_put (M : bm_M) (x0 : Nat) (x1 : Int32) : Option (bm_M) := ((f_X9_put_l3 x0 x1 1000 24 M).bind fun y3 => some y3)
set_option maxHeartbeats 4000000 in
set_option maxRecDepth 100000 in
theorem c_X9_put {L : bm_L} {d n : Nat} {M : bm_M} {x0 : Nat} {x1 : Int32} {v : bm_M} (hN : 181 ≤ n) (h : f_X9_put M x0 x1 = some v) : bm_C L m_X9_put d n n [.ref x0, .int x1] M (fun r M' => r = none ∧ M' = v) := by
  refine bm_C.ofV (by decide) (Nat.le_of_ble_eq_true rfl) ?_
  show bm_V L m_X9_put d n n n 0 [(0, .ref x0), (1, .int x1)] [] M _
  unfold f_X9_put at h
  refine bv_bipush (v := 24) dX9_put_0 (by decide) ?_
  refine bv_istore_n (ls1 := [(0, .ref x0), (1, .int x1), (2, .int 24)]) dX9_put_2 (by decide) rfl rfl ?_
  obtain ⟨r1, p2, h⟩ := bu_bd h
  refine v_X9_put_l3 hN 1000 _ _ _ p2 (fun y3 hy => ?_)
  · subst hy
    obtain rfl := Option.some.inj h
    exact bv_vret dX9_put_49 rfl ⟨rfl, rfl⟩
def f_X11_feed (M : bm_M) (x0 : Nat) (x1 : Int32) (x2 : Int32) (x3 : Int32) (x4 : Int32) (x5 : Int32) : Option (Int32 × bm_M) := (if bm_io x0 10 then ((M.2.2 x0 0).bind fun a2 => (if bm_io a2 9 then (if ((M.1 a2 1) + 20) ≤ 940 then ((f_X9_put M a2 x1).bind fun v5 => ((v5.2.2 x0 0).bind fun a7 => (if bm_io a7 9 then ((f_X9_put v5 a7 x2).bind fun v10 => ((v10.2.2 x0 0).bind fun a12 => (if bm_io a12 9 then ((f_X9_put v10 a12 x3).bind fun v15 => ((v15.2.2 x0 0).bind fun a17 => (if bm_io a17 9 then ((f_X9_put v15 a17 x4).bind fun v20 => ((v20.2.2 x0 0).bind fun a22 => (if bm_io a22 9 then ((f_X9_put v20 a22 x5).bind fun v25 => ((v25.2.2 x0 0).bind fun a27 => (if bm_io a27 9 then some ((v25.1 a27 1), v25) else none))) else none))) else none))) else none))) else none))) else some ((-1), M)) else none)) else none)
set_option maxHeartbeats 4000000 in
set_option maxRecDepth 100000 in
theorem c_X11_feed {L : bm_L} {d n : Nat} {M : bm_M} {x0 : Nat} {x1 : Int32} {x2 : Int32} {x3 : Int32} {x4 : Int32} {x5 : Int32} {v : Int32 × bm_M} (hN : 181 ≤ n) (h : f_X11_feed M x0 x1 x2 x3 x4 x5 = some v) : bm_C L m_X11_feed (d + 1) n n [.ref x0, .int x1, .int x2, .int x3, .int x4, .int x5] M (fun r M' => r = some (.int v.1) ∧ M' = v.2) := by
  refine bm_C.ofV (by decide) (Nat.le_of_ble_eq_true rfl) ?_
  show bm_V L m_X11_feed (d + 1) n n n 0 [(0, .ref x0), (1, .int x1), (2, .int x2), (3, .int x3), (4, .int x4), (5, .int x5)] [] M _
  unfold f_X11_feed at h
  refine bv_aload_n dX11_feed_0 0 rfl ?_
  obtain ⟨q1, h⟩ := bu_io h
  obtain ⟨a2, e3, h⟩ := bu_bd h
  refine bw_getA (a := a2) hN q1 e3 dX11_feed_1 fl_11_12 rfl ?_
  obtain ⟨q4, h⟩ := bu_io h
  refine bw_getI hN q4 dX11_feed_4 fl_11_102 rfl ?_
  refine bv_bipush (v := 20) dX11_feed_7 (by decide) ?_
  refine bv_iadd dX11_feed_9 ?_
  refine bv_sipush (v := 940) dX11_feed_10 (by decide) ?_
  refine bv_icmp_le (tgt := 18) dX11_feed_13 (by decide) (fun cc => ?_) (fun cc => ?_)
  · replace h := bu_t h cc
    refine bv_aload_n dX11_feed_18 0 rfl ?_
    refine bw_getA (a := a2) hN q1 e3 dX11_feed_19 fl_11_12 rfl ?_
    refine bv_iload_n dX11_feed_22 1 rfl ?_
    obtain ⟨v5, p6, h⟩ := bu_bd h
    refine bw_callVv (As := [.int x1]) hN q4 ⟨_, _, rfl⟩ dX11_feed_23 mc_11_105 (c_X9_put (d := d + 0) hN p6) rfl rfl (by decide) ?_
    refine bv_aload_n dX11_feed_26 0 rfl ?_
    obtain ⟨a7, e8, h⟩ := bu_bd h
    refine bw_getA (a := a7) hN q1 e8 dX11_feed_27 fl_11_12 rfl ?_
    refine bv_iload_n dX11_feed_30 2 rfl ?_
    obtain ⟨q9, h⟩ := bu_io h
    obtain ⟨v10, p11, h⟩ := bu_bd h
    refine bw_callVv (As := [.int x2]) hN q9 ⟨_, _, rfl⟩ dX11_feed_31 mc_11_105 (c_X9_put (d := d + 0) hN p11) rfl rfl (by decide) ?_
    refine bv_aload_n dX11_feed_34 0 rfl ?_
    obtain ⟨a12, e13, h⟩ := bu_bd h
    refine bw_getA (a := a12) hN q1 e13 dX11_feed_35 fl_11_12 rfl ?_
    refine bv_iload_n dX11_feed_38 3 rfl ?_
    obtain ⟨q14, h⟩ := bu_io h
    obtain ⟨v15, p16, h⟩ := bu_bd h
    refine bw_callVv (As := [.int x3]) hN q14 ⟨_, _, rfl⟩ dX11_feed_39 mc_11_105 (c_X9_put (d := d + 0) hN p16) rfl rfl (by decide) ?_
    refine bv_aload_n dX11_feed_42 0 rfl ?_
    obtain ⟨a17, e18, h⟩ := bu_bd h
    refine bw_getA (a := a17) hN q1 e18 dX11_feed_43 fl_11_12 rfl ?_
    refine bv_iload dX11_feed_46 4 rfl ?_
    obtain ⟨q19, h⟩ := bu_io h
    obtain ⟨v20, p21, h⟩ := bu_bd h
    refine bw_callVv (As := [.int x4]) hN q19 ⟨_, _, rfl⟩ dX11_feed_48 mc_11_105 (c_X9_put (d := d + 0) hN p21) rfl rfl (by decide) ?_
    refine bv_aload_n dX11_feed_51 0 rfl ?_
    obtain ⟨a22, e23, h⟩ := bu_bd h
    refine bw_getA (a := a22) hN q1 e23 dX11_feed_52 fl_11_12 rfl ?_
    refine bv_iload dX11_feed_55 5 rfl ?_
    obtain ⟨q24, h⟩ := bu_io h
    obtain ⟨v25, p26, h⟩ := bu_bd h
    refine bw_callVv (As := [.int x5]) hN q24 ⟨_, _, rfl⟩ dX11_feed_57 mc_11_105 (c_X9_put (d := d + 0) hN p26) rfl rfl (by decide) ?_
    refine bv_aload_n dX11_feed_60 0 rfl ?_
    obtain ⟨a27, e28, h⟩ := bu_bd h
    refine bw_getA (a := a27) hN q1 e28 dX11_feed_61 fl_11_12 rfl ?_
    obtain ⟨q29, h⟩ := bu_io h
    refine bw_getI hN q29 dX11_feed_64 fl_11_102 rfl ?_
    obtain rfl := Option.some.inj h
    exact bv_iret (x := (v25.1 a27 1)) dX11_feed_67 rfl ⟨rfl, rfl⟩
  · replace h := bu_f h cc
    refine bv_iconst (v := (-1)) dX11_feed_16 (by decide) ?_
    obtain rfl := Option.some.inj h
    exact bv_iret (x := (-1)) dX11_feed_17 rfl ⟨rfl, rfl⟩
def f_X11_end (M : bm_M) (x0 : Nat) (x1 : Int32) : Option (Bool × bm_M) := (if x1 < 0 then some (false, M) else (if bm_io x0 10 then ((M.2.2 x0 0).bind fun a2 => (if bm_io a2 9 then (if x1 ≤ (M.1 a2 1) then some (true, (bm_sI M a2 1 x1)) else some (false, M)) else none)) else none))
set_option maxHeartbeats 4000000 in
set_option maxRecDepth 100000 in
theorem c_X11_end {L : bm_L} {d n : Nat} {M : bm_M} {x0 : Nat} {x1 : Int32} {v : Bool × bm_M} (hN : 181 ≤ n) (h : f_X11_end M x0 x1 = some v) : bm_C L m_X11_end d n n [.ref x0, .int x1] M (fun r M' => r = some (.int (bm_bi v.1)) ∧ M' = v.2) := by
  refine bm_C.ofV (by decide) (Nat.le_of_ble_eq_true rfl) ?_
  show bm_V L m_X11_end d n n n 0 [(0, .ref x0), (1, .int x1)] [] M _
  unfold f_X11_end at h
  refine bv_iload_n dX11_end_0 1 rfl ?_
  refine bv_if_lt (tgt := 15) dX11_end_1 (by decide) (fun cc => ?_) (fun cc => ?_)
  · replace h := bu_t h cc
    refine bv_iconst (v := 0) dX11_end_15 (by decide) ?_
    obtain rfl := Option.some.inj h
    exact bw_bret (b := false) dX11_end_16 rfl ⟨rfl, rfl⟩
  · replace h := bu_f h cc
    refine bv_iload_n dX11_end_4 1 rfl ?_
    refine bv_aload_n dX11_end_5 0 rfl ?_
    obtain ⟨q1, h⟩ := bu_io h
    obtain ⟨a2, e3, h⟩ := bu_bd h
    refine bw_getA (a := a2) hN q1 e3 dX11_end_6 fl_11_12 rfl ?_
    obtain ⟨q4, h⟩ := bu_io h
    refine bw_getI hN q4 dX11_end_9 fl_11_102 rfl ?_
    refine bv_icmp_le (tgt := 17) dX11_end_12 (by decide) (fun cc => ?_) (fun cc => ?_)
    · replace h := bu_t h cc
      refine bv_aload_n dX11_end_17 0 rfl ?_
      refine bw_getA (a := a2) hN q1 e3 dX11_end_18 fl_11_12 rfl ?_
      refine bv_iload_n dX11_end_21 1 rfl ?_
      refine bw_putI hN q4 dX11_end_22 fl_11_102 rfl ?_
      refine bv_iconst (v := 1) dX11_end_25 (by decide) ?_
      obtain rfl := Option.some.inj h
      exact bw_bret (b := true) dX11_end_26 rfl ⟨rfl, rfl⟩
    · replace h := bu_f h cc
      refine bv_iconst (v := 0) dX11_end_15 (by decide) ?_
      obtain rfl := Option.some.inj h
      exact bw_bret (b := false) dX11_end_16 rfl ⟨rfl, rfl⟩
def f_X11_army (M : bm_M) (x0 : Nat) : Option (Int32 × bm_M) := (if bm_io x0 10 then ((M.2.2 x0 1).bind fun a2 => (if bm_io a2 5 then ((f_X5_begin M a2 900).bind fun v5 => ((v5.2.2 x0 3).bind fun a7 => ((v5.2.2 x0 1).bind fun a9 => (if bm_io a7 0 then ((f_X0_readFrom v5 a7 a9).bind fun v12 => ((v12.2.2.2 x0 0).bind fun a14 => (if bm_io a14 9 then ((v12.2.2.2 x0 1).bind fun a17 => (if bm_io a17 5 then (if ((bm_sI (bm_sI v12.2 a14 1 0) x0 13 ((bm_sI v12.2 a14 1 0).1 a17 9)).1 x0 13) = 0 then ((v12.2.2.2 x0 2).bind fun a20 => ((v12.2.2.2 x0 3).bind fun a22 => (if bm_io a20 0 then ((f_X0_copyFrom (bm_sI (bm_sI v12.2 a14 1 0) x0 13 ((bm_sI v12.2 a14 1 0).1 a17 9)) a20 a22).bind fun v25 => ((v25.2.2 x0 4).bind fun a27 => (if bm_io a27 8 then ((f_X8_begin v25 a27).bind fun v30 => ((v30.2.2 x0 9).bind fun a32 => (if bm_io a32 7 then ((f_X7_forget v30 a32).bind fun v35 => ((v35.2.2 x0 6).bind fun a37 => (if bm_io a37 4 then ((f_X4_forget v35 a37).bind fun v40 => some (v12.1, v40)) else none))) else none))) else none))) else none))) else some (((-1) - ((bm_sI (bm_sI v12.2 a14 1 0) x0 13 ((bm_sI v12.2 a14 1 0).1 a17 9)).1 a17 10)), (bm_sI (bm_sI v12.2 a14 1 0) x0 13 ((bm_sI v12.2 a14 1 0).1 a17 9)))) else none)) else none))) else none)))) else none)) else none)
set_option maxHeartbeats 4000000 in
set_option maxRecDepth 100000 in
theorem c_X11_army {L : bm_L} {d n : Nat} {M : bm_M} {x0 : Nat} {v : Int32 × bm_M} (hN : 181 ≤ n) (h : f_X11_army M x0 = some v) : bm_C L m_X11_army (d + 7) n n [.ref x0] M (fun r M' => r = some (.int v.1) ∧ M' = v.2) := by
  refine bm_C.ofV (by decide) (Nat.le_of_ble_eq_true rfl) ?_
  show bm_V L m_X11_army (d + 7) n n n 0 [(0, .ref x0)] [] M _
  unfold f_X11_army at h
  refine bv_aload_n dX11_army_0 0 rfl ?_
  obtain ⟨q1, h⟩ := bu_io h
  obtain ⟨a2, e3, h⟩ := bu_bd h
  refine bw_getA (a := a2) hN q1 e3 dX11_army_1 fl_11_21 rfl ?_
  refine bv_sipush (v := 900) dX11_army_4 (by decide) ?_
  obtain ⟨q4, h⟩ := bu_io h
  obtain ⟨v5, p6, h⟩ := bu_bd h
  refine bw_callVv (As := [.int 900]) hN q4 ⟨_, _, rfl⟩ dX11_army_7 mc_11_109 (c_X5_begin (d := d + 3) hN p6) rfl rfl (by decide) ?_
  refine bv_aload_n dX11_army_10 0 rfl ?_
  obtain ⟨a7, e8, h⟩ := bu_bd h
  refine bw_getA (a := a7) hN q1 e8 dX11_army_11 fl_11_32 rfl ?_
  refine bv_aload_n dX11_army_14 0 rfl ?_
  obtain ⟨a9, e10, h⟩ := bu_bd h
  refine bw_getA (a := a9) hN q1 e10 dX11_army_15 fl_11_21 rfl ?_
  obtain ⟨q11, h⟩ := bu_io h
  obtain ⟨v12, p13, h⟩ := bu_bd h
  refine bw_callV (As := [.ref a9]) hN q11 ⟨_, _, rfl⟩ dX11_army_18 mc_11_112 (c_X0_readFrom (d := d + 0) hN p13) rfl rfl (by decide) ?_
  refine bv_istore_n (ls1 := [(0, .ref x0), (1, .int v12.1)]) dX11_army_21 (by decide) rfl rfl ?_
  refine bv_aload_n dX11_army_22 0 rfl ?_
  obtain ⟨a14, e15, h⟩ := bu_bd h
  refine bw_getA (a := a14) hN q1 e15 dX11_army_23 fl_11_12 rfl ?_
  refine bv_iconst (v := 0) dX11_army_26 (by decide) ?_
  obtain ⟨q16, h⟩ := bu_io h
  refine bw_putI hN q16 dX11_army_27 fl_11_102 rfl ?_
  refine bv_aload_n dX11_army_30 0 rfl ?_
  refine bv_aload_n dX11_army_31 0 rfl ?_
  obtain ⟨a17, e18, h⟩ := bu_bd h
  refine bw_getA (a := a17) hN q1 e18 dX11_army_32 fl_11_21 rfl ?_
  obtain ⟨q19, h⟩ := bu_io h
  refine bw_getI hN q19 dX11_army_35 fl_11_116 rfl ?_
  refine bw_putI hN q1 dX11_army_38 fl_11_119 rfl ?_
  refine bv_aload_n dX11_army_41 0 rfl ?_
  refine bw_getI hN q1 dX11_army_42 fl_11_119 rfl ?_
  refine bv_if_eq (tgt := 58) dX11_army_45 (by decide) (fun cc => ?_) (fun cc => ?_)
  · replace h := bu_t h cc
    refine bv_aload_n dX11_army_58 0 rfl ?_
    obtain ⟨a20, e21, h⟩ := bu_bd h
    refine bw_getA (a := a20) hN q1 e21 dX11_army_59 fl_11_28 rfl ?_
    refine bv_aload_n dX11_army_62 0 rfl ?_
    obtain ⟨a22, e23, h⟩ := bu_bd h
    refine bw_getA (a := a22) hN q1 e23 dX11_army_63 fl_11_32 rfl ?_
    obtain ⟨q24, h⟩ := bu_io h
    obtain ⟨v25, p26, h⟩ := bu_bd h
    refine bw_callVv (As := [.ref a22]) hN q24 ⟨_, _, rfl⟩ dX11_army_66 mc_11_123 (c_X0_copyFrom (d := d + 5) hN p26) rfl rfl (by decide) ?_
    refine bv_aload_n dX11_army_69 0 rfl ?_
    obtain ⟨a27, e28, h⟩ := bu_bd h
    refine bw_getA (a := a27) hN q1 e28 dX11_army_70 fl_11_40 rfl ?_
    obtain ⟨q29, h⟩ := bu_io h
    obtain ⟨v30, p31, h⟩ := bu_bd h
    refine bw_callVv (As := []) hN q29 ⟨_, _, rfl⟩ dX11_army_73 mc_11_126 (c_X8_begin (d := d + 6) hN p31) rfl rfl (by decide) ?_
    refine bv_aload_n dX11_army_76 0 rfl ?_
    obtain ⟨a32, e33, h⟩ := bu_bd h
    refine bw_getA (a := a32) hN q1 e33 dX11_army_77 fl_11_71 rfl ?_
    obtain ⟨q34, h⟩ := bu_io h
    obtain ⟨v35, p36, h⟩ := bu_bd h
    refine bw_callVv (As := []) hN q34 ⟨_, _, rfl⟩ dX11_army_80 mc_11_128 (c_X7_forget (d := d + 6) hN p36) rfl rfl (by decide) ?_
    refine bv_aload_n dX11_army_83 0 rfl ?_
    obtain ⟨a37, e38, h⟩ := bu_bd h
    refine bw_getA (a := a37) hN q1 e38 dX11_army_84 fl_11_50 rfl ?_
    obtain ⟨q39, h⟩ := bu_io h
    obtain ⟨v40, p41, h⟩ := bu_bd h
    refine bw_callVv (As := []) hN q39 ⟨_, _, rfl⟩ dX11_army_87 mc_11_131 (c_X4_forget (d := d + 6) hN p41) rfl rfl (by decide) ?_
    refine bv_iload_n dX11_army_90 1 rfl ?_
    obtain rfl := Option.some.inj h
    exact bv_iret (x := v12.1) dX11_army_91 rfl ⟨rfl, rfl⟩
  · replace h := bu_f h cc
    refine bv_iconst (v := (-1)) dX11_army_48 (by decide) ?_
    refine bv_aload_n dX11_army_49 0 rfl ?_
    refine bw_getA (a := a17) hN q1 e18 dX11_army_50 fl_11_21 rfl ?_
    refine bw_getI hN q19 dX11_army_53 fl_11_120 rfl ?_
    refine bv_isub dX11_army_56 ?_
    obtain rfl := Option.some.inj h
    exact bv_iret (x := ((-1) - ((bm_sI (bm_sI v12.2 a14 1 0) x0 13 ((bm_sI v12.2 a14 1 0).1 a17 9)).1 a17 10))) dX11_army_57 rfl ⟨rfl, rfl⟩
def f_X11_fault (M : bm_M) (x0 : Nat) : Option (Int32) := (if bm_io x0 10 then some (M.1 x0 13) else none)
set_option maxHeartbeats 4000000 in
set_option maxRecDepth 100000 in
theorem c_X11_fault {L : bm_L} {d n : Nat} {M : bm_M} {x0 : Nat} {v : Int32} (hN : 181 ≤ n) (h : f_X11_fault M x0 = some v) : bm_C L m_X11_fault d n n [.ref x0] M (fun r M' => r = some (.int v) ∧ M' = M) := by
  refine bm_C.ofV (by decide) (Nat.le_of_ble_eq_true rfl) ?_
  show bm_V L m_X11_fault d n n n 0 [(0, .ref x0)] [] M _
  unfold f_X11_fault at h
  refine bv_aload_n dX11_fault_0 0 rfl ?_
  obtain ⟨q1, h⟩ := bu_io h
  refine bw_getI hN q1 dX11_fault_1 fl_11_119 rfl ?_
  obtain rfl := Option.some.inj h
  exact bv_iret (x := (M.1 x0 13)) dX11_fault_4 rfl ⟨rfl, rfl⟩
def f_X11_count (M : bm_M) (x0 : Nat) (x1 : Int32) : Option (Int32) := (if x1 = 0 then (if bm_io x0 10 then ((M.2.2 x0 2).bind fun a3 => (if bm_io a3 0 then some (M.1 a3 10) else none)) else none) else (if x1 = 1 then (if bm_io x0 10 then ((M.2.2 x0 2).bind fun a8 => (if bm_io a8 0 then some (M.1 a8 13) else none)) else none) else (if x1 = 2 then (if bm_io x0 10 then ((M.2.2 x0 2).bind fun a13 => (if bm_io a13 0 then some (M.1 a13 14) else none)) else none) else (if x1 = 3 then (if bm_io x0 10 then ((M.2.2 x0 2).bind fun a18 => (if bm_io a18 0 then some (M.1 a18 15) else none)) else none) else (if x1 = 4 then (if bm_io x0 10 then ((M.2.2 x0 2).bind fun a23 => (if bm_io a23 0 then some (M.1 a23 16) else none)) else none) else (if x1 = 5 then (if bm_io x0 10 then ((M.2.2 x0 0).bind fun a28 => (if bm_io a28 9 then some (M.1 a28 1) else none)) else none) else some (-1)))))))
set_option maxHeartbeats 4000000 in
set_option maxRecDepth 100000 in
theorem c_X11_count {L : bm_L} {d n : Nat} {M : bm_M} {x0 : Nat} {x1 : Int32} {v : Int32} (hN : 181 ≤ n) (h : f_X11_count M x0 x1 = some v) : bm_C L m_X11_count d n n [.ref x0, .int x1] M (fun r M' => r = some (.int v) ∧ M' = M) := by
  refine bm_C.ofV (by decide) (Nat.le_of_ble_eq_true rfl) ?_
  show bm_V L m_X11_count d n n n 0 [(0, .ref x0), (1, .int x1)] [] M _
  unfold f_X11_count at h
  refine bv_iload_n dX11_count_0 1 rfl ?_
  by_cases c1 : x1 = 0
  · replace h := bu_t h c1
    refine bv_tableIn (tgt := 40) dX11_count_1 (by rw [c1]; decide) (by rw [c1]; decide) (by rw [c1]; rfl) (by decide) ?_
    refine bv_aload_n dX11_count_40 0 rfl ?_
    obtain ⟨q2, h⟩ := bu_io h
    obtain ⟨a3, e4, h⟩ := bu_bd h
    refine bw_getA (a := a3) hN q2 e4 dX11_count_41 fl_11_28 rfl ?_
    obtain ⟨q5, h⟩ := bu_io h
    refine bw_getI hN q5 dX11_count_44 fl_11_132 rfl ?_
    obtain rfl := Option.some.inj h
    exact bv_iret (x := (M.1 a3 10)) dX11_count_47 rfl ⟨rfl, rfl⟩
  · replace h := bu_f h c1
    by_cases c6 : x1 = 1
    · replace h := bu_t h c6
      refine bv_tableIn (tgt := 48) dX11_count_1 (by rw [c6]; decide) (by rw [c6]; decide) (by rw [c6]; rfl) (by decide) ?_
      refine bv_aload_n dX11_count_48 0 rfl ?_
      obtain ⟨q7, h⟩ := bu_io h
      obtain ⟨a8, e9, h⟩ := bu_bd h
      refine bw_getA (a := a8) hN q7 e9 dX11_count_49 fl_11_28 rfl ?_
      obtain ⟨q10, h⟩ := bu_io h
      refine bw_getI hN q10 dX11_count_52 fl_11_135 rfl ?_
      obtain rfl := Option.some.inj h
      exact bv_iret (x := (M.1 a8 13)) dX11_count_55 rfl ⟨rfl, rfl⟩
    · replace h := bu_f h c6
      by_cases c11 : x1 = 2
      · replace h := bu_t h c11
        refine bv_tableIn (tgt := 56) dX11_count_1 (by rw [c11]; decide) (by rw [c11]; decide) (by rw [c11]; rfl) (by decide) ?_
        refine bv_aload_n dX11_count_56 0 rfl ?_
        obtain ⟨q12, h⟩ := bu_io h
        obtain ⟨a13, e14, h⟩ := bu_bd h
        refine bw_getA (a := a13) hN q12 e14 dX11_count_57 fl_11_28 rfl ?_
        obtain ⟨q15, h⟩ := bu_io h
        refine bw_getI hN q15 dX11_count_60 fl_11_138 rfl ?_
        obtain rfl := Option.some.inj h
        exact bv_iret (x := (M.1 a13 14)) dX11_count_63 rfl ⟨rfl, rfl⟩
      · replace h := bu_f h c11
        by_cases c16 : x1 = 3
        · replace h := bu_t h c16
          refine bv_tableIn (tgt := 64) dX11_count_1 (by rw [c16]; decide) (by rw [c16]; decide) (by rw [c16]; rfl) (by decide) ?_
          refine bv_aload_n dX11_count_64 0 rfl ?_
          obtain ⟨q17, h⟩ := bu_io h
          obtain ⟨a18, e19, h⟩ := bu_bd h
          refine bw_getA (a := a18) hN q17 e19 dX11_count_65 fl_11_28 rfl ?_
          obtain ⟨q20, h⟩ := bu_io h
          refine bw_getI hN q20 dX11_count_68 fl_11_141 rfl ?_
          obtain rfl := Option.some.inj h
          exact bv_iret (x := (M.1 a18 15)) dX11_count_71 rfl ⟨rfl, rfl⟩
        · replace h := bu_f h c16
          by_cases c21 : x1 = 4
          · replace h := bu_t h c21
            refine bv_tableIn (tgt := 72) dX11_count_1 (by rw [c21]; decide) (by rw [c21]; decide) (by rw [c21]; rfl) (by decide) ?_
            refine bv_aload_n dX11_count_72 0 rfl ?_
            obtain ⟨q22, h⟩ := bu_io h
            obtain ⟨a23, e24, h⟩ := bu_bd h
            refine bw_getA (a := a23) hN q22 e24 dX11_count_73 fl_11_28 rfl ?_
            obtain ⟨q25, h⟩ := bu_io h
            refine bw_getI hN q25 dX11_count_76 fl_11_144 rfl ?_
            obtain rfl := Option.some.inj h
            exact bv_iret (x := (M.1 a23 16)) dX11_count_79 rfl ⟨rfl, rfl⟩
          · replace h := bu_f h c21
            by_cases c26 : x1 = 5
            · replace h := bu_t h c26
              refine bv_tableIn (tgt := 80) dX11_count_1 (by rw [c26]; decide) (by rw [c26]; decide) (by rw [c26]; rfl) (by decide) ?_
              refine bv_aload_n dX11_count_80 0 rfl ?_
              obtain ⟨q27, h⟩ := bu_io h
              obtain ⟨a28, e29, h⟩ := bu_bd h
              refine bw_getA (a := a28) hN q27 e29 dX11_count_81 fl_11_12 rfl ?_
              obtain ⟨q30, h⟩ := bu_io h
              refine bw_getI hN q30 dX11_count_84 fl_11_102 rfl ?_
              obtain rfl := Option.some.inj h
              exact bv_iret (x := (M.1 a28 1)) dX11_count_87 rfl ⟨rfl, rfl⟩
            · replace h := bu_f h c26
              refine bv_tableOut (tgt := 88) dX11_count_1 (bm_sw (k := 6) (by decide) (fun j hj => by match j, hj with | 0, _ => exact c1 | 1, _ => exact c6 | 2, _ => exact c11 | 3, _ => exact c16 | 4, _ => exact c21 | 5, _ => exact c26)) (by decide) ?_
              refine bv_iconst (v := (-1)) dX11_count_88 (by decide) ?_
              obtain rfl := Option.some.inj h
              exact bv_iret (x := (-1)) dX11_count_89 rfl ⟨rfl, rfl⟩
def f_X11_isMan (M : bm_M) (x0 : Nat) (x1 : Int32) : Option (Bool) := (if x1 < 0 then some false else (if bm_io x0 10 then ((M.2.2 x0 2).bind fun a2 => (if bm_io a2 0 then (if (M.1 a2 10) ≤ x1 then some false else some true) else none)) else none))
set_option maxHeartbeats 4000000 in
set_option maxRecDepth 100000 in
theorem c_X11_isMan {L : bm_L} {d n : Nat} {M : bm_M} {x0 : Nat} {x1 : Int32} {v : Bool} (hN : 181 ≤ n) (h : f_X11_isMan M x0 x1 = some v) : bm_C L m_X11_isMan d n n [.ref x0, .int x1] M (fun r M' => r = some (.int (bm_bi v)) ∧ M' = M) := by
  refine bm_C.ofV (by decide) (Nat.le_of_ble_eq_true rfl) ?_
  show bm_V L m_X11_isMan d n n n 0 [(0, .ref x0), (1, .int x1)] [] M _
  unfold f_X11_isMan at h
  refine bv_iload_n dX11_isMan_0 1 rfl ?_
  refine bv_if_lt (tgt := 19) dX11_isMan_1 (by decide) (fun cc => ?_) (fun cc => ?_)
  · replace h := bu_t h cc
    refine bv_iconst (v := 0) dX11_isMan_19 (by decide) ?_
    obtain rfl := Option.some.inj h
    exact bw_bret (b := false) dX11_isMan_20 rfl ⟨rfl, rfl⟩
  · replace h := bu_f h cc
    refine bv_iload_n dX11_isMan_4 1 rfl ?_
    refine bv_aload_n dX11_isMan_5 0 rfl ?_
    obtain ⟨q1, h⟩ := bu_io h
    obtain ⟨a2, e3, h⟩ := bu_bd h
    refine bw_getA (a := a2) hN q1 e3 dX11_isMan_6 fl_11_28 rfl ?_
    obtain ⟨q4, h⟩ := bu_io h
    refine bw_getI hN q4 dX11_isMan_9 fl_11_132 rfl ?_
    refine bv_icmp_ge (tgt := 19) dX11_isMan_12 (by decide) (fun cc => ?_) (fun cc => ?_)
    · replace h := bu_t h cc
      refine bv_iconst (v := 0) dX11_isMan_19 (by decide) ?_
      obtain rfl := Option.some.inj h
      exact bw_bret (b := false) dX11_isMan_20 rfl ⟨rfl, rfl⟩
    · replace h := bu_f h cc
      refine bv_iconst (v := 1) dX11_isMan_15 (by decide) ?_
      refine bv_goto (tgt := 20) dX11_isMan_16 (by decide) ?_
      obtain rfl := Option.some.inj h
      exact bw_bret (b := true) dX11_isMan_20 rfl ⟨rfl, rfl⟩
def f_X11_man (M : bm_M) (x0 : Nat) (x1 : Int32) (x2 : Int32) : Option (Int32) := (if bm_io x0 10 then ((f_X11_isMan M x0 x1).bind fun v2 => (if v2 = true then (if x2 < 0 then none else (if x2 ≤ 9 then (if x2 = 0 then ((M.2.2 x0 4).bind fun a5 => (if bm_io a5 8 then ((M.2.2 a5 1).bind fun a8 => (if bm_ia a8 0 x1 = true then some (M.1 a8 x1.toNatClampNeg) else none)) else none)) else (if x2 = 1 then ((M.2.2 x0 4).bind fun a12 => (if bm_io a12 8 then ((M.2.2 a12 2).bind fun a15 => (if bm_ia a15 0 x1 = true then some (M.1 a15 x1.toNatClampNeg) else none)) else none)) else (if x2 = 2 then ((M.2.2 x0 4).bind fun a19 => (if bm_io a19 8 then ((f_X8_browOf M a19 x1).bind fun v22 => some v22) else none)) else (if x2 = 3 then ((M.2.2 x0 4).bind fun a25 => (if bm_io a25 8 then some (f_X11_bit (M.1 a25 7) x1) else none)) else (if x2 = 4 then ((M.2.2 x0 4).bind fun a29 => (if bm_io a29 8 then some (f_X11_bit (M.1 a29 8) x1) else none)) else (if x2 = 5 then ((M.2.2 x0 4).bind fun a33 => (if bm_io a33 8 then ((M.2.2 a33 3).bind fun a36 => (if bm_ia a36 0 x1 = true then some (M.1 a36 x1.toNatClampNeg) else none)) else none)) else (if x2 = 6 then ((M.2.2 x0 4).bind fun a40 => (if bm_io a40 8 then ((M.2.2 a40 4).bind fun a43 => (if bm_ia a43 0 x1 = true then some (M.1 a43 x1.toNatClampNeg) else none)) else none)) else (if x2 = 7 then ((M.2.2 x0 4).bind fun a47 => (if bm_io a47 8 then some (f_X11_bit (M.1 a47 9) x1) else none)) else (if x2 = 8 then ((M.2.2 x0 4).bind fun a51 => (if bm_io a51 8 then ((M.2.2 a51 5).bind fun a54 => (if bm_ia a54 0 x1 = true then some (M.1 a54 x1.toNatClampNeg) else none)) else none)) else ((M.2.2 x0 2).bind fun a57 => (if bm_io a57 0 then ((M.2.2 a57 4).bind fun a60 => (if bm_ia a60 0 x1 = true then some (M.1 a60 x1.toNatClampNeg) else none)) else none))))))))))) else none)) else none)) else none)
set_option maxHeartbeats 4000000 in
set_option maxRecDepth 100000 in
theorem c_X11_man {L : bm_L} {d n : Nat} {M : bm_M} {x0 : Nat} {x1 : Int32} {x2 : Int32} {v : Int32} (hN : 181 ≤ n) (h : f_X11_man M x0 x1 x2 = some v) : bm_C L m_X11_man (d + 2) n n [.ref x0, .int x1, .int x2] M (fun r M' => r = some (.int v) ∧ M' = M) := by
  refine bm_C.ofV (by decide) (Nat.le_of_ble_eq_true rfl) ?_
  show bm_V L m_X11_man (d + 2) n n n 0 [(0, .ref x0), (1, .int x1), (2, .int x2)] [] M _
  unfold f_X11_man at h
  refine bv_aload_n dX11_man_0 0 rfl ?_
  refine bv_iload_n dX11_man_1 1 rfl ?_
  obtain ⟨q1, h⟩ := bu_io h
  obtain ⟨v2, p3, h⟩ := bu_bd h
  refine bw_callV (As := [.int x1]) hN q1 ⟨_, _, rfl⟩ dX11_man_2 mc_11_147 (c_X11_isMan (d := d + 1) hN p3) rfl rfl (by decide) ?_
  refine bw_ifB_eq (b := v2) (tgt := 18) dX11_man_5 (by decide) (fun cc => ?_) (fun cc => ?_)
  · replace h := bu_bf h cc
    cases h
  · replace h := bu_bt h cc
    refine bv_iload_n dX11_man_8 2 rfl ?_
    refine bv_if_lt (tgt := 18) dX11_man_9 (by decide) (fun cc => ?_) (fun cc => ?_)
    · replace h := bu_t h cc
      cases h
    · replace h := bu_f h cc
      refine bv_iload_n dX11_man_12 2 rfl ?_
      refine bv_bipush (v := 9) dX11_man_13 (by decide) ?_
      refine bv_icmp_le (tgt := 28) dX11_man_15 (by decide) (fun cc => ?_) (fun cc => ?_)
      · replace h := bu_t h cc
        refine bv_iload_n dX11_man_28 2 rfl ?_
        by_cases c4 : x2 = 0
        · replace h := bu_t h c4
          refine bv_tableIn (tgt := 80) dX11_man_29 (by rw [c4]; decide) (by rw [c4]; decide) (by rw [c4]; rfl) (by decide) ?_
          refine bv_aload_n dX11_man_80 0 rfl ?_
          obtain ⟨a5, e6, h⟩ := bu_bd h
          refine bw_getA (a := a5) hN q1 e6 dX11_man_81 fl_11_40 rfl ?_
          obtain ⟨q7, h⟩ := bu_io h
          obtain ⟨a8, e9, h⟩ := bu_bd h
          refine bw_getA (a := a8) hN q7 e9 dX11_man_84 fl_11_158 rfl ?_
          refine bv_iload_n dX11_man_87 1 rfl ?_
          obtain ⟨r10, h⟩ := bu_ia h
          refine bw_iald hN r10 dX11_man_88 ?_
          obtain rfl := Option.some.inj h
          exact bv_iret (x := (M.1 a8 x1.toNatClampNeg)) dX11_man_89 rfl ⟨rfl, rfl⟩
        · replace h := bu_f h c4
          by_cases c11 : x2 = 1
          · replace h := bu_t h c11
            refine bv_tableIn (tgt := 90) dX11_man_29 (by rw [c11]; decide) (by rw [c11]; decide) (by rw [c11]; rfl) (by decide) ?_
            refine bv_aload_n dX11_man_90 0 rfl ?_
            obtain ⟨a12, e13, h⟩ := bu_bd h
            refine bw_getA (a := a12) hN q1 e13 dX11_man_91 fl_11_40 rfl ?_
            obtain ⟨q14, h⟩ := bu_io h
            obtain ⟨a15, e16, h⟩ := bu_bd h
            refine bw_getA (a := a15) hN q14 e16 dX11_man_94 fl_11_162 rfl ?_
            refine bv_iload_n dX11_man_97 1 rfl ?_
            obtain ⟨r17, h⟩ := bu_ia h
            refine bw_iald hN r17 dX11_man_98 ?_
            obtain rfl := Option.some.inj h
            exact bv_iret (x := (M.1 a15 x1.toNatClampNeg)) dX11_man_99 rfl ⟨rfl, rfl⟩
          · replace h := bu_f h c11
            by_cases c18 : x2 = 2
            · replace h := bu_t h c18
              refine bv_tableIn (tgt := 100) dX11_man_29 (by rw [c18]; decide) (by rw [c18]; decide) (by rw [c18]; rfl) (by decide) ?_
              refine bv_aload_n dX11_man_100 0 rfl ?_
              obtain ⟨a19, e20, h⟩ := bu_bd h
              refine bw_getA (a := a19) hN q1 e20 dX11_man_101 fl_11_40 rfl ?_
              refine bv_iload_n dX11_man_104 1 rfl ?_
              obtain ⟨q21, h⟩ := bu_io h
              obtain ⟨v22, p23, h⟩ := bu_bd h
              refine bw_callV (As := [.int x1]) hN q21 ⟨_, _, rfl⟩ dX11_man_105 mc_11_165 (c_X8_browOf (d := d + 0) hN p23) rfl rfl (by decide) ?_
              obtain rfl := Option.some.inj h
              exact bv_iret (x := v22) dX11_man_108 rfl ⟨rfl, rfl⟩
            · replace h := bu_f h c18
              by_cases c24 : x2 = 3
              · replace h := bu_t h c24
                refine bv_tableIn (tgt := 109) dX11_man_29 (by rw [c24]; decide) (by rw [c24]; decide) (by rw [c24]; rfl) (by decide) ?_
                refine bv_aload_n dX11_man_109 0 rfl ?_
                obtain ⟨a25, e26, h⟩ := bu_bd h
                refine bw_getA (a := a25) hN q1 e26 dX11_man_110 fl_11_40 rfl ?_
                obtain ⟨q27, h⟩ := bu_io h
                refine bw_getI hN q27 dX11_man_113 fl_11_169 rfl ?_
                refine bv_iload_n dX11_man_116 1 rfl ?_
                refine bw_callS (As := [.int (M.1 a25 7), .int x1]) dX11_man_117 mc_11_172 (c_X11_bit (d := d + 1) hN rfl) rfl rfl (by decide) ?_
                obtain rfl := Option.some.inj h
                exact bv_iret (x := (f_X11_bit (M.1 a25 7) x1)) dX11_man_120 rfl ⟨rfl, rfl⟩
              · replace h := bu_f h c24
                by_cases c28 : x2 = 4
                · replace h := bu_t h c28
                  refine bv_tableIn (tgt := 121) dX11_man_29 (by rw [c28]; decide) (by rw [c28]; decide) (by rw [c28]; rfl) (by decide) ?_
                  refine bv_aload_n dX11_man_121 0 rfl ?_
                  obtain ⟨a29, e30, h⟩ := bu_bd h
                  refine bw_getA (a := a29) hN q1 e30 dX11_man_122 fl_11_40 rfl ?_
                  obtain ⟨q31, h⟩ := bu_io h
                  refine bw_getI hN q31 dX11_man_125 fl_11_176 rfl ?_
                  refine bv_iload_n dX11_man_128 1 rfl ?_
                  refine bw_callS (As := [.int (M.1 a29 8), .int x1]) dX11_man_129 mc_11_172 (c_X11_bit (d := d + 1) hN rfl) rfl rfl (by decide) ?_
                  obtain rfl := Option.some.inj h
                  exact bv_iret (x := (f_X11_bit (M.1 a29 8) x1)) dX11_man_132 rfl ⟨rfl, rfl⟩
                · replace h := bu_f h c28
                  by_cases c32 : x2 = 5
                  · replace h := bu_t h c32
                    refine bv_tableIn (tgt := 133) dX11_man_29 (by rw [c32]; decide) (by rw [c32]; decide) (by rw [c32]; rfl) (by decide) ?_
                    refine bv_aload_n dX11_man_133 0 rfl ?_
                    obtain ⟨a33, e34, h⟩ := bu_bd h
                    refine bw_getA (a := a33) hN q1 e34 dX11_man_134 fl_11_40 rfl ?_
                    obtain ⟨q35, h⟩ := bu_io h
                    obtain ⟨a36, e37, h⟩ := bu_bd h
                    refine bw_getA (a := a36) hN q35 e37 dX11_man_137 fl_11_179 rfl ?_
                    refine bv_iload_n dX11_man_140 1 rfl ?_
                    obtain ⟨r38, h⟩ := bu_ia h
                    refine bw_iald hN r38 dX11_man_141 ?_
                    obtain rfl := Option.some.inj h
                    exact bv_iret (x := (M.1 a36 x1.toNatClampNeg)) dX11_man_142 rfl ⟨rfl, rfl⟩
                  · replace h := bu_f h c32
                    by_cases c39 : x2 = 6
                    · replace h := bu_t h c39
                      refine bv_tableIn (tgt := 143) dX11_man_29 (by rw [c39]; decide) (by rw [c39]; decide) (by rw [c39]; rfl) (by decide) ?_
                      refine bv_aload_n dX11_man_143 0 rfl ?_
                      obtain ⟨a40, e41, h⟩ := bu_bd h
                      refine bw_getA (a := a40) hN q1 e41 dX11_man_144 fl_11_40 rfl ?_
                      obtain ⟨q42, h⟩ := bu_io h
                      obtain ⟨a43, e44, h⟩ := bu_bd h
                      refine bw_getA (a := a43) hN q42 e44 dX11_man_147 fl_11_182 rfl ?_
                      refine bv_iload_n dX11_man_150 1 rfl ?_
                      obtain ⟨r45, h⟩ := bu_ia h
                      refine bw_iald hN r45 dX11_man_151 ?_
                      obtain rfl := Option.some.inj h
                      exact bv_iret (x := (M.1 a43 x1.toNatClampNeg)) dX11_man_152 rfl ⟨rfl, rfl⟩
                    · replace h := bu_f h c39
                      by_cases c46 : x2 = 7
                      · replace h := bu_t h c46
                        refine bv_tableIn (tgt := 153) dX11_man_29 (by rw [c46]; decide) (by rw [c46]; decide) (by rw [c46]; rfl) (by decide) ?_
                        refine bv_aload_n dX11_man_153 0 rfl ?_
                        obtain ⟨a47, e48, h⟩ := bu_bd h
                        refine bw_getA (a := a47) hN q1 e48 dX11_man_154 fl_11_40 rfl ?_
                        obtain ⟨q49, h⟩ := bu_io h
                        refine bw_getI hN q49 dX11_man_157 fl_11_185 rfl ?_
                        refine bv_iload_n dX11_man_160 1 rfl ?_
                        refine bw_callS (As := [.int (M.1 a47 9), .int x1]) dX11_man_161 mc_11_172 (c_X11_bit (d := d + 1) hN rfl) rfl rfl (by decide) ?_
                        obtain rfl := Option.some.inj h
                        exact bv_iret (x := (f_X11_bit (M.1 a47 9) x1)) dX11_man_164 rfl ⟨rfl, rfl⟩
                      · replace h := bu_f h c46
                        by_cases c50 : x2 = 8
                        · replace h := bu_t h c50
                          refine bv_tableIn (tgt := 165) dX11_man_29 (by rw [c50]; decide) (by rw [c50]; decide) (by rw [c50]; rfl) (by decide) ?_
                          refine bv_aload_n dX11_man_165 0 rfl ?_
                          obtain ⟨a51, e52, h⟩ := bu_bd h
                          refine bw_getA (a := a51) hN q1 e52 dX11_man_166 fl_11_40 rfl ?_
                          obtain ⟨q53, h⟩ := bu_io h
                          obtain ⟨a54, e55, h⟩ := bu_bd h
                          refine bw_getA (a := a54) hN q53 e55 dX11_man_169 fl_11_188 rfl ?_
                          refine bv_iload_n dX11_man_172 1 rfl ?_
                          obtain ⟨r56, h⟩ := bu_ia h
                          refine bw_iald hN r56 dX11_man_173 ?_
                          obtain rfl := Option.some.inj h
                          exact bv_iret (x := (M.1 a54 x1.toNatClampNeg)) dX11_man_174 rfl ⟨rfl, rfl⟩
                        · replace h := bu_f h c50
                          refine bv_tableOut (tgt := 175) dX11_man_29 (bm_sw (k := 9) (by decide) (fun j hj => by match j, hj with | 0, _ => exact c4 | 1, _ => exact c11 | 2, _ => exact c18 | 3, _ => exact c24 | 4, _ => exact c28 | 5, _ => exact c32 | 6, _ => exact c39 | 7, _ => exact c46 | 8, _ => exact c50)) (by decide) ?_
                          refine bv_aload_n dX11_man_175 0 rfl ?_
                          obtain ⟨a57, e58, h⟩ := bu_bd h
                          refine bw_getA (a := a57) hN q1 e58 dX11_man_176 fl_11_28 rfl ?_
                          obtain ⟨q59, h⟩ := bu_io h
                          obtain ⟨a60, e61, h⟩ := bu_bd h
                          refine bw_getA (a := a60) hN q59 e61 dX11_man_179 fl_11_191 rfl ?_
                          refine bv_iload_n dX11_man_182 1 rfl ?_
                          obtain ⟨r62, h⟩ := bu_ia h
                          refine bw_iald hN r62 dX11_man_183 ?_
                          obtain rfl := Option.some.inj h
                          exact bv_iret (x := (M.1 a60 x1.toNatClampNeg)) dX11_man_184 rfl ⟨rfl, rfl⟩
      · replace h := bu_f h cc
        cases h
def f_X11_isOrder (M : bm_M) (x0 : Nat) (x1 : Int32) : Option (Bool) := (if x1 < 0 then some false else (if bm_io x0 10 then ((M.2.2 x0 2).bind fun a2 => (if bm_io a2 0 then (if (M.1 a2 13) ≤ x1 then some false else some true) else none)) else none))
set_option maxHeartbeats 4000000 in
set_option maxRecDepth 100000 in
theorem c_X11_isOrder {L : bm_L} {d n : Nat} {M : bm_M} {x0 : Nat} {x1 : Int32} {v : Bool} (hN : 181 ≤ n) (h : f_X11_isOrder M x0 x1 = some v) : bm_C L m_X11_isOrder d n n [.ref x0, .int x1] M (fun r M' => r = some (.int (bm_bi v)) ∧ M' = M) := by
  refine bm_C.ofV (by decide) (Nat.le_of_ble_eq_true rfl) ?_
  show bm_V L m_X11_isOrder d n n n 0 [(0, .ref x0), (1, .int x1)] [] M _
  unfold f_X11_isOrder at h
  refine bv_iload_n dX11_isOrder_0 1 rfl ?_
  refine bv_if_lt (tgt := 19) dX11_isOrder_1 (by decide) (fun cc => ?_) (fun cc => ?_)
  · replace h := bu_t h cc
    refine bv_iconst (v := 0) dX11_isOrder_19 (by decide) ?_
    obtain rfl := Option.some.inj h
    exact bw_bret (b := false) dX11_isOrder_20 rfl ⟨rfl, rfl⟩
  · replace h := bu_f h cc
    refine bv_iload_n dX11_isOrder_4 1 rfl ?_
    refine bv_aload_n dX11_isOrder_5 0 rfl ?_
    obtain ⟨q1, h⟩ := bu_io h
    obtain ⟨a2, e3, h⟩ := bu_bd h
    refine bw_getA (a := a2) hN q1 e3 dX11_isOrder_6 fl_11_28 rfl ?_
    obtain ⟨q4, h⟩ := bu_io h
    refine bw_getI hN q4 dX11_isOrder_9 fl_11_135 rfl ?_
    refine bv_icmp_ge (tgt := 19) dX11_isOrder_12 (by decide) (fun cc => ?_) (fun cc => ?_)
    · replace h := bu_t h cc
      refine bv_iconst (v := 0) dX11_isOrder_19 (by decide) ?_
      obtain rfl := Option.some.inj h
      exact bw_bret (b := false) dX11_isOrder_20 rfl ⟨rfl, rfl⟩
    · replace h := bu_f h cc
      refine bv_iconst (v := 1) dX11_isOrder_15 (by decide) ?_
      refine bv_goto (tgt := 20) dX11_isOrder_16 (by decide) ?_
      obtain rfl := Option.some.inj h
      exact bw_bret (b := true) dX11_isOrder_20 rfl ⟨rfl, rfl⟩
def f_X11_order (M : bm_M) (x0 : Nat) (x1 : Int32) (x2 : Int32) : Option (Int32) := (if bm_io x0 10 then ((f_X11_isOrder M x0 x1).bind fun v2 => (if v2 = true then (if x2 = 0 then ((M.2.2 x0 2).bind fun a5 => (if bm_io a5 0 then ((M.2.2 a5 6).bind fun a8 => (if bm_ia a8 0 x1 = true then some (M.1 a8 x1.toNatClampNeg) else none)) else none)) else (if x2 = 1 then ((M.2.2 x0 2).bind fun a12 => (if bm_io a12 0 then ((M.2.2 a12 7).bind fun a15 => (if bm_ia a15 0 x1 = true then some (M.1 a15 x1.toNatClampNeg) else none)) else none)) else (if x2 = 2 then ((M.2.2 x0 4).bind fun a19 => (if bm_io a19 8 then ((f_X8_holdersOf M a19 x1).bind fun v22 => some v22) else none)) else some (-1)))) else some (-1))) else none)
set_option maxHeartbeats 4000000 in
set_option maxRecDepth 100000 in
theorem c_X11_order {L : bm_L} {d n : Nat} {M : bm_M} {x0 : Nat} {x1 : Int32} {x2 : Int32} {v : Int32} (hN : 181 ≤ n) (h : f_X11_order M x0 x1 x2 = some v) : bm_C L m_X11_order (d + 1) n n [.ref x0, .int x1, .int x2] M (fun r M' => r = some (.int v) ∧ M' = M) := by
  refine bm_C.ofV (by decide) (Nat.le_of_ble_eq_true rfl) ?_
  show bm_V L m_X11_order (d + 1) n n n 0 [(0, .ref x0), (1, .int x1), (2, .int x2)] [] M _
  unfold f_X11_order at h
  refine bv_aload_n dX11_order_0 0 rfl ?_
  refine bv_iload_n dX11_order_1 1 rfl ?_
  obtain ⟨q1, h⟩ := bu_io h
  obtain ⟨v2, p3, h⟩ := bu_bd h
  refine bw_callV (As := [.int x1]) hN q1 ⟨_, _, rfl⟩ dX11_order_2 mc_11_194 (c_X11_isOrder (d := d + 0) hN p3) rfl rfl (by decide) ?_
  refine bw_ifB_ne (b := v2) (tgt := 10) dX11_order_5 (by decide) (fun cc => ?_) (fun cc => ?_)
  · replace h := bu_bt h cc
    refine bv_iload_n dX11_order_10 2 rfl ?_
    by_cases c4 : x2 = 0
    · replace h := bu_t h c4
      refine bv_tableIn (tgt := 36) dX11_order_11 (by rw [c4]; decide) (by rw [c4]; decide) (by rw [c4]; rfl) (by decide) ?_
      refine bv_aload_n dX11_order_36 0 rfl ?_
      obtain ⟨a5, e6, h⟩ := bu_bd h
      refine bw_getA (a := a5) hN q1 e6 dX11_order_37 fl_11_28 rfl ?_
      obtain ⟨q7, h⟩ := bu_io h
      obtain ⟨a8, e9, h⟩ := bu_bd h
      refine bw_getA (a := a8) hN q7 e9 dX11_order_40 fl_11_197 rfl ?_
      refine bv_iload_n dX11_order_43 1 rfl ?_
      obtain ⟨r10, h⟩ := bu_ia h
      refine bw_iald hN r10 dX11_order_44 ?_
      obtain rfl := Option.some.inj h
      exact bv_iret (x := (M.1 a8 x1.toNatClampNeg)) dX11_order_45 rfl ⟨rfl, rfl⟩
    · replace h := bu_f h c4
      by_cases c11 : x2 = 1
      · replace h := bu_t h c11
        refine bv_tableIn (tgt := 46) dX11_order_11 (by rw [c11]; decide) (by rw [c11]; decide) (by rw [c11]; rfl) (by decide) ?_
        refine bv_aload_n dX11_order_46 0 rfl ?_
        obtain ⟨a12, e13, h⟩ := bu_bd h
        refine bw_getA (a := a12) hN q1 e13 dX11_order_47 fl_11_28 rfl ?_
        obtain ⟨q14, h⟩ := bu_io h
        obtain ⟨a15, e16, h⟩ := bu_bd h
        refine bw_getA (a := a15) hN q14 e16 dX11_order_50 fl_11_200 rfl ?_
        refine bv_iload_n dX11_order_53 1 rfl ?_
        obtain ⟨r17, h⟩ := bu_ia h
        refine bw_iald hN r17 dX11_order_54 ?_
        obtain rfl := Option.some.inj h
        exact bv_iret (x := (M.1 a15 x1.toNatClampNeg)) dX11_order_55 rfl ⟨rfl, rfl⟩
      · replace h := bu_f h c11
        by_cases c18 : x2 = 2
        · replace h := bu_t h c18
          refine bv_tableIn (tgt := 56) dX11_order_11 (by rw [c18]; decide) (by rw [c18]; decide) (by rw [c18]; rfl) (by decide) ?_
          refine bv_aload_n dX11_order_56 0 rfl ?_
          obtain ⟨a19, e20, h⟩ := bu_bd h
          refine bw_getA (a := a19) hN q1 e20 dX11_order_57 fl_11_40 rfl ?_
          refine bv_iload_n dX11_order_60 1 rfl ?_
          obtain ⟨q21, h⟩ := bu_io h
          obtain ⟨v22, p23, h⟩ := bu_bd h
          refine bw_callV (As := [.int x1]) hN q21 ⟨_, _, rfl⟩ dX11_order_61 mc_11_203 (c_X8_holdersOf (d := d + 0) hN p23) rfl rfl (by decide) ?_
          obtain rfl := Option.some.inj h
          exact bv_iret (x := v22) dX11_order_64 rfl ⟨rfl, rfl⟩
        · replace h := bu_f h c18
          refine bv_tableOut (tgt := 65) dX11_order_11 (bm_sw (k := 3) (by decide) (fun j hj => by match j, hj with | 0, _ => exact c4 | 1, _ => exact c11 | 2, _ => exact c18)) (by decide) ?_
          refine bv_iconst (v := (-1)) dX11_order_65 (by decide) ?_
          obtain rfl := Option.some.inj h
          exact bv_iret (x := (-1)) dX11_order_66 rfl ⟨rfl, rfl⟩
  · replace h := bu_bf h cc
    refine bv_iconst (v := (-1)) dX11_order_8 (by decide) ?_
    obtain rfl := Option.some.inj h
    exact bv_iret (x := (-1)) dX11_order_9 rfl ⟨rfl, rfl⟩
def f_X11_now (M : bm_M) (x0 : Nat) (x1 : Int32) : Option (Int32) := (if x1 = 0 then (if bm_io x0 10 then ((M.2.2 x0 4).bind fun a3 => (if bm_io a3 8 then some (M.1 a3 10) else none)) else none) else (if x1 = 1 then (if bm_io x0 10 then ((M.2.2 x0 4).bind fun a8 => (if bm_io a8 8 then some (M.1 a8 7) else none)) else none) else (if x1 = 2 then (if bm_io x0 10 then ((M.2.2 x0 4).bind fun a13 => (if bm_io a13 8 then some (M.1 a13 8) else none)) else none) else (if x1 = 3 then (if bm_io x0 10 then ((M.2.2 x0 4).bind fun a18 => (if bm_io a18 8 then ((f_X8_holders M a18).bind fun v21 => some v21) else none)) else none) else (if x1 = 4 then (if bm_io x0 10 then ((M.2.2 x0 4).bind fun a25 => (if bm_io a25 8 then some (M.1 a25 9) else none)) else none) else (if x1 = 5 then (if bm_io x0 10 then ((M.2.2 x0 4).bind fun a30 => (if bm_io a30 8 then ((f_X8_allLost M a30).bind fun v33 => some v33) else none)) else none) else (if x1 = 6 then (if bm_io x0 10 then ((M.2.2 x0 4).bind fun a37 => (if bm_io a37 8 then some (M.1 a37 11) else none)) else none) else some (-1))))))))
set_option maxHeartbeats 4000000 in
set_option maxRecDepth 100000 in
theorem c_X11_now {L : bm_L} {d n : Nat} {M : bm_M} {x0 : Nat} {x1 : Int32} {v : Int32} (hN : 181 ≤ n) (h : f_X11_now M x0 x1 = some v) : bm_C L m_X11_now (d + 2) n n [.ref x0, .int x1] M (fun r M' => r = some (.int v) ∧ M' = M) := by
  refine bm_C.ofV (by decide) (Nat.le_of_ble_eq_true rfl) ?_
  show bm_V L m_X11_now (d + 2) n n n 0 [(0, .ref x0), (1, .int x1)] [] M _
  unfold f_X11_now at h
  refine bv_iload_n dX11_now_0 1 rfl ?_
  by_cases c1 : x1 = 0
  · replace h := bu_t h c1
    refine bv_tableIn (tgt := 44) dX11_now_1 (by rw [c1]; decide) (by rw [c1]; decide) (by rw [c1]; rfl) (by decide) ?_
    refine bv_aload_n dX11_now_44 0 rfl ?_
    obtain ⟨q2, h⟩ := bu_io h
    obtain ⟨a3, e4, h⟩ := bu_bd h
    refine bw_getA (a := a3) hN q2 e4 dX11_now_45 fl_11_40 rfl ?_
    obtain ⟨q5, h⟩ := bu_io h
    refine bw_getI hN q5 dX11_now_48 fl_11_206 rfl ?_
    obtain rfl := Option.some.inj h
    exact bv_iret (x := (M.1 a3 10)) dX11_now_51 rfl ⟨rfl, rfl⟩
  · replace h := bu_f h c1
    by_cases c6 : x1 = 1
    · replace h := bu_t h c6
      refine bv_tableIn (tgt := 52) dX11_now_1 (by rw [c6]; decide) (by rw [c6]; decide) (by rw [c6]; rfl) (by decide) ?_
      refine bv_aload_n dX11_now_52 0 rfl ?_
      obtain ⟨q7, h⟩ := bu_io h
      obtain ⟨a8, e9, h⟩ := bu_bd h
      refine bw_getA (a := a8) hN q7 e9 dX11_now_53 fl_11_40 rfl ?_
      obtain ⟨q10, h⟩ := bu_io h
      refine bw_getI hN q10 dX11_now_56 fl_11_169 rfl ?_
      obtain rfl := Option.some.inj h
      exact bv_iret (x := (M.1 a8 7)) dX11_now_59 rfl ⟨rfl, rfl⟩
    · replace h := bu_f h c6
      by_cases c11 : x1 = 2
      · replace h := bu_t h c11
        refine bv_tableIn (tgt := 60) dX11_now_1 (by rw [c11]; decide) (by rw [c11]; decide) (by rw [c11]; rfl) (by decide) ?_
        refine bv_aload_n dX11_now_60 0 rfl ?_
        obtain ⟨q12, h⟩ := bu_io h
        obtain ⟨a13, e14, h⟩ := bu_bd h
        refine bw_getA (a := a13) hN q12 e14 dX11_now_61 fl_11_40 rfl ?_
        obtain ⟨q15, h⟩ := bu_io h
        refine bw_getI hN q15 dX11_now_64 fl_11_176 rfl ?_
        obtain rfl := Option.some.inj h
        exact bv_iret (x := (M.1 a13 8)) dX11_now_67 rfl ⟨rfl, rfl⟩
      · replace h := bu_f h c11
        by_cases c16 : x1 = 3
        · replace h := bu_t h c16
          refine bv_tableIn (tgt := 68) dX11_now_1 (by rw [c16]; decide) (by rw [c16]; decide) (by rw [c16]; rfl) (by decide) ?_
          refine bv_aload_n dX11_now_68 0 rfl ?_
          obtain ⟨q17, h⟩ := bu_io h
          obtain ⟨a18, e19, h⟩ := bu_bd h
          refine bw_getA (a := a18) hN q17 e19 dX11_now_69 fl_11_40 rfl ?_
          obtain ⟨q20, h⟩ := bu_io h
          obtain ⟨v21, p22, h⟩ := bu_bd h
          refine bw_callV (As := []) hN q20 ⟨_, _, rfl⟩ dX11_now_72 mc_11_209 (c_X8_holders (d := d + 0) hN p22) rfl rfl (by decide) ?_
          obtain rfl := Option.some.inj h
          exact bv_iret (x := v21) dX11_now_75 rfl ⟨rfl, rfl⟩
        · replace h := bu_f h c16
          by_cases c23 : x1 = 4
          · replace h := bu_t h c23
            refine bv_tableIn (tgt := 76) dX11_now_1 (by rw [c23]; decide) (by rw [c23]; decide) (by rw [c23]; rfl) (by decide) ?_
            refine bv_aload_n dX11_now_76 0 rfl ?_
            obtain ⟨q24, h⟩ := bu_io h
            obtain ⟨a25, e26, h⟩ := bu_bd h
            refine bw_getA (a := a25) hN q24 e26 dX11_now_77 fl_11_40 rfl ?_
            obtain ⟨q27, h⟩ := bu_io h
            refine bw_getI hN q27 dX11_now_80 fl_11_185 rfl ?_
            obtain rfl := Option.some.inj h
            exact bv_iret (x := (M.1 a25 9)) dX11_now_83 rfl ⟨rfl, rfl⟩
          · replace h := bu_f h c23
            by_cases c28 : x1 = 5
            · replace h := bu_t h c28
              refine bv_tableIn (tgt := 84) dX11_now_1 (by rw [c28]; decide) (by rw [c28]; decide) (by rw [c28]; rfl) (by decide) ?_
              refine bv_aload_n dX11_now_84 0 rfl ?_
              obtain ⟨q29, h⟩ := bu_io h
              obtain ⟨a30, e31, h⟩ := bu_bd h
              refine bw_getA (a := a30) hN q29 e31 dX11_now_85 fl_11_40 rfl ?_
              obtain ⟨q32, h⟩ := bu_io h
              obtain ⟨v33, p34, h⟩ := bu_bd h
              refine bw_callV (As := []) hN q32 ⟨_, _, rfl⟩ dX11_now_88 mc_11_213 (c_X8_allLost (d := d + 1) hN p34) rfl rfl (by decide) ?_
              obtain rfl := Option.some.inj h
              exact bv_iret (x := v33) dX11_now_91 rfl ⟨rfl, rfl⟩
            · replace h := bu_f h c28
              by_cases c35 : x1 = 6
              · replace h := bu_t h c35
                refine bv_tableIn (tgt := 92) dX11_now_1 (by rw [c35]; decide) (by rw [c35]; decide) (by rw [c35]; rfl) (by decide) ?_
                refine bv_aload_n dX11_now_92 0 rfl ?_
                obtain ⟨q36, h⟩ := bu_io h
                obtain ⟨a37, e38, h⟩ := bu_bd h
                refine bw_getA (a := a37) hN q36 e38 dX11_now_93 fl_11_40 rfl ?_
                obtain ⟨q39, h⟩ := bu_io h
                refine bw_getI hN q39 dX11_now_96 fl_11_216 rfl ?_
                obtain rfl := Option.some.inj h
                exact bv_iret (x := (M.1 a37 11)) dX11_now_99 rfl ⟨rfl, rfl⟩
              · replace h := bu_f h c35
                refine bv_tableOut (tgt := 100) dX11_now_1 (bm_sw (k := 7) (by decide) (fun j hj => by match j, hj with | 0, _ => exact c1 | 1, _ => exact c6 | 2, _ => exact c11 | 3, _ => exact c16 | 4, _ => exact c23 | 5, _ => exact c28 | 6, _ => exact c35)) (by decide) ?_
                refine bv_iconst (v := (-1)) dX11_now_100 (by decide) ?_
                obtain rfl := Option.some.inj h
                exact bv_iret (x := (-1)) dX11_now_101 rfl ⟨rfl, rfl⟩
def f_X11_settleTrial (M : bm_M) (x0 : Nat) : Option (bm_M) := (if bm_io x0 10 then ((M.2.2 x0 6).bind fun a2 => ((M.2.2 x0 4).bind fun a4 => (if bm_io a2 4 then ((f_X4_keep M a2 a4).bind fun v7 => ((v7.2.2 x0 4).bind fun a9 => ((v7.2.2 x0 5).bind fun a11 => (if bm_io a9 8 then ((f_X8_copyFrom v7 a9 a11).bind fun v14 => some v14) else none)))) else none))) else none)
set_option maxHeartbeats 4000000 in
set_option maxRecDepth 100000 in
theorem c_X11_settleTrial {L : bm_L} {d n : Nat} {M : bm_M} {x0 : Nat} {v : bm_M} (hN : 181 ≤ n) (h : f_X11_settleTrial M x0 = some v) : bm_C L m_X11_settleTrial (d + 3) n n [.ref x0] M (fun r M' => r = none ∧ M' = v) := by
  refine bm_C.ofV (by decide) (Nat.le_of_ble_eq_true rfl) ?_
  show bm_V L m_X11_settleTrial (d + 3) n n n 0 [(0, .ref x0)] [] M _
  unfold f_X11_settleTrial at h
  refine bv_aload_n dX11_settleTrial_0 0 rfl ?_
  obtain ⟨q1, h⟩ := bu_io h
  obtain ⟨a2, e3, h⟩ := bu_bd h
  refine bw_getA (a := a2) hN q1 e3 dX11_settleTrial_1 fl_11_50 rfl ?_
  refine bv_aload_n dX11_settleTrial_4 0 rfl ?_
  obtain ⟨a4, e5, h⟩ := bu_bd h
  refine bw_getA (a := a4) hN q1 e5 dX11_settleTrial_5 fl_11_40 rfl ?_
  obtain ⟨q6, h⟩ := bu_io h
  obtain ⟨v7, p8, h⟩ := bu_bd h
  refine bw_callVv (As := [.ref a4]) hN q6 ⟨_, _, rfl⟩ dX11_settleTrial_8 mc_11_359 (c_X4_keep (d := d + 0) hN p8) rfl rfl (by decide) ?_
  refine bv_aload_n dX11_settleTrial_11 0 rfl ?_
  obtain ⟨a9, e10, h⟩ := bu_bd h
  refine bw_getA (a := a9) hN q1 e10 dX11_settleTrial_12 fl_11_40 rfl ?_
  refine bv_aload_n dX11_settleTrial_15 0 rfl ?_
  obtain ⟨a11, e12, h⟩ := bu_bd h
  refine bw_getA (a := a11) hN q1 e12 dX11_settleTrial_16 fl_11_44 rfl ?_
  obtain ⟨q13, h⟩ := bu_io h
  obtain ⟨v14, p15, h⟩ := bu_bd h
  refine bw_callVv (As := [.ref a11]) hN q13 ⟨_, _, rfl⟩ dX11_settleTrial_19 mc_11_226 (c_X8_copyFrom (d := d + 1) hN p15) rfl rfl (by decide) ?_
  obtain rfl := Option.some.inj h
  exact bv_vret dX11_settleTrial_22 rfl ⟨rfl, rfl⟩
def f_X11_act (M : bm_M) (x0 : Nat) (x1 : Int32) (x2 : Int32) (x3 : Int32) : Option (Int32 × bm_M) := (if bm_io x0 10 then ((M.2.2 x0 5).bind fun a2 => ((M.2.2 x0 4).bind fun a4 => (if bm_io a2 8 then ((f_X8_copyFrom M a2 a4).bind fun v7 => ((v7.2.2 x0 5).bind fun a9 => (if bm_io a9 8 then ((f_X8_live v7 a9 x1 x2 x3).bind fun v12 => (if v12.1 = 0 then ((f_X11_settleTrial v12.2 x0).bind fun v14 => some (v12.1, v14)) else some (v12.1, v12.2))) else none))) else none))) else none)
set_option maxHeartbeats 4000000 in
set_option maxRecDepth 100000 in
theorem c_X11_act {L : bm_L} {d n : Nat} {M : bm_M} {x0 : Nat} {x1 : Int32} {x2 : Int32} {x3 : Int32} {v : Int32 × bm_M} (hN : 181 ≤ n) (h : f_X11_act M x0 x1 x2 x3 = some v) : bm_C L m_X11_act (d + 6) n n [.ref x0, .int x1, .int x2, .int x3] M (fun r M' => r = some (.int v.1) ∧ M' = v.2) := by
  refine bm_C.ofV (by decide) (Nat.le_of_ble_eq_true rfl) ?_
  show bm_V L m_X11_act (d + 6) n n n 0 [(0, .ref x0), (1, .int x1), (2, .int x2), (3, .int x3)] [] M _
  unfold f_X11_act at h
  refine bv_aload_n dX11_act_0 0 rfl ?_
  obtain ⟨q1, h⟩ := bu_io h
  obtain ⟨a2, e3, h⟩ := bu_bd h
  refine bw_getA (a := a2) hN q1 e3 dX11_act_1 fl_11_44 rfl ?_
  refine bv_aload_n dX11_act_4 0 rfl ?_
  obtain ⟨a4, e5, h⟩ := bu_bd h
  refine bw_getA (a := a4) hN q1 e5 dX11_act_5 fl_11_40 rfl ?_
  obtain ⟨q6, h⟩ := bu_io h
  obtain ⟨v7, p8, h⟩ := bu_bd h
  refine bw_callVv (As := [.ref a4]) hN q6 ⟨_, _, rfl⟩ dX11_act_8 mc_11_226 (c_X8_copyFrom (d := d + 4) hN p8) rfl rfl (by decide) ?_
  refine bv_aload_n dX11_act_11 0 rfl ?_
  obtain ⟨a9, e10, h⟩ := bu_bd h
  refine bw_getA (a := a9) hN q1 e10 dX11_act_12 fl_11_44 rfl ?_
  refine bv_iload_n dX11_act_15 1 rfl ?_
  refine bv_iload_n dX11_act_16 2 rfl ?_
  refine bv_iload_n dX11_act_17 3 rfl ?_
  obtain ⟨q11, h⟩ := bu_io h
  obtain ⟨v12, p13, h⟩ := bu_bd h
  refine bw_callV (As := [.int x1, .int x2, .int x3]) hN q11 ⟨_, _, rfl⟩ dX11_act_18 mc_11_356 (c_X8_live (d := d + 0) hN p13) rfl rfl (by decide) ?_
  refine bv_istore (ls1 := [(0, .ref x0), (1, .int x1), (2, .int x2), (3, .int x3), (4, .int v12.1)]) dX11_act_21 (by decide) rfl rfl ?_
  refine bv_iload dX11_act_23 4 rfl ?_
  refine bv_if_ne (tgt := 32) dX11_act_25 (by decide) (fun cc => ?_) (fun cc => ?_)
  · replace h := bu_f h cc
    refine bv_iload dX11_act_32 4 rfl ?_
    obtain rfl := Option.some.inj h
    exact bv_iret (x := v12.1) dX11_act_34 rfl ⟨rfl, rfl⟩
  · replace h := bu_t h cc
    refine bv_aload_n dX11_act_28 0 rfl ?_
    obtain ⟨v14, p15, h⟩ := bu_bd h
    refine bw_callVv (As := []) hN q1 ⟨_, _, rfl⟩ dX11_act_29 mc_11_232 (c_X11_settleTrial (d := d + 2) hN p15) rfl rfl (by decide) ?_
    refine bv_iload dX11_act_32 4 rfl ?_
    obtain rfl := Option.some.inj h
    exact bv_iret (x := v12.1) dX11_act_34 rfl ⟨rfl, rfl⟩
def f_X11_isLift (x0 : Int32) : Bool := (if x0 < 1 then false else (if 3 < x0 then false else true))
set_option maxHeartbeats 4000000 in
set_option maxRecDepth 100000 in
theorem c_X11_isLift {L : bm_L} {d n : Nat} {M : bm_M} {x0 : Int32} {v : Bool} (hN : 181 ≤ n) (h : f_X11_isLift x0 = v) : bm_C L m_X11_isLift d n n [.int x0] M (fun r M' => r = some (.int (bm_bi v)) ∧ M' = M) := by
  refine bm_C.ofV (by decide) (Nat.le_of_ble_eq_true rfl) ?_
  show bm_V L m_X11_isLift d n n n 0 [(0, .int x0)] [] M _
  unfold f_X11_isLift at h
  refine bv_iload_n dX11_isLift_0 0 rfl ?_
  refine bv_iconst (v := 1) dX11_isLift_1 (by decide) ?_
  refine bv_icmp_lt (tgt := 14) dX11_isLift_2 (by decide) (fun cc => ?_) (fun cc => ?_)
  · replace h := bu_t h cc
    refine bv_iconst (v := 0) dX11_isLift_14 (by decide) ?_
    subst h
    exact bw_bret (b := false) dX11_isLift_15 rfl ⟨rfl, rfl⟩
  · replace h := bu_f h cc
    refine bv_iload_n dX11_isLift_5 0 rfl ?_
    refine bv_iconst (v := 3) dX11_isLift_6 (by decide) ?_
    refine bv_icmp_gt (tgt := 14) dX11_isLift_7 (by decide) (fun cc => ?_) (fun cc => ?_)
    · replace h := bu_t h cc
      refine bv_iconst (v := 0) dX11_isLift_14 (by decide) ?_
      subst h
      exact bw_bret (b := false) dX11_isLift_15 rfl ⟨rfl, rfl⟩
    · replace h := bu_f h cc
      refine bv_iconst (v := 1) dX11_isLift_10 (by decide) ?_
      refine bv_goto (tgt := 15) dX11_isLift_11 (by decide) ?_
      subst h
      exact bw_bret (b := true) dX11_isLift_15 rfl ⟨rfl, rfl⟩
def f_X11_lift (M : bm_M) (x0 : Nat) (x1 : Int32) (x2 : Int32) : Option (Int32 × bm_M) := (if bm_io x0 10 then ((f_X11_isMan M x0 x1).bind fun v2 => (if v2 = true then (if (f_X11_isLift x2) = true then ((f_X11_act M x0 0 x1 x2).bind fun v4 => some (v4.1, v4.2)) else some ((-1), M)) else some ((-1), M))) else none)
set_option maxHeartbeats 4000000 in
set_option maxRecDepth 100000 in
theorem c_X11_lift {L : bm_L} {d n : Nat} {M : bm_M} {x0 : Nat} {x1 : Int32} {x2 : Int32} {v : Int32 × bm_M} (hN : 181 ≤ n) (h : f_X11_lift M x0 x1 x2 = some v) : bm_C L m_X11_lift (d + 7) n n [.ref x0, .int x1, .int x2] M (fun r M' => r = some (.int v.1) ∧ M' = v.2) := by
  refine bm_C.ofV (by decide) (Nat.le_of_ble_eq_true rfl) ?_
  show bm_V L m_X11_lift (d + 7) n n n 0 [(0, .ref x0), (1, .int x1), (2, .int x2)] [] M _
  unfold f_X11_lift at h
  refine bv_aload_n dX11_lift_0 0 rfl ?_
  refine bv_iload_n dX11_lift_1 1 rfl ?_
  obtain ⟨q1, h⟩ := bu_io h
  obtain ⟨v2, p3, h⟩ := bu_bd h
  refine bw_callV (As := [.int x1]) hN q1 ⟨_, _, rfl⟩ dX11_lift_2 mc_11_147 (c_X11_isMan (d := d + 6) hN p3) rfl rfl (by decide) ?_
  refine bw_ifB_eq (b := v2) (tgt := 25) dX11_lift_5 (by decide) (fun cc => ?_) (fun cc => ?_)
  · replace h := bu_bf h cc
    refine bv_iconst (v := (-1)) dX11_lift_25 (by decide) ?_
    obtain rfl := Option.some.inj h
    exact bv_iret (x := (-1)) dX11_lift_26 rfl ⟨rfl, rfl⟩
  · replace h := bu_bt h cc
    refine bv_iload_n dX11_lift_8 2 rfl ?_
    refine bw_callS (As := [.int x2]) dX11_lift_9 mc_11_219 (c_X11_isLift (d := d + 6) hN rfl) rfl rfl (by decide) ?_
    refine bw_ifB_eq (b := (f_X11_isLift x2)) (tgt := 25) dX11_lift_12 (by decide) (fun cc => ?_) (fun cc => ?_)
    · replace h := bu_bf h cc
      refine bv_iconst (v := (-1)) dX11_lift_25 (by decide) ?_
      obtain rfl := Option.some.inj h
      exact bv_iret (x := (-1)) dX11_lift_26 rfl ⟨rfl, rfl⟩
    · replace h := bu_bt h cc
      refine bv_aload_n dX11_lift_15 0 rfl ?_
      refine bv_iconst (v := 0) dX11_lift_16 (by decide) ?_
      refine bv_iload_n dX11_lift_17 1 rfl ?_
      refine bv_iload_n dX11_lift_18 2 rfl ?_
      obtain ⟨v4, p5, h⟩ := bu_bd h
      refine bw_callV (As := [.int 0, .int x1, .int x2]) hN q1 ⟨_, _, rfl⟩ dX11_lift_19 mc_11_222 (c_X11_act (d := d + 0) hN p5) rfl rfl (by decide) ?_
      refine bv_goto (tgt := 26) dX11_lift_22 (by decide) ?_
      obtain rfl := Option.some.inj h
      exact bv_iret (x := v4.1) dX11_lift_26 rfl ⟨rfl, rfl⟩
def f_X11_give (M : bm_M) (x0 : Nat) (x1 : Int32) (x2 : Int32) : Option (Int32 × bm_M) := (if bm_io x0 10 then ((f_X11_isMan M x0 x1).bind fun v2 => (if v2 = true then ((f_X11_isOrder M x0 x2).bind fun v4 => (if v4 = true then ((f_X11_act M x0 1 x1 x2).bind fun v6 => some (v6.1, v6.2)) else some ((-1), M))) else some ((-1), M))) else none)
set_option maxHeartbeats 4000000 in
set_option maxRecDepth 100000 in
theorem c_X11_give {L : bm_L} {d n : Nat} {M : bm_M} {x0 : Nat} {x1 : Int32} {x2 : Int32} {v : Int32 × bm_M} (hN : 181 ≤ n) (h : f_X11_give M x0 x1 x2 = some v) : bm_C L m_X11_give (d + 7) n n [.ref x0, .int x1, .int x2] M (fun r M' => r = some (.int v.1) ∧ M' = v.2) := by
  refine bm_C.ofV (by decide) (Nat.le_of_ble_eq_true rfl) ?_
  show bm_V L m_X11_give (d + 7) n n n 0 [(0, .ref x0), (1, .int x1), (2, .int x2)] [] M _
  unfold f_X11_give at h
  refine bv_aload_n dX11_give_0 0 rfl ?_
  refine bv_iload_n dX11_give_1 1 rfl ?_
  obtain ⟨q1, h⟩ := bu_io h
  obtain ⟨v2, p3, h⟩ := bu_bd h
  refine bw_callV (As := [.int x1]) hN q1 ⟨_, _, rfl⟩ dX11_give_2 mc_11_147 (c_X11_isMan (d := d + 6) hN p3) rfl rfl (by decide) ?_
  refine bw_ifB_eq (b := v2) (tgt := 26) dX11_give_5 (by decide) (fun cc => ?_) (fun cc => ?_)
  · replace h := bu_bf h cc
    refine bv_iconst (v := (-1)) dX11_give_26 (by decide) ?_
    obtain rfl := Option.some.inj h
    exact bv_iret (x := (-1)) dX11_give_27 rfl ⟨rfl, rfl⟩
  · replace h := bu_bt h cc
    refine bv_aload_n dX11_give_8 0 rfl ?_
    refine bv_iload_n dX11_give_9 2 rfl ?_
    obtain ⟨v4, p5, h⟩ := bu_bd h
    refine bw_callV (As := [.int x2]) hN q1 ⟨_, _, rfl⟩ dX11_give_10 mc_11_194 (c_X11_isOrder (d := d + 6) hN p5) rfl rfl (by decide) ?_
    refine bw_ifB_eq (b := v4) (tgt := 26) dX11_give_13 (by decide) (fun cc => ?_) (fun cc => ?_)
    · replace h := bu_bf h cc
      refine bv_iconst (v := (-1)) dX11_give_26 (by decide) ?_
      obtain rfl := Option.some.inj h
      exact bv_iret (x := (-1)) dX11_give_27 rfl ⟨rfl, rfl⟩
    · replace h := bu_bt h cc
      refine bv_aload_n dX11_give_16 0 rfl ?_
      refine bv_iconst (v := 1) dX11_give_17 (by decide) ?_
      refine bv_iload_n dX11_give_18 1 rfl ?_
      refine bv_iload_n dX11_give_19 2 rfl ?_
      obtain ⟨v6, p7, h⟩ := bu_bd h
      refine bw_callV (As := [.int 1, .int x1, .int x2]) hN q1 ⟨_, _, rfl⟩ dX11_give_20 mc_11_222 (c_X11_act (d := d + 0) hN p7) rfl rfl (by decide) ?_
      refine bv_goto (tgt := 27) dX11_give_23 (by decide) ?_
      obtain rfl := Option.some.inj h
      exact bv_iret (x := v6.1) dX11_give_27 rfl ⟨rfl, rfl⟩
def f_X11_sleep (M : bm_M) (x0 : Nat) (x1 : Int32) : Option (Int32 × bm_M) := (if bm_io x0 10 then ((f_X11_isMan M x0 x1).bind fun v2 => (if v2 = true then ((f_X11_act M x0 2 x1 0).bind fun v4 => some (v4.1, v4.2)) else some ((-1), M))) else none)
set_option maxHeartbeats 4000000 in
set_option maxRecDepth 100000 in
theorem c_X11_sleep {L : bm_L} {d n : Nat} {M : bm_M} {x0 : Nat} {x1 : Int32} {v : Int32 × bm_M} (hN : 181 ≤ n) (h : f_X11_sleep M x0 x1 = some v) : bm_C L m_X11_sleep (d + 7) n n [.ref x0, .int x1] M (fun r M' => r = some (.int v.1) ∧ M' = v.2) := by
  refine bm_C.ofV (by decide) (Nat.le_of_ble_eq_true rfl) ?_
  show bm_V L m_X11_sleep (d + 7) n n n 0 [(0, .ref x0), (1, .int x1)] [] M _
  unfold f_X11_sleep at h
  refine bv_aload_n dX11_sleep_0 0 rfl ?_
  refine bv_iload_n dX11_sleep_1 1 rfl ?_
  obtain ⟨q1, h⟩ := bu_io h
  obtain ⟨v2, p3, h⟩ := bu_bd h
  refine bw_callV (As := [.int x1]) hN q1 ⟨_, _, rfl⟩ dX11_sleep_2 mc_11_147 (c_X11_isMan (d := d + 6) hN p3) rfl rfl (by decide) ?_
  refine bw_ifB_eq (b := v2) (tgt := 18) dX11_sleep_5 (by decide) (fun cc => ?_) (fun cc => ?_)
  · replace h := bu_bf h cc
    refine bv_iconst (v := (-1)) dX11_sleep_18 (by decide) ?_
    obtain rfl := Option.some.inj h
    exact bv_iret (x := (-1)) dX11_sleep_19 rfl ⟨rfl, rfl⟩
  · replace h := bu_bt h cc
    refine bv_aload_n dX11_sleep_8 0 rfl ?_
    refine bv_iconst (v := 2) dX11_sleep_9 (by decide) ?_
    refine bv_iload_n dX11_sleep_10 1 rfl ?_
    refine bv_iconst (v := 0) dX11_sleep_11 (by decide) ?_
    obtain ⟨v4, p5, h⟩ := bu_bd h
    refine bw_callV (As := [.int 2, .int x1, .int 0]) hN q1 ⟨_, _, rfl⟩ dX11_sleep_12 mc_11_222 (c_X11_act (d := d + 0) hN p5) rfl rfl (by decide) ?_
    refine bv_goto (tgt := 19) dX11_sleep_15 (by decide) ?_
    obtain rfl := Option.some.inj h
    exact bv_iret (x := v4.1) dX11_sleep_19 rfl ⟨rfl, rfl⟩
def f_X11_wake (M : bm_M) (x0 : Nat) (x1 : Int32) : Option (Int32 × bm_M) := (if bm_io x0 10 then ((f_X11_isMan M x0 x1).bind fun v2 => (if v2 = true then ((f_X11_act M x0 3 x1 0).bind fun v4 => some (v4.1, v4.2)) else some ((-1), M))) else none)
set_option maxHeartbeats 4000000 in
set_option maxRecDepth 100000 in
theorem c_X11_wake {L : bm_L} {d n : Nat} {M : bm_M} {x0 : Nat} {x1 : Int32} {v : Int32 × bm_M} (hN : 181 ≤ n) (h : f_X11_wake M x0 x1 = some v) : bm_C L m_X11_wake (d + 7) n n [.ref x0, .int x1] M (fun r M' => r = some (.int v.1) ∧ M' = v.2) := by
  refine bm_C.ofV (by decide) (Nat.le_of_ble_eq_true rfl) ?_
  show bm_V L m_X11_wake (d + 7) n n n 0 [(0, .ref x0), (1, .int x1)] [] M _
  unfold f_X11_wake at h
  refine bv_aload_n dX11_wake_0 0 rfl ?_
  refine bv_iload_n dX11_wake_1 1 rfl ?_
  obtain ⟨q1, h⟩ := bu_io h
  obtain ⟨v2, p3, h⟩ := bu_bd h
  refine bw_callV (As := [.int x1]) hN q1 ⟨_, _, rfl⟩ dX11_wake_2 mc_11_147 (c_X11_isMan (d := d + 6) hN p3) rfl rfl (by decide) ?_
  refine bw_ifB_eq (b := v2) (tgt := 18) dX11_wake_5 (by decide) (fun cc => ?_) (fun cc => ?_)
  · replace h := bu_bf h cc
    refine bv_iconst (v := (-1)) dX11_wake_18 (by decide) ?_
    obtain rfl := Option.some.inj h
    exact bv_iret (x := (-1)) dX11_wake_19 rfl ⟨rfl, rfl⟩
  · replace h := bu_bt h cc
    refine bv_aload_n dX11_wake_8 0 rfl ?_
    refine bv_iconst (v := 3) dX11_wake_9 (by decide) ?_
    refine bv_iload_n dX11_wake_10 1 rfl ?_
    refine bv_iconst (v := 0) dX11_wake_11 (by decide) ?_
    obtain ⟨v4, p5, h⟩ := bu_bd h
    refine bw_callV (As := [.int 3, .int x1, .int 0]) hN q1 ⟨_, _, rfl⟩ dX11_wake_12 mc_11_222 (c_X11_act (d := d + 0) hN p5) rfl rfl (by decide) ?_
    refine bv_goto (tgt := 19) dX11_wake_15 (by decide) ?_
    obtain rfl := Option.some.inj h
    exact bv_iret (x := v4.1) dX11_wake_19 rfl ⟨rfl, rfl⟩
def f_X11_soot (M : bm_M) (x0 : Nat) (x1 : Int32) : Option (Int32 × bm_M) := (if bm_io x0 10 then ((f_X11_isMan M x0 x1).bind fun v2 => (if v2 = true then ((f_X11_act M x0 4 x1 0).bind fun v4 => some (v4.1, v4.2)) else some ((-1), M))) else none)
set_option maxHeartbeats 4000000 in
set_option maxRecDepth 100000 in
theorem c_X11_soot {L : bm_L} {d n : Nat} {M : bm_M} {x0 : Nat} {x1 : Int32} {v : Int32 × bm_M} (hN : 181 ≤ n) (h : f_X11_soot M x0 x1 = some v) : bm_C L m_X11_soot (d + 7) n n [.ref x0, .int x1] M (fun r M' => r = some (.int v.1) ∧ M' = v.2) := by
  refine bm_C.ofV (by decide) (Nat.le_of_ble_eq_true rfl) ?_
  show bm_V L m_X11_soot (d + 7) n n n 0 [(0, .ref x0), (1, .int x1)] [] M _
  unfold f_X11_soot at h
  refine bv_aload_n dX11_soot_0 0 rfl ?_
  refine bv_iload_n dX11_soot_1 1 rfl ?_
  obtain ⟨q1, h⟩ := bu_io h
  obtain ⟨v2, p3, h⟩ := bu_bd h
  refine bw_callV (As := [.int x1]) hN q1 ⟨_, _, rfl⟩ dX11_soot_2 mc_11_147 (c_X11_isMan (d := d + 6) hN p3) rfl rfl (by decide) ?_
  refine bw_ifB_eq (b := v2) (tgt := 18) dX11_soot_5 (by decide) (fun cc => ?_) (fun cc => ?_)
  · replace h := bu_bf h cc
    refine bv_iconst (v := (-1)) dX11_soot_18 (by decide) ?_
    obtain rfl := Option.some.inj h
    exact bv_iret (x := (-1)) dX11_soot_19 rfl ⟨rfl, rfl⟩
  · replace h := bu_bt h cc
    refine bv_aload_n dX11_soot_8 0 rfl ?_
    refine bv_iconst (v := 4) dX11_soot_9 (by decide) ?_
    refine bv_iload_n dX11_soot_10 1 rfl ?_
    refine bv_iconst (v := 0) dX11_soot_11 (by decide) ?_
    obtain ⟨v4, p5, h⟩ := bu_bd h
    refine bw_callV (As := [.int 4, .int x1, .int 0]) hN q1 ⟨_, _, rfl⟩ dX11_soot_12 mc_11_222 (c_X11_act (d := d + 0) hN p5) rfl rfl (by decide) ?_
    refine bv_goto (tgt := 19) dX11_soot_15 (by decide) ?_
    obtain rfl := Option.some.inj h
    exact bv_iret (x := v4.1) dX11_soot_19 rfl ⟨rfl, rfl⟩
def f_X11_go (M : bm_M) (x0 : Nat) (x1 : Int32) (x2 : Int32) : Option (Int32 × bm_M) := (if bm_io x0 10 then ((f_X11_isMan M x0 x1).bind fun v2 => (if v2 = true then (if x2 < 0 then some ((-1), M) else (if 4 ≤ x2 then some ((-1), M) else ((f_X11_act M x0 5 x1 x2).bind fun v4 => some (v4.1, v4.2)))) else some ((-1), M))) else none)
set_option maxHeartbeats 4000000 in
set_option maxRecDepth 100000 in
theorem c_X11_go {L : bm_L} {d n : Nat} {M : bm_M} {x0 : Nat} {x1 : Int32} {x2 : Int32} {v : Int32 × bm_M} (hN : 181 ≤ n) (h : f_X11_go M x0 x1 x2 = some v) : bm_C L m_X11_go (d + 7) n n [.ref x0, .int x1, .int x2] M (fun r M' => r = some (.int v.1) ∧ M' = v.2) := by
  refine bm_C.ofV (by decide) (Nat.le_of_ble_eq_true rfl) ?_
  show bm_V L m_X11_go (d + 7) n n n 0 [(0, .ref x0), (1, .int x1), (2, .int x2)] [] M _
  unfold f_X11_go at h
  refine bv_aload_n dX11_go_0 0 rfl ?_
  refine bv_iload_n dX11_go_1 1 rfl ?_
  obtain ⟨q1, h⟩ := bu_io h
  obtain ⟨v2, p3, h⟩ := bu_bd h
  refine bw_callV (As := [.int x1]) hN q1 ⟨_, _, rfl⟩ dX11_go_2 mc_11_147 (c_X11_isMan (d := d + 6) hN p3) rfl rfl (by decide) ?_
  refine bw_ifB_eq (b := v2) (tgt := 27) dX11_go_5 (by decide) (fun cc => ?_) (fun cc => ?_)
  · replace h := bu_bf h cc
    refine bv_iconst (v := (-1)) dX11_go_27 (by decide) ?_
    obtain rfl := Option.some.inj h
    exact bv_iret (x := (-1)) dX11_go_28 rfl ⟨rfl, rfl⟩
  · replace h := bu_bt h cc
    refine bv_iload_n dX11_go_8 2 rfl ?_
    refine bv_if_lt (tgt := 27) dX11_go_9 (by decide) (fun cc => ?_) (fun cc => ?_)
    · replace h := bu_t h cc
      refine bv_iconst (v := (-1)) dX11_go_27 (by decide) ?_
      obtain rfl := Option.some.inj h
      exact bv_iret (x := (-1)) dX11_go_28 rfl ⟨rfl, rfl⟩
    · replace h := bu_f h cc
      refine bv_iload_n dX11_go_12 2 rfl ?_
      refine bv_iconst (v := 4) dX11_go_13 (by decide) ?_
      refine bv_icmp_ge (tgt := 27) dX11_go_14 (by decide) (fun cc => ?_) (fun cc => ?_)
      · replace h := bu_t h cc
        refine bv_iconst (v := (-1)) dX11_go_27 (by decide) ?_
        obtain rfl := Option.some.inj h
        exact bv_iret (x := (-1)) dX11_go_28 rfl ⟨rfl, rfl⟩
      · replace h := bu_f h cc
        refine bv_aload_n dX11_go_17 0 rfl ?_
        refine bv_iconst (v := 5) dX11_go_18 (by decide) ?_
        refine bv_iload_n dX11_go_19 1 rfl ?_
        refine bv_iload_n dX11_go_20 2 rfl ?_
        obtain ⟨v4, p5, h⟩ := bu_bd h
        refine bw_callV (As := [.int 5, .int x1, .int x2]) hN q1 ⟨_, _, rfl⟩ dX11_go_21 mc_11_222 (c_X11_act (d := d + 0) hN p5) rfl rfl (by decide) ?_
        refine bv_goto (tgt := 28) dX11_go_24 (by decide) ?_
        obtain rfl := Option.some.inj h
        exact bv_iret (x := v4.1) dX11_go_28 rfl ⟨rfl, rfl⟩
def f_X11_hours (M : bm_M) (x0 : Nat) (x1 : Int32) : Option (Int32 × bm_M) := (if x1 < 1 then some ((-1), M) else (if x1 ≤ 60 then (if bm_io x0 10 then ((M.2.2 x0 5).bind fun a2 => ((M.2.2 x0 4).bind fun a4 => (if bm_io a2 8 then ((f_X8_copyFrom M a2 a4).bind fun v7 => ((v7.2.2 x0 5).bind fun a9 => (if bm_io a9 8 then ((f_X8_passHours v7 a9 x1).bind fun v12 => (if v12.1 ≤ 0 then some (v12.1, v12.2) else ((f_X11_settleTrial v12.2 x0).bind fun v14 => some (v12.1, v14)))) else none))) else none))) else none) else some ((-1), M)))
set_option maxHeartbeats 4000000 in
set_option maxRecDepth 100000 in
theorem c_X11_hours {L : bm_L} {d n : Nat} {M : bm_M} {x0 : Nat} {x1 : Int32} {v : Int32 × bm_M} (hN : 181 ≤ n) (h : f_X11_hours M x0 x1 = some v) : bm_C L m_X11_hours (d + 5) n n [.ref x0, .int x1] M (fun r M' => r = some (.int v.1) ∧ M' = v.2) := by
  refine bm_C.ofV (by decide) (Nat.le_of_ble_eq_true rfl) ?_
  show bm_V L m_X11_hours (d + 5) n n n 0 [(0, .ref x0), (1, .int x1)] [] M _
  unfold f_X11_hours at h
  refine bv_iload_n dX11_hours_0 1 rfl ?_
  refine bv_iconst (v := 1) dX11_hours_1 (by decide) ?_
  refine bv_icmp_lt (tgt := 11) dX11_hours_2 (by decide) (fun cc => ?_) (fun cc => ?_)
  · replace h := bu_t h cc
    refine bv_iconst (v := (-1)) dX11_hours_11 (by decide) ?_
    obtain rfl := Option.some.inj h
    exact bv_iret (x := (-1)) dX11_hours_12 rfl ⟨rfl, rfl⟩
  · replace h := bu_f h cc
    refine bv_iload_n dX11_hours_5 1 rfl ?_
    refine bv_bipush (v := 60) dX11_hours_6 (by decide) ?_
    refine bv_icmp_le (tgt := 13) dX11_hours_8 (by decide) (fun cc => ?_) (fun cc => ?_)
    · replace h := bu_t h cc
      refine bv_aload_n dX11_hours_13 0 rfl ?_
      obtain ⟨q1, h⟩ := bu_io h
      obtain ⟨a2, e3, h⟩ := bu_bd h
      refine bw_getA (a := a2) hN q1 e3 dX11_hours_14 fl_11_44 rfl ?_
      refine bv_aload_n dX11_hours_17 0 rfl ?_
      obtain ⟨a4, e5, h⟩ := bu_bd h
      refine bw_getA (a := a4) hN q1 e5 dX11_hours_18 fl_11_40 rfl ?_
      obtain ⟨q6, h⟩ := bu_io h
      obtain ⟨v7, p8, h⟩ := bu_bd h
      refine bw_callVv (As := [.ref a4]) hN q6 ⟨_, _, rfl⟩ dX11_hours_21 mc_11_226 (c_X8_copyFrom (d := d + 3) hN p8) rfl rfl (by decide) ?_
      refine bv_aload_n dX11_hours_24 0 rfl ?_
      obtain ⟨a9, e10, h⟩ := bu_bd h
      refine bw_getA (a := a9) hN q1 e10 dX11_hours_25 fl_11_44 rfl ?_
      refine bv_iload_n dX11_hours_28 1 rfl ?_
      obtain ⟨q11, h⟩ := bu_io h
      obtain ⟨v12, p13, h⟩ := bu_bd h
      refine bw_callV (As := [.int x1]) hN q11 ⟨_, _, rfl⟩ dX11_hours_29 mc_11_229 (c_X8_passHours (d := d + 0) hN p13) rfl rfl (by decide) ?_
      refine bv_istore_n (ls1 := [(0, .ref x0), (1, .int x1), (2, .int v12.1)]) dX11_hours_32 (by decide) rfl rfl ?_
      refine bv_iload_n dX11_hours_33 2 rfl ?_
      refine bv_if_le (tgt := 41) dX11_hours_34 (by decide) (fun cc => ?_) (fun cc => ?_)
      · replace h := bu_t h cc
        refine bv_iload_n dX11_hours_41 2 rfl ?_
        obtain rfl := Option.some.inj h
        exact bv_iret (x := v12.1) dX11_hours_42 rfl ⟨rfl, rfl⟩
      · replace h := bu_f h cc
        refine bv_aload_n dX11_hours_37 0 rfl ?_
        obtain ⟨v14, p15, h⟩ := bu_bd h
        refine bw_callVv (As := []) hN q1 ⟨_, _, rfl⟩ dX11_hours_38 mc_11_232 (c_X11_settleTrial (d := d + 1) hN p15) rfl rfl (by decide) ?_
        refine bv_iload_n dX11_hours_41 2 rfl ?_
        obtain rfl := Option.some.inj h
        exact bv_iret (x := v12.1) dX11_hours_42 rfl ⟨rfl, rfl⟩
    · replace h := bu_f h cc
      refine bv_iconst (v := (-1)) dX11_hours_11 (by decide) ?_
      obtain rfl := Option.some.inj h
      exact bv_iret (x := (-1)) dX11_hours_12 rfl ⟨rfl, rfl⟩
def f_X11_undo (M : bm_M) (x0 : Nat) : Option (Int32 × bm_M) := (if bm_io x0 10 then ((M.2.2 x0 6).bind fun a2 => ((M.2.2 x0 4).bind fun a4 => (if bm_io a2 4 then ((f_X4_bringBack M a2 a4).bind fun v7 => some (v7.1, v7.2)) else none))) else none)
set_option maxHeartbeats 4000000 in
set_option maxRecDepth 100000 in
theorem c_X11_undo {L : bm_L} {d n : Nat} {M : bm_M} {x0 : Nat} {v : Int32 × bm_M} (hN : 181 ≤ n) (h : f_X11_undo M x0 = some v) : bm_C L m_X11_undo (d + 3) n n [.ref x0] M (fun r M' => r = some (.int v.1) ∧ M' = v.2) := by
  refine bm_C.ofV (by decide) (Nat.le_of_ble_eq_true rfl) ?_
  show bm_V L m_X11_undo (d + 3) n n n 0 [(0, .ref x0)] [] M _
  unfold f_X11_undo at h
  refine bv_aload_n dX11_undo_0 0 rfl ?_
  obtain ⟨q1, h⟩ := bu_io h
  obtain ⟨a2, e3, h⟩ := bu_bd h
  refine bw_getA (a := a2) hN q1 e3 dX11_undo_1 fl_11_50 rfl ?_
  refine bv_aload_n dX11_undo_4 0 rfl ?_
  obtain ⟨a4, e5, h⟩ := bu_bd h
  refine bw_getA (a := a4) hN q1 e5 dX11_undo_5 fl_11_40 rfl ?_
  obtain ⟨q6, h⟩ := bu_io h
  obtain ⟨v7, p8, h⟩ := bu_bd h
  refine bw_callV (As := [.ref a4]) hN q6 ⟨_, _, rfl⟩ dX11_undo_8 mc_11_235 (c_X4_bringBack (d := d + 0) hN p8) rfl rfl (by decide) ?_
  obtain rfl := Option.some.inj h
  exact bv_iret (x := v7.1) dX11_undo_11 rfl ⟨rfl, rfl⟩
def f_X11_sees (M : bm_M) (x0 : Nat) (x1 : Int32) : Option (Int32) := (if bm_io x0 10 then ((f_X11_isMan M x0 x1).bind fun v2 => (if v2 = true then ((M.2.2 x0 4).bind fun a4 => (if bm_io a4 8 then ((f_X8_seenBy M a4 x1).bind fun v7 => some v7) else none)) else some (-1))) else none)
set_option maxHeartbeats 4000000 in
set_option maxRecDepth 100000 in
theorem c_X11_sees {L : bm_L} {d n : Nat} {M : bm_M} {x0 : Nat} {x1 : Int32} {v : Int32} (hN : 181 ≤ n) (h : f_X11_sees M x0 x1 = some v) : bm_C L m_X11_sees (d + 4) n n [.ref x0, .int x1] M (fun r M' => r = some (.int v) ∧ M' = M) := by
  refine bm_C.ofV (by decide) (Nat.le_of_ble_eq_true rfl) ?_
  show bm_V L m_X11_sees (d + 4) n n n 0 [(0, .ref x0), (1, .int x1)] [] M _
  unfold f_X11_sees at h
  refine bv_aload_n dX11_sees_0 0 rfl ?_
  refine bv_iload_n dX11_sees_1 1 rfl ?_
  obtain ⟨q1, h⟩ := bu_io h
  obtain ⟨v2, p3, h⟩ := bu_bd h
  refine bw_callV (As := [.int x1]) hN q1 ⟨_, _, rfl⟩ dX11_sees_2 mc_11_147 (c_X11_isMan (d := d + 3) hN p3) rfl rfl (by decide) ?_
  refine bw_ifB_eq (b := v2) (tgt := 19) dX11_sees_5 (by decide) (fun cc => ?_) (fun cc => ?_)
  · replace h := bu_bf h cc
    refine bv_iconst (v := (-1)) dX11_sees_19 (by decide) ?_
    obtain rfl := Option.some.inj h
    exact bv_iret (x := (-1)) dX11_sees_20 rfl ⟨rfl, rfl⟩
  · replace h := bu_bt h cc
    refine bv_aload_n dX11_sees_8 0 rfl ?_
    obtain ⟨a4, e5, h⟩ := bu_bd h
    refine bw_getA (a := a4) hN q1 e5 dX11_sees_9 fl_11_40 rfl ?_
    refine bv_iload_n dX11_sees_12 1 rfl ?_
    obtain ⟨q6, h⟩ := bu_io h
    obtain ⟨v7, p8, h⟩ := bu_bd h
    refine bw_callV (As := [.int x1]) hN q6 ⟨_, _, rfl⟩ dX11_sees_13 mc_11_239 (c_X8_seenBy (d := d + 0) hN p8) rfl rfl (by decide) ?_
    refine bv_goto (tgt := 20) dX11_sees_16 (by decide) ?_
    obtain rfl := Option.some.inj h
    exact bv_iret (x := v7) dX11_sees_20 rfl ⟨rfl, rfl⟩
def f_X11_reads (M : bm_M) (x0 : Nat) (x1 : Int32) : Option (Int32) := (if bm_io x0 10 then ((f_X11_isMan M x0 x1).bind fun v2 => (if v2 = true then ((M.2.2 x0 4).bind fun a4 => (if bm_io a4 8 then ((f_X8_rangeOf M a4 x1).bind fun v7 => ((f_X8_readersOf M a4 x1 v7).bind fun v9 => some v9)) else none)) else some (-1))) else none)
set_option maxHeartbeats 4000000 in
set_option maxRecDepth 100000 in
theorem c_X11_reads {L : bm_L} {d n : Nat} {M : bm_M} {x0 : Nat} {x1 : Int32} {v : Int32} (hN : 181 ≤ n) (h : f_X11_reads M x0 x1 = some v) : bm_C L m_X11_reads (d + 3) n n [.ref x0, .int x1] M (fun r M' => r = some (.int v) ∧ M' = M) := by
  refine bm_C.ofV (by decide) (Nat.le_of_ble_eq_true rfl) ?_
  show bm_V L m_X11_reads (d + 3) n n n 0 [(0, .ref x0), (1, .int x1)] [] M _
  unfold f_X11_reads at h
  refine bv_aload_n dX11_reads_0 0 rfl ?_
  refine bv_iload_n dX11_reads_1 1 rfl ?_
  obtain ⟨q1, h⟩ := bu_io h
  obtain ⟨v2, p3, h⟩ := bu_bd h
  refine bw_callV (As := [.int x1]) hN q1 ⟨_, _, rfl⟩ dX11_reads_2 mc_11_147 (c_X11_isMan (d := d + 2) hN p3) rfl rfl (by decide) ?_
  refine bw_ifB_eq (b := v2) (tgt := 27) dX11_reads_5 (by decide) (fun cc => ?_) (fun cc => ?_)
  · replace h := bu_bf h cc
    refine bv_iconst (v := (-1)) dX11_reads_27 (by decide) ?_
    obtain rfl := Option.some.inj h
    exact bv_iret (x := (-1)) dX11_reads_28 rfl ⟨rfl, rfl⟩
  · replace h := bu_bt h cc
    refine bv_aload_n dX11_reads_8 0 rfl ?_
    obtain ⟨a4, e5, h⟩ := bu_bd h
    refine bw_getA (a := a4) hN q1 e5 dX11_reads_9 fl_11_40 rfl ?_
    refine bv_iload_n dX11_reads_12 1 rfl ?_
    refine bv_aload_n dX11_reads_13 0 rfl ?_
    refine bw_getA (a := a4) hN q1 e5 dX11_reads_14 fl_11_40 rfl ?_
    refine bv_iload_n dX11_reads_17 1 rfl ?_
    obtain ⟨q6, h⟩ := bu_io h
    obtain ⟨v7, p8, h⟩ := bu_bd h
    refine bw_callV (As := [.int x1]) hN q6 ⟨_, _, rfl⟩ dX11_reads_18 mc_11_242 (c_X8_rangeOf (d := d + 0) hN p8) rfl rfl (Nat.le_of_ble_eq_true rfl) ?_
    obtain ⟨v9, p10, h⟩ := bu_bd h
    refine bw_callV (As := [.int x1, .int v7]) hN q6 ⟨_, _, rfl⟩ dX11_reads_21 mc_11_245 (c_X8_readersOf (d := d + 1) hN p10) rfl rfl (by decide) ?_
    refine bv_goto (tgt := 28) dX11_reads_24 (by decide) ?_
    obtain rfl := Option.some.inj h
    exact bv_iret (x := v9) dX11_reads_28 rfl ⟨rfl, rfl⟩
def f_X11_foes (M : bm_M) (x0 : Nat) (x1 : Int32) : Option (Int32) := (if bm_io x0 10 then ((f_X11_isMan M x0 x1).bind fun v2 => (if v2 = true then ((M.2.2 x0 4).bind fun a4 => (if bm_io a4 8 then ((M.2.2 a4 1).bind fun a7 => (if bm_ia a7 0 x1 = true then ((M.2.2 a4 2).bind fun a10 => (if bm_ia a10 0 x1 = true then ((f_X8_foesSeeing M a4 x1 (M.1 a7 x1.toNatClampNeg) (M.1 a10 x1.toNatClampNeg)).bind fun v13 => some v13) else none)) else none)) else none)) else some (-1))) else none)
set_option maxHeartbeats 4000000 in
set_option maxRecDepth 100000 in
theorem c_X11_foes {L : bm_L} {d n : Nat} {M : bm_M} {x0 : Nat} {x1 : Int32} {v : Int32} (hN : 181 ≤ n) (h : f_X11_foes M x0 x1 = some v) : bm_C L m_X11_foes (d + 4) n n [.ref x0, .int x1] M (fun r M' => r = some (.int v) ∧ M' = M) := by
  refine bm_C.ofV (by decide) (Nat.le_of_ble_eq_true rfl) ?_
  show bm_V L m_X11_foes (d + 4) n n n 0 [(0, .ref x0), (1, .int x1)] [] M _
  unfold f_X11_foes at h
  refine bv_aload_n dX11_foes_0 0 rfl ?_
  refine bv_iload_n dX11_foes_1 1 rfl ?_
  obtain ⟨q1, h⟩ := bu_io h
  obtain ⟨v2, p3, h⟩ := bu_bd h
  refine bw_callV (As := [.int x1]) hN q1 ⟨_, _, rfl⟩ dX11_foes_2 mc_11_147 (c_X11_isMan (d := d + 3) hN p3) rfl rfl (by decide) ?_
  refine bw_ifB_eq (b := v2) (tgt := 37) dX11_foes_5 (by decide) (fun cc => ?_) (fun cc => ?_)
  · replace h := bu_bf h cc
    refine bv_iconst (v := (-1)) dX11_foes_37 (by decide) ?_
    obtain rfl := Option.some.inj h
    exact bv_iret (x := (-1)) dX11_foes_38 rfl ⟨rfl, rfl⟩
  · replace h := bu_bt h cc
    refine bv_aload_n dX11_foes_8 0 rfl ?_
    obtain ⟨a4, e5, h⟩ := bu_bd h
    refine bw_getA (a := a4) hN q1 e5 dX11_foes_9 fl_11_40 rfl ?_
    refine bv_iload_n dX11_foes_12 1 rfl ?_
    refine bv_aload_n dX11_foes_13 0 rfl ?_
    refine bw_getA (a := a4) hN q1 e5 dX11_foes_14 fl_11_40 rfl ?_
    obtain ⟨q6, h⟩ := bu_io h
    obtain ⟨a7, e8, h⟩ := bu_bd h
    refine bw_getA (a := a7) hN q6 e8 dX11_foes_17 fl_11_158 rfl ?_
    refine bv_iload_n dX11_foes_20 1 rfl ?_
    obtain ⟨r9, h⟩ := bu_ia h
    refine bw_iald hN r9 dX11_foes_21 ?_
    refine bv_aload_n dX11_foes_22 0 rfl ?_
    refine bw_getA (a := a4) hN q1 e5 dX11_foes_23 fl_11_40 rfl ?_
    obtain ⟨a10, e11, h⟩ := bu_bd h
    refine bw_getA (a := a10) hN q6 e11 dX11_foes_26 fl_11_162 rfl ?_
    refine bv_iload_n dX11_foes_29 1 rfl ?_
    obtain ⟨r12, h⟩ := bu_ia h
    refine bw_iald hN r12 dX11_foes_30 ?_
    obtain ⟨v13, p14, h⟩ := bu_bd h
    refine bw_callV (As := [.int x1, .int (M.1 a7 x1.toNatClampNeg), .int (M.1 a10 x1.toNatClampNeg)]) hN q6 ⟨_, _, rfl⟩ dX11_foes_31 mc_11_248 (c_X8_foesSeeing (d := d + 0) hN p14) rfl rfl (by decide) ?_
    refine bv_goto (tgt := 38) dX11_foes_34 (by decide) ?_
    obtain rfl := Option.some.inj h
    exact bv_iret (x := v13) dX11_foes_38 rfl ⟨rfl, rfl⟩
