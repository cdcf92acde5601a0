def f_X12_ask (M : bm_M) (x0 : Nat) : Option (Int32 × bm_M) := (if bm_io x0 11 then (if ((bm_sI M x0 0 0).1 x0 30) = 0 then some ((-1), (bm_sI M x0 0 0)) else some (((bm_sI M x0 0 0).1 x0 29), (bm_sI M x0 0 0))) else none)
set_option maxHeartbeats 4000000 in
set_option maxRecDepth 100000 in
theorem c_X12_ask {L : bm_L} {d n : Nat} {M : bm_M} {x0 : Nat} {v : Int32 × bm_M} (hN : 181 ≤ n) (h : f_X12_ask M x0 = some v) : bm_C L m_X12_ask d n n [.ref x0] M (fun r M' => r = some (.int v.1) ∧ M' = v.2) := by
  refine bm_C.ofV (by decide) (Nat.le_of_ble_eq_true rfl) ?_
  show bm_V L m_X12_ask d n n n 0 [(0, .ref x0)] [] M _
  unfold f_X12_ask at h
  refine bv_aload_n dX12_ask_0 0 rfl ?_
  refine bv_iconst (v := 0) dX12_ask_1 (by decide) ?_
  obtain ⟨q1, h⟩ := bu_io h
  refine bw_putI hN q1 dX12_ask_2 fl_12_1 rfl ?_
  refine bv_aload_n dX12_ask_5 0 rfl ?_
  refine bw_getI hN q1 dX12_ask_6 fl_12_400 rfl ?_
  refine bv_if_eq (tgt := 19) dX12_ask_9 (by decide) (fun cc => ?_) (fun cc => ?_)
  · replace h := bu_t h cc
    refine bv_iconst (v := (-1)) dX12_ask_19 (by decide) ?_
    obtain rfl := Option.some.inj h
    exact bv_iret (x := (-1)) dX12_ask_20 rfl ⟨rfl, rfl⟩
  · replace h := bu_f h cc
    refine bv_aload_n dX12_ask_12 0 rfl ?_
    refine bw_getI hN q1 dX12_ask_13 fl_12_404 rfl ?_
    refine bv_goto (tgt := 20) dX12_ask_16 (by decide) ?_
    obtain rfl := Option.some.inj h
    exact bv_iret (x := ((bm_sI M x0 0 0).1 x0 29)) dX12_ask_20 rfl ⟨rfl, rfl⟩
def f_X12_unrest_l9 (M : bm_M) (x0 : Nat) : Nat → Int32 → Int32 → Option (Int32)
  | 0, _, _ => none
  | k + 1, x1, x2 => ((M.2.2 x0 6).bind fun a1 => (if bm_ia a1 0 0 = true then (if (M.1 a1 (0 : Int32).toNatClampNeg) ≤ x2 then some x1 else (if bm_ia a1 0 (31 + x2) = true then (if (M.1 a1 (31 + x2).toNatClampNeg) ≤ 0 then f_X12_unrest_l9 M x0 k (x1 ||| 0) (x2 + 1) else ((f_X12_browOf M x0 x2).bind fun v5 => ((f_X12_browOf M x0 ((M.1 a1 (31 + x2).toNatClampNeg) - 1)).bind fun v7 => (if v5 ≤ v7 then f_X12_unrest_l9 M x0 k (x1 ||| 0) (x2 + 1) else f_X12_unrest_l9 M x0 k (x1 ||| (bm_ishl 1 x2)) (x2 + 1))))) else none)) else none))
set_option maxHeartbeats 4000000 in
set_option maxRecDepth 100000 in
theorem v_X12_unrest_l9 {L : bm_L} {d n : Nat} {Q : Option Value → bm_M → Prop} {M : bm_M} {x0 : Nat} (hN : 181 ≤ n) (q_0 : bm_OK x0 11) : ∀ (k : Nat) (x1 : Int32) (x2 : Int32) (r : Int32), f_X12_unrest_l9 M x0 k x1 x2 = some r → (∀ yy, yy = r → bm_V L m_X12_unrest (d + 2) n n n 70 [(1, .int yy)] [] M Q) → bm_V L m_X12_unrest (d + 2) n n n 9 [(0, .ref x0), (1, .int x1), (2, .int x2)] [] M Q := by
  intro k
  induction k with
  | zero => intro x1 x2 r h; cases (show (none : Option (Int32)) = some r from h)
  | succ k ih =>
    intro x1 x2 r h K0
    unfold f_X12_unrest_l9 at h
    refine bv_iload_n dX12_unrest_9 2 rfl ?_
    refine bv_aload_n dX12_unrest_10 0 rfl ?_
    obtain ⟨a1, e2, h⟩ := bu_bd h
    refine bw_getA (a := a1) hN q_0 e2 dX12_unrest_11 fl_12_33 rfl ?_
    refine bv_iconst (v := 0) dX12_unrest_14 (by decide) ?_
    obtain ⟨r3, h⟩ := bu_ia h
    refine bw_iald hN r3 dX12_unrest_15 ?_
    refine bv_icmp_ge (tgt := 70) dX12_unrest_16 (by decide) (fun cc => ?_) (fun cc => ?_)
    · replace h := bu_t h cc
      refine bw_ls (ls1 := [(1, .int x1)]) [1] rfl ?_
      obtain rfl := Option.some.inj h
      exact K0 _ rfl
    · replace h := bu_f h cc
      refine bv_iload_n dX12_unrest_19 1 rfl ?_
      refine bv_aload_n dX12_unrest_20 0 rfl ?_
      refine bw_getA (a := a1) hN q_0 e2 dX12_unrest_21 fl_12_33 rfl ?_
      refine bv_bipush (v := 31) dX12_unrest_24 (by decide) ?_
      refine bv_iload_n dX12_unrest_26 2 rfl ?_
      refine bv_iadd dX12_unrest_27 ?_
      obtain ⟨r4, h⟩ := bu_ia h
      refine bw_iald hN r4 dX12_unrest_28 ?_
      refine bv_if_le (tgt := 61) dX12_unrest_29 (by decide) (fun cc => ?_) (fun cc => ?_)
      · replace h := bu_t h cc
        refine bv_iconst (v := 0) dX12_unrest_61 (by decide) ?_
        refine bv_ior dX12_unrest_62 ?_
        refine bv_istore_n (ls1 := [(0, .ref x0), (1, .int (x1 ||| 0)), (2, .int x2)]) dX12_unrest_63 (by decide) rfl rfl ?_
        refine bv_iinc (j := 2) (v := (x2 + 1)) (ls1 := [(0, .ref x0), (1, .int (x1 ||| 0)), (2, .int (x2 + 1))]) dX12_unrest_64 rfl rfl (by decide) rfl rfl ?_
        refine bv_goto (tgt := 9) dX12_unrest_67 (by decide) ?_
        exact ih _ _ _ h K0
      · replace h := bu_f h cc
        refine bv_aload_n dX12_unrest_32 0 rfl ?_
        refine bv_iload_n dX12_unrest_33 2 rfl ?_
        obtain ⟨v5, p6, h⟩ := bu_bd h
        refine bw_callV (As := [.int x2]) hN q_0 ⟨_, _, rfl⟩ dX12_unrest_34 mc_12_290 (c_X12_browOf (d := d + 0) hN p6) rfl rfl (Nat.le_of_ble_eq_true rfl) ?_
        refine bv_aload_n dX12_unrest_37 0 rfl ?_
        refine bv_aload_n dX12_unrest_38 0 rfl ?_
        refine bw_getA (a := a1) hN q_0 e2 dX12_unrest_39 fl_12_33 rfl ?_
        refine bv_bipush (v := 31) dX12_unrest_42 (by decide) ?_
        refine bv_iload_n dX12_unrest_44 2 rfl ?_
        refine bv_iadd dX12_unrest_45 ?_
        refine bw_iald hN r4 dX12_unrest_46 ?_
        refine bv_iconst (v := 1) dX12_unrest_47 (by decide) ?_
        refine bv_isub dX12_unrest_48 ?_
        obtain ⟨v7, p8, h⟩ := bu_bd h
        refine bw_callV (As := [.int ((M.1 a1 (31 + x2).toNatClampNeg) - 1)]) hN q_0 ⟨_, _, rfl⟩ dX12_unrest_49 mc_12_290 (c_X12_browOf (d := d + 0) hN p8) rfl rfl (Nat.le_of_ble_eq_true rfl) ?_
        refine bv_icmp_le (tgt := 61) dX12_unrest_52 (by decide) (fun cc => ?_) (fun cc => ?_)
        · replace h := bu_t h cc
          refine bv_iconst (v := 0) dX12_unrest_61 (by decide) ?_
          refine bv_ior dX12_unrest_62 ?_
          refine bv_istore_n (ls1 := [(0, .ref x0), (1, .int (x1 ||| 0)), (2, .int x2)]) dX12_unrest_63 (by decide) rfl rfl ?_
          refine bv_iinc (j := 2) (v := (x2 + 1)) (ls1 := [(0, .ref x0), (1, .int (x1 ||| 0)), (2, .int (x2 + 1))]) dX12_unrest_64 rfl rfl (by decide) rfl rfl ?_
          refine bv_goto (tgt := 9) dX12_unrest_67 (by decide) ?_
          exact ih _ _ _ h K0
        · replace h := bu_f h cc
          refine bv_iconst (v := 1) dX12_unrest_55 (by decide) ?_
          refine bv_iload_n dX12_unrest_56 2 rfl ?_
          refine bv_ishl dX12_unrest_57 ?_
          refine bv_goto (tgt := 62) dX12_unrest_58 (by decide) ?_
          refine bv_ior dX12_unrest_62 ?_
          refine bv_istore_n (ls1 := [(0, .ref x0), (1, .int (x1 ||| (bm_ishl 1 x2))), (2, .int x2)]) dX12_unrest_63 (by decide) rfl rfl ?_
          refine bv_iinc (j := 2) (v := (x2 + 1)) (ls1 := [(0, .ref x0), (1, .int (x1 ||| (bm_ishl 1 x2))), (2, .int (x2 + 1))]) dX12_unrest_64 rfl rfl (by decide) rfl rfl ?_
          refine bv_goto (tgt := 9) dX12_unrest_67 (by decide) ?_
          exact ih _ _ _ h K0
def f_X12_unrest (M : bm_M) (x0 : Nat) : Option (Int32 × bm_M) := (if bm_io x0 11 then ((f_X12_unrest_l9 (bm_sI M x0 0 0) x0 1000 0 0).bind fun y4 => some (y4, (bm_sI M x0 0 0))) else none)
set_option maxHeartbeats 4000000 in
set_option maxRecDepth 100000 in
theorem c_X12_unrest {L : bm_L} {d n : Nat} {M : bm_M} {x0 : Nat} {v : Int32 × bm_M} (hN : 181 ≤ n) (h : f_X12_unrest M x0 = some v) : bm_C L m_X12_unrest (d + 2) n n [.ref x0] M (fun r M' => r = some (.int v.1) ∧ M' = v.2) := by
  refine bm_C.ofV (by decide) (Nat.le_of_ble_eq_true rfl) ?_
  show bm_V L m_X12_unrest (d + 2) n n n 0 [(0, .ref x0)] [] M _
  unfold f_X12_unrest at h
  refine bv_aload_n dX12_unrest_0 0 rfl ?_
  refine bv_iconst (v := 0) dX12_unrest_1 (by decide) ?_
  obtain ⟨q1, h⟩ := bu_io h
  refine bw_putI hN q1 dX12_unrest_2 fl_12_1 rfl ?_
  refine bv_iconst (v := 0) dX12_unrest_5 (by decide) ?_
  refine bv_istore_n (ls1 := [(0, .ref x0), (1, .int 0)]) dX12_unrest_6 (by decide) rfl rfl ?_
  refine bv_iconst (v := 0) dX12_unrest_7 (by decide) ?_
  refine bv_istore_n (ls1 := [(0, .ref x0), (1, .int 0), (2, .int 0)]) dX12_unrest_8 (by decide) rfl rfl ?_
  obtain ⟨r2, p3, h⟩ := bu_bd h
  refine v_X12_unrest_l9 hN q1 1000 _ _ _ p3 (fun y4 hy => ?_)
  · subst hy
    refine bv_iload_n dX12_unrest_70 0 rfl ?_
    obtain rfl := Option.some.inj h
    exact bv_iret (x := y4) dX12_unrest_71 rfl ⟨rfl, rfl⟩
def f_X12_lays (M : bm_M) (x0 : Nat) (x1 : Int32) : Option (bm_M) := (if bm_io x0 11 then ((M.2.2 x0 31).bind fun a2 => (if bm_ia a2 1 (M.1 x0 32) = true then some (bm_sI (bm_sI M a2 (M.1 x0 32).toNatClampNeg (vp_nar .byte x1.toInt8.toInt32)) x0 32 (((bm_sI M a2 (M.1 x0 32).toNatClampNeg (vp_nar .byte x1.toInt8.toInt32)).1 x0 32) + 1)) else none)) else none)
set_option maxHeartbeats 4000000 in
set_option maxRecDepth 100000 in
theorem c_X12_lays {L : bm_L} {d n : Nat} {M : bm_M} {x0 : Nat} {x1 : Int32} {v : bm_M} (hN : 181 ≤ n) (h : f_X12_lays M x0 x1 = some v) : bm_C L m_X12_lays d n n [.ref x0, .int x1] M (fun r M' => r = none ∧ M' = v) := by
  refine bm_C.ofV (by decide) (Nat.le_of_ble_eq_true rfl) ?_
  show bm_V L m_X12_lays d n n n 0 [(0, .ref x0), (1, .int x1)] [] M _
  unfold f_X12_lays at h
  refine bv_aload_n dX12_lays_0 0 rfl ?_
  obtain ⟨q1, h⟩ := bu_io h
  obtain ⟨a2, e3, h⟩ := bu_bd h
  refine bw_getA (a := a2) hN q1 e3 dX12_lays_1 fl_12_71 rfl ?_
  refine bv_aload_n dX12_lays_4 0 rfl ?_
  refine bw_getI hN q1 dX12_lays_5 fl_12_407 rfl ?_
  refine bv_iload_n dX12_lays_8 1 rfl ?_
  refine bv_i2b dX12_lays_9 ?_
  obtain ⟨r4, h⟩ := bu_ia h
  refine bw_bast hN r4 dX12_lays_10 ?_
  refine bv_aload_n dX12_lays_11 0 rfl ?_
  refine bv_dup dX12_lays_12 rfl ?_
  refine bw_getI hN q1 dX12_lays_13 fl_12_407 rfl ?_
  refine bv_iconst (v := 1) dX12_lays_16 (by decide) ?_
  refine bv_iadd dX12_lays_17 ?_
  refine bw_putI hN q1 dX12_lays_18 fl_12_407 rfl ?_
  obtain rfl := Option.some.inj h
  exact bv_vret dX12_lays_21 rfl ⟨rfl, rfl⟩
def f_X12_spells_l3 (x0 : Nat) (x1 : Int64) : Nat → Int32 → bm_M → Option (bm_M)
  | 0, _, _ => none
  | k + 1, x3, M => (if x3 < 0 then some M else (if (lg_cmp ((bm_lshr x1 x3) &&& 255) 0) = 0 then f_X12_spells_l3 x0 x1 k (x3 + (-8)) M else (if bm_io x0 11 then ((f_X12_lays M x0 (((bm_lshr x1 x3) &&& 255).toInt32)).bind fun v2 => f_X12_spells_l3 x0 x1 k (x3 + (-8)) v2) else none)))
set_option maxHeartbeats 4000000 in
set_option maxRecDepth 100000 in
theorem v_X12_spells_l3 {L : bm_L} {d n : Nat} {Q : Option Value → bm_M → Prop} {x0 : Nat} {x1 : Int64} (hN : 181 ≤ n) : ∀ (k : Nat) (x3 : Int32) (M : bm_M) (r : bm_M), f_X12_spells_l3 x0 x1 k x3 M = some r → (∀ yy, yy = r → bm_V L m_X12_spells (d + 1) n n n 37 [] [] yy Q) → bm_V L m_X12_spells (d + 1) n n n 3 [(0, .ref x0), (1, .long x1), (3, .int x3)] [] M Q := by
  intro k
  induction k with
  | zero => intro x3 M r h; cases (show (none : Option (bm_M)) = some r from h)
  | succ k ih =>
    intro x3 M r h K0
    unfold f_X12_spells_l3 at h
    refine bv_iload_n dX12_spells_3 2 rfl ?_
    refine bv_if_lt (tgt := 37) dX12_spells_4 (by decide) (fun cc => ?_) (fun cc => ?_)
    · replace h := bu_t h cc
      refine bw_ls (ls1 := []) [] rfl ?_
      obtain rfl := Option.some.inj h
      exact K0 _ rfl
    · replace h := bu_f h cc
      refine bv_lload_n dX12_spells_7 1 rfl ?_
      refine bv_iload_n dX12_spells_8 2 rfl ?_
      refine bv_lshr dX12_spells_9 ?_
      refine bv_ldc2 (v := 255) dX12_spells_10 cst_12_410 ?_
      refine bv_land dX12_spells_13 ?_
      refine bv_lconst (v := 0) dX12_spells_14 (by decide) ?_
      refine bv_lcmp dX12_spells_15 ?_
      refine bv_if_eq (tgt := 31) dX12_spells_16 (by decide) (fun cc => ?_) (fun cc => ?_)
      · replace h := bu_t h cc
        refine bv_iinc (j := 2) (v := (x3 + (-8))) (ls1 := [(0, .ref x0), (1, .long x1), (3, .int (x3 + (-8)))]) dX12_spells_31 rfl rfl (by decide) rfl rfl ?_
        refine bv_goto (tgt := 3) dX12_spells_34 (by decide) ?_
        exact ih _ _ _ h K0
      · replace h := bu_f h cc
        refine bv_aload_n dX12_spells_19 0 rfl ?_
        refine bv_lload_n dX12_spells_20 1 rfl ?_
        refine bv_iload_n dX12_spells_21 2 rfl ?_
        refine bv_lshr dX12_spells_22 ?_
        refine bv_ldc2 (v := 255) dX12_spells_23 cst_12_410 ?_
        refine bv_land dX12_spells_26 ?_
        refine bv_l2i dX12_spells_27 ?_
        obtain ⟨q1, h⟩ := bu_io h
        obtain ⟨v2, p3, h⟩ := bu_bd h
        refine bw_callVv (As := [.int ((bm_lshr x1 x3) &&& 255).toInt32]) hN q1 ⟨_, _, rfl⟩ dX12_spells_28 mc_12_412 (c_X12_lays (d := d + 0) hN p3) rfl rfl (by decide) ?_
        refine bv_iinc (j := 2) (v := (x3 + (-8))) (ls1 := [(0, .ref x0), (1, .long x1), (3, .int (x3 + (-8)))]) dX12_spells_31 rfl rfl (by decide) rfl rfl ?_
        refine bv_goto (tgt := 3) dX12_spells_34 (by decide) ?_
        exact ih _ _ _ h K0
def f_X12_spells (M : bm_M) (x0 : Nat) (x1 : Int64) : Option (bm_M) := ((f_X12_spells_l3 x0 x1 1000 56 M).bind fun y3 => some y3)
set_option maxHeartbeats 4000000 in
set_option maxRecDepth 100000 in
theorem c_X12_spells {L : bm_L} {d n : Nat} {M : bm_M} {x0 : Nat} {x1 : Int64} {v : bm_M} (hN : 181 ≤ n) (h : f_X12_spells M x0 x1 = some v) : bm_C L m_X12_spells (d + 1) n n [.ref x0, .long x1] M (fun r M' => r = none ∧ M' = v) := by
  refine bm_C.ofV (by decide) (Nat.le_of_ble_eq_true rfl) ?_
  show bm_V L m_X12_spells (d + 1) n n n 0 [(0, .ref x0), (1, .long x1)] [] M _
  unfold f_X12_spells at h
  refine bv_bipush (v := 56) dX12_spells_0 (by decide) ?_
  refine bv_istore_n (ls1 := [(0, .ref x0), (1, .long x1), (3, .int 56)]) dX12_spells_2 (by decide) rfl rfl ?_
  obtain ⟨r1, p2, h⟩ := bu_bd h
  refine v_X12_spells_l3 hN 1000 _ _ _ p2 (fun y3 hy => ?_)
  · subst hy
    obtain rfl := Option.some.inj h
    exact bv_vret dX12_spells_37 rfl ⟨rfl, rfl⟩
def f_X12_says (M : bm_M) (x0 : Nat) (x1 : Int64) : Option (bm_M) := (if bm_io x0 11 then ((f_X12_lays M x0 32).bind fun v2 => ((f_X12_spells v2 x0 x1).bind fun v4 => some v4)) else none)
set_option maxHeartbeats 4000000 in
set_option maxRecDepth 100000 in
theorem c_X12_says {L : bm_L} {d n : Nat} {M : bm_M} {x0 : Nat} {x1 : Int64} {v : bm_M} (hN : 181 ≤ n) (h : f_X12_says M x0 x1 = some v) : bm_C L m_X12_says (d + 2) n n [.ref x0, .long x1] M (fun r M' => r = none ∧ M' = v) := by
  refine bm_C.ofV (by decide) (Nat.le_of_ble_eq_true rfl) ?_
  show bm_V L m_X12_says (d + 2) n n n 0 [(0, .ref x0), (1, .long x1)] [] M _
  unfold f_X12_says at h
  refine bv_aload_n dX12_says_0 0 rfl ?_
  refine bv_bipush (v := 32) dX12_says_1 (by decide) ?_
  obtain ⟨q1, h⟩ := bu_io h
  obtain ⟨v2, p3, h⟩ := bu_bd h
  refine bw_callVv (As := [.int 32]) hN q1 ⟨_, _, rfl⟩ dX12_says_3 mc_12_412 (c_X12_lays (d := d + 1) hN p3) rfl rfl (by decide) ?_
  refine bv_aload_n dX12_says_6 0 rfl ?_
  refine bv_lload_n dX12_says_7 1 rfl ?_
  obtain ⟨v4, p5, h⟩ := bu_bd h
  refine bw_callVv (As := [.long x1]) hN q1 ⟨_, _, rfl⟩ dX12_says_8 mc_12_415 (c_X12_spells (d := d + 0) hN p5) rfl rfl (by decide) ?_
  obtain rfl := Option.some.inj h
  exact bv_vret dX12_says_11 rfl ⟨rfl, rfl⟩
def f_X12_report (M : bm_M) (x0 : Nat) (x1 : Int32) : Option (Int32 × bm_M) := (if bm_io x0 11 then ((f_X12_isMan (bm_sI M x0 0 0) x0 x1).bind fun v2 => (if v2 = true then ((M.2.2 x0 9).bind fun a4 => (if bm_ia a4 2 x1 = true then ((f_X12_spells (bm_sI (bm_sI M x0 0 0) x0 32 0) x0 ((bm_sI (bm_sI M x0 0 0) x0 32 0).2.1 a4 x1.toNatClampNeg)).bind fun v7 => ((v7.2.2 x0 6).bind fun a9 => (if bm_ia a9 0 (90 + x1) = true then (if (v7.1 a9 (90 + x1).toNatClampNeg) ≤ 0 then ((f_X12_says v7 x0 1768189029).bind fun v12 => ((v12.2.2 x0 6).bind fun a14 => (if bm_ia a14 0 (90 + x1) = true then (if (v12.1 a14 (90 + x1).toNatClampNeg) ≤ 0 then (if bm_ia a14 0 (82 + x1) = true then (if (v12.1 a14 (82 + x1).toNatClampNeg) ≤ 0 then (if bm_ia a14 0 63 = true then (if (f_X12_bitOf (v12.1 a14 (63 : Int32).toNatClampNeg) x1) = true then ((f_X12_says v12 x0 107148367717744).bind fun v19 => some ((v19.1 x0 32), v19)) else some ((v12.1 x0 32), v12)) else none) else ((f_X12_says v12 x0 448377483876).bind fun v21 => ((v21.2.2 x0 10).bind fun a23 => ((v21.2.2 x0 6).bind fun a25 => (if bm_ia a25 0 (82 + x1) = true then (if bm_ia a23 2 (4 + (v21.1 a25 (82 + x1).toNatClampNeg)) = true then ((f_X12_says v21 x0 (v21.2.1 a23 (4 + (v21.1 a25 (82 + x1).toNatClampNeg)).toNatClampNeg)).bind fun v29 => ((v29.2.2 x0 6).bind fun a31 => (if bm_ia a31 0 63 = true then (if (f_X12_bitOf (v29.1 a31 (63 : Int32).toNatClampNeg) x1) = true then ((f_X12_says v29 x0 107148367717744).bind fun v34 => some ((v34.1 x0 32), v34)) else some ((v29.1 x0 32), v29)) else none))) else none) else none))))) else none) else ((v12.2.2 x0 9).bind fun a36 => (if bm_ia a36 2 (7 + (v12.1 a14 (90 + x1).toNatClampNeg)) = true then ((f_X12_says v12 x0 (v12.2.1 a36 (7 + (v12.1 a14 (90 + x1).toNatClampNeg)).toNatClampNeg)).bind fun v39 => ((v39.2.2 x0 6).bind fun a41 => (if bm_ia a41 0 (82 + x1) = true then (if (v39.1 a41 (82 + x1).toNatClampNeg) ≤ 0 then (if bm_ia a41 0 63 = true then (if (f_X12_bitOf (v39.1 a41 (63 : Int32).toNatClampNeg) x1) = true then ((f_X12_says v39 x0 107148367717744).bind fun v45 => some ((v45.1 x0 32), v45)) else some ((v39.1 x0 32), v39)) else none) else ((f_X12_says v39 x0 448377483876).bind fun v47 => ((v47.2.2 x0 10).bind fun a49 => ((v47.2.2 x0 6).bind fun a51 => (if bm_ia a51 0 (82 + x1) = true then (if bm_ia a49 2 (4 + (v47.1 a51 (82 + x1).toNatClampNeg)) = true then ((f_X12_says v47 x0 (v47.2.1 a49 (4 + (v47.1 a51 (82 + x1).toNatClampNeg)).toNatClampNeg)).bind fun v55 => ((v55.2.2 x0 6).bind fun a57 => (if bm_ia a57 0 63 = true then (if (f_X12_bitOf (v55.1 a57 (63 : Int32).toNatClampNeg) x1) = true then ((f_X12_says v55 x0 107148367717744).bind fun v60 => some ((v60.1 x0 32), v60)) else some ((v55.1 x0 32), v55)) else none))) else none) else none))))) else none))) else none))) else none))) else ((f_X12_says v7 x0 6840691).bind fun v62 => ((v62.2.2 x0 6).bind fun a64 => (if bm_ia a64 0 (90 + x1) = true then (if (v62.1 a64 (90 + x1).toNatClampNeg) ≤ 0 then (if bm_ia a64 0 (82 + x1) = true then (if (v62.1 a64 (82 + x1).toNatClampNeg) ≤ 0 then (if bm_ia a64 0 63 = true then (if (f_X12_bitOf (v62.1 a64 (63 : Int32).toNatClampNeg) x1) = true then ((f_X12_says v62 x0 107148367717744).bind fun v69 => some ((v69.1 x0 32), v69)) else some ((v62.1 x0 32), v62)) else none) else ((f_X12_says v62 x0 448377483876).bind fun v71 => ((v71.2.2 x0 10).bind fun a73 => ((v71.2.2 x0 6).bind fun a75 => (if bm_ia a75 0 (82 + x1) = true then (if bm_ia a73 2 (4 + (v71.1 a75 (82 + x1).toNatClampNeg)) = true then ((f_X12_says v71 x0 (v71.2.1 a73 (4 + (v71.1 a75 (82 + x1).toNatClampNeg)).toNatClampNeg)).bind fun v79 => ((v79.2.2 x0 6).bind fun a81 => (if bm_ia a81 0 63 = true then (if (f_X12_bitOf (v79.1 a81 (63 : Int32).toNatClampNeg) x1) = true then ((f_X12_says v79 x0 107148367717744).bind fun v84 => some ((v84.1 x0 32), v84)) else some ((v79.1 x0 32), v79)) else none))) else none) else none))))) else none) else ((v62.2.2 x0 9).bind fun a86 => (if bm_ia a86 2 (7 + (v62.1 a64 (90 + x1).toNatClampNeg)) = true then ((f_X12_says v62 x0 (v62.2.1 a86 (7 + (v62.1 a64 (90 + x1).toNatClampNeg)).toNatClampNeg)).bind fun v89 => ((v89.2.2 x0 6).bind fun a91 => (if bm_ia a91 0 (82 + x1) = true then (if (v89.1 a91 (82 + x1).toNatClampNeg) ≤ 0 then (if bm_ia a91 0 63 = true then (if (f_X12_bitOf (v89.1 a91 (63 : Int32).toNatClampNeg) x1) = true then ((f_X12_says v89 x0 107148367717744).bind fun v95 => some ((v95.1 x0 32), v95)) else some ((v89.1 x0 32), v89)) else none) else ((f_X12_says v89 x0 448377483876).bind fun v97 => ((v97.2.2 x0 10).bind fun a99 => ((v97.2.2 x0 6).bind fun a101 => (if bm_ia a101 0 (82 + x1) = true then (if bm_ia a99 2 (4 + (v97.1 a101 (82 + x1).toNatClampNeg)) = true then ((f_X12_says v97 x0 (v97.2.1 a99 (4 + (v97.1 a101 (82 + x1).toNatClampNeg)).toNatClampNeg)).bind fun v105 => ((v105.2.2 x0 6).bind fun a107 => (if bm_ia a107 0 63 = true then (if (f_X12_bitOf (v105.1 a107 (63 : Int32).toNatClampNeg) x1) = true then ((f_X12_says v105 x0 107148367717744).bind fun v110 => some ((v110.1 x0 32), v110)) else some ((v105.1 x0 32), v105)) else none))) else none) else none))))) else none))) else none))) else none)))) else none))) else none)) else some ((-1), (bm_sI M x0 0 0)))) else none)
set_option maxHeartbeats 4000000 in
set_option maxRecDepth 100000 in
theorem c_X12_report {L : bm_L} {d n : Nat} {M : bm_M} {x0 : Nat} {x1 : Int32} {v : Int32 × bm_M} (hN : 181 ≤ n) (h : f_X12_report M x0 x1 = some v) : bm_C L m_X12_report (d + 3) n n [.ref x0, .int x1] M (fun r M' => r = some (.int v.1) ∧ M' = v.2) := by
  refine bm_C.ofV (by decide) (Nat.le_of_ble_eq_true rfl) ?_
  show bm_V L m_X12_report (d + 3) n n n 0 [(0, .ref x0), (1, .int x1)] [] M _
  unfold f_X12_report at h
  refine bv_aload_n dX12_report_0 0 rfl ?_
  refine bv_iconst (v := 0) dX12_report_1 (by decide) ?_
  obtain ⟨q1, h⟩ := bu_io h
  refine bw_putI hN q1 dX12_report_2 fl_12_1 rfl ?_
  refine bv_aload_n dX12_report_5 0 rfl ?_
  refine bv_iload_n dX12_report_6 1 rfl ?_
  obtain ⟨v2, p3, h⟩ := bu_bd h
  refine bw_callV (As := [.int x1]) hN q1 ⟨_, _, rfl⟩ dX12_report_7 mc_12_303 (c_X12_isMan (d := d + 1) hN p3) rfl rfl (by decide) ?_
  refine bw_ifB_ne (b := v2) (tgt := 15) dX12_report_10 (by decide) (fun cc => ?_) (fun cc => ?_)
  · replace h := bu_bt h cc
    refine bv_aload_n dX12_report_15 0 rfl ?_
    refine bv_iconst (v := 0) dX12_report_16 (by decide) ?_
    refine bw_putI hN q1 dX12_report_17 fl_12_407 rfl ?_
    refine bv_aload_n dX12_report_20 0 rfl ?_
    refine bv_aload_n dX12_report_21 0 rfl ?_
    obtain ⟨a4, e5, h⟩ := bu_bd h
    refine bw_getA (a := a4) hN q1 e5 dX12_report_22 fl_12_43 rfl ?_
    refine bv_iload_n dX12_report_25 1 rfl ?_
    obtain ⟨r6, h⟩ := bu_ia h
    refine bw_lald hN r6 dX12_report_26 ?_
    obtain ⟨v7, p8, h⟩ := bu_bd h
    refine bw_callVv (As := [.long ((bm_sI (bm_sI M x0 0 0) x0 32 0).2.1 a4 x1.toNatClampNeg)]) hN q1 ⟨_, _, rfl⟩ dX12_report_27 mc_12_415 (c_X12_spells (d := d + 1) hN p8) rfl rfl (by decide) ?_
    refine bv_aload_n dX12_report_30 0 rfl ?_
    refine bv_aload_n dX12_report_31 0 rfl ?_
    obtain ⟨a9, e10, h⟩ := bu_bd h
    refine bw_getA (a := a9) hN q1 e10 dX12_report_32 fl_12_33 rfl ?_
    refine bv_bipush (v := 90) dX12_report_35 (by decide) ?_
    refine bv_iload_n dX12_report_37 1 rfl ?_
    refine bv_iadd dX12_report_38 ?_
    obtain ⟨r11, h⟩ := bu_ia h
    refine bw_iald hN r11 dX12_report_39 ?_
    refine bv_if_le (tgt := 49) dX12_report_40 (by decide) (fun cc => ?_) (fun cc => ?_)
    · replace h := bu_t h cc
      refine bv_ldc2 (v := 1768189029) dX12_report_49 cst_12_147 ?_
      obtain ⟨v12, p13, h⟩ := bu_bd h
      refine bw_callVv (As := [.long 1768189029]) hN q1 ⟨_, _, rfl⟩ dX12_report_52 mc_12_419 (c_X12_says (d := d + 0) hN p13) rfl rfl (by decide) ?_
      refine bv_aload_n dX12_report_55 0 rfl ?_
      obtain ⟨a14, e15, h⟩ := bu_bd h
      refine bw_getA (a := a14) hN q1 e15 dX12_report_56 fl_12_33 rfl ?_
      refine bv_bipush (v := 90) dX12_report_59 (by decide) ?_
      refine bv_iload_n dX12_report_61 1 rfl ?_
      refine bv_iadd dX12_report_62 ?_
      obtain ⟨r16, h⟩ := bu_ia h
      refine bw_iald hN r16 dX12_report_63 ?_
      refine bv_if_le (tgt := 88) dX12_report_64 (by decide) (fun cc => ?_) (fun cc => ?_)
      · replace h := bu_t h cc
        refine bv_aload_n dX12_report_88 0 rfl ?_
        refine bw_getA (a := a14) hN q1 e15 dX12_report_89 fl_12_33 rfl ?_
        refine bv_bipush (v := 82) dX12_report_92 (by decide) ?_
        refine bv_iload_n dX12_report_94 1 rfl ?_
        refine bv_iadd dX12_report_95 ?_
        obtain ⟨r17, h⟩ := bu_ia h
        refine bw_iald hN r17 dX12_report_96 ?_
        refine bv_if_le (tgt := 127) dX12_report_97 (by decide) (fun cc => ?_) (fun cc => ?_)
        · replace h := bu_t h cc
          refine bv_aload_n dX12_report_127 0 rfl ?_
          refine bw_getA (a := a14) hN q1 e15 dX12_report_128 fl_12_33 rfl ?_
          refine bv_bipush (v := 63) dX12_report_131 (by decide) ?_
          obtain ⟨r18, h⟩ := bu_ia h
          refine bw_iald hN r18 dX12_report_133 ?_
          refine bv_iload_n dX12_report_134 1 rfl ?_
          refine bw_callS (As := [.int (v12.1 a14 (63 : Int32).toNatClampNeg), .int x1]) dX12_report_135 mc_12_231 (c_X12_bitOf (d := d + 2) hN rfl) rfl rfl (by decide) ?_
          refine bw_ifB_eq (b := (f_X12_bitOf (v12.1 a14 (63 : Int32).toNatClampNeg) x1)) (tgt := 148) dX12_report_138 (by decide) (fun cc => ?_) (fun cc => ?_)
          · replace h := bu_bf h cc
            refine bv_aload_n dX12_report_148 0 rfl ?_
            refine bw_getI hN q1 dX12_report_149 fl_12_407 rfl ?_
            obtain rfl := Option.some.inj h
            exact bv_iret (x := (v12.1 x0 32)) dX12_report_152 rfl ⟨rfl, rfl⟩
          · replace h := bu_bt h cc
            refine bv_aload_n dX12_report_141 0 rfl ?_
            refine bv_ldc2 (v := 107148367717744) dX12_report_142 cst_12_143 ?_
            obtain ⟨v19, p20, h⟩ := bu_bd h
            refine bw_callVv (As := [.long 107148367717744]) hN q1 ⟨_, _, rfl⟩ dX12_report_145 mc_12_419 (c_X12_says (d := d + 0) hN p20) rfl rfl (by decide) ?_
            refine bv_aload_n dX12_report_148 0 rfl ?_
            refine bw_getI hN q1 dX12_report_149 fl_12_407 rfl ?_
            obtain rfl := Option.some.inj h
            exact bv_iret (x := (v19.1 x0 32)) dX12_report_152 rfl ⟨rfl, rfl⟩
        · replace h := bu_f h cc
          refine bv_aload_n dX12_report_100 0 rfl ?_
          refine bv_ldc2 (v := 448377483876) dX12_report_101 cst_12_155 ?_
          obtain ⟨v21, p22, h⟩ := bu_bd h
          refine bw_callVv (As := [.long 448377483876]) hN q1 ⟨_, _, rfl⟩ dX12_report_104 mc_12_419 (c_X12_says (d := d + 0) hN p22) rfl rfl (by decide) ?_
          refine bv_aload_n dX12_report_107 0 rfl ?_
          refine bv_aload_n dX12_report_108 0 rfl ?_
          obtain ⟨a23, e24, h⟩ := bu_bd h
          refine bw_getA (a := a23) hN q1 e24 dX12_report_109 fl_12_47 rfl ?_
          refine bv_iconst (v := 4) dX12_report_112 (by decide) ?_
          refine bv_aload_n dX12_report_113 0 rfl ?_
          obtain ⟨a25, e26, h⟩ := bu_bd h
          refine bw_getA (a := a25) hN q1 e26 dX12_report_114 fl_12_33 rfl ?_
          refine bv_bipush (v := 82) dX12_report_117 (by decide) ?_
          refine bv_iload_n dX12_report_119 1 rfl ?_
          refine bv_iadd dX12_report_120 ?_
          obtain ⟨r27, h⟩ := bu_ia h
          refine bw_iald hN r27 dX12_report_121 ?_
          refine bv_iadd dX12_report_122 ?_
          obtain ⟨r28, h⟩ := bu_ia h
          refine bw_lald hN r28 dX12_report_123 ?_
          obtain ⟨v29, p30, h⟩ := bu_bd h
          refine bw_callVv (As := [.long (v21.2.1 a23 (4 + (v21.1 a25 (82 + x1).toNatClampNeg)).toNatClampNeg)]) hN q1 ⟨_, _, rfl⟩ dX12_report_124 mc_12_419 (c_X12_says (d := d + 0) hN p30) rfl rfl (by decide) ?_
          refine bv_aload_n dX12_report_127 0 rfl ?_
          obtain ⟨a31, e32, h⟩ := bu_bd h
          refine bw_getA (a := a31) hN q1 e32 dX12_report_128 fl_12_33 rfl ?_
          refine bv_bipush (v := 63) dX12_report_131 (by decide) ?_
          obtain ⟨r33, h⟩ := bu_ia h
          refine bw_iald hN r33 dX12_report_133 ?_
          refine bv_iload_n dX12_report_134 1 rfl ?_
          refine bw_callS (As := [.int (v29.1 a31 (63 : Int32).toNatClampNeg), .int x1]) dX12_report_135 mc_12_231 (c_X12_bitOf (d := d + 2) hN rfl) rfl rfl (by decide) ?_
          refine bw_ifB_eq (b := (f_X12_bitOf (v29.1 a31 (63 : Int32).toNatClampNeg) x1)) (tgt := 148) dX12_report_138 (by decide) (fun cc => ?_) (fun cc => ?_)
          · replace h := bu_bf h cc
            refine bv_aload_n dX12_report_148 0 rfl ?_
            refine bw_getI hN q1 dX12_report_149 fl_12_407 rfl ?_
            obtain rfl := Option.some.inj h
            exact bv_iret (x := (v29.1 x0 32)) dX12_report_152 rfl ⟨rfl, rfl⟩
          · replace h := bu_bt h cc
            refine bv_aload_n dX12_report_141 0 rfl ?_
            refine bv_ldc2 (v := 107148367717744) dX12_report_142 cst_12_143 ?_
            obtain ⟨v34, p35, h⟩ := bu_bd h
            refine bw_callVv (As := [.long 107148367717744]) hN q1 ⟨_, _, rfl⟩ dX12_report_145 mc_12_419 (c_X12_says (d := d + 0) hN p35) rfl rfl (by decide) ?_
            refine bv_aload_n dX12_report_148 0 rfl ?_
            refine bw_getI hN q1 dX12_report_149 fl_12_407 rfl ?_
            obtain rfl := Option.some.inj h
            exact bv_iret (x := (v34.1 x0 32)) dX12_report_152 rfl ⟨rfl, rfl⟩
      · replace h := bu_f h cc
        refine bv_aload_n dX12_report_67 0 rfl ?_
        refine bv_aload_n dX12_report_68 0 rfl ?_
        obtain ⟨a36, e37, h⟩ := bu_bd h
        refine bw_getA (a := a36) hN q1 e37 dX12_report_69 fl_12_43 rfl ?_
        refine bv_bipush (v := 7) dX12_report_72 (by decide) ?_
        refine bv_aload_n dX12_report_74 0 rfl ?_
        refine bw_getA (a := a14) hN q1 e15 dX12_report_75 fl_12_33 rfl ?_
        refine bv_bipush (v := 90) dX12_report_78 (by decide) ?_
        refine bv_iload_n dX12_report_80 1 rfl ?_
        refine bv_iadd dX12_report_81 ?_
        refine bw_iald hN r16 dX12_report_82 ?_
        refine bv_iadd dX12_report_83 ?_
        obtain ⟨r38, h⟩ := bu_ia h
        refine bw_lald hN r38 dX12_report_84 ?_
        obtain ⟨v39, p40, h⟩ := bu_bd h
        refine bw_callVv (As := [.long (v12.2.1 a36 (7 + (v12.1 a14 (90 + x1).toNatClampNeg)).toNatClampNeg)]) hN q1 ⟨_, _, rfl⟩ dX12_report_85 mc_12_419 (c_X12_says (d := d + 0) hN p40) rfl rfl (by decide) ?_
        refine bv_aload_n dX12_report_88 0 rfl ?_
        obtain ⟨a41, e42, h⟩ := bu_bd h
        refine bw_getA (a := a41) hN q1 e42 dX12_report_89 fl_12_33 rfl ?_
        refine bv_bipush (v := 82) dX12_report_92 (by decide) ?_
        refine bv_iload_n dX12_report_94 1 rfl ?_
        refine bv_iadd dX12_report_95 ?_
        obtain ⟨r43, h⟩ := bu_ia h
        refine bw_iald hN r43 dX12_report_96 ?_
        refine bv_if_le (tgt := 127) dX12_report_97 (by decide) (fun cc => ?_) (fun cc => ?_)
        · replace h := bu_t h cc
          refine bv_aload_n dX12_report_127 0 rfl ?_
          refine bw_getA (a := a41) hN q1 e42 dX12_report_128 fl_12_33 rfl ?_
          refine bv_bipush (v := 63) dX12_report_131 (by decide) ?_
          obtain ⟨r44, h⟩ := bu_ia h
          refine bw_iald hN r44 dX12_report_133 ?_
          refine bv_iload_n dX12_report_134 1 rfl ?_
          refine bw_callS (As := [.int (v39.1 a41 (63 : Int32).toNatClampNeg), .int x1]) dX12_report_135 mc_12_231 (c_X12_bitOf (d := d + 2) hN rfl) rfl rfl (by decide) ?_
          refine bw_ifB_eq (b := (f_X12_bitOf (v39.1 a41 (63 : Int32).toNatClampNeg) x1)) (tgt := 148) dX12_report_138 (by decide) (fun cc => ?_) (fun cc => ?_)
          · replace h := bu_bf h cc
            refine bv_aload_n dX12_report_148 0 rfl ?_
            refine bw_getI hN q1 dX12_report_149 fl_12_407 rfl ?_
            obtain rfl := Option.some.inj h
            exact bv_iret (x := (v39.1 x0 32)) dX12_report_152 rfl ⟨rfl, rfl⟩
          · replace h := bu_bt h cc
            refine bv_aload_n dX12_report_141 0 rfl ?_
            refine bv_ldc2 (v := 107148367717744) dX12_report_142 cst_12_143 ?_
            obtain ⟨v45, p46, h⟩ := bu_bd h
            refine bw_callVv (As := [.long 107148367717744]) hN q1 ⟨_, _, rfl⟩ dX12_report_145 mc_12_419 (c_X12_says (d := d + 0) hN p46) rfl rfl (by decide) ?_
            refine bv_aload_n dX12_report_148 0 rfl ?_
            refine bw_getI hN q1 dX12_report_149 fl_12_407 rfl ?_
            obtain rfl := Option.some.inj h
            exact bv_iret (x := (v45.1 x0 32)) dX12_report_152 rfl ⟨rfl, rfl⟩
        · replace h := bu_f h cc
          refine bv_aload_n dX12_report_100 0 rfl ?_
          refine bv_ldc2 (v := 448377483876) dX12_report_101 cst_12_155 ?_
          obtain ⟨v47, p48, h⟩ := bu_bd h
          refine bw_callVv (As := [.long 448377483876]) hN q1 ⟨_, _, rfl⟩ dX12_report_104 mc_12_419 (c_X12_says (d := d + 0) hN p48) rfl rfl (by decide) ?_
          refine bv_aload_n dX12_report_107 0 rfl ?_
          refine bv_aload_n dX12_report_108 0 rfl ?_
          obtain ⟨a49, e50, h⟩ := bu_bd h
          refine bw_getA (a := a49) hN q1 e50 dX12_report_109 fl_12_47 rfl ?_
          refine bv_iconst (v := 4) dX12_report_112 (by decide) ?_
          refine bv_aload_n dX12_report_113 0 rfl ?_
          obtain ⟨a51, e52, h⟩ := bu_bd h
          refine bw_getA (a := a51) hN q1 e52 dX12_report_114 fl_12_33 rfl ?_
          refine bv_bipush (v := 82) dX12_report_117 (by decide) ?_
          refine bv_iload_n dX12_report_119 1 rfl ?_
          refine bv_iadd dX12_report_120 ?_
          obtain ⟨r53, h⟩ := bu_ia h
          refine bw_iald hN r53 dX12_report_121 ?_
          refine bv_iadd dX12_report_122 ?_
          obtain ⟨r54, h⟩ := bu_ia h
          refine bw_lald hN r54 dX12_report_123 ?_
          obtain ⟨v55, p56, h⟩ := bu_bd h
          refine bw_callVv (As := [.long (v47.2.1 a49 (4 + (v47.1 a51 (82 + x1).toNatClampNeg)).toNatClampNeg)]) hN q1 ⟨_, _, rfl⟩ dX12_report_124 mc_12_419 (c_X12_says (d := d + 0) hN p56) rfl rfl (by decide) ?_
          refine bv_aload_n dX12_report_127 0 rfl ?_
          obtain ⟨a57, e58, h⟩ := bu_bd h
          refine bw_getA (a := a57) hN q1 e58 dX12_report_128 fl_12_33 rfl ?_
          refine bv_bipush (v := 63) dX12_report_131 (by decide) ?_
          obtain ⟨r59, h⟩ := bu_ia h
          refine bw_iald hN r59 dX12_report_133 ?_
          refine bv_iload_n dX12_report_134 1 rfl ?_
          refine bw_callS (As := [.int (v55.1 a57 (63 : Int32).toNatClampNeg), .int x1]) dX12_report_135 mc_12_231 (c_X12_bitOf (d := d + 2) hN rfl) rfl rfl (by decide) ?_
          refine bw_ifB_eq (b := (f_X12_bitOf (v55.1 a57 (63 : Int32).toNatClampNeg) x1)) (tgt := 148) dX12_report_138 (by decide) (fun cc => ?_) (fun cc => ?_)
          · replace h := bu_bf h cc
            refine bv_aload_n dX12_report_148 0 rfl ?_
            refine bw_getI hN q1 dX12_report_149 fl_12_407 rfl ?_
            obtain rfl := Option.some.inj h
            exact bv_iret (x := (v55.1 x0 32)) dX12_report_152 rfl ⟨rfl, rfl⟩
          · replace h := bu_bt h cc
            refine bv_aload_n dX12_report_141 0 rfl ?_
            refine bv_ldc2 (v := 107148367717744) dX12_report_142 cst_12_143 ?_
            obtain ⟨v60, p61, h⟩ := bu_bd h
            refine bw_callVv (As := [.long 107148367717744]) hN q1 ⟨_, _, rfl⟩ dX12_report_145 mc_12_419 (c_X12_says (d := d + 0) hN p61) rfl rfl (by decide) ?_
            refine bv_aload_n dX12_report_148 0 rfl ?_
            refine bw_getI hN q1 dX12_report_149 fl_12_407 rfl ?_
            obtain rfl := Option.some.inj h
            exact bv_iret (x := (v60.1 x0 32)) dX12_report_152 rfl ⟨rfl, rfl⟩
    · replace h := bu_f h cc
      refine bv_ldc2 (v := 6840691) dX12_report_43 cst_12_151 ?_
      refine bv_goto (tgt := 52) dX12_report_46 (by decide) ?_
      obtain ⟨v62, p63, h⟩ := bu_bd h
      refine bw_callVv (As := [.long 6840691]) hN q1 ⟨_, _, rfl⟩ dX12_report_52 mc_12_419 (c_X12_says (d := d + 0) hN p63) rfl rfl (by decide) ?_
      refine bv_aload_n dX12_report_55 0 rfl ?_
      obtain ⟨a64, e65, h⟩ := bu_bd h
      refine bw_getA (a := a64) hN q1 e65 dX12_report_56 fl_12_33 rfl ?_
      refine bv_bipush (v := 90) dX12_report_59 (by decide) ?_
      refine bv_iload_n dX12_report_61 1 rfl ?_
      refine bv_iadd dX12_report_62 ?_
      obtain ⟨r66, h⟩ := bu_ia h
      refine bw_iald hN r66 dX12_report_63 ?_
      refine bv_if_le (tgt := 88) dX12_report_64 (by decide) (fun cc => ?_) (fun cc => ?_)
      · replace h := bu_t h cc
        refine bv_aload_n dX12_report_88 0 rfl ?_
        refine bw_getA (a := a64) hN q1 e65 dX12_report_89 fl_12_33 rfl ?_
        refine bv_bipush (v := 82) dX12_report_92 (by decide) ?_
        refine bv_iload_n dX12_report_94 1 rfl ?_
        refine bv_iadd dX12_report_95 ?_
        obtain ⟨r67, h⟩ := bu_ia h
        refine bw_iald hN r67 dX12_report_96 ?_
        refine bv_if_le (tgt := 127) dX12_report_97 (by decide) (fun cc => ?_) (fun cc => ?_)
        · replace h := bu_t h cc
          refine bv_aload_n dX12_report_127 0 rfl ?_
          refine bw_getA (a := a64) hN q1 e65 dX12_report_128 fl_12_33 rfl ?_
          refine bv_bipush (v := 63) dX12_report_131 (by decide) ?_
          obtain ⟨r68, h⟩ := bu_ia h
          refine bw_iald hN r68 dX12_report_133 ?_
          refine bv_iload_n dX12_report_134 1 rfl ?_
          refine bw_callS (As := [.int (v62.1 a64 (63 : Int32).toNatClampNeg), .int x1]) dX12_report_135 mc_12_231 (c_X12_bitOf (d := d + 2) hN rfl) rfl rfl (by decide) ?_
          refine bw_ifB_eq (b := (f_X12_bitOf (v62.1 a64 (63 : Int32).toNatClampNeg) x1)) (tgt := 148) dX12_report_138 (by decide) (fun cc => ?_) (fun cc => ?_)
          · replace h := bu_bf h cc
            refine bv_aload_n dX12_report_148 0 rfl ?_
            refine bw_getI hN q1 dX12_report_149 fl_12_407 rfl ?_
            obtain rfl := Option.some.inj h
            exact bv_iret (x := (v62.1 x0 32)) dX12_report_152 rfl ⟨rfl, rfl⟩
          · replace h := bu_bt h cc
            refine bv_aload_n dX12_report_141 0 rfl ?_
            refine bv_ldc2 (v := 107148367717744) dX12_report_142 cst_12_143 ?_
            obtain ⟨v69, p70, h⟩ := bu_bd h
            refine bw_callVv (As := [.long 107148367717744]) hN q1 ⟨_, _, rfl⟩ dX12_report_145 mc_12_419 (c_X12_says (d := d + 0) hN p70) rfl rfl (by decide) ?_
            refine bv_aload_n dX12_report_148 0 rfl ?_
            refine bw_getI hN q1 dX12_report_149 fl_12_407 rfl ?_
            obtain rfl := Option.some.inj h
            exact bv_iret (x := (v69.1 x0 32)) dX12_report_152 rfl ⟨rfl, rfl⟩
        · replace h := bu_f h cc
          refine bv_aload_n dX12_report_100 0 rfl ?_
          refine bv_ldc2 (v := 448377483876) dX12_report_101 cst_12_155 ?_
          obtain ⟨v71, p72, h⟩ := bu_bd h
          refine bw_callVv (As := [.long 448377483876]) hN q1 ⟨_, _, rfl⟩ dX12_report_104 mc_12_419 (c_X12_says (d := d + 0) hN p72) rfl rfl (by decide) ?_
          refine bv_aload_n dX12_report_107 0 rfl ?_
          refine bv_aload_n dX12_report_108 0 rfl ?_
          obtain ⟨a73, e74, h⟩ := bu_bd h
          refine bw_getA (a := a73) hN q1 e74 dX12_report_109 fl_12_47 rfl ?_
          refine bv_iconst (v := 4) dX12_report_112 (by decide) ?_
          refine bv_aload_n dX12_report_113 0 rfl ?_
          obtain ⟨a75, e76, h⟩ := bu_bd h
          refine bw_getA (a := a75) hN q1 e76 dX12_report_114 fl_12_33 rfl ?_
          refine bv_bipush (v := 82) dX12_report_117 (by decide) ?_
          refine bv_iload_n dX12_report_119 1 rfl ?_
          refine bv_iadd dX12_report_120 ?_
          obtain ⟨r77, h⟩ := bu_ia h
          refine bw_iald hN r77 dX12_report_121 ?_
          refine bv_iadd dX12_report_122 ?_
          obtain ⟨r78, h⟩ := bu_ia h
          refine bw_lald hN r78 dX12_report_123 ?_
          obtain ⟨v79, p80, h⟩ := bu_bd h
          refine bw_callVv (As := [.long (v71.2.1 a73 (4 + (v71.1 a75 (82 + x1).toNatClampNeg)).toNatClampNeg)]) hN q1 ⟨_, _, rfl⟩ dX12_report_124 mc_12_419 (c_X12_says (d := d + 0) hN p80) rfl rfl (by decide) ?_
          refine bv_aload_n dX12_report_127 0 rfl ?_
          obtain ⟨a81, e82, h⟩ := bu_bd h
          refine bw_getA (a := a81) hN q1 e82 dX12_report_128 fl_12_33 rfl ?_
          refine bv_bipush (v := 63) dX12_report_131 (by decide) ?_
          obtain ⟨r83, h⟩ := bu_ia h
          refine bw_iald hN r83 dX12_report_133 ?_
          refine bv_iload_n dX12_report_134 1 rfl ?_
          refine bw_callS (As := [.int (v79.1 a81 (63 : Int32).toNatClampNeg), .int x1]) dX12_report_135 mc_12_231 (c_X12_bitOf (d := d + 2) hN rfl) rfl rfl (by decide) ?_
          refine bw_ifB_eq (b := (f_X12_bitOf (v79.1 a81 (63 : Int32).toNatClampNeg) x1)) (tgt := 148) dX12_report_138 (by decide) (fun cc => ?_) (fun cc => ?_)
          · replace h := bu_bf h cc
            refine bv_aload_n dX12_report_148 0 rfl ?_
            refine bw_getI hN q1 dX12_report_149 fl_12_407 rfl ?_
            obtain rfl := Option.some.inj h
            exact bv_iret (x := (v79.1 x0 32)) dX12_report_152 rfl ⟨rfl, rfl⟩
          · replace h := bu_bt h cc
            refine bv_aload_n dX12_report_141 0 rfl ?_
            refine bv_ldc2 (v := 107148367717744) dX12_report_142 cst_12_143 ?_
            obtain ⟨v84, p85, h⟩ := bu_bd h
            refine bw_callVv (As := [.long 107148367717744]) hN q1 ⟨_, _, rfl⟩ dX12_report_145 mc_12_419 (c_X12_says (d := d + 0) hN p85) rfl rfl (by decide) ?_
            refine bv_aload_n dX12_report_148 0 rfl ?_
            refine bw_getI hN q1 dX12_report_149 fl_12_407 rfl ?_
            obtain rfl := Option.some.inj h
            exact bv_iret (x := (v84.1 x0 32)) dX12_report_152 rfl ⟨rfl, rfl⟩
      · replace h := bu_f h cc
        refine bv_aload_n dX12_report_67 0 rfl ?_
        refine bv_aload_n dX12_report_68 0 rfl ?_
        obtain ⟨a86, e87, h⟩ := bu_bd h
        refine bw_getA (a := a86) hN q1 e87 dX12_report_69 fl_12_43 rfl ?_
        refine bv_bipush (v := 7) dX12_report_72 (by decide) ?_
        refine bv_aload_n dX12_report_74 0 rfl ?_
        refine bw_getA (a := a64) hN q1 e65 dX12_report_75 fl_12_33 rfl ?_
        refine bv_bipush (v := 90) dX12_report_78 (by decide) ?_
        refine bv_iload_n dX12_report_80 1 rfl ?_
        refine bv_iadd dX12_report_81 ?_
        refine bw_iald hN r66 dX12_report_82 ?_
        refine bv_iadd dX12_report_83 ?_
        obtain ⟨r88, h⟩ := bu_ia h
        refine bw_lald hN r88 dX12_report_84 ?_
        obtain ⟨v89, p90, h⟩ := bu_bd h
        refine bw_callVv (As := [.long (v62.2.1 a86 (7 + (v62.1 a64 (90 + x1).toNatClampNeg)).toNatClampNeg)]) hN q1 ⟨_, _, rfl⟩ dX12_report_85 mc_12_419 (c_X12_says (d := d + 0) hN p90) rfl rfl (by decide) ?_
        refine bv_aload_n dX12_report_88 0 rfl ?_
        obtain ⟨a91, e92, h⟩ := bu_bd h
        refine bw_getA (a := a91) hN q1 e92 dX12_report_89 fl_12_33 rfl ?_
        refine bv_bipush (v := 82) dX12_report_92 (by decide) ?_
        refine bv_iload_n dX12_report_94 1 rfl ?_
        refine bv_iadd dX12_report_95 ?_
        obtain ⟨r93, h⟩ := bu_ia h
        refine bw_iald hN r93 dX12_report_96 ?_
        refine bv_if_le (tgt := 127) dX12_report_97 (by decide) (fun cc => ?_) (fun cc => ?_)
        · replace h := bu_t h cc
          refine bv_aload_n dX12_report_127 0 rfl ?_
          refine bw_getA (a := a91) hN q1 e92 dX12_report_128 fl_12_33 rfl ?_
          refine bv_bipush (v := 63) dX12_report_131 (by decide) ?_
          obtain ⟨r94, h⟩ := bu_ia h
          refine bw_iald hN r94 dX12_report_133 ?_
          refine bv_iload_n dX12_report_134 1 rfl ?_
          refine bw_callS (As := [.int (v89.1 a91 (63 : Int32).toNatClampNeg), .int x1]) dX12_report_135 mc_12_231 (c_X12_bitOf (d := d + 2) hN rfl) rfl rfl (by decide) ?_
          refine bw_ifB_eq (b := (f_X12_bitOf (v89.1 a91 (63 : Int32).toNatClampNeg) x1)) (tgt := 148) dX12_report_138 (by decide) (fun cc => ?_) (fun cc => ?_)
          · replace h := bu_bf h cc
            refine bv_aload_n dX12_report_148 0 rfl ?_
            refine bw_getI hN q1 dX12_report_149 fl_12_407 rfl ?_
            obtain rfl := Option.some.inj h
            exact bv_iret (x := (v89.1 x0 32)) dX12_report_152 rfl ⟨rfl, rfl⟩
          · replace h := bu_bt h cc
            refine bv_aload_n dX12_report_141 0 rfl ?_
            refine bv_ldc2 (v := 107148367717744) dX12_report_142 cst_12_143 ?_
            obtain ⟨v95, p96, h⟩ := bu_bd h
            refine bw_callVv (As := [.long 107148367717744]) hN q1 ⟨_, _, rfl⟩ dX12_report_145 mc_12_419 (c_X12_says (d := d + 0) hN p96) rfl rfl (by decide) ?_
            refine bv_aload_n dX12_report_148 0 rfl ?_
            refine bw_getI hN q1 dX12_report_149 fl_12_407 rfl ?_
            obtain rfl := Option.some.inj h
            exact bv_iret (x := (v95.1 x0 32)) dX12_report_152 rfl ⟨rfl, rfl⟩
        · replace h := bu_f h cc
          refine bv_aload_n dX12_report_100 0 rfl ?_
          refine bv_ldc2 (v := 448377483876) dX12_report_101 cst_12_155 ?_
          obtain ⟨v97, p98, h⟩ := bu_bd h
          refine bw_callVv (As := [.long 448377483876]) hN q1 ⟨_, _, rfl⟩ dX12_report_104 mc_12_419 (c_X12_says (d := d + 0) hN p98) rfl rfl (by decide) ?_
          refine bv_aload_n dX12_report_107 0 rfl ?_
          refine bv_aload_n dX12_report_108 0 rfl ?_
          obtain ⟨a99, e100, h⟩ := bu_bd h
          refine bw_getA (a := a99) hN q1 e100 dX12_report_109 fl_12_47 rfl ?_
          refine bv_iconst (v := 4) dX12_report_112 (by decide) ?_
          refine bv_aload_n dX12_report_113 0 rfl ?_
          obtain ⟨a101, e102, h⟩ := bu_bd h
          refine bw_getA (a := a101) hN q1 e102 dX12_report_114 fl_12_33 rfl ?_
          refine bv_bipush (v := 82) dX12_report_117 (by decide) ?_
          refine bv_iload_n dX12_report_119 1 rfl ?_
          refine bv_iadd dX12_report_120 ?_
          obtain ⟨r103, h⟩ := bu_ia h
          refine bw_iald hN r103 dX12_report_121 ?_
          refine bv_iadd dX12_report_122 ?_
          obtain ⟨r104, h⟩ := bu_ia h
          refine bw_lald hN r104 dX12_report_123 ?_
          obtain ⟨v105, p106, h⟩ := bu_bd h
          refine bw_callVv (As := [.long (v97.2.1 a99 (4 + (v97.1 a101 (82 + x1).toNatClampNeg)).toNatClampNeg)]) hN q1 ⟨_, _, rfl⟩ dX12_report_124 mc_12_419 (c_X12_says (d := d + 0) hN p106) rfl rfl (by decide) ?_
          refine bv_aload_n dX12_report_127 0 rfl ?_
          obtain ⟨a107, e108, h⟩ := bu_bd h
          refine bw_getA (a := a107) hN q1 e108 dX12_report_128 fl_12_33 rfl ?_
          refine bv_bipush (v := 63) dX12_report_131 (by decide) ?_
          obtain ⟨r109, h⟩ := bu_ia h
          refine bw_iald hN r109 dX12_report_133 ?_
          refine bv_iload_n dX12_report_134 1 rfl ?_
          refine bw_callS (As := [.int (v105.1 a107 (63 : Int32).toNatClampNeg), .int x1]) dX12_report_135 mc_12_231 (c_X12_bitOf (d := d + 2) hN rfl) rfl rfl (by decide) ?_
          refine bw_ifB_eq (b := (f_X12_bitOf (v105.1 a107 (63 : Int32).toNatClampNeg) x1)) (tgt := 148) dX12_report_138 (by decide) (fun cc => ?_) (fun cc => ?_)
          · replace h := bu_bf h cc
            refine bv_aload_n dX12_report_148 0 rfl ?_
            refine bw_getI hN q1 dX12_report_149 fl_12_407 rfl ?_
            obtain rfl := Option.some.inj h
            exact bv_iret (x := (v105.1 x0 32)) dX12_report_152 rfl ⟨rfl, rfl⟩
          · replace h := bu_bt h cc
            refine bv_aload_n dX12_report_141 0 rfl ?_
            refine bv_ldc2 (v := 107148367717744) dX12_report_142 cst_12_143 ?_
            obtain ⟨v110, p111, h⟩ := bu_bd h
            refine bw_callVv (As := [.long 107148367717744]) hN q1 ⟨_, _, rfl⟩ dX12_report_145 mc_12_419 (c_X12_says (d := d + 0) hN p111) rfl rfl (by decide) ?_
            refine bv_aload_n dX12_report_148 0 rfl ?_
            refine bw_getI hN q1 dX12_report_149 fl_12_407 rfl ?_
            obtain rfl := Option.some.inj h
            exact bv_iret (x := (v110.1 x0 32)) dX12_report_152 rfl ⟨rfl, rfl⟩
  · replace h := bu_bf h cc
    refine bv_iconst (v := (-1)) dX12_report_13 (by decide) ?_
    obtain rfl := Option.some.inj h
    exact bv_iret (x := (-1)) dX12_report_14 rfl ⟨rfl, rfl⟩
def f_X12_byteAt (M : bm_M) (x0 : Nat) (x1 : Int32) : Option (Int32 × bm_M) := (if bm_io x0 11 then (if (f_X12_isIn x1 0 (((bm_sI M x0 0 0).1 x0 32) - 1)) = true then ((M.2.2 x0 31).bind fun a2 => (if bm_ia a2 1 x1 = true then some (((bm_sI M x0 0 0).1 a2 x1.toNatClampNeg), (bm_sI M x0 0 0)) else none)) else some ((-1), (bm_sI M x0 0 0))) else none)
set_option maxHeartbeats 4000000 in
set_option maxRecDepth 100000 in
theorem c_X12_byteAt {L : bm_L} {d n : Nat} {M : bm_M} {x0 : Nat} {x1 : Int32} {v : Int32 × bm_M} (hN : 181 ≤ n) (h : f_X12_byteAt M x0 x1 = some v) : bm_C L m_X12_byteAt (d + 1) n n [.ref x0, .int x1] M (fun r M' => r = some (.int v.1) ∧ M' = v.2) := by
  refine bm_C.ofV (by decide) (Nat.le_of_ble_eq_true rfl) ?_
  show bm_V L m_X12_byteAt (d + 1) n n n 0 [(0, .ref x0), (1, .int x1)] [] M _
  unfold f_X12_byteAt at h
  refine bv_aload_n dX12_byteAt_0 0 rfl ?_
  refine bv_iconst (v := 0) dX12_byteAt_1 (by decide) ?_
  obtain ⟨q1, h⟩ := bu_io h
  refine bw_putI hN q1 dX12_byteAt_2 fl_12_1 rfl ?_
  refine bv_iload_n dX12_byteAt_5 1 rfl ?_
  refine bv_iconst (v := 0) dX12_byteAt_6 (by decide) ?_
  refine bv_aload_n dX12_byteAt_7 0 rfl ?_
  refine bw_getI hN q1 dX12_byteAt_8 fl_12_407 rfl ?_
  refine bv_iconst (v := 1) dX12_byteAt_11 (by decide) ?_
  refine bv_isub dX12_byteAt_12 ?_
  refine bw_callS (As := [.int x1, .int 0, .int (((bm_sI M x0 0 0).1 x0 32) - 1)]) dX12_byteAt_13 mc_12_206 (c_X12_isIn (d := d + 0) hN rfl) rfl rfl (by decide) ?_
  refine bw_ifB_eq (b := (f_X12_isIn x1 0 (((bm_sI M x0 0 0).1 x0 32) - 1))) (tgt := 28) dX12_byteAt_16 (by decide) (fun cc => ?_) (fun cc => ?_)
  · replace h := bu_bf h cc
    refine bv_iconst (v := (-1)) dX12_byteAt_28 (by decide) ?_
    obtain rfl := Option.some.inj h
    exact bv_iret (x := (-1)) dX12_byteAt_29 rfl ⟨rfl, rfl⟩
  · replace h := bu_bt h cc
    refine bv_aload_n dX12_byteAt_19 0 rfl ?_
    obtain ⟨a2, e3, h⟩ := bu_bd h
    refine bw_getA (a := a2) hN q1 e3 dX12_byteAt_20 fl_12_71 rfl ?_
    refine bv_iload_n dX12_byteAt_23 1 rfl ?_
    obtain ⟨r4, h⟩ := bu_ia h
    refine bw_bald hN r4 dX12_byteAt_24 ?_
    refine bv_goto (tgt := 29) dX12_byteAt_25 (by decide) ?_
    obtain rfl := Option.some.inj h
    exact bv_iret (x := ((bm_sI M x0 0 0).1 a2 x1.toNatClampNeg)) dX12_byteAt_29 rfl ⟨rfl, rfl⟩
def f_X12_draw (M : bm_M) (x0 : Nat) (x1 : Int32) : Option (Int32 × bm_M) := (if bm_io x0 11 then (if ¬ x1 = 0 then some ((bm_rem (bm_iushr ((bm_sI M x0 33 (((M.1 x0 33) * 1103515245) + 12345)).1 x0 33) 8) x1), (bm_sI M x0 33 (((M.1 x0 33) * 1103515245) + 12345))) else none) else none)
set_option maxHeartbeats 4000000 in
set_option maxRecDepth 100000 in
theorem c_X12_draw {L : bm_L} {d n : Nat} {M : bm_M} {x0 : Nat} {x1 : Int32} {v : Int32 × bm_M} (hN : 181 ≤ n) (h : f_X12_draw M x0 x1 = some v) : bm_C L m_X12_draw d n n [.ref x0, .int x1] M (fun r M' => r = some (.int v.1) ∧ M' = v.2) := by
  refine bm_C.ofV (by decide) (Nat.le_of_ble_eq_true rfl) ?_
  show bm_V L m_X12_draw d n n n 0 [(0, .ref x0), (1, .int x1)] [] M _
  unfold f_X12_draw at h
  refine bv_aload_n dX12_draw_0 0 rfl ?_
  refine bv_aload_n dX12_draw_1 0 rfl ?_
  obtain ⟨q1, h⟩ := bu_io h
  refine bw_getI hN q1 dX12_draw_2 fl_12_422 rfl ?_
  refine bv_ldcw (v := 1103515245) dX12_draw_5 cst_12_425 ?_
  refine bv_imul dX12_draw_8 ?_
  refine bv_sipush (v := 12345) dX12_draw_9 (by decide) ?_
  refine bv_iadd dX12_draw_12 ?_
  refine bw_putI hN q1 dX12_draw_13 fl_12_422 rfl ?_
  refine bv_aload_n dX12_draw_16 0 rfl ?_
  refine bw_getI hN q1 dX12_draw_17 fl_12_422 rfl ?_
  refine bv_bipush (v := 8) dX12_draw_20 (by decide) ?_
  refine bv_iushr dX12_draw_22 ?_
  refine bv_iload_n dX12_draw_23 1 rfl ?_
  obtain ⟨z2, h⟩ := bu_gp h
  refine bv_irem dX12_draw_24 z2 ?_
  obtain rfl := Option.some.inj h
  exact bv_iret (x := (bm_rem (bm_iushr ((bm_sI M x0 33 (((M.1 x0 33) * 1103515245) + 12345)).1 x0 33) 8) x1)) dX12_draw_25 rfl ⟨rfl, rfl⟩
def f_X12_drawMan (M : bm_M) (x0 : Nat) (x1 : Int32) : Option (bm_M) := (if bm_io x0 11 then ((f_X12_draw M x0 8).bind fun v2 => (if v2.1 = 0 then ((f_X12_draw v2.2 x0 3).bind fun v89 => ((f_X12_browOf v89.2 x0 x1).bind fun v91 => (if v91 ≤ 0 then (if v2.1 = 1 then ((v89.2.2.2 x0 6).bind fun a135 => (if bm_ia a135 0 63 = true then (if v2.1 = 2 then ((f_X12_draw (bm_sI v89.2 a135 (63 : Int32).toNatClampNeg ((v89.2.1 a135 (63 : Int32).toNatClampNeg) ^^^ (bm_ishl 1 x1))) x0 4).bind fun v148 => ((f_X12_whyGo v148.2 x0 x1 v148.1).bind fun v150 => (if v150 = 0 then ((f_X12_goes v148.2 x0 x1 v148.1).bind fun v164 => (if v2.1 = 3 then ((v164.2.2 x0 6).bind fun a166 => (if bm_ia a166 0 1 = true then (if (v164.1 a166 (1 : Int32).toNatClampNeg) ≤ 0 then some v164 else ((f_X12_draw v164 x0 (v164.1 a166 (1 : Int32).toNatClampNeg)).bind fun v169 => ((v169.2.2.2 x0 6).bind fun a171 => (if bm_ia a171 0 (31 + x1) = true then (if (v169.2.1 a171 (31 + x1).toNatClampNeg) = 0 then ((f_X12_browOf v169.2 x0 x1).bind fun v174 => (if v174 ≤ 0 then some v169.2 else ((f_X12_gives v169.2 x0 x1 v169.1).bind fun v176 => some v176))) else some v169.2) else none)))) else none)) else some v164)) else (if v2.1 = 3 then ((v148.2.2.2 x0 6).bind fun a152 => (if bm_ia a152 0 1 = true then (if (v148.2.1 a152 (1 : Int32).toNatClampNeg) ≤ 0 then some v148.2 else ((f_X12_draw v148.2 x0 (v148.2.1 a152 (1 : Int32).toNatClampNeg)).bind fun v155 => ((v155.2.2.2 x0 6).bind fun a157 => (if bm_ia a157 0 (31 + x1) = true then (if (v155.2.1 a157 (31 + x1).toNatClampNeg) = 0 then ((f_X12_browOf v155.2 x0 x1).bind fun v160 => (if v160 ≤ 0 then some v155.2 else ((f_X12_gives v155.2 x0 x1 v155.1).bind fun v162 => some v162))) else some v155.2) else none)))) else none)) else some v148.2)))) else (if v2.1 = 3 then (if bm_ia a135 0 1 = true then (if ((bm_sI v89.2 a135 (63 : Int32).toNatClampNeg ((v89.2.1 a135 (63 : Int32).toNatClampNeg) ^^^ (bm_ishl 1 x1))).1 a135 (1 : Int32).toNatClampNeg) ≤ 0 then some (bm_sI v89.2 a135 (63 : Int32).toNatClampNeg ((v89.2.1 a135 (63 : Int32).toNatClampNeg) ^^^ (bm_ishl 1 x1))) else ((f_X12_draw (bm_sI v89.2 a135 (63 : Int32).toNatClampNeg ((v89.2.1 a135 (63 : Int32).toNatClampNeg) ^^^ (bm_ishl 1 x1))) x0 ((bm_sI v89.2 a135 (63 : Int32).toNatClampNeg ((v89.2.1 a135 (63 : Int32).toNatClampNeg) ^^^ (bm_ishl 1 x1))).1 a135 (1 : Int32).toNatClampNeg)).bind fun v139 => ((v139.2.2.2 x0 6).bind fun a141 => (if bm_ia a141 0 (31 + x1) = true then (if (v139.2.1 a141 (31 + x1).toNatClampNeg) = 0 then ((f_X12_browOf v139.2 x0 x1).bind fun v144 => (if v144 ≤ 0 then some v139.2 else ((f_X12_gives v139.2 x0 x1 v139.1).bind fun v146 => some v146))) else some v139.2) else none)))) else none) else some (bm_sI v89.2 a135 (63 : Int32).toNatClampNeg ((v89.2.1 a135 (63 : Int32).toNatClampNeg) ^^^ (bm_ishl 1 x1))))) else none)) else (if v2.1 = 2 then ((f_X12_draw v89.2 x0 4).bind fun v105 => ((f_X12_whyGo v105.2 x0 x1 v105.1).bind fun v107 => (if v107 = 0 then ((f_X12_goes v105.2 x0 x1 v105.1).bind fun v121 => (if v2.1 = 3 then ((v121.2.2 x0 6).bind fun a123 => (if bm_ia a123 0 1 = true then (if (v121.1 a123 (1 : Int32).toNatClampNeg) ≤ 0 then some v121 else ((f_X12_draw v121 x0 (v121.1 a123 (1 : Int32).toNatClampNeg)).bind fun v126 => ((v126.2.2.2 x0 6).bind fun a128 => (if bm_ia a128 0 (31 + x1) = true then (if (v126.2.1 a128 (31 + x1).toNatClampNeg) = 0 then ((f_X12_browOf v126.2 x0 x1).bind fun v131 => (if v131 ≤ 0 then some v126.2 else ((f_X12_gives v126.2 x0 x1 v126.1).bind fun v133 => some v133))) else some v126.2) else none)))) else none)) else some v121)) else (if v2.1 = 3 then ((v105.2.2.2 x0 6).bind fun a109 => (if bm_ia a109 0 1 = true then (if (v105.2.1 a109 (1 : Int32).toNatClampNeg) ≤ 0 then some v105.2 else ((f_X12_draw v105.2 x0 (v105.2.1 a109 (1 : Int32).toNatClampNeg)).bind fun v112 => ((v112.2.2.2 x0 6).bind fun a114 => (if bm_ia a114 0 (31 + x1) = true then (if (v112.2.1 a114 (31 + x1).toNatClampNeg) = 0 then ((f_X12_browOf v112.2 x0 x1).bind fun v117 => (if v117 ≤ 0 then some v112.2 else ((f_X12_gives v112.2 x0 x1 v112.1).bind fun v119 => some v119))) else some v112.2) else none)))) else none)) else some v105.2)))) else (if v2.1 = 3 then ((v89.2.2.2 x0 6).bind fun a93 => (if bm_ia a93 0 1 = true then (if (v89.2.1 a93 (1 : Int32).toNatClampNeg) ≤ 0 then some v89.2 else ((f_X12_draw v89.2 x0 (v89.2.1 a93 (1 : Int32).toNatClampNeg)).bind fun v96 => ((v96.2.2.2 x0 6).bind fun a98 => (if bm_ia a98 0 (31 + x1) = true then (if (v96.2.1 a98 (31 + x1).toNatClampNeg) = 0 then ((f_X12_browOf v96.2 x0 x1).bind fun v101 => (if v101 ≤ 0 then some v96.2 else ((f_X12_gives v96.2 x0 x1 v96.1).bind fun v103 => some v103))) else some v96.2) else none)))) else none)) else some v89.2))) else ((f_X12_lifts v89.2 x0 x1 (v89.1 + 1)).bind fun v178 => (if v2.1 = 1 then ((v178.2.2 x0 6).bind fun a222 => (if bm_ia a222 0 63 = true then (if v2.1 = 2 then ((f_X12_draw (bm_sI v178 a222 (63 : Int32).toNatClampNeg ((v178.1 a222 (63 : Int32).toNatClampNeg) ^^^ (bm_ishl 1 x1))) x0 4).bind fun v235 => ((f_X12_whyGo v235.2 x0 x1 v235.1).bind fun v237 => (if v237 = 0 then ((f_X12_goes v235.2 x0 x1 v235.1).bind fun v251 => (if v2.1 = 3 then ((v251.2.2 x0 6).bind fun a253 => (if bm_ia a253 0 1 = true then (if (v251.1 a253 (1 : Int32).toNatClampNeg) ≤ 0 then some v251 else ((f_X12_draw v251 x0 (v251.1 a253 (1 : Int32).toNatClampNeg)).bind fun v256 => ((v256.2.2.2 x0 6).bind fun a258 => (if bm_ia a258 0 (31 + x1) = true then (if (v256.2.1 a258 (31 + x1).toNatClampNeg) = 0 then ((f_X12_browOf v256.2 x0 x1).bind fun v261 => (if v261 ≤ 0 then some v256.2 else ((f_X12_gives v256.2 x0 x1 v256.1).bind fun v263 => some v263))) else some v256.2) else none)))) else none)) else some v251)) else (if v2.1 = 3 then ((v235.2.2.2 x0 6).bind fun a239 => (if bm_ia a239 0 1 = true then (if (v235.2.1 a239 (1 : Int32).toNatClampNeg) ≤ 0 then some v235.2 else ((f_X12_draw v235.2 x0 (v235.2.1 a239 (1 : Int32).toNatClampNeg)).bind fun v242 => ((v242.2.2.2 x0 6).bind fun a244 => (if bm_ia a244 0 (31 + x1) = true then (if (v242.2.1 a244 (31 + x1).toNatClampNeg) = 0 then ((f_X12_browOf v242.2 x0 x1).bind fun v247 => (if v247 ≤ 0 then some v242.2 else ((f_X12_gives v242.2 x0 x1 v242.1).bind fun v249 => some v249))) else some v242.2) else none)))) else none)) else some v235.2)))) else (if v2.1 = 3 then (if bm_ia a222 0 1 = true then (if ((bm_sI v178 a222 (63 : Int32).toNatClampNeg ((v178.1 a222 (63 : Int32).toNatClampNeg) ^^^ (bm_ishl 1 x1))).1 a222 (1 : Int32).toNatClampNeg) ≤ 0 then some (bm_sI v178 a222 (63 : Int32).toNatClampNeg ((v178.1 a222 (63 : Int32).toNatClampNeg) ^^^ (bm_ishl 1 x1))) else ((f_X12_draw (bm_sI v178 a222 (63 : Int32).toNatClampNeg ((v178.1 a222 (63 : Int32).toNatClampNeg) ^^^ (bm_ishl 1 x1))) x0 ((bm_sI v178 a222 (63 : Int32).toNatClampNeg ((v178.1 a222 (63 : Int32).toNatClampNeg) ^^^ (bm_ishl 1 x1))).1 a222 (1 : Int32).toNatClampNeg)).bind fun v226 => ((v226.2.2.2 x0 6).bind fun a228 => (if bm_ia a228 0 (31 + x1) = true then (if (v226.2.1 a228 (31 + x1).toNatClampNeg) = 0 then ((f_X12_browOf v226.2 x0 x1).bind fun v231 => (if v231 ≤ 0 then some v226.2 else ((f_X12_gives v226.2 x0 x1 v226.1).bind fun v233 => some v233))) else some v226.2) else none)))) else none) else some (bm_sI v178 a222 (63 : Int32).toNatClampNeg ((v178.1 a222 (63 : Int32).toNatClampNeg) ^^^ (bm_ishl 1 x1))))) else none)) else (if v2.1 = 2 then ((f_X12_draw v178 x0 4).bind fun v192 => ((f_X12_whyGo v192.2 x0 x1 v192.1).bind fun v194 => (if v194 = 0 then ((f_X12_goes v192.2 x0 x1 v192.1).bind fun v208 => (if v2.1 = 3 then ((v208.2.2 x0 6).bind fun a210 => (if bm_ia a210 0 1 = true then (if (v208.1 a210 (1 : Int32).toNatClampNeg) ≤ 0 then some v208 else ((f_X12_draw v208 x0 (v208.1 a210 (1 : Int32).toNatClampNeg)).bind fun v213 => ((v213.2.2.2 x0 6).bind fun a215 => (if bm_ia a215 0 (31 + x1) = true then (if (v213.2.1 a215 (31 + x1).toNatClampNeg) = 0 then ((f_X12_browOf v213.2 x0 x1).bind fun v218 => (if v218 ≤ 0 then some v213.2 else ((f_X12_gives v213.2 x0 x1 v213.1).bind fun v220 => some v220))) else some v213.2) else none)))) else none)) else some v208)) else (if v2.1 = 3 then ((v192.2.2.2 x0 6).bind fun a196 => (if bm_ia a196 0 1 = true then (if (v192.2.1 a196 (1 : Int32).toNatClampNeg) ≤ 0 then some v192.2 else ((f_X12_draw v192.2 x0 (v192.2.1 a196 (1 : Int32).toNatClampNeg)).bind fun v199 => ((v199.2.2.2 x0 6).bind fun a201 => (if bm_ia a201 0 (31 + x1) = true then (if (v199.2.1 a201 (31 + x1).toNatClampNeg) = 0 then ((f_X12_browOf v199.2 x0 x1).bind fun v204 => (if v204 ≤ 0 then some v199.2 else ((f_X12_gives v199.2 x0 x1 v199.1).bind fun v206 => some v206))) else some v199.2) else none)))) else none)) else some v192.2)))) else (if v2.1 = 3 then ((v178.2.2 x0 6).bind fun a180 => (if bm_ia a180 0 1 = true then (if (v178.1 a180 (1 : Int32).toNatClampNeg) ≤ 0 then some v178 else ((f_X12_draw v178 x0 (v178.1 a180 (1 : Int32).toNatClampNeg)).bind fun v183 => ((v183.2.2.2 x0 6).bind fun a185 => (if bm_ia a185 0 (31 + x1) = true then (if (v183.2.1 a185 (31 + x1).toNatClampNeg) = 0 then ((f_X12_browOf v183.2 x0 x1).bind fun v188 => (if v188 ≤ 0 then some v183.2 else ((f_X12_gives v183.2 x0 x1 v183.1).bind fun v190 => some v190))) else some v183.2) else none)))) else none)) else some v178))))))) else (if v2.1 = 1 then ((v2.2.2.2 x0 6).bind fun a46 => (if bm_ia a46 0 63 = true then (if v2.1 = 2 then ((f_X12_draw (bm_sI v2.2 a46 (63 : Int32).toNatClampNeg ((v2.2.1 a46 (63 : Int32).toNatClampNeg) ^^^ (bm_ishl 1 x1))) x0 4).bind fun v59 => ((f_X12_whyGo v59.2 x0 x1 v59.1).bind fun v61 => (if v61 = 0 then ((f_X12_goes v59.2 x0 x1 v59.1).bind fun v75 => (if v2.1 = 3 then ((v75.2.2 x0 6).bind fun a77 => (if bm_ia a77 0 1 = true then (if (v75.1 a77 (1 : Int32).toNatClampNeg) ≤ 0 then some v75 else ((f_X12_draw v75 x0 (v75.1 a77 (1 : Int32).toNatClampNeg)).bind fun v80 => ((v80.2.2.2 x0 6).bind fun a82 => (if bm_ia a82 0 (31 + x1) = true then (if (v80.2.1 a82 (31 + x1).toNatClampNeg) = 0 then ((f_X12_browOf v80.2 x0 x1).bind fun v85 => (if v85 ≤ 0 then some v80.2 else ((f_X12_gives v80.2 x0 x1 v80.1).bind fun v87 => some v87))) else some v80.2) else none)))) else none)) else some v75)) else (if v2.1 = 3 then ((v59.2.2.2 x0 6).bind fun a63 => (if bm_ia a63 0 1 = true then (if (v59.2.1 a63 (1 : Int32).toNatClampNeg) ≤ 0 then some v59.2 else ((f_X12_draw v59.2 x0 (v59.2.1 a63 (1 : Int32).toNatClampNeg)).bind fun v66 => ((v66.2.2.2 x0 6).bind fun a68 => (if bm_ia a68 0 (31 + x1) = true then (if (v66.2.1 a68 (31 + x1).toNatClampNeg) = 0 then ((f_X12_browOf v66.2 x0 x1).bind fun v71 => (if v71 ≤ 0 then some v66.2 else ((f_X12_gives v66.2 x0 x1 v66.1).bind fun v73 => some v73))) else some v66.2) else none)))) else none)) else some v59.2)))) else (if v2.1 = 3 then (if bm_ia a46 0 1 = true then (if ((bm_sI v2.2 a46 (63 : Int32).toNatClampNeg ((v2.2.1 a46 (63 : Int32).toNatClampNeg) ^^^ (bm_ishl 1 x1))).1 a46 (1 : Int32).toNatClampNeg) ≤ 0 then some (bm_sI v2.2 a46 (63 : Int32).toNatClampNeg ((v2.2.1 a46 (63 : Int32).toNatClampNeg) ^^^ (bm_ishl 1 x1))) else ((f_X12_draw (bm_sI v2.2 a46 (63 : Int32).toNatClampNeg ((v2.2.1 a46 (63 : Int32).toNatClampNeg) ^^^ (bm_ishl 1 x1))) x0 ((bm_sI v2.2 a46 (63 : Int32).toNatClampNeg ((v2.2.1 a46 (63 : Int32).toNatClampNeg) ^^^ (bm_ishl 1 x1))).1 a46 (1 : Int32).toNatClampNeg)).bind fun v50 => ((v50.2.2.2 x0 6).bind fun a52 => (if bm_ia a52 0 (31 + x1) = true then (if (v50.2.1 a52 (31 + x1).toNatClampNeg) = 0 then ((f_X12_browOf v50.2 x0 x1).bind fun v55 => (if v55 ≤ 0 then some v50.2 else ((f_X12_gives v50.2 x0 x1 v50.1).bind fun v57 => some v57))) else some v50.2) else none)))) else none) else some (bm_sI v2.2 a46 (63 : Int32).toNatClampNeg ((v2.2.1 a46 (63 : Int32).toNatClampNeg) ^^^ (bm_ishl 1 x1))))) else none)) else (if v2.1 = 2 then ((f_X12_draw v2.2 x0 4).bind fun v16 => ((f_X12_whyGo v16.2 x0 x1 v16.1).bind fun v18 => (if v18 = 0 then ((f_X12_goes v16.2 x0 x1 v16.1).bind fun v32 => (if v2.1 = 3 then ((v32.2.2 x0 6).bind fun a34 => (if bm_ia a34 0 1 = true then (if (v32.1 a34 (1 : Int32).toNatClampNeg) ≤ 0 then some v32 else ((f_X12_draw v32 x0 (v32.1 a34 (1 : Int32).toNatClampNeg)).bind fun v37 => ((v37.2.2.2 x0 6).bind fun a39 => (if bm_ia a39 0 (31 + x1) = true then (if (v37.2.1 a39 (31 + x1).toNatClampNeg) = 0 then ((f_X12_browOf v37.2 x0 x1).bind fun v42 => (if v42 ≤ 0 then some v37.2 else ((f_X12_gives v37.2 x0 x1 v37.1).bind fun v44 => some v44))) else some v37.2) else none)))) else none)) else some v32)) else (if v2.1 = 3 then ((v16.2.2.2 x0 6).bind fun a20 => (if bm_ia a20 0 1 = true then (if (v16.2.1 a20 (1 : Int32).toNatClampNeg) ≤ 0 then some v16.2 else ((f_X12_draw v16.2 x0 (v16.2.1 a20 (1 : Int32).toNatClampNeg)).bind fun v23 => ((v23.2.2.2 x0 6).bind fun a25 => (if bm_ia a25 0 (31 + x1) = true then (if (v23.2.1 a25 (31 + x1).toNatClampNeg) = 0 then ((f_X12_browOf v23.2 x0 x1).bind fun v28 => (if v28 ≤ 0 then some v23.2 else ((f_X12_gives v23.2 x0 x1 v23.1).bind fun v30 => some v30))) else some v23.2) else none)))) else none)) else some v16.2)))) else (if v2.1 = 3 then ((v2.2.2.2 x0 6).bind fun a4 => (if bm_ia a4 0 1 = true then (if (v2.2.1 a4 (1 : Int32).toNatClampNeg) ≤ 0 then some v2.2 else ((f_X12_draw v2.2 x0 (v2.2.1 a4 (1 : Int32).toNatClampNeg)).bind fun v7 => ((v7.2.2.2 x0 6).bind fun a9 => (if bm_ia a9 0 (31 + x1) = true then (if (v7.2.1 a9 (31 + x1).toNatClampNeg) = 0 then ((f_X12_browOf v7.2 x0 x1).bind fun v12 => (if v12 ≤ 0 then some v7.2 else ((f_X12_gives v7.2 x0 x1 v7.1).bind fun v14 => some v14))) else some v7.2) else none)))) else none)) else some v2.2))))) else none)
set_option maxHeartbeats 4000000 in
set_option maxRecDepth 100000 in
theorem c_X12_drawMan {L : bm_L} {d n : Nat} {M : bm_M} {x0 : Nat} {x1 : Int32} {v : bm_M} (hN : 181 ≤ n) (h : f_X12_drawMan M x0 x1 = some v) : bm_C L m_X12_drawMan (d + 8) n n [.ref x0, .int x1] M (fun r M' => r = none ∧ M' = v) := by
  refine bm_C.ofV (by decide) (Nat.le_of_ble_eq_true rfl) ?_
  show bm_V L m_X12_drawMan (d + 8) n n n 0 [(0, .ref x0), (1, .int x1)] [] M _
  unfold f_X12_drawMan at h
  refine bv_aload_n dX12_drawMan_0 0 rfl ?_
  refine bv_bipush (v := 8) dX12_drawMan_1 (by decide) ?_
  obtain ⟨q1, h⟩ := bu_io h
  obtain ⟨v2, p3, h⟩ := bu_bd h
  refine bw_callV (As := [.int 8]) hN q1 ⟨_, _, rfl⟩ dX12_drawMan_3 mc_12_426 (c_X12_draw (d := d + 7) hN p3) rfl rfl (by decide) ?_
  refine bv_istore_n (ls1 := [(0, .ref x0), (1, .int x1), (2, .int v2.1)]) dX12_drawMan_6 (by decide) rfl rfl ?_
  refine bv_iload_n dX12_drawMan_7 2 rfl ?_
  refine bv_if_ne (tgt := 33) dX12_drawMan_8 (by decide) (fun cc => ?_) (fun cc => ?_)
  · replace h := bu_f h cc
    refine bv_iload_n dX12_drawMan_33 2 rfl ?_
    refine bv_iconst (v := 1) dX12_drawMan_34 (by decide) ?_
    refine bv_icmp_ne (tgt := 51) dX12_drawMan_35 (by decide) (fun cc => ?_) (fun cc => ?_)
    · replace h := bu_f h cc
      refine bv_iload_n dX12_drawMan_51 2 rfl ?_
      refine bv_iconst (v := 2) dX12_drawMan_52 (by decide) ?_
      refine bv_icmp_ne (tgt := 77) dX12_drawMan_53 (by decide) (fun cc => ?_) (fun cc => ?_)
      · replace h := bu_f h cc
        refine bv_iload_n dX12_drawMan_77 2 rfl ?_
        refine bv_iconst (v := 3) dX12_drawMan_78 (by decide) ?_
        refine bv_icmp_ne (tgt := 128) dX12_drawMan_79 (by decide) (fun cc => ?_) (fun cc => ?_)
        · replace h := bu_f h cc
          obtain rfl := Option.some.inj h
          exact bv_vret dX12_drawMan_128 rfl ⟨rfl, rfl⟩
        · replace h := bu_t h cc
          refine bv_aload_n dX12_drawMan_82 0 rfl ?_
          obtain ⟨a4, e5, h⟩ := bu_bd h
          refine bw_getA (a := a4) hN q1 e5 dX12_drawMan_83 fl_12_33 rfl ?_
          refine bv_iconst (v := 1) dX12_drawMan_86 (by decide) ?_
          obtain ⟨r6, h⟩ := bu_ia h
          refine bw_iald hN r6 dX12_drawMan_87 ?_
          refine bv_if_le (tgt := 128) dX12_drawMan_88 (by decide) (fun cc => ?_) (fun cc => ?_)
          · replace h := bu_t h cc
            obtain rfl := Option.some.inj h
            exact bv_vret dX12_drawMan_128 rfl ⟨rfl, rfl⟩
          · replace h := bu_f h cc
            refine bv_aload_n dX12_drawMan_91 0 rfl ?_
            refine bv_aload_n dX12_drawMan_92 0 rfl ?_
            refine bw_getA (a := a4) hN q1 e5 dX12_drawMan_93 fl_12_33 rfl ?_
            refine bv_iconst (v := 1) dX12_drawMan_96 (by decide) ?_
            refine bw_iald hN r6 dX12_drawMan_97 ?_
            obtain ⟨v7, p8, h⟩ := bu_bd h
            refine bw_callV (As := [.int (v2.2.1 a4 (1 : Int32).toNatClampNeg)]) hN q1 ⟨_, _, rfl⟩ dX12_drawMan_98 mc_12_426 (c_X12_draw (d := d + 7) hN p8) rfl rfl (by decide) ?_
            refine bv_istore_n (ls1 := [(0, .ref x0), (1, .int x1), (2, .int v2.1), (3, .int v7.1)]) dX12_drawMan_101 (by decide) rfl rfl ?_
            refine bv_aload_n dX12_drawMan_102 0 rfl ?_
            obtain ⟨a9, e10, h⟩ := bu_bd h
            refine bw_getA (a := a9) hN q1 e10 dX12_drawMan_103 fl_12_33 rfl ?_
            refine bv_bipush (v := 31) dX12_drawMan_106 (by decide) ?_
            refine bv_iload_n dX12_drawMan_108 1 rfl ?_
            refine bv_iadd dX12_drawMan_109 ?_
            obtain ⟨r11, h⟩ := bu_ia h
            refine bw_iald hN r11 dX12_drawMan_110 ?_
            refine bv_if_ne (tgt := 128) dX12_drawMan_111 (by decide) (fun cc => ?_) (fun cc => ?_)
            · replace h := bu_f h cc
              obtain rfl := Option.some.inj h
              exact bv_vret dX12_drawMan_128 rfl ⟨rfl, rfl⟩
            · replace h := bu_t h cc
              refine bv_aload_n dX12_drawMan_114 0 rfl ?_
              refine bv_iload_n dX12_drawMan_115 1 rfl ?_
              obtain ⟨v12, p13, h⟩ := bu_bd h
              refine bw_callV (As := [.int x1]) hN q1 ⟨_, _, rfl⟩ dX12_drawMan_116 mc_12_290 (c_X12_browOf (d := d + 6) hN p13) rfl rfl (by decide) ?_
              refine bv_if_le (tgt := 128) dX12_drawMan_119 (by decide) (fun cc => ?_) (fun cc => ?_)
              · replace h := bu_t h cc
                obtain rfl := Option.some.inj h
                exact bv_vret dX12_drawMan_128 rfl ⟨rfl, rfl⟩
              · replace h := bu_f h cc
                refine bv_aload_n dX12_drawMan_122 0 rfl ?_
                refine bv_iload_n dX12_drawMan_123 1 rfl ?_
                refine bv_iload_n dX12_drawMan_124 3 rfl ?_
                obtain ⟨v14, p15, h⟩ := bu_bd h
                refine bw_callVv (As := [.int x1, .int v7.1]) hN q1 ⟨_, _, rfl⟩ dX12_drawMan_125 mc_12_332 (c_X12_gives (d := d + 0) hN p15) rfl rfl (by decide) ?_
                obtain rfl := Option.some.inj h
                exact bv_vret dX12_drawMan_128 rfl ⟨rfl, rfl⟩
      · replace h := bu_t h cc
        refine bv_aload_n dX12_drawMan_56 0 rfl ?_
        refine bv_iconst (v := 4) dX12_drawMan_57 (by decide) ?_
        obtain ⟨v16, p17, h⟩ := bu_bd h
        refine bw_callV (As := [.int 4]) hN q1 ⟨_, _, rfl⟩ dX12_drawMan_58 mc_12_426 (c_X12_draw (d := d + 7) hN p17) rfl rfl (by decide) ?_
        refine bv_istore_n (ls1 := [(0, .ref x0), (1, .int x1), (2, .int v2.1), (3, .int v16.1)]) dX12_drawMan_61 (by decide) rfl rfl ?_
        refine bv_aload_n dX12_drawMan_62 0 rfl ?_
        refine bv_iload_n dX12_drawMan_63 1 rfl ?_
        refine bv_iload_n dX12_drawMan_64 3 rfl ?_
        obtain ⟨v18, p19, h⟩ := bu_bd h
        refine bw_callV (As := [.int x1, .int v16.1]) hN q1 ⟨_, _, rfl⟩ dX12_drawMan_65 mc_12_351 (c_X12_whyGo (d := d + 6) hN p19) rfl rfl (by decide) ?_
        refine bv_if_ne (tgt := 77) dX12_drawMan_68 (by decide) (fun cc => ?_) (fun cc => ?_)
        · replace h := bu_f h cc
          refine bv_iload_n dX12_drawMan_77 2 rfl ?_
          refine bv_iconst (v := 3) dX12_drawMan_78 (by decide) ?_
          refine bv_icmp_ne (tgt := 128) dX12_drawMan_79 (by decide) (fun cc => ?_) (fun cc => ?_)
          · replace h := bu_f h cc
            obtain rfl := Option.some.inj h
            exact bv_vret dX12_drawMan_128 rfl ⟨rfl, rfl⟩
          · replace h := bu_t h cc
            refine bv_aload_n dX12_drawMan_82 0 rfl ?_
            obtain ⟨a20, e21, h⟩ := bu_bd h
            refine bw_getA (a := a20) hN q1 e21 dX12_drawMan_83 fl_12_33 rfl ?_
            refine bv_iconst (v := 1) dX12_drawMan_86 (by decide) ?_
            obtain ⟨r22, h⟩ := bu_ia h
            refine bw_iald hN r22 dX12_drawMan_87 ?_
            refine bv_if_le (tgt := 128) dX12_drawMan_88 (by decide) (fun cc => ?_) (fun cc => ?_)
            · replace h := bu_t h cc
              obtain rfl := Option.some.inj h
              exact bv_vret dX12_drawMan_128 rfl ⟨rfl, rfl⟩
            · replace h := bu_f h cc
              refine bv_aload_n dX12_drawMan_91 0 rfl ?_
              refine bv_aload_n dX12_drawMan_92 0 rfl ?_
              refine bw_getA (a := a20) hN q1 e21 dX12_drawMan_93 fl_12_33 rfl ?_
              refine bv_iconst (v := 1) dX12_drawMan_96 (by decide) ?_
              refine bw_iald hN r22 dX12_drawMan_97 ?_
              obtain ⟨v23, p24, h⟩ := bu_bd h
              refine bw_callV (As := [.int (v16.2.1 a20 (1 : Int32).toNatClampNeg)]) hN q1 ⟨_, _, rfl⟩ dX12_drawMan_98 mc_12_426 (c_X12_draw (d := d + 7) hN p24) rfl rfl (by decide) ?_
              refine bv_istore_n (ls1 := [(0, .ref x0), (1, .int x1), (2, .int v2.1), (3, .int v23.1)]) dX12_drawMan_101 (by decide) rfl rfl ?_
              refine bv_aload_n dX12_drawMan_102 0 rfl ?_
              obtain ⟨a25, e26, h⟩ := bu_bd h
              refine bw_getA (a := a25) hN q1 e26 dX12_drawMan_103 fl_12_33 rfl ?_
              refine bv_bipush (v := 31) dX12_drawMan_106 (by decide) ?_
              refine bv_iload_n dX12_drawMan_108 1 rfl ?_
              refine bv_iadd dX12_drawMan_109 ?_
              obtain ⟨r27, h⟩ := bu_ia h
              refine bw_iald hN r27 dX12_drawMan_110 ?_
              refine bv_if_ne (tgt := 128) dX12_drawMan_111 (by decide) (fun cc => ?_) (fun cc => ?_)
              · replace h := bu_f h cc
                obtain rfl := Option.some.inj h
                exact bv_vret dX12_drawMan_128 rfl ⟨rfl, rfl⟩
              · replace h := bu_t h cc
                refine bv_aload_n dX12_drawMan_114 0 rfl ?_
                refine bv_iload_n dX12_drawMan_115 1 rfl ?_
                obtain ⟨v28, p29, h⟩ := bu_bd h
                refine bw_callV (As := [.int x1]) hN q1 ⟨_, _, rfl⟩ dX12_drawMan_116 mc_12_290 (c_X12_browOf (d := d + 6) hN p29) rfl rfl (by decide) ?_
                refine bv_if_le (tgt := 128) dX12_drawMan_119 (by decide) (fun cc => ?_) (fun cc => ?_)
                · replace h := bu_t h cc
                  obtain rfl := Option.some.inj h
                  exact bv_vret dX12_drawMan_128 rfl ⟨rfl, rfl⟩
                · replace h := bu_f h cc
                  refine bv_aload_n dX12_drawMan_122 0 rfl ?_
                  refine bv_iload_n dX12_drawMan_123 1 rfl ?_
                  refine bv_iload_n dX12_drawMan_124 3 rfl ?_
                  obtain ⟨v30, p31, h⟩ := bu_bd h
                  refine bw_callVv (As := [.int x1, .int v23.1]) hN q1 ⟨_, _, rfl⟩ dX12_drawMan_125 mc_12_332 (c_X12_gives (d := d + 0) hN p31) rfl rfl (by decide) ?_
                  obtain rfl := Option.some.inj h
                  exact bv_vret dX12_drawMan_128 rfl ⟨rfl, rfl⟩
        · replace h := bu_t h cc
          refine bv_aload_n dX12_drawMan_71 0 rfl ?_
          refine bv_iload_n dX12_drawMan_72 1 rfl ?_
          refine bv_iload_n dX12_drawMan_73 3 rfl ?_
          obtain ⟨v32, p33, h⟩ := bu_bd h
          refine bw_callVv (As := [.int x1, .int v16.1]) hN q1 ⟨_, _, rfl⟩ dX12_drawMan_74 mc_12_354 (c_X12_goes (d := d + 6) hN p33) rfl rfl (by decide) ?_
          refine bv_iload_n dX12_drawMan_77 2 rfl ?_
          refine bv_iconst (v := 3) dX12_drawMan_78 (by decide) ?_
          refine bv_icmp_ne (tgt := 128) dX12_drawMan_79 (by decide) (fun cc => ?_) (fun cc => ?_)
          · replace h := bu_f h cc
            obtain rfl := Option.some.inj h
            exact bv_vret dX12_drawMan_128 rfl ⟨rfl, rfl⟩
          · replace h := bu_t h cc
            refine bv_aload_n dX12_drawMan_82 0 rfl ?_
            obtain ⟨a34, e35, h⟩ := bu_bd h
            refine bw_getA (a := a34) hN q1 e35 dX12_drawMan_83 fl_12_33 rfl ?_
            refine bv_iconst (v := 1) dX12_drawMan_86 (by decide) ?_
            obtain ⟨r36, h⟩ := bu_ia h
            refine bw_iald hN r36 dX12_drawMan_87 ?_
            refine bv_if_le (tgt := 128) dX12_drawMan_88 (by decide) (fun cc => ?_) (fun cc => ?_)
            · replace h := bu_t h cc
              obtain rfl := Option.some.inj h
              exact bv_vret dX12_drawMan_128 rfl ⟨rfl, rfl⟩
            · replace h := bu_f h cc
              refine bv_aload_n dX12_drawMan_91 0 rfl ?_
              refine bv_aload_n dX12_drawMan_92 0 rfl ?_
              refine bw_getA (a := a34) hN q1 e35 dX12_drawMan_93 fl_12_33 rfl ?_
              refine bv_iconst (v := 1) dX12_drawMan_96 (by decide) ?_
              refine bw_iald hN r36 dX12_drawMan_97 ?_
              obtain ⟨v37, p38, h⟩ := bu_bd h
              refine bw_callV (As := [.int (v32.1 a34 (1 : Int32).toNatClampNeg)]) hN q1 ⟨_, _, rfl⟩ dX12_drawMan_98 mc_12_426 (c_X12_draw (d := d + 7) hN p38) rfl rfl (by decide) ?_
              refine bv_istore_n (ls1 := [(0, .ref x0), (1, .int x1), (2, .int v2.1), (3, .int v37.1)]) dX12_drawMan_101 (by decide) rfl rfl ?_
              refine bv_aload_n dX12_drawMan_102 0 rfl ?_
              obtain ⟨a39, e40, h⟩ := bu_bd h
              refine bw_getA (a := a39) hN q1 e40 dX12_drawMan_103 fl_12_33 rfl ?_
              refine bv_bipush (v := 31) dX12_drawMan_106 (by decide) ?_
              refine bv_iload_n dX12_drawMan_108 1 rfl ?_
              refine bv_iadd dX12_drawMan_109 ?_
              obtain ⟨r41, h⟩ := bu_ia h
              refine bw_iald hN r41 dX12_drawMan_110 ?_
              refine bv_if_ne (tgt := 128) dX12_drawMan_111 (by decide) (fun cc => ?_) (fun cc => ?_)
              · replace h := bu_f h cc
                obtain rfl := Option.some.inj h
                exact bv_vret dX12_drawMan_128 rfl ⟨rfl, rfl⟩
              · replace h := bu_t h cc
                refine bv_aload_n dX12_drawMan_114 0 rfl ?_
                refine bv_iload_n dX12_drawMan_115 1 rfl ?_
                obtain ⟨v42, p43, h⟩ := bu_bd h
                refine bw_callV (As := [.int x1]) hN q1 ⟨_, _, rfl⟩ dX12_drawMan_116 mc_12_290 (c_X12_browOf (d := d + 6) hN p43) rfl rfl (by decide) ?_
                refine bv_if_le (tgt := 128) dX12_drawMan_119 (by decide) (fun cc => ?_) (fun cc => ?_)
                · replace h := bu_t h cc
                  obtain rfl := Option.some.inj h
                  exact bv_vret dX12_drawMan_128 rfl ⟨rfl, rfl⟩
                · replace h := bu_f h cc
                  refine bv_aload_n dX12_drawMan_122 0 rfl ?_
                  refine bv_iload_n dX12_drawMan_123 1 rfl ?_
                  refine bv_iload_n dX12_drawMan_124 3 rfl ?_
                  obtain ⟨v44, p45, h⟩ := bu_bd h
                  refine bw_callVv (As := [.int x1, .int v37.1]) hN q1 ⟨_, _, rfl⟩ dX12_drawMan_125 mc_12_332 (c_X12_gives (d := d + 0) hN p45) rfl rfl (by decide) ?_
                  obtain rfl := Option.some.inj h
                  exact bv_vret dX12_drawMan_128 rfl ⟨rfl, rfl⟩
    · replace h := bu_t h cc
      refine bv_aload_n dX12_drawMan_38 0 rfl ?_
      obtain ⟨a46, e47, h⟩ := bu_bd h
      refine bw_getA (a := a46) hN q1 e47 dX12_drawMan_39 fl_12_33 rfl ?_
      refine bv_bipush (v := 63) dX12_drawMan_42 (by decide) ?_
      refine bv_dup2 dX12_drawMan_44 rfl rfl ?_
      obtain ⟨r48, h⟩ := bu_ia h
      refine bw_iald hN r48 dX12_drawMan_45 ?_
      refine bv_iconst (v := 1) dX12_drawMan_46 (by decide) ?_
      refine bv_iload_n dX12_drawMan_47 1 rfl ?_
      refine bv_ishl dX12_drawMan_48 ?_
      refine bv_ixor dX12_drawMan_49 ?_
      refine bw_iast hN r48 dX12_drawMan_50 ?_
      refine bv_iload_n dX12_drawMan_51 2 rfl ?_
      refine bv_iconst (v := 2) dX12_drawMan_52 (by decide) ?_
      refine bv_icmp_ne (tgt := 77) dX12_drawMan_53 (by decide) (fun cc => ?_) (fun cc => ?_)
      · replace h := bu_f h cc
        refine bv_iload_n dX12_drawMan_77 2 rfl ?_
        refine bv_iconst (v := 3) dX12_drawMan_78 (by decide) ?_
        refine bv_icmp_ne (tgt := 128) dX12_drawMan_79 (by decide) (fun cc => ?_) (fun cc => ?_)
        · replace h := bu_f h cc
          obtain rfl := Option.some.inj h
          exact bv_vret dX12_drawMan_128 rfl ⟨rfl, rfl⟩
        · replace h := bu_t h cc
          refine bv_aload_n dX12_drawMan_82 0 rfl ?_
          refine bw_getA (a := a46) hN q1 e47 dX12_drawMan_83 fl_12_33 rfl ?_
          refine bv_iconst (v := 1) dX12_drawMan_86 (by decide) ?_
          obtain ⟨r49, h⟩ := bu_ia h
          refine bw_iald hN r49 dX12_drawMan_87 ?_
          refine bv_if_le (tgt := 128) dX12_drawMan_88 (by decide) (fun cc => ?_) (fun cc => ?_)
          · replace h := bu_t h cc
            obtain rfl := Option.some.inj h
            exact bv_vret dX12_drawMan_128 rfl ⟨rfl, rfl⟩
          · replace h := bu_f h cc
            refine bv_aload_n dX12_drawMan_91 0 rfl ?_
            refine bv_aload_n dX12_drawMan_92 0 rfl ?_
            refine bw_getA (a := a46) hN q1 e47 dX12_drawMan_93 fl_12_33 rfl ?_
            refine bv_iconst (v := 1) dX12_drawMan_96 (by decide) ?_
            refine bw_iald hN r49 dX12_drawMan_97 ?_
            obtain ⟨v50, p51, h⟩ := bu_bd h
            refine bw_callV (As := [.int ((bm_sI v2.2 a46 (63 : Int32).toNatClampNeg ((v2.2.1 a46 (63 : Int32).toNatClampNeg) ^^^ (bm_ishl 1 x1))).1 a46 (1 : Int32).toNatClampNeg)]) hN q1 ⟨_, _, rfl⟩ dX12_drawMan_98 mc_12_426 (c_X12_draw (d := d + 7) hN p51) rfl rfl (by decide) ?_
            refine bv_istore_n (ls1 := [(0, .ref x0), (1, .int x1), (2, .int v2.1), (3, .int v50.1)]) dX12_drawMan_101 (by decide) rfl rfl ?_
            refine bv_aload_n dX12_drawMan_102 0 rfl ?_
            obtain ⟨a52, e53, h⟩ := bu_bd h
            refine bw_getA (a := a52) hN q1 e53 dX12_drawMan_103 fl_12_33 rfl ?_
            refine bv_bipush (v := 31) dX12_drawMan_106 (by decide) ?_
            refine bv_iload_n dX12_drawMan_108 1 rfl ?_
            refine bv_iadd dX12_drawMan_109 ?_
            obtain ⟨r54, h⟩ := bu_ia h
            refine bw_iald hN r54 dX12_drawMan_110 ?_
            refine bv_if_ne (tgt := 128) dX12_drawMan_111 (by decide) (fun cc => ?_) (fun cc => ?_)
            · replace h := bu_f h cc
              obtain rfl := Option.some.inj h
              exact bv_vret dX12_drawMan_128 rfl ⟨rfl, rfl⟩
            · replace h := bu_t h cc
              refine bv_aload_n dX12_drawMan_114 0 rfl ?_
              refine bv_iload_n dX12_drawMan_115 1 rfl ?_
              obtain ⟨v55, p56, h⟩ := bu_bd h
              refine bw_callV (As := [.int x1]) hN q1 ⟨_, _, rfl⟩ dX12_drawMan_116 mc_12_290 (c_X12_browOf (d := d + 6) hN p56) rfl rfl (by decide) ?_
              refine bv_if_le (tgt := 128) dX12_drawMan_119 (by decide) (fun cc => ?_) (fun cc => ?_)
              · replace h := bu_t h cc
                obtain rfl := Option.some.inj h
                exact bv_vret dX12_drawMan_128 rfl ⟨rfl, rfl⟩
              · replace h := bu_f h cc
                refine bv_aload_n dX12_drawMan_122 0 rfl ?_
                refine bv_iload_n dX12_drawMan_123 1 rfl ?_
                refine bv_iload_n dX12_drawMan_124 3 rfl ?_
                obtain ⟨v57, p58, h⟩ := bu_bd h
                refine bw_callVv (As := [.int x1, .int v50.1]) hN q1 ⟨_, _, rfl⟩ dX12_drawMan_125 mc_12_332 (c_X12_gives (d := d + 0) hN p58) rfl rfl (by decide) ?_
                obtain rfl := Option.some.inj h
                exact bv_vret dX12_drawMan_128 rfl ⟨rfl, rfl⟩
      · replace h := bu_t h cc
        refine bv_aload_n dX12_drawMan_56 0 rfl ?_
        refine bv_iconst (v := 4) dX12_drawMan_57 (by decide) ?_
        obtain ⟨v59, p60, h⟩ := bu_bd h
        refine bw_callV (As := [.int 4]) hN q1 ⟨_, _, rfl⟩ dX12_drawMan_58 mc_12_426 (c_X12_draw (d := d + 7) hN p60) rfl rfl (by decide) ?_
        refine bv_istore_n (ls1 := [(0, .ref x0), (1, .int x1), (2, .int v2.1), (3, .int v59.1)]) dX12_drawMan_61 (by decide) rfl rfl ?_
        refine bv_aload_n dX12_drawMan_62 0 rfl ?_
        refine bv_iload_n dX12_drawMan_63 1 rfl ?_
        refine bv_iload_n dX12_drawMan_64 3 rfl ?_
        obtain ⟨v61, p62, h⟩ := bu_bd h
        refine bw_callV (As := [.int x1, .int v59.1]) hN q1 ⟨_, _, rfl⟩ dX12_drawMan_65 mc_12_351 (c_X12_whyGo (d := d + 6) hN p62) rfl rfl (by decide) ?_
        refine bv_if_ne (tgt := 77) dX12_drawMan_68 (by decide) (fun cc => ?_) (fun cc => ?_)
        · replace h := bu_f h cc
          refine bv_iload_n dX12_drawMan_77 2 rfl ?_
          refine bv_iconst (v := 3) dX12_drawMan_78 (by decide) ?_
          refine bv_icmp_ne (tgt := 128) dX12_drawMan_79 (by decide) (fun cc => ?_) (fun cc => ?_)
          · replace h := bu_f h cc
            obtain rfl := Option.some.inj h
            exact bv_vret dX12_drawMan_128 rfl ⟨rfl, rfl⟩
          · replace h := bu_t h cc
            refine bv_aload_n dX12_drawMan_82 0 rfl ?_
            obtain ⟨a63, e64, h⟩ := bu_bd h
            refine bw_getA (a := a63) hN q1 e64 dX12_drawMan_83 fl_12_33 rfl ?_
            refine bv_iconst (v := 1) dX12_drawMan_86 (by decide) ?_
            obtain ⟨r65, h⟩ := bu_ia h
            refine bw_iald hN r65 dX12_drawMan_87 ?_
            refine bv_if_le (tgt := 128) dX12_drawMan_88 (by decide) (fun cc => ?_) (fun cc => ?_)
            · replace h := bu_t h cc
              obtain rfl := Option.some.inj h
              exact bv_vret dX12_drawMan_128 rfl ⟨rfl, rfl⟩
            · replace h := bu_f h cc
              refine bv_aload_n dX12_drawMan_91 0 rfl ?_
              refine bv_aload_n dX12_drawMan_92 0 rfl ?_
              refine bw_getA (a := a63) hN q1 e64 dX12_drawMan_93 fl_12_33 rfl ?_
              refine bv_iconst (v := 1) dX12_drawMan_96 (by decide) ?_
              refine bw_iald hN r65 dX12_drawMan_97 ?_
              obtain ⟨v66, p67, h⟩ := bu_bd h
              refine bw_callV (As := [.int (v59.2.1 a63 (1 : Int32).toNatClampNeg)]) hN q1 ⟨_, _, rfl⟩ dX12_drawMan_98 mc_12_426 (c_X12_draw (d := d + 7) hN p67) rfl rfl (by decide) ?_
              refine bv_istore_n (ls1 := [(0, .ref x0), (1, .int x1), (2, .int v2.1), (3, .int v66.1)]) dX12_drawMan_101 (by decide) rfl rfl ?_
              refine bv_aload_n dX12_drawMan_102 0 rfl ?_
              obtain ⟨a68, e69, h⟩ := bu_bd h
              refine bw_getA (a := a68) hN q1 e69 dX12_drawMan_103 fl_12_33 rfl ?_
              refine bv_bipush (v := 31) dX12_drawMan_106 (by decide) ?_
              refine bv_iload_n dX12_drawMan_108 1 rfl ?_
              refine bv_iadd dX12_drawMan_109 ?_
              obtain ⟨r70, h⟩ := bu_ia h
              refine bw_iald hN r70 dX12_drawMan_110 ?_
              refine bv_if_ne (tgt := 128) dX12_drawMan_111 (by decide) (fun cc => ?_) (fun cc => ?_)
              · replace h := bu_f h cc
                obtain rfl := Option.some.inj h
                exact bv_vret dX12_drawMan_128 rfl ⟨rfl, rfl⟩
              · replace h := bu_t h cc
                refine bv_aload_n dX12_drawMan_114 0 rfl ?_
                refine bv_iload_n dX12_drawMan_115 1 rfl ?_
                obtain ⟨v71, p72, h⟩ := bu_bd h
                refine bw_callV (As := [.int x1]) hN q1 ⟨_, _, rfl⟩ dX12_drawMan_116 mc_12_290 (c_X12_browOf (d := d + 6) hN p72) rfl rfl (by decide) ?_
                refine bv_if_le (tgt := 128) dX12_drawMan_119 (by decide) (fun cc => ?_) (fun cc => ?_)
                · replace h := bu_t h cc
                  obtain rfl := Option.some.inj h
                  exact bv_vret dX12_drawMan_128 rfl ⟨rfl, rfl⟩
                · replace h := bu_f h cc
                  refine bv_aload_n dX12_drawMan_122 0 rfl ?_
                  refine bv_iload_n dX12_drawMan_123 1 rfl ?_
                  refine bv_iload_n dX12_drawMan_124 3 rfl ?_
                  obtain ⟨v73, p74, h⟩ := bu_bd h
                  refine bw_callVv (As := [.int x1, .int v66.1]) hN q1 ⟨_, _, rfl⟩ dX12_drawMan_125 mc_12_332 (c_X12_gives (d := d + 0) hN p74) rfl rfl (by decide) ?_
                  obtain rfl := Option.some.inj h
                  exact bv_vret dX12_drawMan_128 rfl ⟨rfl, rfl⟩
        · replace h := bu_t h cc
          refine bv_aload_n dX12_drawMan_71 0 rfl ?_
          refine bv_iload_n dX12_drawMan_72 1 rfl ?_
          refine bv_iload_n dX12_drawMan_73 3 rfl ?_
          obtain ⟨v75, p76, h⟩ := bu_bd h
          refine bw_callVv (As := [.int x1, .int v59.1]) hN q1 ⟨_, _, rfl⟩ dX12_drawMan_74 mc_12_354 (c_X12_goes (d := d + 6) hN p76) rfl rfl (by decide) ?_
          refine bv_iload_n dX12_drawMan_77 2 rfl ?_
          refine bv_iconst (v := 3) dX12_drawMan_78 (by decide) ?_
          refine bv_icmp_ne (tgt := 128) dX12_drawMan_79 (by decide) (fun cc => ?_) (fun cc => ?_)
          · replace h := bu_f h cc
            obtain rfl := Option.some.inj h
            exact bv_vret dX12_drawMan_128 rfl ⟨rfl, rfl⟩
          · replace h := bu_t h cc
            refine bv_aload_n dX12_drawMan_82 0 rfl ?_
            obtain ⟨a77, e78, h⟩ := bu_bd h
            refine bw_getA (a := a77) hN q1 e78 dX12_drawMan_83 fl_12_33 rfl ?_
            refine bv_iconst (v := 1) dX12_drawMan_86 (by decide) ?_
            obtain ⟨r79, h⟩ := bu_ia h
            refine bw_iald hN r79 dX12_drawMan_87 ?_
            refine bv_if_le (tgt := 128) dX12_drawMan_88 (by decide) (fun cc => ?_) (fun cc => ?_)
            · replace h := bu_t h cc
              obtain rfl := Option.some.inj h
              exact bv_vret dX12_drawMan_128 rfl ⟨rfl, rfl⟩
            · replace h := bu_f h cc
              refine bv_aload_n dX12_drawMan_91 0 rfl ?_
              refine bv_aload_n dX12_drawMan_92 0 rfl ?_
              refine bw_getA (a := a77) hN q1 e78 dX12_drawMan_93 fl_12_33 rfl ?_
              refine bv_iconst (v := 1) dX12_drawMan_96 (by decide) ?_
              refine bw_iald hN r79 dX12_drawMan_97 ?_
              obtain ⟨v80, p81, h⟩ := bu_bd h
              refine bw_callV (As := [.int (v75.1 a77 (1 : Int32).toNatClampNeg)]) hN q1 ⟨_, _, rfl⟩ dX12_drawMan_98 mc_12_426 (c_X12_draw (d := d + 7) hN p81) rfl rfl (by decide) ?_
              refine bv_istore_n (ls1 := [(0, .ref x0), (1, .int x1), (2, .int v2.1), (3, .int v80.1)]) dX12_drawMan_101 (by decide) rfl rfl ?_
              refine bv_aload_n dX12_drawMan_102 0 rfl ?_
              obtain ⟨a82, e83, h⟩ := bu_bd h
              refine bw_getA (a := a82) hN q1 e83 dX12_drawMan_103 fl_12_33 rfl ?_
              refine bv_bipush (v := 31) dX12_drawMan_106 (by decide) ?_
              refine bv_iload_n dX12_drawMan_108 1 rfl ?_
              refine bv_iadd dX12_drawMan_109 ?_
              obtain ⟨r84, h⟩ := bu_ia h
              refine bw_iald hN r84 dX12_drawMan_110 ?_
              refine bv_if_ne (tgt := 128) dX12_drawMan_111 (by decide) (fun cc => ?_) (fun cc => ?_)
              · replace h := bu_f h cc
                obtain rfl := Option.some.inj h
                exact bv_vret dX12_drawMan_128 rfl ⟨rfl, rfl⟩
              · replace h := bu_t h cc
                refine bv_aload_n dX12_drawMan_114 0 rfl ?_
                refine bv_iload_n dX12_drawMan_115 1 rfl ?_
                obtain ⟨v85, p86, h⟩ := bu_bd h
                refine bw_callV (As := [.int x1]) hN q1 ⟨_, _, rfl⟩ dX12_drawMan_116 mc_12_290 (c_X12_browOf (d := d + 6) hN p86) rfl rfl (by decide) ?_
                refine bv_if_le (tgt := 128) dX12_drawMan_119 (by decide) (fun cc => ?_) (fun cc => ?_)
                · replace h := bu_t h cc
                  obtain rfl := Option.some.inj h
                  exact bv_vret dX12_drawMan_128 rfl ⟨rfl, rfl⟩
                · replace h := bu_f h cc
                  refine bv_aload_n dX12_drawMan_122 0 rfl ?_
                  refine bv_iload_n dX12_drawMan_123 1 rfl ?_
                  refine bv_iload_n dX12_drawMan_124 3 rfl ?_
                  obtain ⟨v87, p88, h⟩ := bu_bd h
                  refine bw_callVv (As := [.int x1, .int v80.1]) hN q1 ⟨_, _, rfl⟩ dX12_drawMan_125 mc_12_332 (c_X12_gives (d := d + 0) hN p88) rfl rfl (by decide) ?_
                  obtain rfl := Option.some.inj h
                  exact bv_vret dX12_drawMan_128 rfl ⟨rfl, rfl⟩
  · replace h := bu_t h cc
    refine bv_aload_n dX12_drawMan_11 0 rfl ?_
    refine bv_iconst (v := 3) dX12_drawMan_12 (by decide) ?_
    obtain ⟨v89, p90, h⟩ := bu_bd h
    refine bw_callV (As := [.int 3]) hN q1 ⟨_, _, rfl⟩ dX12_drawMan_13 mc_12_426 (c_X12_draw (d := d + 7) hN p90) rfl rfl (by decide) ?_
    refine bv_iconst (v := 1) dX12_drawMan_16 (by decide) ?_
    refine bv_iadd dX12_drawMan_17 ?_
    refine bv_istore_n (ls1 := [(0, .ref x0), (1, .int x1), (2, .int v2.1), (3, .int (v89.1 + 1))]) dX12_drawMan_18 (by decide) rfl rfl ?_
    refine bv_aload_n dX12_drawMan_19 0 rfl ?_
    refine bv_iload_n dX12_drawMan_20 1 rfl ?_
    obtain ⟨v91, p92, h⟩ := bu_bd h
    refine bw_callV (As := [.int x1]) hN q1 ⟨_, _, rfl⟩ dX12_drawMan_21 mc_12_290 (c_X12_browOf (d := d + 6) hN p92) rfl rfl (by decide) ?_
    refine bv_if_le (tgt := 33) dX12_drawMan_24 (by decide) (fun cc => ?_) (fun cc => ?_)
    · replace h := bu_t h cc
      refine bv_iload_n dX12_drawMan_33 2 rfl ?_
      refine bv_iconst (v := 1) dX12_drawMan_34 (by decide) ?_
      refine bv_icmp_ne (tgt := 51) dX12_drawMan_35 (by decide) (fun cc => ?_) (fun cc => ?_)
      · replace h := bu_f h cc
        refine bv_iload_n dX12_drawMan_51 2 rfl ?_
        refine bv_iconst (v := 2) dX12_drawMan_52 (by decide) ?_
        refine bv_icmp_ne (tgt := 77) dX12_drawMan_53 (by decide) (fun cc => ?_) (fun cc => ?_)
        · replace h := bu_f h cc
          refine bv_iload_n dX12_drawMan_77 2 rfl ?_
          refine bv_iconst (v := 3) dX12_drawMan_78 (by decide) ?_
          refine bv_icmp_ne (tgt := 128) dX12_drawMan_79 (by decide) (fun cc => ?_) (fun cc => ?_)
          · replace h := bu_f h cc
            obtain rfl := Option.some.inj h
            exact bv_vret dX12_drawMan_128 rfl ⟨rfl, rfl⟩
          · replace h := bu_t h cc
            refine bv_aload_n dX12_drawMan_82 0 rfl ?_
            obtain ⟨a93, e94, h⟩ := bu_bd h
            refine bw_getA (a := a93) hN q1 e94 dX12_drawMan_83 fl_12_33 rfl ?_
            refine bv_iconst (v := 1) dX12_drawMan_86 (by decide) ?_
            obtain ⟨r95, h⟩ := bu_ia h
            refine bw_iald hN r95 dX12_drawMan_87 ?_
            refine bv_if_le (tgt := 128) dX12_drawMan_88 (by decide) (fun cc => ?_) (fun cc => ?_)
            · replace h := bu_t h cc
              obtain rfl := Option.some.inj h
              exact bv_vret dX12_drawMan_128 rfl ⟨rfl, rfl⟩
            · replace h := bu_f h cc
              refine bv_aload_n dX12_drawMan_91 0 rfl ?_
              refine bv_aload_n dX12_drawMan_92 0 rfl ?_
              refine bw_getA (a := a93) hN q1 e94 dX12_drawMan_93 fl_12_33 rfl ?_
              refine bv_iconst (v := 1) dX12_drawMan_96 (by decide) ?_
              refine bw_iald hN r95 dX12_drawMan_97 ?_
              obtain ⟨v96, p97, h⟩ := bu_bd h
              refine bw_callV (As := [.int (v89.2.1 a93 (1 : Int32).toNatClampNeg)]) hN q1 ⟨_, _, rfl⟩ dX12_drawMan_98 mc_12_426 (c_X12_draw (d := d + 7) hN p97) rfl rfl (by decide) ?_
              refine bv_istore_n (ls1 := [(0, .ref x0), (1, .int x1), (2, .int v2.1), (3, .int v96.1)]) dX12_drawMan_101 (by decide) rfl rfl ?_
              refine bv_aload_n dX12_drawMan_102 0 rfl ?_
              obtain ⟨a98, e99, h⟩ := bu_bd h
              refine bw_getA (a := a98) hN q1 e99 dX12_drawMan_103 fl_12_33 rfl ?_
              refine bv_bipush (v := 31) dX12_drawMan_106 (by decide) ?_
              refine bv_iload_n dX12_drawMan_108 1 rfl ?_
              refine bv_iadd dX12_drawMan_109 ?_
              obtain ⟨r100, h⟩ := bu_ia h
              refine bw_iald hN r100 dX12_drawMan_110 ?_
              refine bv_if_ne (tgt := 128) dX12_drawMan_111 (by decide) (fun cc => ?_) (fun cc => ?_)
              · replace h := bu_f h cc
                obtain rfl := Option.some.inj h
                exact bv_vret dX12_drawMan_128 rfl ⟨rfl, rfl⟩
              · replace h := bu_t h cc
                refine bv_aload_n dX12_drawMan_114 0 rfl ?_
                refine bv_iload_n dX12_drawMan_115 1 rfl ?_
                obtain ⟨v101, p102, h⟩ := bu_bd h
                refine bw_callV (As := [.int x1]) hN q1 ⟨_, _, rfl⟩ dX12_drawMan_116 mc_12_290 (c_X12_browOf (d := d + 6) hN p102) rfl rfl (by decide) ?_
                refine bv_if_le (tgt := 128) dX12_drawMan_119 (by decide) (fun cc => ?_) (fun cc => ?_)
                · replace h := bu_t h cc
                  obtain rfl := Option.some.inj h
                  exact bv_vret dX12_drawMan_128 rfl ⟨rfl, rfl⟩
                · replace h := bu_f h cc
                  refine bv_aload_n dX12_drawMan_122 0 rfl ?_
                  refine bv_iload_n dX12_drawMan_123 1 rfl ?_
                  refine bv_iload_n dX12_drawMan_124 3 rfl ?_
                  obtain ⟨v103, p104, h⟩ := bu_bd h
                  refine bw_callVv (As := [.int x1, .int v96.1]) hN q1 ⟨_, _, rfl⟩ dX12_drawMan_125 mc_12_332 (c_X12_gives (d := d + 0) hN p104) rfl rfl (by decide) ?_
                  obtain rfl := Option.some.inj h
                  exact bv_vret dX12_drawMan_128 rfl ⟨rfl, rfl⟩
        · replace h := bu_t h cc
          refine bv_aload_n dX12_drawMan_56 0 rfl ?_
          refine bv_iconst (v := 4) dX12_drawMan_57 (by decide) ?_
          obtain ⟨v105, p106, h⟩ := bu_bd h
          refine bw_callV (As := [.int 4]) hN q1 ⟨_, _, rfl⟩ dX12_drawMan_58 mc_12_426 (c_X12_draw (d := d + 7) hN p106) rfl rfl (by decide) ?_
          refine bv_istore_n (ls1 := [(0, .ref x0), (1, .int x1), (2, .int v2.1), (3, .int v105.1)]) dX12_drawMan_61 (by decide) rfl rfl ?_
          refine bv_aload_n dX12_drawMan_62 0 rfl ?_
          refine bv_iload_n dX12_drawMan_63 1 rfl ?_
          refine bv_iload_n dX12_drawMan_64 3 rfl ?_
          obtain ⟨v107, p108, h⟩ := bu_bd h
          refine bw_callV (As := [.int x1, .int v105.1]) hN q1 ⟨_, _, rfl⟩ dX12_drawMan_65 mc_12_351 (c_X12_whyGo (d := d + 6) hN p108) rfl rfl (by decide) ?_
          refine bv_if_ne (tgt := 77) dX12_drawMan_68 (by decide) (fun cc => ?_) (fun cc => ?_)
          · replace h := bu_f h cc
            refine bv_iload_n dX12_drawMan_77 2 rfl ?_
            refine bv_iconst (v := 3) dX12_drawMan_78 (by decide) ?_
            refine bv_icmp_ne (tgt := 128) dX12_drawMan_79 (by decide) (fun cc => ?_) (fun cc => ?_)
            · replace h := bu_f h cc
              obtain rfl := Option.some.inj h
              exact bv_vret dX12_drawMan_128 rfl ⟨rfl, rfl⟩
            · replace h := bu_t h cc
              refine bv_aload_n dX12_drawMan_82 0 rfl ?_
              obtain ⟨a109, e110, h⟩ := bu_bd h
              refine bw_getA (a := a109) hN q1 e110 dX12_drawMan_83 fl_12_33 rfl ?_
              refine bv_iconst (v := 1) dX12_drawMan_86 (by decide) ?_
              obtain ⟨r111, h⟩ := bu_ia h
              refine bw_iald hN r111 dX12_drawMan_87 ?_
              refine bv_if_le (tgt := 128) dX12_drawMan_88 (by decide) (fun cc => ?_) (fun cc => ?_)
              · replace h := bu_t h cc
                obtain rfl := Option.some.inj h
                exact bv_vret dX12_drawMan_128 rfl ⟨rfl, rfl⟩
              · replace h := bu_f h cc
                refine bv_aload_n dX12_drawMan_91 0 rfl ?_
                refine bv_aload_n dX12_drawMan_92 0 rfl ?_
                refine bw_getA (a := a109) hN q1 e110 dX12_drawMan_93 fl_12_33 rfl ?_
                refine bv_iconst (v := 1) dX12_drawMan_96 (by decide) ?_
                refine bw_iald hN r111 dX12_drawMan_97 ?_
                obtain ⟨v112, p113, h⟩ := bu_bd h
                refine bw_callV (As := [.int (v105.2.1 a109 (1 : Int32).toNatClampNeg)]) hN q1 ⟨_, _, rfl⟩ dX12_drawMan_98 mc_12_426 (c_X12_draw (d := d + 7) hN p113) rfl rfl (by decide) ?_
                refine bv_istore_n (ls1 := [(0, .ref x0), (1, .int x1), (2, .int v2.1), (3, .int v112.1)]) dX12_drawMan_101 (by decide) rfl rfl ?_
                refine bv_aload_n dX12_drawMan_102 0 rfl ?_
                obtain ⟨a114, e115, h⟩ := bu_bd h
                refine bw_getA (a := a114) hN q1 e115 dX12_drawMan_103 fl_12_33 rfl ?_
                refine bv_bipush (v := 31) dX12_drawMan_106 (by decide) ?_
                refine bv_iload_n dX12_drawMan_108 1 rfl ?_
                refine bv_iadd dX12_drawMan_109 ?_
                obtain ⟨r116, h⟩ := bu_ia h
                refine bw_iald hN r116 dX12_drawMan_110 ?_
                refine bv_if_ne (tgt := 128) dX12_drawMan_111 (by decide) (fun cc => ?_) (fun cc => ?_)
                · replace h := bu_f h cc
                  obtain rfl := Option.some.inj h
                  exact bv_vret dX12_drawMan_128 rfl ⟨rfl, rfl⟩
                · replace h := bu_t h cc
                  refine bv_aload_n dX12_drawMan_114 0 rfl ?_
                  refine bv_iload_n dX12_drawMan_115 1 rfl ?_
                  obtain ⟨v117, p118, h⟩ := bu_bd h
                  refine bw_callV (As := [.int x1]) hN q1 ⟨_, _, rfl⟩ dX12_drawMan_116 mc_12_290 (c_X12_browOf (d := d + 6) hN p118) rfl rfl (by decide) ?_
                  refine bv_if_le (tgt := 128) dX12_drawMan_119 (by decide) (fun cc => ?_) (fun cc => ?_)
                  · replace h := bu_t h cc
                    obtain rfl := Option.some.inj h
                    exact bv_vret dX12_drawMan_128 rfl ⟨rfl, rfl⟩
                  · replace h := bu_f h cc
                    refine bv_aload_n dX12_drawMan_122 0 rfl ?_
                    refine bv_iload_n dX12_drawMan_123 1 rfl ?_
                    refine bv_iload_n dX12_drawMan_124 3 rfl ?_
                    obtain ⟨v119, p120, h⟩ := bu_bd h
                    refine bw_callVv (As := [.int x1, .int v112.1]) hN q1 ⟨_, _, rfl⟩ dX12_drawMan_125 mc_12_332 (c_X12_gives (d := d + 0) hN p120) rfl rfl (by decide) ?_
                    obtain rfl := Option.some.inj h
                    exact bv_vret dX12_drawMan_128 rfl ⟨rfl, rfl⟩
          · replace h := bu_t h cc
            refine bv_aload_n dX12_drawMan_71 0 rfl ?_
            refine bv_iload_n dX12_drawMan_72 1 rfl ?_
            refine bv_iload_n dX12_drawMan_73 3 rfl ?_
            obtain ⟨v121, p122, h⟩ := bu_bd h
            refine bw_callVv (As := [.int x1, .int v105.1]) hN q1 ⟨_, _, rfl⟩ dX12_drawMan_74 mc_12_354 (c_X12_goes (d := d + 6) hN p122) rfl rfl (by decide) ?_
            refine bv_iload_n dX12_drawMan_77 2 rfl ?_
            refine bv_iconst (v := 3) dX12_drawMan_78 (by decide) ?_
            refine bv_icmp_ne (tgt := 128) dX12_drawMan_79 (by decide) (fun cc => ?_) (fun cc => ?_)
            · replace h := bu_f h cc
              obtain rfl := Option.some.inj h
              exact bv_vret dX12_drawMan_128 rfl ⟨rfl, rfl⟩
            · replace h := bu_t h cc
              refine bv_aload_n dX12_drawMan_82 0 rfl ?_
              obtain ⟨a123, e124, h⟩ := bu_bd h
              refine bw_getA (a := a123) hN q1 e124 dX12_drawMan_83 fl_12_33 rfl ?_
              refine bv_iconst (v := 1) dX12_drawMan_86 (by decide) ?_
              obtain ⟨r125, h⟩ := bu_ia h
              refine bw_iald hN r125 dX12_drawMan_87 ?_
              refine bv_if_le (tgt := 128) dX12_drawMan_88 (by decide) (fun cc => ?_) (fun cc => ?_)
              · replace h := bu_t h cc
                obtain rfl := Option.some.inj h
                exact bv_vret dX12_drawMan_128 rfl ⟨rfl, rfl⟩
              · replace h := bu_f h cc
                refine bv_aload_n dX12_drawMan_91 0 rfl ?_
                refine bv_aload_n dX12_drawMan_92 0 rfl ?_
                refine bw_getA (a := a123) hN q1 e124 dX12_drawMan_93 fl_12_33 rfl ?_
                refine bv_iconst (v := 1) dX12_drawMan_96 (by decide) ?_
                refine bw_iald hN r125 dX12_drawMan_97 ?_
                obtain ⟨v126, p127, h⟩ := bu_bd h
                refine bw_callV (As := [.int (v121.1 a123 (1 : Int32).toNatClampNeg)]) hN q1 ⟨_, _, rfl⟩ dX12_drawMan_98 mc_12_426 (c_X12_draw (d := d + 7) hN p127) rfl rfl (by decide) ?_
                refine bv_istore_n (ls1 := [(0, .ref x0), (1, .int x1), (2, .int v2.1), (3, .int v126.1)]) dX12_drawMan_101 (by decide) rfl rfl ?_
                refine bv_aload_n dX12_drawMan_102 0 rfl ?_
                obtain ⟨a128, e129, h⟩ := bu_bd h
                refine bw_getA (a := a128) hN q1 e129 dX12_drawMan_103 fl_12_33 rfl ?_
                refine bv_bipush (v := 31) dX12_drawMan_106 (by decide) ?_
                refine bv_iload_n dX12_drawMan_108 1 rfl ?_
                refine bv_iadd dX12_drawMan_109 ?_
                obtain ⟨r130, h⟩ := bu_ia h
                refine bw_iald hN r130 dX12_drawMan_110 ?_
                refine bv_if_ne (tgt := 128) dX12_drawMan_111 (by decide) (fun cc => ?_) (fun cc => ?_)
                · replace h := bu_f h cc
                  obtain rfl := Option.some.inj h
                  exact bv_vret dX12_drawMan_128 rfl ⟨rfl, rfl⟩
                · replace h := bu_t h cc
                  refine bv_aload_n dX12_drawMan_114 0 rfl ?_
                  refine bv_iload_n dX12_drawMan_115 1 rfl ?_
                  obtain ⟨v131, p132, h⟩ := bu_bd h
                  refine bw_callV (As := [.int x1]) hN q1 ⟨_, _, rfl⟩ dX12_drawMan_116 mc_12_290 (c_X12_browOf (d := d + 6) hN p132) rfl rfl (by decide) ?_
                  refine bv_if_le (tgt := 128) dX12_drawMan_119 (by decide) (fun cc => ?_) (fun cc => ?_)
                  · replace h := bu_t h cc
                    obtain rfl := Option.some.inj h
                    exact bv_vret dX12_drawMan_128 rfl ⟨rfl, rfl⟩
                  · replace h := bu_f h cc
                    refine bv_aload_n dX12_drawMan_122 0 rfl ?_
                    refine bv_iload_n dX12_drawMan_123 1 rfl ?_
                    refine bv_iload_n dX12_drawMan_124 3 rfl ?_
                    obtain ⟨v133, p134, h⟩ := bu_bd h
                    refine bw_callVv (As := [.int x1, .int v126.1]) hN q1 ⟨_, _, rfl⟩ dX12_drawMan_125 mc_12_332 (c_X12_gives (d := d + 0) hN p134) rfl rfl (by decide) ?_
                    obtain rfl := Option.some.inj h
                    exact bv_vret dX12_drawMan_128 rfl ⟨rfl, rfl⟩
      · replace h := bu_t h cc
        refine bv_aload_n dX12_drawMan_38 0 rfl ?_
        obtain ⟨a135, e136, h⟩ := bu_bd h
        refine bw_getA (a := a135) hN q1 e136 dX12_drawMan_39 fl_12_33 rfl ?_
        refine bv_bipush (v := 63) dX12_drawMan_42 (by decide) ?_
        refine bv_dup2 dX12_drawMan_44 rfl rfl ?_
        obtain ⟨r137, h⟩ := bu_ia h
        refine bw_iald hN r137 dX12_drawMan_45 ?_
        refine bv_iconst (v := 1) dX12_drawMan_46 (by decide) ?_
        refine bv_iload_n dX12_drawMan_47 1 rfl ?_
        refine bv_ishl dX12_drawMan_48 ?_
        refine bv_ixor dX12_drawMan_49 ?_
        refine bw_iast hN r137 dX12_drawMan_50 ?_
        refine bv_iload_n dX12_drawMan_51 2 rfl ?_
        refine bv_iconst (v := 2) dX12_drawMan_52 (by decide) ?_
        refine bv_icmp_ne (tgt := 77) dX12_drawMan_53 (by decide) (fun cc => ?_) (fun cc => ?_)
        · replace h := bu_f h cc
          refine bv_iload_n dX12_drawMan_77 2 rfl ?_
          refine bv_iconst (v := 3) dX12_drawMan_78 (by decide) ?_
          refine bv_icmp_ne (tgt := 128) dX12_drawMan_79 (by decide) (fun cc => ?_) (fun cc => ?_)
          · replace h := bu_f h cc
            obtain rfl := Option.some.inj h
            exact bv_vret dX12_drawMan_128 rfl ⟨rfl, rfl⟩
          · replace h := bu_t h cc
            refine bv_aload_n dX12_drawMan_82 0 rfl ?_
            refine bw_getA (a := a135) hN q1 e136 dX12_drawMan_83 fl_12_33 rfl ?_
            refine bv_iconst (v := 1) dX12_drawMan_86 (by decide) ?_
            obtain ⟨r138, h⟩ := bu_ia h
            refine bw_iald hN r138 dX12_drawMan_87 ?_
            refine bv_if_le (tgt := 128) dX12_drawMan_88 (by decide) (fun cc => ?_) (fun cc => ?_)
            · replace h := bu_t h cc
              obtain rfl := Option.some.inj h
              exact bv_vret dX12_drawMan_128 rfl ⟨rfl, rfl⟩
            · replace h := bu_f h cc
              refine bv_aload_n dX12_drawMan_91 0 rfl ?_
              refine bv_aload_n dX12_drawMan_92 0 rfl ?_
              refine bw_getA (a := a135) hN q1 e136 dX12_drawMan_93 fl_12_33 rfl ?_
              refine bv_iconst (v := 1) dX12_drawMan_96 (by decide) ?_
              refine bw_iald hN r138 dX12_drawMan_97 ?_
              obtain ⟨v139, p140, h⟩ := bu_bd h
              refine bw_callV (As := [.int ((bm_sI v89.2 a135 (63 : Int32).toNatClampNeg ((v89.2.1 a135 (63 : Int32).toNatClampNeg) ^^^ (bm_ishl 1 x1))).1 a135 (1 : Int32).toNatClampNeg)]) hN q1 ⟨_, _, rfl⟩ dX12_drawMan_98 mc_12_426 (c_X12_draw (d := d + 7) hN p140) rfl rfl (by decide) ?_
              refine bv_istore_n (ls1 := [(0, .ref x0), (1, .int x1), (2, .int v2.1), (3, .int v139.1)]) dX12_drawMan_101 (by decide) rfl rfl ?_
              refine bv_aload_n dX12_drawMan_102 0 rfl ?_
              obtain ⟨a141, e142, h⟩ := bu_bd h
              refine bw_getA (a := a141) hN q1 e142 dX12_drawMan_103 fl_12_33 rfl ?_
              refine bv_bipush (v := 31) dX12_drawMan_106 (by decide) ?_
              refine bv_iload_n dX12_drawMan_108 1 rfl ?_
              refine bv_iadd dX12_drawMan_109 ?_
              obtain ⟨r143, h⟩ := bu_ia h
              refine bw_iald hN r143 dX12_drawMan_110 ?_
              refine bv_if_ne (tgt := 128) dX12_drawMan_111 (by decide) (fun cc => ?_) (fun cc => ?_)
              · replace h := bu_f h cc
                obtain rfl := Option.some.inj h
                exact bv_vret dX12_drawMan_128 rfl ⟨rfl, rfl⟩
              · replace h := bu_t h cc
                refine bv_aload_n dX12_drawMan_114 0 rfl ?_
                refine bv_iload_n dX12_drawMan_115 1 rfl ?_
                obtain ⟨v144, p145, h⟩ := bu_bd h
                refine bw_callV (As := [.int x1]) hN q1 ⟨_, _, rfl⟩ dX12_drawMan_116 mc_12_290 (c_X12_browOf (d := d + 6) hN p145) rfl rfl (by decide) ?_
                refine bv_if_le (tgt := 128) dX12_drawMan_119 (by decide) (fun cc => ?_) (fun cc => ?_)
                · replace h := bu_t h cc
                  obtain rfl := Option.some.inj h
                  exact bv_vret dX12_drawMan_128 rfl ⟨rfl, rfl⟩
                · replace h := bu_f h cc
                  refine bv_aload_n dX12_drawMan_122 0 rfl ?_
                  refine bv_iload_n dX12_drawMan_123 1 rfl ?_
                  refine bv_iload_n dX12_drawMan_124 3 rfl ?_
                  obtain ⟨v146, p147, h⟩ := bu_bd h
                  refine bw_callVv (As := [.int x1, .int v139.1]) hN q1 ⟨_, _, rfl⟩ dX12_drawMan_125 mc_12_332 (c_X12_gives (d := d + 0) hN p147) rfl rfl (by decide) ?_
                  obtain rfl := Option.some.inj h
                  exact bv_vret dX12_drawMan_128 rfl ⟨rfl, rfl⟩
        · replace h := bu_t h cc
          refine bv_aload_n dX12_drawMan_56 0 rfl ?_
          refine bv_iconst (v := 4) dX12_drawMan_57 (by decide) ?_
          obtain ⟨v148, p149, h⟩ := bu_bd h
          refine bw_callV (As := [.int 4]) hN q1 ⟨_, _, rfl⟩ dX12_drawMan_58 mc_12_426 (c_X12_draw (d := d + 7) hN p149) rfl rfl (by decide) ?_
          refine bv_istore_n (ls1 := [(0, .ref x0), (1, .int x1), (2, .int v2.1), (3, .int v148.1)]) dX12_drawMan_61 (by decide) rfl rfl ?_
          refine bv_aload_n dX12_drawMan_62 0 rfl ?_
          refine bv_iload_n dX12_drawMan_63 1 rfl ?_
          refine bv_iload_n dX12_drawMan_64 3 rfl ?_
          obtain ⟨v150, p151, h⟩ := bu_bd h
          refine bw_callV (As := [.int x1, .int v148.1]) hN q1 ⟨_, _, rfl⟩ dX12_drawMan_65 mc_12_351 (c_X12_whyGo (d := d + 6) hN p151) rfl rfl (by decide) ?_
          refine bv_if_ne (tgt := 77) dX12_drawMan_68 (by decide) (fun cc => ?_) (fun cc => ?_)
          · replace h := bu_f h cc
            refine bv_iload_n dX12_drawMan_77 2 rfl ?_
            refine bv_iconst (v := 3) dX12_drawMan_78 (by decide) ?_
            refine bv_icmp_ne (tgt := 128) dX12_drawMan_79 (by decide) (fun cc => ?_) (fun cc => ?_)
            · replace h := bu_f h cc
              obtain rfl := Option.some.inj h
              exact bv_vret dX12_drawMan_128 rfl ⟨rfl, rfl⟩
            · replace h := bu_t h cc
              refine bv_aload_n dX12_drawMan_82 0 rfl ?_
              obtain ⟨a152, e153, h⟩ := bu_bd h
              refine bw_getA (a := a152) hN q1 e153 dX12_drawMan_83 fl_12_33 rfl ?_
              refine bv_iconst (v := 1) dX12_drawMan_86 (by decide) ?_
              obtain ⟨r154, h⟩ := bu_ia h
              refine bw_iald hN r154 dX12_drawMan_87 ?_
              refine bv_if_le (tgt := 128) dX12_drawMan_88 (by decide) (fun cc => ?_) (fun cc => ?_)
              · replace h := bu_t h cc
                obtain rfl := Option.some.inj h
                exact bv_vret dX12_drawMan_128 rfl ⟨rfl, rfl⟩
              · replace h := bu_f h cc
                refine bv_aload_n dX12_drawMan_91 0 rfl ?_
                refine bv_aload_n dX12_drawMan_92 0 rfl ?_
                refine bw_getA (a := a152) hN q1 e153 dX12_drawMan_93 fl_12_33 rfl ?_
                refine bv_iconst (v := 1) dX12_drawMan_96 (by decide) ?_
                refine bw_iald hN r154 dX12_drawMan_97 ?_
                obtain ⟨v155, p156, h⟩ := bu_bd h
                refine bw_callV (As := [.int (v148.2.1 a152 (1 : Int32).toNatClampNeg)]) hN q1 ⟨_, _, rfl⟩ dX12_drawMan_98 mc_12_426 (c_X12_draw (d := d + 7) hN p156) rfl rfl (by decide) ?_
                refine bv_istore_n (ls1 := [(0, .ref x0), (1, .int x1), (2, .int v2.1), (3, .int v155.1)]) dX12_drawMan_101 (by decide) rfl rfl ?_
                refine bv_aload_n dX12_drawMan_102 0 rfl ?_
                obtain ⟨a157, e158, h⟩ := bu_bd h
                refine bw_getA (a := a157) hN q1 e158 dX12_drawMan_103 fl_12_33 rfl ?_
                refine bv_bipush (v := 31) dX12_drawMan_106 (by decide) ?_
                refine bv_iload_n dX12_drawMan_108 1 rfl ?_
                refine bv_iadd dX12_drawMan_109 ?_
                obtain ⟨r159, h⟩ := bu_ia h
                refine bw_iald hN r159 dX12_drawMan_110 ?_
                refine bv_if_ne (tgt := 128) dX12_drawMan_111 (by decide) (fun cc => ?_) (fun cc => ?_)
                · replace h := bu_f h cc
                  obtain rfl := Option.some.inj h
                  exact bv_vret dX12_drawMan_128 rfl ⟨rfl, rfl⟩
                · replace h := bu_t h cc
                  refine bv_aload_n dX12_drawMan_114 0 rfl ?_
                  refine bv_iload_n dX12_drawMan_115 1 rfl ?_
                  obtain ⟨v160, p161, h⟩ := bu_bd h
                  refine bw_callV (As := [.int x1]) hN q1 ⟨_, _, rfl⟩ dX12_drawMan_116 mc_12_290 (c_X12_browOf (d := d + 6) hN p161) rfl rfl (by decide) ?_
                  refine bv_if_le (tgt := 128) dX12_drawMan_119 (by decide) (fun cc => ?_) (fun cc => ?_)
                  · replace h := bu_t h cc
                    obtain rfl := Option.some.inj h
                    exact bv_vret dX12_drawMan_128 rfl ⟨rfl, rfl⟩
                  · replace h := bu_f h cc
                    refine bv_aload_n dX12_drawMan_122 0 rfl ?_
                    refine bv_iload_n dX12_drawMan_123 1 rfl ?_
                    refine bv_iload_n dX12_drawMan_124 3 rfl ?_
                    obtain ⟨v162, p163, h⟩ := bu_bd h
                    refine bw_callVv (As := [.int x1, .int v155.1]) hN q1 ⟨_, _, rfl⟩ dX12_drawMan_125 mc_12_332 (c_X12_gives (d := d + 0) hN p163) rfl rfl (by decide) ?_
                    obtain rfl := Option.some.inj h
                    exact bv_vret dX12_drawMan_128 rfl ⟨rfl, rfl⟩
          · replace h := bu_t h cc
            refine bv_aload_n dX12_drawMan_71 0 rfl ?_
            refine bv_iload_n dX12_drawMan_72 1 rfl ?_
            refine bv_iload_n dX12_drawMan_73 3 rfl ?_
            obtain ⟨v164, p165, h⟩ := bu_bd h
            refine bw_callVv (As := [.int x1, .int v148.1]) hN q1 ⟨_, _, rfl⟩ dX12_drawMan_74 mc_12_354 (c_X12_goes (d := d + 6) hN p165) rfl rfl (by decide) ?_
            refine bv_iload_n dX12_drawMan_77 2 rfl ?_
            refine bv_iconst (v := 3) dX12_drawMan_78 (by decide) ?_
            refine bv_icmp_ne (tgt := 128) dX12_drawMan_79 (by decide) (fun cc => ?_) (fun cc => ?_)
            · replace h := bu_f h cc
              obtain rfl := Option.some.inj h
              exact bv_vret dX12_drawMan_128 rfl ⟨rfl, rfl⟩
            · replace h := bu_t h cc
              refine bv_aload_n dX12_drawMan_82 0 rfl ?_
              obtain ⟨a166, e167, h⟩ := bu_bd h
              refine bw_getA (a := a166) hN q1 e167 dX12_drawMan_83 fl_12_33 rfl ?_
              refine bv_iconst (v := 1) dX12_drawMan_86 (by decide) ?_
              obtain ⟨r168, h⟩ := bu_ia h
              refine bw_iald hN r168 dX12_drawMan_87 ?_
              refine bv_if_le (tgt := 128) dX12_drawMan_88 (by decide) (fun cc => ?_) (fun cc => ?_)
              · replace h := bu_t h cc
                obtain rfl := Option.some.inj h
                exact bv_vret dX12_drawMan_128 rfl ⟨rfl, rfl⟩
              · replace h := bu_f h cc
                refine bv_aload_n dX12_drawMan_91 0 rfl ?_
                refine bv_aload_n dX12_drawMan_92 0 rfl ?_
                refine bw_getA (a := a166) hN q1 e167 dX12_drawMan_93 fl_12_33 rfl ?_
                refine bv_iconst (v := 1) dX12_drawMan_96 (by decide) ?_
                refine bw_iald hN r168 dX12_drawMan_97 ?_
                obtain ⟨v169, p170, h⟩ := bu_bd h
                refine bw_callV (As := [.int (v164.1 a166 (1 : Int32).toNatClampNeg)]) hN q1 ⟨_, _, rfl⟩ dX12_drawMan_98 mc_12_426 (c_X12_draw (d := d + 7) hN p170) rfl rfl (by decide) ?_
                refine bv_istore_n (ls1 := [(0, .ref x0), (1, .int x1), (2, .int v2.1), (3, .int v169.1)]) dX12_drawMan_101 (by decide) rfl rfl ?_
                refine bv_aload_n dX12_drawMan_102 0 rfl ?_
                obtain ⟨a171, e172, h⟩ := bu_bd h
                refine bw_getA (a := a171) hN q1 e172 dX12_drawMan_103 fl_12_33 rfl ?_
                refine bv_bipush (v := 31) dX12_drawMan_106 (by decide) ?_
                refine bv_iload_n dX12_drawMan_108 1 rfl ?_
                refine bv_iadd dX12_drawMan_109 ?_
                obtain ⟨r173, h⟩ := bu_ia h
                refine bw_iald hN r173 dX12_drawMan_110 ?_
                refine bv_if_ne (tgt := 128) dX12_drawMan_111 (by decide) (fun cc => ?_) (fun cc => ?_)
                · replace h := bu_f h cc
                  obtain rfl := Option.some.inj h
                  exact bv_vret dX12_drawMan_128 rfl ⟨rfl, rfl⟩
                · replace h := bu_t h cc
                  refine bv_aload_n dX12_drawMan_114 0 rfl ?_
                  refine bv_iload_n dX12_drawMan_115 1 rfl ?_
                  obtain ⟨v174, p175, h⟩ := bu_bd h
                  refine bw_callV (As := [.int x1]) hN q1 ⟨_, _, rfl⟩ dX12_drawMan_116 mc_12_290 (c_X12_browOf (d := d + 6) hN p175) rfl rfl (by decide) ?_
                  refine bv_if_le (tgt := 128) dX12_drawMan_119 (by decide) (fun cc => ?_) (fun cc => ?_)
                  · replace h := bu_t h cc
                    obtain rfl := Option.some.inj h
                    exact bv_vret dX12_drawMan_128 rfl ⟨rfl, rfl⟩
                  · replace h := bu_f h cc
                    refine bv_aload_n dX12_drawMan_122 0 rfl ?_
                    refine bv_iload_n dX12_drawMan_123 1 rfl ?_
                    refine bv_iload_n dX12_drawMan_124 3 rfl ?_
                    obtain ⟨v176, p177, h⟩ := bu_bd h
                    refine bw_callVv (As := [.int x1, .int v169.1]) hN q1 ⟨_, _, rfl⟩ dX12_drawMan_125 mc_12_332 (c_X12_gives (d := d + 0) hN p177) rfl rfl (by decide) ?_
                    obtain rfl := Option.some.inj h
                    exact bv_vret dX12_drawMan_128 rfl ⟨rfl, rfl⟩
    · replace h := bu_f h cc
      refine bv_aload_n dX12_drawMan_27 0 rfl ?_
      refine bv_iload_n dX12_drawMan_28 1 rfl ?_
      refine bv_iload_n dX12_drawMan_29 3 rfl ?_
      obtain ⟨v178, p179, h⟩ := bu_bd h
      refine bw_callVv (As := [.int x1, .int (v89.1 + 1)]) hN q1 ⟨_, _, rfl⟩ dX12_drawMan_30 mc_12_329 (c_X12_lifts (d := d + 1) hN p179) rfl rfl (by decide) ?_
      refine bv_iload_n dX12_drawMan_33 2 rfl ?_
      refine bv_iconst (v := 1) dX12_drawMan_34 (by decide) ?_
      refine bv_icmp_ne (tgt := 51) dX12_drawMan_35 (by decide) (fun cc => ?_) (fun cc => ?_)
      · replace h := bu_f h cc
        refine bv_iload_n dX12_drawMan_51 2 rfl ?_
        refine bv_iconst (v := 2) dX12_drawMan_52 (by decide) ?_
        refine bv_icmp_ne (tgt := 77) dX12_drawMan_53 (by decide) (fun cc => ?_) (fun cc => ?_)
        · replace h := bu_f h cc
          refine bv_iload_n dX12_drawMan_77 2 rfl ?_
          refine bv_iconst (v := 3) dX12_drawMan_78 (by decide) ?_
          refine bv_icmp_ne (tgt := 128) dX12_drawMan_79 (by decide) (fun cc => ?_) (fun cc => ?_)
          · replace h := bu_f h cc
            obtain rfl := Option.some.inj h
            exact bv_vret dX12_drawMan_128 rfl ⟨rfl, rfl⟩
          · replace h := bu_t h cc
            refine bv_aload_n dX12_drawMan_82 0 rfl ?_
            obtain ⟨a180, e181, h⟩ := bu_bd h
            refine bw_getA (a := a180) hN q1 e181 dX12_drawMan_83 fl_12_33 rfl ?_
            refine bv_iconst (v := 1) dX12_drawMan_86 (by decide) ?_
            obtain ⟨r182, h⟩ := bu_ia h
            refine bw_iald hN r182 dX12_drawMan_87 ?_
            refine bv_if_le (tgt := 128) dX12_drawMan_88 (by decide) (fun cc => ?_) (fun cc => ?_)
            · replace h := bu_t h cc
              obtain rfl := Option.some.inj h
              exact bv_vret dX12_drawMan_128 rfl ⟨rfl, rfl⟩
            · replace h := bu_f h cc
              refine bv_aload_n dX12_drawMan_91 0 rfl ?_
              refine bv_aload_n dX12_drawMan_92 0 rfl ?_
              refine bw_getA (a := a180) hN q1 e181 dX12_drawMan_93 fl_12_33 rfl ?_
              refine bv_iconst (v := 1) dX12_drawMan_96 (by decide) ?_
              refine bw_iald hN r182 dX12_drawMan_97 ?_
              obtain ⟨v183, p184, h⟩ := bu_bd h
              refine bw_callV (As := [.int (v178.1 a180 (1 : Int32).toNatClampNeg)]) hN q1 ⟨_, _, rfl⟩ dX12_drawMan_98 mc_12_426 (c_X12_draw (d := d + 7) hN p184) rfl rfl (by decide) ?_
              refine bv_istore_n (ls1 := [(0, .ref x0), (1, .int x1), (2, .int v2.1), (3, .int v183.1)]) dX12_drawMan_101 (by decide) rfl rfl ?_
              refine bv_aload_n dX12_drawMan_102 0 rfl ?_
              obtain ⟨a185, e186, h⟩ := bu_bd h
              refine bw_getA (a := a185) hN q1 e186 dX12_drawMan_103 fl_12_33 rfl ?_
              refine bv_bipush (v := 31) dX12_drawMan_106 (by decide) ?_
              refine bv_iload_n dX12_drawMan_108 1 rfl ?_
              refine bv_iadd dX12_drawMan_109 ?_
              obtain ⟨r187, h⟩ := bu_ia h
              refine bw_iald hN r187 dX12_drawMan_110 ?_
              refine bv_if_ne (tgt := 128) dX12_drawMan_111 (by decide) (fun cc => ?_) (fun cc => ?_)
              · replace h := bu_f h cc
                obtain rfl := Option.some.inj h
                exact bv_vret dX12_drawMan_128 rfl ⟨rfl, rfl⟩
              · replace h := bu_t h cc
                refine bv_aload_n dX12_drawMan_114 0 rfl ?_
                refine bv_iload_n dX12_drawMan_115 1 rfl ?_
                obtain ⟨v188, p189, h⟩ := bu_bd h
                refine bw_callV (As := [.int x1]) hN q1 ⟨_, _, rfl⟩ dX12_drawMan_116 mc_12_290 (c_X12_browOf (d := d + 6) hN p189) rfl rfl (by decide) ?_
                refine bv_if_le (tgt := 128) dX12_drawMan_119 (by decide) (fun cc => ?_) (fun cc => ?_)
                · replace h := bu_t h cc
                  obtain rfl := Option.some.inj h
                  exact bv_vret dX12_drawMan_128 rfl ⟨rfl, rfl⟩
                · replace h := bu_f h cc
                  refine bv_aload_n dX12_drawMan_122 0 rfl ?_
                  refine bv_iload_n dX12_drawMan_123 1 rfl ?_
                  refine bv_iload_n dX12_drawMan_124 3 rfl ?_
                  obtain ⟨v190, p191, h⟩ := bu_bd h
                  refine bw_callVv (As := [.int x1, .int v183.1]) hN q1 ⟨_, _, rfl⟩ dX12_drawMan_125 mc_12_332 (c_X12_gives (d := d + 0) hN p191) rfl rfl (by decide) ?_
                  obtain rfl := Option.some.inj h
                  exact bv_vret dX12_drawMan_128 rfl ⟨rfl, rfl⟩
        · replace h := bu_t h cc
          refine bv_aload_n dX12_drawMan_56 0 rfl ?_
          refine bv_iconst (v := 4) dX12_drawMan_57 (by decide) ?_
          obtain ⟨v192, p193, h⟩ := bu_bd h
          refine bw_callV (As := [.int 4]) hN q1 ⟨_, _, rfl⟩ dX12_drawMan_58 mc_12_426 (c_X12_draw (d := d + 7) hN p193) rfl rfl (by decide) ?_
          refine bv_istore_n (ls1 := [(0, .ref x0), (1, .int x1), (2, .int v2.1), (3, .int v192.1)]) dX12_drawMan_61 (by decide) rfl rfl ?_
          refine bv_aload_n dX12_drawMan_62 0 rfl ?_
          refine bv_iload_n dX12_drawMan_63 1 rfl ?_
          refine bv_iload_n dX12_drawMan_64 3 rfl ?_
          obtain ⟨v194, p195, h⟩ := bu_bd h
          refine bw_callV (As := [.int x1, .int v192.1]) hN q1 ⟨_, _, rfl⟩ dX12_drawMan_65 mc_12_351 (c_X12_whyGo (d := d + 6) hN p195) rfl rfl (by decide) ?_
          refine bv_if_ne (tgt := 77) dX12_drawMan_68 (by decide) (fun cc => ?_) (fun cc => ?_)
          · replace h := bu_f h cc
            refine bv_iload_n dX12_drawMan_77 2 rfl ?_
            refine bv_iconst (v := 3) dX12_drawMan_78 (by decide) ?_
            refine bv_icmp_ne (tgt := 128) dX12_drawMan_79 (by decide) (fun cc => ?_) (fun cc => ?_)
            · replace h := bu_f h cc
              obtain rfl := Option.some.inj h
              exact bv_vret dX12_drawMan_128 rfl ⟨rfl, rfl⟩
            · replace h := bu_t h cc
              refine bv_aload_n dX12_drawMan_82 0 rfl ?_
              obtain ⟨a196, e197, h⟩ := bu_bd h
              refine bw_getA (a := a196) hN q1 e197 dX12_drawMan_83 fl_12_33 rfl ?_
              refine bv_iconst (v := 1) dX12_drawMan_86 (by decide) ?_
              obtain ⟨r198, h⟩ := bu_ia h
              refine bw_iald hN r198 dX12_drawMan_87 ?_
              refine bv_if_le (tgt := 128) dX12_drawMan_88 (by decide) (fun cc => ?_) (fun cc => ?_)
              · replace h := bu_t h cc
                obtain rfl := Option.some.inj h
                exact bv_vret dX12_drawMan_128 rfl ⟨rfl, rfl⟩
              · replace h := bu_f h cc
                refine bv_aload_n dX12_drawMan_91 0 rfl ?_
                refine bv_aload_n dX12_drawMan_92 0 rfl ?_
                refine bw_getA (a := a196) hN q1 e197 dX12_drawMan_93 fl_12_33 rfl ?_
                refine bv_iconst (v := 1) dX12_drawMan_96 (by decide) ?_
                refine bw_iald hN r198 dX12_drawMan_97 ?_
                obtain ⟨v199, p200, h⟩ := bu_bd h
                refine bw_callV (As := [.int (v192.2.1 a196 (1 : Int32).toNatClampNeg)]) hN q1 ⟨_, _, rfl⟩ dX12_drawMan_98 mc_12_426 (c_X12_draw (d := d + 7) hN p200) rfl rfl (by decide) ?_
                refine bv_istore_n (ls1 := [(0, .ref x0), (1, .int x1), (2, .int v2.1), (3, .int v199.1)]) dX12_drawMan_101 (by decide) rfl rfl ?_
                refine bv_aload_n dX12_drawMan_102 0 rfl ?_
                obtain ⟨a201, e202, h⟩ := bu_bd h
                refine bw_getA (a := a201) hN q1 e202 dX12_drawMan_103 fl_12_33 rfl ?_
                refine bv_bipush (v := 31) dX12_drawMan_106 (by decide) ?_
                refine bv_iload_n dX12_drawMan_108 1 rfl ?_
                refine bv_iadd dX12_drawMan_109 ?_
                obtain ⟨r203, h⟩ := bu_ia h
                refine bw_iald hN r203 dX12_drawMan_110 ?_
                refine bv_if_ne (tgt := 128) dX12_drawMan_111 (by decide) (fun cc => ?_) (fun cc => ?_)
                · replace h := bu_f h cc
                  obtain rfl := Option.some.inj h
                  exact bv_vret dX12_drawMan_128 rfl ⟨rfl, rfl⟩
                · replace h := bu_t h cc
                  refine bv_aload_n dX12_drawMan_114 0 rfl ?_
                  refine bv_iload_n dX12_drawMan_115 1 rfl ?_
                  obtain ⟨v204, p205, h⟩ := bu_bd h
                  refine bw_callV (As := [.int x1]) hN q1 ⟨_, _, rfl⟩ dX12_drawMan_116 mc_12_290 (c_X12_browOf (d := d + 6) hN p205) rfl rfl (by decide) ?_
                  refine bv_if_le (tgt := 128) dX12_drawMan_119 (by decide) (fun cc => ?_) (fun cc => ?_)
                  · replace h := bu_t h cc
                    obtain rfl := Option.some.inj h
                    exact bv_vret dX12_drawMan_128 rfl ⟨rfl, rfl⟩
                  · replace h := bu_f h cc
                    refine bv_aload_n dX12_drawMan_122 0 rfl ?_
                    refine bv_iload_n dX12_drawMan_123 1 rfl ?_
                    refine bv_iload_n dX12_drawMan_124 3 rfl ?_
                    obtain ⟨v206, p207, h⟩ := bu_bd h
                    refine bw_callVv (As := [.int x1, .int v199.1]) hN q1 ⟨_, _, rfl⟩ dX12_drawMan_125 mc_12_332 (c_X12_gives (d := d + 0) hN p207) rfl rfl (by decide) ?_
                    obtain rfl := Option.some.inj h
                    exact bv_vret dX12_drawMan_128 rfl ⟨rfl, rfl⟩
          · replace h := bu_t h cc
            refine bv_aload_n dX12_drawMan_71 0 rfl ?_
            refine bv_iload_n dX12_drawMan_72 1 rfl ?_
            refine bv_iload_n dX12_drawMan_73 3 rfl ?_
            obtain ⟨v208, p209, h⟩ := bu_bd h
            refine bw_callVv (As := [.int x1, .int v192.1]) hN q1 ⟨_, _, rfl⟩ dX12_drawMan_74 mc_12_354 (c_X12_goes (d := d + 6) hN p209) rfl rfl (by decide) ?_
            refine bv_iload_n dX12_drawMan_77 2 rfl ?_
            refine bv_iconst (v := 3) dX12_drawMan_78 (by decide) ?_
            refine bv_icmp_ne (tgt := 128) dX12_drawMan_79 (by decide) (fun cc => ?_) (fun cc => ?_)
            · replace h := bu_f h cc
              obtain rfl := Option.some.inj h
              exact bv_vret dX12_drawMan_128 rfl ⟨rfl, rfl⟩
            · replace h := bu_t h cc
              refine bv_aload_n dX12_drawMan_82 0 rfl ?_
              obtain ⟨a210, e211, h⟩ := bu_bd h
              refine bw_getA (a := a210) hN q1 e211 dX12_drawMan_83 fl_12_33 rfl ?_
              refine bv_iconst (v := 1) dX12_drawMan_86 (by decide) ?_
              obtain ⟨r212, h⟩ := bu_ia h
              refine bw_iald hN r212 dX12_drawMan_87 ?_
              refine bv_if_le (tgt := 128) dX12_drawMan_88 (by decide) (fun cc => ?_) (fun cc => ?_)
              · replace h := bu_t h cc
                obtain rfl := Option.some.inj h
                exact bv_vret dX12_drawMan_128 rfl ⟨rfl, rfl⟩
              · replace h := bu_f h cc
                refine bv_aload_n dX12_drawMan_91 0 rfl ?_
                refine bv_aload_n dX12_drawMan_92 0 rfl ?_
                refine bw_getA (a := a210) hN q1 e211 dX12_drawMan_93 fl_12_33 rfl ?_
                refine bv_iconst (v := 1) dX12_drawMan_96 (by decide) ?_
                refine bw_iald hN r212 dX12_drawMan_97 ?_
                obtain ⟨v213, p214, h⟩ := bu_bd h
                refine bw_callV (As := [.int (v208.1 a210 (1 : Int32).toNatClampNeg)]) hN q1 ⟨_, _, rfl⟩ dX12_drawMan_98 mc_12_426 (c_X12_draw (d := d + 7) hN p214) rfl rfl (by decide) ?_
                refine bv_istore_n (ls1 := [(0, .ref x0), (1, .int x1), (2, .int v2.1), (3, .int v213.1)]) dX12_drawMan_101 (by decide) rfl rfl ?_
                refine bv_aload_n dX12_drawMan_102 0 rfl ?_
                obtain ⟨a215, e216, h⟩ := bu_bd h
                refine bw_getA (a := a215) hN q1 e216 dX12_drawMan_103 fl_12_33 rfl ?_
                refine bv_bipush (v := 31) dX12_drawMan_106 (by decide) ?_
                refine bv_iload_n dX12_drawMan_108 1 rfl ?_
                refine bv_iadd dX12_drawMan_109 ?_
                obtain ⟨r217, h⟩ := bu_ia h
                refine bw_iald hN r217 dX12_drawMan_110 ?_
                refine bv_if_ne (tgt := 128) dX12_drawMan_111 (by decide) (fun cc => ?_) (fun cc => ?_)
                · replace h := bu_f h cc
                  obtain rfl := Option.some.inj h
                  exact bv_vret dX12_drawMan_128 rfl ⟨rfl, rfl⟩
                · replace h := bu_t h cc
                  refine bv_aload_n dX12_drawMan_114 0 rfl ?_
                  refine bv_iload_n dX12_drawMan_115 1 rfl ?_
                  obtain ⟨v218, p219, h⟩ := bu_bd h
                  refine bw_callV (As := [.int x1]) hN q1 ⟨_, _, rfl⟩ dX12_drawMan_116 mc_12_290 (c_X12_browOf (d := d + 6) hN p219) rfl rfl (by decide) ?_
                  refine bv_if_le (tgt := 128) dX12_drawMan_119 (by decide) (fun cc => ?_) (fun cc => ?_)
                  · replace h := bu_t h cc
                    obtain rfl := Option.some.inj h
                    exact bv_vret dX12_drawMan_128 rfl ⟨rfl, rfl⟩
                  · replace h := bu_f h cc
                    refine bv_aload_n dX12_drawMan_122 0 rfl ?_
                    refine bv_iload_n dX12_drawMan_123 1 rfl ?_
                    refine bv_iload_n dX12_drawMan_124 3 rfl ?_
                    obtain ⟨v220, p221, h⟩ := bu_bd h
                    refine bw_callVv (As := [.int x1, .int v213.1]) hN q1 ⟨_, _, rfl⟩ dX12_drawMan_125 mc_12_332 (c_X12_gives (d := d + 0) hN p221) rfl rfl (by decide) ?_
                    obtain rfl := Option.some.inj h
                    exact bv_vret dX12_drawMan_128 rfl ⟨rfl, rfl⟩
      · replace h := bu_t h cc
        refine bv_aload_n dX12_drawMan_38 0 rfl ?_
        obtain ⟨a222, e223, h⟩ := bu_bd h
        refine bw_getA (a := a222) hN q1 e223 dX12_drawMan_39 fl_12_33 rfl ?_
        refine bv_bipush (v := 63) dX12_drawMan_42 (by decide) ?_
        refine bv_dup2 dX12_drawMan_44 rfl rfl ?_
        obtain ⟨r224, h⟩ := bu_ia h
        refine bw_iald hN r224 dX12_drawMan_45 ?_
        refine bv_iconst (v := 1) dX12_drawMan_46 (by decide) ?_
        refine bv_iload_n dX12_drawMan_47 1 rfl ?_
        refine bv_ishl dX12_drawMan_48 ?_
        refine bv_ixor dX12_drawMan_49 ?_
        refine bw_iast hN r224 dX12_drawMan_50 ?_
        refine bv_iload_n dX12_drawMan_51 2 rfl ?_
        refine bv_iconst (v := 2) dX12_drawMan_52 (by decide) ?_
        refine bv_icmp_ne (tgt := 77) dX12_drawMan_53 (by decide) (fun cc => ?_) (fun cc => ?_)
        · replace h := bu_f h cc
          refine bv_iload_n dX12_drawMan_77 2 rfl ?_
          refine bv_iconst (v := 3) dX12_drawMan_78 (by decide) ?_
          refine bv_icmp_ne (tgt := 128) dX12_drawMan_79 (by decide) (fun cc => ?_) (fun cc => ?_)
          · replace h := bu_f h cc
            obtain rfl := Option.some.inj h
            exact bv_vret dX12_drawMan_128 rfl ⟨rfl, rfl⟩
          · replace h := bu_t h cc
            refine bv_aload_n dX12_drawMan_82 0 rfl ?_
            refine bw_getA (a := a222) hN q1 e223 dX12_drawMan_83 fl_12_33 rfl ?_
            refine bv_iconst (v := 1) dX12_drawMan_86 (by decide) ?_
            obtain ⟨r225, h⟩ := bu_ia h
            refine bw_iald hN r225 dX12_drawMan_87 ?_
            refine bv_if_le (tgt := 128) dX12_drawMan_88 (by decide) (fun cc => ?_) (fun cc => ?_)
            · replace h := bu_t h cc
              obtain rfl := Option.some.inj h
              exact bv_vret dX12_drawMan_128 rfl ⟨rfl, rfl⟩
            · replace h := bu_f h cc
              refine bv_aload_n dX12_drawMan_91 0 rfl ?_
              refine bv_aload_n dX12_drawMan_92 0 rfl ?_
              refine bw_getA (a := a222) hN q1 e223 dX12_drawMan_93 fl_12_33 rfl ?_
              refine bv_iconst (v := 1) dX12_drawMan_96 (by decide) ?_
              refine bw_iald hN r225 dX12_drawMan_97 ?_
              obtain ⟨v226, p227, h⟩ := bu_bd h
              refine bw_callV (As := [.int ((bm_sI v178 a222 (63 : Int32).toNatClampNeg ((v178.1 a222 (63 : Int32).toNatClampNeg) ^^^ (bm_ishl 1 x1))).1 a222 (1 : Int32).toNatClampNeg)]) hN q1 ⟨_, _, rfl⟩ dX12_drawMan_98 mc_12_426 (c_X12_draw (d := d + 7) hN p227) rfl rfl (by decide) ?_
              refine bv_istore_n (ls1 := [(0, .ref x0), (1, .int x1), (2, .int v2.1), (3, .int v226.1)]) dX12_drawMan_101 (by decide) rfl rfl ?_
              refine bv_aload_n dX12_drawMan_102 0 rfl ?_
              obtain ⟨a228, e229, h⟩ := bu_bd h
              refine bw_getA (a := a228) hN q1 e229 dX12_drawMan_103 fl_12_33 rfl ?_
              refine bv_bipush (v := 31) dX12_drawMan_106 (by decide) ?_
              refine bv_iload_n dX12_drawMan_108 1 rfl ?_
              refine bv_iadd dX12_drawMan_109 ?_
              obtain ⟨r230, h⟩ := bu_ia h
              refine bw_iald hN r230 dX12_drawMan_110 ?_
              refine bv_if_ne (tgt := 128) dX12_drawMan_111 (by decide) (fun cc => ?_) (fun cc => ?_)
              · replace h := bu_f h cc
                obtain rfl := Option.some.inj h
                exact bv_vret dX12_drawMan_128 rfl ⟨rfl, rfl⟩
              · replace h := bu_t h cc
                refine bv_aload_n dX12_drawMan_114 0 rfl ?_
                refine bv_iload_n dX12_drawMan_115 1 rfl ?_
                obtain ⟨v231, p232, h⟩ := bu_bd h
                refine bw_callV (As := [.int x1]) hN q1 ⟨_, _, rfl⟩ dX12_drawMan_116 mc_12_290 (c_X12_browOf (d := d + 6) hN p232) rfl rfl (by decide) ?_
                refine bv_if_le (tgt := 128) dX12_drawMan_119 (by decide) (fun cc => ?_) (fun cc => ?_)
                · replace h := bu_t h cc
                  obtain rfl := Option.some.inj h
                  exact bv_vret dX12_drawMan_128 rfl ⟨rfl, rfl⟩
                · replace h := bu_f h cc
                  refine bv_aload_n dX12_drawMan_122 0 rfl ?_
                  refine bv_iload_n dX12_drawMan_123 1 rfl ?_
                  refine bv_iload_n dX12_drawMan_124 3 rfl ?_
                  obtain ⟨v233, p234, h⟩ := bu_bd h
                  refine bw_callVv (As := [.int x1, .int v226.1]) hN q1 ⟨_, _, rfl⟩ dX12_drawMan_125 mc_12_332 (c_X12_gives (d := d + 0) hN p234) rfl rfl (by decide) ?_
                  obtain rfl := Option.some.inj h
                  exact bv_vret dX12_drawMan_128 rfl ⟨rfl, rfl⟩
        · replace h := bu_t h cc
          refine bv_aload_n dX12_drawMan_56 0 rfl ?_
          refine bv_iconst (v := 4) dX12_drawMan_57 (by decide) ?_
          obtain ⟨v235, p236, h⟩ := bu_bd h
          refine bw_callV (As := [.int 4]) hN q1 ⟨_, _, rfl⟩ dX12_drawMan_58 mc_12_426 (c_X12_draw (d := d + 7) hN p236) rfl rfl (by decide) ?_
          refine bv_istore_n (ls1 := [(0, .ref x0), (1, .int x1), (2, .int v2.1), (3, .int v235.1)]) dX12_drawMan_61 (by decide) rfl rfl ?_
          refine bv_aload_n dX12_drawMan_62 0 rfl ?_
          refine bv_iload_n dX12_drawMan_63 1 rfl ?_
          refine bv_iload_n dX12_drawMan_64 3 rfl ?_
          obtain ⟨v237, p238, h⟩ := bu_bd h
          refine bw_callV (As := [.int x1, .int v235.1]) hN q1 ⟨_, _, rfl⟩ dX12_drawMan_65 mc_12_351 (c_X12_whyGo (d := d + 6) hN p238) rfl rfl (by decide) ?_
          refine bv_if_ne (tgt := 77) dX12_drawMan_68 (by decide) (fun cc => ?_) (fun cc => ?_)
          · replace h := bu_f h cc
            refine bv_iload_n dX12_drawMan_77 2 rfl ?_
            refine bv_iconst (v := 3) dX12_drawMan_78 (by decide) ?_
            refine bv_icmp_ne (tgt := 128) dX12_drawMan_79 (by decide) (fun cc => ?_) (fun cc => ?_)
            · replace h := bu_f h cc
              obtain rfl := Option.some.inj h
              exact bv_vret dX12_drawMan_128 rfl ⟨rfl, rfl⟩
            · replace h := bu_t h cc
              refine bv_aload_n dX12_drawMan_82 0 rfl ?_
              obtain ⟨a239, e240, h⟩ := bu_bd h
              refine bw_getA (a := a239) hN q1 e240 dX12_drawMan_83 fl_12_33 rfl ?_
              refine bv_iconst (v := 1) dX12_drawMan_86 (by decide) ?_
              obtain ⟨r241, h⟩ := bu_ia h
              refine bw_iald hN r241 dX12_drawMan_87 ?_
              refine bv_if_le (tgt := 128) dX12_drawMan_88 (by decide) (fun cc => ?_) (fun cc => ?_)
              · replace h := bu_t h cc
                obtain rfl := Option.some.inj h
                exact bv_vret dX12_drawMan_128 rfl ⟨rfl, rfl⟩
              · replace h := bu_f h cc
                refine bv_aload_n dX12_drawMan_91 0 rfl ?_
                refine bv_aload_n dX12_drawMan_92 0 rfl ?_
                refine bw_getA (a := a239) hN q1 e240 dX12_drawMan_93 fl_12_33 rfl ?_
                refine bv_iconst (v := 1) dX12_drawMan_96 (by decide) ?_
                refine bw_iald hN r241 dX12_drawMan_97 ?_
                obtain ⟨v242, p243, h⟩ := bu_bd h
                refine bw_callV (As := [.int (v235.2.1 a239 (1 : Int32).toNatClampNeg)]) hN q1 ⟨_, _, rfl⟩ dX12_drawMan_98 mc_12_426 (c_X12_draw (d := d + 7) hN p243) rfl rfl (by decide) ?_
                refine bv_istore_n (ls1 := [(0, .ref x0), (1, .int x1), (2, .int v2.1), (3, .int v242.1)]) dX12_drawMan_101 (by decide) rfl rfl ?_
                refine bv_aload_n dX12_drawMan_102 0 rfl ?_
                obtain ⟨a244, e245, h⟩ := bu_bd h
                refine bw_getA (a := a244) hN q1 e245 dX12_drawMan_103 fl_12_33 rfl ?_
                refine bv_bipush (v := 31) dX12_drawMan_106 (by decide) ?_
                refine bv_iload_n dX12_drawMan_108 1 rfl ?_
                refine bv_iadd dX12_drawMan_109 ?_
                obtain ⟨r246, h⟩ := bu_ia h
                refine bw_iald hN r246 dX12_drawMan_110 ?_
                refine bv_if_ne (tgt := 128) dX12_drawMan_111 (by decide) (fun cc => ?_) (fun cc => ?_)
                · replace h := bu_f h cc
                  obtain rfl := Option.some.inj h
                  exact bv_vret dX12_drawMan_128 rfl ⟨rfl, rfl⟩
                · replace h := bu_t h cc
                  refine bv_aload_n dX12_drawMan_114 0 rfl ?_
                  refine bv_iload_n dX12_drawMan_115 1 rfl ?_
                  obtain ⟨v247, p248, h⟩ := bu_bd h
                  refine bw_callV (As := [.int x1]) hN q1 ⟨_, _, rfl⟩ dX12_drawMan_116 mc_12_290 (c_X12_browOf (d := d + 6) hN p248) rfl rfl (by decide) ?_
                  refine bv_if_le (tgt := 128) dX12_drawMan_119 (by decide) (fun cc => ?_) (fun cc => ?_)
                  · replace h := bu_t h cc
                    obtain rfl := Option.some.inj h
                    exact bv_vret dX12_drawMan_128 rfl ⟨rfl, rfl⟩
                  · replace h := bu_f h cc
                    refine bv_aload_n dX12_drawMan_122 0 rfl ?_
                    refine bv_iload_n dX12_drawMan_123 1 rfl ?_
                    refine bv_iload_n dX12_drawMan_124 3 rfl ?_
                    obtain ⟨v249, p250, h⟩ := bu_bd h
                    refine bw_callVv (As := [.int x1, .int v242.1]) hN q1 ⟨_, _, rfl⟩ dX12_drawMan_125 mc_12_332 (c_X12_gives (d := d + 0) hN p250) rfl rfl (by decide) ?_
                    obtain rfl := Option.some.inj h
                    exact bv_vret dX12_drawMan_128 rfl ⟨rfl, rfl⟩
          · replace h := bu_t h cc
            refine bv_aload_n dX12_drawMan_71 0 rfl ?_
            refine bv_iload_n dX12_drawMan_72 1 rfl ?_
            refine bv_iload_n dX12_drawMan_73 3 rfl ?_
            obtain ⟨v251, p252, h⟩ := bu_bd h
            refine bw_callVv (As := [.int x1, .int v235.1]) hN q1 ⟨_, _, rfl⟩ dX12_drawMan_74 mc_12_354 (c_X12_goes (d := d + 6) hN p252) rfl rfl (by decide) ?_
            refine bv_iload_n dX12_drawMan_77 2 rfl ?_
            refine bv_iconst (v := 3) dX12_drawMan_78 (by decide) ?_
            refine bv_icmp_ne (tgt := 128) dX12_drawMan_79 (by decide) (fun cc => ?_) (fun cc => ?_)
            · replace h := bu_f h cc
              obtain rfl := Option.some.inj h
              exact bv_vret dX12_drawMan_128 rfl ⟨rfl, rfl⟩
            · replace h := bu_t h cc
              refine bv_aload_n dX12_drawMan_82 0 rfl ?_
              obtain ⟨a253, e254, h⟩ := bu_bd h
              refine bw_getA (a := a253) hN q1 e254 dX12_drawMan_83 fl_12_33 rfl ?_
              refine bv_iconst (v := 1) dX12_drawMan_86 (by decide) ?_
              obtain ⟨r255, h⟩ := bu_ia h
              refine bw_iald hN r255 dX12_drawMan_87 ?_
              refine bv_if_le (tgt := 128) dX12_drawMan_88 (by decide) (fun cc => ?_) (fun cc => ?_)
              · replace h := bu_t h cc
                obtain rfl := Option.some.inj h
                exact bv_vret dX12_drawMan_128 rfl ⟨rfl, rfl⟩
              · replace h := bu_f h cc
                refine bv_aload_n dX12_drawMan_91 0 rfl ?_
                refine bv_aload_n dX12_drawMan_92 0 rfl ?_
                refine bw_getA (a := a253) hN q1 e254 dX12_drawMan_93 fl_12_33 rfl ?_
                refine bv_iconst (v := 1) dX12_drawMan_96 (by decide) ?_
                refine bw_iald hN r255 dX12_drawMan_97 ?_
                obtain ⟨v256, p257, h⟩ := bu_bd h
                refine bw_callV (As := [.int (v251.1 a253 (1 : Int32).toNatClampNeg)]) hN q1 ⟨_, _, rfl⟩ dX12_drawMan_98 mc_12_426 (c_X12_draw (d := d + 7) hN p257) rfl rfl (by decide) ?_
                refine bv_istore_n (ls1 := [(0, .ref x0), (1, .int x1), (2, .int v2.1), (3, .int v256.1)]) dX12_drawMan_101 (by decide) rfl rfl ?_
                refine bv_aload_n dX12_drawMan_102 0 rfl ?_
                obtain ⟨a258, e259, h⟩ := bu_bd h
                refine bw_getA (a := a258) hN q1 e259 dX12_drawMan_103 fl_12_33 rfl ?_
                refine bv_bipush (v := 31) dX12_drawMan_106 (by decide) ?_
                refine bv_iload_n dX12_drawMan_108 1 rfl ?_
                refine bv_iadd dX12_drawMan_109 ?_
                obtain ⟨r260, h⟩ := bu_ia h
                refine bw_iald hN r260 dX12_drawMan_110 ?_
                refine bv_if_ne (tgt := 128) dX12_drawMan_111 (by decide) (fun cc => ?_) (fun cc => ?_)
                · replace h := bu_f h cc
                  obtain rfl := Option.some.inj h
                  exact bv_vret dX12_drawMan_128 rfl ⟨rfl, rfl⟩
                · replace h := bu_t h cc
                  refine bv_aload_n dX12_drawMan_114 0 rfl ?_
                  refine bv_iload_n dX12_drawMan_115 1 rfl ?_
                  obtain ⟨v261, p262, h⟩ := bu_bd h
                  refine bw_callV (As := [.int x1]) hN q1 ⟨_, _, rfl⟩ dX12_drawMan_116 mc_12_290 (c_X12_browOf (d := d + 6) hN p262) rfl rfl (by decide) ?_
                  refine bv_if_le (tgt := 128) dX12_drawMan_119 (by decide) (fun cc => ?_) (fun cc => ?_)
                  · replace h := bu_t h cc
                    obtain rfl := Option.some.inj h
                    exact bv_vret dX12_drawMan_128 rfl ⟨rfl, rfl⟩
                  · replace h := bu_f h cc
                    refine bv_aload_n dX12_drawMan_122 0 rfl ?_
                    refine bv_iload_n dX12_drawMan_123 1 rfl ?_
                    refine bv_iload_n dX12_drawMan_124 3 rfl ?_
                    obtain ⟨v263, p264, h⟩ := bu_bd h
                    refine bw_callVv (As := [.int x1, .int v256.1]) hN q1 ⟨_, _, rfl⟩ dX12_drawMan_125 mc_12_332 (c_X12_gives (d := d + 0) hN p264) rfl rfl (by decide) ?_
                    obtain rfl := Option.some.inj h
                    exact bv_vret dX12_drawMan_128 rfl ⟨rfl, rfl⟩
def f_X12_draws_l28 (x0 : Nat) (x1 : Int32) (x3 : Int32) : Nat → Int32 → bm_M → Option (bm_M)
  | 0, _, _ => none
  | k + 1, x4, M => ((M.2.2 x0 6).bind fun a1 => (if bm_ia a1 0 0 = true then (if (M.1 a1 (0 : Int32).toNatClampNeg) ≤ x4 then some M else ((f_X12_drawMan M x0 x4).bind fun v4 => f_X12_draws_l28 x0 x1 x3 k (x4 + 1) v4)) else none))
set_option maxHeartbeats 4000000 in
set_option maxRecDepth 100000 in
theorem v_X12_draws_l28 {L : bm_L} {d n : Nat} {Q : Option Value → bm_M → Prop} {x0 : Nat} {x1 : Int32} {x3 : Int32} (hN : 181 ≤ n) (q_0 : bm_OK x0 11) : ∀ (k : Nat) (x4 : Int32) (M : bm_M) (r : bm_M), f_X12_draws_l28 x0 x1 x3 k x4 M = some r → (∀ yy, yy = r → bm_V L m_X12_draws (d + 9) n n n 51 [(0, .ref x0), (1, .int x1), (3, .int x3)] [] yy Q) → bm_V L m_X12_draws (d + 9) n n n 28 [(0, .ref x0), (1, .int x1), (3, .int x3), (4, .int x4)] [] M Q := by
  intro k
  induction k with
  | zero => intro x4 M r h; cases (show (none : Option (bm_M)) = some r from h)
  | succ k ih =>
    intro x4 M r h K0
    unfold f_X12_draws_l28 at h
    refine bv_iload dX12_draws_28 3 rfl ?_
    refine bv_aload_n dX12_draws_30 0 rfl ?_
    obtain ⟨a1, e2, h⟩ := bu_bd h
    refine bw_getA (a := a1) hN q_0 e2 dX12_draws_31 fl_12_33 rfl ?_
    refine bv_iconst (v := 0) dX12_draws_34 (by decide) ?_
    obtain ⟨r3, h⟩ := bu_ia h
    refine bw_iald hN r3 dX12_draws_35 ?_
    refine bv_icmp_ge (tgt := 51) dX12_draws_36 (by decide) (fun cc => ?_) (fun cc => ?_)
    · replace h := bu_t h cc
      refine bw_ls (ls1 := [(0, .ref x0), (1, .int x1), (3, .int x3)]) [0, 1, 2] rfl ?_
      obtain rfl := Option.some.inj h
      exact K0 _ rfl
    · replace h := bu_f h cc
      refine bv_aload_n dX12_draws_39 0 rfl ?_
      refine bv_iload dX12_draws_40 3 rfl ?_
      obtain ⟨v4, p5, h⟩ := bu_bd h
      refine bw_callVv (As := [.int x4]) hN q_0 ⟨_, _, rfl⟩ dX12_draws_42 mc_12_429 (c_X12_drawMan (d := d + 0) hN p5) rfl rfl (by decide) ?_
      refine bv_iinc (j := 3) (v := (x4 + 1)) (ls1 := [(0, .ref x0), (1, .int x1), (3, .int x3), (4, .int (x4 + 1))]) dX12_draws_45 rfl rfl (by decide) rfl rfl ?_
      refine bv_goto (tgt := 28) dX12_draws_48 (by decide) ?_
      exact ih _ _ _ h K0
def f_X12_draws_l7 (x0 : Nat) (x1 : Int32) : Nat → Int32 → bm_M → Option (Int32 × bm_M)
  | 0, _, _ => none
  | k + 1, x3, M => (if x1 ≤ x3 then some (x3, M) else ((M.2.2 x0 6).bind fun a1 => (if bm_ia a1 0 61 = true then (if 400 ≤ (M.1 a1 (61 : Int32).toNatClampNeg) then some (x3, M) else ((f_X12_draws_l28 x0 x1 x3 1000 0 M).bind fun y6 => ((f_X12_hour y6 x0).bind fun v7 => f_X12_draws_l7 x0 x1 k (x3 + 1) v7))) else none)))
set_option maxHeartbeats 4000000 in
set_option maxRecDepth 100000 in
theorem v_X12_draws_l7 {L : bm_L} {d n : Nat} {Q : Option Value → bm_M → Prop} {x0 : Nat} {x1 : Int32} (hN : 181 ≤ n) (q_0 : bm_OK x0 11) : ∀ (k : Nat) (x3 : Int32) (M : bm_M) (r : Int32 × bm_M), f_X12_draws_l7 x0 x1 k x3 M = some r → (∀ yy, yy = r → bm_V L m_X12_draws (d + 9) n n n 61 [(3, .int yy.1)] [] yy.2 Q) → bm_V L m_X12_draws (d + 9) n n n 7 [(0, .ref x0), (1, .int x1), (3, .int x3)] [] M Q := by
  intro k
  induction k with
  | zero => intro x3 M r h; cases (show (none : Option (Int32 × bm_M)) = some r from h)
  | succ k ih =>
    intro x3 M r h K0
    unfold f_X12_draws_l7 at h
    refine bv_iload_n dX12_draws_7 2 rfl ?_
    refine bv_iload_n dX12_draws_8 1 rfl ?_
    refine bv_icmp_ge (tgt := 61) dX12_draws_9 (by decide) (fun cc => ?_) (fun cc => ?_)
    · replace h := bu_t h cc
      refine bw_ls (ls1 := [(3, .int x3)]) [2] rfl ?_
      obtain rfl := Option.some.inj h
      exact K0 _ rfl
    · replace h := bu_f h cc
      refine bv_aload_n dX12_draws_12 0 rfl ?_
      obtain ⟨a1, e2, h⟩ := bu_bd h
      refine bw_getA (a := a1) hN q_0 e2 dX12_draws_13 fl_12_33 rfl ?_
      refine bv_bipush (v := 61) dX12_draws_16 (by decide) ?_
      obtain ⟨r3, h⟩ := bu_ia h
      refine bw_iald hN r3 dX12_draws_18 ?_
      refine bv_sipush (v := 400) dX12_draws_19 (by decide) ?_
      refine bv_icmp_ge (tgt := 61) dX12_draws_22 (by decide) (fun cc => ?_) (fun cc => ?_)
      · replace h := bu_t h cc
        refine bw_ls (ls1 := [(3, .int x3)]) [2] rfl ?_
        obtain rfl := Option.some.inj h
        exact K0 _ rfl
      · replace h := bu_f h cc
        refine bv_iconst (v := 0) dX12_draws_25 (by decide) ?_
        refine bv_istore (ls1 := [(0, .ref x0), (1, .int x1), (3, .int x3), (4, .int 0)]) dX12_draws_26 (by decide) rfl rfl ?_
        obtain ⟨r4, p5, h⟩ := bu_bd h
        refine v_X12_draws_l28 hN q_0 1000 _ _ _ p5 (fun y6 hy => ?_)
        · subst hy
          refine bv_aload_n dX12_draws_51 0 rfl ?_
          obtain ⟨v7, p8, h⟩ := bu_bd h
          refine bw_callVv (As := []) hN q_0 ⟨_, _, rfl⟩ dX12_draws_52 mc_12_335 (c_X12_hour (d := d + 0) hN p8) rfl rfl (by decide) ?_
          refine bv_iinc (j := 2) (v := (x3 + 1)) (ls1 := [(0, .ref x0), (1, .int x1), (3, .int (x3 + 1))]) dX12_draws_55 rfl rfl (by decide) rfl rfl ?_
          refine bv_goto (tgt := 7) dX12_draws_58 (by decide) ?_
          exact ih _ _ _ h K0
def f_X12_draws (M : bm_M) (x0 : Nat) (x1 : Int32) (x2 : Int32) : Option (Int32 × bm_M) := (if bm_io x0 11 then ((f_X12_draws_l7 x0 x1 1000 0 (bm_sI M x0 33 x2)).bind fun y4 => some (y4.1, y4.2)) else none)
set_option maxHeartbeats 4000000 in
set_option maxRecDepth 100000 in
theorem c_X12_draws {L : bm_L} {d n : Nat} {M : bm_M} {x0 : Nat} {x1 : Int32} {x2 : Int32} {v : Int32 × bm_M} (hN : 181 ≤ n) (h : f_X12_draws M x0 x1 x2 = some v) : bm_C L m_X12_draws (d + 9) n n [.ref x0, .int x1, .int x2] M (fun r M' => r = some (.int v.1) ∧ M' = v.2) := by
  refine bm_C.ofV (by decide) (Nat.le_of_ble_eq_true rfl) ?_
  show bm_V L m_X12_draws (d + 9) n n n 0 [(0, .ref x0), (1, .int x1), (2, .int x2)] [] M _
  unfold f_X12_draws at h
  refine bv_aload_n dX12_draws_0 0 rfl ?_
  refine bv_iload_n dX12_draws_1 2 rfl ?_
  obtain ⟨q1, h⟩ := bu_io h
  refine bw_putI hN q1 dX12_draws_2 fl_12_422 rfl ?_
  refine bv_iconst (v := 0) dX12_draws_5 (by decide) ?_
  refine bv_istore_n (ls1 := [(0, .ref x0), (1, .int x1), (2, .int x2), (3, .int 0)]) dX12_draws_6 (by decide) rfl rfl ?_
  refine bw_ls (ls1 := [(0, .ref x0), (1, .int x1), (3, .int 0)]) [0, 1, 3] rfl ?_
  obtain ⟨r2, p3, h⟩ := bu_bd h
  refine v_X12_draws_l7 hN q1 1000 _ _ _ p3 (fun y4 hy => ?_)
  · subst hy
    refine bv_iload_n dX12_draws_61 0 rfl ?_
    obtain rfl := Option.some.inj h
    exact bv_iret (x := y4.1) dX12_draws_62 rfl ⟨rfl, rfl⟩
def f_X12_drawn (M : bm_M) (x0 : Nat) (x1 : Int32) (x2 : Int32) : Option (Int32 × bm_M) := (if bm_io x0 11 then (if (f_X12_isIn x1 1 60) = true then ((M.2.2 x0 6).bind fun a2 => (if bm_ia a2 0 61 = true then (if 400 ≤ ((bm_sI M x0 0 0).1 a2 (61 : Int32).toNatClampNeg) then ((f_X12_draws (bm_sI M x0 0 0) x0 x1 x2).bind fun v5 => some (v5.1, v5.2)) else ((f_X12_keep (bm_sI M x0 0 0) x0).bind fun v7 => ((f_X12_draws v7 x0 x1 x2).bind fun v9 => some (v9.1, v9.2)))) else none)) else some ((-1), (bm_sI M x0 0 0))) else none)
set_option maxHeartbeats 4000000 in
set_option maxRecDepth 100000 in
theorem c_X12_drawn {L : bm_L} {d n : Nat} {M : bm_M} {x0 : Nat} {x1 : Int32} {x2 : Int32} {v : Int32 × bm_M} (hN : 181 ≤ n) (h : f_X12_drawn M x0 x1 x2 = some v) : bm_C L m_X12_drawn (d + 10) n n [.ref x0, .int x1, .int x2] M (fun r M' => r = some (.int v.1) ∧ M' = v.2) := by
  refine bm_C.ofV (by decide) (Nat.le_of_ble_eq_true rfl) ?_
  show bm_V L m_X12_drawn (d + 10) n n n 0 [(0, .ref x0), (1, .int x1), (2, .int x2)] [] M _
  unfold f_X12_drawn at h
  refine bv_aload_n dX12_drawn_0 0 rfl ?_
  refine bv_iconst (v := 0) dX12_drawn_1 (by decide) ?_
  obtain ⟨q1, h⟩ := bu_io h
  refine bw_putI hN q1 dX12_drawn_2 fl_12_1 rfl ?_
  refine bv_iload_n dX12_drawn_5 1 rfl ?_
  refine bv_iconst (v := 1) dX12_drawn_6 (by decide) ?_
  refine bv_bipush (v := 60) dX12_drawn_7 (by decide) ?_
  refine bw_callS (As := [.int x1, .int 1, .int 60]) dX12_drawn_9 mc_12_206 (c_X12_isIn (d := d + 9) hN rfl) rfl rfl (by decide) ?_
  refine bw_ifB_ne (b := (f_X12_isIn x1 1 60)) (tgt := 17) dX12_drawn_12 (by decide) (fun cc => ?_) (fun cc => ?_)
  · replace h := bu_bt h cc
    refine bv_aload_n dX12_drawn_17 0 rfl ?_
    obtain ⟨a2, e3, h⟩ := bu_bd h
    refine bw_getA (a := a2) hN q1 e3 dX12_drawn_18 fl_12_33 rfl ?_
    refine bv_bipush (v := 61) dX12_drawn_21 (by decide) ?_
    obtain ⟨r4, h⟩ := bu_ia h
    refine bw_iald hN r4 dX12_drawn_23 ?_
    refine bv_sipush (v := 400) dX12_drawn_24 (by decide) ?_
    refine bv_icmp_ge (tgt := 34) dX12_drawn_27 (by decide) (fun cc => ?_) (fun cc => ?_)
    · replace h := bu_t h cc
      refine bv_aload_n dX12_drawn_34 0 rfl ?_
      refine bv_iload_n dX12_drawn_35 1 rfl ?_
      refine bv_iload_n dX12_drawn_36 2 rfl ?_
      obtain ⟨v5, p6, h⟩ := bu_bd h
      refine bw_callV (As := [.int x1, .int x2]) hN q1 ⟨_, _, rfl⟩ dX12_drawn_37 mc_12_432 (c_X12_draws (d := d + 0) hN p6) rfl rfl (by decide) ?_
      obtain rfl := Option.some.inj h
      exact bv_iret (x := v5.1) dX12_drawn_40 rfl ⟨rfl, rfl⟩
    · replace h := bu_f h cc
      refine bv_aload_n dX12_drawn_30 0 rfl ?_
      obtain ⟨v7, p8, h⟩ := bu_bd h
      refine bw_callVv (As := []) hN q1 ⟨_, _, rfl⟩ dX12_drawn_31 mc_12_344 (c_X12_keep (d := d + 9) hN p8) rfl rfl (by decide) ?_
      refine bv_aload_n dX12_drawn_34 0 rfl ?_
      refine bv_iload_n dX12_drawn_35 1 rfl ?_
      refine bv_iload_n dX12_drawn_36 2 rfl ?_
      obtain ⟨v9, p10, h⟩ := bu_bd h
      refine bw_callV (As := [.int x1, .int x2]) hN q1 ⟨_, _, rfl⟩ dX12_drawn_37 mc_12_432 (c_X12_draws (d := d + 0) hN p10) rfl rfl (by decide) ?_
      obtain rfl := Option.some.inj h
      exact bv_iret (x := v9.1) dX12_drawn_40 rfl ⟨rfl, rfl⟩
  · replace h := bu_bf h cc
    refine bv_iconst (v := (-1)) dX12_drawn_15 (by decide) ?_
    obtain rfl := Option.some.inj h
    exact bv_iret (x := (-1)) dX12_drawn_16 rfl ⟨rfl, rfl⟩
def f_X12_odds_l35 (x0 : Nat) (x1 : Int32) (x2 : Int32) (x3 : Int32) : Nat → Int32 → Int32 → bm_M → Option (Int32 × bm_M)
  | 0, _, _, _ => none
  | k + 1, x4, x5, M => (if x2 ≤ x5 then some (x4, M) else ((f_X12_draws M x0 20 (x3 + x5)).bind fun v1 => ((v1.2.2.2 x0 6).bind fun a3 => (if bm_ia a3 0 (90 + x1) = true then (if (v1.2.1 a3 (90 + x1).toNatClampNeg) ≤ 0 then ((f_X12_back v1.2 x0).bind fun v6 => f_X12_odds_l35 x0 x1 x2 x3 k (x4 + 0) (x5 + 1) v6) else ((f_X12_back v1.2 x0).bind fun v8 => f_X12_odds_l35 x0 x1 x2 x3 k (x4 + 1) (x5 + 1) v8)) else none))))
set_option maxHeartbeats 4000000 in
set_option maxRecDepth 100000 in
theorem v_X12_odds_l35 {L : bm_L} {d n : Nat} {Q : Option Value → bm_M → Prop} {x0 : Nat} {x1 : Int32} {x2 : Int32} {x3 : Int32} (hN : 181 ≤ n) (q_0 : bm_OK x0 11) : ∀ (k : Nat) (x4 : Int32) (x5 : Int32) (M : bm_M) (r : Int32 × bm_M), f_X12_odds_l35 x0 x1 x2 x3 k x4 x5 M = some r → (∀ yy, yy = r → bm_V L m_X12_odds (d + 10) n n n 84 [(4, .int yy.1)] [] yy.2 Q) → bm_V L m_X12_odds (d + 10) n n n 35 [(0, .ref x0), (1, .int x1), (2, .int x2), (3, .int x3), (4, .int x4), (5, .int x5)] [] M Q := by
  intro k
  induction k with
  | zero => intro x4 x5 M r h; cases (show (none : Option (Int32 × bm_M)) = some r from h)
  | succ k ih =>
    intro x4 x5 M r h K0
    unfold f_X12_odds_l35 at h
    refine bv_iload dX12_odds_35 5 rfl ?_
    refine bv_iload_n dX12_odds_37 2 rfl ?_
    refine bv_icmp_ge (tgt := 84) dX12_odds_38 (by decide) (fun cc => ?_) (fun cc => ?_)
    · replace h := bu_t h cc
      refine bw_ls (ls1 := [(4, .int x4)]) [4] rfl ?_
      obtain rfl := Option.some.inj h
      exact K0 _ rfl
    · replace h := bu_f h cc
      refine bv_aload_n dX12_odds_41 0 rfl ?_
      refine bv_bipush (v := 20) dX12_odds_42 (by decide) ?_
      refine bv_iload_n dX12_odds_44 3 rfl ?_
      refine bv_iload dX12_odds_45 5 rfl ?_
      refine bv_iadd dX12_odds_47 ?_
      obtain ⟨v1, p2, h⟩ := bu_bd h
      refine bw_callV (As := [.int 20, .int (x3 + x5)]) hN q_0 ⟨_, _, rfl⟩ dX12_odds_48 mc_12_432 (c_X12_draws (d := d + 0) hN p2) rfl rfl (by decide) ?_
      refine bv_pop dX12_odds_51 rfl ?_
      refine bv_iload dX12_odds_52 4 rfl ?_
      refine bv_aload_n dX12_odds_54 0 rfl ?_
      obtain ⟨a3, e4, h⟩ := bu_bd h
      refine bw_getA (a := a3) hN q_0 e4 dX12_odds_55 fl_12_33 rfl ?_
      refine bv_bipush (v := 90) dX12_odds_58 (by decide) ?_
      refine bv_iload_n dX12_odds_60 1 rfl ?_
      refine bv_iadd dX12_odds_61 ?_
      obtain ⟨r5, h⟩ := bu_ia h
      refine bw_iald hN r5 dX12_odds_62 ?_
      refine bv_if_le (tgt := 70) dX12_odds_63 (by decide) (fun cc => ?_) (fun cc => ?_)
      · replace h := bu_t h cc
        refine bv_iconst (v := 0) dX12_odds_70 (by decide) ?_
        refine bv_iadd dX12_odds_71 ?_
        refine bv_istore (ls1 := [(0, .ref x0), (1, .int x1), (2, .int x2), (3, .int x3), (4, .int (x4 + 0)), (5, .int x5)]) dX12_odds_72 (by decide) rfl rfl ?_
        refine bv_aload_n dX12_odds_74 0 rfl ?_
        obtain ⟨v6, p7, h⟩ := bu_bd h
        refine bw_callVv (As := []) hN q_0 ⟨_, _, rfl⟩ dX12_odds_75 mc_12_369 (c_X12_back (d := d + 9) hN p7) rfl rfl (by decide) ?_
        refine bv_iinc (j := 5) (v := (x5 + 1)) (ls1 := [(0, .ref x0), (1, .int x1), (2, .int x2), (3, .int x3), (4, .int (x4 + 0)), (5, .int (x5 + 1))]) dX12_odds_78 rfl rfl (by decide) rfl rfl ?_
        refine bv_goto (tgt := 35) dX12_odds_81 (by decide) ?_
        exact ih _ _ _ _ h K0
      · replace h := bu_f h cc
        refine bv_iconst (v := 1) dX12_odds_66 (by decide) ?_
        refine bv_goto (tgt := 71) dX12_odds_67 (by decide) ?_
        refine bv_iadd dX12_odds_71 ?_
        refine bv_istore (ls1 := [(0, .ref x0), (1, .int x1), (2, .int x2), (3, .int x3), (4, .int (x4 + 1)), (5, .int x5)]) dX12_odds_72 (by decide) rfl rfl ?_
        refine bv_aload_n dX12_odds_74 0 rfl ?_
        obtain ⟨v8, p9, h⟩ := bu_bd h
        refine bw_callVv (As := []) hN q_0 ⟨_, _, rfl⟩ dX12_odds_75 mc_12_369 (c_X12_back (d := d + 9) hN p9) rfl rfl (by decide) ?_
        refine bv_iinc (j := 5) (v := (x5 + 1)) (ls1 := [(0, .ref x0), (1, .int x1), (2, .int x2), (3, .int x3), (4, .int (x4 + 1)), (5, .int (x5 + 1))]) dX12_odds_78 rfl rfl (by decide) rfl rfl ?_
        refine bv_goto (tgt := 35) dX12_odds_81 (by decide) ?_
        exact ih _ _ _ _ h K0
def f_X12_odds (M : bm_M) (x0 : Nat) (x1 : Int32) (x2 : Int32) (x3 : Int32) : Option (Int32 × bm_M) := (if bm_io x0 11 then ((f_X12_isMan (bm_sI M x0 0 0) x0 x1).bind fun v2 => (if v2 = true then (if (f_X12_isIn x2 1 30) = true then ((f_X12_tries (bm_sI M x0 0 0) x0).bind fun v4 => ((f_X12_odds_l35 x0 x1 x2 x3 1000 0 0 v4).bind fun y8 => some (y8.1, y8.2))) else some ((-1), (bm_sI M x0 0 0))) else some ((-1), (bm_sI M x0 0 0)))) else none)
set_option maxHeartbeats 4000000 in
set_option maxRecDepth 100000 in
theorem c_X12_odds {L : bm_L} {d n : Nat} {M : bm_M} {x0 : Nat} {x1 : Int32} {x2 : Int32} {x3 : Int32} {v : Int32 × bm_M} (hN : 181 ≤ n) (h : f_X12_odds M x0 x1 x2 x3 = some v) : bm_C L m_X12_odds (d + 10) n n [.ref x0, .int x1, .int x2, .int x3] M (fun r M' => r = some (.int v.1) ∧ M' = v.2) := by
  refine bm_C.ofV (by decide) (Nat.le_of_ble_eq_true rfl) ?_
  show bm_V L m_X12_odds (d + 10) n n n 0 [(0, .ref x0), (1, .int x1), (2, .int x2), (3, .int x3)] [] M _
  unfold f_X12_odds at h
  refine bv_aload_n dX12_odds_0 0 rfl ?_
  refine bv_iconst (v := 0) dX12_odds_1 (by decide) ?_
  obtain ⟨q1, h⟩ := bu_io h
  refine bw_putI hN q1 dX12_odds_2 fl_12_1 rfl ?_
  refine bv_aload_n dX12_odds_5 0 rfl ?_
  refine bv_iload_n dX12_odds_6 1 rfl ?_
  obtain ⟨v2, p3, h⟩ := bu_bd h
  refine bw_callV (As := [.int x1]) hN q1 ⟨_, _, rfl⟩ dX12_odds_7 mc_12_303 (c_X12_isMan (d := d + 8) hN p3) rfl rfl (by decide) ?_
  refine bw_ifB_eq (b := v2) (tgt := 23) dX12_odds_10 (by decide) (fun cc => ?_) (fun cc => ?_)
  · replace h := bu_bf h cc
    refine bv_iconst (v := (-1)) dX12_odds_23 (by decide) ?_
    obtain rfl := Option.some.inj h
    exact bv_iret (x := (-1)) dX12_odds_24 rfl ⟨rfl, rfl⟩
  · replace h := bu_bt h cc
    refine bv_iload_n dX12_odds_13 2 rfl ?_
    refine bv_iconst (v := 1) dX12_odds_14 (by decide) ?_
    refine bv_bipush (v := 30) dX12_odds_15 (by decide) ?_
    refine bw_callS (As := [.int x2, .int 1, .int 30]) dX12_odds_17 mc_12_206 (c_X12_isIn (d := d + 9) hN rfl) rfl rfl (by decide) ?_
    refine bw_ifB_ne (b := (f_X12_isIn x2 1 30)) (tgt := 25) dX12_odds_20 (by decide) (fun cc => ?_) (fun cc => ?_)
    · replace h := bu_bt h cc
      refine bv_aload_n dX12_odds_25 0 rfl ?_
      obtain ⟨v4, p5, h⟩ := bu_bd h
      refine bw_callVv (As := []) hN q1 ⟨_, _, rfl⟩ dX12_odds_26 mc_12_366 (c_X12_tries (d := d + 9) hN p5) rfl rfl (by decide) ?_
      refine bv_iconst (v := 0) dX12_odds_29 (by decide) ?_
      refine bv_istore (ls1 := [(0, .ref x0), (1, .int x1), (2, .int x2), (3, .int x3), (4, .int 0)]) dX12_odds_30 (by decide) rfl rfl ?_
      refine bv_iconst (v := 0) dX12_odds_32 (by decide) ?_
      refine bv_istore (ls1 := [(0, .ref x0), (1, .int x1), (2, .int x2), (3, .int x3), (4, .int 0), (5, .int 0)]) dX12_odds_33 (by decide) rfl rfl ?_
      obtain ⟨r6, p7, h⟩ := bu_bd h
      refine v_X12_odds_l35 hN q1 1000 _ _ _ _ p7 (fun y8 hy => ?_)
      · subst hy
        refine bv_iload dX12_odds_84 0 rfl ?_
        obtain rfl := Option.some.inj h
        exact bv_iret (x := y8.1) dX12_odds_86 rfl ⟨rfl, rfl⟩
    · replace h := bu_bf h cc
      refine bv_iconst (v := (-1)) dX12_odds_23 (by decide) ?_
      obtain rfl := Option.some.inj h
      exact bv_iret (x := (-1)) dX12_odds_24 rfl ⟨rfl, rfl⟩
def f_X12_bookLine (M : bm_M) (x0 : Nat) : Option (Bool × bm_M) := (if bm_io x0 11 then ((f_X12_isWord M x0 1752135026).bind fun v2 => (if v2 = true then (if (M.1 x0 34) = 40 then ((f_X12_bad M x0 4).bind fun v50 => some (v50.1, v50.2)) else ((f_X12_next M x0).bind fun v4 => ((v4.2.2 x0 8).bind fun a6 => (if bm_ia a6 0 (3 * (M.1 x0 34)) = true then (if v2 = true then ((f_X12_takes (bm_sI v4 a6 (3 * (M.1 x0 34)).toNatClampNeg 6) x0 1 60).bind fun v45 => (if v45.1 = true then ((v45.2.2.2 x0 8).bind fun a47 => (if bm_ia a47 0 ((3 * (M.1 x0 34)) + 1) = true then some (true, (bm_sI v45.2 a47 ((3 * (M.1 x0 34)) + 1).toNatClampNeg (v45.2.1 x0 18))) else none)) else some (false, v45.2))) else ((f_X12_isOneOf (bm_sI v4 a6 (3 * (M.1 x0 34)).toNatClampNeg 6) x0 11 6).bind fun v9 => (if v9.1 = true then ((f_X12_next v9.2 x0).bind fun v11 => ((v11.2.2 x0 8).bind fun a13 => (if bm_ia a13 0 (3 * (M.1 x0 34)) = true then (if bm_ia a13 0 ((3 * (M.1 x0 34)) + 1) = true then (if (f_X12_isIn (v9.2.1 x0 18) 2 4) = true then some (true, (bm_sI (bm_sI v11 a13 (3 * (M.1 x0 34)).toNatClampNeg (v9.2.1 x0 18)) a13 ((3 * (M.1 x0 34)) + 1).toNatClampNeg (M.1 x0 18))) else (if (v9.2.1 x0 18) = 1 then ((v11.2.2 x0 6).bind fun a37 => (if bm_ia a37 0 1 = true then ((f_X12_takesName (bm_sI (bm_sI v11 a13 (3 * (M.1 x0 34)).toNatClampNeg (v9.2.1 x0 18)) a13 ((3 * (M.1 x0 34)) + 1).toNatClampNeg (M.1 x0 18)) x0 8 ((bm_sI (bm_sI v11 a13 (3 * (M.1 x0 34)).toNatClampNeg (v9.2.1 x0 18)) a13 ((3 * (M.1 x0 34)) + 1).toNatClampNeg (M.1 x0 18)).1 a37 (1 : Int32).toNatClampNeg)).bind fun v40 => (if v40.1 = true then ((v40.2.2.2 x0 8).bind fun a42 => (if bm_ia a42 0 ((3 * (M.1 x0 34)) + 2) = true then some (true, (bm_sI v40.2 a42 ((3 * (M.1 x0 34)) + 2).toNatClampNeg (v40.2.1 x0 18))) else none)) else some (false, v40.2))) else none)) else (if (v9.2.1 x0 18) = 0 then ((f_X12_isOneOf (bm_sI (bm_sI v11 a13 (3 * (M.1 x0 34)).toNatClampNeg (v9.2.1 x0 18)) a13 ((3 * (M.1 x0 34)) + 1).toNatClampNeg (M.1 x0 18)) x0 5 3).bind fun v27 => (if v27.1 = true then ((v27.2.2.2 x0 8).bind fun a29 => (if (v9.2.1 x0 18) = 0 then (if bm_ia a29 0 ((3 * (M.1 x0 34)) + 2) = true then ((f_X12_next (bm_sI v27.2 a29 ((3 * (M.1 x0 34)) + 2).toNatClampNeg ((v27.2.1 x0 18) + 1)) x0).bind fun v35 => some (true, v35)) else none) else (if bm_ia a29 0 ((3 * (M.1 x0 34)) + 2) = true then ((f_X12_next (bm_sI v27.2 a29 ((3 * (M.1 x0 34)) + 2).toNatClampNeg (v27.2.1 x0 18)) x0).bind fun v32 => some (true, v32)) else none))) else some (false, v27.2))) else ((f_X12_isOneOf (bm_sI (bm_sI v11 a13 (3 * (M.1 x0 34)).toNatClampNeg (v9.2.1 x0 18)) a13 ((3 * (M.1 x0 34)) + 1).toNatClampNeg (M.1 x0 18)) x0 17 4).bind fun v17 => (if v17.1 = true then ((v17.2.2.2 x0 8).bind fun a19 => (if (v9.2.1 x0 18) = 0 then (if bm_ia a19 0 ((3 * (M.1 x0 34)) + 2) = true then ((f_X12_next (bm_sI v17.2 a19 ((3 * (M.1 x0 34)) + 2).toNatClampNeg ((v17.2.1 x0 18) + 1)) x0).bind fun v25 => some (true, v25)) else none) else (if bm_ia a19 0 ((3 * (M.1 x0 34)) + 2) = true then ((f_X12_next (bm_sI v17.2 a19 ((3 * (M.1 x0 34)) + 2).toNatClampNeg (v17.2.1 x0 18)) x0).bind fun v22 => some (true, v22)) else none))) else some (false, v17.2)))))) else none) else none))) else some (false, v9.2)))) else none)))) else ((M.2.2 x0 6).bind fun a52 => (if bm_ia a52 0 0 = true then ((f_X12_looksAt M x0 0 (M.1 a52 (0 : Int32).toNatClampNeg)).bind fun v55 => (if v55.1 = true then (if (v55.2.1 x0 34) = 40 then ((f_X12_bad v55.2 x0 4).bind fun v103 => some (v103.1, v103.2)) else ((f_X12_next v55.2 x0).bind fun v57 => ((v57.2.2 x0 8).bind fun a59 => (if bm_ia a59 0 (3 * (M.1 x0 34)) = true then (if v2 = true then ((f_X12_takes (bm_sI v57 a59 (3 * (M.1 x0 34)).toNatClampNeg 6) x0 1 60).bind fun v98 => (if v98.1 = true then ((v98.2.2.2 x0 8).bind fun a100 => (if bm_ia a100 0 ((3 * (M.1 x0 34)) + 1) = true then some (true, (bm_sI v98.2 a100 ((3 * (M.1 x0 34)) + 1).toNatClampNeg (v98.2.1 x0 18))) else none)) else some (false, v98.2))) else ((f_X12_isOneOf (bm_sI v57 a59 (3 * (M.1 x0 34)).toNatClampNeg 6) x0 11 6).bind fun v62 => (if v62.1 = true then ((f_X12_next v62.2 x0).bind fun v64 => ((v64.2.2 x0 8).bind fun a66 => (if bm_ia a66 0 (3 * (M.1 x0 34)) = true then (if bm_ia a66 0 ((3 * (M.1 x0 34)) + 1) = true then (if (f_X12_isIn (v62.2.1 x0 18) 2 4) = true then some (true, (bm_sI (bm_sI v64 a66 (3 * (M.1 x0 34)).toNatClampNeg (v62.2.1 x0 18)) a66 ((3 * (M.1 x0 34)) + 1).toNatClampNeg (v55.2.1 x0 18))) else (if (v62.2.1 x0 18) = 1 then ((v64.2.2 x0 6).bind fun a90 => (if bm_ia a90 0 1 = true then ((f_X12_takesName (bm_sI (bm_sI v64 a66 (3 * (M.1 x0 34)).toNatClampNeg (v62.2.1 x0 18)) a66 ((3 * (M.1 x0 34)) + 1).toNatClampNeg (v55.2.1 x0 18)) x0 8 ((bm_sI (bm_sI v64 a66 (3 * (M.1 x0 34)).toNatClampNeg (v62.2.1 x0 18)) a66 ((3 * (M.1 x0 34)) + 1).toNatClampNeg (v55.2.1 x0 18)).1 a90 (1 : Int32).toNatClampNeg)).bind fun v93 => (if v93.1 = true then ((v93.2.2.2 x0 8).bind fun a95 => (if bm_ia a95 0 ((3 * (M.1 x0 34)) + 2) = true then some (true, (bm_sI v93.2 a95 ((3 * (M.1 x0 34)) + 2).toNatClampNeg (v93.2.1 x0 18))) else none)) else some (false, v93.2))) else none)) else (if (v62.2.1 x0 18) = 0 then ((f_X12_isOneOf (bm_sI (bm_sI v64 a66 (3 * (M.1 x0 34)).toNatClampNeg (v62.2.1 x0 18)) a66 ((3 * (M.1 x0 34)) + 1).toNatClampNeg (v55.2.1 x0 18)) x0 5 3).bind fun v80 => (if v80.1 = true then ((v80.2.2.2 x0 8).bind fun a82 => (if (v62.2.1 x0 18) = 0 then (if bm_ia a82 0 ((3 * (M.1 x0 34)) + 2) = true then ((f_X12_next (bm_sI v80.2 a82 ((3 * (M.1 x0 34)) + 2).toNatClampNeg ((v80.2.1 x0 18) + 1)) x0).bind fun v88 => some (true, v88)) else none) else (if bm_ia a82 0 ((3 * (M.1 x0 34)) + 2) = true then ((f_X12_next (bm_sI v80.2 a82 ((3 * (M.1 x0 34)) + 2).toNatClampNeg (v80.2.1 x0 18)) x0).bind fun v85 => some (true, v85)) else none))) else some (false, v80.2))) else ((f_X12_isOneOf (bm_sI (bm_sI v64 a66 (3 * (M.1 x0 34)).toNatClampNeg (v62.2.1 x0 18)) a66 ((3 * (M.1 x0 34)) + 1).toNatClampNeg (v55.2.1 x0 18)) x0 17 4).bind fun v70 => (if v70.1 = true then ((v70.2.2.2 x0 8).bind fun a72 => (if (v62.2.1 x0 18) = 0 then (if bm_ia a72 0 ((3 * (M.1 x0 34)) + 2) = true then ((f_X12_next (bm_sI v70.2 a72 ((3 * (M.1 x0 34)) + 2).toNatClampNeg ((v70.2.1 x0 18) + 1)) x0).bind fun v78 => some (true, v78)) else none) else (if bm_ia a72 0 ((3 * (M.1 x0 34)) + 2) = true then ((f_X12_next (bm_sI v70.2 a72 ((3 * (M.1 x0 34)) + 2).toNatClampNeg (v70.2.1 x0 18)) x0).bind fun v75 => some (true, v75)) else none))) else some (false, v70.2)))))) else none) else none))) else some (false, v62.2)))) else none)))) else some (false, v55.2))) else none)))) else none)
set_option maxHeartbeats 4000000 in
set_option maxRecDepth 100000 in
theorem c_X12_bookLine {L : bm_L} {d n : Nat} {M : bm_M} {x0 : Nat} {v : Bool × bm_M} (hN : 181 ≤ n) (h : f_X12_bookLine M x0 = some v) : bm_C L m_X12_bookLine (d + 3) n n [.ref x0] M (fun r M' => r = some (.int (bm_bi v.1)) ∧ M' = v.2) := by
  refine bm_C.ofV (by decide) (Nat.le_of_ble_eq_true rfl) ?_
  show bm_V L m_X12_bookLine (d + 3) n n n 0 [(0, .ref x0)] [] M _
  unfold f_X12_bookLine at h
  refine bv_iconst (v := 3) dX12_bookLine_0 (by decide) ?_
  refine bv_aload_n dX12_bookLine_1 0 rfl ?_
  obtain ⟨q1, h⟩ := bu_io h
  refine bw_getI hN q1 dX12_bookLine_2 fl_12_435 rfl ?_
  refine bv_imul dX12_bookLine_5 ?_
  refine bv_istore_n (ls1 := [(0, .ref x0), (1, .int (3 * (M.1 x0 34)))]) dX12_bookLine_6 (by decide) rfl rfl ?_
  refine bv_aload_n dX12_bookLine_7 0 rfl ?_
  refine bv_ldc2 (v := 1752135026) dX12_bookLine_8 cst_12_135 ?_
  obtain ⟨v2, p3, h⟩ := bu_bd h
  refine bw_callV (As := [.long 1752135026]) hN q1 ⟨_, _, rfl⟩ dX12_bookLine_11 mc_12_237 (c_X12_isWord (d := d + 2) hN p3) rfl rfl (by decide) ?_
  refine bv_istore_n (ls1 := [(0, .ref x0), (1, .int (3 * (M.1 x0 34))), (2, .int (bm_bi v2))]) dX12_bookLine_14 (by decide) rfl rfl ?_
  refine bv_iload_n dX12_bookLine_15 2 rfl ?_
  refine bw_ifB_ne (b := v2) (tgt := 35) dX12_bookLine_16 (by decide) (fun cc => ?_) (fun cc => ?_)
  · replace h := bu_bt h cc
    refine bv_aload_n dX12_bookLine_35 0 rfl ?_
    refine bw_getI hN q1 dX12_bookLine_36 fl_12_435 rfl ?_
    refine bv_bipush (v := 40) dX12_bookLine_39 (by decide) ?_
    refine bv_icmp_ne (tgt := 50) dX12_bookLine_41 (by decide) (fun cc => ?_) (fun cc => ?_)
    · replace h := bu_f h cc
      refine bv_aload_n dX12_bookLine_50 0 rfl ?_
      refine bw_getI hN q1 dX12_bookLine_51 fl_12_210 rfl ?_
      refine bv_istore_n (ls1 := [(0, .ref x0), (1, .int (3 * (M.1 x0 34))), (2, .int (bm_bi v2)), (3, .int (M.1 x0 18))]) dX12_bookLine_54 (by decide) rfl rfl ?_
      refine bv_aload_n dX12_bookLine_55 0 rfl ?_
      obtain ⟨v4, p5, h⟩ := bu_bd h
      refine bw_callVv (As := []) hN q1 ⟨_, _, rfl⟩ dX12_bookLine_56 mc_12_203 (c_X12_next (d := d + 1) hN p5) rfl rfl (by decide) ?_
      refine bv_aload_n dX12_bookLine_59 0 rfl ?_
      obtain ⟨a6, e7, h⟩ := bu_bd h
      refine bw_getA (a := a6) hN q1 e7 dX12_bookLine_60 fl_12_40 rfl ?_
      refine bv_iload_n dX12_bookLine_63 1 rfl ?_
      refine bv_bipush (v := 6) dX12_bookLine_64 (by decide) ?_
      obtain ⟨r8, h⟩ := bu_ia h
      refine bw_iast hN r8 dX12_bookLine_66 ?_
      refine bv_iload_n dX12_bookLine_67 2 rfl ?_
      refine bw_ifB_eq (b := v2) (tgt := 97) dX12_bookLine_68 (by decide) (fun cc => ?_) (fun cc => ?_)
      · replace h := bu_bf h cc
        refine bv_aload_n dX12_bookLine_97 0 rfl ?_
        refine bv_bipush (v := 11) dX12_bookLine_98 (by decide) ?_
        refine bv_bipush (v := 6) dX12_bookLine_100 (by decide) ?_
        obtain ⟨v9, p10, h⟩ := bu_bd h
        refine bw_callV (As := [.int 11, .int 6]) hN q1 ⟨_, _, rfl⟩ dX12_bookLine_102 mc_12_261 (c_X12_isOneOf (d := d + 1) hN p10) rfl rfl (by decide) ?_
        refine bw_ifB_ne (b := v9.1) (tgt := 110) dX12_bookLine_105 (by decide) (fun cc => ?_) (fun cc => ?_)
        · replace h := bu_bt h cc
          refine bv_aload_n dX12_bookLine_110 0 rfl ?_
          refine bw_getI hN q1 dX12_bookLine_111 fl_12_210 rfl ?_
          refine bv_istore (ls1 := [(0, .ref x0), (1, .int (3 * (M.1 x0 34))), (2, .int (bm_bi v2)), (3, .int (M.1 x0 18)), (4, .int (v9.2.1 x0 18))]) dX12_bookLine_114 (by decide) rfl rfl ?_
          refine bv_aload_n dX12_bookLine_116 0 rfl ?_
          obtain ⟨v11, p12, h⟩ := bu_bd h
          refine bw_callVv (As := []) hN q1 ⟨_, _, rfl⟩ dX12_bookLine_117 mc_12_203 (c_X12_next (d := d + 1) hN p12) rfl rfl (by decide) ?_
          refine bv_aload_n dX12_bookLine_120 0 rfl ?_
          obtain ⟨a13, e14, h⟩ := bu_bd h
          refine bw_getA (a := a13) hN q1 e14 dX12_bookLine_121 fl_12_40 rfl ?_
          refine bv_iload_n dX12_bookLine_124 1 rfl ?_
          refine bv_iload dX12_bookLine_125 4 rfl ?_
          obtain ⟨r15, h⟩ := bu_ia h
          refine bw_iast hN r15 dX12_bookLine_127 ?_
          refine bv_aload_n dX12_bookLine_128 0 rfl ?_
          refine bw_getA (a := a13) hN q1 e14 dX12_bookLine_129 fl_12_40 rfl ?_
          refine bv_iload_n dX12_bookLine_132 1 rfl ?_
          refine bv_iconst (v := 1) dX12_bookLine_133 (by decide) ?_
          refine bv_iadd dX12_bookLine_134 ?_
          refine bv_iload_n dX12_bookLine_135 3 rfl ?_
          obtain ⟨r16, h⟩ := bu_ia h
          refine bw_iast hN r16 dX12_bookLine_136 ?_
          refine bv_iload dX12_bookLine_137 4 rfl ?_
          refine bv_iconst (v := 2) dX12_bookLine_139 (by decide) ?_
          refine bv_iconst (v := 4) dX12_bookLine_140 (by decide) ?_
          refine bw_callS (As := [.int (v9.2.1 x0 18), .int 2, .int 4]) dX12_bookLine_141 mc_12_206 (c_X12_isIn (d := d + 2) hN rfl) rfl rfl (by decide) ?_
          refine bw_ifB_eq (b := (f_X12_isIn (v9.2.1 x0 18) 2 4)) (tgt := 149) dX12_bookLine_144 (by decide) (fun cc => ?_) (fun cc => ?_)
          · replace h := bu_bf h cc
            refine bv_iload dX12_bookLine_149 4 rfl ?_
            refine bv_iconst (v := 1) dX12_bookLine_151 (by decide) ?_
            refine bv_icmp_ne (tgt := 186) dX12_bookLine_152 (by decide) (fun cc => ?_) (fun cc => ?_)
            · replace h := bu_f h cc
              refine bv_iload dX12_bookLine_186 4 rfl ?_
              refine bv_if_ne (tgt := 200) dX12_bookLine_188 (by decide) (fun cc => ?_) (fun cc => ?_)
              · replace h := bu_f h cc
                refine bv_aload_n dX12_bookLine_200 0 rfl ?_
                refine bv_bipush (v := 17) dX12_bookLine_201 (by decide) ?_
                refine bv_iconst (v := 4) dX12_bookLine_203 (by decide) ?_
                obtain ⟨v17, p18, h⟩ := bu_bd h
                refine bw_callV (As := [.int 17, .int 4]) hN q1 ⟨_, _, rfl⟩ dX12_bookLine_204 mc_12_261 (c_X12_isOneOf (d := d + 1) hN p18) rfl rfl (by decide) ?_
                refine bv_istore (ls1 := [(0, .ref x0), (1, .int (3 * (M.1 x0 34))), (2, .int (bm_bi v2)), (3, .int (M.1 x0 18)), (4, .int (v9.2.1 x0 18)), (5, .int (bm_bi v17.1))]) dX12_bookLine_207 (by decide) rfl rfl ?_
                refine bv_iload dX12_bookLine_209 5 rfl ?_
                refine bw_ifB_ne (b := v17.1) (tgt := 216) dX12_bookLine_211 (by decide) (fun cc => ?_) (fun cc => ?_)
                · replace h := bu_bt h cc
                  refine bv_aload_n dX12_bookLine_216 0 rfl ?_
                  obtain ⟨a19, e20, h⟩ := bu_bd h
                  refine bw_getA (a := a19) hN q1 e20 dX12_bookLine_217 fl_12_40 rfl ?_
                  refine bv_iload_n dX12_bookLine_220 1 rfl ?_
                  refine bv_iconst (v := 2) dX12_bookLine_221 (by decide) ?_
                  refine bv_iadd dX12_bookLine_222 ?_
                  refine bv_iload dX12_bookLine_223 4 rfl ?_
                  refine bv_if_ne (tgt := 237) dX12_bookLine_225 (by decide) (fun cc => ?_) (fun cc => ?_)
                  · replace h := bu_f h cc
                    refine bv_aload_n dX12_bookLine_237 0 rfl ?_
                    refine bw_getI hN q1 dX12_bookLine_238 fl_12_210 rfl ?_
                    obtain ⟨r21, h⟩ := bu_ia h
                    refine bw_iast hN r21 dX12_bookLine_241 ?_
                    refine bv_aload_n dX12_bookLine_242 0 rfl ?_
                    obtain ⟨v22, p23, h⟩ := bu_bd h
                    refine bw_callVv (As := []) hN q1 ⟨_, _, rfl⟩ dX12_bookLine_243 mc_12_203 (c_X12_next (d := d + 1) hN p23) rfl rfl (by decide) ?_
                    refine bv_iconst (v := 1) dX12_bookLine_246 (by decide) ?_
                    obtain rfl := Option.some.inj h
                    exact bw_bret (b := true) dX12_bookLine_247 rfl ⟨rfl, rfl⟩
                  · replace h := bu_t h cc
                    refine bv_aload_n dX12_bookLine_228 0 rfl ?_
                    refine bw_getI hN q1 dX12_bookLine_229 fl_12_210 rfl ?_
                    refine bv_iconst (v := 1) dX12_bookLine_232 (by decide) ?_
                    refine bv_iadd dX12_bookLine_233 ?_
                    refine bv_goto (tgt := 241) dX12_bookLine_234 (by decide) ?_
                    obtain ⟨r24, h⟩ := bu_ia h
                    refine bw_iast hN r24 dX12_bookLine_241 ?_
                    refine bv_aload_n dX12_bookLine_242 0 rfl ?_
                    obtain ⟨v25, p26, h⟩ := bu_bd h
                    refine bw_callVv (As := []) hN q1 ⟨_, _, rfl⟩ dX12_bookLine_243 mc_12_203 (c_X12_next (d := d + 1) hN p26) rfl rfl (by decide) ?_
                    refine bv_iconst (v := 1) dX12_bookLine_246 (by decide) ?_
                    obtain rfl := Option.some.inj h
                    exact bw_bret (b := true) dX12_bookLine_247 rfl ⟨rfl, rfl⟩
                · replace h := bu_bf h cc
                  refine bv_iconst (v := 0) dX12_bookLine_214 (by decide) ?_
                  obtain rfl := Option.some.inj h
                  exact bw_bret (b := false) dX12_bookLine_215 rfl ⟨rfl, rfl⟩
              · replace h := bu_t h cc
                refine bv_aload_n dX12_bookLine_191 0 rfl ?_
                refine bv_iconst (v := 5) dX12_bookLine_192 (by decide) ?_
                refine bv_iconst (v := 3) dX12_bookLine_193 (by decide) ?_
                obtain ⟨v27, p28, h⟩ := bu_bd h
                refine bw_callV (As := [.int 5, .int 3]) hN q1 ⟨_, _, rfl⟩ dX12_bookLine_194 mc_12_261 (c_X12_isOneOf (d := d + 1) hN p28) rfl rfl (by decide) ?_
                refine bv_goto (tgt := 207) dX12_bookLine_197 (by decide) ?_
                refine bv_istore (ls1 := [(0, .ref x0), (1, .int (3 * (M.1 x0 34))), (2, .int (bm_bi v2)), (3, .int (M.1 x0 18)), (4, .int (v9.2.1 x0 18)), (5, .int (bm_bi v27.1))]) dX12_bookLine_207 (by decide) rfl rfl ?_
                refine bv_iload dX12_bookLine_209 5 rfl ?_
                refine bw_ifB_ne (b := v27.1) (tgt := 216) dX12_bookLine_211 (by decide) (fun cc => ?_) (fun cc => ?_)
                · replace h := bu_bt h cc
                  refine bv_aload_n dX12_bookLine_216 0 rfl ?_
                  obtain ⟨a29, e30, h⟩ := bu_bd h
                  refine bw_getA (a := a29) hN q1 e30 dX12_bookLine_217 fl_12_40 rfl ?_
                  refine bv_iload_n dX12_bookLine_220 1 rfl ?_
                  refine bv_iconst (v := 2) dX12_bookLine_221 (by decide) ?_
                  refine bv_iadd dX12_bookLine_222 ?_
                  refine bv_iload dX12_bookLine_223 4 rfl ?_
                  refine bv_if_ne (tgt := 237) dX12_bookLine_225 (by decide) (fun cc => ?_) (fun cc => ?_)
                  · replace h := bu_f h cc
                    refine bv_aload_n dX12_bookLine_237 0 rfl ?_
                    refine bw_getI hN q1 dX12_bookLine_238 fl_12_210 rfl ?_
                    obtain ⟨r31, h⟩ := bu_ia h
                    refine bw_iast hN r31 dX12_bookLine_241 ?_
                    refine bv_aload_n dX12_bookLine_242 0 rfl ?_
                    obtain ⟨v32, p33, h⟩ := bu_bd h
                    refine bw_callVv (As := []) hN q1 ⟨_, _, rfl⟩ dX12_bookLine_243 mc_12_203 (c_X12_next (d := d + 1) hN p33) rfl rfl (by decide) ?_
                    refine bv_iconst (v := 1) dX12_bookLine_246 (by decide) ?_
                    obtain rfl := Option.some.inj h
                    exact bw_bret (b := true) dX12_bookLine_247 rfl ⟨rfl, rfl⟩
                  · replace h := bu_t h cc
                    refine bv_aload_n dX12_bookLine_228 0 rfl ?_
                    refine bw_getI hN q1 dX12_bookLine_229 fl_12_210 rfl ?_
                    refine bv_iconst (v := 1) dX12_bookLine_232 (by decide) ?_
                    refine bv_iadd dX12_bookLine_233 ?_
                    refine bv_goto (tgt := 241) dX12_bookLine_234 (by decide) ?_
                    obtain ⟨r34, h⟩ := bu_ia h
                    refine bw_iast hN r34 dX12_bookLine_241 ?_
                    refine bv_aload_n dX12_bookLine_242 0 rfl ?_
                    obtain ⟨v35, p36, h⟩ := bu_bd h
                    refine bw_callVv (As := []) hN q1 ⟨_, _, rfl⟩ dX12_bookLine_243 mc_12_203 (c_X12_next (d := d + 1) hN p36) rfl rfl (by decide) ?_
                    refine bv_iconst (v := 1) dX12_bookLine_246 (by decide) ?_
                    obtain rfl := Option.some.inj h
                    exact bw_bret (b := true) dX12_bookLine_247 rfl ⟨rfl, rfl⟩
                · replace h := bu_bf h cc
                  refine bv_iconst (v := 0) dX12_bookLine_214 (by decide) ?_
                  obtain rfl := Option.some.inj h
                  exact bw_bret (b := false) dX12_bookLine_215 rfl ⟨rfl, rfl⟩
            · replace h := bu_t h cc
              refine bv_aload_n dX12_bookLine_155 0 rfl ?_
              refine bv_bipush (v := 8) dX12_bookLine_156 (by decide) ?_
              refine bv_aload_n dX12_bookLine_158 0 rfl ?_
              obtain ⟨a37, e38, h⟩ := bu_bd h
              refine bw_getA (a := a37) hN q1 e38 dX12_bookLine_159 fl_12_33 rfl ?_
              refine bv_iconst (v := 1) dX12_bookLine_162 (by decide) ?_
              obtain ⟨r39, h⟩ := bu_ia h
              refine bw_iald hN r39 dX12_bookLine_163 ?_
              obtain ⟨v40, p41, h⟩ := bu_bd h
              refine bw_callV (As := [.int 8, .int ((bm_sI (bm_sI v11 a13 (3 * (M.1 x0 34)).toNatClampNeg (v9.2.1 x0 18)) a13 ((3 * (M.1 x0 34)) + 1).toNatClampNeg (M.1 x0 18)).1 a37 (1 : Int32).toNatClampNeg)]) hN q1 ⟨_, _, rfl⟩ dX12_bookLine_164 mc_12_438 (c_X12_takesName (d := d + 0) hN p41) rfl rfl (by decide) ?_
              refine bw_ifB_ne (b := v40.1) (tgt := 172) dX12_bookLine_167 (by decide) (fun cc => ?_) (fun cc => ?_)
              · replace h := bu_bt h cc
                refine bv_aload_n dX12_bookLine_172 0 rfl ?_
                obtain ⟨a42, e43, h⟩ := bu_bd h
                refine bw_getA (a := a42) hN q1 e43 dX12_bookLine_173 fl_12_40 rfl ?_
                refine bv_iload_n dX12_bookLine_176 1 rfl ?_
                refine bv_iconst (v := 2) dX12_bookLine_177 (by decide) ?_
                refine bv_iadd dX12_bookLine_178 ?_
                refine bv_aload_n dX12_bookLine_179 0 rfl ?_
                refine bw_getI hN q1 dX12_bookLine_180 fl_12_210 rfl ?_
                obtain ⟨r44, h⟩ := bu_ia h
                refine bw_iast hN r44 dX12_bookLine_183 ?_
                refine bv_iconst (v := 1) dX12_bookLine_184 (by decide) ?_
                obtain rfl := Option.some.inj h
                exact bw_bret (b := true) dX12_bookLine_185 rfl ⟨rfl, rfl⟩
              · replace h := bu_bf h cc
                refine bv_iconst (v := 0) dX12_bookLine_170 (by decide) ?_
                obtain rfl := Option.some.inj h
                exact bw_bret (b := false) dX12_bookLine_171 rfl ⟨rfl, rfl⟩
          · replace h := bu_bt h cc
            refine bv_iconst (v := 1) dX12_bookLine_147 (by decide) ?_
            obtain rfl := Option.some.inj h
            exact bw_bret (b := true) dX12_bookLine_148 rfl ⟨rfl, rfl⟩
        · replace h := bu_bf h cc
          refine bv_iconst (v := 0) dX12_bookLine_108 (by decide) ?_
          obtain rfl := Option.some.inj h
          exact bw_bret (b := false) dX12_bookLine_109 rfl ⟨rfl, rfl⟩
      · replace h := bu_bt h cc
        refine bv_aload_n dX12_bookLine_71 0 rfl ?_
        refine bv_iconst (v := 1) dX12_bookLine_72 (by decide) ?_
        refine bv_bipush (v := 60) dX12_bookLine_73 (by decide) ?_
        obtain ⟨v45, p46, h⟩ := bu_bd h
        refine bw_callV (As := [.int 1, .int 60]) hN q1 ⟨_, _, rfl⟩ dX12_bookLine_75 mc_12_213 (c_X12_takes (d := d + 0) hN p46) rfl rfl (by decide) ?_
        refine bw_ifB_ne (b := v45.1) (tgt := 83) dX12_bookLine_78 (by decide) (fun cc => ?_) (fun cc => ?_)
        · replace h := bu_bt h cc
          refine bv_aload_n dX12_bookLine_83 0 rfl ?_
          obtain ⟨a47, e48, h⟩ := bu_bd h
          refine bw_getA (a := a47) hN q1 e48 dX12_bookLine_84 fl_12_40 rfl ?_
          refine bv_iload_n dX12_bookLine_87 1 rfl ?_
          refine bv_iconst (v := 1) dX12_bookLine_88 (by decide) ?_
          refine bv_iadd dX12_bookLine_89 ?_
          refine bv_aload_n dX12_bookLine_90 0 rfl ?_
          refine bw_getI hN q1 dX12_bookLine_91 fl_12_210 rfl ?_
          obtain ⟨r49, h⟩ := bu_ia h
          refine bw_iast hN r49 dX12_bookLine_94 ?_
          refine bv_iconst (v := 1) dX12_bookLine_95 (by decide) ?_
          obtain rfl := Option.some.inj h
          exact bw_bret (b := true) dX12_bookLine_96 rfl ⟨rfl, rfl⟩
        · replace h := bu_bf h cc
          refine bv_iconst (v := 0) dX12_bookLine_81 (by decide) ?_
          obtain rfl := Option.some.inj h
          exact bw_bret (b := false) dX12_bookLine_82 rfl ⟨rfl, rfl⟩
    · replace h := bu_t h cc
      refine bv_aload_n dX12_bookLine_44 0 rfl ?_
      refine bv_iconst (v := 4) dX12_bookLine_45 (by decide) ?_
      obtain ⟨v50, p51, h⟩ := bu_bd h
      refine bw_callV (As := [.int 4]) hN q1 ⟨_, _, rfl⟩ dX12_bookLine_46 mc_12_200 (c_X12_bad (d := d + 2) hN p51) rfl rfl (by decide) ?_
      obtain rfl := Option.some.inj h
      exact bw_bret (b := v50.1) dX12_bookLine_49 rfl ⟨rfl, rfl⟩
  · replace h := bu_bf h cc
    refine bv_aload_n dX12_bookLine_19 0 rfl ?_
    refine bv_iconst (v := 0) dX12_bookLine_20 (by decide) ?_
    refine bv_aload_n dX12_bookLine_21 0 rfl ?_
    obtain ⟨a52, e53, h⟩ := bu_bd h
    refine bw_getA (a := a52) hN q1 e53 dX12_bookLine_22 fl_12_33 rfl ?_
    refine bv_iconst (v := 0) dX12_bookLine_25 (by decide) ?_
    obtain ⟨r54, h⟩ := bu_ia h
    refine bw_iald hN r54 dX12_bookLine_26 ?_
    obtain ⟨v55, p56, h⟩ := bu_bd h
    refine bw_callV (As := [.int 0, .int (M.1 a52 (0 : Int32).toNatClampNeg)]) hN q1 ⟨_, _, rfl⟩ dX12_bookLine_27 mc_12_225 (c_X12_looksAt (d := d + 1) hN p56) rfl rfl (by decide) ?_
    refine bw_ifB_ne (b := v55.1) (tgt := 35) dX12_bookLine_30 (by decide) (fun cc => ?_) (fun cc => ?_)
    · replace h := bu_bt h cc
      refine bv_aload_n dX12_bookLine_35 0 rfl ?_
      refine bw_getI hN q1 dX12_bookLine_36 fl_12_435 rfl ?_
      refine bv_bipush (v := 40) dX12_bookLine_39 (by decide) ?_
      refine bv_icmp_ne (tgt := 50) dX12_bookLine_41 (by decide) (fun cc => ?_) (fun cc => ?_)
      · replace h := bu_f h cc
        refine bv_aload_n dX12_bookLine_50 0 rfl ?_
        refine bw_getI hN q1 dX12_bookLine_51 fl_12_210 rfl ?_
        refine bv_istore_n (ls1 := [(0, .ref x0), (1, .int (3 * (M.1 x0 34))), (2, .int (bm_bi v2)), (3, .int (v55.2.1 x0 18))]) dX12_bookLine_54 (by decide) rfl rfl ?_
        refine bv_aload_n dX12_bookLine_55 0 rfl ?_
        obtain ⟨v57, p58, h⟩ := bu_bd h
        refine bw_callVv (As := []) hN q1 ⟨_, _, rfl⟩ dX12_bookLine_56 mc_12_203 (c_X12_next (d := d + 1) hN p58) rfl rfl (by decide) ?_
        refine bv_aload_n dX12_bookLine_59 0 rfl ?_
        obtain ⟨a59, e60, h⟩ := bu_bd h
        refine bw_getA (a := a59) hN q1 e60 dX12_bookLine_60 fl_12_40 rfl ?_
        refine bv_iload_n dX12_bookLine_63 1 rfl ?_
        refine bv_bipush (v := 6) dX12_bookLine_64 (by decide) ?_
        obtain ⟨r61, h⟩ := bu_ia h
        refine bw_iast hN r61 dX12_bookLine_66 ?_
        refine bv_iload_n dX12_bookLine_67 2 rfl ?_
        refine bw_ifB_eq (b := v2) (tgt := 97) dX12_bookLine_68 (by decide) (fun cc => ?_) (fun cc => ?_)
        · replace h := bu_bf h cc
          refine bv_aload_n dX12_bookLine_97 0 rfl ?_
          refine bv_bipush (v := 11) dX12_bookLine_98 (by decide) ?_
          refine bv_bipush (v := 6) dX12_bookLine_100 (by decide) ?_
          obtain ⟨v62, p63, h⟩ := bu_bd h
          refine bw_callV (As := [.int 11, .int 6]) hN q1 ⟨_, _, rfl⟩ dX12_bookLine_102 mc_12_261 (c_X12_isOneOf (d := d + 1) hN p63) rfl rfl (by decide) ?_
          refine bw_ifB_ne (b := v62.1) (tgt := 110) dX12_bookLine_105 (by decide) (fun cc => ?_) (fun cc => ?_)
          · replace h := bu_bt h cc
            refine bv_aload_n dX12_bookLine_110 0 rfl ?_
            refine bw_getI hN q1 dX12_bookLine_111 fl_12_210 rfl ?_
            refine bv_istore (ls1 := [(0, .ref x0), (1, .int (3 * (M.1 x0 34))), (2, .int (bm_bi v2)), (3, .int (v55.2.1 x0 18)), (4, .int (v62.2.1 x0 18))]) dX12_bookLine_114 (by decide) rfl rfl ?_
            refine bv_aload_n dX12_bookLine_116 0 rfl ?_
            obtain ⟨v64, p65, h⟩ := bu_bd h
            refine bw_callVv (As := []) hN q1 ⟨_, _, rfl⟩ dX12_bookLine_117 mc_12_203 (c_X12_next (d := d + 1) hN p65) rfl rfl (by decide) ?_
            refine bv_aload_n dX12_bookLine_120 0 rfl ?_
            obtain ⟨a66, e67, h⟩ := bu_bd h
            refine bw_getA (a := a66) hN q1 e67 dX12_bookLine_121 fl_12_40 rfl ?_
            refine bv_iload_n dX12_bookLine_124 1 rfl ?_
            refine bv_iload dX12_bookLine_125 4 rfl ?_
            obtain ⟨r68, h⟩ := bu_ia h
            refine bw_iast hN r68 dX12_bookLine_127 ?_
            refine bv_aload_n dX12_bookLine_128 0 rfl ?_
            refine bw_getA (a := a66) hN q1 e67 dX12_bookLine_129 fl_12_40 rfl ?_
            refine bv_iload_n dX12_bookLine_132 1 rfl ?_
            refine bv_iconst (v := 1) dX12_bookLine_133 (by decide) ?_
            refine bv_iadd dX12_bookLine_134 ?_
            refine bv_iload_n dX12_bookLine_135 3 rfl ?_
            obtain ⟨r69, h⟩ := bu_ia h
            refine bw_iast hN r69 dX12_bookLine_136 ?_
            refine bv_iload dX12_bookLine_137 4 rfl ?_
            refine bv_iconst (v := 2) dX12_bookLine_139 (by decide) ?_
            refine bv_iconst (v := 4) dX12_bookLine_140 (by decide) ?_
            refine bw_callS (As := [.int (v62.2.1 x0 18), .int 2, .int 4]) dX12_bookLine_141 mc_12_206 (c_X12_isIn (d := d + 2) hN rfl) rfl rfl (by decide) ?_
            refine bw_ifB_eq (b := (f_X12_isIn (v62.2.1 x0 18) 2 4)) (tgt := 149) dX12_bookLine_144 (by decide) (fun cc => ?_) (fun cc => ?_)
            · replace h := bu_bf h cc
              refine bv_iload dX12_bookLine_149 4 rfl ?_
              refine bv_iconst (v := 1) dX12_bookLine_151 (by decide) ?_
              refine bv_icmp_ne (tgt := 186) dX12_bookLine_152 (by decide) (fun cc => ?_) (fun cc => ?_)
              · replace h := bu_f h cc
                refine bv_iload dX12_bookLine_186 4 rfl ?_
                refine bv_if_ne (tgt := 200) dX12_bookLine_188 (by decide) (fun cc => ?_) (fun cc => ?_)
                · replace h := bu_f h cc
                  refine bv_aload_n dX12_bookLine_200 0 rfl ?_
                  refine bv_bipush (v := 17) dX12_bookLine_201 (by decide) ?_
                  refine bv_iconst (v := 4) dX12_bookLine_203 (by decide) ?_
                  obtain ⟨v70, p71, h⟩ := bu_bd h
                  refine bw_callV (As := [.int 17, .int 4]) hN q1 ⟨_, _, rfl⟩ dX12_bookLine_204 mc_12_261 (c_X12_isOneOf (d := d + 1) hN p71) rfl rfl (by decide) ?_
                  refine bv_istore (ls1 := [(0, .ref x0), (1, .int (3 * (M.1 x0 34))), (2, .int (bm_bi v2)), (3, .int (v55.2.1 x0 18)), (4, .int (v62.2.1 x0 18)), (5, .int (bm_bi v70.1))]) dX12_bookLine_207 (by decide) rfl rfl ?_
                  refine bv_iload dX12_bookLine_209 5 rfl ?_
                  refine bw_ifB_ne (b := v70.1) (tgt := 216) dX12_bookLine_211 (by decide) (fun cc => ?_) (fun cc => ?_)
                  · replace h := bu_bt h cc
                    refine bv_aload_n dX12_bookLine_216 0 rfl ?_
                    obtain ⟨a72, e73, h⟩ := bu_bd h
                    refine bw_getA (a := a72) hN q1 e73 dX12_bookLine_217 fl_12_40 rfl ?_
                    refine bv_iload_n dX12_bookLine_220 1 rfl ?_
                    refine bv_iconst (v := 2) dX12_bookLine_221 (by decide) ?_
                    refine bv_iadd dX12_bookLine_222 ?_
                    refine bv_iload dX12_bookLine_223 4 rfl ?_
                    refine bv_if_ne (tgt := 237) dX12_bookLine_225 (by decide) (fun cc => ?_) (fun cc => ?_)
                    · replace h := bu_f h cc
                      refine bv_aload_n dX12_bookLine_237 0 rfl ?_
                      refine bw_getI hN q1 dX12_bookLine_238 fl_12_210 rfl ?_
                      obtain ⟨r74, h⟩ := bu_ia h
                      refine bw_iast hN r74 dX12_bookLine_241 ?_
                      refine bv_aload_n dX12_bookLine_242 0 rfl ?_
                      obtain ⟨v75, p76, h⟩ := bu_bd h
                      refine bw_callVv (As := []) hN q1 ⟨_, _, rfl⟩ dX12_bookLine_243 mc_12_203 (c_X12_next (d := d + 1) hN p76) rfl rfl (by decide) ?_
                      refine bv_iconst (v := 1) dX12_bookLine_246 (by decide) ?_
                      obtain rfl := Option.some.inj h
                      exact bw_bret (b := true) dX12_bookLine_247 rfl ⟨rfl, rfl⟩
                    · replace h := bu_t h cc
                      refine bv_aload_n dX12_bookLine_228 0 rfl ?_
                      refine bw_getI hN q1 dX12_bookLine_229 fl_12_210 rfl ?_
                      refine bv_iconst (v := 1) dX12_bookLine_232 (by decide) ?_
                      refine bv_iadd dX12_bookLine_233 ?_
                      refine bv_goto (tgt := 241) dX12_bookLine_234 (by decide) ?_
                      obtain ⟨r77, h⟩ := bu_ia h
                      refine bw_iast hN r77 dX12_bookLine_241 ?_
                      refine bv_aload_n dX12_bookLine_242 0 rfl ?_
                      obtain ⟨v78, p79, h⟩ := bu_bd h
                      refine bw_callVv (As := []) hN q1 ⟨_, _, rfl⟩ dX12_bookLine_243 mc_12_203 (c_X12_next (d := d + 1) hN p79) rfl rfl (by decide) ?_
                      refine bv_iconst (v := 1) dX12_bookLine_246 (by decide) ?_
                      obtain rfl := Option.some.inj h
                      exact bw_bret (b := true) dX12_bookLine_247 rfl ⟨rfl, rfl⟩
                  · replace h := bu_bf h cc
                    refine bv_iconst (v := 0) dX12_bookLine_214 (by decide) ?_
                    obtain rfl := Option.some.inj h
                    exact bw_bret (b := false) dX12_bookLine_215 rfl ⟨rfl, rfl⟩
                · replace h := bu_t h cc
                  refine bv_aload_n dX12_bookLine_191 0 rfl ?_
                  refine bv_iconst (v := 5) dX12_bookLine_192 (by decide) ?_
                  refine bv_iconst (v := 3) dX12_bookLine_193 (by decide) ?_
                  obtain ⟨v80, p81, h⟩ := bu_bd h
                  refine bw_callV (As := [.int 5, .int 3]) hN q1 ⟨_, _, rfl⟩ dX12_bookLine_194 mc_12_261 (c_X12_isOneOf (d := d + 1) hN p81) rfl rfl (by decide) ?_
                  refine bv_goto (tgt := 207) dX12_bookLine_197 (by decide) ?_
                  refine bv_istore (ls1 := [(0, .ref x0), (1, .int (3 * (M.1 x0 34))), (2, .int (bm_bi v2)), (3, .int (v55.2.1 x0 18)), (4, .int (v62.2.1 x0 18)), (5, .int (bm_bi v80.1))]) dX12_bookLine_207 (by decide) rfl rfl ?_
                  refine bv_iload dX12_bookLine_209 5 rfl ?_
                  refine bw_ifB_ne (b := v80.1) (tgt := 216) dX12_bookLine_211 (by decide) (fun cc => ?_) (fun cc => ?_)
                  · replace h := bu_bt h cc
                    refine bv_aload_n dX12_bookLine_216 0 rfl ?_
                    obtain ⟨a82, e83, h⟩ := bu_bd h
                    refine bw_getA (a := a82) hN q1 e83 dX12_bookLine_217 fl_12_40 rfl ?_
                    refine bv_iload_n dX12_bookLine_220 1 rfl ?_
                    refine bv_iconst (v := 2) dX12_bookLine_221 (by decide) ?_
                    refine bv_iadd dX12_bookLine_222 ?_
                    refine bv_iload dX12_bookLine_223 4 rfl ?_
                    refine bv_if_ne (tgt := 237) dX12_bookLine_225 (by decide) (fun cc => ?_) (fun cc => ?_)
                    · replace h := bu_f h cc
                      refine bv_aload_n dX12_bookLine_237 0 rfl ?_
                      refine bw_getI hN q1 dX12_bookLine_238 fl_12_210 rfl ?_
                      obtain ⟨r84, h⟩ := bu_ia h
                      refine bw_iast hN r84 dX12_bookLine_241 ?_
                      refine bv_aload_n dX12_bookLine_242 0 rfl ?_
                      obtain ⟨v85, p86, h⟩ := bu_bd h
                      refine bw_callVv (As := []) hN q1 ⟨_, _, rfl⟩ dX12_bookLine_243 mc_12_203 (c_X12_next (d := d + 1) hN p86) rfl rfl (by decide) ?_
                      refine bv_iconst (v := 1) dX12_bookLine_246 (by decide) ?_
                      obtain rfl := Option.some.inj h
                      exact bw_bret (b := true) dX12_bookLine_247 rfl ⟨rfl, rfl⟩
                    · replace h := bu_t h cc
                      refine bv_aload_n dX12_bookLine_228 0 rfl ?_
                      refine bw_getI hN q1 dX12_bookLine_229 fl_12_210 rfl ?_
                      refine bv_iconst (v := 1) dX12_bookLine_232 (by decide) ?_
                      refine bv_iadd dX12_bookLine_233 ?_
                      refine bv_goto (tgt := 241) dX12_bookLine_234 (by decide) ?_
                      obtain ⟨r87, h⟩ := bu_ia h
                      refine bw_iast hN r87 dX12_bookLine_241 ?_
                      refine bv_aload_n dX12_bookLine_242 0 rfl ?_
                      obtain ⟨v88, p89, h⟩ := bu_bd h
                      refine bw_callVv (As := []) hN q1 ⟨_, _, rfl⟩ dX12_bookLine_243 mc_12_203 (c_X12_next (d := d + 1) hN p89) rfl rfl (by decide) ?_
                      refine bv_iconst (v := 1) dX12_bookLine_246 (by decide) ?_
                      obtain rfl := Option.some.inj h
                      exact bw_bret (b := true) dX12_bookLine_247 rfl ⟨rfl, rfl⟩
                  · replace h := bu_bf h cc
                    refine bv_iconst (v := 0) dX12_bookLine_214 (by decide) ?_
                    obtain rfl := Option.some.inj h
                    exact bw_bret (b := false) dX12_bookLine_215 rfl ⟨rfl, rfl⟩
              · replace h := bu_t h cc
                refine bv_aload_n dX12_bookLine_155 0 rfl ?_
                refine bv_bipush (v := 8) dX12_bookLine_156 (by decide) ?_
                refine bv_aload_n dX12_bookLine_158 0 rfl ?_
                obtain ⟨a90, e91, h⟩ := bu_bd h
                refine bw_getA (a := a90) hN q1 e91 dX12_bookLine_159 fl_12_33 rfl ?_
                refine bv_iconst (v := 1) dX12_bookLine_162 (by decide) ?_
                obtain ⟨r92, h⟩ := bu_ia h
                refine bw_iald hN r92 dX12_bookLine_163 ?_
                obtain ⟨v93, p94, h⟩ := bu_bd h
                refine bw_callV (As := [.int 8, .int ((bm_sI (bm_sI v64 a66 (3 * (M.1 x0 34)).toNatClampNeg (v62.2.1 x0 18)) a66 ((3 * (M.1 x0 34)) + 1).toNatClampNeg (v55.2.1 x0 18)).1 a90 (1 : Int32).toNatClampNeg)]) hN q1 ⟨_, _, rfl⟩ dX12_bookLine_164 mc_12_438 (c_X12_takesName (d := d + 0) hN p94) rfl rfl (by decide) ?_
                refine bw_ifB_ne (b := v93.1) (tgt := 172) dX12_bookLine_167 (by decide) (fun cc => ?_) (fun cc => ?_)
                · replace h := bu_bt h cc
                  refine bv_aload_n dX12_bookLine_172 0 rfl ?_
                  obtain ⟨a95, e96, h⟩ := bu_bd h
                  refine bw_getA (a := a95) hN q1 e96 dX12_bookLine_173 fl_12_40 rfl ?_
                  refine bv_iload_n dX12_bookLine_176 1 rfl ?_
                  refine bv_iconst (v := 2) dX12_bookLine_177 (by decide) ?_
                  refine bv_iadd dX12_bookLine_178 ?_
                  refine bv_aload_n dX12_bookLine_179 0 rfl ?_
                  refine bw_getI hN q1 dX12_bookLine_180 fl_12_210 rfl ?_
                  obtain ⟨r97, h⟩ := bu_ia h
                  refine bw_iast hN r97 dX12_bookLine_183 ?_
                  refine bv_iconst (v := 1) dX12_bookLine_184 (by decide) ?_
                  obtain rfl := Option.some.inj h
                  exact bw_bret (b := true) dX12_bookLine_185 rfl ⟨rfl, rfl⟩
                · replace h := bu_bf h cc
                  refine bv_iconst (v := 0) dX12_bookLine_170 (by decide) ?_
                  obtain rfl := Option.some.inj h
                  exact bw_bret (b := false) dX12_bookLine_171 rfl ⟨rfl, rfl⟩
            · replace h := bu_bt h cc
              refine bv_iconst (v := 1) dX12_bookLine_147 (by decide) ?_
              obtain rfl := Option.some.inj h
              exact bw_bret (b := true) dX12_bookLine_148 rfl ⟨rfl, rfl⟩
          · replace h := bu_bf h cc
            refine bv_iconst (v := 0) dX12_bookLine_108 (by decide) ?_
            obtain rfl := Option.some.inj h
            exact bw_bret (b := false) dX12_bookLine_109 rfl ⟨rfl, rfl⟩
        · replace h := bu_bt h cc
          refine bv_aload_n dX12_bookLine_71 0 rfl ?_
          refine bv_iconst (v := 1) dX12_bookLine_72 (by decide) ?_
          refine bv_bipush (v := 60) dX12_bookLine_73 (by decide) ?_
          obtain ⟨v98, p99, h⟩ := bu_bd h
          refine bw_callV (As := [.int 1, .int 60]) hN q1 ⟨_, _, rfl⟩ dX12_bookLine_75 mc_12_213 (c_X12_takes (d := d + 0) hN p99) rfl rfl (by decide) ?_
          refine bw_ifB_ne (b := v98.1) (tgt := 83) dX12_bookLine_78 (by decide) (fun cc => ?_) (fun cc => ?_)
          · replace h := bu_bt h cc
            refine bv_aload_n dX12_bookLine_83 0 rfl ?_
            obtain ⟨a100, e101, h⟩ := bu_bd h
            refine bw_getA (a := a100) hN q1 e101 dX12_bookLine_84 fl_12_40 rfl ?_
            refine bv_iload_n dX12_bookLine_87 1 rfl ?_
            refine bv_iconst (v := 1) dX12_bookLine_88 (by decide) ?_
            refine bv_iadd dX12_bookLine_89 ?_
            refine bv_aload_n dX12_bookLine_90 0 rfl ?_
            refine bw_getI hN q1 dX12_bookLine_91 fl_12_210 rfl ?_
            obtain ⟨r102, h⟩ := bu_ia h
            refine bw_iast hN r102 dX12_bookLine_94 ?_
            refine bv_iconst (v := 1) dX12_bookLine_95 (by decide) ?_
            obtain rfl := Option.some.inj h
            exact bw_bret (b := true) dX12_bookLine_96 rfl ⟨rfl, rfl⟩
          · replace h := bu_bf h cc
            refine bv_iconst (v := 0) dX12_bookLine_81 (by decide) ?_
            obtain rfl := Option.some.inj h
            exact bw_bret (b := false) dX12_bookLine_82 rfl ⟨rfl, rfl⟩
      · replace h := bu_t h cc
        refine bv_aload_n dX12_bookLine_44 0 rfl ?_
        refine bv_iconst (v := 4) dX12_bookLine_45 (by decide) ?_
        obtain ⟨v103, p104, h⟩ := bu_bd h
        refine bw_callV (As := [.int 4]) hN q1 ⟨_, _, rfl⟩ dX12_bookLine_46 mc_12_200 (c_X12_bad (d := d + 2) hN p104) rfl rfl (by decide) ?_
        obtain rfl := Option.some.inj h
        exact bw_bret (b := v103.1) dX12_bookLine_49 rfl ⟨rfl, rfl⟩
    · replace h := bu_bf h cc
      refine bv_iconst (v := 0) dX12_bookLine_33 (by decide) ?_
      obtain rfl := Option.some.inj h
      exact bw_bret (b := false) dX12_bookLine_34 rfl ⟨rfl, rfl⟩
def f_X12_does (M : bm_M) (x0 : Nat) (x1 : Int32) (x2 : Int32) (x3 : Int32) : Option (Int32 × bm_M) := (if x1 = 0 then (if bm_io x0 11 then ((f_X12_browOf M x0 x2).bind fun v3 => (if v3 = 0 then some (1, M) else ((f_X12_lifts M x0 x2 x3).bind fun v5 => some (0, v5)))) else none) else (if x1 = 1 then (if bm_io x0 11 then ((f_X12_browOf M x0 x2).bind fun v9 => (if v9 = 0 then some (11, M) else ((f_X12_gives M x0 x2 x3).bind fun v11 => some (0, v11)))) else none) else (if x1 = 2 then (if bm_io x0 11 then ((M.2.2 x0 6).bind fun a15 => (if bm_ia a15 0 63 = true then (if x1 = 2 then (if (bm_bi (f_X12_bitOf (M.1 a15 (63 : Int32).toNatClampNeg) x2)) = 1 then some (((10 * x1) + 1), M) else some (0, (bm_sI M a15 (63 : Int32).toNatClampNeg ((M.1 a15 (63 : Int32).toNatClampNeg) ^^^ (bm_ishl 1 x2))))) else (if (bm_bi (f_X12_bitOf (M.1 a15 (63 : Int32).toNatClampNeg) x2)) = 0 then some (((10 * x1) + 1), M) else some (0, (bm_sI M a15 (63 : Int32).toNatClampNeg ((M.1 a15 (63 : Int32).toNatClampNeg) ^^^ (bm_ishl 1 x2)))))) else none)) else none) else (if x1 = 3 then (if bm_io x0 11 then ((M.2.2 x0 6).bind fun a20 => (if bm_ia a20 0 63 = true then (if x1 = 2 then (if (bm_bi (f_X12_bitOf (M.1 a20 (63 : Int32).toNatClampNeg) x2)) = 1 then some (((10 * x1) + 1), M) else some (0, (bm_sI M a20 (63 : Int32).toNatClampNeg ((M.1 a20 (63 : Int32).toNatClampNeg) ^^^ (bm_ishl 1 x2))))) else (if (bm_bi (f_X12_bitOf (M.1 a20 (63 : Int32).toNatClampNeg) x2)) = 0 then some (((10 * x1) + 1), M) else some (0, (bm_sI M a20 (63 : Int32).toNatClampNeg ((M.1 a20 (63 : Int32).toNatClampNeg) ^^^ (bm_ishl 1 x2)))))) else none)) else none) else (if x1 = 4 then (if bm_io x0 11 then ((M.2.2 x0 6).bind fun a25 => (if bm_ia a25 0 64 = true then (if (f_X12_bitOf (M.1 a25 (64 : Int32).toNatClampNeg) x2) = true then some (41, M) else some (0, (bm_sI M a25 (64 : Int32).toNatClampNeg ((M.1 a25 (64 : Int32).toNatClampNeg) ||| (bm_ishl 1 x2))))) else none)) else none) else (if x1 = 5 then (if bm_io x0 11 then ((f_X12_whyGo M x0 x2 x3).bind fun v30 => (if v30 ≤ 0 then ((f_X12_goes M x0 x2 x3).bind fun v32 => some (0, v32)) else some (51, M))) else none) else (if bm_io x0 11 then ((M.2.2 x0 6).bind fun a35 => (if bm_ia a35 0 61 = true then (if ((M.1 a35 (61 : Int32).toNatClampNeg) + x2) ≤ 400 then ((f_X12_goesOn M x0 x2).bind fun v38 => some (0, v38.2)) else some (61, M)) else none)) else none)))))))
set_option maxHeartbeats 4000000 in
set_option maxRecDepth 100000 in
theorem c_X12_does {L : bm_L} {d n : Nat} {M : bm_M} {x0 : Nat} {x1 : Int32} {x2 : Int32} {x3 : Int32} {v : Int32 × bm_M} (hN : 181 ≤ n) (h : f_X12_does M x0 x1 x2 x3 = some v) : bm_C L m_X12_does (d + 10) n n [.ref x0, .int x1, .int x2, .int x3] M (fun r M' => r = some (.int v.1) ∧ M' = v.2) := by
  refine bm_C.ofV (by decide) (Nat.le_of_ble_eq_true rfl) ?_
  show bm_V L m_X12_does (d + 10) n n n 0 [(0, .ref x0), (1, .int x1), (2, .int x2), (3, .int x3)] [] M _
  unfold f_X12_does at h
  refine bv_iload_n dX12_does_0 1 rfl ?_
  by_cases c1 : x1 = 0
  · replace h := bu_t h c1
    refine bv_tableIn (tgt := 40) dX12_does_1 (by rw [c1]; decide) (by rw [c1]; decide) (by rw [c1]; rfl) (by decide) ?_
    refine bv_aload_n dX12_does_40 0 rfl ?_
    refine bv_iload_n dX12_does_41 2 rfl ?_
    obtain ⟨q2, h⟩ := bu_io h
    obtain ⟨v3, p4, h⟩ := bu_bd h
    refine bw_callV (As := [.int x2]) hN q2 ⟨_, _, rfl⟩ dX12_does_42 mc_12_290 (c_X12_browOf (d := d + 8) hN p4) rfl rfl (by decide) ?_
    refine bv_if_ne (tgt := 50) dX12_does_45 (by decide) (fun cc => ?_) (fun cc => ?_)
    · replace h := bu_f h cc
      refine bv_aload_n dX12_does_50 0 rfl ?_
      refine bv_iload_n dX12_does_51 2 rfl ?_
      refine bv_iload_n dX12_does_52 3 rfl ?_
      obtain ⟨v5, p6, h⟩ := bu_bd h
      refine bw_callVv (As := [.int x2, .int x3]) hN q2 ⟨_, _, rfl⟩ dX12_does_53 mc_12_329 (c_X12_lifts (d := d + 3) hN p6) rfl rfl (by decide) ?_
      refine bv_iconst (v := 0) dX12_does_56 (by decide) ?_
      obtain rfl := Option.some.inj h
      exact bv_iret (x := 0) dX12_does_57 rfl ⟨rfl, rfl⟩
    · replace h := bu_t h cc
      refine bv_iconst (v := 1) dX12_does_48 (by decide) ?_
      obtain rfl := Option.some.inj h
      exact bv_iret (x := 1) dX12_does_49 rfl ⟨rfl, rfl⟩
  · replace h := bu_f h c1
    by_cases c7 : x1 = 1
    · replace h := bu_t h c7
      refine bv_tableIn (tgt := 58) dX12_does_1 (by rw [c7]; decide) (by rw [c7]; decide) (by rw [c7]; rfl) (by decide) ?_
      refine bv_aload_n dX12_does_58 0 rfl ?_
      refine bv_iload_n dX12_does_59 2 rfl ?_
      obtain ⟨q8, h⟩ := bu_io h
      obtain ⟨v9, p10, h⟩ := bu_bd h
      refine bw_callV (As := [.int x2]) hN q8 ⟨_, _, rfl⟩ dX12_does_60 mc_12_290 (c_X12_browOf (d := d + 8) hN p10) rfl rfl (by decide) ?_
      refine bv_if_ne (tgt := 69) dX12_does_63 (by decide) (fun cc => ?_) (fun cc => ?_)
      · replace h := bu_f h cc
        refine bv_aload_n dX12_does_69 0 rfl ?_
        refine bv_iload_n dX12_does_70 2 rfl ?_
        refine bv_iload_n dX12_does_71 3 rfl ?_
        obtain ⟨v11, p12, h⟩ := bu_bd h
        refine bw_callVv (As := [.int x2, .int x3]) hN q8 ⟨_, _, rfl⟩ dX12_does_72 mc_12_332 (c_X12_gives (d := d + 2) hN p12) rfl rfl (by decide) ?_
        refine bv_iconst (v := 0) dX12_does_75 (by decide) ?_
        obtain rfl := Option.some.inj h
        exact bv_iret (x := 0) dX12_does_76 rfl ⟨rfl, rfl⟩
      · replace h := bu_t h cc
        refine bv_bipush (v := 11) dX12_does_66 (by decide) ?_
        obtain rfl := Option.some.inj h
        exact bv_iret (x := 11) dX12_does_68 rfl ⟨rfl, rfl⟩
    · replace h := bu_f h c7
      by_cases c13 : x1 = 2
      · replace h := bu_t h c13
        refine bv_tableIn (tgt := 77) dX12_does_1 (by rw [c13]; decide) (by rw [c13]; decide) (by rw [c13]; rfl) (by decide) ?_
        refine bv_aload_n dX12_does_77 0 rfl ?_
        obtain ⟨q14, h⟩ := bu_io h
        obtain ⟨a15, e16, h⟩ := bu_bd h
        refine bw_getA (a := a15) hN q14 e16 dX12_does_78 fl_12_33 rfl ?_
        refine bv_bipush (v := 63) dX12_does_81 (by decide) ?_
        obtain ⟨r17, h⟩ := bu_ia h
        refine bw_iald hN r17 dX12_does_83 ?_
        refine bv_iload_n dX12_does_84 2 rfl ?_
        refine bw_callS (As := [.int (M.1 a15 (63 : Int32).toNatClampNeg), .int x2]) dX12_does_85 mc_12_231 (c_X12_bitOf (d := d + 9) hN rfl) rfl rfl (by decide) ?_
        refine bv_iload_n dX12_does_88 1 rfl ?_
        refine bv_iconst (v := 2) dX12_does_89 (by decide) ?_
        refine bv_icmp_ne (tgt := 97) dX12_does_90 (by decide) (fun cc => ?_) (fun cc => ?_)
        · replace h := bu_f h cc
          refine bv_iconst (v := 0) dX12_does_97 (by decide) ?_
          refine bv_icmp_ne (tgt := 108) dX12_does_98 (by decide) (fun cc => ?_) (fun cc => ?_)
          · replace h := bu_f h cc
            refine bv_aload_n dX12_does_108 0 rfl ?_
            refine bw_getA (a := a15) hN q14 e16 dX12_does_109 fl_12_33 rfl ?_
            refine bv_bipush (v := 63) dX12_does_112 (by decide) ?_
            refine bv_dup2 dX12_does_114 rfl rfl ?_
            refine bw_iald hN r17 dX12_does_115 ?_
            refine bv_iconst (v := 1) dX12_does_116 (by decide) ?_
            refine bv_iload_n dX12_does_117 2 rfl ?_
            refine bv_ishl dX12_does_118 ?_
            refine bv_ixor dX12_does_119 ?_
            refine bw_iast hN r17 dX12_does_120 ?_
            refine bv_iconst (v := 0) dX12_does_121 (by decide) ?_
            obtain rfl := Option.some.inj h
            exact bv_iret (x := 0) dX12_does_122 rfl ⟨rfl, rfl⟩
          · replace h := bu_t h cc
            refine bv_bipush (v := 10) dX12_does_101 (by decide) ?_
            refine bv_iload_n dX12_does_103 1 rfl ?_
            refine bv_imul dX12_does_104 ?_
            refine bv_iconst (v := 1) dX12_does_105 (by decide) ?_
            refine bv_iadd dX12_does_106 ?_
            obtain rfl := Option.some.inj h
            exact bv_iret (x := ((10 * x1) + 1)) dX12_does_107 rfl ⟨rfl, rfl⟩
        · replace h := bu_t h cc
          refine bv_iconst (v := 1) dX12_does_93 (by decide) ?_
          refine bv_goto (tgt := 98) dX12_does_94 (by decide) ?_
          refine bv_icmp_ne (tgt := 108) dX12_does_98 (by decide) (fun cc => ?_) (fun cc => ?_)
          · replace h := bu_f h cc
            refine bv_aload_n dX12_does_108 0 rfl ?_
            refine bw_getA (a := a15) hN q14 e16 dX12_does_109 fl_12_33 rfl ?_
            refine bv_bipush (v := 63) dX12_does_112 (by decide) ?_
            refine bv_dup2 dX12_does_114 rfl rfl ?_
            refine bw_iald hN r17 dX12_does_115 ?_
            refine bv_iconst (v := 1) dX12_does_116 (by decide) ?_
            refine bv_iload_n dX12_does_117 2 rfl ?_
            refine bv_ishl dX12_does_118 ?_
            refine bv_ixor dX12_does_119 ?_
            refine bw_iast hN r17 dX12_does_120 ?_
            refine bv_iconst (v := 0) dX12_does_121 (by decide) ?_
            obtain rfl := Option.some.inj h
            exact bv_iret (x := 0) dX12_does_122 rfl ⟨rfl, rfl⟩
          · replace h := bu_t h cc
            refine bv_bipush (v := 10) dX12_does_101 (by decide) ?_
            refine bv_iload_n dX12_does_103 1 rfl ?_
            refine bv_imul dX12_does_104 ?_
            refine bv_iconst (v := 1) dX12_does_105 (by decide) ?_
            refine bv_iadd dX12_does_106 ?_
            obtain rfl := Option.some.inj h
            exact bv_iret (x := ((10 * x1) + 1)) dX12_does_107 rfl ⟨rfl, rfl⟩
      · replace h := bu_f h c13
        by_cases c18 : x1 = 3
        · replace h := bu_t h c18
          refine bv_tableIn (tgt := 77) dX12_does_1 (by rw [c18]; decide) (by rw [c18]; decide) (by rw [c18]; rfl) (by decide) ?_
          refine bv_aload_n dX12_does_77 0 rfl ?_
          obtain ⟨q19, h⟩ := bu_io h
          obtain ⟨a20, e21, h⟩ := bu_bd h
          refine bw_getA (a := a20) hN q19 e21 dX12_does_78 fl_12_33 rfl ?_
          refine bv_bipush (v := 63) dX12_does_81 (by decide) ?_
          obtain ⟨r22, h⟩ := bu_ia h
          refine bw_iald hN r22 dX12_does_83 ?_
          refine bv_iload_n dX12_does_84 2 rfl ?_
          refine bw_callS (As := [.int (M.1 a20 (63 : Int32).toNatClampNeg), .int x2]) dX12_does_85 mc_12_231 (c_X12_bitOf (d := d + 9) hN rfl) rfl rfl (by decide) ?_
          refine bv_iload_n dX12_does_88 1 rfl ?_
          refine bv_iconst (v := 2) dX12_does_89 (by decide) ?_
          refine bv_icmp_ne (tgt := 97) dX12_does_90 (by decide) (fun cc => ?_) (fun cc => ?_)
          · replace h := bu_f h cc
            refine bv_iconst (v := 0) dX12_does_97 (by decide) ?_
            refine bv_icmp_ne (tgt := 108) dX12_does_98 (by decide) (fun cc => ?_) (fun cc => ?_)
            · replace h := bu_f h cc
              refine bv_aload_n dX12_does_108 0 rfl ?_
              refine bw_getA (a := a20) hN q19 e21 dX12_does_109 fl_12_33 rfl ?_
              refine bv_bipush (v := 63) dX12_does_112 (by decide) ?_
              refine bv_dup2 dX12_does_114 rfl rfl ?_
              refine bw_iald hN r22 dX12_does_115 ?_
              refine bv_iconst (v := 1) dX12_does_116 (by decide) ?_
              refine bv_iload_n dX12_does_117 2 rfl ?_
              refine bv_ishl dX12_does_118 ?_
              refine bv_ixor dX12_does_119 ?_
              refine bw_iast hN r22 dX12_does_120 ?_
              refine bv_iconst (v := 0) dX12_does_121 (by decide) ?_
              obtain rfl := Option.some.inj h
              exact bv_iret (x := 0) dX12_does_122 rfl ⟨rfl, rfl⟩
            · replace h := bu_t h cc
              refine bv_bipush (v := 10) dX12_does_101 (by decide) ?_
              refine bv_iload_n dX12_does_103 1 rfl ?_
              refine bv_imul dX12_does_104 ?_
              refine bv_iconst (v := 1) dX12_does_105 (by decide) ?_
              refine bv_iadd dX12_does_106 ?_
              obtain rfl := Option.some.inj h
              exact bv_iret (x := ((10 * x1) + 1)) dX12_does_107 rfl ⟨rfl, rfl⟩
          · replace h := bu_t h cc
            refine bv_iconst (v := 1) dX12_does_93 (by decide) ?_
            refine bv_goto (tgt := 98) dX12_does_94 (by decide) ?_
            refine bv_icmp_ne (tgt := 108) dX12_does_98 (by decide) (fun cc => ?_) (fun cc => ?_)
            · replace h := bu_f h cc
              refine bv_aload_n dX12_does_108 0 rfl ?_
              refine bw_getA (a := a20) hN q19 e21 dX12_does_109 fl_12_33 rfl ?_
              refine bv_bipush (v := 63) dX12_does_112 (by decide) ?_
              refine bv_dup2 dX12_does_114 rfl rfl ?_
              refine bw_iald hN r22 dX12_does_115 ?_
              refine bv_iconst (v := 1) dX12_does_116 (by decide) ?_
              refine bv_iload_n dX12_does_117 2 rfl ?_
              refine bv_ishl dX12_does_118 ?_
              refine bv_ixor dX12_does_119 ?_
              refine bw_iast hN r22 dX12_does_120 ?_
              refine bv_iconst (v := 0) dX12_does_121 (by decide) ?_
              obtain rfl := Option.some.inj h
              exact bv_iret (x := 0) dX12_does_122 rfl ⟨rfl, rfl⟩
            · replace h := bu_t h cc
              refine bv_bipush (v := 10) dX12_does_101 (by decide) ?_
              refine bv_iload_n dX12_does_103 1 rfl ?_
              refine bv_imul dX12_does_104 ?_
              refine bv_iconst (v := 1) dX12_does_105 (by decide) ?_
              refine bv_iadd dX12_does_106 ?_
              obtain rfl := Option.some.inj h
              exact bv_iret (x := ((10 * x1) + 1)) dX12_does_107 rfl ⟨rfl, rfl⟩
        · replace h := bu_f h c18
          by_cases c23 : x1 = 4
          · replace h := bu_t h c23
            refine bv_tableIn (tgt := 123) dX12_does_1 (by rw [c23]; decide) (by rw [c23]; decide) (by rw [c23]; rfl) (by decide) ?_
            refine bv_aload_n dX12_does_123 0 rfl ?_
            obtain ⟨q24, h⟩ := bu_io h
            obtain ⟨a25, e26, h⟩ := bu_bd h
            refine bw_getA (a := a25) hN q24 e26 dX12_does_124 fl_12_33 rfl ?_
            refine bv_bipush (v := 64) dX12_does_127 (by decide) ?_
            obtain ⟨r27, h⟩ := bu_ia h
            refine bw_iald hN r27 dX12_does_129 ?_
            refine bv_iload_n dX12_does_130 2 rfl ?_
            refine bw_callS (As := [.int (M.1 a25 (64 : Int32).toNatClampNeg), .int x2]) dX12_does_131 mc_12_231 (c_X12_bitOf (d := d + 9) hN rfl) rfl rfl (by decide) ?_
            refine bw_ifB_eq (b := (f_X12_bitOf (M.1 a25 (64 : Int32).toNatClampNeg) x2)) (tgt := 140) dX12_does_134 (by decide) (fun cc => ?_) (fun cc => ?_)
            · replace h := bu_bf h cc
              refine bv_aload_n dX12_does_140 0 rfl ?_
              refine bw_getA (a := a25) hN q24 e26 dX12_does_141 fl_12_33 rfl ?_
              refine bv_bipush (v := 64) dX12_does_144 (by decide) ?_
              refine bv_dup2 dX12_does_146 rfl rfl ?_
              refine bw_iald hN r27 dX12_does_147 ?_
              refine bv_iconst (v := 1) dX12_does_148 (by decide) ?_
              refine bv_iload_n dX12_does_149 2 rfl ?_
              refine bv_ishl dX12_does_150 ?_
              refine bv_ior dX12_does_151 ?_
              refine bw_iast hN r27 dX12_does_152 ?_
              refine bv_iconst (v := 0) dX12_does_153 (by decide) ?_
              obtain rfl := Option.some.inj h
              exact bv_iret (x := 0) dX12_does_154 rfl ⟨rfl, rfl⟩
            · replace h := bu_bt h cc
              refine bv_bipush (v := 41) dX12_does_137 (by decide) ?_
              obtain rfl := Option.some.inj h
              exact bv_iret (x := 41) dX12_does_139 rfl ⟨rfl, rfl⟩
          · replace h := bu_f h c23
            by_cases c28 : x1 = 5
            · replace h := bu_t h c28
              refine bv_tableIn (tgt := 155) dX12_does_1 (by rw [c28]; decide) (by rw [c28]; decide) (by rw [c28]; rfl) (by decide) ?_
              refine bv_aload_n dX12_does_155 0 rfl ?_
              refine bv_iload_n dX12_does_156 2 rfl ?_
              refine bv_iload_n dX12_does_157 3 rfl ?_
              obtain ⟨q29, h⟩ := bu_io h
              obtain ⟨v30, p31, h⟩ := bu_bd h
              refine bw_callV (As := [.int x2, .int x3]) hN q29 ⟨_, _, rfl⟩ dX12_does_158 mc_12_351 (c_X12_whyGo (d := d + 8) hN p31) rfl rfl (by decide) ?_
              refine bv_if_le (tgt := 167) dX12_does_161 (by decide) (fun cc => ?_) (fun cc => ?_)
              · replace h := bu_t h cc
                refine bv_aload_n dX12_does_167 0 rfl ?_
                refine bv_iload_n dX12_does_168 2 rfl ?_
                refine bv_iload_n dX12_does_169 3 rfl ?_
                obtain ⟨v32, p33, h⟩ := bu_bd h
                refine bw_callVv (As := [.int x2, .int x3]) hN q29 ⟨_, _, rfl⟩ dX12_does_170 mc_12_354 (c_X12_goes (d := d + 8) hN p33) rfl rfl (by decide) ?_
                refine bv_iconst (v := 0) dX12_does_173 (by decide) ?_
                obtain rfl := Option.some.inj h
                exact bv_iret (x := 0) dX12_does_174 rfl ⟨rfl, rfl⟩
              · replace h := bu_f h cc
                refine bv_bipush (v := 51) dX12_does_164 (by decide) ?_
                obtain rfl := Option.some.inj h
                exact bv_iret (x := 51) dX12_does_166 rfl ⟨rfl, rfl⟩
            · replace h := bu_f h c28
              refine bv_tableOut (tgt := 175) dX12_does_1 (bm_sw (k := 6) (by decide) (fun j hj => by match j, hj with | 0, _ => exact c1 | 1, _ => exact c7 | 2, _ => exact c13 | 3, _ => exact c18 | 4, _ => exact c23 | 5, _ => exact c28)) (by decide) ?_
              refine bv_aload_n dX12_does_175 0 rfl ?_
              obtain ⟨q34, h⟩ := bu_io h
              obtain ⟨a35, e36, h⟩ := bu_bd h
              refine bw_getA (a := a35) hN q34 e36 dX12_does_176 fl_12_33 rfl ?_
              refine bv_bipush (v := 61) dX12_does_179 (by decide) ?_
              obtain ⟨r37, h⟩ := bu_ia h
              refine bw_iald hN r37 dX12_does_181 ?_
              refine bv_iload_n dX12_does_182 2 rfl ?_
              refine bv_iadd dX12_does_183 ?_
              refine bv_sipush (v := 400) dX12_does_184 (by decide) ?_
              refine bv_icmp_le (tgt := 193) dX12_does_187 (by decide) (fun cc => ?_) (fun cc => ?_)
              · replace h := bu_t h cc
                refine bv_aload_n dX12_does_193 0 rfl ?_
                refine bv_iload_n dX12_does_194 2 rfl ?_
                obtain ⟨v38, p39, h⟩ := bu_bd h
                refine bw_callV (As := [.int x2]) hN q34 ⟨_, _, rfl⟩ dX12_does_195 mc_12_357 (c_X12_goesOn (d := d + 0) hN p39) rfl rfl (by decide) ?_
                refine bv_pop dX12_does_198 rfl ?_
                refine bv_iconst (v := 0) dX12_does_199 (by decide) ?_
                obtain rfl := Option.some.inj h
                exact bv_iret (x := 0) dX12_does_200 rfl ⟨rfl, rfl⟩
              · replace h := bu_f h cc
                refine bv_bipush (v := 61) dX12_does_190 (by decide) ?_
                obtain rfl := Option.some.inj h
                exact bv_iret (x := 61) dX12_does_192 rfl ⟨rfl, rfl⟩
def f_X12_book_l39 (x0 : Nat) (x1 : Int32) : Nat → bm_M → Option (((bm_M) ⊕ (bm_M)))
  | 0, _ => none
  | k + 1, M => (if (M.1 x0 11) = 0 then some (Sum.inr M) else ((f_X12_bookLine M x0).bind fun v1 => (if v1.1 = true then ((f_X12_sign v1.2 x0 59).bind fun v3 => (if v3.1 = true then f_X12_book_l39 x0 x1 k (bm_sI v3.2 x0 34 ((v3.2.1 x0 34) + 1)) else some (Sum.inl v3.2))) else some (Sum.inl v1.2))))
set_option maxHeartbeats 4000000 in
set_option maxRecDepth 100000 in
theorem v_X12_book_l39 {L : bm_L} {d n : Nat} {Q : Option Value → bm_M → Prop} {x0 : Nat} {x1 : Int32} (hN : 181 ≤ n) (q_0 : bm_OK x0 11) : ∀ (k : Nat) (M : bm_M) (r : ((bm_M) ⊕ (bm_M))), f_X12_book_l39 x0 x1 k M = some r → (∀ yy, (Sum.inl yy) = r → bm_V L m_X12_book (d + 11) n n n 62 [(0, .ref x0)] [] yy Q) → (∀ yy, (Sum.inr yy) = r → bm_V L m_X12_book (d + 11) n n n 83 [(0, .ref x0), (1, .int x1)] [] yy Q) → bm_V L m_X12_book (d + 11) n n n 39 [(0, .ref x0), (1, .int x1)] [] M Q := by
  intro k
  induction k with
  | zero => intro M r h; cases (show (none : Option (((bm_M) ⊕ (bm_M)))) = some r from h)
  | succ k ih =>
    intro M r h K0 K1
    unfold f_X12_book_l39 at h
    refine bv_aload_n dX12_book_39 0 rfl ?_
    refine bw_getI hN q_0 dX12_book_40 fl_12_174 rfl ?_
    refine bv_if_eq (tgt := 83) dX12_book_43 (by decide) (fun cc => ?_) (fun cc => ?_)
    · replace h := bu_t h cc
      obtain rfl := Option.some.inj h
      exact K1 _ rfl
    · replace h := bu_f h cc
      refine bv_aload_n dX12_book_46 0 rfl ?_
      obtain ⟨v1, p2, h⟩ := bu_bd h
      refine bw_callV (As := []) hN q_0 ⟨_, _, rfl⟩ dX12_book_47 mc_12_441 (c_X12_bookLine (d := d + 7) hN p2) rfl rfl (by decide) ?_
      refine bw_ifB_eq (b := v1.1) (tgt := 62) dX12_book_50 (by decide) (fun cc => ?_) (fun cc => ?_)
      · replace h := bu_bf h cc
        refine bw_ls (ls1 := [(0, .ref x0)]) [0] rfl ?_
        obtain rfl := Option.some.inj h
        exact K0 _ rfl
      · replace h := bu_bt h cc
        refine bv_aload_n dX12_book_53 0 rfl ?_
        refine bv_bipush (v := 59) dX12_book_54 (by decide) ?_
        obtain ⟨v3, p4, h⟩ := bu_bd h
        refine bw_callV (As := [.int 59]) hN q_0 ⟨_, _, rfl⟩ dX12_book_56 mc_12_273 (c_X12_sign (d := d + 8) hN p4) rfl rfl (by decide) ?_
        refine bw_ifB_ne (b := v3.1) (tgt := 70) dX12_book_59 (by decide) (fun cc => ?_) (fun cc => ?_)
        · replace h := bu_bt h cc
          refine bv_aload_n dX12_book_70 0 rfl ?_
          refine bv_dup dX12_book_71 rfl ?_
          refine bw_getI hN q_0 dX12_book_72 fl_12_435 rfl ?_
          refine bv_iconst (v := 1) dX12_book_75 (by decide) ?_
          refine bv_iadd dX12_book_76 ?_
          refine bw_putI hN q_0 dX12_book_77 fl_12_435 rfl ?_
          refine bv_goto (tgt := 39) dX12_book_80 (by decide) ?_
          exact ih _ _ h K0 K1
        · replace h := bu_bf h cc
          refine bw_ls (ls1 := [(0, .ref x0)]) [0] rfl ?_
          obtain rfl := Option.some.inj h
          exact K0 _ rfl
def f_X12_book_l89 (x0 : Nat) (x1 : Int32) : Nat → Int32 → bm_M → Option (bm_M)
  | 0, _, _ => none
  | k + 1, x2, M => (if 4 ≤ x2 then some M else ((M.2.2 x0 35).bind fun a1 => (if bm_ia a1 0 x2 = true then f_X12_book_l89 x0 x1 k (x2 + 1) (bm_sI M a1 x2.toNatClampNeg 0) else none)))
set_option maxHeartbeats 4000000 in
set_option maxRecDepth 100000 in
theorem v_X12_book_l89 {L : bm_L} {d n : Nat} {Q : Option Value → bm_M → Prop} {x0 : Nat} {x1 : Int32} (hN : 181 ≤ n) (q_0 : bm_OK x0 11) : ∀ (k : Nat) (x2 : Int32) (M : bm_M) (r : bm_M), f_X12_book_l89 x0 x1 k x2 M = some r → (∀ yy, yy = r → bm_V L m_X12_book (d + 11) n n n 107 [(0, .ref x0), (1, .int x1)] [] yy Q) → bm_V L m_X12_book (d + 11) n n n 89 [(0, .ref x0), (1, .int x1), (2, .int x2)] [] M Q := by
  intro k
  induction k with
  | zero => intro x2 M r h; cases (show (none : Option (bm_M)) = some r from h)
  | succ k ih =>
    intro x2 M r h K0
    unfold f_X12_book_l89 at h
    refine bv_iload_n dX12_book_89 2 rfl ?_
    refine bv_iconst (v := 4) dX12_book_90 (by decide) ?_
    refine bv_icmp_ge (tgt := 107) dX12_book_91 (by decide) (fun cc => ?_) (fun cc => ?_)
    · replace h := bu_t h cc
      refine bw_ls (ls1 := [(0, .ref x0), (1, .int x1)]) [0, 1] rfl ?_
      obtain rfl := Option.some.inj h
      exact K0 _ rfl
    · replace h := bu_f h cc
      refine bv_aload_n dX12_book_94 0 rfl ?_
      obtain ⟨a1, e2, h⟩ := bu_bd h
      refine bw_getA (a := a1) hN q_0 e2 dX12_book_95 fl_12_74 rfl ?_
      refine bv_iload_n dX12_book_98 2 rfl ?_
      refine bv_iconst (v := 0) dX12_book_99 (by decide) ?_
      obtain ⟨r3, h⟩ := bu_ia h
      refine bw_iast hN r3 dX12_book_100 ?_
      refine bv_iinc (j := 2) (v := (x2 + 1)) (ls1 := [(0, .ref x0), (1, .int x1), (2, .int (x2 + 1))]) dX12_book_101 rfl rfl (by decide) rfl rfl ?_
      refine bv_goto (tgt := 89) dX12_book_104 (by decide) ?_
      exact ih _ _ _ h K0
def f_X12_book_l111 (x0 : Nat) (x1 : Int32) : Nat → Int32 → Int32 → bm_M → Option (Int32 × bm_M)
  | 0, _, _, _ => none
  | k + 1, x2, x3, M => (if (M.1 x0 34) ≤ x3 then some (x2, M) else (if 0 ≤ x2 then some (x2, M) else ((M.2.2 x0 35).bind fun a1 => ((M.2.2 x0 8).bind fun a3 => (if bm_ia a3 0 (3 * x3) = true then (if bm_ia a3 0 ((3 * x3) + 1) = true then (if bm_ia a3 0 ((3 * x3) + 2) = true then ((f_X12_does M x0 (M.1 a3 (3 * x3).toNatClampNeg) (M.1 a3 ((3 * x3) + 1).toNatClampNeg) (M.1 a3 ((3 * x3) + 2).toNatClampNeg)).bind fun v8 => (if bm_ia a1 0 0 = true then ((v8.2.2.2 x0 35).bind fun a11 => (if bm_ia a11 0 0 = true then (if ((bm_sI v8.2 a1 (0 : Int32).toNatClampNeg v8.1).1 a11 (0 : Int32).toNatClampNeg) ≤ 0 then (if bm_ia a11 0 1 = true then f_X12_book_l111 x0 x1 k x2 (x3 + 1) (bm_sI (bm_sI v8.2 a1 (0 : Int32).toNatClampNeg v8.1) a11 (1 : Int32).toNatClampNeg (((bm_sI v8.2 a1 (0 : Int32).toNatClampNeg v8.1).1 a11 (1 : Int32).toNatClampNeg) + 1)) else none) else f_X12_book_l111 x0 x1 k x3 (x3 + 1) (bm_sI v8.2 a1 (0 : Int32).toNatClampNeg v8.1)) else none)) else none)) else none) else none) else none)))))
set_option maxHeartbeats 4000000 in
set_option maxRecDepth 100000 in
theorem v_X12_book_l111 {L : bm_L} {d n : Nat} {Q : Option Value → bm_M → Prop} {x0 : Nat} {x1 : Int32} (hN : 181 ≤ n) (q_0 : bm_OK x0 11) : ∀ (k : Nat) (x2 : Int32) (x3 : Int32) (M : bm_M) (r : Int32 × bm_M), f_X12_book_l111 x0 x1 k x2 x3 M = some r → (∀ yy, yy = r → bm_V L m_X12_book (d + 11) n n n 191 [(0, .ref x0), (1, .int x1), (2, .int yy.1)] [] yy.2 Q) → bm_V L m_X12_book (d + 11) n n n 111 [(0, .ref x0), (1, .int x1), (2, .int x2), (3, .int x3)] [] M Q := by
  intro k
  induction k with
  | zero => intro x2 x3 M r h; cases (show (none : Option (Int32 × bm_M)) = some r from h)
  | succ k ih =>
    intro x2 x3 M r h K0
    unfold f_X12_book_l111 at h
    refine bv_iload_n dX12_book_111 3 rfl ?_
    refine bv_aload_n dX12_book_112 0 rfl ?_
    refine bw_getI hN q_0 dX12_book_113 fl_12_435 rfl ?_
    refine bv_icmp_ge (tgt := 191) dX12_book_116 (by decide) (fun cc => ?_) (fun cc => ?_)
    · replace h := bu_t h cc
      refine bw_ls (ls1 := [(0, .ref x0), (1, .int x1), (2, .int x2)]) [0, 1, 2] rfl ?_
      obtain rfl := Option.some.inj h
      exact K0 _ rfl
    · replace h := bu_f h cc
      refine bv_iload_n dX12_book_119 2 rfl ?_
      refine bv_if_ge (tgt := 191) dX12_book_120 (by decide) (fun cc => ?_) (fun cc => ?_)
      · replace h := bu_t h cc
        refine bw_ls (ls1 := [(0, .ref x0), (1, .int x1), (2, .int x2)]) [0, 1, 2] rfl ?_
        obtain rfl := Option.some.inj h
        exact K0 _ rfl
      · replace h := bu_f h cc
        refine bv_aload_n dX12_book_123 0 rfl ?_
        obtain ⟨a1, e2, h⟩ := bu_bd h
        refine bw_getA (a := a1) hN q_0 e2 dX12_book_124 fl_12_74 rfl ?_
        refine bv_iconst (v := 0) dX12_book_127 (by decide) ?_
        refine bv_aload_n dX12_book_128 0 rfl ?_
        refine bv_aload_n dX12_book_129 0 rfl ?_
        obtain ⟨a3, e4, h⟩ := bu_bd h
        refine bw_getA (a := a3) hN q_0 e4 dX12_book_130 fl_12_40 rfl ?_
        refine bv_iconst (v := 3) dX12_book_133 (by decide) ?_
        refine bv_iload_n dX12_book_134 3 rfl ?_
        refine bv_imul dX12_book_135 ?_
        obtain ⟨r5, h⟩ := bu_ia h
        refine bw_iald hN r5 dX12_book_136 ?_
        refine bv_aload_n dX12_book_137 0 rfl ?_
        refine bw_getA (a := a3) hN q_0 e4 dX12_book_138 fl_12_40 rfl ?_
        refine bv_iconst (v := 3) dX12_book_141 (by decide) ?_
        refine bv_iload_n dX12_book_142 3 rfl ?_
        refine bv_imul dX12_book_143 ?_
        refine bv_iconst (v := 1) dX12_book_144 (by decide) ?_
        refine bv_iadd dX12_book_145 ?_
        obtain ⟨r6, h⟩ := bu_ia h
        refine bw_iald hN r6 dX12_book_146 ?_
        refine bv_aload_n dX12_book_147 0 rfl ?_
        refine bw_getA (a := a3) hN q_0 e4 dX12_book_148 fl_12_40 rfl ?_
        refine bv_iconst (v := 3) dX12_book_151 (by decide) ?_
        refine bv_iload_n dX12_book_152 3 rfl ?_
        refine bv_imul dX12_book_153 ?_
        refine bv_iconst (v := 2) dX12_book_154 (by decide) ?_
        refine bv_iadd dX12_book_155 ?_
        obtain ⟨r7, h⟩ := bu_ia h
        refine bw_iald hN r7 dX12_book_156 ?_
        obtain ⟨v8, p9, h⟩ := bu_bd h
        refine bw_callV (As := [.int (M.1 a3 (3 * x3).toNatClampNeg), .int (M.1 a3 ((3 * x3) + 1).toNatClampNeg), .int (M.1 a3 ((3 * x3) + 2).toNatClampNeg)]) hN q_0 ⟨_, _, rfl⟩ dX12_book_157 mc_12_444 (c_X12_does (d := d + 0) hN p9) rfl rfl (Nat.le_of_ble_eq_true rfl) ?_
        obtain ⟨r10, h⟩ := bu_ia h
        refine bw_iast hN r10 dX12_book_160 ?_
        refine bv_aload_n dX12_book_161 0 rfl ?_
        obtain ⟨a11, e12, h⟩ := bu_bd h
        refine bw_getA (a := a11) hN q_0 e12 dX12_book_162 fl_12_74 rfl ?_
        refine bv_iconst (v := 0) dX12_book_165 (by decide) ?_
        obtain ⟨r13, h⟩ := bu_ia h
        refine bw_iald hN r13 dX12_book_166 ?_
        refine bv_if_le (tgt := 175) dX12_book_167 (by decide) (fun cc => ?_) (fun cc => ?_)
        · replace h := bu_t h cc
          refine bv_aload_n dX12_book_175 0 rfl ?_
          refine bw_getA (a := a11) hN q_0 e12 dX12_book_176 fl_12_74 rfl ?_
          refine bv_iconst (v := 1) dX12_book_179 (by decide) ?_
          refine bv_dup2 dX12_book_180 rfl rfl ?_
          obtain ⟨r14, h⟩ := bu_ia h
          refine bw_iald hN r14 dX12_book_181 ?_
          refine bv_iconst (v := 1) dX12_book_182 (by decide) ?_
          refine bv_iadd dX12_book_183 ?_
          refine bw_iast hN r14 dX12_book_184 ?_
          refine bv_iinc (j := 3) (v := (x3 + 1)) (ls1 := [(0, .ref x0), (1, .int x1), (2, .int x2), (3, .int (x3 + 1))]) dX12_book_185 rfl rfl (by decide) rfl rfl ?_
          refine bv_goto (tgt := 111) dX12_book_188 (by decide) ?_
          exact ih _ _ _ _ h K0
        · replace h := bu_f h cc
          refine bv_iload_n dX12_book_170 3 rfl ?_
          refine bv_istore_n (ls1 := [(0, .ref x0), (1, .int x1), (2, .int x3), (3, .int x3)]) dX12_book_171 (by decide) rfl rfl ?_
          refine bv_goto (tgt := 185) dX12_book_172 (by decide) ?_
          refine bv_iinc (j := 3) (v := (x3 + 1)) (ls1 := [(0, .ref x0), (1, .int x1), (2, .int x3), (3, .int (x3 + 1))]) dX12_book_185 rfl rfl (by decide) rfl rfl ?_
          refine bv_goto (tgt := 111) dX12_book_188 (by decide) ?_
          exact ih _ _ _ _ h K0
def f_X12_book_l239 (x0 : Nat) (x1 : Int32) (x2 : Int32) : Nat → Int32 → bm_M → Option (bm_M)
  | 0, _, _ => none
  | k + 1, x3, M => (if 45 ≤ x3 then some M else ((M.2.2 x0 22).bind fun a1 => ((M.2.2 x0 23).bind fun a3 => (if bm_ia a3 0 x3 = true then (if bm_ia a1 0 ((45 * ((M.1 x0 24) - 1)) + x3) = true then f_X12_book_l239 x0 x1 x2 k (x3 + 1) (bm_sI M a1 ((45 * ((M.1 x0 24) - 1)) + x3).toNatClampNeg (M.1 a3 x3.toNatClampNeg)) else none) else none))))
set_option maxHeartbeats 4000000 in
set_option maxRecDepth 100000 in
theorem v_X12_book_l239 {L : bm_L} {d n : Nat} {Q : Option Value → bm_M → Prop} {x0 : Nat} {x1 : Int32} {x2 : Int32} (hN : 181 ≤ n) (q_0 : bm_OK x0 11) : ∀ (k : Nat) (x3 : Int32) (M : bm_M) (r : bm_M), f_X12_book_l239 x0 x1 x2 k x3 M = some r → (∀ yy, yy = r → bm_V L m_X12_book (d + 11) n n n 273 [(0, .ref x0), (1, .int x1), (2, .int x2)] [] yy Q) → bm_V L m_X12_book (d + 11) n n n 239 [(0, .ref x0), (1, .int x1), (2, .int x2), (3, .int x3)] [] M Q := by
  intro k
  induction k with
  | zero => intro x3 M r h; cases (show (none : Option (bm_M)) = some r from h)
  | succ k ih =>
    intro x3 M r h K0
    unfold f_X12_book_l239 at h
    refine bv_iload_n dX12_book_239 3 rfl ?_
    refine bv_bipush (v := 45) dX12_book_240 (by decide) ?_
    refine bv_icmp_ge (tgt := 273) dX12_book_242 (by decide) (fun cc => ?_) (fun cc => ?_)
    · replace h := bu_t h cc
      refine bw_ls (ls1 := [(0, .ref x0), (1, .int x1), (2, .int x2)]) [0, 1, 2] rfl ?_
      obtain rfl := Option.some.inj h
      exact K0 _ rfl
    · replace h := bu_f h cc
      refine bv_aload_n dX12_book_245 0 rfl ?_
      obtain ⟨a1, e2, h⟩ := bu_bd h
      refine bw_getA (a := a1) hN q_0 e2 dX12_book_246 fl_12_53 rfl ?_
      refine bv_bipush (v := 45) dX12_book_249 (by decide) ?_
      refine bv_aload_n dX12_book_251 0 rfl ?_
      refine bw_getI hN q_0 dX12_book_252 fl_12_276 rfl ?_
      refine bv_iconst (v := 1) dX12_book_255 (by decide) ?_
      refine bv_isub dX12_book_256 ?_
      refine bv_imul dX12_book_257 ?_
      refine bv_iload_n dX12_book_258 3 rfl ?_
      refine bv_iadd dX12_book_259 ?_
      refine bv_aload_n dX12_book_260 0 rfl ?_
      obtain ⟨a3, e4, h⟩ := bu_bd h
      refine bw_getA (a := a3) hN q_0 e4 dX12_book_261 fl_12_56 rfl ?_
      refine bv_iload_n dX12_book_264 3 rfl ?_
      obtain ⟨r5, h⟩ := bu_ia h
      refine bw_iald hN r5 dX12_book_265 ?_
      obtain ⟨r6, h⟩ := bu_ia h
      refine bw_iast hN r6 dX12_book_266 ?_
      refine bv_iinc (j := 3) (v := (x3 + 1)) (ls1 := [(0, .ref x0), (1, .int x1), (2, .int x2), (3, .int (x3 + 1))]) dX12_book_267 rfl rfl (by decide) rfl rfl ?_
      refine bv_goto (tgt := 239) dX12_book_270 (by decide) ?_
      exact ih _ _ _ h K0
def f_X12_book (M : bm_M) (x0 : Nat) (x1 : Int32) : Option (Int32 × bm_M) := (if bm_io x0 11 then (if (f_X12_isIn x1 0 1) = true then ((f_X12_taken (bm_sI M x0 0 0) x0 400).bind fun v2 => ((f_X12_next (bm_sI (bm_sI v2 x0 15 0) x0 34 0) x0).bind fun v4 => ((f_X12_book_l39 x0 x1 1000 v4).bind fun rr => match rr with | (Sum.inl y8) => some (((-2) - (y8.1 x0 16)), y8) | (Sum.inr y8) => ((f_X12_tries y8 x0).bind fun v9 => ((f_X12_book_l89 x0 x1 1000 0 v9).bind fun y13 => ((f_X12_book_l111 x0 x1 1000 (-1) 0 y13).bind fun y16 => ((y16.2.2.2 x0 35).bind fun a17 => ((y16.2.2.2 x0 6).bind fun a19 => (if bm_ia a19 0 61 = true then (if bm_ia a17 0 2 = true then ((f_X12_orderly (bm_sI y16.2 a17 (2 : Int32).toNatClampNeg (y16.2.1 a19 (61 : Int32).toNatClampNeg)) x0).bind fun v23 => (if bm_ia a17 0 3 = true then (if x1 = 1 then (if bm_ia a17 0 1 = true then (if ((bm_sI (bm_sI (bm_sI y16.2 a17 (2 : Int32).toNatClampNeg (y16.2.1 a19 (61 : Int32).toNatClampNeg)) a17 (3 : Int32).toNatClampNeg v23) x0 36 (bm_bi true)).1 a17 (1 : Int32).toNatClampNeg) ≤ 0 then (if x1 = 0 then ((f_X12_back (bm_sI (bm_sI (bm_sI y16.2 a17 (2 : Int32).toNatClampNeg (y16.2.1 a19 (61 : Int32).toNatClampNeg)) a17 (3 : Int32).toNatClampNeg v23) x0 36 (bm_bi true)) x0).bind fun v29 => some (y16.1, v29)) else some (y16.1, (bm_sI (bm_sI (bm_sI y16.2 a17 (2 : Int32).toNatClampNeg (y16.2.1 a19 (61 : Int32).toNatClampNeg)) a17 (3 : Int32).toNatClampNeg v23) x0 36 (bm_bi true)))) else ((f_X12_keep (bm_sI (bm_sI (bm_sI y16.2 a17 (2 : Int32).toNatClampNeg (y16.2.1 a19 (61 : Int32).toNatClampNeg)) a17 (3 : Int32).toNatClampNeg v23) x0 36 (bm_bi true)) x0).bind fun v31 => ((f_X12_book_l239 x0 x1 y16.1 1000 0 v31).bind fun y35 => (if x1 = 0 then ((f_X12_back y35 x0).bind fun v36 => some (y16.1, v36)) else some (y16.1, y35))))) else none) else (if x1 = 0 then ((f_X12_back (bm_sI (bm_sI (bm_sI y16.2 a17 (2 : Int32).toNatClampNeg (y16.2.1 a19 (61 : Int32).toNatClampNeg)) a17 (3 : Int32).toNatClampNeg v23) x0 36 (bm_bi true)) x0).bind fun v26 => some (y16.1, v26)) else some (y16.1, (bm_sI (bm_sI (bm_sI y16.2 a17 (2 : Int32).toNatClampNeg (y16.2.1 a19 (61 : Int32).toNatClampNeg)) a17 (3 : Int32).toNatClampNeg v23) x0 36 (bm_bi true))))) else none)) else none) else none))))))))) else some ((-1000), (bm_sI M x0 0 0))) else none)
set_option maxHeartbeats 4000000 in
set_option maxRecDepth 100000 in
theorem c_X12_book {L : bm_L} {d n : Nat} {M : bm_M} {x0 : Nat} {x1 : Int32} {v : Int32 × bm_M} (hN : 181 ≤ n) (h : f_X12_book M x0 x1 = some v) : bm_C L m_X12_book (d + 11) n n [.ref x0, .int x1] M (fun r M' => r = some (.int v.1) ∧ M' = v.2) := by
  refine bm_C.ofV (by decide) (Nat.le_of_ble_eq_true rfl) ?_
  show bm_V L m_X12_book (d + 11) n n n 0 [(0, .ref x0), (1, .int x1)] [] M _
  unfold f_X12_book at h
  refine bv_aload_n dX12_book_0 0 rfl ?_
  refine bv_iconst (v := 0) dX12_book_1 (by decide) ?_
  obtain ⟨q1, h⟩ := bu_io h
  refine bw_putI hN q1 dX12_book_2 fl_12_1 rfl ?_
  refine bv_iload_n dX12_book_5 1 rfl ?_
  refine bv_iconst (v := 0) dX12_book_6 (by decide) ?_
  refine bv_iconst (v := 1) dX12_book_7 (by decide) ?_
  refine bw_callS (As := [.int x1, .int 0, .int 1]) dX12_book_8 mc_12_206 (c_X12_isIn (d := d + 10) hN rfl) rfl rfl (by decide) ?_
  refine bw_ifB_ne (b := (f_X12_isIn x1 0 1)) (tgt := 18) dX12_book_11 (by decide) (fun cc => ?_) (fun cc => ?_)
  · replace h := bu_bt h cc
    refine bv_aload_n dX12_book_18 0 rfl ?_
    refine bv_sipush (v := 400) dX12_book_19 (by decide) ?_
    obtain ⟨v2, p3, h⟩ := bu_bd h
    refine bw_callVv (As := [.int 400]) hN q1 ⟨_, _, rfl⟩ dX12_book_22 mc_12_264 (c_X12_taken (d := d + 10) hN p3) rfl rfl (by decide) ?_
    refine bv_aload_n dX12_book_25 0 rfl ?_
    refine bv_iconst (v := 0) dX12_book_26 (by decide) ?_
    refine bw_putI hN q1 dX12_book_27 fl_12_191 rfl ?_
    refine bv_aload_n dX12_book_30 0 rfl ?_
    refine bv_iconst (v := 0) dX12_book_31 (by decide) ?_
    refine bw_putI hN q1 dX12_book_32 fl_12_435 rfl ?_
    refine bv_aload_n dX12_book_35 0 rfl ?_
    obtain ⟨v4, p5, h⟩ := bu_bd h
    refine bw_callVv (As := []) hN q1 ⟨_, _, rfl⟩ dX12_book_36 mc_12_203 (c_X12_next (d := d + 9) hN p5) rfl rfl (by decide) ?_
    obtain ⟨r6, p7, h⟩ := bu_bd h
    refine v_X12_book_l39 hN q1 1000 _ _ p7 (fun y8 hy => ?_) (fun y8 hy => ?_)
    · subst hy
      refine bv_bipush (v := (-2)) dX12_book_62 (by decide) ?_
      refine bv_aload_n dX12_book_64 0 rfl ?_
      refine bw_getI hN q1 dX12_book_65 fl_12_194 rfl ?_
      refine bv_isub dX12_book_68 ?_
      obtain rfl := Option.some.inj h
      exact bv_iret (x := ((-2) - (y8.1 x0 16))) dX12_book_69 rfl ⟨rfl, rfl⟩
    · subst hy
      refine bv_aload_n dX12_book_83 0 rfl ?_
      obtain ⟨v9, p10, h⟩ := bu_bd h
      refine bw_callVv (As := []) hN q1 ⟨_, _, rfl⟩ dX12_book_84 mc_12_366 (c_X12_tries (d := d + 10) hN p10) rfl rfl (by decide) ?_
      refine bv_iconst (v := 0) dX12_book_87 (by decide) ?_
      refine bv_istore_n (ls1 := [(0, .ref x0), (1, .int x1), (2, .int 0)]) dX12_book_88 (by decide) rfl rfl ?_
      obtain ⟨r11, p12, h⟩ := bu_bd h
      refine v_X12_book_l89 hN q1 1000 _ _ _ p12 (fun y13 hy => ?_)
      · subst hy
        refine bv_iconst (v := (-1)) dX12_book_107 (by decide) ?_
        refine bv_istore_n (ls1 := [(0, .ref x0), (1, .int x1), (2, .int (-1))]) dX12_book_108 (by decide) rfl rfl ?_
        refine bv_iconst (v := 0) dX12_book_109 (by decide) ?_
        refine bv_istore_n (ls1 := [(0, .ref x0), (1, .int x1), (2, .int (-1)), (3, .int 0)]) dX12_book_110 (by decide) rfl rfl ?_
        obtain ⟨r14, p15, h⟩ := bu_bd h
        refine v_X12_book_l111 hN q1 1000 _ _ _ _ p15 (fun y16 hy => ?_)
        · subst hy
          refine bv_aload_n dX12_book_191 0 rfl ?_
          obtain ⟨a17, e18, h⟩ := bu_bd h
          refine bw_getA (a := a17) hN q1 e18 dX12_book_192 fl_12_74 rfl ?_
          refine bv_iconst (v := 2) dX12_book_195 (by decide) ?_
          refine bv_aload_n dX12_book_196 0 rfl ?_
          obtain ⟨a19, e20, h⟩ := bu_bd h
          refine bw_getA (a := a19) hN q1 e20 dX12_book_197 fl_12_33 rfl ?_
          refine bv_bipush (v := 61) dX12_book_200 (by decide) ?_
          obtain ⟨r21, h⟩ := bu_ia h
          refine bw_iald hN r21 dX12_book_202 ?_
          obtain ⟨r22, h⟩ := bu_ia h
          refine bw_iast hN r22 dX12_book_203 ?_
          refine bv_aload_n dX12_book_204 0 rfl ?_
          refine bw_getA (a := a17) hN q1 e18 dX12_book_205 fl_12_74 rfl ?_
          refine bv_iconst (v := 3) dX12_book_208 (by decide) ?_
          refine bv_aload_n dX12_book_209 0 rfl ?_
          obtain ⟨v23, p24, h⟩ := bu_bd h
          refine bw_callV (As := []) hN q1 ⟨_, _, rfl⟩ dX12_book_210 mc_12_316 (c_X12_orderly (d := d + 10) hN p24) rfl rfl (Nat.le_of_ble_eq_true rfl) ?_
          obtain ⟨r25, h⟩ := bu_ia h
          refine bw_iast hN r25 dX12_book_213 ?_
          refine bv_aload_n dX12_book_214 0 rfl ?_
          refine bv_iconst (v := 1) dX12_book_215 (by decide) ?_
          refine bw_putB (b := true) hN q1 dX12_book_216 fl_12_447 rfl ?_
          refine bv_iload_n dX12_book_219 1 rfl ?_
          refine bv_iconst (v := 1) dX12_book_220 (by decide) ?_
          refine bv_icmp_ne (tgt := 273) dX12_book_221 (by decide) (fun cc => ?_) (fun cc => ?_)
          · replace h := bu_f h cc
            refine bv_iload_n dX12_book_273 1 rfl ?_
            refine bv_if_ne (tgt := 281) dX12_book_274 (by decide) (fun cc => ?_) (fun cc => ?_)
            · replace h := bu_f h cc
              refine bv_iload_n dX12_book_281 2 rfl ?_
              obtain rfl := Option.some.inj h
              exact bv_iret (x := y16.1) dX12_book_282 rfl ⟨rfl, rfl⟩
            · replace h := bu_t h cc
              refine bv_aload_n dX12_book_277 0 rfl ?_
              obtain ⟨v26, p27, h⟩ := bu_bd h
              refine bw_callVv (As := []) hN q1 ⟨_, _, rfl⟩ dX12_book_278 mc_12_369 (c_X12_back (d := d + 10) hN p27) rfl rfl (by decide) ?_
              refine bv_iload_n dX12_book_281 2 rfl ?_
              obtain rfl := Option.some.inj h
              exact bv_iret (x := y16.1) dX12_book_282 rfl ⟨rfl, rfl⟩
          · replace h := bu_t h cc
            refine bv_aload_n dX12_book_224 0 rfl ?_
            refine bw_getA (a := a17) hN q1 e18 dX12_book_225 fl_12_74 rfl ?_
            refine bv_iconst (v := 1) dX12_book_228 (by decide) ?_
            obtain ⟨r28, h⟩ := bu_ia h
            refine bw_iald hN r28 dX12_book_229 ?_
            refine bv_if_le (tgt := 273) dX12_book_230 (by decide) (fun cc => ?_) (fun cc => ?_)
            · replace h := bu_t h cc
              refine bv_iload_n dX12_book_273 1 rfl ?_
              refine bv_if_ne (tgt := 281) dX12_book_274 (by decide) (fun cc => ?_) (fun cc => ?_)
              · replace h := bu_f h cc
                refine bv_iload_n dX12_book_281 2 rfl ?_
                obtain rfl := Option.some.inj h
                exact bv_iret (x := y16.1) dX12_book_282 rfl ⟨rfl, rfl⟩
              · replace h := bu_t h cc
                refine bv_aload_n dX12_book_277 0 rfl ?_
                obtain ⟨v29, p30, h⟩ := bu_bd h
                refine bw_callVv (As := []) hN q1 ⟨_, _, rfl⟩ dX12_book_278 mc_12_369 (c_X12_back (d := d + 10) hN p30) rfl rfl (by decide) ?_
                refine bv_iload_n dX12_book_281 2 rfl ?_
                obtain rfl := Option.some.inj h
                exact bv_iret (x := y16.1) dX12_book_282 rfl ⟨rfl, rfl⟩
            · replace h := bu_f h cc
              refine bv_aload_n dX12_book_233 0 rfl ?_
              obtain ⟨v31, p32, h⟩ := bu_bd h
              refine bw_callVv (As := []) hN q1 ⟨_, _, rfl⟩ dX12_book_234 mc_12_344 (c_X12_keep (d := d + 10) hN p32) rfl rfl (by decide) ?_
              refine bv_iconst (v := 0) dX12_book_237 (by decide) ?_
              refine bv_istore_n (ls1 := [(0, .ref x0), (1, .int x1), (2, .int y16.1), (3, .int 0)]) dX12_book_238 (by decide) rfl rfl ?_
              obtain ⟨r33, p34, h⟩ := bu_bd h
              refine v_X12_book_l239 hN q1 1000 _ _ _ p34 (fun y35 hy => ?_)
              · subst hy
                refine bv_iload_n dX12_book_273 1 rfl ?_
                refine bv_if_ne (tgt := 281) dX12_book_274 (by decide) (fun cc => ?_) (fun cc => ?_)
                · replace h := bu_f h cc
                  refine bv_iload_n dX12_book_281 2 rfl ?_
                  obtain rfl := Option.some.inj h
                  exact bv_iret (x := y16.1) dX12_book_282 rfl ⟨rfl, rfl⟩
                · replace h := bu_t h cc
                  refine bv_aload_n dX12_book_277 0 rfl ?_
                  obtain ⟨v36, p37, h⟩ := bu_bd h
                  refine bw_callVv (As := []) hN q1 ⟨_, _, rfl⟩ dX12_book_278 mc_12_369 (c_X12_back (d := d + 10) hN p37) rfl rfl (by decide) ?_
                  refine bv_iload_n dX12_book_281 2 rfl ?_
                  obtain rfl := Option.some.inj h
                  exact bv_iret (x := y16.1) dX12_book_282 rfl ⟨rfl, rfl⟩
  · replace h := bu_bf h cc
    refine bv_sipush (v := (-1000)) dX12_book_14 (by decide) ?_
    obtain rfl := Option.some.inj h
    exact bv_iret (x := (-1000)) dX12_book_17 rfl ⟨rfl, rfl⟩
