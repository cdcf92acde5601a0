def f_X12_told (M : bm_M) (x0 : Nat) (x1 : Int32) : Option (Int32 × bm_M) := (if bm_io x0 11 then (if ((bm_sI M x0 0 0).1 x0 36) = 0 then some ((-1), (bm_sI M x0 0 0)) else (if (f_X12_isIn x1 0 3) = true then ((M.2.2 x0 35).bind fun a2 => (if bm_ia a2 0 x1 = true then some (((bm_sI M x0 0 0).1 a2 x1.toNatClampNeg), (bm_sI M x0 0 0)) else none)) else some ((-1), (bm_sI M x0 0 0)))) else none)
set_option maxHeartbeats 4000000 in
set_option maxRecDepth 100000 in
theorem c_X12_told {L : bm_L} {d n : Nat} {M : bm_M} {x0 : Nat} {x1 : Int32} {v : Int32 × bm_M} (hN : 181 ≤ n) (h : f_X12_told M x0 x1 = some v) : bm_C L m_X12_told (d + 1) n n [.ref x0, .int x1] M (fun r M' => r = some (.int v.1) ∧ M' = v.2) := by
  refine bm_C.ofV (by decide) (Nat.le_of_ble_eq_true rfl) ?_
  show bm_V L m_X12_told (d + 1) n n n 0 [(0, .ref x0), (1, .int x1)] [] M _
  unfold f_X12_told at h
  refine bv_aload_n dX12_told_0 0 rfl ?_
  refine bv_iconst (v := 0) dX12_told_1 (by decide) ?_
  obtain ⟨q1, h⟩ := bu_io h
  refine bw_putI hN q1 dX12_told_2 fl_12_1 rfl ?_
  refine bv_aload_n dX12_told_5 0 rfl ?_
  refine bw_getI hN q1 dX12_told_6 fl_12_447 rfl ?_
  refine bv_if_eq (tgt := 30) dX12_told_9 (by decide) (fun cc => ?_) (fun cc => ?_)
  · replace h := bu_t h cc
    refine bv_iconst (v := (-1)) dX12_told_30 (by decide) ?_
    obtain rfl := Option.some.inj h
    exact bv_iret (x := (-1)) dX12_told_31 rfl ⟨rfl, rfl⟩
  · replace h := bu_f h cc
    refine bv_iload_n dX12_told_12 1 rfl ?_
    refine bv_iconst (v := 0) dX12_told_13 (by decide) ?_
    refine bv_iconst (v := 3) dX12_told_14 (by decide) ?_
    refine bw_callS (As := [.int x1, .int 0, .int 3]) dX12_told_15 mc_12_206 (c_X12_isIn (d := d + 0) hN rfl) rfl rfl (by decide) ?_
    refine bw_ifB_eq (b := (f_X12_isIn x1 0 3)) (tgt := 30) dX12_told_18 (by decide) (fun cc => ?_) (fun cc => ?_)
    · replace h := bu_bf h cc
      refine bv_iconst (v := (-1)) dX12_told_30 (by decide) ?_
      obtain rfl := Option.some.inj h
      exact bv_iret (x := (-1)) dX12_told_31 rfl ⟨rfl, rfl⟩
    · replace h := bu_bt h cc
      refine bv_aload_n dX12_told_21 0 rfl ?_
      obtain ⟨a2, e3, h⟩ := bu_bd h
      refine bw_getA (a := a2) hN q1 e3 dX12_told_22 fl_12_74 rfl ?_
      refine bv_iload_n dX12_told_25 1 rfl ?_
      obtain ⟨r4, h⟩ := bu_ia h
      refine bw_iald hN r4 dX12_told_26 ?_
      refine bv_goto (tgt := 31) dX12_told_27 (by decide) ?_
      obtain rfl := Option.some.inj h
      exact bv_iret (x := ((bm_sI M x0 0 0).1 a2 x1.toNatClampNeg)) dX12_told_31 rfl ⟨rfl, rfl⟩
def f_X12_putCode (M : bm_M) (x0 : Nat) (x1 : Int32) (x2 : Int32) (x3 : Int32) : Option (bm_M) := (if bm_io x0 11 then ((M.2.2 x0 8).bind fun a2 => (if bm_ia a2 0 (3 * (M.1 x0 38)) = true then (if bm_ia a2 0 ((3 * ((bm_sI M a2 (3 * (M.1 x0 38)).toNatClampNeg x1).1 x0 38)) + 1) = true then (if bm_ia a2 0 ((3 * ((bm_sI (bm_sI M a2 (3 * (M.1 x0 38)).toNatClampNeg x1) a2 ((3 * ((bm_sI M a2 (3 * (M.1 x0 38)).toNatClampNeg x1).1 x0 38)) + 1).toNatClampNeg x2).1 x0 38)) + 2) = true then some (bm_sI (bm_sI (bm_sI (bm_sI M a2 (3 * (M.1 x0 38)).toNatClampNeg x1) a2 ((3 * ((bm_sI M a2 (3 * (M.1 x0 38)).toNatClampNeg x1).1 x0 38)) + 1).toNatClampNeg x2) a2 ((3 * ((bm_sI (bm_sI M a2 (3 * (M.1 x0 38)).toNatClampNeg x1) a2 ((3 * ((bm_sI M a2 (3 * (M.1 x0 38)).toNatClampNeg x1).1 x0 38)) + 1).toNatClampNeg x2).1 x0 38)) + 2).toNatClampNeg x3) x0 38 (((bm_sI (bm_sI (bm_sI M a2 (3 * (M.1 x0 38)).toNatClampNeg x1) a2 ((3 * ((bm_sI M a2 (3 * (M.1 x0 38)).toNatClampNeg x1).1 x0 38)) + 1).toNatClampNeg x2) a2 ((3 * ((bm_sI (bm_sI M a2 (3 * (M.1 x0 38)).toNatClampNeg x1) a2 ((3 * ((bm_sI M a2 (3 * (M.1 x0 38)).toNatClampNeg x1).1 x0 38)) + 1).toNatClampNeg x2).1 x0 38)) + 2).toNatClampNeg x3).1 x0 38) + 1)) else none) else none) else none)) else none)
set_option maxHeartbeats 4000000 in
set_option maxRecDepth 100000 in
theorem c_X12_putCode {L : bm_L} {d n : Nat} {M : bm_M} {x0 : Nat} {x1 : Int32} {x2 : Int32} {x3 : Int32} {v : bm_M} (hN : 181 ≤ n) (h : f_X12_putCode M x0 x1 x2 x3 = some v) : bm_C L m_X12_putCode d n n [.ref x0, .int x1, .int x2, .int x3] M (fun r M' => r = none ∧ M' = v) := by
  refine bm_C.ofV (by decide) (Nat.le_of_ble_eq_true rfl) ?_
  show bm_V L m_X12_putCode d n n n 0 [(0, .ref x0), (1, .int x1), (2, .int x2), (3, .int x3)] [] M _
  unfold f_X12_putCode at h
  refine bv_aload_n dX12_putCode_0 0 rfl ?_
  obtain ⟨q1, h⟩ := bu_io h
  obtain ⟨a2, e3, h⟩ := bu_bd h
  refine bw_getA (a := a2) hN q1 e3 dX12_putCode_1 fl_12_40 rfl ?_
  refine bv_iconst (v := 3) dX12_putCode_4 (by decide) ?_
  refine bv_aload_n dX12_putCode_5 0 rfl ?_
  refine bw_getI hN q1 dX12_putCode_6 fl_12_450 rfl ?_
  refine bv_imul dX12_putCode_9 ?_
  refine bv_iload_n dX12_putCode_10 1 rfl ?_
  obtain ⟨r4, h⟩ := bu_ia h
  refine bw_iast hN r4 dX12_putCode_11 ?_
  refine bv_aload_n dX12_putCode_12 0 rfl ?_
  refine bw_getA (a := a2) hN q1 e3 dX12_putCode_13 fl_12_40 rfl ?_
  refine bv_iconst (v := 3) dX12_putCode_16 (by decide) ?_
  refine bv_aload_n dX12_putCode_17 0 rfl ?_
  refine bw_getI hN q1 dX12_putCode_18 fl_12_450 rfl ?_
  refine bv_imul dX12_putCode_21 ?_
  refine bv_iconst (v := 1) dX12_putCode_22 (by decide) ?_
  refine bv_iadd dX12_putCode_23 ?_
  refine bv_iload_n dX12_putCode_24 2 rfl ?_
  obtain ⟨r5, h⟩ := bu_ia h
  refine bw_iast hN r5 dX12_putCode_25 ?_
  refine bv_aload_n dX12_putCode_26 0 rfl ?_
  refine bw_getA (a := a2) hN q1 e3 dX12_putCode_27 fl_12_40 rfl ?_
  refine bv_iconst (v := 3) dX12_putCode_30 (by decide) ?_
  refine bv_aload_n dX12_putCode_31 0 rfl ?_
  refine bw_getI hN q1 dX12_putCode_32 fl_12_450 rfl ?_
  refine bv_imul dX12_putCode_35 ?_
  refine bv_iconst (v := 2) dX12_putCode_36 (by decide) ?_
  refine bv_iadd dX12_putCode_37 ?_
  refine bv_iload_n dX12_putCode_38 3 rfl ?_
  obtain ⟨r6, h⟩ := bu_ia h
  refine bw_iast hN r6 dX12_putCode_39 ?_
  refine bv_aload_n dX12_putCode_40 0 rfl ?_
  refine bv_dup dX12_putCode_41 rfl ?_
  refine bw_getI hN q1 dX12_putCode_42 fl_12_450 rfl ?_
  refine bv_iconst (v := 1) dX12_putCode_45 (by decide) ?_
  refine bv_iadd dX12_putCode_46 ?_
  refine bw_putI hN q1 dX12_putCode_47 fl_12_450 rfl ?_
  obtain rfl := Option.some.inj h
  exact bv_vret dX12_putCode_50 rfl ⟨rfl, rfl⟩
def f_X12_joins_l0 (x0 : Nat) (x1 : Int32) : Nat → bm_M → Option (bm_M)
  | 0, _ => none
  | k + 1, M => (if bm_io x0 11 then (if (M.1 x0 40) ≤ 0 then some M else ((M.2.2 x0 37).bind fun a2 => (if bm_ia a2 0 ((M.1 x0 40) - 1) = true then (if (M.1 a2 ((M.1 x0 40) - 1).toNatClampNeg) = 21 then (if bm_ia a2 0 ((bm_sI M x0 40 ((M.1 x0 40) - 1)).1 x0 40) = true then ((f_X12_putCode (bm_sI M x0 40 ((M.1 x0 40) - 1)) x0 ((bm_sI M x0 40 ((M.1 x0 40) - 1)).1 a2 ((bm_sI M x0 40 ((M.1 x0 40) - 1)).1 x0 40).toNatClampNeg) 0 0).bind fun v6 => f_X12_joins_l0 x0 x1 k v6) else none) else (if (M.1 a2 ((M.1 x0 40) - 1).toNatClampNeg) = 22 then (if x1 = 22 then (if bm_ia a2 0 ((bm_sI M x0 40 ((M.1 x0 40) - 1)).1 x0 40) = true then ((f_X12_putCode (bm_sI M x0 40 ((M.1 x0 40) - 1)) x0 ((bm_sI M x0 40 ((M.1 x0 40) - 1)).1 a2 ((bm_sI M x0 40 ((M.1 x0 40) - 1)).1 x0 40).toNatClampNeg) 0 0).bind fun v9 => f_X12_joins_l0 x0 x1 k v9) else none) else some M) else some M)) else none))) else none)
set_option maxHeartbeats 4000000 in
set_option maxRecDepth 100000 in
theorem v_X12_joins_l0 {L : bm_L} {d n : Nat} {Q : Option Value → bm_M → Prop} {x0 : Nat} {x1 : Int32} (hN : 181 ≤ n) : ∀ (k : Nat) (M : bm_M) (r : bm_M), f_X12_joins_l0 x0 x1 k M = some r → (∀ yy, yy = r → bm_V L m_X12_joins (d + 1) n n n 73 [] [] yy Q) → bm_V L m_X12_joins (d + 1) n n n 0 [(0, .ref x0), (1, .int x1)] [] M Q := by
  intro k
  induction k with
  | zero => intro M r h; cases (show (none : Option (bm_M)) = some r from h)
  | succ k ih =>
    intro M r h K0
    unfold f_X12_joins_l0 at h
    refine bv_aload_n dX12_joins_0 0 rfl ?_
    obtain ⟨q1, h⟩ := bu_io h
    refine bw_getI hN q1 dX12_joins_1 fl_12_453 rfl ?_
    refine bv_if_le (tgt := 73) dX12_joins_4 (by decide) (fun cc => ?_) (fun cc => ?_)
    · replace h := bu_t h cc
      refine bw_ls (ls1 := []) [] rfl ?_
      obtain rfl := Option.some.inj h
      exact K0 _ rfl
    · replace h := bu_f h cc
      refine bv_aload_n dX12_joins_7 0 rfl ?_
      obtain ⟨a2, e3, h⟩ := bu_bd h
      refine bw_getA (a := a2) hN q1 e3 dX12_joins_8 fl_12_77 rfl ?_
      refine bv_aload_n dX12_joins_11 0 rfl ?_
      refine bw_getI hN q1 dX12_joins_12 fl_12_453 rfl ?_
      refine bv_iconst (v := 1) dX12_joins_15 (by decide) ?_
      refine bv_isub dX12_joins_16 ?_
      obtain ⟨r4, h⟩ := bu_ia h
      refine bw_iald hN r4 dX12_joins_17 ?_
      refine bv_bipush (v := 21) dX12_joins_18 (by decide) ?_
      refine bv_icmp_eq (tgt := 45) dX12_joins_20 (by decide) (fun cc => ?_) (fun cc => ?_)
      · replace h := bu_t h cc
        refine bv_aload_n dX12_joins_45 0 rfl ?_
        refine bv_dup dX12_joins_46 rfl ?_
        refine bw_getI hN q1 dX12_joins_47 fl_12_453 rfl ?_
        refine bv_iconst (v := 1) dX12_joins_50 (by decide) ?_
        refine bv_isub dX12_joins_51 ?_
        refine bw_putI hN q1 dX12_joins_52 fl_12_453 rfl ?_
        refine bv_aload_n dX12_joins_55 0 rfl ?_
        refine bv_aload_n dX12_joins_56 0 rfl ?_
        refine bw_getA (a := a2) hN q1 e3 dX12_joins_57 fl_12_77 rfl ?_
        refine bv_aload_n dX12_joins_60 0 rfl ?_
        refine bw_getI hN q1 dX12_joins_61 fl_12_453 rfl ?_
        obtain ⟨r5, h⟩ := bu_ia h
        refine bw_iald hN r5 dX12_joins_64 ?_
        refine bv_iconst (v := 0) dX12_joins_65 (by decide) ?_
        refine bv_iconst (v := 0) dX12_joins_66 (by decide) ?_
        obtain ⟨v6, p7, h⟩ := bu_bd h
        refine bw_callVv (As := [.int ((bm_sI M x0 40 ((M.1 x0 40) - 1)).1 a2 ((bm_sI M x0 40 ((M.1 x0 40) - 1)).1 x0 40).toNatClampNeg), .int 0, .int 0]) hN q1 ⟨_, _, rfl⟩ dX12_joins_67 mc_12_456 (c_X12_putCode (d := d + 0) hN p7) rfl rfl (by decide) ?_
        refine bv_goto (tgt := 0) dX12_joins_70 (by decide) ?_
        exact ih _ _ h K0
      · replace h := bu_f h cc
        refine bv_aload_n dX12_joins_23 0 rfl ?_
        refine bw_getA (a := a2) hN q1 e3 dX12_joins_24 fl_12_77 rfl ?_
        refine bv_aload_n dX12_joins_27 0 rfl ?_
        refine bw_getI hN q1 dX12_joins_28 fl_12_453 rfl ?_
        refine bv_iconst (v := 1) dX12_joins_31 (by decide) ?_
        refine bv_isub dX12_joins_32 ?_
        refine bw_iald hN r4 dX12_joins_33 ?_
        refine bv_bipush (v := 22) dX12_joins_34 (by decide) ?_
        refine bv_icmp_ne (tgt := 73) dX12_joins_36 (by decide) (fun cc => ?_) (fun cc => ?_)
        · replace h := bu_f h cc
          refine bw_ls (ls1 := []) [] rfl ?_
          obtain rfl := Option.some.inj h
          exact K0 _ rfl
        · replace h := bu_t h cc
          refine bv_iload_n dX12_joins_39 1 rfl ?_
          refine bv_bipush (v := 22) dX12_joins_40 (by decide) ?_
          refine bv_icmp_ne (tgt := 73) dX12_joins_42 (by decide) (fun cc => ?_) (fun cc => ?_)
          · replace h := bu_f h cc
            refine bw_ls (ls1 := []) [] rfl ?_
            obtain rfl := Option.some.inj h
            exact K0 _ rfl
          · replace h := bu_t h cc
            refine bv_aload_n dX12_joins_45 0 rfl ?_
            refine bv_dup dX12_joins_46 rfl ?_
            refine bw_getI hN q1 dX12_joins_47 fl_12_453 rfl ?_
            refine bv_iconst (v := 1) dX12_joins_50 (by decide) ?_
            refine bv_isub dX12_joins_51 ?_
            refine bw_putI hN q1 dX12_joins_52 fl_12_453 rfl ?_
            refine bv_aload_n dX12_joins_55 0 rfl ?_
            refine bv_aload_n dX12_joins_56 0 rfl ?_
            refine bw_getA (a := a2) hN q1 e3 dX12_joins_57 fl_12_77 rfl ?_
            refine bv_aload_n dX12_joins_60 0 rfl ?_
            refine bw_getI hN q1 dX12_joins_61 fl_12_453 rfl ?_
            obtain ⟨r8, h⟩ := bu_ia h
            refine bw_iald hN r8 dX12_joins_64 ?_
            refine bv_iconst (v := 0) dX12_joins_65 (by decide) ?_
            refine bv_iconst (v := 0) dX12_joins_66 (by decide) ?_
            obtain ⟨v9, p10, h⟩ := bu_bd h
            refine bw_callVv (As := [.int ((bm_sI M x0 40 ((M.1 x0 40) - 1)).1 a2 ((bm_sI M x0 40 ((M.1 x0 40) - 1)).1 x0 40).toNatClampNeg), .int 0, .int 0]) hN q1 ⟨_, _, rfl⟩ dX12_joins_67 mc_12_456 (c_X12_putCode (d := d + 0) hN p10) rfl rfl (by decide) ?_
            refine bv_goto (tgt := 0) dX12_joins_70 (by decide) ?_
            exact ih _ _ h K0
def f_X12_joins (M : bm_M) (x0 : Nat) (x1 : Int32) : Option (bm_M) := ((f_X12_joins_l0 x0 x1 1000 M).bind fun y3 => some y3)
set_option maxHeartbeats 4000000 in
set_option maxRecDepth 100000 in
theorem c_X12_joins {L : bm_L} {d n : Nat} {M : bm_M} {x0 : Nat} {x1 : Int32} {v : bm_M} (hN : 181 ≤ n) (h : f_X12_joins M x0 x1 = some v) : bm_C L m_X12_joins (d + 1) n n [.ref x0, .int x1] M (fun r M' => r = none ∧ M' = v) := by
  refine bm_C.ofV (by decide) (Nat.le_of_ble_eq_true rfl) ?_
  show bm_V L m_X12_joins (d + 1) n n n 0 [(0, .ref x0), (1, .int x1)] [] M _
  unfold f_X12_joins at h
  obtain ⟨r1, p2, h⟩ := bu_bd h
  refine v_X12_joins_l0 hN 1000 _ _ p2 (fun y3 hy => ?_)
  · subst hy
    obtain rfl := Option.some.inj h
    exact bv_vret dX12_joins_73 rfl ⟨rfl, rfl⟩
def f_X12_nots_l0 (x0 : Nat) : Nat → bm_M → Option (bm_M)
  | 0, _ => none
  | k + 1, M => (if bm_io x0 11 then (if (M.1 x0 40) ≤ 0 then some M else ((M.2.2 x0 37).bind fun a2 => (if bm_ia a2 0 ((M.1 x0 40) - 1) = true then (if (M.1 a2 ((M.1 x0 40) - 1).toNatClampNeg) = 20 then ((f_X12_putCode (bm_sI (bm_sI M x0 40 ((M.1 x0 40) - 1)) x0 41 (((bm_sI M x0 40 ((M.1 x0 40) - 1)).1 x0 41) - 1)) x0 20 0 0).bind fun v5 => f_X12_nots_l0 x0 k v5) else some M) else none))) else none)
set_option maxHeartbeats 4000000 in
set_option maxRecDepth 100000 in
theorem v_X12_nots_l0 {L : bm_L} {d n : Nat} {Q : Option Value → bm_M → Prop} {x0 : Nat} (hN : 181 ≤ n) : ∀ (k : Nat) (M : bm_M) (r : bm_M), f_X12_nots_l0 x0 k M = some r → (∀ yy, yy = r → bm_V L m_X12_nots (d + 1) n n n 54 [] [] yy Q) → bm_V L m_X12_nots (d + 1) n n n 0 [(0, .ref x0)] [] M Q := by
  intro k
  induction k with
  | zero => intro M r h; cases (show (none : Option (bm_M)) = some r from h)
  | succ k ih =>
    intro M r h K0
    unfold f_X12_nots_l0 at h
    refine bv_aload_n dX12_nots_0 0 rfl ?_
    obtain ⟨q1, h⟩ := bu_io h
    refine bw_getI hN q1 dX12_nots_1 fl_12_453 rfl ?_
    refine bv_if_le (tgt := 54) dX12_nots_4 (by decide) (fun cc => ?_) (fun cc => ?_)
    · replace h := bu_t h cc
      refine bw_ls (ls1 := []) [] rfl ?_
      obtain rfl := Option.some.inj h
      exact K0 _ rfl
    · replace h := bu_f h cc
      refine bv_aload_n dX12_nots_7 0 rfl ?_
      obtain ⟨a2, e3, h⟩ := bu_bd h
      refine bw_getA (a := a2) hN q1 e3 dX12_nots_8 fl_12_77 rfl ?_
      refine bv_aload_n dX12_nots_11 0 rfl ?_
      refine bw_getI hN q1 dX12_nots_12 fl_12_453 rfl ?_
      refine bv_iconst (v := 1) dX12_nots_15 (by decide) ?_
      refine bv_isub dX12_nots_16 ?_
      obtain ⟨r4, h⟩ := bu_ia h
      refine bw_iald hN r4 dX12_nots_17 ?_
      refine bv_bipush (v := 20) dX12_nots_18 (by decide) ?_
      refine bv_icmp_ne (tgt := 54) dX12_nots_20 (by decide) (fun cc => ?_) (fun cc => ?_)
      · replace h := bu_f h cc
        refine bw_ls (ls1 := []) [] rfl ?_
        obtain rfl := Option.some.inj h
        exact K0 _ rfl
      · replace h := bu_t h cc
        refine bv_aload_n dX12_nots_23 0 rfl ?_
        refine bv_dup dX12_nots_24 rfl ?_
        refine bw_getI hN q1 dX12_nots_25 fl_12_453 rfl ?_
        refine bv_iconst (v := 1) dX12_nots_28 (by decide) ?_
        refine bv_isub dX12_nots_29 ?_
        refine bw_putI hN q1 dX12_nots_30 fl_12_453 rfl ?_
        refine bv_aload_n dX12_nots_33 0 rfl ?_
        refine bv_dup dX12_nots_34 rfl ?_
        refine bw_getI hN q1 dX12_nots_35 fl_12_460 rfl ?_
        refine bv_iconst (v := 1) dX12_nots_38 (by decide) ?_
        refine bv_isub dX12_nots_39 ?_
        refine bw_putI hN q1 dX12_nots_40 fl_12_460 rfl ?_
        refine bv_aload_n dX12_nots_43 0 rfl ?_
        refine bv_bipush (v := 20) dX12_nots_44 (by decide) ?_
        refine bv_iconst (v := 0) dX12_nots_46 (by decide) ?_
        refine bv_iconst (v := 0) dX12_nots_47 (by decide) ?_
        obtain ⟨v5, p6, h⟩ := bu_bd h
        refine bw_callVv (As := [.int 20, .int 0, .int 0]) hN q1 ⟨_, _, rfl⟩ dX12_nots_48 mc_12_456 (c_X12_putCode (d := d + 0) hN p6) rfl rfl (by decide) ?_
        refine bv_goto (tgt := 0) dX12_nots_51 (by decide) ?_
        exact ih _ _ h K0
def f_X12_nots (M : bm_M) (x0 : Nat) : Option (bm_M) := ((f_X12_nots_l0 x0 1000 M).bind fun y3 => some y3)
set_option maxHeartbeats 4000000 in
set_option maxRecDepth 100000 in
theorem c_X12_nots {L : bm_L} {d n : Nat} {M : bm_M} {x0 : Nat} {v : bm_M} (hN : 181 ≤ n) (h : f_X12_nots M x0 = some v) : bm_C L m_X12_nots (d + 1) n n [.ref x0] M (fun r M' => r = none ∧ M' = v) := by
  refine bm_C.ofV (by decide) (Nat.le_of_ble_eq_true rfl) ?_
  show bm_V L m_X12_nots (d + 1) n n n 0 [(0, .ref x0)] [] M _
  unfold f_X12_nots at h
  obtain ⟨r1, p2, h⟩ := bu_bd h
  refine v_X12_nots_l0 hN 1000 _ _ p2 (fun y3 hy => ?_)
  · subst hy
    obtain rfl := Option.some.inj h
    exact bv_vret dX12_nots_54 rfl ⟨rfl, rfl⟩
def f_X12_leafOf (M : bm_M) (x0 : Nat) : Option (Int32) := (if bm_io x0 11 then ((f_X12_isWord M x0 107148367717744).bind fun v2 => (if v2 = true then some 0 else ((f_X12_isWord M x0 126922448463204).bind fun v4 => (if v4 = true then some 1 else ((f_X12_isWord M x0 117026742756708).bind fun v6 => (if v6 = true then some 2 else ((f_X12_isWord M x0 1735550329).bind fun v8 => (if v8 = true then some 3 else ((f_X12_isWord M x0 1768189029).bind fun v10 => (if v10 = true then some 4 else ((f_X12_isWord M x0 504363246962).bind fun v12 => (if v12 = true then some 5 else ((f_X12_isWord M x0 1936024947).bind fun v14 => (if v14 = true then some 6 else ((f_X12_isWord M x0 6840691).bind fun v16 => (if v16 = true then some 7 else ((f_X12_isWord M x0 1651666807).bind fun v18 => (if v18 = true then some 8 else ((f_X12_isWord M x0 448377483876).bind fun v20 => (if v20 = true then some 9 else ((f_X12_isWord M x0 1819243380).bind fun v22 => (if v22 = true then some 10 else ((f_X12_isWord M x0 121450625394034).bind fun v24 => (if v24 = true then some 11 else some (-1))))))))))))))))))))))))) else none)
set_option maxHeartbeats 4000000 in
set_option maxRecDepth 100000 in
theorem c_X12_leafOf {L : bm_L} {d n : Nat} {M : bm_M} {x0 : Nat} {v : Int32} (hN : 181 ≤ n) (h : f_X12_leafOf M x0 = some v) : bm_C L m_X12_leafOf (d + 1) n n [.ref x0] M (fun r M' => r = some (.int v) ∧ M' = M) := by
  refine bm_C.ofV (by decide) (Nat.le_of_ble_eq_true rfl) ?_
  show bm_V L m_X12_leafOf (d + 1) n n n 0 [(0, .ref x0)] [] M _
  unfold f_X12_leafOf at h
  refine bv_aload_n dX12_leafOf_0 0 rfl ?_
  refine bv_ldc2 (v := 107148367717744) dX12_leafOf_1 cst_12_143 ?_
  obtain ⟨q1, h⟩ := bu_io h
  obtain ⟨v2, p3, h⟩ := bu_bd h
  refine bw_callV (As := [.long 107148367717744]) hN q1 ⟨_, _, rfl⟩ dX12_leafOf_4 mc_12_237 (c_X12_isWord (d := d + 0) hN p3) rfl rfl (by decide) ?_
  refine bw_ifB_eq (b := v2) (tgt := 14) dX12_leafOf_7 (by decide) (fun cc => ?_) (fun cc => ?_)
  · replace h := bu_bf h cc
    refine bv_aload_n dX12_leafOf_14 0 rfl ?_
    refine bv_ldc2 (v := 126922448463204) dX12_leafOf_15 cst_12_145 ?_
    obtain ⟨v4, p5, h⟩ := bu_bd h
    refine bw_callV (As := [.long 126922448463204]) hN q1 ⟨_, _, rfl⟩ dX12_leafOf_18 mc_12_237 (c_X12_isWord (d := d + 0) hN p5) rfl rfl (by decide) ?_
    refine bw_ifB_eq (b := v4) (tgt := 28) dX12_leafOf_21 (by decide) (fun cc => ?_) (fun cc => ?_)
    · replace h := bu_bf h cc
      refine bv_aload_n dX12_leafOf_28 0 rfl ?_
      refine bv_ldc2 (v := 117026742756708) dX12_leafOf_29 cst_12_95 ?_
      obtain ⟨v6, p7, h⟩ := bu_bd h
      refine bw_callV (As := [.long 117026742756708]) hN q1 ⟨_, _, rfl⟩ dX12_leafOf_32 mc_12_237 (c_X12_isWord (d := d + 0) hN p7) rfl rfl (by decide) ?_
      refine bw_ifB_eq (b := v6) (tgt := 42) dX12_leafOf_35 (by decide) (fun cc => ?_) (fun cc => ?_)
      · replace h := bu_bf h cc
        refine bv_aload_n dX12_leafOf_42 0 rfl ?_
        refine bv_ldc2 (v := 1735550329) dX12_leafOf_43 cst_12_97 ?_
        obtain ⟨v8, p9, h⟩ := bu_bd h
        refine bw_callV (As := [.long 1735550329]) hN q1 ⟨_, _, rfl⟩ dX12_leafOf_46 mc_12_237 (c_X12_isWord (d := d + 0) hN p9) rfl rfl (by decide) ?_
        refine bw_ifB_eq (b := v8) (tgt := 56) dX12_leafOf_49 (by decide) (fun cc => ?_) (fun cc => ?_)
        · replace h := bu_bf h cc
          refine bv_aload_n dX12_leafOf_56 0 rfl ?_
          refine bv_ldc2 (v := 1768189029) dX12_leafOf_57 cst_12_147 ?_
          obtain ⟨v10, p11, h⟩ := bu_bd h
          refine bw_callV (As := [.long 1768189029]) hN q1 ⟨_, _, rfl⟩ dX12_leafOf_60 mc_12_237 (c_X12_isWord (d := d + 0) hN p11) rfl rfl (by decide) ?_
          refine bw_ifB_eq (b := v10) (tgt := 70) dX12_leafOf_63 (by decide) (fun cc => ?_) (fun cc => ?_)
          · replace h := bu_bf h cc
            refine bv_aload_n dX12_leafOf_70 0 rfl ?_
            refine bv_ldc2 (v := 504363246962) dX12_leafOf_71 cst_12_99 ?_
            obtain ⟨v12, p13, h⟩ := bu_bd h
            refine bw_callV (As := [.long 504363246962]) hN q1 ⟨_, _, rfl⟩ dX12_leafOf_74 mc_12_237 (c_X12_isWord (d := d + 0) hN p13) rfl rfl (by decide) ?_
            refine bw_ifB_eq (b := v12) (tgt := 84) dX12_leafOf_77 (by decide) (fun cc => ?_) (fun cc => ?_)
            · replace h := bu_bf h cc
              refine bv_aload_n dX12_leafOf_84 0 rfl ?_
              refine bv_ldc2 (v := 1936024947) dX12_leafOf_85 cst_12_149 ?_
              obtain ⟨v14, p15, h⟩ := bu_bd h
              refine bw_callV (As := [.long 1936024947]) hN q1 ⟨_, _, rfl⟩ dX12_leafOf_88 mc_12_237 (c_X12_isWord (d := d + 0) hN p15) rfl rfl (by decide) ?_
              refine bw_ifB_eq (b := v14) (tgt := 99) dX12_leafOf_91 (by decide) (fun cc => ?_) (fun cc => ?_)
              · replace h := bu_bf h cc
                refine bv_aload_n dX12_leafOf_99 0 rfl ?_
                refine bv_ldc2 (v := 6840691) dX12_leafOf_100 cst_12_151 ?_
                obtain ⟨v16, p17, h⟩ := bu_bd h
                refine bw_callV (As := [.long 6840691]) hN q1 ⟨_, _, rfl⟩ dX12_leafOf_103 mc_12_237 (c_X12_isWord (d := d + 0) hN p17) rfl rfl (by decide) ?_
                refine bw_ifB_eq (b := v16) (tgt := 114) dX12_leafOf_106 (by decide) (fun cc => ?_) (fun cc => ?_)
                · replace h := bu_bf h cc
                  refine bv_aload_n dX12_leafOf_114 0 rfl ?_
                  refine bv_ldc2 (v := 1651666807) dX12_leafOf_115 cst_12_153 ?_
                  obtain ⟨v18, p19, h⟩ := bu_bd h
                  refine bw_callV (As := [.long 1651666807]) hN q1 ⟨_, _, rfl⟩ dX12_leafOf_118 mc_12_237 (c_X12_isWord (d := d + 0) hN p19) rfl rfl (by decide) ?_
                  refine bw_ifB_eq (b := v18) (tgt := 129) dX12_leafOf_121 (by decide) (fun cc => ?_) (fun cc => ?_)
                  · replace h := bu_bf h cc
                    refine bv_aload_n dX12_leafOf_129 0 rfl ?_
                    refine bv_ldc2 (v := 448377483876) dX12_leafOf_130 cst_12_155 ?_
                    obtain ⟨v20, p21, h⟩ := bu_bd h
                    refine bw_callV (As := [.long 448377483876]) hN q1 ⟨_, _, rfl⟩ dX12_leafOf_133 mc_12_237 (c_X12_isWord (d := d + 0) hN p21) rfl rfl (by decide) ?_
                    refine bw_ifB_eq (b := v20) (tgt := 144) dX12_leafOf_136 (by decide) (fun cc => ?_) (fun cc => ?_)
                    · replace h := bu_bf h cc
                      refine bv_aload_n dX12_leafOf_144 0 rfl ?_
                      refine bv_ldc2 (v := 1819243380) dX12_leafOf_145 cst_12_157 ?_
                      obtain ⟨v22, p23, h⟩ := bu_bd h
                      refine bw_callV (As := [.long 1819243380]) hN q1 ⟨_, _, rfl⟩ dX12_leafOf_148 mc_12_237 (c_X12_isWord (d := d + 0) hN p23) rfl rfl (by decide) ?_
                      refine bw_ifB_eq (b := v22) (tgt := 159) dX12_leafOf_151 (by decide) (fun cc => ?_) (fun cc => ?_)
                      · replace h := bu_bf h cc
                        refine bv_aload_n dX12_leafOf_159 0 rfl ?_
                        refine bv_ldc2 (v := 121450625394034) dX12_leafOf_160 cst_12_159 ?_
                        obtain ⟨v24, p25, h⟩ := bu_bd h
                        refine bw_callV (As := [.long 121450625394034]) hN q1 ⟨_, _, rfl⟩ dX12_leafOf_163 mc_12_237 (c_X12_isWord (d := d + 0) hN p25) rfl rfl (by decide) ?_
                        refine bw_ifB_eq (b := v24) (tgt := 174) dX12_leafOf_166 (by decide) (fun cc => ?_) (fun cc => ?_)
                        · replace h := bu_bf h cc
                          refine bv_iconst (v := (-1)) dX12_leafOf_174 (by decide) ?_
                          obtain rfl := Option.some.inj h
                          exact bv_iret (x := (-1)) dX12_leafOf_175 rfl ⟨rfl, rfl⟩
                        · replace h := bu_bt h cc
                          refine bv_bipush (v := 11) dX12_leafOf_169 (by decide) ?_
                          refine bv_goto (tgt := 175) dX12_leafOf_171 (by decide) ?_
                          obtain rfl := Option.some.inj h
                          exact bv_iret (x := 11) dX12_leafOf_175 rfl ⟨rfl, rfl⟩
                      · replace h := bu_bt h cc
                        refine bv_bipush (v := 10) dX12_leafOf_154 (by decide) ?_
                        refine bv_goto (tgt := 175) dX12_leafOf_156 (by decide) ?_
                        obtain rfl := Option.some.inj h
                        exact bv_iret (x := 10) dX12_leafOf_175 rfl ⟨rfl, rfl⟩
                    · replace h := bu_bt h cc
                      refine bv_bipush (v := 9) dX12_leafOf_139 (by decide) ?_
                      refine bv_goto (tgt := 175) dX12_leafOf_141 (by decide) ?_
                      obtain rfl := Option.some.inj h
                      exact bv_iret (x := 9) dX12_leafOf_175 rfl ⟨rfl, rfl⟩
                  · replace h := bu_bt h cc
                    refine bv_bipush (v := 8) dX12_leafOf_124 (by decide) ?_
                    refine bv_goto (tgt := 175) dX12_leafOf_126 (by decide) ?_
                    obtain rfl := Option.some.inj h
                    exact bv_iret (x := 8) dX12_leafOf_175 rfl ⟨rfl, rfl⟩
                · replace h := bu_bt h cc
                  refine bv_bipush (v := 7) dX12_leafOf_109 (by decide) ?_
                  refine bv_goto (tgt := 175) dX12_leafOf_111 (by decide) ?_
                  obtain rfl := Option.some.inj h
                  exact bv_iret (x := 7) dX12_leafOf_175 rfl ⟨rfl, rfl⟩
              · replace h := bu_bt h cc
                refine bv_bipush (v := 6) dX12_leafOf_94 (by decide) ?_
                refine bv_goto (tgt := 175) dX12_leafOf_96 (by decide) ?_
                obtain rfl := Option.some.inj h
                exact bv_iret (x := 6) dX12_leafOf_175 rfl ⟨rfl, rfl⟩
            · replace h := bu_bt h cc
              refine bv_iconst (v := 5) dX12_leafOf_80 (by decide) ?_
              refine bv_goto (tgt := 175) dX12_leafOf_81 (by decide) ?_
              obtain rfl := Option.some.inj h
              exact bv_iret (x := 5) dX12_leafOf_175 rfl ⟨rfl, rfl⟩
          · replace h := bu_bt h cc
            refine bv_iconst (v := 4) dX12_leafOf_66 (by decide) ?_
            refine bv_goto (tgt := 175) dX12_leafOf_67 (by decide) ?_
            obtain rfl := Option.some.inj h
            exact bv_iret (x := 4) dX12_leafOf_175 rfl ⟨rfl, rfl⟩
        · replace h := bu_bt h cc
          refine bv_iconst (v := 3) dX12_leafOf_52 (by decide) ?_
          refine bv_goto (tgt := 175) dX12_leafOf_53 (by decide) ?_
          obtain rfl := Option.some.inj h
          exact bv_iret (x := 3) dX12_leafOf_175 rfl ⟨rfl, rfl⟩
      · replace h := bu_bt h cc
        refine bv_iconst (v := 2) dX12_leafOf_38 (by decide) ?_
        refine bv_goto (tgt := 175) dX12_leafOf_39 (by decide) ?_
        obtain rfl := Option.some.inj h
        exact bv_iret (x := 2) dX12_leafOf_175 rfl ⟨rfl, rfl⟩
    · replace h := bu_bt h cc
      refine bv_iconst (v := 1) dX12_leafOf_24 (by decide) ?_
      refine bv_goto (tgt := 175) dX12_leafOf_25 (by decide) ?_
      obtain rfl := Option.some.inj h
      exact bv_iret (x := 1) dX12_leafOf_175 rfl ⟨rfl, rfl⟩
  · replace h := bu_bt h cc
    refine bv_iconst (v := 0) dX12_leafOf_10 (by decide) ?_
    refine bv_goto (tgt := 175) dX12_leafOf_11 (by decide) ?_
    obtain rfl := Option.some.inj h
    exact bv_iret (x := 0) dX12_leafOf_175 rfl ⟨rfl, rfl⟩
def f_X12_operand (M : bm_M) (x0 : Nat) : Option (Bool × bm_M) := (if bm_io x0 11 then ((f_X12_isWord M x0 7237492).bind fun v2 => ((f_X12_isSign M x0 40).bind fun v4 => ((f_X12_leafOf M x0).bind fun v6 => (if v2 = true then (if (M.1 x0 39) = 20 then ((f_X12_bad M x0 4).bind fun v8 => some (v8.1, v8.2)) else (if (M.1 x0 41) ≤ 8 then ((f_X12_next (bm_sI M x0 39 ((M.1 x0 39) + 1)) x0).bind fun v10 => (if v2 = true then ((v10.2.2 x0 37).bind fun a12 => (if v2 = true then (if bm_ia a12 0 (v10.1 x0 40) = true then some (true, (bm_sI (bm_sI (bm_sI v10 a12 (v10.1 x0 40).toNatClampNeg 20) x0 40 (((bm_sI v10 a12 (v10.1 x0 40).toNatClampNeg 20).1 x0 40) + 1)) x0 41 (((bm_sI (bm_sI v10 a12 (v10.1 x0 40).toNatClampNeg 20) x0 40 (((bm_sI v10 a12 (v10.1 x0 40).toNatClampNeg 20).1 x0 40) + 1)).1 x0 41) + 1))) else none) else (if bm_ia a12 0 (v10.1 x0 40) = true then some (true, (bm_sI (bm_sI (bm_sI v10 a12 (v10.1 x0 40).toNatClampNeg 23) x0 40 (((bm_sI v10 a12 (v10.1 x0 40).toNatClampNeg 23).1 x0 40) + 1)) x0 41 (((bm_sI (bm_sI v10 a12 (v10.1 x0 40).toNatClampNeg 23) x0 40 (((bm_sI v10 a12 (v10.1 x0 40).toNatClampNeg 23).1 x0 40) + 1)).1 x0 41) + 1))) else none))) else (if v4 = true then ((v10.2.2 x0 37).bind fun a50 => (if v2 = true then (if bm_ia a50 0 (v10.1 x0 40) = true then some (true, (bm_sI (bm_sI (bm_sI v10 a50 (v10.1 x0 40).toNatClampNeg 20) x0 40 (((bm_sI v10 a50 (v10.1 x0 40).toNatClampNeg 20).1 x0 40) + 1)) x0 41 (((bm_sI (bm_sI v10 a50 (v10.1 x0 40).toNatClampNeg 20) x0 40 (((bm_sI v10 a50 (v10.1 x0 40).toNatClampNeg 20).1 x0 40) + 1)).1 x0 41) + 1))) else none) else (if bm_ia a50 0 (v10.1 x0 40) = true then some (true, (bm_sI (bm_sI (bm_sI v10 a50 (v10.1 x0 40).toNatClampNeg 23) x0 40 (((bm_sI v10 a50 (v10.1 x0 40).toNatClampNeg 23).1 x0 40) + 1)) x0 41 (((bm_sI (bm_sI v10 a50 (v10.1 x0 40).toNatClampNeg 23) x0 40 (((bm_sI v10 a50 (v10.1 x0 40).toNatClampNeg 23).1 x0 40) + 1)).1 x0 41) + 1))) else none))) else (if 5 ≤ v6 then (if 8 ≤ v6 then (if ((bm_sI v10 x0 42 (bm_bi true)).1 x0 11) = 3 then (if ((bm_sI v10 x0 42 (bm_bi true)).1 x0 14) < 60 then ((f_X12_bad (bm_sI v10 x0 42 (bm_bi true)) x0 1).bind fun v18 => some (v18.1, v18.2)) else (if ((bm_sI v10 x0 42 (bm_bi true)).1 x0 14) ≤ 62 then ((f_X12_next (bm_sI v10 x0 42 (bm_bi true)) x0).bind fun v20 => (if (v20.1 x0 11) = 2 then ((f_X12_putCode v20 x0 v6 ((bm_sI v10 x0 42 (bm_bi true)).1 x0 14) (v20.1 x0 14)).bind fun v22 => ((f_X12_next v22 x0).bind fun v24 => some (true, v24))) else ((f_X12_bad v20 x0 1).bind fun v26 => some (v26.1, v26.2)))) else ((f_X12_bad (bm_sI v10 x0 42 (bm_bi true)) x0 1).bind fun v28 => some (v28.1, v28.2)))) else ((f_X12_bad (bm_sI v10 x0 42 (bm_bi true)) x0 1).bind fun v16 => some (v16.1, v16.2))) else (if 7 ≤ v6 then ((v10.2.2 x0 6).bind fun a30 => (if bm_ia a30 0 1 = true then ((f_X12_looksAt (bm_sI v10 x0 42 (bm_bi true)) x0 8 ((bm_sI v10 x0 42 (bm_bi true)).1 a30 (1 : Int32).toNatClampNeg)).bind fun v33 => (if v33.1 = true then ((f_X12_putCode v33.2 x0 v6 0 (v33.2.1 x0 18)).bind fun v35 => ((f_X12_next v35 x0).bind fun v37 => some (true, v37))) else some (false, v33.2))) else none)) else ((v10.2.2 x0 6).bind fun a39 => (if bm_ia a39 0 0 = true then ((f_X12_looksAt (bm_sI v10 x0 42 (bm_bi true)) x0 0 ((bm_sI v10 x0 42 (bm_bi true)).1 a39 (0 : Int32).toNatClampNeg)).bind fun v42 => (if v42.1 = true then ((f_X12_putCode v42.2 x0 v6 0 (v42.2.1 x0 18)).bind fun v44 => ((f_X12_next v44 x0).bind fun v46 => some (true, v46))) else some (false, v42.2))) else none)))) else ((f_X12_putCode (bm_sI v10 x0 42 (bm_bi true)) x0 v6 0 0).bind fun v48 => some (true, v48)))))) else ((f_X12_bad M x0 4).bind fun v54 => some (v54.1, v54.2)))) else (if v4 = true then (if (M.1 x0 39) = 20 then ((f_X12_bad M x0 4).bind fun v56 => some (v56.1, v56.2)) else (if (M.1 x0 41) ≤ 8 then ((f_X12_next (bm_sI M x0 39 ((M.1 x0 39) + 1)) x0).bind fun v58 => (if v2 = true then ((v58.2.2 x0 37).bind fun a60 => (if v2 = true then (if bm_ia a60 0 (v58.1 x0 40) = true then some (true, (bm_sI (bm_sI (bm_sI v58 a60 (v58.1 x0 40).toNatClampNeg 20) x0 40 (((bm_sI v58 a60 (v58.1 x0 40).toNatClampNeg 20).1 x0 40) + 1)) x0 41 (((bm_sI (bm_sI v58 a60 (v58.1 x0 40).toNatClampNeg 20) x0 40 (((bm_sI v58 a60 (v58.1 x0 40).toNatClampNeg 20).1 x0 40) + 1)).1 x0 41) + 1))) else none) else (if bm_ia a60 0 (v58.1 x0 40) = true then some (true, (bm_sI (bm_sI (bm_sI v58 a60 (v58.1 x0 40).toNatClampNeg 23) x0 40 (((bm_sI v58 a60 (v58.1 x0 40).toNatClampNeg 23).1 x0 40) + 1)) x0 41 (((bm_sI (bm_sI v58 a60 (v58.1 x0 40).toNatClampNeg 23) x0 40 (((bm_sI v58 a60 (v58.1 x0 40).toNatClampNeg 23).1 x0 40) + 1)).1 x0 41) + 1))) else none))) else (if v4 = true then ((v58.2.2 x0 37).bind fun a98 => (if v2 = true then (if bm_ia a98 0 (v58.1 x0 40) = true then some (true, (bm_sI (bm_sI (bm_sI v58 a98 (v58.1 x0 40).toNatClampNeg 20) x0 40 (((bm_sI v58 a98 (v58.1 x0 40).toNatClampNeg 20).1 x0 40) + 1)) x0 41 (((bm_sI (bm_sI v58 a98 (v58.1 x0 40).toNatClampNeg 20) x0 40 (((bm_sI v58 a98 (v58.1 x0 40).toNatClampNeg 20).1 x0 40) + 1)).1 x0 41) + 1))) else none) else (if bm_ia a98 0 (v58.1 x0 40) = true then some (true, (bm_sI (bm_sI (bm_sI v58 a98 (v58.1 x0 40).toNatClampNeg 23) x0 40 (((bm_sI v58 a98 (v58.1 x0 40).toNatClampNeg 23).1 x0 40) + 1)) x0 41 (((bm_sI (bm_sI v58 a98 (v58.1 x0 40).toNatClampNeg 23) x0 40 (((bm_sI v58 a98 (v58.1 x0 40).toNatClampNeg 23).1 x0 40) + 1)).1 x0 41) + 1))) else none))) else (if 5 ≤ v6 then (if 8 ≤ v6 then (if ((bm_sI v58 x0 42 (bm_bi true)).1 x0 11) = 3 then (if ((bm_sI v58 x0 42 (bm_bi true)).1 x0 14) < 60 then ((f_X12_bad (bm_sI v58 x0 42 (bm_bi true)) x0 1).bind fun v66 => some (v66.1, v66.2)) else (if ((bm_sI v58 x0 42 (bm_bi true)).1 x0 14) ≤ 62 then ((f_X12_next (bm_sI v58 x0 42 (bm_bi true)) x0).bind fun v68 => (if (v68.1 x0 11) = 2 then ((f_X12_putCode v68 x0 v6 ((bm_sI v58 x0 42 (bm_bi true)).1 x0 14) (v68.1 x0 14)).bind fun v70 => ((f_X12_next v70 x0).bind fun v72 => some (true, v72))) else ((f_X12_bad v68 x0 1).bind fun v74 => some (v74.1, v74.2)))) else ((f_X12_bad (bm_sI v58 x0 42 (bm_bi true)) x0 1).bind fun v76 => some (v76.1, v76.2)))) else ((f_X12_bad (bm_sI v58 x0 42 (bm_bi true)) x0 1).bind fun v64 => some (v64.1, v64.2))) else (if 7 ≤ v6 then ((v58.2.2 x0 6).bind fun a78 => (if bm_ia a78 0 1 = true then ((f_X12_looksAt (bm_sI v58 x0 42 (bm_bi true)) x0 8 ((bm_sI v58 x0 42 (bm_bi true)).1 a78 (1 : Int32).toNatClampNeg)).bind fun v81 => (if v81.1 = true then ((f_X12_putCode v81.2 x0 v6 0 (v81.2.1 x0 18)).bind fun v83 => ((f_X12_next v83 x0).bind fun v85 => some (true, v85))) else some (false, v81.2))) else none)) else ((v58.2.2 x0 6).bind fun a87 => (if bm_ia a87 0 0 = true then ((f_X12_looksAt (bm_sI v58 x0 42 (bm_bi true)) x0 0 ((bm_sI v58 x0 42 (bm_bi true)).1 a87 (0 : Int32).toNatClampNeg)).bind fun v90 => (if v90.1 = true then ((f_X12_putCode v90.2 x0 v6 0 (v90.2.1 x0 18)).bind fun v92 => ((f_X12_next v92 x0).bind fun v94 => some (true, v94))) else some (false, v90.2))) else none)))) else ((f_X12_putCode (bm_sI v58 x0 42 (bm_bi true)) x0 v6 0 0).bind fun v96 => some (true, v96)))))) else ((f_X12_bad M x0 4).bind fun v102 => some (v102.1, v102.2)))) else (if 0 ≤ v6 then (if (M.1 x0 39) = 20 then ((f_X12_bad M x0 4).bind fun v104 => some (v104.1, v104.2)) else (if (M.1 x0 41) ≤ 8 then ((f_X12_next (bm_sI M x0 39 ((M.1 x0 39) + 1)) x0).bind fun v106 => (if v2 = true then ((v106.2.2 x0 37).bind fun a108 => (if v2 = true then (if bm_ia a108 0 (v106.1 x0 40) = true then some (true, (bm_sI (bm_sI (bm_sI v106 a108 (v106.1 x0 40).toNatClampNeg 20) x0 40 (((bm_sI v106 a108 (v106.1 x0 40).toNatClampNeg 20).1 x0 40) + 1)) x0 41 (((bm_sI (bm_sI v106 a108 (v106.1 x0 40).toNatClampNeg 20) x0 40 (((bm_sI v106 a108 (v106.1 x0 40).toNatClampNeg 20).1 x0 40) + 1)).1 x0 41) + 1))) else none) else (if bm_ia a108 0 (v106.1 x0 40) = true then some (true, (bm_sI (bm_sI (bm_sI v106 a108 (v106.1 x0 40).toNatClampNeg 23) x0 40 (((bm_sI v106 a108 (v106.1 x0 40).toNatClampNeg 23).1 x0 40) + 1)) x0 41 (((bm_sI (bm_sI v106 a108 (v106.1 x0 40).toNatClampNeg 23) x0 40 (((bm_sI v106 a108 (v106.1 x0 40).toNatClampNeg 23).1 x0 40) + 1)).1 x0 41) + 1))) else none))) else (if v4 = true then ((v106.2.2 x0 37).bind fun a146 => (if v2 = true then (if bm_ia a146 0 (v106.1 x0 40) = true then some (true, (bm_sI (bm_sI (bm_sI v106 a146 (v106.1 x0 40).toNatClampNeg 20) x0 40 (((bm_sI v106 a146 (v106.1 x0 40).toNatClampNeg 20).1 x0 40) + 1)) x0 41 (((bm_sI (bm_sI v106 a146 (v106.1 x0 40).toNatClampNeg 20) x0 40 (((bm_sI v106 a146 (v106.1 x0 40).toNatClampNeg 20).1 x0 40) + 1)).1 x0 41) + 1))) else none) else (if bm_ia a146 0 (v106.1 x0 40) = true then some (true, (bm_sI (bm_sI (bm_sI v106 a146 (v106.1 x0 40).toNatClampNeg 23) x0 40 (((bm_sI v106 a146 (v106.1 x0 40).toNatClampNeg 23).1 x0 40) + 1)) x0 41 (((bm_sI (bm_sI v106 a146 (v106.1 x0 40).toNatClampNeg 23) x0 40 (((bm_sI v106 a146 (v106.1 x0 40).toNatClampNeg 23).1 x0 40) + 1)).1 x0 41) + 1))) else none))) else (if 5 ≤ v6 then (if 8 ≤ v6 then (if ((bm_sI v106 x0 42 (bm_bi true)).1 x0 11) = 3 then (if ((bm_sI v106 x0 42 (bm_bi true)).1 x0 14) < 60 then ((f_X12_bad (bm_sI v106 x0 42 (bm_bi true)) x0 1).bind fun v114 => some (v114.1, v114.2)) else (if ((bm_sI v106 x0 42 (bm_bi true)).1 x0 14) ≤ 62 then ((f_X12_next (bm_sI v106 x0 42 (bm_bi true)) x0).bind fun v116 => (if (v116.1 x0 11) = 2 then ((f_X12_putCode v116 x0 v6 ((bm_sI v106 x0 42 (bm_bi true)).1 x0 14) (v116.1 x0 14)).bind fun v118 => ((f_X12_next v118 x0).bind fun v120 => some (true, v120))) else ((f_X12_bad v116 x0 1).bind fun v122 => some (v122.1, v122.2)))) else ((f_X12_bad (bm_sI v106 x0 42 (bm_bi true)) x0 1).bind fun v124 => some (v124.1, v124.2)))) else ((f_X12_bad (bm_sI v106 x0 42 (bm_bi true)) x0 1).bind fun v112 => some (v112.1, v112.2))) else (if 7 ≤ v6 then ((v106.2.2 x0 6).bind fun a126 => (if bm_ia a126 0 1 = true then ((f_X12_looksAt (bm_sI v106 x0 42 (bm_bi true)) x0 8 ((bm_sI v106 x0 42 (bm_bi true)).1 a126 (1 : Int32).toNatClampNeg)).bind fun v129 => (if v129.1 = true then ((f_X12_putCode v129.2 x0 v6 0 (v129.2.1 x0 18)).bind fun v131 => ((f_X12_next v131 x0).bind fun v133 => some (true, v133))) else some (false, v129.2))) else none)) else ((v106.2.2 x0 6).bind fun a135 => (if bm_ia a135 0 0 = true then ((f_X12_looksAt (bm_sI v106 x0 42 (bm_bi true)) x0 0 ((bm_sI v106 x0 42 (bm_bi true)).1 a135 (0 : Int32).toNatClampNeg)).bind fun v138 => (if v138.1 = true then ((f_X12_putCode v138.2 x0 v6 0 (v138.2.1 x0 18)).bind fun v140 => ((f_X12_next v140 x0).bind fun v142 => some (true, v142))) else some (false, v138.2))) else none)))) else ((f_X12_putCode (bm_sI v106 x0 42 (bm_bi true)) x0 v6 0 0).bind fun v144 => some (true, v144)))))) else ((f_X12_bad M x0 4).bind fun v150 => some (v150.1, v150.2)))) else ((f_X12_bad M x0 1).bind fun v152 => some (v152.1, v152.2)))))))) else none)
set_option maxHeartbeats 4000000 in
set_option maxRecDepth 100000 in
theorem c_X12_operand {L : bm_L} {d n : Nat} {M : bm_M} {x0 : Nat} {v : Bool × bm_M} (hN : 181 ≤ n) (h : f_X12_operand M x0 = some v) : bm_C L m_X12_operand (d + 2) n n [.ref x0] M (fun r M' => r = some (.int (bm_bi v.1)) ∧ M' = v.2) := by
  refine bm_C.ofV (by decide) (Nat.le_of_ble_eq_true rfl) ?_
  show bm_V L m_X12_operand (d + 2) n n n 0 [(0, .ref x0)] [] M _
  unfold f_X12_operand at h
  refine bv_aload_n dX12_operand_0 0 rfl ?_
  refine bv_ldc2 (v := 7237492) dX12_operand_1 cst_12_141 ?_
  obtain ⟨q1, h⟩ := bu_io h
  obtain ⟨v2, p3, h⟩ := bu_bd h
  refine bw_callV (As := [.long 7237492]) hN q1 ⟨_, _, rfl⟩ dX12_operand_4 mc_12_237 (c_X12_isWord (d := d + 1) hN p3) rfl rfl (by decide) ?_
  refine bv_istore_n (ls1 := [(0, .ref x0), (1, .int (bm_bi v2))]) dX12_operand_7 (by decide) rfl rfl ?_
  refine bv_aload_n dX12_operand_8 0 rfl ?_
  refine bv_bipush (v := 40) dX12_operand_9 (by decide) ?_
  obtain ⟨v4, p5, h⟩ := bu_bd h
  refine bw_callV (As := [.int 40]) hN q1 ⟨_, _, rfl⟩ dX12_operand_11 mc_12_197 (c_X12_isSign (d := d + 1) hN p5) rfl rfl (by decide) ?_
  refine bv_istore_n (ls1 := [(0, .ref x0), (1, .int (bm_bi v2)), (2, .int (bm_bi v4))]) dX12_operand_14 (by decide) rfl rfl ?_
  refine bv_aload_n dX12_operand_15 0 rfl ?_
  obtain ⟨v6, p7, h⟩ := bu_bd h
  refine bw_callV (As := []) hN q1 ⟨_, _, rfl⟩ dX12_operand_16 mc_12_463 (c_X12_leafOf (d := d + 0) hN p7) rfl rfl (by decide) ?_
  refine bv_istore_n (ls1 := [(0, .ref x0), (1, .int (bm_bi v2)), (2, .int (bm_bi v4)), (3, .int v6)]) dX12_operand_19 (by decide) rfl rfl ?_
  refine bv_iload_n dX12_operand_20 1 rfl ?_
  refine bw_ifB_ne (b := v2) (tgt := 38) dX12_operand_21 (by decide) (fun cc => ?_) (fun cc => ?_)
  · replace h := bu_bt h cc
    refine bv_aload_n dX12_operand_38 0 rfl ?_
    refine bw_getI hN q1 dX12_operand_39 fl_12_466 rfl ?_
    refine bv_bipush (v := 20) dX12_operand_42 (by decide) ?_
    refine bv_icmp_eq (tgt := 56) dX12_operand_44 (by decide) (fun cc => ?_) (fun cc => ?_)
    · replace h := bu_t h cc
      refine bv_aload_n dX12_operand_56 0 rfl ?_
      refine bv_iconst (v := 4) dX12_operand_57 (by decide) ?_
      obtain ⟨v8, p9, h⟩ := bu_bd h
      refine bw_callV (As := [.int 4]) hN q1 ⟨_, _, rfl⟩ dX12_operand_58 mc_12_200 (c_X12_bad (d := d + 1) hN p9) rfl rfl (by decide) ?_
      obtain rfl := Option.some.inj h
      exact bw_bret (b := v8.1) dX12_operand_61 rfl ⟨rfl, rfl⟩
    · replace h := bu_f h cc
      refine bv_aload_n dX12_operand_47 0 rfl ?_
      refine bw_getI hN q1 dX12_operand_48 fl_12_460 rfl ?_
      refine bv_bipush (v := 8) dX12_operand_51 (by decide) ?_
      refine bv_icmp_le (tgt := 62) dX12_operand_53 (by decide) (fun cc => ?_) (fun cc => ?_)
      · replace h := bu_t h cc
        refine bv_aload_n dX12_operand_62 0 rfl ?_
        refine bv_dup dX12_operand_63 rfl ?_
        refine bw_getI hN q1 dX12_operand_64 fl_12_466 rfl ?_
        refine bv_iconst (v := 1) dX12_operand_67 (by decide) ?_
        refine bv_iadd dX12_operand_68 ?_
        refine bw_putI hN q1 dX12_operand_69 fl_12_466 rfl ?_
        refine bv_aload_n dX12_operand_72 0 rfl ?_
        obtain ⟨v10, p11, h⟩ := bu_bd h
        refine bw_callVv (As := []) hN q1 ⟨_, _, rfl⟩ dX12_operand_73 mc_12_203 (c_X12_next (d := d + 0) hN p11) rfl rfl (by decide) ?_
        refine bv_iload_n dX12_operand_76 1 rfl ?_
        refine bw_ifB_ne (b := v2) (tgt := 84) dX12_operand_77 (by decide) (fun cc => ?_) (fun cc => ?_)
        · replace h := bu_bt h cc
          refine bv_aload_n dX12_operand_84 0 rfl ?_
          obtain ⟨a12, e13, h⟩ := bu_bd h
          refine bw_getA (a := a12) hN q1 e13 dX12_operand_85 fl_12_77 rfl ?_
          refine bv_aload_n dX12_operand_88 0 rfl ?_
          refine bw_getI hN q1 dX12_operand_89 fl_12_453 rfl ?_
          refine bv_iload_n dX12_operand_92 1 rfl ?_
          refine bw_ifB_eq (b := v2) (tgt := 101) dX12_operand_93 (by decide) (fun cc => ?_) (fun cc => ?_)
          · replace h := bu_bf h cc
            refine bv_bipush (v := 23) dX12_operand_101 (by decide) ?_
            obtain ⟨r14, h⟩ := bu_ia h
            refine bw_iast hN r14 dX12_operand_103 ?_
            refine bv_aload_n dX12_operand_104 0 rfl ?_
            refine bv_dup dX12_operand_105 rfl ?_
            refine bw_getI hN q1 dX12_operand_106 fl_12_453 rfl ?_
            refine bv_iconst (v := 1) dX12_operand_109 (by decide) ?_
            refine bv_iadd dX12_operand_110 ?_
            refine bw_putI hN q1 dX12_operand_111 fl_12_453 rfl ?_
            refine bv_aload_n dX12_operand_114 0 rfl ?_
            refine bv_dup dX12_operand_115 rfl ?_
            refine bw_getI hN q1 dX12_operand_116 fl_12_460 rfl ?_
            refine bv_iconst (v := 1) dX12_operand_119 (by decide) ?_
            refine bv_iadd dX12_operand_120 ?_
            refine bw_putI hN q1 dX12_operand_121 fl_12_460 rfl ?_
            refine bv_iconst (v := 1) dX12_operand_124 (by decide) ?_
            obtain rfl := Option.some.inj h
            exact bw_bret (b := true) dX12_operand_125 rfl ⟨rfl, rfl⟩
          · replace h := bu_bt h cc
            refine bv_bipush (v := 20) dX12_operand_96 (by decide) ?_
            refine bv_goto (tgt := 103) dX12_operand_98 (by decide) ?_
            obtain ⟨r15, h⟩ := bu_ia h
            refine bw_iast hN r15 dX12_operand_103 ?_
            refine bv_aload_n dX12_operand_104 0 rfl ?_
            refine bv_dup dX12_operand_105 rfl ?_
            refine bw_getI hN q1 dX12_operand_106 fl_12_453 rfl ?_
            refine bv_iconst (v := 1) dX12_operand_109 (by decide) ?_
            refine bv_iadd dX12_operand_110 ?_
            refine bw_putI hN q1 dX12_operand_111 fl_12_453 rfl ?_
            refine bv_aload_n dX12_operand_114 0 rfl ?_
            refine bv_dup dX12_operand_115 rfl ?_
            refine bw_getI hN q1 dX12_operand_116 fl_12_460 rfl ?_
            refine bv_iconst (v := 1) dX12_operand_119 (by decide) ?_
            refine bv_iadd dX12_operand_120 ?_
            refine bw_putI hN q1 dX12_operand_121 fl_12_460 rfl ?_
            refine bv_iconst (v := 1) dX12_operand_124 (by decide) ?_
            obtain rfl := Option.some.inj h
            exact bw_bret (b := true) dX12_operand_125 rfl ⟨rfl, rfl⟩
        · replace h := bu_bf h cc
          refine bv_iload_n dX12_operand_80 2 rfl ?_
          refine bw_ifB_eq (b := v4) (tgt := 126) dX12_operand_81 (by decide) (fun cc => ?_) (fun cc => ?_)
          · replace h := bu_bf h cc
            refine bv_aload_n dX12_operand_126 0 rfl ?_
            refine bv_iconst (v := 1) dX12_operand_127 (by decide) ?_
            refine bw_putB (b := true) hN q1 dX12_operand_128 fl_12_469 rfl ?_
            refine bv_iload_n dX12_operand_131 3 rfl ?_
            refine bv_iconst (v := 5) dX12_operand_132 (by decide) ?_
            refine bv_icmp_ge (tgt := 145) dX12_operand_133 (by decide) (fun cc => ?_) (fun cc => ?_)
            · replace h := bu_t h cc
              refine bv_iload_n dX12_operand_145 3 rfl ?_
              refine bv_bipush (v := 8) dX12_operand_146 (by decide) ?_
              refine bv_icmp_ge (tgt := 208) dX12_operand_148 (by decide) (fun cc => ?_) (fun cc => ?_)
              · replace h := bu_t h cc
                refine bv_aload_n dX12_operand_208 0 rfl ?_
                refine bw_getI hN q1 dX12_operand_209 fl_12_174 rfl ?_
                refine bv_iconst (v := 3) dX12_operand_212 (by decide) ?_
                refine bv_icmp_ne (tgt := 234) dX12_operand_213 (by decide) (fun cc => ?_) (fun cc => ?_)
                · replace h := bu_f h cc
                  refine bv_aload_n dX12_operand_234 0 rfl ?_
                  refine bv_iconst (v := 1) dX12_operand_235 (by decide) ?_
                  obtain ⟨v16, p17, h⟩ := bu_bd h
                  refine bw_callV (As := [.int 1]) hN q1 ⟨_, _, rfl⟩ dX12_operand_236 mc_12_200 (c_X12_bad (d := d + 1) hN p17) rfl rfl (by decide) ?_
                  obtain rfl := Option.some.inj h
                  exact bw_bret (b := v16.1) dX12_operand_239 rfl ⟨rfl, rfl⟩
                · replace h := bu_t h cc
                  refine bv_aload_n dX12_operand_216 0 rfl ?_
                  refine bw_getI hN q1 dX12_operand_217 fl_12_184 rfl ?_
                  refine bv_bipush (v := 60) dX12_operand_220 (by decide) ?_
                  refine bv_icmp_lt (tgt := 234) dX12_operand_222 (by decide) (fun cc => ?_) (fun cc => ?_)
                  · replace h := bu_t h cc
                    refine bv_aload_n dX12_operand_234 0 rfl ?_
                    refine bv_iconst (v := 1) dX12_operand_235 (by decide) ?_
                    obtain ⟨v18, p19, h⟩ := bu_bd h
                    refine bw_callV (As := [.int 1]) hN q1 ⟨_, _, rfl⟩ dX12_operand_236 mc_12_200 (c_X12_bad (d := d + 1) hN p19) rfl rfl (by decide) ?_
                    obtain rfl := Option.some.inj h
                    exact bw_bret (b := v18.1) dX12_operand_239 rfl ⟨rfl, rfl⟩
                  · replace h := bu_f h cc
                    refine bv_aload_n dX12_operand_225 0 rfl ?_
                    refine bw_getI hN q1 dX12_operand_226 fl_12_184 rfl ?_
                    refine bv_bipush (v := 62) dX12_operand_229 (by decide) ?_
                    refine bv_icmp_le (tgt := 240) dX12_operand_231 (by decide) (fun cc => ?_) (fun cc => ?_)
                    · replace h := bu_t h cc
                      refine bv_aload_n dX12_operand_240 0 rfl ?_
                      refine bw_getI hN q1 dX12_operand_241 fl_12_184 rfl ?_
                      refine bv_istore (ls1 := [(0, .ref x0), (1, .int (bm_bi v2)), (2, .int (bm_bi v4)), (3, .int v6), (4, .int ((bm_sI v10 x0 42 (bm_bi true)).1 x0 14))]) dX12_operand_244 (by decide) rfl rfl ?_
                      refine bv_aload_n dX12_operand_246 0 rfl ?_
                      obtain ⟨v20, p21, h⟩ := bu_bd h
                      refine bw_callVv (As := []) hN q1 ⟨_, _, rfl⟩ dX12_operand_247 mc_12_203 (c_X12_next (d := d + 0) hN p21) rfl rfl (by decide) ?_
                      refine bv_aload_n dX12_operand_250 0 rfl ?_
                      refine bw_getI hN q1 dX12_operand_251 fl_12_174 rfl ?_
                      refine bv_iconst (v := 2) dX12_operand_254 (by decide) ?_
                      refine bv_icmp_eq (tgt := 264) dX12_operand_255 (by decide) (fun cc => ?_) (fun cc => ?_)
                      · replace h := bu_t h cc
                        refine bv_aload_n dX12_operand_264 0 rfl ?_
                        refine bv_iload_n dX12_operand_265 3 rfl ?_
                        refine bv_iload dX12_operand_266 4 rfl ?_
                        refine bv_aload_n dX12_operand_268 0 rfl ?_
                        refine bw_getI hN q1 dX12_operand_269 fl_12_184 rfl ?_
                        obtain ⟨v22, p23, h⟩ := bu_bd h
                        refine bw_callVv (As := [.int v6, .int ((bm_sI v10 x0 42 (bm_bi true)).1 x0 14), .int (v20.1 x0 14)]) hN q1 ⟨_, _, rfl⟩ dX12_operand_272 mc_12_456 (c_X12_putCode (d := d + 1) hN p23) rfl rfl (by decide) ?_
                        refine bv_aload_n dX12_operand_275 0 rfl ?_
                        obtain ⟨v24, p25, h⟩ := bu_bd h
                        refine bw_callVv (As := []) hN q1 ⟨_, _, rfl⟩ dX12_operand_276 mc_12_203 (c_X12_next (d := d + 0) hN p25) rfl rfl (by decide) ?_
                        refine bv_iconst (v := 1) dX12_operand_279 (by decide) ?_
                        obtain rfl := Option.some.inj h
                        exact bw_bret (b := true) dX12_operand_280 rfl ⟨rfl, rfl⟩
                      · replace h := bu_f h cc
                        refine bv_aload_n dX12_operand_258 0 rfl ?_
                        refine bv_iconst (v := 1) dX12_operand_259 (by decide) ?_
                        obtain ⟨v26, p27, h⟩ := bu_bd h
                        refine bw_callV (As := [.int 1]) hN q1 ⟨_, _, rfl⟩ dX12_operand_260 mc_12_200 (c_X12_bad (d := d + 1) hN p27) rfl rfl (by decide) ?_
                        obtain rfl := Option.some.inj h
                        exact bw_bret (b := v26.1) dX12_operand_263 rfl ⟨rfl, rfl⟩
                    · replace h := bu_f h cc
                      refine bv_aload_n dX12_operand_234 0 rfl ?_
                      refine bv_iconst (v := 1) dX12_operand_235 (by decide) ?_
                      obtain ⟨v28, p29, h⟩ := bu_bd h
                      refine bw_callV (As := [.int 1]) hN q1 ⟨_, _, rfl⟩ dX12_operand_236 mc_12_200 (c_X12_bad (d := d + 1) hN p29) rfl rfl (by decide) ?_
                      obtain rfl := Option.some.inj h
                      exact bw_bret (b := v28.1) dX12_operand_239 rfl ⟨rfl, rfl⟩
              · replace h := bu_f h cc
                refine bv_iload_n dX12_operand_151 3 rfl ?_
                refine bv_bipush (v := 7) dX12_operand_152 (by decide) ?_
                refine bv_icmp_ge (tgt := 171) dX12_operand_154 (by decide) (fun cc => ?_) (fun cc => ?_)
                · replace h := bu_t h cc
                  refine bv_aload_n dX12_operand_171 0 rfl ?_
                  refine bv_bipush (v := 8) dX12_operand_172 (by decide) ?_
                  refine bv_aload_n dX12_operand_174 0 rfl ?_
                  obtain ⟨a30, e31, h⟩ := bu_bd h
                  refine bw_getA (a := a30) hN q1 e31 dX12_operand_175 fl_12_33 rfl ?_
                  refine bv_iconst (v := 1) dX12_operand_178 (by decide) ?_
                  obtain ⟨r32, h⟩ := bu_ia h
                  refine bw_iald hN r32 dX12_operand_179 ?_
                  obtain ⟨v33, p34, h⟩ := bu_bd h
                  refine bw_callV (As := [.int 8, .int ((bm_sI v10 x0 42 (bm_bi true)).1 a30 (1 : Int32).toNatClampNeg)]) hN q1 ⟨_, _, rfl⟩ dX12_operand_180 mc_12_225 (c_X12_looksAt (d := d + 0) hN p34) rfl rfl (by decide) ?_
                  refine bv_istore (ls1 := [(0, .ref x0), (1, .int (bm_bi v2)), (2, .int (bm_bi v4)), (3, .int v6), (4, .int (bm_bi v33.1))]) dX12_operand_183 (by decide) rfl rfl ?_
                  refine bv_iload dX12_operand_185 4 rfl ?_
                  refine bw_ifB_ne (b := v33.1) (tgt := 192) dX12_operand_187 (by decide) (fun cc => ?_) (fun cc => ?_)
                  · replace h := bu_bt h cc
                    refine bv_aload_n dX12_operand_192 0 rfl ?_
                    refine bv_iload_n dX12_operand_193 3 rfl ?_
                    refine bv_iconst (v := 0) dX12_operand_194 (by decide) ?_
                    refine bv_aload_n dX12_operand_195 0 rfl ?_
                    refine bw_getI hN q1 dX12_operand_196 fl_12_210 rfl ?_
                    obtain ⟨v35, p36, h⟩ := bu_bd h
                    refine bw_callVv (As := [.int v6, .int 0, .int (v33.2.1 x0 18)]) hN q1 ⟨_, _, rfl⟩ dX12_operand_199 mc_12_456 (c_X12_putCode (d := d + 1) hN p36) rfl rfl (by decide) ?_
                    refine bv_aload_n dX12_operand_202 0 rfl ?_
                    obtain ⟨v37, p38, h⟩ := bu_bd h
                    refine bw_callVv (As := []) hN q1 ⟨_, _, rfl⟩ dX12_operand_203 mc_12_203 (c_X12_next (d := d + 0) hN p38) rfl rfl (by decide) ?_
                    refine bv_iconst (v := 1) dX12_operand_206 (by decide) ?_
                    obtain rfl := Option.some.inj h
                    exact bw_bret (b := true) dX12_operand_207 rfl ⟨rfl, rfl⟩
                  · replace h := bu_bf h cc
                    refine bv_iconst (v := 0) dX12_operand_190 (by decide) ?_
                    obtain rfl := Option.some.inj h
                    exact bw_bret (b := false) dX12_operand_191 rfl ⟨rfl, rfl⟩
                · replace h := bu_f h cc
                  refine bv_aload_n dX12_operand_157 0 rfl ?_
                  refine bv_iconst (v := 0) dX12_operand_158 (by decide) ?_
                  refine bv_aload_n dX12_operand_159 0 rfl ?_
                  obtain ⟨a39, e40, h⟩ := bu_bd h
                  refine bw_getA (a := a39) hN q1 e40 dX12_operand_160 fl_12_33 rfl ?_
                  refine bv_iconst (v := 0) dX12_operand_163 (by decide) ?_
                  obtain ⟨r41, h⟩ := bu_ia h
                  refine bw_iald hN r41 dX12_operand_164 ?_
                  obtain ⟨v42, p43, h⟩ := bu_bd h
                  refine bw_callV (As := [.int 0, .int ((bm_sI v10 x0 42 (bm_bi true)).1 a39 (0 : Int32).toNatClampNeg)]) hN q1 ⟨_, _, rfl⟩ dX12_operand_165 mc_12_225 (c_X12_looksAt (d := d + 0) hN p43) rfl rfl (by decide) ?_
                  refine bv_goto (tgt := 183) dX12_operand_168 (by decide) ?_
                  refine bv_istore (ls1 := [(0, .ref x0), (1, .int (bm_bi v2)), (2, .int (bm_bi v4)), (3, .int v6), (4, .int (bm_bi v42.1))]) dX12_operand_183 (by decide) rfl rfl ?_
                  refine bv_iload dX12_operand_185 4 rfl ?_
                  refine bw_ifB_ne (b := v42.1) (tgt := 192) dX12_operand_187 (by decide) (fun cc => ?_) (fun cc => ?_)
                  · replace h := bu_bt h cc
                    refine bv_aload_n dX12_operand_192 0 rfl ?_
                    refine bv_iload_n dX12_operand_193 3 rfl ?_
                    refine bv_iconst (v := 0) dX12_operand_194 (by decide) ?_
                    refine bv_aload_n dX12_operand_195 0 rfl ?_
                    refine bw_getI hN q1 dX12_operand_196 fl_12_210 rfl ?_
                    obtain ⟨v44, p45, h⟩ := bu_bd h
                    refine bw_callVv (As := [.int v6, .int 0, .int (v42.2.1 x0 18)]) hN q1 ⟨_, _, rfl⟩ dX12_operand_199 mc_12_456 (c_X12_putCode (d := d + 1) hN p45) rfl rfl (by decide) ?_
                    refine bv_aload_n dX12_operand_202 0 rfl ?_
                    obtain ⟨v46, p47, h⟩ := bu_bd h
                    refine bw_callVv (As := []) hN q1 ⟨_, _, rfl⟩ dX12_operand_203 mc_12_203 (c_X12_next (d := d + 0) hN p47) rfl rfl (by decide) ?_
                    refine bv_iconst (v := 1) dX12_operand_206 (by decide) ?_
                    obtain rfl := Option.some.inj h
                    exact bw_bret (b := true) dX12_operand_207 rfl ⟨rfl, rfl⟩
                  · replace h := bu_bf h cc
                    refine bv_iconst (v := 0) dX12_operand_190 (by decide) ?_
                    obtain rfl := Option.some.inj h
                    exact bw_bret (b := false) dX12_operand_191 rfl ⟨rfl, rfl⟩
            · replace h := bu_f h cc
              refine bv_aload_n dX12_operand_136 0 rfl ?_
              refine bv_iload_n dX12_operand_137 3 rfl ?_
              refine bv_iconst (v := 0) dX12_operand_138 (by decide) ?_
              refine bv_iconst (v := 0) dX12_operand_139 (by decide) ?_
              obtain ⟨v48, p49, h⟩ := bu_bd h
              refine bw_callVv (As := [.int v6, .int 0, .int 0]) hN q1 ⟨_, _, rfl⟩ dX12_operand_140 mc_12_456 (c_X12_putCode (d := d + 1) hN p49) rfl rfl (by decide) ?_
              refine bv_iconst (v := 1) dX12_operand_143 (by decide) ?_
              obtain rfl := Option.some.inj h
              exact bw_bret (b := true) dX12_operand_144 rfl ⟨rfl, rfl⟩
          · replace h := bu_bt h cc
            refine bv_aload_n dX12_operand_84 0 rfl ?_
            obtain ⟨a50, e51, h⟩ := bu_bd h
            refine bw_getA (a := a50) hN q1 e51 dX12_operand_85 fl_12_77 rfl ?_
            refine bv_aload_n dX12_operand_88 0 rfl ?_
            refine bw_getI hN q1 dX12_operand_89 fl_12_453 rfl ?_
            refine bv_iload_n dX12_operand_92 1 rfl ?_
            refine bw_ifB_eq (b := v2) (tgt := 101) dX12_operand_93 (by decide) (fun cc => ?_) (fun cc => ?_)
            · replace h := bu_bf h cc
              refine bv_bipush (v := 23) dX12_operand_101 (by decide) ?_
              obtain ⟨r52, h⟩ := bu_ia h
              refine bw_iast hN r52 dX12_operand_103 ?_
              refine bv_aload_n dX12_operand_104 0 rfl ?_
              refine bv_dup dX12_operand_105 rfl ?_
              refine bw_getI hN q1 dX12_operand_106 fl_12_453 rfl ?_
              refine bv_iconst (v := 1) dX12_operand_109 (by decide) ?_
              refine bv_iadd dX12_operand_110 ?_
              refine bw_putI hN q1 dX12_operand_111 fl_12_453 rfl ?_
              refine bv_aload_n dX12_operand_114 0 rfl ?_
              refine bv_dup dX12_operand_115 rfl ?_
              refine bw_getI hN q1 dX12_operand_116 fl_12_460 rfl ?_
              refine bv_iconst (v := 1) dX12_operand_119 (by decide) ?_
              refine bv_iadd dX12_operand_120 ?_
              refine bw_putI hN q1 dX12_operand_121 fl_12_460 rfl ?_
              refine bv_iconst (v := 1) dX12_operand_124 (by decide) ?_
              obtain rfl := Option.some.inj h
              exact bw_bret (b := true) dX12_operand_125 rfl ⟨rfl, rfl⟩
            · replace h := bu_bt h cc
              refine bv_bipush (v := 20) dX12_operand_96 (by decide) ?_
              refine bv_goto (tgt := 103) dX12_operand_98 (by decide) ?_
              obtain ⟨r53, h⟩ := bu_ia h
              refine bw_iast hN r53 dX12_operand_103 ?_
              refine bv_aload_n dX12_operand_104 0 rfl ?_
              refine bv_dup dX12_operand_105 rfl ?_
              refine bw_getI hN q1 dX12_operand_106 fl_12_453 rfl ?_
              refine bv_iconst (v := 1) dX12_operand_109 (by decide) ?_
              refine bv_iadd dX12_operand_110 ?_
              refine bw_putI hN q1 dX12_operand_111 fl_12_453 rfl ?_
              refine bv_aload_n dX12_operand_114 0 rfl ?_
              refine bv_dup dX12_operand_115 rfl ?_
              refine bw_getI hN q1 dX12_operand_116 fl_12_460 rfl ?_
              refine bv_iconst (v := 1) dX12_operand_119 (by decide) ?_
              refine bv_iadd dX12_operand_120 ?_
              refine bw_putI hN q1 dX12_operand_121 fl_12_460 rfl ?_
              refine bv_iconst (v := 1) dX12_operand_124 (by decide) ?_
              obtain rfl := Option.some.inj h
              exact bw_bret (b := true) dX12_operand_125 rfl ⟨rfl, rfl⟩
      · replace h := bu_f h cc
        refine bv_aload_n dX12_operand_56 0 rfl ?_
        refine bv_iconst (v := 4) dX12_operand_57 (by decide) ?_
        obtain ⟨v54, p55, h⟩ := bu_bd h
        refine bw_callV (As := [.int 4]) hN q1 ⟨_, _, rfl⟩ dX12_operand_58 mc_12_200 (c_X12_bad (d := d + 1) hN p55) rfl rfl (by decide) ?_
        obtain rfl := Option.some.inj h
        exact bw_bret (b := v54.1) dX12_operand_61 rfl ⟨rfl, rfl⟩
  · replace h := bu_bf h cc
    refine bv_iload_n dX12_operand_24 2 rfl ?_
    refine bw_ifB_ne (b := v4) (tgt := 38) dX12_operand_25 (by decide) (fun cc => ?_) (fun cc => ?_)
    · replace h := bu_bt h cc
      refine bv_aload_n dX12_operand_38 0 rfl ?_
      refine bw_getI hN q1 dX12_operand_39 fl_12_466 rfl ?_
      refine bv_bipush (v := 20) dX12_operand_42 (by decide) ?_
      refine bv_icmp_eq (tgt := 56) dX12_operand_44 (by decide) (fun cc => ?_) (fun cc => ?_)
      · replace h := bu_t h cc
        refine bv_aload_n dX12_operand_56 0 rfl ?_
        refine bv_iconst (v := 4) dX12_operand_57 (by decide) ?_
        obtain ⟨v56, p57, h⟩ := bu_bd h
        refine bw_callV (As := [.int 4]) hN q1 ⟨_, _, rfl⟩ dX12_operand_58 mc_12_200 (c_X12_bad (d := d + 1) hN p57) rfl rfl (by decide) ?_
        obtain rfl := Option.some.inj h
        exact bw_bret (b := v56.1) dX12_operand_61 rfl ⟨rfl, rfl⟩
      · replace h := bu_f h cc
        refine bv_aload_n dX12_operand_47 0 rfl ?_
        refine bw_getI hN q1 dX12_operand_48 fl_12_460 rfl ?_
        refine bv_bipush (v := 8) dX12_operand_51 (by decide) ?_
        refine bv_icmp_le (tgt := 62) dX12_operand_53 (by decide) (fun cc => ?_) (fun cc => ?_)
        · replace h := bu_t h cc
          refine bv_aload_n dX12_operand_62 0 rfl ?_
          refine bv_dup dX12_operand_63 rfl ?_
          refine bw_getI hN q1 dX12_operand_64 fl_12_466 rfl ?_
          refine bv_iconst (v := 1) dX12_operand_67 (by decide) ?_
          refine bv_iadd dX12_operand_68 ?_
          refine bw_putI hN q1 dX12_operand_69 fl_12_466 rfl ?_
          refine bv_aload_n dX12_operand_72 0 rfl ?_
          obtain ⟨v58, p59, h⟩ := bu_bd h
          refine bw_callVv (As := []) hN q1 ⟨_, _, rfl⟩ dX12_operand_73 mc_12_203 (c_X12_next (d := d + 0) hN p59) rfl rfl (by decide) ?_
          refine bv_iload_n dX12_operand_76 1 rfl ?_
          refine bw_ifB_ne (b := v2) (tgt := 84) dX12_operand_77 (by decide) (fun cc => ?_) (fun cc => ?_)
          · replace h := bu_bt h cc
            refine bv_aload_n dX12_operand_84 0 rfl ?_
            obtain ⟨a60, e61, h⟩ := bu_bd h
            refine bw_getA (a := a60) hN q1 e61 dX12_operand_85 fl_12_77 rfl ?_
            refine bv_aload_n dX12_operand_88 0 rfl ?_
            refine bw_getI hN q1 dX12_operand_89 fl_12_453 rfl ?_
            refine bv_iload_n dX12_operand_92 1 rfl ?_
            refine bw_ifB_eq (b := v2) (tgt := 101) dX12_operand_93 (by decide) (fun cc => ?_) (fun cc => ?_)
            · replace h := bu_bf h cc
              refine bv_bipush (v := 23) dX12_operand_101 (by decide) ?_
              obtain ⟨r62, h⟩ := bu_ia h
              refine bw_iast hN r62 dX12_operand_103 ?_
              refine bv_aload_n dX12_operand_104 0 rfl ?_
              refine bv_dup dX12_operand_105 rfl ?_
              refine bw_getI hN q1 dX12_operand_106 fl_12_453 rfl ?_
              refine bv_iconst (v := 1) dX12_operand_109 (by decide) ?_
              refine bv_iadd dX12_operand_110 ?_
              refine bw_putI hN q1 dX12_operand_111 fl_12_453 rfl ?_
              refine bv_aload_n dX12_operand_114 0 rfl ?_
              refine bv_dup dX12_operand_115 rfl ?_
              refine bw_getI hN q1 dX12_operand_116 fl_12_460 rfl ?_
              refine bv_iconst (v := 1) dX12_operand_119 (by decide) ?_
              refine bv_iadd dX12_operand_120 ?_
              refine bw_putI hN q1 dX12_operand_121 fl_12_460 rfl ?_
              refine bv_iconst (v := 1) dX12_operand_124 (by decide) ?_
              obtain rfl := Option.some.inj h
              exact bw_bret (b := true) dX12_operand_125 rfl ⟨rfl, rfl⟩
            · replace h := bu_bt h cc
              refine bv_bipush (v := 20) dX12_operand_96 (by decide) ?_
              refine bv_goto (tgt := 103) dX12_operand_98 (by decide) ?_
              obtain ⟨r63, h⟩ := bu_ia h
              refine bw_iast hN r63 dX12_operand_103 ?_
              refine bv_aload_n dX12_operand_104 0 rfl ?_
              refine bv_dup dX12_operand_105 rfl ?_
              refine bw_getI hN q1 dX12_operand_106 fl_12_453 rfl ?_
              refine bv_iconst (v := 1) dX12_operand_109 (by decide) ?_
              refine bv_iadd dX12_operand_110 ?_
              refine bw_putI hN q1 dX12_operand_111 fl_12_453 rfl ?_
              refine bv_aload_n dX12_operand_114 0 rfl ?_
              refine bv_dup dX12_operand_115 rfl ?_
              refine bw_getI hN q1 dX12_operand_116 fl_12_460 rfl ?_
              refine bv_iconst (v := 1) dX12_operand_119 (by decide) ?_
              refine bv_iadd dX12_operand_120 ?_
              refine bw_putI hN q1 dX12_operand_121 fl_12_460 rfl ?_
              refine bv_iconst (v := 1) dX12_operand_124 (by decide) ?_
              obtain rfl := Option.some.inj h
              exact bw_bret (b := true) dX12_operand_125 rfl ⟨rfl, rfl⟩
          · replace h := bu_bf h cc
            refine bv_iload_n dX12_operand_80 2 rfl ?_
            refine bw_ifB_eq (b := v4) (tgt := 126) dX12_operand_81 (by decide) (fun cc => ?_) (fun cc => ?_)
            · replace h := bu_bf h cc
              refine bv_aload_n dX12_operand_126 0 rfl ?_
              refine bv_iconst (v := 1) dX12_operand_127 (by decide) ?_
              refine bw_putB (b := true) hN q1 dX12_operand_128 fl_12_469 rfl ?_
              refine bv_iload_n dX12_operand_131 3 rfl ?_
              refine bv_iconst (v := 5) dX12_operand_132 (by decide) ?_
              refine bv_icmp_ge (tgt := 145) dX12_operand_133 (by decide) (fun cc => ?_) (fun cc => ?_)
              · replace h := bu_t h cc
                refine bv_iload_n dX12_operand_145 3 rfl ?_
                refine bv_bipush (v := 8) dX12_operand_146 (by decide) ?_
                refine bv_icmp_ge (tgt := 208) dX12_operand_148 (by decide) (fun cc => ?_) (fun cc => ?_)
                · replace h := bu_t h cc
                  refine bv_aload_n dX12_operand_208 0 rfl ?_
                  refine bw_getI hN q1 dX12_operand_209 fl_12_174 rfl ?_
                  refine bv_iconst (v := 3) dX12_operand_212 (by decide) ?_
                  refine bv_icmp_ne (tgt := 234) dX12_operand_213 (by decide) (fun cc => ?_) (fun cc => ?_)
                  · replace h := bu_f h cc
                    refine bv_aload_n dX12_operand_234 0 rfl ?_
                    refine bv_iconst (v := 1) dX12_operand_235 (by decide) ?_
                    obtain ⟨v64, p65, h⟩ := bu_bd h
                    refine bw_callV (As := [.int 1]) hN q1 ⟨_, _, rfl⟩ dX12_operand_236 mc_12_200 (c_X12_bad (d := d + 1) hN p65) rfl rfl (by decide) ?_
                    obtain rfl := Option.some.inj h
                    exact bw_bret (b := v64.1) dX12_operand_239 rfl ⟨rfl, rfl⟩
                  · replace h := bu_t h cc
                    refine bv_aload_n dX12_operand_216 0 rfl ?_
                    refine bw_getI hN q1 dX12_operand_217 fl_12_184 rfl ?_
                    refine bv_bipush (v := 60) dX12_operand_220 (by decide) ?_
                    refine bv_icmp_lt (tgt := 234) dX12_operand_222 (by decide) (fun cc => ?_) (fun cc => ?_)
                    · replace h := bu_t h cc
                      refine bv_aload_n dX12_operand_234 0 rfl ?_
                      refine bv_iconst (v := 1) dX12_operand_235 (by decide) ?_
                      obtain ⟨v66, p67, h⟩ := bu_bd h
                      refine bw_callV (As := [.int 1]) hN q1 ⟨_, _, rfl⟩ dX12_operand_236 mc_12_200 (c_X12_bad (d := d + 1) hN p67) rfl rfl (by decide) ?_
                      obtain rfl := Option.some.inj h
                      exact bw_bret (b := v66.1) dX12_operand_239 rfl ⟨rfl, rfl⟩
                    · replace h := bu_f h cc
                      refine bv_aload_n dX12_operand_225 0 rfl ?_
                      refine bw_getI hN q1 dX12_operand_226 fl_12_184 rfl ?_
                      refine bv_bipush (v := 62) dX12_operand_229 (by decide) ?_
                      refine bv_icmp_le (tgt := 240) dX12_operand_231 (by decide) (fun cc => ?_) (fun cc => ?_)
                      · replace h := bu_t h cc
                        refine bv_aload_n dX12_operand_240 0 rfl ?_
                        refine bw_getI hN q1 dX12_operand_241 fl_12_184 rfl ?_
                        refine bv_istore (ls1 := [(0, .ref x0), (1, .int (bm_bi v2)), (2, .int (bm_bi v4)), (3, .int v6), (4, .int ((bm_sI v58 x0 42 (bm_bi true)).1 x0 14))]) dX12_operand_244 (by decide) rfl rfl ?_
                        refine bv_aload_n dX12_operand_246 0 rfl ?_
                        obtain ⟨v68, p69, h⟩ := bu_bd h
                        refine bw_callVv (As := []) hN q1 ⟨_, _, rfl⟩ dX12_operand_247 mc_12_203 (c_X12_next (d := d + 0) hN p69) rfl rfl (by decide) ?_
                        refine bv_aload_n dX12_operand_250 0 rfl ?_
                        refine bw_getI hN q1 dX12_operand_251 fl_12_174 rfl ?_
                        refine bv_iconst (v := 2) dX12_operand_254 (by decide) ?_
                        refine bv_icmp_eq (tgt := 264) dX12_operand_255 (by decide) (fun cc => ?_) (fun cc => ?_)
                        · replace h := bu_t h cc
                          refine bv_aload_n dX12_operand_264 0 rfl ?_
                          refine bv_iload_n dX12_operand_265 3 rfl ?_
                          refine bv_iload dX12_operand_266 4 rfl ?_
                          refine bv_aload_n dX12_operand_268 0 rfl ?_
                          refine bw_getI hN q1 dX12_operand_269 fl_12_184 rfl ?_
                          obtain ⟨v70, p71, h⟩ := bu_bd h
                          refine bw_callVv (As := [.int v6, .int ((bm_sI v58 x0 42 (bm_bi true)).1 x0 14), .int (v68.1 x0 14)]) hN q1 ⟨_, _, rfl⟩ dX12_operand_272 mc_12_456 (c_X12_putCode (d := d + 1) hN p71) rfl rfl (by decide) ?_
                          refine bv_aload_n dX12_operand_275 0 rfl ?_
                          obtain ⟨v72, p73, h⟩ := bu_bd h
                          refine bw_callVv (As := []) hN q1 ⟨_, _, rfl⟩ dX12_operand_276 mc_12_203 (c_X12_next (d := d + 0) hN p73) rfl rfl (by decide) ?_
                          refine bv_iconst (v := 1) dX12_operand_279 (by decide) ?_
                          obtain rfl := Option.some.inj h
                          exact bw_bret (b := true) dX12_operand_280 rfl ⟨rfl, rfl⟩
                        · replace h := bu_f h cc
                          refine bv_aload_n dX12_operand_258 0 rfl ?_
                          refine bv_iconst (v := 1) dX12_operand_259 (by decide) ?_
                          obtain ⟨v74, p75, h⟩ := bu_bd h
                          refine bw_callV (As := [.int 1]) hN q1 ⟨_, _, rfl⟩ dX12_operand_260 mc_12_200 (c_X12_bad (d := d + 1) hN p75) rfl rfl (by decide) ?_
                          obtain rfl := Option.some.inj h
                          exact bw_bret (b := v74.1) dX12_operand_263 rfl ⟨rfl, rfl⟩
                      · replace h := bu_f h cc
                        refine bv_aload_n dX12_operand_234 0 rfl ?_
                        refine bv_iconst (v := 1) dX12_operand_235 (by decide) ?_
                        obtain ⟨v76, p77, h⟩ := bu_bd h
                        refine bw_callV (As := [.int 1]) hN q1 ⟨_, _, rfl⟩ dX12_operand_236 mc_12_200 (c_X12_bad (d := d + 1) hN p77) rfl rfl (by decide) ?_
                        obtain rfl := Option.some.inj h
                        exact bw_bret (b := v76.1) dX12_operand_239 rfl ⟨rfl, rfl⟩
                · replace h := bu_f h cc
                  refine bv_iload_n dX12_operand_151 3 rfl ?_
                  refine bv_bipush (v := 7) dX12_operand_152 (by decide) ?_
                  refine bv_icmp_ge (tgt := 171) dX12_operand_154 (by decide) (fun cc => ?_) (fun cc => ?_)
                  · replace h := bu_t h cc
                    refine bv_aload_n dX12_operand_171 0 rfl ?_
                    refine bv_bipush (v := 8) dX12_operand_172 (by decide) ?_
                    refine bv_aload_n dX12_operand_174 0 rfl ?_
                    obtain ⟨a78, e79, h⟩ := bu_bd h
                    refine bw_getA (a := a78) hN q1 e79 dX12_operand_175 fl_12_33 rfl ?_
                    refine bv_iconst (v := 1) dX12_operand_178 (by decide) ?_
                    obtain ⟨r80, h⟩ := bu_ia h
                    refine bw_iald hN r80 dX12_operand_179 ?_
                    obtain ⟨v81, p82, h⟩ := bu_bd h
                    refine bw_callV (As := [.int 8, .int ((bm_sI v58 x0 42 (bm_bi true)).1 a78 (1 : Int32).toNatClampNeg)]) hN q1 ⟨_, _, rfl⟩ dX12_operand_180 mc_12_225 (c_X12_looksAt (d := d + 0) hN p82) rfl rfl (by decide) ?_
                    refine bv_istore (ls1 := [(0, .ref x0), (1, .int (bm_bi v2)), (2, .int (bm_bi v4)), (3, .int v6), (4, .int (bm_bi v81.1))]) dX12_operand_183 (by decide) rfl rfl ?_
                    refine bv_iload dX12_operand_185 4 rfl ?_
                    refine bw_ifB_ne (b := v81.1) (tgt := 192) dX12_operand_187 (by decide) (fun cc => ?_) (fun cc => ?_)
                    · replace h := bu_bt h cc
                      refine bv_aload_n dX12_operand_192 0 rfl ?_
                      refine bv_iload_n dX12_operand_193 3 rfl ?_
                      refine bv_iconst (v := 0) dX12_operand_194 (by decide) ?_
                      refine bv_aload_n dX12_operand_195 0 rfl ?_
                      refine bw_getI hN q1 dX12_operand_196 fl_12_210 rfl ?_
                      obtain ⟨v83, p84, h⟩ := bu_bd h
                      refine bw_callVv (As := [.int v6, .int 0, .int (v81.2.1 x0 18)]) hN q1 ⟨_, _, rfl⟩ dX12_operand_199 mc_12_456 (c_X12_putCode (d := d + 1) hN p84) rfl rfl (by decide) ?_
                      refine bv_aload_n dX12_operand_202 0 rfl ?_
                      obtain ⟨v85, p86, h⟩ := bu_bd h
                      refine bw_callVv (As := []) hN q1 ⟨_, _, rfl⟩ dX12_operand_203 mc_12_203 (c_X12_next (d := d + 0) hN p86) rfl rfl (by decide) ?_
                      refine bv_iconst (v := 1) dX12_operand_206 (by decide) ?_
                      obtain rfl := Option.some.inj h
                      exact bw_bret (b := true) dX12_operand_207 rfl ⟨rfl, rfl⟩
                    · replace h := bu_bf h cc
                      refine bv_iconst (v := 0) dX12_operand_190 (by decide) ?_
                      obtain rfl := Option.some.inj h
                      exact bw_bret (b := false) dX12_operand_191 rfl ⟨rfl, rfl⟩
                  · replace h := bu_f h cc
                    refine bv_aload_n dX12_operand_157 0 rfl ?_
                    refine bv_iconst (v := 0) dX12_operand_158 (by decide) ?_
                    refine bv_aload_n dX12_operand_159 0 rfl ?_
                    obtain ⟨a87, e88, h⟩ := bu_bd h
                    refine bw_getA (a := a87) hN q1 e88 dX12_operand_160 fl_12_33 rfl ?_
                    refine bv_iconst (v := 0) dX12_operand_163 (by decide) ?_
                    obtain ⟨r89, h⟩ := bu_ia h
                    refine bw_iald hN r89 dX12_operand_164 ?_
                    obtain ⟨v90, p91, h⟩ := bu_bd h
                    refine bw_callV (As := [.int 0, .int ((bm_sI v58 x0 42 (bm_bi true)).1 a87 (0 : Int32).toNatClampNeg)]) hN q1 ⟨_, _, rfl⟩ dX12_operand_165 mc_12_225 (c_X12_looksAt (d := d + 0) hN p91) rfl rfl (by decide) ?_
                    refine bv_goto (tgt := 183) dX12_operand_168 (by decide) ?_
                    refine bv_istore (ls1 := [(0, .ref x0), (1, .int (bm_bi v2)), (2, .int (bm_bi v4)), (3, .int v6), (4, .int (bm_bi v90.1))]) dX12_operand_183 (by decide) rfl rfl ?_
                    refine bv_iload dX12_operand_185 4 rfl ?_
                    refine bw_ifB_ne (b := v90.1) (tgt := 192) dX12_operand_187 (by decide) (fun cc => ?_) (fun cc => ?_)
                    · replace h := bu_bt h cc
                      refine bv_aload_n dX12_operand_192 0 rfl ?_
                      refine bv_iload_n dX12_operand_193 3 rfl ?_
                      refine bv_iconst (v := 0) dX12_operand_194 (by decide) ?_
                      refine bv_aload_n dX12_operand_195 0 rfl ?_
                      refine bw_getI hN q1 dX12_operand_196 fl_12_210 rfl ?_
                      obtain ⟨v92, p93, h⟩ := bu_bd h
                      refine bw_callVv (As := [.int v6, .int 0, .int (v90.2.1 x0 18)]) hN q1 ⟨_, _, rfl⟩ dX12_operand_199 mc_12_456 (c_X12_putCode (d := d + 1) hN p93) rfl rfl (by decide) ?_
                      refine bv_aload_n dX12_operand_202 0 rfl ?_
                      obtain ⟨v94, p95, h⟩ := bu_bd h
                      refine bw_callVv (As := []) hN q1 ⟨_, _, rfl⟩ dX12_operand_203 mc_12_203 (c_X12_next (d := d + 0) hN p95) rfl rfl (by decide) ?_
                      refine bv_iconst (v := 1) dX12_operand_206 (by decide) ?_
                      obtain rfl := Option.some.inj h
                      exact bw_bret (b := true) dX12_operand_207 rfl ⟨rfl, rfl⟩
                    · replace h := bu_bf h cc
                      refine bv_iconst (v := 0) dX12_operand_190 (by decide) ?_
                      obtain rfl := Option.some.inj h
                      exact bw_bret (b := false) dX12_operand_191 rfl ⟨rfl, rfl⟩
              · replace h := bu_f h cc
                refine bv_aload_n dX12_operand_136 0 rfl ?_
                refine bv_iload_n dX12_operand_137 3 rfl ?_
                refine bv_iconst (v := 0) dX12_operand_138 (by decide) ?_
                refine bv_iconst (v := 0) dX12_operand_139 (by decide) ?_
                obtain ⟨v96, p97, h⟩ := bu_bd h
                refine bw_callVv (As := [.int v6, .int 0, .int 0]) hN q1 ⟨_, _, rfl⟩ dX12_operand_140 mc_12_456 (c_X12_putCode (d := d + 1) hN p97) rfl rfl (by decide) ?_
                refine bv_iconst (v := 1) dX12_operand_143 (by decide) ?_
                obtain rfl := Option.some.inj h
                exact bw_bret (b := true) dX12_operand_144 rfl ⟨rfl, rfl⟩
            · replace h := bu_bt h cc
              refine bv_aload_n dX12_operand_84 0 rfl ?_
              obtain ⟨a98, e99, h⟩ := bu_bd h
              refine bw_getA (a := a98) hN q1 e99 dX12_operand_85 fl_12_77 rfl ?_
              refine bv_aload_n dX12_operand_88 0 rfl ?_
              refine bw_getI hN q1 dX12_operand_89 fl_12_453 rfl ?_
              refine bv_iload_n dX12_operand_92 1 rfl ?_
              refine bw_ifB_eq (b := v2) (tgt := 101) dX12_operand_93 (by decide) (fun cc => ?_) (fun cc => ?_)
              · replace h := bu_bf h cc
                refine bv_bipush (v := 23) dX12_operand_101 (by decide) ?_
                obtain ⟨r100, h⟩ := bu_ia h
                refine bw_iast hN r100 dX12_operand_103 ?_
                refine bv_aload_n dX12_operand_104 0 rfl ?_
                refine bv_dup dX12_operand_105 rfl ?_
                refine bw_getI hN q1 dX12_operand_106 fl_12_453 rfl ?_
                refine bv_iconst (v := 1) dX12_operand_109 (by decide) ?_
                refine bv_iadd dX12_operand_110 ?_
                refine bw_putI hN q1 dX12_operand_111 fl_12_453 rfl ?_
                refine bv_aload_n dX12_operand_114 0 rfl ?_
                refine bv_dup dX12_operand_115 rfl ?_
                refine bw_getI hN q1 dX12_operand_116 fl_12_460 rfl ?_
                refine bv_iconst (v := 1) dX12_operand_119 (by decide) ?_
                refine bv_iadd dX12_operand_120 ?_
                refine bw_putI hN q1 dX12_operand_121 fl_12_460 rfl ?_
                refine bv_iconst (v := 1) dX12_operand_124 (by decide) ?_
                obtain rfl := Option.some.inj h
                exact bw_bret (b := true) dX12_operand_125 rfl ⟨rfl, rfl⟩
              · replace h := bu_bt h cc
                refine bv_bipush (v := 20) dX12_operand_96 (by decide) ?_
                refine bv_goto (tgt := 103) dX12_operand_98 (by decide) ?_
                obtain ⟨r101, h⟩ := bu_ia h
                refine bw_iast hN r101 dX12_operand_103 ?_
                refine bv_aload_n dX12_operand_104 0 rfl ?_
                refine bv_dup dX12_operand_105 rfl ?_
                refine bw_getI hN q1 dX12_operand_106 fl_12_453 rfl ?_
                refine bv_iconst (v := 1) dX12_operand_109 (by decide) ?_
                refine bv_iadd dX12_operand_110 ?_
                refine bw_putI hN q1 dX12_operand_111 fl_12_453 rfl ?_
                refine bv_aload_n dX12_operand_114 0 rfl ?_
                refine bv_dup dX12_operand_115 rfl ?_
                refine bw_getI hN q1 dX12_operand_116 fl_12_460 rfl ?_
                refine bv_iconst (v := 1) dX12_operand_119 (by decide) ?_
                refine bv_iadd dX12_operand_120 ?_
                refine bw_putI hN q1 dX12_operand_121 fl_12_460 rfl ?_
                refine bv_iconst (v := 1) dX12_operand_124 (by decide) ?_
                obtain rfl := Option.some.inj h
                exact bw_bret (b := true) dX12_operand_125 rfl ⟨rfl, rfl⟩
        · replace h := bu_f h cc
          refine bv_aload_n dX12_operand_56 0 rfl ?_
          refine bv_iconst (v := 4) dX12_operand_57 (by decide) ?_
          obtain ⟨v102, p103, h⟩ := bu_bd h
          refine bw_callV (As := [.int 4]) hN q1 ⟨_, _, rfl⟩ dX12_operand_58 mc_12_200 (c_X12_bad (d := d + 1) hN p103) rfl rfl (by decide) ?_
          obtain rfl := Option.some.inj h
          exact bw_bret (b := v102.1) dX12_operand_61 rfl ⟨rfl, rfl⟩
    · replace h := bu_bf h cc
      refine bv_iload_n dX12_operand_28 3 rfl ?_
      refine bv_if_ge (tgt := 38) dX12_operand_29 (by decide) (fun cc => ?_) (fun cc => ?_)
      · replace h := bu_t h cc
        refine bv_aload_n dX12_operand_38 0 rfl ?_
        refine bw_getI hN q1 dX12_operand_39 fl_12_466 rfl ?_
        refine bv_bipush (v := 20) dX12_operand_42 (by decide) ?_
        refine bv_icmp_eq (tgt := 56) dX12_operand_44 (by decide) (fun cc => ?_) (fun cc => ?_)
        · replace h := bu_t h cc
          refine bv_aload_n dX12_operand_56 0 rfl ?_
          refine bv_iconst (v := 4) dX12_operand_57 (by decide) ?_
          obtain ⟨v104, p105, h⟩ := bu_bd h
          refine bw_callV (As := [.int 4]) hN q1 ⟨_, _, rfl⟩ dX12_operand_58 mc_12_200 (c_X12_bad (d := d + 1) hN p105) rfl rfl (by decide) ?_
          obtain rfl := Option.some.inj h
          exact bw_bret (b := v104.1) dX12_operand_61 rfl ⟨rfl, rfl⟩
        · replace h := bu_f h cc
          refine bv_aload_n dX12_operand_47 0 rfl ?_
          refine bw_getI hN q1 dX12_operand_48 fl_12_460 rfl ?_
          refine bv_bipush (v := 8) dX12_operand_51 (by decide) ?_
          refine bv_icmp_le (tgt := 62) dX12_operand_53 (by decide) (fun cc => ?_) (fun cc => ?_)
          · replace h := bu_t h cc
            refine bv_aload_n dX12_operand_62 0 rfl ?_
            refine bv_dup dX12_operand_63 rfl ?_
            refine bw_getI hN q1 dX12_operand_64 fl_12_466 rfl ?_
            refine bv_iconst (v := 1) dX12_operand_67 (by decide) ?_
            refine bv_iadd dX12_operand_68 ?_
            refine bw_putI hN q1 dX12_operand_69 fl_12_466 rfl ?_
            refine bv_aload_n dX12_operand_72 0 rfl ?_
            obtain ⟨v106, p107, h⟩ := bu_bd h
            refine bw_callVv (As := []) hN q1 ⟨_, _, rfl⟩ dX12_operand_73 mc_12_203 (c_X12_next (d := d + 0) hN p107) rfl rfl (by decide) ?_
            refine bv_iload_n dX12_operand_76 1 rfl ?_
            refine bw_ifB_ne (b := v2) (tgt := 84) dX12_operand_77 (by decide) (fun cc => ?_) (fun cc => ?_)
            · replace h := bu_bt h cc
              refine bv_aload_n dX12_operand_84 0 rfl ?_
              obtain ⟨a108, e109, h⟩ := bu_bd h
              refine bw_getA (a := a108) hN q1 e109 dX12_operand_85 fl_12_77 rfl ?_
              refine bv_aload_n dX12_operand_88 0 rfl ?_
              refine bw_getI hN q1 dX12_operand_89 fl_12_453 rfl ?_
              refine bv_iload_n dX12_operand_92 1 rfl ?_
              refine bw_ifB_eq (b := v2) (tgt := 101) dX12_operand_93 (by decide) (fun cc => ?_) (fun cc => ?_)
              · replace h := bu_bf h cc
                refine bv_bipush (v := 23) dX12_operand_101 (by decide) ?_
                obtain ⟨r110, h⟩ := bu_ia h
                refine bw_iast hN r110 dX12_operand_103 ?_
                refine bv_aload_n dX12_operand_104 0 rfl ?_
                refine bv_dup dX12_operand_105 rfl ?_
                refine bw_getI hN q1 dX12_operand_106 fl_12_453 rfl ?_
                refine bv_iconst (v := 1) dX12_operand_109 (by decide) ?_
                refine bv_iadd dX12_operand_110 ?_
                refine bw_putI hN q1 dX12_operand_111 fl_12_453 rfl ?_
                refine bv_aload_n dX12_operand_114 0 rfl ?_
                refine bv_dup dX12_operand_115 rfl ?_
                refine bw_getI hN q1 dX12_operand_116 fl_12_460 rfl ?_
                refine bv_iconst (v := 1) dX12_operand_119 (by decide) ?_
                refine bv_iadd dX12_operand_120 ?_
                refine bw_putI hN q1 dX12_operand_121 fl_12_460 rfl ?_
                refine bv_iconst (v := 1) dX12_operand_124 (by decide) ?_
                obtain rfl := Option.some.inj h
                exact bw_bret (b := true) dX12_operand_125 rfl ⟨rfl, rfl⟩
              · replace h := bu_bt h cc
                refine bv_bipush (v := 20) dX12_operand_96 (by decide) ?_
                refine bv_goto (tgt := 103) dX12_operand_98 (by decide) ?_
                obtain ⟨r111, h⟩ := bu_ia h
                refine bw_iast hN r111 dX12_operand_103 ?_
                refine bv_aload_n dX12_operand_104 0 rfl ?_
                refine bv_dup dX12_operand_105 rfl ?_
                refine bw_getI hN q1 dX12_operand_106 fl_12_453 rfl ?_
                refine bv_iconst (v := 1) dX12_operand_109 (by decide) ?_
                refine bv_iadd dX12_operand_110 ?_
                refine bw_putI hN q1 dX12_operand_111 fl_12_453 rfl ?_
                refine bv_aload_n dX12_operand_114 0 rfl ?_
                refine bv_dup dX12_operand_115 rfl ?_
                refine bw_getI hN q1 dX12_operand_116 fl_12_460 rfl ?_
                refine bv_iconst (v := 1) dX12_operand_119 (by decide) ?_
                refine bv_iadd dX12_operand_120 ?_
                refine bw_putI hN q1 dX12_operand_121 fl_12_460 rfl ?_
                refine bv_iconst (v := 1) dX12_operand_124 (by decide) ?_
                obtain rfl := Option.some.inj h
                exact bw_bret (b := true) dX12_operand_125 rfl ⟨rfl, rfl⟩
            · replace h := bu_bf h cc
              refine bv_iload_n dX12_operand_80 2 rfl ?_
              refine bw_ifB_eq (b := v4) (tgt := 126) dX12_operand_81 (by decide) (fun cc => ?_) (fun cc => ?_)
              · replace h := bu_bf h cc
                refine bv_aload_n dX12_operand_126 0 rfl ?_
                refine bv_iconst (v := 1) dX12_operand_127 (by decide) ?_
                refine bw_putB (b := true) hN q1 dX12_operand_128 fl_12_469 rfl ?_
                refine bv_iload_n dX12_operand_131 3 rfl ?_
                refine bv_iconst (v := 5) dX12_operand_132 (by decide) ?_
                refine bv_icmp_ge (tgt := 145) dX12_operand_133 (by decide) (fun cc => ?_) (fun cc => ?_)
                · replace h := bu_t h cc
                  refine bv_iload_n dX12_operand_145 3 rfl ?_
                  refine bv_bipush (v := 8) dX12_operand_146 (by decide) ?_
                  refine bv_icmp_ge (tgt := 208) dX12_operand_148 (by decide) (fun cc => ?_) (fun cc => ?_)
                  · replace h := bu_t h cc
                    refine bv_aload_n dX12_operand_208 0 rfl ?_
                    refine bw_getI hN q1 dX12_operand_209 fl_12_174 rfl ?_
                    refine bv_iconst (v := 3) dX12_operand_212 (by decide) ?_
                    refine bv_icmp_ne (tgt := 234) dX12_operand_213 (by decide) (fun cc => ?_) (fun cc => ?_)
                    · replace h := bu_f h cc
                      refine bv_aload_n dX12_operand_234 0 rfl ?_
                      refine bv_iconst (v := 1) dX12_operand_235 (by decide) ?_
                      obtain ⟨v112, p113, h⟩ := bu_bd h
                      refine bw_callV (As := [.int 1]) hN q1 ⟨_, _, rfl⟩ dX12_operand_236 mc_12_200 (c_X12_bad (d := d + 1) hN p113) rfl rfl (by decide) ?_
                      obtain rfl := Option.some.inj h
                      exact bw_bret (b := v112.1) dX12_operand_239 rfl ⟨rfl, rfl⟩
                    · replace h := bu_t h cc
                      refine bv_aload_n dX12_operand_216 0 rfl ?_
                      refine bw_getI hN q1 dX12_operand_217 fl_12_184 rfl ?_
                      refine bv_bipush (v := 60) dX12_operand_220 (by decide) ?_
                      refine bv_icmp_lt (tgt := 234) dX12_operand_222 (by decide) (fun cc => ?_) (fun cc => ?_)
                      · replace h := bu_t h cc
                        refine bv_aload_n dX12_operand_234 0 rfl ?_
                        refine bv_iconst (v := 1) dX12_operand_235 (by decide) ?_
                        obtain ⟨v114, p115, h⟩ := bu_bd h
                        refine bw_callV (As := [.int 1]) hN q1 ⟨_, _, rfl⟩ dX12_operand_236 mc_12_200 (c_X12_bad (d := d + 1) hN p115) rfl rfl (by decide) ?_
                        obtain rfl := Option.some.inj h
                        exact bw_bret (b := v114.1) dX12_operand_239 rfl ⟨rfl, rfl⟩
                      · replace h := bu_f h cc
                        refine bv_aload_n dX12_operand_225 0 rfl ?_
                        refine bw_getI hN q1 dX12_operand_226 fl_12_184 rfl ?_
                        refine bv_bipush (v := 62) dX12_operand_229 (by decide) ?_
                        refine bv_icmp_le (tgt := 240) dX12_operand_231 (by decide) (fun cc => ?_) (fun cc => ?_)
                        · replace h := bu_t h cc
                          refine bv_aload_n dX12_operand_240 0 rfl ?_
                          refine bw_getI hN q1 dX12_operand_241 fl_12_184 rfl ?_
                          refine bv_istore (ls1 := [(0, .ref x0), (1, .int (bm_bi v2)), (2, .int (bm_bi v4)), (3, .int v6), (4, .int ((bm_sI v106 x0 42 (bm_bi true)).1 x0 14))]) dX12_operand_244 (by decide) rfl rfl ?_
                          refine bv_aload_n dX12_operand_246 0 rfl ?_
                          obtain ⟨v116, p117, h⟩ := bu_bd h
                          refine bw_callVv (As := []) hN q1 ⟨_, _, rfl⟩ dX12_operand_247 mc_12_203 (c_X12_next (d := d + 0) hN p117) rfl rfl (by decide) ?_
                          refine bv_aload_n dX12_operand_250 0 rfl ?_
                          refine bw_getI hN q1 dX12_operand_251 fl_12_174 rfl ?_
                          refine bv_iconst (v := 2) dX12_operand_254 (by decide) ?_
                          refine bv_icmp_eq (tgt := 264) dX12_operand_255 (by decide) (fun cc => ?_) (fun cc => ?_)
                          · replace h := bu_t h cc
                            refine bv_aload_n dX12_operand_264 0 rfl ?_
                            refine bv_iload_n dX12_operand_265 3 rfl ?_
                            refine bv_iload dX12_operand_266 4 rfl ?_
                            refine bv_aload_n dX12_operand_268 0 rfl ?_
                            refine bw_getI hN q1 dX12_operand_269 fl_12_184 rfl ?_
                            obtain ⟨v118, p119, h⟩ := bu_bd h
                            refine bw_callVv (As := [.int v6, .int ((bm_sI v106 x0 42 (bm_bi true)).1 x0 14), .int (v116.1 x0 14)]) hN q1 ⟨_, _, rfl⟩ dX12_operand_272 mc_12_456 (c_X12_putCode (d := d + 1) hN p119) rfl rfl (by decide) ?_
                            refine bv_aload_n dX12_operand_275 0 rfl ?_
                            obtain ⟨v120, p121, h⟩ := bu_bd h
                            refine bw_callVv (As := []) hN q1 ⟨_, _, rfl⟩ dX12_operand_276 mc_12_203 (c_X12_next (d := d + 0) hN p121) rfl rfl (by decide) ?_
                            refine bv_iconst (v := 1) dX12_operand_279 (by decide) ?_
                            obtain rfl := Option.some.inj h
                            exact bw_bret (b := true) dX12_operand_280 rfl ⟨rfl, rfl⟩
                          · replace h := bu_f h cc
                            refine bv_aload_n dX12_operand_258 0 rfl ?_
                            refine bv_iconst (v := 1) dX12_operand_259 (by decide) ?_
                            obtain ⟨v122, p123, h⟩ := bu_bd h
                            refine bw_callV (As := [.int 1]) hN q1 ⟨_, _, rfl⟩ dX12_operand_260 mc_12_200 (c_X12_bad (d := d + 1) hN p123) rfl rfl (by decide) ?_
                            obtain rfl := Option.some.inj h
                            exact bw_bret (b := v122.1) dX12_operand_263 rfl ⟨rfl, rfl⟩
                        · replace h := bu_f h cc
                          refine bv_aload_n dX12_operand_234 0 rfl ?_
                          refine bv_iconst (v := 1) dX12_operand_235 (by decide) ?_
                          obtain ⟨v124, p125, h⟩ := bu_bd h
                          refine bw_callV (As := [.int 1]) hN q1 ⟨_, _, rfl⟩ dX12_operand_236 mc_12_200 (c_X12_bad (d := d + 1) hN p125) rfl rfl (by decide) ?_
                          obtain rfl := Option.some.inj h
                          exact bw_bret (b := v124.1) dX12_operand_239 rfl ⟨rfl, rfl⟩
                  · replace h := bu_f h cc
                    refine bv_iload_n dX12_operand_151 3 rfl ?_
                    refine bv_bipush (v := 7) dX12_operand_152 (by decide) ?_
                    refine bv_icmp_ge (tgt := 171) dX12_operand_154 (by decide) (fun cc => ?_) (fun cc => ?_)
                    · replace h := bu_t h cc
                      refine bv_aload_n dX12_operand_171 0 rfl ?_
                      refine bv_bipush (v := 8) dX12_operand_172 (by decide) ?_
                      refine bv_aload_n dX12_operand_174 0 rfl ?_
                      obtain ⟨a126, e127, h⟩ := bu_bd h
                      refine bw_getA (a := a126) hN q1 e127 dX12_operand_175 fl_12_33 rfl ?_
                      refine bv_iconst (v := 1) dX12_operand_178 (by decide) ?_
                      obtain ⟨r128, h⟩ := bu_ia h
                      refine bw_iald hN r128 dX12_operand_179 ?_
                      obtain ⟨v129, p130, h⟩ := bu_bd h
                      refine bw_callV (As := [.int 8, .int ((bm_sI v106 x0 42 (bm_bi true)).1 a126 (1 : Int32).toNatClampNeg)]) hN q1 ⟨_, _, rfl⟩ dX12_operand_180 mc_12_225 (c_X12_looksAt (d := d + 0) hN p130) rfl rfl (by decide) ?_
                      refine bv_istore (ls1 := [(0, .ref x0), (1, .int (bm_bi v2)), (2, .int (bm_bi v4)), (3, .int v6), (4, .int (bm_bi v129.1))]) dX12_operand_183 (by decide) rfl rfl ?_
                      refine bv_iload dX12_operand_185 4 rfl ?_
                      refine bw_ifB_ne (b := v129.1) (tgt := 192) dX12_operand_187 (by decide) (fun cc => ?_) (fun cc => ?_)
                      · replace h := bu_bt h cc
                        refine bv_aload_n dX12_operand_192 0 rfl ?_
                        refine bv_iload_n dX12_operand_193 3 rfl ?_
                        refine bv_iconst (v := 0) dX12_operand_194 (by decide) ?_
                        refine bv_aload_n dX12_operand_195 0 rfl ?_
                        refine bw_getI hN q1 dX12_operand_196 fl_12_210 rfl ?_
                        obtain ⟨v131, p132, h⟩ := bu_bd h
                        refine bw_callVv (As := [.int v6, .int 0, .int (v129.2.1 x0 18)]) hN q1 ⟨_, _, rfl⟩ dX12_operand_199 mc_12_456 (c_X12_putCode (d := d + 1) hN p132) rfl rfl (by decide) ?_
                        refine bv_aload_n dX12_operand_202 0 rfl ?_
                        obtain ⟨v133, p134, h⟩ := bu_bd h
                        refine bw_callVv (As := []) hN q1 ⟨_, _, rfl⟩ dX12_operand_203 mc_12_203 (c_X12_next (d := d + 0) hN p134) rfl rfl (by decide) ?_
                        refine bv_iconst (v := 1) dX12_operand_206 (by decide) ?_
                        obtain rfl := Option.some.inj h
                        exact bw_bret (b := true) dX12_operand_207 rfl ⟨rfl, rfl⟩
                      · replace h := bu_bf h cc
                        refine bv_iconst (v := 0) dX12_operand_190 (by decide) ?_
                        obtain rfl := Option.some.inj h
                        exact bw_bret (b := false) dX12_operand_191 rfl ⟨rfl, rfl⟩
                    · replace h := bu_f h cc
                      refine bv_aload_n dX12_operand_157 0 rfl ?_
                      refine bv_iconst (v := 0) dX12_operand_158 (by decide) ?_
                      refine bv_aload_n dX12_operand_159 0 rfl ?_
                      obtain ⟨a135, e136, h⟩ := bu_bd h
                      refine bw_getA (a := a135) hN q1 e136 dX12_operand_160 fl_12_33 rfl ?_
                      refine bv_iconst (v := 0) dX12_operand_163 (by decide) ?_
                      obtain ⟨r137, h⟩ := bu_ia h
                      refine bw_iald hN r137 dX12_operand_164 ?_
                      obtain ⟨v138, p139, h⟩ := bu_bd h
                      refine bw_callV (As := [.int 0, .int ((bm_sI v106 x0 42 (bm_bi true)).1 a135 (0 : Int32).toNatClampNeg)]) hN q1 ⟨_, _, rfl⟩ dX12_operand_165 mc_12_225 (c_X12_looksAt (d := d + 0) hN p139) rfl rfl (by decide) ?_
                      refine bv_goto (tgt := 183) dX12_operand_168 (by decide) ?_
                      refine bv_istore (ls1 := [(0, .ref x0), (1, .int (bm_bi v2)), (2, .int (bm_bi v4)), (3, .int v6), (4, .int (bm_bi v138.1))]) dX12_operand_183 (by decide) rfl rfl ?_
                      refine bv_iload dX12_operand_185 4 rfl ?_
                      refine bw_ifB_ne (b := v138.1) (tgt := 192) dX12_operand_187 (by decide) (fun cc => ?_) (fun cc => ?_)
                      · replace h := bu_bt h cc
                        refine bv_aload_n dX12_operand_192 0 rfl ?_
                        refine bv_iload_n dX12_operand_193 3 rfl ?_
                        refine bv_iconst (v := 0) dX12_operand_194 (by decide) ?_
                        refine bv_aload_n dX12_operand_195 0 rfl ?_
                        refine bw_getI hN q1 dX12_operand_196 fl_12_210 rfl ?_
                        obtain ⟨v140, p141, h⟩ := bu_bd h
                        refine bw_callVv (As := [.int v6, .int 0, .int (v138.2.1 x0 18)]) hN q1 ⟨_, _, rfl⟩ dX12_operand_199 mc_12_456 (c_X12_putCode (d := d + 1) hN p141) rfl rfl (by decide) ?_
                        refine bv_aload_n dX12_operand_202 0 rfl ?_
                        obtain ⟨v142, p143, h⟩ := bu_bd h
                        refine bw_callVv (As := []) hN q1 ⟨_, _, rfl⟩ dX12_operand_203 mc_12_203 (c_X12_next (d := d + 0) hN p143) rfl rfl (by decide) ?_
                        refine bv_iconst (v := 1) dX12_operand_206 (by decide) ?_
                        obtain rfl := Option.some.inj h
                        exact bw_bret (b := true) dX12_operand_207 rfl ⟨rfl, rfl⟩
                      · replace h := bu_bf h cc
                        refine bv_iconst (v := 0) dX12_operand_190 (by decide) ?_
                        obtain rfl := Option.some.inj h
                        exact bw_bret (b := false) dX12_operand_191 rfl ⟨rfl, rfl⟩
                · replace h := bu_f h cc
                  refine bv_aload_n dX12_operand_136 0 rfl ?_
                  refine bv_iload_n dX12_operand_137 3 rfl ?_
                  refine bv_iconst (v := 0) dX12_operand_138 (by decide) ?_
                  refine bv_iconst (v := 0) dX12_operand_139 (by decide) ?_
                  obtain ⟨v144, p145, h⟩ := bu_bd h
                  refine bw_callVv (As := [.int v6, .int 0, .int 0]) hN q1 ⟨_, _, rfl⟩ dX12_operand_140 mc_12_456 (c_X12_putCode (d := d + 1) hN p145) rfl rfl (by decide) ?_
                  refine bv_iconst (v := 1) dX12_operand_143 (by decide) ?_
                  obtain rfl := Option.some.inj h
                  exact bw_bret (b := true) dX12_operand_144 rfl ⟨rfl, rfl⟩
              · replace h := bu_bt h cc
                refine bv_aload_n dX12_operand_84 0 rfl ?_
                obtain ⟨a146, e147, h⟩ := bu_bd h
                refine bw_getA (a := a146) hN q1 e147 dX12_operand_85 fl_12_77 rfl ?_
                refine bv_aload_n dX12_operand_88 0 rfl ?_
                refine bw_getI hN q1 dX12_operand_89 fl_12_453 rfl ?_
                refine bv_iload_n dX12_operand_92 1 rfl ?_
                refine bw_ifB_eq (b := v2) (tgt := 101) dX12_operand_93 (by decide) (fun cc => ?_) (fun cc => ?_)
                · replace h := bu_bf h cc
                  refine bv_bipush (v := 23) dX12_operand_101 (by decide) ?_
                  obtain ⟨r148, h⟩ := bu_ia h
                  refine bw_iast hN r148 dX12_operand_103 ?_
                  refine bv_aload_n dX12_operand_104 0 rfl ?_
                  refine bv_dup dX12_operand_105 rfl ?_
                  refine bw_getI hN q1 dX12_operand_106 fl_12_453 rfl ?_
                  refine bv_iconst (v := 1) dX12_operand_109 (by decide) ?_
                  refine bv_iadd dX12_operand_110 ?_
                  refine bw_putI hN q1 dX12_operand_111 fl_12_453 rfl ?_
                  refine bv_aload_n dX12_operand_114 0 rfl ?_
                  refine bv_dup dX12_operand_115 rfl ?_
                  refine bw_getI hN q1 dX12_operand_116 fl_12_460 rfl ?_
                  refine bv_iconst (v := 1) dX12_operand_119 (by decide) ?_
                  refine bv_iadd dX12_operand_120 ?_
                  refine bw_putI hN q1 dX12_operand_121 fl_12_460 rfl ?_
                  refine bv_iconst (v := 1) dX12_operand_124 (by decide) ?_
                  obtain rfl := Option.some.inj h
                  exact bw_bret (b := true) dX12_operand_125 rfl ⟨rfl, rfl⟩
                · replace h := bu_bt h cc
                  refine bv_bipush (v := 20) dX12_operand_96 (by decide) ?_
                  refine bv_goto (tgt := 103) dX12_operand_98 (by decide) ?_
                  obtain ⟨r149, h⟩ := bu_ia h
                  refine bw_iast hN r149 dX12_operand_103 ?_
                  refine bv_aload_n dX12_operand_104 0 rfl ?_
                  refine bv_dup dX12_operand_105 rfl ?_
                  refine bw_getI hN q1 dX12_operand_106 fl_12_453 rfl ?_
                  refine bv_iconst (v := 1) dX12_operand_109 (by decide) ?_
                  refine bv_iadd dX12_operand_110 ?_
                  refine bw_putI hN q1 dX12_operand_111 fl_12_453 rfl ?_
                  refine bv_aload_n dX12_operand_114 0 rfl ?_
                  refine bv_dup dX12_operand_115 rfl ?_
                  refine bw_getI hN q1 dX12_operand_116 fl_12_460 rfl ?_
                  refine bv_iconst (v := 1) dX12_operand_119 (by decide) ?_
                  refine bv_iadd dX12_operand_120 ?_
                  refine bw_putI hN q1 dX12_operand_121 fl_12_460 rfl ?_
                  refine bv_iconst (v := 1) dX12_operand_124 (by decide) ?_
                  obtain rfl := Option.some.inj h
                  exact bw_bret (b := true) dX12_operand_125 rfl ⟨rfl, rfl⟩
          · replace h := bu_f h cc
            refine bv_aload_n dX12_operand_56 0 rfl ?_
            refine bv_iconst (v := 4) dX12_operand_57 (by decide) ?_
            obtain ⟨v150, p151, h⟩ := bu_bd h
            refine bw_callV (As := [.int 4]) hN q1 ⟨_, _, rfl⟩ dX12_operand_58 mc_12_200 (c_X12_bad (d := d + 1) hN p151) rfl rfl (by decide) ?_
            obtain rfl := Option.some.inj h
            exact bw_bret (b := v150.1) dX12_operand_61 rfl ⟨rfl, rfl⟩
      · replace h := bu_f h cc
        refine bv_aload_n dX12_operand_32 0 rfl ?_
        refine bv_iconst (v := 1) dX12_operand_33 (by decide) ?_
        obtain ⟨v152, p153, h⟩ := bu_bd h
        refine bw_callV (As := [.int 1]) hN q1 ⟨_, _, rfl⟩ dX12_operand_34 mc_12_200 (c_X12_bad (d := d + 1) hN p153) rfl rfl (by decide) ?_
        obtain rfl := Option.some.inj h
        exact bw_bret (b := v152.1) dX12_operand_37 rfl ⟨rfl, rfl⟩
def f_X12_behind (M : bm_M) (x0 : Nat) : Option (Bool × bm_M) := (if bm_io x0 11 then ((f_X12_nots M x0).bind fun v2 => ((f_X12_isWord v2 x0 6385252).bind fun v4 => (if v4 = true then ((f_X12_isWord v2 x0 6385252).bind fun v6 => (if v6 = true then ((f_X12_joins v2 x0 21).bind fun v20 => ((v20.2.2 x0 37).bind fun a22 => ((f_X12_isWord v20 x0 6385252).bind fun v24 => (if v24 = true then (if bm_ia a22 0 (v20.1 x0 40) = true then ((f_X12_next (bm_sI (bm_sI (bm_sI v20 a22 (v20.1 x0 40).toNatClampNeg 21) x0 40 (((bm_sI v20 a22 (v20.1 x0 40).toNatClampNeg 21).1 x0 40) + 1)) x0 42 (bm_bi false)) x0).bind fun v30 => some (true, v30)) else none) else (if bm_ia a22 0 (v20.1 x0 40) = true then ((f_X12_next (bm_sI (bm_sI (bm_sI v20 a22 (v20.1 x0 40).toNatClampNeg 22) x0 40 (((bm_sI v20 a22 (v20.1 x0 40).toNatClampNeg 22).1 x0 40) + 1)) x0 42 (bm_bi false)) x0).bind fun v27 => some (true, v27)) else none))))) else ((f_X12_joins v2 x0 22).bind fun v8 => ((v8.2.2 x0 37).bind fun a10 => ((f_X12_isWord v8 x0 6385252).bind fun v12 => (if v12 = true then (if bm_ia a10 0 (v8.1 x0 40) = true then ((f_X12_next (bm_sI (bm_sI (bm_sI v8 a10 (v8.1 x0 40).toNatClampNeg 21) x0 40 (((bm_sI v8 a10 (v8.1 x0 40).toNatClampNeg 21).1 x0 40) + 1)) x0 42 (bm_bi false)) x0).bind fun v18 => some (true, v18)) else none) else (if bm_ia a10 0 (v8.1 x0 40) = true then ((f_X12_next (bm_sI (bm_sI (bm_sI v8 a10 (v8.1 x0 40).toNatClampNeg 22) x0 40 (((bm_sI v8 a10 (v8.1 x0 40).toNatClampNeg 22).1 x0 40) + 1)) x0 42 (bm_bi false)) x0).bind fun v15 => some (true, v15)) else none))))))) else ((f_X12_isWord v2 x0 28530).bind fun v32 => (if v32 = true then ((f_X12_isWord v2 x0 6385252).bind fun v44 => (if v44 = true then ((f_X12_joins v2 x0 21).bind fun v58 => ((v58.2.2 x0 37).bind fun a60 => ((f_X12_isWord v58 x0 6385252).bind fun v62 => (if v62 = true then (if bm_ia a60 0 (v58.1 x0 40) = true then ((f_X12_next (bm_sI (bm_sI (bm_sI v58 a60 (v58.1 x0 40).toNatClampNeg 21) x0 40 (((bm_sI v58 a60 (v58.1 x0 40).toNatClampNeg 21).1 x0 40) + 1)) x0 42 (bm_bi false)) x0).bind fun v68 => some (true, v68)) else none) else (if bm_ia a60 0 (v58.1 x0 40) = true then ((f_X12_next (bm_sI (bm_sI (bm_sI v58 a60 (v58.1 x0 40).toNatClampNeg 22) x0 40 (((bm_sI v58 a60 (v58.1 x0 40).toNatClampNeg 22).1 x0 40) + 1)) x0 42 (bm_bi false)) x0).bind fun v65 => some (true, v65)) else none))))) else ((f_X12_joins v2 x0 22).bind fun v46 => ((v46.2.2 x0 37).bind fun a48 => ((f_X12_isWord v46 x0 6385252).bind fun v50 => (if v50 = true then (if bm_ia a48 0 (v46.1 x0 40) = true then ((f_X12_next (bm_sI (bm_sI (bm_sI v46 a48 (v46.1 x0 40).toNatClampNeg 21) x0 40 (((bm_sI v46 a48 (v46.1 x0 40).toNatClampNeg 21).1 x0 40) + 1)) x0 42 (bm_bi false)) x0).bind fun v56 => some (true, v56)) else none) else (if bm_ia a48 0 (v46.1 x0 40) = true then ((f_X12_next (bm_sI (bm_sI (bm_sI v46 a48 (v46.1 x0 40).toNatClampNeg 22) x0 40 (((bm_sI v46 a48 (v46.1 x0 40).toNatClampNeg 22).1 x0 40) + 1)) x0 42 (bm_bi false)) x0).bind fun v53 => some (true, v53)) else none))))))) else ((f_X12_joins v2 x0 22).bind fun v34 => ((f_X12_isSign v34 x0 41).bind fun v36 => (if v36 = true then (if (v34.1 x0 40) = 0 then ((f_X12_bad v34 x0 1).bind fun v42 => some (v42.1, v42.2)) else ((f_X12_next (bm_sI (bm_sI v34 x0 40 ((v34.1 x0 40) - 1)) x0 41 (((bm_sI v34 x0 40 ((v34.1 x0 40) - 1)).1 x0 41) - 1)) x0).bind fun v40 => some (true, v40))) else ((f_X12_bad v34 x0 1).bind fun v38 => some (v38.1, v38.2)))))))))) else none)
set_option maxHeartbeats 4000000 in
set_option maxRecDepth 100000 in
theorem c_X12_behind {L : bm_L} {d n : Nat} {M : bm_M} {x0 : Nat} {v : Bool × bm_M} (hN : 181 ≤ n) (h : f_X12_behind M x0 = some v) : bm_C L m_X12_behind (d + 2) n n [.ref x0] M (fun r M' => r = some (.int (bm_bi v.1)) ∧ M' = v.2) := by
  refine bm_C.ofV (by decide) (Nat.le_of_ble_eq_true rfl) ?_
  show bm_V L m_X12_behind (d + 2) n n n 0 [(0, .ref x0)] [] M _
  unfold f_X12_behind at h
  refine bv_aload_n dX12_behind_0 0 rfl ?_
  obtain ⟨q1, h⟩ := bu_io h
  obtain ⟨v2, p3, h⟩ := bu_bd h
  refine bw_callVv (As := []) hN q1 ⟨_, _, rfl⟩ dX12_behind_1 mc_12_472 (c_X12_nots (d := d + 0) hN p3) rfl rfl (by decide) ?_
  refine bv_aload_n dX12_behind_4 0 rfl ?_
  refine bv_ldc2 (v := 6385252) dX12_behind_5 cst_12_139 ?_
  obtain ⟨v4, p5, h⟩ := bu_bd h
  refine bw_callV (As := [.long 6385252]) hN q1 ⟨_, _, rfl⟩ dX12_behind_8 mc_12_237 (c_X12_isWord (d := d + 1) hN p5) rfl rfl (by decide) ?_
  refine bw_ifB_ne (b := v4) (tgt := 24) dX12_behind_11 (by decide) (fun cc => ?_) (fun cc => ?_)
  · replace h := bu_bt h cc
    refine bv_aload_n dX12_behind_24 0 rfl ?_
    refine bv_aload_n dX12_behind_25 0 rfl ?_
    refine bv_ldc2 (v := 6385252) dX12_behind_26 cst_12_139 ?_
    obtain ⟨v6, p7, h⟩ := bu_bd h
    refine bw_callV (As := [.long 6385252]) hN q1 ⟨_, _, rfl⟩ dX12_behind_29 mc_12_237 (c_X12_isWord (d := d + 1) hN p7) rfl rfl (Nat.le_of_ble_eq_true rfl) ?_
    refine bw_ifB_eq (b := v6) (tgt := 40) dX12_behind_32 (by decide) (fun cc => ?_) (fun cc => ?_)
    · replace h := bu_bf h cc
      refine bv_bipush (v := 22) dX12_behind_40 (by decide) ?_
      obtain ⟨v8, p9, h⟩ := bu_bd h
      refine bw_callVv (As := [.int 22]) hN q1 ⟨_, _, rfl⟩ dX12_behind_42 mc_12_475 (c_X12_joins (d := d + 0) hN p9) rfl rfl (by decide) ?_
      refine bv_aload_n dX12_behind_45 0 rfl ?_
      obtain ⟨a10, e11, h⟩ := bu_bd h
      refine bw_getA (a := a10) hN q1 e11 dX12_behind_46 fl_12_77 rfl ?_
      refine bv_aload_n dX12_behind_49 0 rfl ?_
      refine bw_getI hN q1 dX12_behind_50 fl_12_453 rfl ?_
      refine bv_aload_n dX12_behind_53 0 rfl ?_
      refine bv_ldc2 (v := 6385252) dX12_behind_54 cst_12_139 ?_
      obtain ⟨v12, p13, h⟩ := bu_bd h
      refine bw_callV (As := [.long 6385252]) hN q1 ⟨_, _, rfl⟩ dX12_behind_57 mc_12_237 (c_X12_isWord (d := d + 1) hN p13) rfl rfl (Nat.le_of_ble_eq_true rfl) ?_
      refine bw_ifB_eq (b := v12) (tgt := 68) dX12_behind_60 (by decide) (fun cc => ?_) (fun cc => ?_)
      · replace h := bu_bf h cc
        refine bv_bipush (v := 22) dX12_behind_68 (by decide) ?_
        obtain ⟨r14, h⟩ := bu_ia h
        refine bw_iast hN r14 dX12_behind_70 ?_
        refine bv_aload_n dX12_behind_71 0 rfl ?_
        refine bv_dup dX12_behind_72 rfl ?_
        refine bw_getI hN q1 dX12_behind_73 fl_12_453 rfl ?_
        refine bv_iconst (v := 1) dX12_behind_76 (by decide) ?_
        refine bv_iadd dX12_behind_77 ?_
        refine bw_putI hN q1 dX12_behind_78 fl_12_453 rfl ?_
        refine bv_aload_n dX12_behind_81 0 rfl ?_
        refine bv_iconst (v := 0) dX12_behind_82 (by decide) ?_
        refine bw_putB (b := false) hN q1 dX12_behind_83 fl_12_469 rfl ?_
        refine bv_aload_n dX12_behind_86 0 rfl ?_
        obtain ⟨v15, p16, h⟩ := bu_bd h
        refine bw_callVv (As := []) hN q1 ⟨_, _, rfl⟩ dX12_behind_87 mc_12_203 (c_X12_next (d := d + 0) hN p16) rfl rfl (by decide) ?_
        refine bv_iconst (v := 1) dX12_behind_90 (by decide) ?_
        obtain rfl := Option.some.inj h
        exact bw_bret (b := true) dX12_behind_91 rfl ⟨rfl, rfl⟩
      · replace h := bu_bt h cc
        refine bv_bipush (v := 21) dX12_behind_63 (by decide) ?_
        refine bv_goto (tgt := 70) dX12_behind_65 (by decide) ?_
        obtain ⟨r17, h⟩ := bu_ia h
        refine bw_iast hN r17 dX12_behind_70 ?_
        refine bv_aload_n dX12_behind_71 0 rfl ?_
        refine bv_dup dX12_behind_72 rfl ?_
        refine bw_getI hN q1 dX12_behind_73 fl_12_453 rfl ?_
        refine bv_iconst (v := 1) dX12_behind_76 (by decide) ?_
        refine bv_iadd dX12_behind_77 ?_
        refine bw_putI hN q1 dX12_behind_78 fl_12_453 rfl ?_
        refine bv_aload_n dX12_behind_81 0 rfl ?_
        refine bv_iconst (v := 0) dX12_behind_82 (by decide) ?_
        refine bw_putB (b := false) hN q1 dX12_behind_83 fl_12_469 rfl ?_
        refine bv_aload_n dX12_behind_86 0 rfl ?_
        obtain ⟨v18, p19, h⟩ := bu_bd h
        refine bw_callVv (As := []) hN q1 ⟨_, _, rfl⟩ dX12_behind_87 mc_12_203 (c_X12_next (d := d + 0) hN p19) rfl rfl (by decide) ?_
        refine bv_iconst (v := 1) dX12_behind_90 (by decide) ?_
        obtain rfl := Option.some.inj h
        exact bw_bret (b := true) dX12_behind_91 rfl ⟨rfl, rfl⟩
    · replace h := bu_bt h cc
      refine bv_bipush (v := 21) dX12_behind_35 (by decide) ?_
      refine bv_goto (tgt := 42) dX12_behind_37 (by decide) ?_
      obtain ⟨v20, p21, h⟩ := bu_bd h
      refine bw_callVv (As := [.int 21]) hN q1 ⟨_, _, rfl⟩ dX12_behind_42 mc_12_475 (c_X12_joins (d := d + 0) hN p21) rfl rfl (by decide) ?_
      refine bv_aload_n dX12_behind_45 0 rfl ?_
      obtain ⟨a22, e23, h⟩ := bu_bd h
      refine bw_getA (a := a22) hN q1 e23 dX12_behind_46 fl_12_77 rfl ?_
      refine bv_aload_n dX12_behind_49 0 rfl ?_
      refine bw_getI hN q1 dX12_behind_50 fl_12_453 rfl ?_
      refine bv_aload_n dX12_behind_53 0 rfl ?_
      refine bv_ldc2 (v := 6385252) dX12_behind_54 cst_12_139 ?_
      obtain ⟨v24, p25, h⟩ := bu_bd h
      refine bw_callV (As := [.long 6385252]) hN q1 ⟨_, _, rfl⟩ dX12_behind_57 mc_12_237 (c_X12_isWord (d := d + 1) hN p25) rfl rfl (Nat.le_of_ble_eq_true rfl) ?_
      refine bw_ifB_eq (b := v24) (tgt := 68) dX12_behind_60 (by decide) (fun cc => ?_) (fun cc => ?_)
      · replace h := bu_bf h cc
        refine bv_bipush (v := 22) dX12_behind_68 (by decide) ?_
        obtain ⟨r26, h⟩ := bu_ia h
        refine bw_iast hN r26 dX12_behind_70 ?_
        refine bv_aload_n dX12_behind_71 0 rfl ?_
        refine bv_dup dX12_behind_72 rfl ?_
        refine bw_getI hN q1 dX12_behind_73 fl_12_453 rfl ?_
        refine bv_iconst (v := 1) dX12_behind_76 (by decide) ?_
        refine bv_iadd dX12_behind_77 ?_
        refine bw_putI hN q1 dX12_behind_78 fl_12_453 rfl ?_
        refine bv_aload_n dX12_behind_81 0 rfl ?_
        refine bv_iconst (v := 0) dX12_behind_82 (by decide) ?_
        refine bw_putB (b := false) hN q1 dX12_behind_83 fl_12_469 rfl ?_
        refine bv_aload_n dX12_behind_86 0 rfl ?_
        obtain ⟨v27, p28, h⟩ := bu_bd h
        refine bw_callVv (As := []) hN q1 ⟨_, _, rfl⟩ dX12_behind_87 mc_12_203 (c_X12_next (d := d + 0) hN p28) rfl rfl (by decide) ?_
        refine bv_iconst (v := 1) dX12_behind_90 (by decide) ?_
        obtain rfl := Option.some.inj h
        exact bw_bret (b := true) dX12_behind_91 rfl ⟨rfl, rfl⟩
      · replace h := bu_bt h cc
        refine bv_bipush (v := 21) dX12_behind_63 (by decide) ?_
        refine bv_goto (tgt := 70) dX12_behind_65 (by decide) ?_
        obtain ⟨r29, h⟩ := bu_ia h
        refine bw_iast hN r29 dX12_behind_70 ?_
        refine bv_aload_n dX12_behind_71 0 rfl ?_
        refine bv_dup dX12_behind_72 rfl ?_
        refine bw_getI hN q1 dX12_behind_73 fl_12_453 rfl ?_
        refine bv_iconst (v := 1) dX12_behind_76 (by decide) ?_
        refine bv_iadd dX12_behind_77 ?_
        refine bw_putI hN q1 dX12_behind_78 fl_12_453 rfl ?_
        refine bv_aload_n dX12_behind_81 0 rfl ?_
        refine bv_iconst (v := 0) dX12_behind_82 (by decide) ?_
        refine bw_putB (b := false) hN q1 dX12_behind_83 fl_12_469 rfl ?_
        refine bv_aload_n dX12_behind_86 0 rfl ?_
        obtain ⟨v30, p31, h⟩ := bu_bd h
        refine bw_callVv (As := []) hN q1 ⟨_, _, rfl⟩ dX12_behind_87 mc_12_203 (c_X12_next (d := d + 0) hN p31) rfl rfl (by decide) ?_
        refine bv_iconst (v := 1) dX12_behind_90 (by decide) ?_
        obtain rfl := Option.some.inj h
        exact bw_bret (b := true) dX12_behind_91 rfl ⟨rfl, rfl⟩
  · replace h := bu_bf h cc
    refine bv_aload_n dX12_behind_14 0 rfl ?_
    refine bv_ldc2 (v := 28530) dX12_behind_15 cst_12_137 ?_
    obtain ⟨v32, p33, h⟩ := bu_bd h
    refine bw_callV (As := [.long 28530]) hN q1 ⟨_, _, rfl⟩ dX12_behind_18 mc_12_237 (c_X12_isWord (d := d + 1) hN p33) rfl rfl (by decide) ?_
    refine bw_ifB_eq (b := v32) (tgt := 92) dX12_behind_21 (by decide) (fun cc => ?_) (fun cc => ?_)
    · replace h := bu_bf h cc
      refine bv_aload_n dX12_behind_92 0 rfl ?_
      refine bv_bipush (v := 22) dX12_behind_93 (by decide) ?_
      obtain ⟨v34, p35, h⟩ := bu_bd h
      refine bw_callVv (As := [.int 22]) hN q1 ⟨_, _, rfl⟩ dX12_behind_95 mc_12_475 (c_X12_joins (d := d + 0) hN p35) rfl rfl (by decide) ?_
      refine bv_aload_n dX12_behind_98 0 rfl ?_
      refine bv_bipush (v := 41) dX12_behind_99 (by decide) ?_
      obtain ⟨v36, p37, h⟩ := bu_bd h
      refine bw_callV (As := [.int 41]) hN q1 ⟨_, _, rfl⟩ dX12_behind_101 mc_12_197 (c_X12_isSign (d := d + 1) hN p37) rfl rfl (by decide) ?_
      refine bw_ifB_eq (b := v36) (tgt := 114) dX12_behind_104 (by decide) (fun cc => ?_) (fun cc => ?_)
      · replace h := bu_bf h cc
        refine bv_aload_n dX12_behind_114 0 rfl ?_
        refine bv_iconst (v := 1) dX12_behind_115 (by decide) ?_
        obtain ⟨v38, p39, h⟩ := bu_bd h
        refine bw_callV (As := [.int 1]) hN q1 ⟨_, _, rfl⟩ dX12_behind_116 mc_12_200 (c_X12_bad (d := d + 1) hN p39) rfl rfl (by decide) ?_
        obtain rfl := Option.some.inj h
        exact bw_bret (b := v38.1) dX12_behind_119 rfl ⟨rfl, rfl⟩
      · replace h := bu_bt h cc
        refine bv_aload_n dX12_behind_107 0 rfl ?_
        refine bw_getI hN q1 dX12_behind_108 fl_12_453 rfl ?_
        refine bv_if_ne (tgt := 120) dX12_behind_111 (by decide) (fun cc => ?_) (fun cc => ?_)
        · replace h := bu_f h cc
          refine bv_aload_n dX12_behind_120 0 rfl ?_
          refine bv_dup dX12_behind_121 rfl ?_
          refine bw_getI hN q1 dX12_behind_122 fl_12_453 rfl ?_
          refine bv_iconst (v := 1) dX12_behind_125 (by decide) ?_
          refine bv_isub dX12_behind_126 ?_
          refine bw_putI hN q1 dX12_behind_127 fl_12_453 rfl ?_
          refine bv_aload_n dX12_behind_130 0 rfl ?_
          refine bv_dup dX12_behind_131 rfl ?_
          refine bw_getI hN q1 dX12_behind_132 fl_12_460 rfl ?_
          refine bv_iconst (v := 1) dX12_behind_135 (by decide) ?_
          refine bv_isub dX12_behind_136 ?_
          refine bw_putI hN q1 dX12_behind_137 fl_12_460 rfl ?_
          refine bv_aload_n dX12_behind_140 0 rfl ?_
          obtain ⟨v40, p41, h⟩ := bu_bd h
          refine bw_callVv (As := []) hN q1 ⟨_, _, rfl⟩ dX12_behind_141 mc_12_203 (c_X12_next (d := d + 0) hN p41) rfl rfl (by decide) ?_
          refine bv_iconst (v := 1) dX12_behind_144 (by decide) ?_
          obtain rfl := Option.some.inj h
          exact bw_bret (b := true) dX12_behind_145 rfl ⟨rfl, rfl⟩
        · replace h := bu_t h cc
          refine bv_aload_n dX12_behind_114 0 rfl ?_
          refine bv_iconst (v := 1) dX12_behind_115 (by decide) ?_
          obtain ⟨v42, p43, h⟩ := bu_bd h
          refine bw_callV (As := [.int 1]) hN q1 ⟨_, _, rfl⟩ dX12_behind_116 mc_12_200 (c_X12_bad (d := d + 1) hN p43) rfl rfl (by decide) ?_
          obtain rfl := Option.some.inj h
          exact bw_bret (b := v42.1) dX12_behind_119 rfl ⟨rfl, rfl⟩
    · replace h := bu_bt h cc
      refine bv_aload_n dX12_behind_24 0 rfl ?_
      refine bv_aload_n dX12_behind_25 0 rfl ?_
      refine bv_ldc2 (v := 6385252) dX12_behind_26 cst_12_139 ?_
      obtain ⟨v44, p45, h⟩ := bu_bd h
      refine bw_callV (As := [.long 6385252]) hN q1 ⟨_, _, rfl⟩ dX12_behind_29 mc_12_237 (c_X12_isWord (d := d + 1) hN p45) rfl rfl (Nat.le_of_ble_eq_true rfl) ?_
      refine bw_ifB_eq (b := v44) (tgt := 40) dX12_behind_32 (by decide) (fun cc => ?_) (fun cc => ?_)
      · replace h := bu_bf h cc
        refine bv_bipush (v := 22) dX12_behind_40 (by decide) ?_
        obtain ⟨v46, p47, h⟩ := bu_bd h
        refine bw_callVv (As := [.int 22]) hN q1 ⟨_, _, rfl⟩ dX12_behind_42 mc_12_475 (c_X12_joins (d := d + 0) hN p47) rfl rfl (by decide) ?_
        refine bv_aload_n dX12_behind_45 0 rfl ?_
        obtain ⟨a48, e49, h⟩ := bu_bd h
        refine bw_getA (a := a48) hN q1 e49 dX12_behind_46 fl_12_77 rfl ?_
        refine bv_aload_n dX12_behind_49 0 rfl ?_
        refine bw_getI hN q1 dX12_behind_50 fl_12_453 rfl ?_
        refine bv_aload_n dX12_behind_53 0 rfl ?_
        refine bv_ldc2 (v := 6385252) dX12_behind_54 cst_12_139 ?_
        obtain ⟨v50, p51, h⟩ := bu_bd h
        refine bw_callV (As := [.long 6385252]) hN q1 ⟨_, _, rfl⟩ dX12_behind_57 mc_12_237 (c_X12_isWord (d := d + 1) hN p51) rfl rfl (Nat.le_of_ble_eq_true rfl) ?_
        refine bw_ifB_eq (b := v50) (tgt := 68) dX12_behind_60 (by decide) (fun cc => ?_) (fun cc => ?_)
        · replace h := bu_bf h cc
          refine bv_bipush (v := 22) dX12_behind_68 (by decide) ?_
          obtain ⟨r52, h⟩ := bu_ia h
          refine bw_iast hN r52 dX12_behind_70 ?_
          refine bv_aload_n dX12_behind_71 0 rfl ?_
          refine bv_dup dX12_behind_72 rfl ?_
          refine bw_getI hN q1 dX12_behind_73 fl_12_453 rfl ?_
          refine bv_iconst (v := 1) dX12_behind_76 (by decide) ?_
          refine bv_iadd dX12_behind_77 ?_
          refine bw_putI hN q1 dX12_behind_78 fl_12_453 rfl ?_
          refine bv_aload_n dX12_behind_81 0 rfl ?_
          refine bv_iconst (v := 0) dX12_behind_82 (by decide) ?_
          refine bw_putB (b := false) hN q1 dX12_behind_83 fl_12_469 rfl ?_
          refine bv_aload_n dX12_behind_86 0 rfl ?_
          obtain ⟨v53, p54, h⟩ := bu_bd h
          refine bw_callVv (As := []) hN q1 ⟨_, _, rfl⟩ dX12_behind_87 mc_12_203 (c_X12_next (d := d + 0) hN p54) rfl rfl (by decide) ?_
          refine bv_iconst (v := 1) dX12_behind_90 (by decide) ?_
          obtain rfl := Option.some.inj h
          exact bw_bret (b := true) dX12_behind_91 rfl ⟨rfl, rfl⟩
        · replace h := bu_bt h cc
          refine bv_bipush (v := 21) dX12_behind_63 (by decide) ?_
          refine bv_goto (tgt := 70) dX12_behind_65 (by decide) ?_
          obtain ⟨r55, h⟩ := bu_ia h
          refine bw_iast hN r55 dX12_behind_70 ?_
          refine bv_aload_n dX12_behind_71 0 rfl ?_
          refine bv_dup dX12_behind_72 rfl ?_
          refine bw_getI hN q1 dX12_behind_73 fl_12_453 rfl ?_
          refine bv_iconst (v := 1) dX12_behind_76 (by decide) ?_
          refine bv_iadd dX12_behind_77 ?_
          refine bw_putI hN q1 dX12_behind_78 fl_12_453 rfl ?_
          refine bv_aload_n dX12_behind_81 0 rfl ?_
          refine bv_iconst (v := 0) dX12_behind_82 (by decide) ?_
          refine bw_putB (b := false) hN q1 dX12_behind_83 fl_12_469 rfl ?_
          refine bv_aload_n dX12_behind_86 0 rfl ?_
          obtain ⟨v56, p57, h⟩ := bu_bd h
          refine bw_callVv (As := []) hN q1 ⟨_, _, rfl⟩ dX12_behind_87 mc_12_203 (c_X12_next (d := d + 0) hN p57) rfl rfl (by decide) ?_
          refine bv_iconst (v := 1) dX12_behind_90 (by decide) ?_
          obtain rfl := Option.some.inj h
          exact bw_bret (b := true) dX12_behind_91 rfl ⟨rfl, rfl⟩
      · replace h := bu_bt h cc
        refine bv_bipush (v := 21) dX12_behind_35 (by decide) ?_
        refine bv_goto (tgt := 42) dX12_behind_37 (by decide) ?_
        obtain ⟨v58, p59, h⟩ := bu_bd h
        refine bw_callVv (As := [.int 21]) hN q1 ⟨_, _, rfl⟩ dX12_behind_42 mc_12_475 (c_X12_joins (d := d + 0) hN p59) rfl rfl (by decide) ?_
        refine bv_aload_n dX12_behind_45 0 rfl ?_
        obtain ⟨a60, e61, h⟩ := bu_bd h
        refine bw_getA (a := a60) hN q1 e61 dX12_behind_46 fl_12_77 rfl ?_
        refine bv_aload_n dX12_behind_49 0 rfl ?_
        refine bw_getI hN q1 dX12_behind_50 fl_12_453 rfl ?_
        refine bv_aload_n dX12_behind_53 0 rfl ?_
        refine bv_ldc2 (v := 6385252) dX12_behind_54 cst_12_139 ?_
        obtain ⟨v62, p63, h⟩ := bu_bd h
        refine bw_callV (As := [.long 6385252]) hN q1 ⟨_, _, rfl⟩ dX12_behind_57 mc_12_237 (c_X12_isWord (d := d + 1) hN p63) rfl rfl (Nat.le_of_ble_eq_true rfl) ?_
        refine bw_ifB_eq (b := v62) (tgt := 68) dX12_behind_60 (by decide) (fun cc => ?_) (fun cc => ?_)
        · replace h := bu_bf h cc
          refine bv_bipush (v := 22) dX12_behind_68 (by decide) ?_
          obtain ⟨r64, h⟩ := bu_ia h
          refine bw_iast hN r64 dX12_behind_70 ?_
          refine bv_aload_n dX12_behind_71 0 rfl ?_
          refine bv_dup dX12_behind_72 rfl ?_
          refine bw_getI hN q1 dX12_behind_73 fl_12_453 rfl ?_
          refine bv_iconst (v := 1) dX12_behind_76 (by decide) ?_
          refine bv_iadd dX12_behind_77 ?_
          refine bw_putI hN q1 dX12_behind_78 fl_12_453 rfl ?_
          refine bv_aload_n dX12_behind_81 0 rfl ?_
          refine bv_iconst (v := 0) dX12_behind_82 (by decide) ?_
          refine bw_putB (b := false) hN q1 dX12_behind_83 fl_12_469 rfl ?_
          refine bv_aload_n dX12_behind_86 0 rfl ?_
          obtain ⟨v65, p66, h⟩ := bu_bd h
          refine bw_callVv (As := []) hN q1 ⟨_, _, rfl⟩ dX12_behind_87 mc_12_203 (c_X12_next (d := d + 0) hN p66) rfl rfl (by decide) ?_
          refine bv_iconst (v := 1) dX12_behind_90 (by decide) ?_
          obtain rfl := Option.some.inj h
          exact bw_bret (b := true) dX12_behind_91 rfl ⟨rfl, rfl⟩
        · replace h := bu_bt h cc
          refine bv_bipush (v := 21) dX12_behind_63 (by decide) ?_
          refine bv_goto (tgt := 70) dX12_behind_65 (by decide) ?_
          obtain ⟨r67, h⟩ := bu_ia h
          refine bw_iast hN r67 dX12_behind_70 ?_
          refine bv_aload_n dX12_behind_71 0 rfl ?_
          refine bv_dup dX12_behind_72 rfl ?_
          refine bw_getI hN q1 dX12_behind_73 fl_12_453 rfl ?_
          refine bv_iconst (v := 1) dX12_behind_76 (by decide) ?_
          refine bv_iadd dX12_behind_77 ?_
          refine bw_putI hN q1 dX12_behind_78 fl_12_453 rfl ?_
          refine bv_aload_n dX12_behind_81 0 rfl ?_
          refine bv_iconst (v := 0) dX12_behind_82 (by decide) ?_
          refine bw_putB (b := false) hN q1 dX12_behind_83 fl_12_469 rfl ?_
          refine bv_aload_n dX12_behind_86 0 rfl ?_
          obtain ⟨v68, p69, h⟩ := bu_bd h
          refine bw_callVv (As := []) hN q1 ⟨_, _, rfl⟩ dX12_behind_87 mc_12_203 (c_X12_next (d := d + 0) hN p69) rfl rfl (by decide) ?_
          refine bv_iconst (v := 1) dX12_behind_90 (by decide) ?_
          obtain rfl := Option.some.inj h
          exact bw_bret (b := true) dX12_behind_91 rfl ⟨rfl, rfl⟩
def f_X12_sentence_l48 (x0 : Nat) : Nat → Bool → bm_M → Option (((bm_M) ⊕ (((bm_M) ⊕ (((bm_M) ⊕ (bm_M)))))))
  | 0, _, _ => none
  | k + 1, x1, M => (if x1 = true then (if (M.1 x0 42) = 0 then (if (M.1 x0 42) = 0 then ((f_X12_operand M x0).bind fun v1 => (if v1.1 = true then f_X12_sentence_l48 x0 k x1 v1.2 else some (Sum.inr (Sum.inr (Sum.inl v1.2))))) else ((f_X12_behind M x0).bind fun v3 => (if v3.1 = true then f_X12_sentence_l48 x0 k x1 v3.2 else some (Sum.inr (Sum.inl v3.2))))) else (if (M.1 x0 11) = 0 then ((f_X12_nots M x0).bind fun v9 => ((f_X12_joins v9 x0 22).bind fun v11 => (if (v11.1 x0 40) ≤ 0 then f_X12_sentence_l48 x0 k false v11 else some (Sum.inl v11)))) else (if (M.1 x0 42) = 0 then ((f_X12_operand M x0).bind fun v5 => (if v5.1 = true then f_X12_sentence_l48 x0 k x1 v5.2 else some (Sum.inr (Sum.inr (Sum.inl v5.2))))) else ((f_X12_behind M x0).bind fun v7 => (if v7.1 = true then f_X12_sentence_l48 x0 k x1 v7.2 else some (Sum.inr (Sum.inl v7.2))))))) else some (Sum.inr (Sum.inr (Sum.inr M))))
set_option maxHeartbeats 4000000 in
set_option maxRecDepth 100000 in
theorem v_X12_sentence_l48 {L : bm_L} {d n : Nat} {Q : Option Value → bm_M → Prop} {x0 : Nat} (hN : 181 ≤ n) (q_0 : bm_OK x0 11) : ∀ (k : Nat) (x1 : Bool) (M : bm_M) (r : ((bm_M) ⊕ (((bm_M) ⊕ (((bm_M) ⊕ (bm_M))))))), f_X12_sentence_l48 x0 k x1 M = some r → (∀ yy, (Sum.inl yy) = r → bm_V L m_X12_sentence (d + 3) n n n 83 [(0, .ref x0)] [] yy Q) → (∀ yy, (Sum.inr (Sum.inl yy)) = r → bm_V L m_X12_sentence (d + 3) n n n 115 [(0, .ref x0)] [] yy Q) → (∀ yy, (Sum.inr (Sum.inr (Sum.inl yy))) = r → bm_V L m_X12_sentence (d + 3) n n n 125 [(0, .ref x0)] [] yy Q) → (∀ yy, (Sum.inr (Sum.inr (Sum.inr yy))) = r → bm_V L m_X12_sentence (d + 3) n n n 132 [(0, .ref x0)] [] yy Q) → bm_V L m_X12_sentence (d + 3) n n n 48 [(0, .ref x0), (1, .int (bm_bi x1))] [] M Q := by
  intro k
  induction k with
  | zero => intro x1 M r h; cases (show (none : Option (((bm_M) ⊕ (((bm_M) ⊕ (((bm_M) ⊕ (bm_M)))))))) = some r from h)
  | succ k ih =>
    intro x1 M r h K0 K1 K2 K3
    unfold f_X12_sentence_l48 at h
    refine bv_iload_n dX12_sentence_48 1 rfl ?_
    refine bw_ifB_eq (b := x1) (tgt := 132) dX12_sentence_49 (by decide) (fun cc => ?_) (fun cc => ?_)
    · replace h := bu_bf h cc
      refine bw_ls (ls1 := [(0, .ref x0)]) [0] rfl ?_
      obtain rfl := Option.some.inj h
      exact K3 _ rfl
    · replace h := bu_bt h cc
      refine bv_aload_n dX12_sentence_52 0 rfl ?_
      refine bw_getI hN q_0 dX12_sentence_53 fl_12_469 rfl ?_
      refine bv_if_eq (tgt := 101) dX12_sentence_56 (by decide) (fun cc => ?_) (fun cc => ?_)
      · replace h := bu_t h cc
        refine bv_aload_n dX12_sentence_101 0 rfl ?_
        refine bw_getI hN q_0 dX12_sentence_102 fl_12_469 rfl ?_
        refine bv_if_eq (tgt := 118) dX12_sentence_105 (by decide) (fun cc => ?_) (fun cc => ?_)
        · replace h := bu_t h cc
          refine bv_aload_n dX12_sentence_118 0 rfl ?_
          obtain ⟨v1, p2, h⟩ := bu_bd h
          refine bw_callV (As := []) hN q_0 ⟨_, _, rfl⟩ dX12_sentence_119 mc_12_481 (c_X12_operand (d := d + 0) hN p2) rfl rfl (by decide) ?_
          refine bw_ifB_ne (b := v1.1) (tgt := 48) dX12_sentence_122 (by decide) (fun cc => ?_) (fun cc => ?_)
          · replace h := bu_bt h cc
            exact ih _ _ _ h K0 K1 K2 K3
          · replace h := bu_bf h cc
            refine bw_ls (ls1 := [(0, .ref x0)]) [0] rfl ?_
            obtain rfl := Option.some.inj h
            exact K2 _ rfl
        · replace h := bu_f h cc
          refine bv_aload_n dX12_sentence_108 0 rfl ?_
          obtain ⟨v3, p4, h⟩ := bu_bd h
          refine bw_callV (As := []) hN q_0 ⟨_, _, rfl⟩ dX12_sentence_109 mc_12_478 (c_X12_behind (d := d + 0) hN p4) rfl rfl (by decide) ?_
          refine bw_ifB_ne (b := v3.1) (tgt := 48) dX12_sentence_112 (by decide) (fun cc => ?_) (fun cc => ?_)
          · replace h := bu_bt h cc
            exact ih _ _ _ h K0 K1 K2 K3
          · replace h := bu_bf h cc
            refine bw_ls (ls1 := [(0, .ref x0)]) [0] rfl ?_
            obtain rfl := Option.some.inj h
            exact K1 _ rfl
      · replace h := bu_f h cc
        refine bv_aload_n dX12_sentence_59 0 rfl ?_
        refine bw_getI hN q_0 dX12_sentence_60 fl_12_174 rfl ?_
        refine bv_if_ne (tgt := 101) dX12_sentence_63 (by decide) (fun cc => ?_) (fun cc => ?_)
        · replace h := bu_f h cc
          refine bv_aload_n dX12_sentence_101 0 rfl ?_
          refine bw_getI hN q_0 dX12_sentence_102 fl_12_469 rfl ?_
          refine bv_if_eq (tgt := 118) dX12_sentence_105 (by decide) (fun cc => ?_) (fun cc => ?_)
          · replace h := bu_t h cc
            refine bv_aload_n dX12_sentence_118 0 rfl ?_
            obtain ⟨v5, p6, h⟩ := bu_bd h
            refine bw_callV (As := []) hN q_0 ⟨_, _, rfl⟩ dX12_sentence_119 mc_12_481 (c_X12_operand (d := d + 0) hN p6) rfl rfl (by decide) ?_
            refine bw_ifB_ne (b := v5.1) (tgt := 48) dX12_sentence_122 (by decide) (fun cc => ?_) (fun cc => ?_)
            · replace h := bu_bt h cc
              exact ih _ _ _ h K0 K1 K2 K3
            · replace h := bu_bf h cc
              refine bw_ls (ls1 := [(0, .ref x0)]) [0] rfl ?_
              obtain rfl := Option.some.inj h
              exact K2 _ rfl
          · replace h := bu_f h cc
            refine bv_aload_n dX12_sentence_108 0 rfl ?_
            obtain ⟨v7, p8, h⟩ := bu_bd h
            refine bw_callV (As := []) hN q_0 ⟨_, _, rfl⟩ dX12_sentence_109 mc_12_478 (c_X12_behind (d := d + 0) hN p8) rfl rfl (by decide) ?_
            refine bw_ifB_ne (b := v7.1) (tgt := 48) dX12_sentence_112 (by decide) (fun cc => ?_) (fun cc => ?_)
            · replace h := bu_bt h cc
              exact ih _ _ _ h K0 K1 K2 K3
            · replace h := bu_bf h cc
              refine bw_ls (ls1 := [(0, .ref x0)]) [0] rfl ?_
              obtain rfl := Option.some.inj h
              exact K1 _ rfl
        · replace h := bu_t h cc
          refine bv_aload_n dX12_sentence_66 0 rfl ?_
          obtain ⟨v9, p10, h⟩ := bu_bd h
          refine bw_callVv (As := []) hN q_0 ⟨_, _, rfl⟩ dX12_sentence_67 mc_12_472 (c_X12_nots (d := d + 1) hN p10) rfl rfl (by decide) ?_
          refine bv_aload_n dX12_sentence_70 0 rfl ?_
          refine bv_bipush (v := 22) dX12_sentence_71 (by decide) ?_
          obtain ⟨v11, p12, h⟩ := bu_bd h
          refine bw_callVv (As := [.int 22]) hN q_0 ⟨_, _, rfl⟩ dX12_sentence_73 mc_12_475 (c_X12_joins (d := d + 1) hN p12) rfl rfl (by decide) ?_
          refine bv_aload_n dX12_sentence_76 0 rfl ?_
          refine bw_getI hN q_0 dX12_sentence_77 fl_12_453 rfl ?_
          refine bv_if_le (tgt := 96) dX12_sentence_80 (by decide) (fun cc => ?_) (fun cc => ?_)
          · replace h := bu_t h cc
            refine bv_iconst (v := 0) dX12_sentence_96 (by decide) ?_
            refine bv_istore_n (ls1 := [(0, .ref x0), (1, .int 0)]) dX12_sentence_97 (by decide) rfl rfl ?_
            refine bv_goto (tgt := 48) dX12_sentence_98 (by decide) ?_
            exact ih _ _ _ h K0 K1 K2 K3
          · replace h := bu_f h cc
            refine bw_ls (ls1 := [(0, .ref x0)]) [0] rfl ?_
            obtain rfl := Option.some.inj h
            exact K0 _ rfl
def f_X12_sentence_l145 (x0 : Nat) : Nat → Int32 → bm_M → Option (bm_M)
  | 0, _, _ => none
  | k + 1, x2, M => (if (3 * (M.1 x0 38)) ≤ x2 then some M else ((M.2.2 x0 6).bind fun a1 => ((M.2.2 x0 8).bind fun a3 => (if bm_ia a3 0 x2 = true then (if bm_ia a1 0 (107 + x2) = true then f_X12_sentence_l145 x0 k (x2 + 1) (bm_sI M a1 (107 + x2).toNatClampNeg (M.1 a3 x2.toNatClampNeg)) else none) else none))))
set_option maxHeartbeats 4000000 in
set_option maxRecDepth 100000 in
theorem v_X12_sentence_l145 {L : bm_L} {d n : Nat} {Q : Option Value → bm_M → Prop} {x0 : Nat} (hN : 181 ≤ n) (q_0 : bm_OK x0 11) : ∀ (k : Nat) (x2 : Int32) (M : bm_M) (r : bm_M), f_X12_sentence_l145 x0 k x2 M = some r → (∀ yy, yy = r → bm_V L m_X12_sentence (d + 3) n n n 176 [(0, .ref x0)] [] yy Q) → bm_V L m_X12_sentence (d + 3) n n n 145 [(0, .ref x0), (2, .int x2)] [] M Q := by
  intro k
  induction k with
  | zero => intro x2 M r h; cases (show (none : Option (bm_M)) = some r from h)
  | succ k ih =>
    intro x2 M r h K0
    unfold f_X12_sentence_l145 at h
    refine bv_iload_n dX12_sentence_145 1 rfl ?_
    refine bv_iconst (v := 3) dX12_sentence_146 (by decide) ?_
    refine bv_aload_n dX12_sentence_147 0 rfl ?_
    refine bw_getI hN q_0 dX12_sentence_148 fl_12_450 rfl ?_
    refine bv_imul dX12_sentence_151 ?_
    refine bv_icmp_ge (tgt := 176) dX12_sentence_152 (by decide) (fun cc => ?_) (fun cc => ?_)
    · replace h := bu_t h cc
      refine bw_ls (ls1 := [(0, .ref x0)]) [0] rfl ?_
      obtain rfl := Option.some.inj h
      exact K0 _ rfl
    · replace h := bu_f h cc
      refine bv_aload_n dX12_sentence_155 0 rfl ?_
      obtain ⟨a1, e2, h⟩ := bu_bd h
      refine bw_getA (a := a1) hN q_0 e2 dX12_sentence_156 fl_12_33 rfl ?_
      refine bv_bipush (v := 107) dX12_sentence_159 (by decide) ?_
      refine bv_iload_n dX12_sentence_161 1 rfl ?_
      refine bv_iadd dX12_sentence_162 ?_
      refine bv_aload_n dX12_sentence_163 0 rfl ?_
      obtain ⟨a3, e4, h⟩ := bu_bd h
      refine bw_getA (a := a3) hN q_0 e4 dX12_sentence_164 fl_12_40 rfl ?_
      refine bv_iload_n dX12_sentence_167 1 rfl ?_
      obtain ⟨r5, h⟩ := bu_ia h
      refine bw_iald hN r5 dX12_sentence_168 ?_
      obtain ⟨r6, h⟩ := bu_ia h
      refine bw_iast hN r6 dX12_sentence_169 ?_
      refine bv_iinc (j := 1) (v := (x2 + 1)) (ls1 := [(0, .ref x0), (2, .int (x2 + 1))]) dX12_sentence_170 rfl rfl (by decide) rfl rfl ?_
      refine bv_goto (tgt := 145) dX12_sentence_173 (by decide) ?_
      exact ih _ _ _ h K0
def f_X12_sentence (M : bm_M) (x0 : Nat) : Option (Int32 × bm_M) := (if bm_io x0 11 then ((f_X12_taken (bm_sI M x0 0 0) x0 200).bind fun v2 => ((f_X12_next (bm_sI (bm_sI (bm_sI (bm_sI (bm_sI (bm_sI v2 x0 15 0) x0 38 0) x0 39 0) x0 40 0) x0 41 1) x0 42 (bm_bi false)) x0).bind fun v4 => ((f_X12_sentence_l48 x0 1000 true v4).bind fun rr => match rr with | (Sum.inl y8) => ((f_X12_bad y8 x0 1).bind fun v9 => some (((-1) - (v9.2.1 x0 16)), v9.2)) | (Sum.inr (Sum.inl y8)) => some (((-1) - (y8.1 x0 16)), y8) | (Sum.inr (Sum.inr (Sum.inl y8))) => some (((-1) - (y8.1 x0 16)), y8) | (Sum.inr (Sum.inr (Sum.inr y8))) => ((y8.2.2 x0 6).bind fun a11 => (if bm_ia a11 0 106 = true then ((f_X12_sentence_l145 x0 1000 0 (bm_sI y8 a11 (106 : Int32).toNatClampNeg (y8.1 x0 38))).bind fun y16 => some ((y16.1 x0 39), y16)) else none))))) else none)
set_option maxHeartbeats 4000000 in
set_option maxRecDepth 100000 in
theorem c_X12_sentence {L : bm_L} {d n : Nat} {M : bm_M} {x0 : Nat} {v : Int32 × bm_M} (hN : 181 ≤ n) (h : f_X12_sentence M x0 = some v) : bm_C L m_X12_sentence (d + 3) n n [.ref x0] M (fun r M' => r = some (.int v.1) ∧ M' = v.2) := by
  refine bm_C.ofV (by decide) (Nat.le_of_ble_eq_true rfl) ?_
  show bm_V L m_X12_sentence (d + 3) n n n 0 [(0, .ref x0)] [] M _
  unfold f_X12_sentence at h
  refine bv_aload_n dX12_sentence_0 0 rfl ?_
  refine bv_iconst (v := 0) dX12_sentence_1 (by decide) ?_
  obtain ⟨q1, h⟩ := bu_io h
  refine bw_putI hN q1 dX12_sentence_2 fl_12_1 rfl ?_
  refine bv_aload_n dX12_sentence_5 0 rfl ?_
  refine bv_sipush (v := 200) dX12_sentence_6 (by decide) ?_
  obtain ⟨v2, p3, h⟩ := bu_bd h
  refine bw_callVv (As := [.int 200]) hN q1 ⟨_, _, rfl⟩ dX12_sentence_9 mc_12_264 (c_X12_taken (d := d + 2) hN p3) rfl rfl (by decide) ?_
  refine bv_aload_n dX12_sentence_12 0 rfl ?_
  refine bv_iconst (v := 0) dX12_sentence_13 (by decide) ?_
  refine bw_putI hN q1 dX12_sentence_14 fl_12_191 rfl ?_
  refine bv_aload_n dX12_sentence_17 0 rfl ?_
  refine bv_iconst (v := 0) dX12_sentence_18 (by decide) ?_
  refine bw_putI hN q1 dX12_sentence_19 fl_12_450 rfl ?_
  refine bv_aload_n dX12_sentence_22 0 rfl ?_
  refine bv_iconst (v := 0) dX12_sentence_23 (by decide) ?_
  refine bw_putI hN q1 dX12_sentence_24 fl_12_466 rfl ?_
  refine bv_aload_n dX12_sentence_27 0 rfl ?_
  refine bv_iconst (v := 0) dX12_sentence_28 (by decide) ?_
  refine bw_putI hN q1 dX12_sentence_29 fl_12_453 rfl ?_
  refine bv_aload_n dX12_sentence_32 0 rfl ?_
  refine bv_iconst (v := 1) dX12_sentence_33 (by decide) ?_
  refine bw_putI hN q1 dX12_sentence_34 fl_12_460 rfl ?_
  refine bv_aload_n dX12_sentence_37 0 rfl ?_
  refine bv_iconst (v := 0) dX12_sentence_38 (by decide) ?_
  refine bw_putB (b := false) hN q1 dX12_sentence_39 fl_12_469 rfl ?_
  refine bv_aload_n dX12_sentence_42 0 rfl ?_
  obtain ⟨v4, p5, h⟩ := bu_bd h
  refine bw_callVv (As := []) hN q1 ⟨_, _, rfl⟩ dX12_sentence_43 mc_12_203 (c_X12_next (d := d + 1) hN p5) rfl rfl (by decide) ?_
  refine bv_iconst (v := 1) dX12_sentence_46 (by decide) ?_
  refine bv_istore_n (ls1 := [(0, .ref x0), (1, .int 1)]) dX12_sentence_47 (by decide) rfl rfl ?_
  obtain ⟨r6, p7, h⟩ := bu_bd h
  refine v_X12_sentence_l48 hN q1 1000 _ _ _ p7 (fun y8 hy => ?_) (fun y8 hy => ?_) (fun y8 hy => ?_) (fun y8 hy => ?_)
  · subst hy
    refine bv_aload_n dX12_sentence_83 0 rfl ?_
    refine bv_iconst (v := 1) dX12_sentence_84 (by decide) ?_
    obtain ⟨v9, p10, h⟩ := bu_bd h
    refine bw_callV (As := [.int 1]) hN q1 ⟨_, _, rfl⟩ dX12_sentence_85 mc_12_200 (c_X12_bad (d := d + 2) hN p10) rfl rfl (by decide) ?_
    refine bv_pop dX12_sentence_88 rfl ?_
    refine bv_iconst (v := (-1)) dX12_sentence_89 (by decide) ?_
    refine bv_aload_n dX12_sentence_90 0 rfl ?_
    refine bw_getI hN q1 dX12_sentence_91 fl_12_194 rfl ?_
    refine bv_isub dX12_sentence_94 ?_
    obtain rfl := Option.some.inj h
    exact bv_iret (x := ((-1) - (v9.2.1 x0 16))) dX12_sentence_95 rfl ⟨rfl, rfl⟩
  · subst hy
    refine bv_goto (tgt := 125) dX12_sentence_115 (by decide) ?_
    refine bv_iconst (v := (-1)) dX12_sentence_125 (by decide) ?_
    refine bv_aload_n dX12_sentence_126 0 rfl ?_
    refine bw_getI hN q1 dX12_sentence_127 fl_12_194 rfl ?_
    refine bv_isub dX12_sentence_130 ?_
    obtain rfl := Option.some.inj h
    exact bv_iret (x := ((-1) - (y8.1 x0 16))) dX12_sentence_131 rfl ⟨rfl, rfl⟩
  · subst hy
    refine bv_iconst (v := (-1)) dX12_sentence_125 (by decide) ?_
    refine bv_aload_n dX12_sentence_126 0 rfl ?_
    refine bw_getI hN q1 dX12_sentence_127 fl_12_194 rfl ?_
    refine bv_isub dX12_sentence_130 ?_
    obtain rfl := Option.some.inj h
    exact bv_iret (x := ((-1) - (y8.1 x0 16))) dX12_sentence_131 rfl ⟨rfl, rfl⟩
  · subst hy
    refine bv_aload_n dX12_sentence_132 0 rfl ?_
    obtain ⟨a11, e12, h⟩ := bu_bd h
    refine bw_getA (a := a11) hN q1 e12 dX12_sentence_133 fl_12_33 rfl ?_
    refine bv_bipush (v := 106) dX12_sentence_136 (by decide) ?_
    refine bv_aload_n dX12_sentence_138 0 rfl ?_
    refine bw_getI hN q1 dX12_sentence_139 fl_12_450 rfl ?_
    obtain ⟨r13, h⟩ := bu_ia h
    refine bw_iast hN r13 dX12_sentence_142 ?_
    refine bv_iconst (v := 0) dX12_sentence_143 (by decide) ?_
    refine bv_istore_n (ls1 := [(0, .ref x0), (2, .int 0)]) dX12_sentence_144 (by decide) rfl rfl ?_
    obtain ⟨r14, p15, h⟩ := bu_bd h
    refine v_X12_sentence_l145 hN q1 1000 _ _ _ p15 (fun y16 hy => ?_)
    · subst hy
      refine bv_aload_n dX12_sentence_176 0 rfl ?_
      refine bw_getI hN q1 dX12_sentence_177 fl_12_466 rfl ?_
      obtain rfl := Option.some.inj h
      exact bv_iret (x := (y16.1 x0 39)) dX12_sentence_180 rfl ⟨rfl, rfl⟩
def f_X12_isLeaf (M : bm_M) (x0 : Nat) (x1 : Int32) (x2 : Int32) (x3 : Int32) (x4 : Int32) : Option (Bool) := (if x2 = 0 then (if bm_io x0 11 then ((M.2.2 x0 6).bind fun a3 => (if bm_ia a3 0 63 = true then some (f_X12_bitOf (M.1 a3 (63 : Int32).toNatClampNeg) x1) else none)) else none) else (if x2 = 1 then (if bm_io x0 11 then ((M.2.2 x0 6).bind fun a8 => (if bm_ia a8 0 64 = true then some (f_X12_bitOf (M.1 a8 (64 : Int32).toNatClampNeg) x1) else none)) else none) else (if x2 = 2 then (if bm_io x0 11 then ((M.2.2 x0 6).bind fun a13 => (if bm_ia a13 0 29 = true then some (f_X12_bitOf (M.1 a13 (29 : Int32).toNatClampNeg) x1) else none)) else none) else (if x2 = 3 then (if bm_io x0 11 then ((M.2.2 x0 6).bind fun a18 => (if bm_ia a18 0 30 = true then some (f_X12_bitOf (M.1 a18 (30 : Int32).toNatClampNeg) x1) else none)) else none) else (if x2 = 4 then (if bm_io x0 11 then ((M.2.2 x0 6).bind fun a23 => (if bm_ia a23 0 (90 + x1) = true then (if (M.1 a23 (90 + x1).toNatClampNeg) = 0 then some true else some false) else none)) else none) else (if x2 = 5 then (if bm_io x0 11 then ((M.2.2 x0 6).bind fun a28 => (if bm_ia a28 0 (31 + x1) = true then (if (M.1 a28 (31 + x1).toNatClampNeg) = (x4 + 1) then some true else some false) else none)) else none) else (if x2 = 6 then (if bm_io x0 11 then ((f_X12_seesOne M x0 x1 x4).bind fun v33 => some v33) else none) else (if x2 = 7 then (if bm_io x0 11 then ((M.2.2 x0 6).bind fun a37 => (if bm_ia a37 0 (90 + x1) = true then (if (M.1 a37 (90 + x1).toNatClampNeg) = (x4 + 1) then some true else some false) else none)) else none) else (if x2 = 8 then (if bm_io x0 11 then ((f_X12_browOf M x0 x1).bind fun v49 => (if x3 = 60 then (if x4 ≤ v49 then some false else some true) else (if x3 = 61 then (if v49 = x4 then some true else some false) else (if v49 ≤ x4 then some false else some true)))) else none) else (if x2 = 9 then (if bm_io x0 11 then ((M.2.2 x0 6).bind fun a45 => (if bm_ia a45 0 (82 + x1) = true then (if x3 = 60 then (if x4 ≤ (M.1 a45 (82 + x1).toNatClampNeg) then some false else some true) else (if x3 = 61 then (if (M.1 a45 (82 + x1).toNatClampNeg) = x4 then some true else some false) else (if (M.1 a45 (82 + x1).toNatClampNeg) ≤ x4 then some false else some true))) else none)) else none) else (if x2 = 10 then (if bm_io x0 11 then ((M.2.2 x0 6).bind fun a41 => (if bm_ia a41 0 (98 + x1) = true then (if x3 = 60 then (if x4 ≤ (M.1 a41 (98 + x1).toNatClampNeg) then some false else some true) else (if x3 = 61 then (if (M.1 a41 (98 + x1).toNatClampNeg) = x4 then some true else some false) else (if (M.1 a41 (98 + x1).toNatClampNeg) ≤ x4 then some false else some true))) else none)) else none) else (if x3 = 60 then (if x4 ≤ x1 then some false else some true) else (if x3 = 61 then (if x1 = x4 then some true else some false) else (if x1 ≤ x4 then some false else some true))))))))))))))
set_option maxHeartbeats 4000000 in
set_option maxRecDepth 100000 in
theorem c_X12_isLeaf {L : bm_L} {d n : Nat} {M : bm_M} {x0 : Nat} {x1 : Int32} {x2 : Int32} {x3 : Int32} {x4 : Int32} {v : Bool} (hN : 181 ≤ n) (h : f_X12_isLeaf M x0 x1 x2 x3 x4 = some v) : bm_C L m_X12_isLeaf (d + 4) n n [.ref x0, .int x1, .int x2, .int x3, .int x4] M (fun r M' => r = some (.int (bm_bi v)) ∧ M' = M) := by
  refine bm_C.ofV (by decide) (Nat.le_of_ble_eq_true rfl) ?_
  show bm_V L m_X12_isLeaf (d + 4) n n n 0 [(0, .ref x0), (1, .int x1), (2, .int x2), (3, .int x3), (4, .int x4)] [] M _
  unfold f_X12_isLeaf at h
  refine bv_iload_n dX12_isLeaf_0 2 rfl ?_
  by_cases c1 : x2 = 0
  · replace h := bu_t h c1
    refine bv_tableIn (tgt := 48) dX12_isLeaf_1 (by rw [c1]; decide) (by rw [c1]; decide) (by rw [c1]; rfl) (by decide) ?_
    refine bv_aload_n dX12_isLeaf_48 0 rfl ?_
    obtain ⟨q2, h⟩ := bu_io h
    obtain ⟨a3, e4, h⟩ := bu_bd h
    refine bw_getA (a := a3) hN q2 e4 dX12_isLeaf_49 fl_12_33 rfl ?_
    refine bv_bipush (v := 63) dX12_isLeaf_52 (by decide) ?_
    obtain ⟨r5, h⟩ := bu_ia h
    refine bw_iald hN r5 dX12_isLeaf_54 ?_
    refine bv_iload_n dX12_isLeaf_55 1 rfl ?_
    refine bw_callS (As := [.int (M.1 a3 (63 : Int32).toNatClampNeg), .int x1]) dX12_isLeaf_56 mc_12_231 (c_X12_bitOf (d := d + 3) hN rfl) rfl rfl (by decide) ?_
    obtain rfl := Option.some.inj h
    exact bw_bret (b := (f_X12_bitOf (M.1 a3 (63 : Int32).toNatClampNeg) x1)) dX12_isLeaf_59 rfl ⟨rfl, rfl⟩
  · replace h := bu_f h c1
    by_cases c6 : x2 = 1
    · replace h := bu_t h c6
      refine bv_tableIn (tgt := 60) dX12_isLeaf_1 (by rw [c6]; decide) (by rw [c6]; decide) (by rw [c6]; rfl) (by decide) ?_
      refine bv_aload_n dX12_isLeaf_60 0 rfl ?_
      obtain ⟨q7, h⟩ := bu_io h
      obtain ⟨a8, e9, h⟩ := bu_bd h
      refine bw_getA (a := a8) hN q7 e9 dX12_isLeaf_61 fl_12_33 rfl ?_
      refine bv_bipush (v := 64) dX12_isLeaf_64 (by decide) ?_
      obtain ⟨r10, h⟩ := bu_ia h
      refine bw_iald hN r10 dX12_isLeaf_66 ?_
      refine bv_iload_n dX12_isLeaf_67 1 rfl ?_
      refine bw_callS (As := [.int (M.1 a8 (64 : Int32).toNatClampNeg), .int x1]) dX12_isLeaf_68 mc_12_231 (c_X12_bitOf (d := d + 3) hN rfl) rfl rfl (by decide) ?_
      obtain rfl := Option.some.inj h
      exact bw_bret (b := (f_X12_bitOf (M.1 a8 (64 : Int32).toNatClampNeg) x1)) dX12_isLeaf_71 rfl ⟨rfl, rfl⟩
    · replace h := bu_f h c6
      by_cases c11 : x2 = 2
      · replace h := bu_t h c11
        refine bv_tableIn (tgt := 72) dX12_isLeaf_1 (by rw [c11]; decide) (by rw [c11]; decide) (by rw [c11]; rfl) (by decide) ?_
        refine bv_aload_n dX12_isLeaf_72 0 rfl ?_
        obtain ⟨q12, h⟩ := bu_io h
        obtain ⟨a13, e14, h⟩ := bu_bd h
        refine bw_getA (a := a13) hN q12 e14 dX12_isLeaf_73 fl_12_33 rfl ?_
        refine bv_bipush (v := 29) dX12_isLeaf_76 (by decide) ?_
        obtain ⟨r15, h⟩ := bu_ia h
        refine bw_iald hN r15 dX12_isLeaf_78 ?_
        refine bv_iload_n dX12_isLeaf_79 1 rfl ?_
        refine bw_callS (As := [.int (M.1 a13 (29 : Int32).toNatClampNeg), .int x1]) dX12_isLeaf_80 mc_12_231 (c_X12_bitOf (d := d + 3) hN rfl) rfl rfl (by decide) ?_
        obtain rfl := Option.some.inj h
        exact bw_bret (b := (f_X12_bitOf (M.1 a13 (29 : Int32).toNatClampNeg) x1)) dX12_isLeaf_83 rfl ⟨rfl, rfl⟩
      · replace h := bu_f h c11
        by_cases c16 : x2 = 3
        · replace h := bu_t h c16
          refine bv_tableIn (tgt := 84) dX12_isLeaf_1 (by rw [c16]; decide) (by rw [c16]; decide) (by rw [c16]; rfl) (by decide) ?_
          refine bv_aload_n dX12_isLeaf_84 0 rfl ?_
          obtain ⟨q17, h⟩ := bu_io h
          obtain ⟨a18, e19, h⟩ := bu_bd h
          refine bw_getA (a := a18) hN q17 e19 dX12_isLeaf_85 fl_12_33 rfl ?_
          refine bv_bipush (v := 30) dX12_isLeaf_88 (by decide) ?_
          obtain ⟨r20, h⟩ := bu_ia h
          refine bw_iald hN r20 dX12_isLeaf_90 ?_
          refine bv_iload_n dX12_isLeaf_91 1 rfl ?_
          refine bw_callS (As := [.int (M.1 a18 (30 : Int32).toNatClampNeg), .int x1]) dX12_isLeaf_92 mc_12_231 (c_X12_bitOf (d := d + 3) hN rfl) rfl rfl (by decide) ?_
          obtain rfl := Option.some.inj h
          exact bw_bret (b := (f_X12_bitOf (M.1 a18 (30 : Int32).toNatClampNeg) x1)) dX12_isLeaf_95 rfl ⟨rfl, rfl⟩
        · replace h := bu_f h c16
          by_cases c21 : x2 = 4
          · replace h := bu_t h c21
            refine bv_tableIn (tgt := 96) dX12_isLeaf_1 (by rw [c21]; decide) (by rw [c21]; decide) (by rw [c21]; rfl) (by decide) ?_
            refine bv_aload_n dX12_isLeaf_96 0 rfl ?_
            obtain ⟨q22, h⟩ := bu_io h
            obtain ⟨a23, e24, h⟩ := bu_bd h
            refine bw_getA (a := a23) hN q22 e24 dX12_isLeaf_97 fl_12_33 rfl ?_
            refine bv_bipush (v := 90) dX12_isLeaf_100 (by decide) ?_
            refine bv_iload_n dX12_isLeaf_102 1 rfl ?_
            refine bv_iadd dX12_isLeaf_103 ?_
            obtain ⟨r25, h⟩ := bu_ia h
            refine bw_iald hN r25 dX12_isLeaf_104 ?_
            refine bv_if_ne (tgt := 112) dX12_isLeaf_105 (by decide) (fun cc => ?_) (fun cc => ?_)
            · replace h := bu_f h cc
              refine bv_iconst (v := 0) dX12_isLeaf_112 (by decide) ?_
              obtain rfl := Option.some.inj h
              exact bw_bret (b := false) dX12_isLeaf_113 rfl ⟨rfl, rfl⟩
            · replace h := bu_t h cc
              refine bv_iconst (v := 1) dX12_isLeaf_108 (by decide) ?_
              refine bv_goto (tgt := 113) dX12_isLeaf_109 (by decide) ?_
              obtain rfl := Option.some.inj h
              exact bw_bret (b := true) dX12_isLeaf_113 rfl ⟨rfl, rfl⟩
          · replace h := bu_f h c21
            by_cases c26 : x2 = 5
            · replace h := bu_t h c26
              refine bv_tableIn (tgt := 114) dX12_isLeaf_1 (by rw [c26]; decide) (by rw [c26]; decide) (by rw [c26]; rfl) (by decide) ?_
              refine bv_aload_n dX12_isLeaf_114 0 rfl ?_
              obtain ⟨q27, h⟩ := bu_io h
              obtain ⟨a28, e29, h⟩ := bu_bd h
              refine bw_getA (a := a28) hN q27 e29 dX12_isLeaf_115 fl_12_33 rfl ?_
              refine bv_bipush (v := 31) dX12_isLeaf_118 (by decide) ?_
              refine bv_iload_n dX12_isLeaf_120 1 rfl ?_
              refine bv_iadd dX12_isLeaf_121 ?_
              obtain ⟨r30, h⟩ := bu_ia h
              refine bw_iald hN r30 dX12_isLeaf_122 ?_
              refine bv_iload dX12_isLeaf_123 4 rfl ?_
              refine bv_iconst (v := 1) dX12_isLeaf_125 (by decide) ?_
              refine bv_iadd dX12_isLeaf_126 ?_
              refine bv_icmp_ne (tgt := 134) dX12_isLeaf_127 (by decide) (fun cc => ?_) (fun cc => ?_)
              · replace h := bu_f h cc
                refine bv_iconst (v := 0) dX12_isLeaf_134 (by decide) ?_
                obtain rfl := Option.some.inj h
                exact bw_bret (b := false) dX12_isLeaf_135 rfl ⟨rfl, rfl⟩
              · replace h := bu_t h cc
                refine bv_iconst (v := 1) dX12_isLeaf_130 (by decide) ?_
                refine bv_goto (tgt := 135) dX12_isLeaf_131 (by decide) ?_
                obtain rfl := Option.some.inj h
                exact bw_bret (b := true) dX12_isLeaf_135 rfl ⟨rfl, rfl⟩
            · replace h := bu_f h c26
              by_cases c31 : x2 = 6
              · replace h := bu_t h c31
                refine bv_tableIn (tgt := 136) dX12_isLeaf_1 (by rw [c31]; decide) (by rw [c31]; decide) (by rw [c31]; rfl) (by decide) ?_
                refine bv_aload_n dX12_isLeaf_136 0 rfl ?_
                refine bv_iload_n dX12_isLeaf_137 1 rfl ?_
                refine bv_iload dX12_isLeaf_138 4 rfl ?_
                obtain ⟨q32, h⟩ := bu_io h
                obtain ⟨v33, p34, h⟩ := bu_bd h
                refine bw_callV (As := [.int x1, .int x4]) hN q32 ⟨_, _, rfl⟩ dX12_isLeaf_140 mc_12_297 (c_X12_seesOne (d := d + 0) hN p34) rfl rfl (by decide) ?_
                obtain rfl := Option.some.inj h
                exact bw_bret (b := v33) dX12_isLeaf_143 rfl ⟨rfl, rfl⟩
              · replace h := bu_f h c31
                by_cases c35 : x2 = 7
                · replace h := bu_t h c35
                  refine bv_tableIn (tgt := 144) dX12_isLeaf_1 (by rw [c35]; decide) (by rw [c35]; decide) (by rw [c35]; rfl) (by decide) ?_
                  refine bv_aload_n dX12_isLeaf_144 0 rfl ?_
                  obtain ⟨q36, h⟩ := bu_io h
                  obtain ⟨a37, e38, h⟩ := bu_bd h
                  refine bw_getA (a := a37) hN q36 e38 dX12_isLeaf_145 fl_12_33 rfl ?_
                  refine bv_bipush (v := 90) dX12_isLeaf_148 (by decide) ?_
                  refine bv_iload_n dX12_isLeaf_150 1 rfl ?_
                  refine bv_iadd dX12_isLeaf_151 ?_
                  obtain ⟨r39, h⟩ := bu_ia h
                  refine bw_iald hN r39 dX12_isLeaf_152 ?_
                  refine bv_iload dX12_isLeaf_153 4 rfl ?_
                  refine bv_iconst (v := 1) dX12_isLeaf_155 (by decide) ?_
                  refine bv_iadd dX12_isLeaf_156 ?_
                  refine bv_icmp_ne (tgt := 164) dX12_isLeaf_157 (by decide) (fun cc => ?_) (fun cc => ?_)
                  · replace h := bu_f h cc
                    refine bv_iconst (v := 0) dX12_isLeaf_164 (by decide) ?_
                    obtain rfl := Option.some.inj h
                    exact bw_bret (b := false) dX12_isLeaf_165 rfl ⟨rfl, rfl⟩
                  · replace h := bu_t h cc
                    refine bv_iconst (v := 1) dX12_isLeaf_160 (by decide) ?_
                    refine bv_goto (tgt := 165) dX12_isLeaf_161 (by decide) ?_
                    obtain rfl := Option.some.inj h
                    exact bw_bret (b := true) dX12_isLeaf_165 rfl ⟨rfl, rfl⟩
                · replace h := bu_f h c35
                  refine bv_tableOut (tgt := 166) dX12_isLeaf_1 (bm_sw (k := 8) (by decide) (fun j hj => by match j, hj with | 0, _ => exact c1 | 1, _ => exact c6 | 2, _ => exact c11 | 3, _ => exact c16 | 4, _ => exact c21 | 5, _ => exact c26 | 6, _ => exact c31 | 7, _ => exact c35)) (by decide) ?_
                  refine bv_iload_n dX12_isLeaf_166 2 rfl ?_
                  refine bv_bipush (v := 8) dX12_isLeaf_167 (by decide) ?_
                  refine bv_icmp_ne (tgt := 180) dX12_isLeaf_169 (by decide) (fun cc => ?_) (fun cc => ?_)
                  · replace h := bu_f h cc
                    refine bv_iload_n dX12_isLeaf_180 2 rfl ?_
                    refine bv_bipush (v := 9) dX12_isLeaf_181 (by decide) ?_
                    refine bv_icmp_ne (tgt := 198) dX12_isLeaf_183 (by decide) (fun cc => ?_) (fun cc => ?_)
                    · replace h := bu_f h cc
                      refine bv_iload_n dX12_isLeaf_198 2 rfl ?_
                      refine bv_bipush (v := 10) dX12_isLeaf_199 (by decide) ?_
                      refine bv_icmp_ne (tgt := 216) dX12_isLeaf_201 (by decide) (fun cc => ?_) (fun cc => ?_)
                      · replace h := bu_f h cc
                        refine bv_iload_n dX12_isLeaf_216 1 rfl ?_
                        refine bv_istore (ls1 := [(0, .ref x0), (1, .int x1), (2, .int x2), (3, .int x3), (4, .int x4), (5, .int x1)]) dX12_isLeaf_217 (by decide) rfl rfl ?_
                        refine bv_iload_n dX12_isLeaf_219 3 rfl ?_
                        refine bv_bipush (v := 60) dX12_isLeaf_220 (by decide) ?_
                        refine bv_icmp_ne (tgt := 240) dX12_isLeaf_222 (by decide) (fun cc => ?_) (fun cc => ?_)
                        · replace h := bu_f h cc
                          refine bv_iload_n dX12_isLeaf_240 3 rfl ?_
                          refine bv_bipush (v := 61) dX12_isLeaf_241 (by decide) ?_
                          refine bv_icmp_ne (tgt := 261) dX12_isLeaf_243 (by decide) (fun cc => ?_) (fun cc => ?_)
                          · replace h := bu_f h cc
                            refine bv_iload dX12_isLeaf_261 5 rfl ?_
                            refine bv_iload dX12_isLeaf_263 4 rfl ?_
                            refine bv_icmp_le (tgt := 272) dX12_isLeaf_265 (by decide) (fun cc => ?_) (fun cc => ?_)
                            · replace h := bu_t h cc
                              refine bv_iconst (v := 0) dX12_isLeaf_272 (by decide) ?_
                              obtain rfl := Option.some.inj h
                              exact bw_bret (b := false) dX12_isLeaf_273 rfl ⟨rfl, rfl⟩
                            · replace h := bu_f h cc
                              refine bv_iconst (v := 1) dX12_isLeaf_268 (by decide) ?_
                              refine bv_goto (tgt := 273) dX12_isLeaf_269 (by decide) ?_
                              obtain rfl := Option.some.inj h
                              exact bw_bret (b := true) dX12_isLeaf_273 rfl ⟨rfl, rfl⟩
                          · replace h := bu_t h cc
                            refine bv_iload dX12_isLeaf_246 5 rfl ?_
                            refine bv_iload dX12_isLeaf_248 4 rfl ?_
                            refine bv_icmp_ne (tgt := 257) dX12_isLeaf_250 (by decide) (fun cc => ?_) (fun cc => ?_)
                            · replace h := bu_f h cc
                              refine bv_iconst (v := 0) dX12_isLeaf_257 (by decide) ?_
                              refine bv_goto (tgt := 273) dX12_isLeaf_258 (by decide) ?_
                              obtain rfl := Option.some.inj h
                              exact bw_bret (b := false) dX12_isLeaf_273 rfl ⟨rfl, rfl⟩
                            · replace h := bu_t h cc
                              refine bv_iconst (v := 1) dX12_isLeaf_253 (by decide) ?_
                              refine bv_goto (tgt := 273) dX12_isLeaf_254 (by decide) ?_
                              obtain rfl := Option.some.inj h
                              exact bw_bret (b := true) dX12_isLeaf_273 rfl ⟨rfl, rfl⟩
                        · replace h := bu_t h cc
                          refine bv_iload dX12_isLeaf_225 5 rfl ?_
                          refine bv_iload dX12_isLeaf_227 4 rfl ?_
                          refine bv_icmp_ge (tgt := 236) dX12_isLeaf_229 (by decide) (fun cc => ?_) (fun cc => ?_)
                          · replace h := bu_t h cc
                            refine bv_iconst (v := 0) dX12_isLeaf_236 (by decide) ?_
                            refine bv_goto (tgt := 273) dX12_isLeaf_237 (by decide) ?_
                            obtain rfl := Option.some.inj h
                            exact bw_bret (b := false) dX12_isLeaf_273 rfl ⟨rfl, rfl⟩
                          · replace h := bu_f h cc
                            refine bv_iconst (v := 1) dX12_isLeaf_232 (by decide) ?_
                            refine bv_goto (tgt := 273) dX12_isLeaf_233 (by decide) ?_
                            obtain rfl := Option.some.inj h
                            exact bw_bret (b := true) dX12_isLeaf_273 rfl ⟨rfl, rfl⟩
                      · replace h := bu_t h cc
                        refine bv_aload_n dX12_isLeaf_204 0 rfl ?_
                        obtain ⟨q40, h⟩ := bu_io h
                        obtain ⟨a41, e42, h⟩ := bu_bd h
                        refine bw_getA (a := a41) hN q40 e42 dX12_isLeaf_205 fl_12_33 rfl ?_
                        refine bv_bipush (v := 98) dX12_isLeaf_208 (by decide) ?_
                        refine bv_iload_n dX12_isLeaf_210 1 rfl ?_
                        refine bv_iadd dX12_isLeaf_211 ?_
                        obtain ⟨r43, h⟩ := bu_ia h
                        refine bw_iald hN r43 dX12_isLeaf_212 ?_
                        refine bv_goto (tgt := 217) dX12_isLeaf_213 (by decide) ?_
                        refine bv_istore (ls1 := [(0, .ref x0), (1, .int x1), (2, .int x2), (3, .int x3), (4, .int x4), (5, .int (M.1 a41 (98 + x1).toNatClampNeg))]) dX12_isLeaf_217 (by decide) rfl rfl ?_
                        refine bv_iload_n dX12_isLeaf_219 3 rfl ?_
                        refine bv_bipush (v := 60) dX12_isLeaf_220 (by decide) ?_
                        refine bv_icmp_ne (tgt := 240) dX12_isLeaf_222 (by decide) (fun cc => ?_) (fun cc => ?_)
                        · replace h := bu_f h cc
                          refine bv_iload_n dX12_isLeaf_240 3 rfl ?_
                          refine bv_bipush (v := 61) dX12_isLeaf_241 (by decide) ?_
                          refine bv_icmp_ne (tgt := 261) dX12_isLeaf_243 (by decide) (fun cc => ?_) (fun cc => ?_)
                          · replace h := bu_f h cc
                            refine bv_iload dX12_isLeaf_261 5 rfl ?_
                            refine bv_iload dX12_isLeaf_263 4 rfl ?_
                            refine bv_icmp_le (tgt := 272) dX12_isLeaf_265 (by decide) (fun cc => ?_) (fun cc => ?_)
                            · replace h := bu_t h cc
                              refine bv_iconst (v := 0) dX12_isLeaf_272 (by decide) ?_
                              obtain rfl := Option.some.inj h
                              exact bw_bret (b := false) dX12_isLeaf_273 rfl ⟨rfl, rfl⟩
                            · replace h := bu_f h cc
                              refine bv_iconst (v := 1) dX12_isLeaf_268 (by decide) ?_
                              refine bv_goto (tgt := 273) dX12_isLeaf_269 (by decide) ?_
                              obtain rfl := Option.some.inj h
                              exact bw_bret (b := true) dX12_isLeaf_273 rfl ⟨rfl, rfl⟩
                          · replace h := bu_t h cc
                            refine bv_iload dX12_isLeaf_246 5 rfl ?_
                            refine bv_iload dX12_isLeaf_248 4 rfl ?_
                            refine bv_icmp_ne (tgt := 257) dX12_isLeaf_250 (by decide) (fun cc => ?_) (fun cc => ?_)
                            · replace h := bu_f h cc
                              refine bv_iconst (v := 0) dX12_isLeaf_257 (by decide) ?_
                              refine bv_goto (tgt := 273) dX12_isLeaf_258 (by decide) ?_
                              obtain rfl := Option.some.inj h
                              exact bw_bret (b := false) dX12_isLeaf_273 rfl ⟨rfl, rfl⟩
                            · replace h := bu_t h cc
                              refine bv_iconst (v := 1) dX12_isLeaf_253 (by decide) ?_
                              refine bv_goto (tgt := 273) dX12_isLeaf_254 (by decide) ?_
                              obtain rfl := Option.some.inj h
                              exact bw_bret (b := true) dX12_isLeaf_273 rfl ⟨rfl, rfl⟩
                        · replace h := bu_t h cc
                          refine bv_iload dX12_isLeaf_225 5 rfl ?_
                          refine bv_iload dX12_isLeaf_227 4 rfl ?_
                          refine bv_icmp_ge (tgt := 236) dX12_isLeaf_229 (by decide) (fun cc => ?_) (fun cc => ?_)
                          · replace h := bu_t h cc
                            refine bv_iconst (v := 0) dX12_isLeaf_236 (by decide) ?_
                            refine bv_goto (tgt := 273) dX12_isLeaf_237 (by decide) ?_
                            obtain rfl := Option.some.inj h
                            exact bw_bret (b := false) dX12_isLeaf_273 rfl ⟨rfl, rfl⟩
                          · replace h := bu_f h cc
                            refine bv_iconst (v := 1) dX12_isLeaf_232 (by decide) ?_
                            refine bv_goto (tgt := 273) dX12_isLeaf_233 (by decide) ?_
                            obtain rfl := Option.some.inj h
                            exact bw_bret (b := true) dX12_isLeaf_273 rfl ⟨rfl, rfl⟩
                    · replace h := bu_t h cc
                      refine bv_aload_n dX12_isLeaf_186 0 rfl ?_
                      obtain ⟨q44, h⟩ := bu_io h
                      obtain ⟨a45, e46, h⟩ := bu_bd h
                      refine bw_getA (a := a45) hN q44 e46 dX12_isLeaf_187 fl_12_33 rfl ?_
                      refine bv_bipush (v := 82) dX12_isLeaf_190 (by decide) ?_
                      refine bv_iload_n dX12_isLeaf_192 1 rfl ?_
                      refine bv_iadd dX12_isLeaf_193 ?_
                      obtain ⟨r47, h⟩ := bu_ia h
                      refine bw_iald hN r47 dX12_isLeaf_194 ?_
                      refine bv_goto (tgt := 217) dX12_isLeaf_195 (by decide) ?_
                      refine bv_istore (ls1 := [(0, .ref x0), (1, .int x1), (2, .int x2), (3, .int x3), (4, .int x4), (5, .int (M.1 a45 (82 + x1).toNatClampNeg))]) dX12_isLeaf_217 (by decide) rfl rfl ?_
                      refine bv_iload_n dX12_isLeaf_219 3 rfl ?_
                      refine bv_bipush (v := 60) dX12_isLeaf_220 (by decide) ?_
                      refine bv_icmp_ne (tgt := 240) dX12_isLeaf_222 (by decide) (fun cc => ?_) (fun cc => ?_)
                      · replace h := bu_f h cc
                        refine bv_iload_n dX12_isLeaf_240 3 rfl ?_
                        refine bv_bipush (v := 61) dX12_isLeaf_241 (by decide) ?_
                        refine bv_icmp_ne (tgt := 261) dX12_isLeaf_243 (by decide) (fun cc => ?_) (fun cc => ?_)
                        · replace h := bu_f h cc
                          refine bv_iload dX12_isLeaf_261 5 rfl ?_
                          refine bv_iload dX12_isLeaf_263 4 rfl ?_
                          refine bv_icmp_le (tgt := 272) dX12_isLeaf_265 (by decide) (fun cc => ?_) (fun cc => ?_)
                          · replace h := bu_t h cc
                            refine bv_iconst (v := 0) dX12_isLeaf_272 (by decide) ?_
                            obtain rfl := Option.some.inj h
                            exact bw_bret (b := false) dX12_isLeaf_273 rfl ⟨rfl, rfl⟩
                          · replace h := bu_f h cc
                            refine bv_iconst (v := 1) dX12_isLeaf_268 (by decide) ?_
                            refine bv_goto (tgt := 273) dX12_isLeaf_269 (by decide) ?_
                            obtain rfl := Option.some.inj h
                            exact bw_bret (b := true) dX12_isLeaf_273 rfl ⟨rfl, rfl⟩
                        · replace h := bu_t h cc
                          refine bv_iload dX12_isLeaf_246 5 rfl ?_
                          refine bv_iload dX12_isLeaf_248 4 rfl ?_
                          refine bv_icmp_ne (tgt := 257) dX12_isLeaf_250 (by decide) (fun cc => ?_) (fun cc => ?_)
                          · replace h := bu_f h cc
                            refine bv_iconst (v := 0) dX12_isLeaf_257 (by decide) ?_
                            refine bv_goto (tgt := 273) dX12_isLeaf_258 (by decide) ?_
                            obtain rfl := Option.some.inj h
                            exact bw_bret (b := false) dX12_isLeaf_273 rfl ⟨rfl, rfl⟩
                          · replace h := bu_t h cc
                            refine bv_iconst (v := 1) dX12_isLeaf_253 (by decide) ?_
                            refine bv_goto (tgt := 273) dX12_isLeaf_254 (by decide) ?_
                            obtain rfl := Option.some.inj h
                            exact bw_bret (b := true) dX12_isLeaf_273 rfl ⟨rfl, rfl⟩
                      · replace h := bu_t h cc
                        refine bv_iload dX12_isLeaf_225 5 rfl ?_
                        refine bv_iload dX12_isLeaf_227 4 rfl ?_
                        refine bv_icmp_ge (tgt := 236) dX12_isLeaf_229 (by decide) (fun cc => ?_) (fun cc => ?_)
                        · replace h := bu_t h cc
                          refine bv_iconst (v := 0) dX12_isLeaf_236 (by decide) ?_
                          refine bv_goto (tgt := 273) dX12_isLeaf_237 (by decide) ?_
                          obtain rfl := Option.some.inj h
                          exact bw_bret (b := false) dX12_isLeaf_273 rfl ⟨rfl, rfl⟩
                        · replace h := bu_f h cc
                          refine bv_iconst (v := 1) dX12_isLeaf_232 (by decide) ?_
                          refine bv_goto (tgt := 273) dX12_isLeaf_233 (by decide) ?_
                          obtain rfl := Option.some.inj h
                          exact bw_bret (b := true) dX12_isLeaf_273 rfl ⟨rfl, rfl⟩
                  · replace h := bu_t h cc
                    refine bv_aload_n dX12_isLeaf_172 0 rfl ?_
                    refine bv_iload_n dX12_isLeaf_173 1 rfl ?_
                    obtain ⟨q48, h⟩ := bu_io h
                    obtain ⟨v49, p50, h⟩ := bu_bd h
                    refine bw_callV (As := [.int x1]) hN q48 ⟨_, _, rfl⟩ dX12_isLeaf_174 mc_12_290 (c_X12_browOf (d := d + 2) hN p50) rfl rfl (by decide) ?_
                    refine bv_goto (tgt := 217) dX12_isLeaf_177 (by decide) ?_
                    refine bv_istore (ls1 := [(0, .ref x0), (1, .int x1), (2, .int x2), (3, .int x3), (4, .int x4), (5, .int v49)]) dX12_isLeaf_217 (by decide) rfl rfl ?_
                    refine bv_iload_n dX12_isLeaf_219 3 rfl ?_
                    refine bv_bipush (v := 60) dX12_isLeaf_220 (by decide) ?_
                    refine bv_icmp_ne (tgt := 240) dX12_isLeaf_222 (by decide) (fun cc => ?_) (fun cc => ?_)
                    · replace h := bu_f h cc
                      refine bv_iload_n dX12_isLeaf_240 3 rfl ?_
                      refine bv_bipush (v := 61) dX12_isLeaf_241 (by decide) ?_
                      refine bv_icmp_ne (tgt := 261) dX12_isLeaf_243 (by decide) (fun cc => ?_) (fun cc => ?_)
                      · replace h := bu_f h cc
                        refine bv_iload dX12_isLeaf_261 5 rfl ?_
                        refine bv_iload dX12_isLeaf_263 4 rfl ?_
                        refine bv_icmp_le (tgt := 272) dX12_isLeaf_265 (by decide) (fun cc => ?_) (fun cc => ?_)
                        · replace h := bu_t h cc
                          refine bv_iconst (v := 0) dX12_isLeaf_272 (by decide) ?_
                          obtain rfl := Option.some.inj h
                          exact bw_bret (b := false) dX12_isLeaf_273 rfl ⟨rfl, rfl⟩
                        · replace h := bu_f h cc
                          refine bv_iconst (v := 1) dX12_isLeaf_268 (by decide) ?_
                          refine bv_goto (tgt := 273) dX12_isLeaf_269 (by decide) ?_
                          obtain rfl := Option.some.inj h
                          exact bw_bret (b := true) dX12_isLeaf_273 rfl ⟨rfl, rfl⟩
                      · replace h := bu_t h cc
                        refine bv_iload dX12_isLeaf_246 5 rfl ?_
                        refine bv_iload dX12_isLeaf_248 4 rfl ?_
                        refine bv_icmp_ne (tgt := 257) dX12_isLeaf_250 (by decide) (fun cc => ?_) (fun cc => ?_)
                        · replace h := bu_f h cc
                          refine bv_iconst (v := 0) dX12_isLeaf_257 (by decide) ?_
                          refine bv_goto (tgt := 273) dX12_isLeaf_258 (by decide) ?_
                          obtain rfl := Option.some.inj h
                          exact bw_bret (b := false) dX12_isLeaf_273 rfl ⟨rfl, rfl⟩
                        · replace h := bu_t h cc
                          refine bv_iconst (v := 1) dX12_isLeaf_253 (by decide) ?_
                          refine bv_goto (tgt := 273) dX12_isLeaf_254 (by decide) ?_
                          obtain rfl := Option.some.inj h
                          exact bw_bret (b := true) dX12_isLeaf_273 rfl ⟨rfl, rfl⟩
                    · replace h := bu_t h cc
                      refine bv_iload dX12_isLeaf_225 5 rfl ?_
                      refine bv_iload dX12_isLeaf_227 4 rfl ?_
                      refine bv_icmp_ge (tgt := 236) dX12_isLeaf_229 (by decide) (fun cc => ?_) (fun cc => ?_)
                      · replace h := bu_t h cc
                        refine bv_iconst (v := 0) dX12_isLeaf_236 (by decide) ?_
                        refine bv_goto (tgt := 273) dX12_isLeaf_237 (by decide) ?_
                        obtain rfl := Option.some.inj h
                        exact bw_bret (b := false) dX12_isLeaf_273 rfl ⟨rfl, rfl⟩
                      · replace h := bu_f h cc
                        refine bv_iconst (v := 1) dX12_isLeaf_232 (by decide) ?_
                        refine bv_goto (tgt := 273) dX12_isLeaf_233 (by decide) ?_
                        obtain rfl := Option.some.inj h
                        exact bw_bret (b := true) dX12_isLeaf_273 rfl ⟨rfl, rfl⟩
def f_X12_isSaid_l4 (x0 : Nat) (x1 : Int32) : Nat → Int32 → Int32 → bm_M → Option (bm_M)
  | 0, _, _, _ => none
  | k + 1, x2, x3, M => (if bm_io x0 11 then ((M.2.2 x0 6).bind fun a2 => (if bm_ia a2 0 106 = true then (if (M.1 a2 (106 : Int32).toNatClampNeg) ≤ x3 then some M else (if bm_ia a2 0 (107 + (3 * x3)) = true then (if (M.1 a2 (107 + (3 * x3)).toNatClampNeg) = 20 then ((M.2.2 x0 43).bind fun a25 => (if bm_ia a25 3 (x2 - 1) = true then (if (M.1 a25 (x2 - 1).toNatClampNeg) = 0 then f_X12_isSaid_l4 x0 x1 k x2 (x3 + 1) (bm_sI M a25 (x2 - 1).toNatClampNeg (vp_nar .boolean 1)) else f_X12_isSaid_l4 x0 x1 k x2 (x3 + 1) (bm_sI M a25 (x2 - 1).toNatClampNeg (vp_nar .boolean 0))) else none)) else (if (M.1 a2 (107 + (3 * x3)).toNatClampNeg) = 21 then ((M.2.2 x0 43).bind fun a6 => (if (M.1 a2 (107 + (3 * x3)).toNatClampNeg) = 21 then (if bm_ia a6 3 ((x2 + (-1)) - 1) = true then (if (M.1 a6 ((x2 + (-1)) - 1).toNatClampNeg) = 0 then f_X12_isSaid_l4 x0 x1 k (x2 + (-1)) (x3 + 1) (bm_sI M a6 ((x2 + (-1)) - 1).toNatClampNeg (vp_nar .boolean 0)) else (if bm_ia a6 3 (x2 + (-1)) = true then (if (M.1 a6 (x2 + (-1)).toNatClampNeg) = 0 then f_X12_isSaid_l4 x0 x1 k (x2 + (-1)) (x3 + 1) (bm_sI M a6 ((x2 + (-1)) - 1).toNatClampNeg (vp_nar .boolean 0)) else f_X12_isSaid_l4 x0 x1 k (x2 + (-1)) (x3 + 1) (bm_sI M a6 ((x2 + (-1)) - 1).toNatClampNeg (vp_nar .boolean 1))) else none)) else none) else (if bm_ia a6 3 ((x2 + (-1)) - 1) = true then (if (M.1 a6 ((x2 + (-1)) - 1).toNatClampNeg) = 0 then (if bm_ia a6 3 (x2 + (-1)) = true then (if (M.1 a6 (x2 + (-1)).toNatClampNeg) = 0 then f_X12_isSaid_l4 x0 x1 k (x2 + (-1)) (x3 + 1) (bm_sI M a6 ((x2 + (-1)) - 1).toNatClampNeg (vp_nar .boolean 0)) else f_X12_isSaid_l4 x0 x1 k (x2 + (-1)) (x3 + 1) (bm_sI M a6 ((x2 + (-1)) - 1).toNatClampNeg (vp_nar .boolean 1))) else none) else f_X12_isSaid_l4 x0 x1 k (x2 + (-1)) (x3 + 1) (bm_sI M a6 ((x2 + (-1)) - 1).toNatClampNeg (vp_nar .boolean 1))) else none))) else (if (M.1 a2 (107 + (3 * x3)).toNatClampNeg) = 22 then ((M.2.2 x0 43).bind fun a19 => (if (M.1 a2 (107 + (3 * x3)).toNatClampNeg) = 21 then (if bm_ia a19 3 ((x2 + (-1)) - 1) = true then (if (M.1 a19 ((x2 + (-1)) - 1).toNatClampNeg) = 0 then f_X12_isSaid_l4 x0 x1 k (x2 + (-1)) (x3 + 1) (bm_sI M a19 ((x2 + (-1)) - 1).toNatClampNeg (vp_nar .boolean 0)) else (if bm_ia a19 3 (x2 + (-1)) = true then (if (M.1 a19 (x2 + (-1)).toNatClampNeg) = 0 then f_X12_isSaid_l4 x0 x1 k (x2 + (-1)) (x3 + 1) (bm_sI M a19 ((x2 + (-1)) - 1).toNatClampNeg (vp_nar .boolean 0)) else f_X12_isSaid_l4 x0 x1 k (x2 + (-1)) (x3 + 1) (bm_sI M a19 ((x2 + (-1)) - 1).toNatClampNeg (vp_nar .boolean 1))) else none)) else none) else (if bm_ia a19 3 ((x2 + (-1)) - 1) = true then (if (M.1 a19 ((x2 + (-1)) - 1).toNatClampNeg) = 0 then (if bm_ia a19 3 (x2 + (-1)) = true then (if (M.1 a19 (x2 + (-1)).toNatClampNeg) = 0 then f_X12_isSaid_l4 x0 x1 k (x2 + (-1)) (x3 + 1) (bm_sI M a19 ((x2 + (-1)) - 1).toNatClampNeg (vp_nar .boolean 0)) else f_X12_isSaid_l4 x0 x1 k (x2 + (-1)) (x3 + 1) (bm_sI M a19 ((x2 + (-1)) - 1).toNatClampNeg (vp_nar .boolean 1))) else none) else f_X12_isSaid_l4 x0 x1 k (x2 + (-1)) (x3 + 1) (bm_sI M a19 ((x2 + (-1)) - 1).toNatClampNeg (vp_nar .boolean 1))) else none))) else ((M.2.2 x0 43).bind fun a12 => (if bm_ia a2 0 ((107 + (3 * x3)) + 1) = true then (if bm_ia a2 0 ((107 + (3 * x3)) + 2) = true then ((f_X12_isLeaf M x0 x1 (M.1 a2 (107 + (3 * x3)).toNatClampNeg) (M.1 a2 ((107 + (3 * x3)) + 1).toNatClampNeg) (M.1 a2 ((107 + (3 * x3)) + 2).toNatClampNeg)).bind fun v16 => (if bm_ia a12 3 x2 = true then f_X12_isSaid_l4 x0 x1 k (x2 + 1) (x3 + 1) (bm_sI M a12 x2.toNatClampNeg (vp_nar .boolean (bm_bi v16))) else none)) else none) else none))))) else none)) else none)) else none)
set_option maxHeartbeats 4000000 in
set_option maxRecDepth 100000 in
theorem v_X12_isSaid_l4 {L : bm_L} {d n : Nat} {Q : Option Value → bm_M → Prop} {x0 : Nat} {x1 : Int32} (hN : 181 ≤ n) : ∀ (k : Nat) (x2 : Int32) (x3 : Int32) (M : bm_M) (r : bm_M), f_X12_isSaid_l4 x0 x1 k x2 x3 M = some r → (∀ yy, yy = r → bm_V L m_X12_isSaid (d + 5) n n n 210 [(0, .ref x0)] [] yy Q) → bm_V L m_X12_isSaid (d + 5) n n n 4 [(0, .ref x0), (1, .int x1), (2, .int x2), (3, .int x3)] [] M Q := by
  intro k
  induction k with
  | zero => intro x2 x3 M r h; cases (show (none : Option (bm_M)) = some r from h)
  | succ k ih =>
    intro x2 x3 M r h K0
    unfold f_X12_isSaid_l4 at h
    refine bv_iload_n dX12_isSaid_4 3 rfl ?_
    refine bv_aload_n dX12_isSaid_5 0 rfl ?_
    obtain ⟨q1, h⟩ := bu_io h
    obtain ⟨a2, e3, h⟩ := bu_bd h
    refine bw_getA (a := a2) hN q1 e3 dX12_isSaid_6 fl_12_33 rfl ?_
    refine bv_bipush (v := 106) dX12_isSaid_9 (by decide) ?_
    obtain ⟨r4, h⟩ := bu_ia h
    refine bw_iald hN r4 dX12_isSaid_11 ?_
    refine bv_icmp_ge (tgt := 210) dX12_isSaid_12 (by decide) (fun cc => ?_) (fun cc => ?_)
    · replace h := bu_t h cc
      refine bw_ls (ls1 := [(0, .ref x0)]) [0] rfl ?_
      obtain rfl := Option.some.inj h
      exact K0 _ rfl
    · replace h := bu_f h cc
      refine bv_bipush (v := 107) dX12_isSaid_15 (by decide) ?_
      refine bv_iconst (v := 3) dX12_isSaid_17 (by decide) ?_
      refine bv_iload_n dX12_isSaid_18 3 rfl ?_
      refine bv_imul dX12_isSaid_19 ?_
      refine bv_iadd dX12_isSaid_20 ?_
      refine bv_istore (ls1 := [(0, .ref x0), (1, .int x1), (2, .int x2), (3, .int x3), (4, .int (107 + (3 * x3)))]) dX12_isSaid_21 (by decide) rfl rfl ?_
      refine bv_aload_n dX12_isSaid_23 0 rfl ?_
      refine bw_getA (a := a2) hN q1 e3 dX12_isSaid_24 fl_12_33 rfl ?_
      refine bv_iload dX12_isSaid_27 4 rfl ?_
      obtain ⟨r5, h⟩ := bu_ia h
      refine bw_iald hN r5 dX12_isSaid_29 ?_
      refine bv_bipush (v := 20) dX12_isSaid_30 (by decide) ?_
      refine bv_icmp_ne (tgt := 62) dX12_isSaid_32 (by decide) (fun cc => ?_) (fun cc => ?_)
      · replace h := bu_f h cc
        refine bv_aload_n dX12_isSaid_62 0 rfl ?_
        refine bw_getA (a := a2) hN q1 e3 dX12_isSaid_63 fl_12_33 rfl ?_
        refine bv_iload dX12_isSaid_66 4 rfl ?_
        refine bw_iald hN r5 dX12_isSaid_68 ?_
        refine bv_bipush (v := 21) dX12_isSaid_69 (by decide) ?_
        refine bv_icmp_eq (tgt := 86) dX12_isSaid_71 (by decide) (fun cc => ?_) (fun cc => ?_)
        · replace h := bu_t h cc
          refine bv_iinc (j := 2) (v := (x2 + (-1))) (ls1 := [(0, .ref x0), (1, .int x1), (2, .int (x2 + (-1))), (3, .int x3), (4, .int (107 + (3 * x3)))]) dX12_isSaid_86 rfl rfl (by decide) rfl rfl ?_
          refine bv_aload_n dX12_isSaid_89 0 rfl ?_
          obtain ⟨a6, e7, h⟩ := bu_bd h
          refine bw_getA (a := a6) hN q1 e7 dX12_isSaid_90 fl_12_80 rfl ?_
          refine bv_iload_n dX12_isSaid_93 2 rfl ?_
          refine bv_iconst (v := 1) dX12_isSaid_94 (by decide) ?_
          refine bv_isub dX12_isSaid_95 ?_
          refine bv_aload_n dX12_isSaid_96 0 rfl ?_
          refine bw_getA (a := a2) hN q1 e3 dX12_isSaid_97 fl_12_33 rfl ?_
          refine bv_iload dX12_isSaid_100 4 rfl ?_
          refine bw_iald hN r5 dX12_isSaid_102 ?_
          refine bv_bipush (v := 21) dX12_isSaid_103 (by decide) ?_
          refine bv_icmp_ne (tgt := 136) dX12_isSaid_105 (by decide) (fun cc => ?_) (fun cc => ?_)
          · replace h := bu_f h cc
            refine bv_aload_n dX12_isSaid_136 0 rfl ?_
            refine bw_getA (a := a6) hN q1 e7 dX12_isSaid_137 fl_12_80 rfl ?_
            refine bv_iload_n dX12_isSaid_140 2 rfl ?_
            refine bv_iconst (v := 1) dX12_isSaid_141 (by decide) ?_
            refine bv_isub dX12_isSaid_142 ?_
            obtain ⟨r8, h⟩ := bu_ia h
            refine bw_zald hN r8 dX12_isSaid_143 ?_
            refine bv_if_ne (tgt := 156) dX12_isSaid_144 (by decide) (fun cc => ?_) (fun cc => ?_)
            · replace h := bu_f h cc
              refine bv_iconst (v := 1) dX12_isSaid_156 (by decide) ?_
              refine bv_goto (tgt := 161) dX12_isSaid_157 (by decide) ?_
              refine bw_zast hN r8 dX12_isSaid_161 ?_
              refine bv_goto (tgt := 204) dX12_isSaid_162 (by decide) ?_
              refine bv_iinc (j := 3) (v := (x3 + 1)) (ls1 := [(0, .ref x0), (1, .int x1), (2, .int (x2 + (-1))), (3, .int (x3 + 1)), (4, .int (107 + (3 * x3)))]) dX12_isSaid_204 rfl rfl (by decide) rfl rfl ?_
              refine bv_goto (tgt := 4) dX12_isSaid_207 (by decide) ?_
              refine bw_ls (ls1 := [(0, .ref x0), (1, .int x1), (2, .int (x2 + (-1))), (3, .int (x3 + 1))]) [0, 1, 2, 3] rfl ?_
              exact ih _ _ _ _ h K0
            · replace h := bu_t h cc
              refine bv_aload_n dX12_isSaid_147 0 rfl ?_
              refine bw_getA (a := a6) hN q1 e7 dX12_isSaid_148 fl_12_80 rfl ?_
              refine bv_iload_n dX12_isSaid_151 2 rfl ?_
              obtain ⟨r9, h⟩ := bu_ia h
              refine bw_zald hN r9 dX12_isSaid_152 ?_
              refine bv_if_eq (tgt := 160) dX12_isSaid_153 (by decide) (fun cc => ?_) (fun cc => ?_)
              · replace h := bu_t h cc
                refine bv_iconst (v := 0) dX12_isSaid_160 (by decide) ?_
                refine bw_zast hN r8 dX12_isSaid_161 ?_
                refine bv_goto (tgt := 204) dX12_isSaid_162 (by decide) ?_
                refine bv_iinc (j := 3) (v := (x3 + 1)) (ls1 := [(0, .ref x0), (1, .int x1), (2, .int (x2 + (-1))), (3, .int (x3 + 1)), (4, .int (107 + (3 * x3)))]) dX12_isSaid_204 rfl rfl (by decide) rfl rfl ?_
                refine bv_goto (tgt := 4) dX12_isSaid_207 (by decide) ?_
                refine bw_ls (ls1 := [(0, .ref x0), (1, .int x1), (2, .int (x2 + (-1))), (3, .int (x3 + 1))]) [0, 1, 2, 3] rfl ?_
                exact ih _ _ _ _ h K0
              · replace h := bu_f h cc
                refine bv_iconst (v := 1) dX12_isSaid_156 (by decide) ?_
                refine bv_goto (tgt := 161) dX12_isSaid_157 (by decide) ?_
                refine bw_zast hN r8 dX12_isSaid_161 ?_
                refine bv_goto (tgt := 204) dX12_isSaid_162 (by decide) ?_
                refine bv_iinc (j := 3) (v := (x3 + 1)) (ls1 := [(0, .ref x0), (1, .int x1), (2, .int (x2 + (-1))), (3, .int (x3 + 1)), (4, .int (107 + (3 * x3)))]) dX12_isSaid_204 rfl rfl (by decide) rfl rfl ?_
                refine bv_goto (tgt := 4) dX12_isSaid_207 (by decide) ?_
                refine bw_ls (ls1 := [(0, .ref x0), (1, .int x1), (2, .int (x2 + (-1))), (3, .int (x3 + 1))]) [0, 1, 2, 3] rfl ?_
                exact ih _ _ _ _ h K0
          · replace h := bu_t h cc
            refine bv_aload_n dX12_isSaid_108 0 rfl ?_
            refine bw_getA (a := a6) hN q1 e7 dX12_isSaid_109 fl_12_80 rfl ?_
            refine bv_iload_n dX12_isSaid_112 2 rfl ?_
            refine bv_iconst (v := 1) dX12_isSaid_113 (by decide) ?_
            refine bv_isub dX12_isSaid_114 ?_
            obtain ⟨r10, h⟩ := bu_ia h
            refine bw_zald hN r10 dX12_isSaid_115 ?_
            refine bv_if_eq (tgt := 132) dX12_isSaid_116 (by decide) (fun cc => ?_) (fun cc => ?_)
            · replace h := bu_t h cc
              refine bv_iconst (v := 0) dX12_isSaid_132 (by decide) ?_
              refine bv_goto (tgt := 161) dX12_isSaid_133 (by decide) ?_
              refine bw_zast hN r10 dX12_isSaid_161 ?_
              refine bv_goto (tgt := 204) dX12_isSaid_162 (by decide) ?_
              refine bv_iinc (j := 3) (v := (x3 + 1)) (ls1 := [(0, .ref x0), (1, .int x1), (2, .int (x2 + (-1))), (3, .int (x3 + 1)), (4, .int (107 + (3 * x3)))]) dX12_isSaid_204 rfl rfl (by decide) rfl rfl ?_
              refine bv_goto (tgt := 4) dX12_isSaid_207 (by decide) ?_
              refine bw_ls (ls1 := [(0, .ref x0), (1, .int x1), (2, .int (x2 + (-1))), (3, .int (x3 + 1))]) [0, 1, 2, 3] rfl ?_
              exact ih _ _ _ _ h K0
            · replace h := bu_f h cc
              refine bv_aload_n dX12_isSaid_119 0 rfl ?_
              refine bw_getA (a := a6) hN q1 e7 dX12_isSaid_120 fl_12_80 rfl ?_
              refine bv_iload_n dX12_isSaid_123 2 rfl ?_
              obtain ⟨r11, h⟩ := bu_ia h
              refine bw_zald hN r11 dX12_isSaid_124 ?_
              refine bv_if_eq (tgt := 132) dX12_isSaid_125 (by decide) (fun cc => ?_) (fun cc => ?_)
              · replace h := bu_t h cc
                refine bv_iconst (v := 0) dX12_isSaid_132 (by decide) ?_
                refine bv_goto (tgt := 161) dX12_isSaid_133 (by decide) ?_
                refine bw_zast hN r10 dX12_isSaid_161 ?_
                refine bv_goto (tgt := 204) dX12_isSaid_162 (by decide) ?_
                refine bv_iinc (j := 3) (v := (x3 + 1)) (ls1 := [(0, .ref x0), (1, .int x1), (2, .int (x2 + (-1))), (3, .int (x3 + 1)), (4, .int (107 + (3 * x3)))]) dX12_isSaid_204 rfl rfl (by decide) rfl rfl ?_
                refine bv_goto (tgt := 4) dX12_isSaid_207 (by decide) ?_
                refine bw_ls (ls1 := [(0, .ref x0), (1, .int x1), (2, .int (x2 + (-1))), (3, .int (x3 + 1))]) [0, 1, 2, 3] rfl ?_
                exact ih _ _ _ _ h K0
              · replace h := bu_f h cc
                refine bv_iconst (v := 1) dX12_isSaid_128 (by decide) ?_
                refine bv_goto (tgt := 161) dX12_isSaid_129 (by decide) ?_
                refine bw_zast hN r10 dX12_isSaid_161 ?_
                refine bv_goto (tgt := 204) dX12_isSaid_162 (by decide) ?_
                refine bv_iinc (j := 3) (v := (x3 + 1)) (ls1 := [(0, .ref x0), (1, .int x1), (2, .int (x2 + (-1))), (3, .int (x3 + 1)), (4, .int (107 + (3 * x3)))]) dX12_isSaid_204 rfl rfl (by decide) rfl rfl ?_
                refine bv_goto (tgt := 4) dX12_isSaid_207 (by decide) ?_
                refine bw_ls (ls1 := [(0, .ref x0), (1, .int x1), (2, .int (x2 + (-1))), (3, .int (x3 + 1))]) [0, 1, 2, 3] rfl ?_
                exact ih _ _ _ _ h K0
        · replace h := bu_f h cc
          refine bv_aload_n dX12_isSaid_74 0 rfl ?_
          refine bw_getA (a := a2) hN q1 e3 dX12_isSaid_75 fl_12_33 rfl ?_
          refine bv_iload dX12_isSaid_78 4 rfl ?_
          refine bw_iald hN r5 dX12_isSaid_80 ?_
          refine bv_bipush (v := 22) dX12_isSaid_81 (by decide) ?_
          refine bv_icmp_ne (tgt := 165) dX12_isSaid_83 (by decide) (fun cc => ?_) (fun cc => ?_)
          · replace h := bu_f h cc
            refine bv_aload_n dX12_isSaid_165 0 rfl ?_
            obtain ⟨a12, e13, h⟩ := bu_bd h
            refine bw_getA (a := a12) hN q1 e13 dX12_isSaid_166 fl_12_80 rfl ?_
            refine bv_iload_n dX12_isSaid_169 2 rfl ?_
            refine bv_aload_n dX12_isSaid_170 0 rfl ?_
            refine bv_iload_n dX12_isSaid_171 1 rfl ?_
            refine bv_aload_n dX12_isSaid_172 0 rfl ?_
            refine bw_getA (a := a2) hN q1 e3 dX12_isSaid_173 fl_12_33 rfl ?_
            refine bv_iload dX12_isSaid_176 4 rfl ?_
            refine bw_iald hN r5 dX12_isSaid_178 ?_
            refine bv_aload_n dX12_isSaid_179 0 rfl ?_
            refine bw_getA (a := a2) hN q1 e3 dX12_isSaid_180 fl_12_33 rfl ?_
            refine bv_iload dX12_isSaid_183 4 rfl ?_
            refine bv_iconst (v := 1) dX12_isSaid_185 (by decide) ?_
            refine bv_iadd dX12_isSaid_186 ?_
            obtain ⟨r14, h⟩ := bu_ia h
            refine bw_iald hN r14 dX12_isSaid_187 ?_
            refine bv_aload_n dX12_isSaid_188 0 rfl ?_
            refine bw_getA (a := a2) hN q1 e3 dX12_isSaid_189 fl_12_33 rfl ?_
            refine bv_iload dX12_isSaid_192 4 rfl ?_
            refine bv_iconst (v := 2) dX12_isSaid_194 (by decide) ?_
            refine bv_iadd dX12_isSaid_195 ?_
            obtain ⟨r15, h⟩ := bu_ia h
            refine bw_iald hN r15 dX12_isSaid_196 ?_
            obtain ⟨v16, p17, h⟩ := bu_bd h
            refine bw_callV (As := [.int x1, .int (M.1 a2 (107 + (3 * x3)).toNatClampNeg), .int (M.1 a2 ((107 + (3 * x3)) + 1).toNatClampNeg), .int (M.1 a2 ((107 + (3 * x3)) + 2).toNatClampNeg)]) hN q1 ⟨_, _, rfl⟩ dX12_isSaid_197 mc_12_484 (c_X12_isLeaf (d := d + 0) hN p17) rfl rfl (Nat.le_of_ble_eq_true rfl) ?_
            obtain ⟨r18, h⟩ := bu_ia h
            refine bw_zast hN r18 dX12_isSaid_200 ?_
            refine bv_iinc (j := 2) (v := (x2 + 1)) (ls1 := [(0, .ref x0), (1, .int x1), (2, .int (x2 + 1)), (3, .int x3), (4, .int (107 + (3 * x3)))]) dX12_isSaid_201 rfl rfl (by decide) rfl rfl ?_
            refine bv_iinc (j := 3) (v := (x3 + 1)) (ls1 := [(0, .ref x0), (1, .int x1), (2, .int (x2 + 1)), (3, .int (x3 + 1)), (4, .int (107 + (3 * x3)))]) dX12_isSaid_204 rfl rfl (by decide) rfl rfl ?_
            refine bv_goto (tgt := 4) dX12_isSaid_207 (by decide) ?_
            refine bw_ls (ls1 := [(0, .ref x0), (1, .int x1), (2, .int (x2 + 1)), (3, .int (x3 + 1))]) [0, 1, 2, 3] rfl ?_
            exact ih _ _ _ _ h K0
          · replace h := bu_t h cc
            refine bv_iinc (j := 2) (v := (x2 + (-1))) (ls1 := [(0, .ref x0), (1, .int x1), (2, .int (x2 + (-1))), (3, .int x3), (4, .int (107 + (3 * x3)))]) dX12_isSaid_86 rfl rfl (by decide) rfl rfl ?_
            refine bv_aload_n dX12_isSaid_89 0 rfl ?_
            obtain ⟨a19, e20, h⟩ := bu_bd h
            refine bw_getA (a := a19) hN q1 e20 dX12_isSaid_90 fl_12_80 rfl ?_
            refine bv_iload_n dX12_isSaid_93 2 rfl ?_
            refine bv_iconst (v := 1) dX12_isSaid_94 (by decide) ?_
            refine bv_isub dX12_isSaid_95 ?_
            refine bv_aload_n dX12_isSaid_96 0 rfl ?_
            refine bw_getA (a := a2) hN q1 e3 dX12_isSaid_97 fl_12_33 rfl ?_
            refine bv_iload dX12_isSaid_100 4 rfl ?_
            refine bw_iald hN r5 dX12_isSaid_102 ?_
            refine bv_bipush (v := 21) dX12_isSaid_103 (by decide) ?_
            refine bv_icmp_ne (tgt := 136) dX12_isSaid_105 (by decide) (fun cc => ?_) (fun cc => ?_)
            · replace h := bu_f h cc
              refine bv_aload_n dX12_isSaid_136 0 rfl ?_
              refine bw_getA (a := a19) hN q1 e20 dX12_isSaid_137 fl_12_80 rfl ?_
              refine bv_iload_n dX12_isSaid_140 2 rfl ?_
              refine bv_iconst (v := 1) dX12_isSaid_141 (by decide) ?_
              refine bv_isub dX12_isSaid_142 ?_
              obtain ⟨r21, h⟩ := bu_ia h
              refine bw_zald hN r21 dX12_isSaid_143 ?_
              refine bv_if_ne (tgt := 156) dX12_isSaid_144 (by decide) (fun cc => ?_) (fun cc => ?_)
              · replace h := bu_f h cc
                refine bv_iconst (v := 1) dX12_isSaid_156 (by decide) ?_
                refine bv_goto (tgt := 161) dX12_isSaid_157 (by decide) ?_
                refine bw_zast hN r21 dX12_isSaid_161 ?_
                refine bv_goto (tgt := 204) dX12_isSaid_162 (by decide) ?_
                refine bv_iinc (j := 3) (v := (x3 + 1)) (ls1 := [(0, .ref x0), (1, .int x1), (2, .int (x2 + (-1))), (3, .int (x3 + 1)), (4, .int (107 + (3 * x3)))]) dX12_isSaid_204 rfl rfl (by decide) rfl rfl ?_
                refine bv_goto (tgt := 4) dX12_isSaid_207 (by decide) ?_
                refine bw_ls (ls1 := [(0, .ref x0), (1, .int x1), (2, .int (x2 + (-1))), (3, .int (x3 + 1))]) [0, 1, 2, 3] rfl ?_
                exact ih _ _ _ _ h K0
              · replace h := bu_t h cc
                refine bv_aload_n dX12_isSaid_147 0 rfl ?_
                refine bw_getA (a := a19) hN q1 e20 dX12_isSaid_148 fl_12_80 rfl ?_
                refine bv_iload_n dX12_isSaid_151 2 rfl ?_
                obtain ⟨r22, h⟩ := bu_ia h
                refine bw_zald hN r22 dX12_isSaid_152 ?_
                refine bv_if_eq (tgt := 160) dX12_isSaid_153 (by decide) (fun cc => ?_) (fun cc => ?_)
                · replace h := bu_t h cc
                  refine bv_iconst (v := 0) dX12_isSaid_160 (by decide) ?_
                  refine bw_zast hN r21 dX12_isSaid_161 ?_
                  refine bv_goto (tgt := 204) dX12_isSaid_162 (by decide) ?_
                  refine bv_iinc (j := 3) (v := (x3 + 1)) (ls1 := [(0, .ref x0), (1, .int x1), (2, .int (x2 + (-1))), (3, .int (x3 + 1)), (4, .int (107 + (3 * x3)))]) dX12_isSaid_204 rfl rfl (by decide) rfl rfl ?_
                  refine bv_goto (tgt := 4) dX12_isSaid_207 (by decide) ?_
                  refine bw_ls (ls1 := [(0, .ref x0), (1, .int x1), (2, .int (x2 + (-1))), (3, .int (x3 + 1))]) [0, 1, 2, 3] rfl ?_
                  exact ih _ _ _ _ h K0
                · replace h := bu_f h cc
                  refine bv_iconst (v := 1) dX12_isSaid_156 (by decide) ?_
                  refine bv_goto (tgt := 161) dX12_isSaid_157 (by decide) ?_
                  refine bw_zast hN r21 dX12_isSaid_161 ?_
                  refine bv_goto (tgt := 204) dX12_isSaid_162 (by decide) ?_
                  refine bv_iinc (j := 3) (v := (x3 + 1)) (ls1 := [(0, .ref x0), (1, .int x1), (2, .int (x2 + (-1))), (3, .int (x3 + 1)), (4, .int (107 + (3 * x3)))]) dX12_isSaid_204 rfl rfl (by decide) rfl rfl ?_
                  refine bv_goto (tgt := 4) dX12_isSaid_207 (by decide) ?_
                  refine bw_ls (ls1 := [(0, .ref x0), (1, .int x1), (2, .int (x2 + (-1))), (3, .int (x3 + 1))]) [0, 1, 2, 3] rfl ?_
                  exact ih _ _ _ _ h K0
            · replace h := bu_t h cc
              refine bv_aload_n dX12_isSaid_108 0 rfl ?_
              refine bw_getA (a := a19) hN q1 e20 dX12_isSaid_109 fl_12_80 rfl ?_
              refine bv_iload_n dX12_isSaid_112 2 rfl ?_
              refine bv_iconst (v := 1) dX12_isSaid_113 (by decide) ?_
              refine bv_isub dX12_isSaid_114 ?_
              obtain ⟨r23, h⟩ := bu_ia h
              refine bw_zald hN r23 dX12_isSaid_115 ?_
              refine bv_if_eq (tgt := 132) dX12_isSaid_116 (by decide) (fun cc => ?_) (fun cc => ?_)
              · replace h := bu_t h cc
                refine bv_iconst (v := 0) dX12_isSaid_132 (by decide) ?_
                refine bv_goto (tgt := 161) dX12_isSaid_133 (by decide) ?_
                refine bw_zast hN r23 dX12_isSaid_161 ?_
                refine bv_goto (tgt := 204) dX12_isSaid_162 (by decide) ?_
                refine bv_iinc (j := 3) (v := (x3 + 1)) (ls1 := [(0, .ref x0), (1, .int x1), (2, .int (x2 + (-1))), (3, .int (x3 + 1)), (4, .int (107 + (3 * x3)))]) dX12_isSaid_204 rfl rfl (by decide) rfl rfl ?_
                refine bv_goto (tgt := 4) dX12_isSaid_207 (by decide) ?_
                refine bw_ls (ls1 := [(0, .ref x0), (1, .int x1), (2, .int (x2 + (-1))), (3, .int (x3 + 1))]) [0, 1, 2, 3] rfl ?_
                exact ih _ _ _ _ h K0
              · replace h := bu_f h cc
                refine bv_aload_n dX12_isSaid_119 0 rfl ?_
                refine bw_getA (a := a19) hN q1 e20 dX12_isSaid_120 fl_12_80 rfl ?_
                refine bv_iload_n dX12_isSaid_123 2 rfl ?_
                obtain ⟨r24, h⟩ := bu_ia h
                refine bw_zald hN r24 dX12_isSaid_124 ?_
                refine bv_if_eq (tgt := 132) dX12_isSaid_125 (by decide) (fun cc => ?_) (fun cc => ?_)
                · replace h := bu_t h cc
                  refine bv_iconst (v := 0) dX12_isSaid_132 (by decide) ?_
                  refine bv_goto (tgt := 161) dX12_isSaid_133 (by decide) ?_
                  refine bw_zast hN r23 dX12_isSaid_161 ?_
                  refine bv_goto (tgt := 204) dX12_isSaid_162 (by decide) ?_
                  refine bv_iinc (j := 3) (v := (x3 + 1)) (ls1 := [(0, .ref x0), (1, .int x1), (2, .int (x2 + (-1))), (3, .int (x3 + 1)), (4, .int (107 + (3 * x3)))]) dX12_isSaid_204 rfl rfl (by decide) rfl rfl ?_
                  refine bv_goto (tgt := 4) dX12_isSaid_207 (by decide) ?_
                  refine bw_ls (ls1 := [(0, .ref x0), (1, .int x1), (2, .int (x2 + (-1))), (3, .int (x3 + 1))]) [0, 1, 2, 3] rfl ?_
                  exact ih _ _ _ _ h K0
                · replace h := bu_f h cc
                  refine bv_iconst (v := 1) dX12_isSaid_128 (by decide) ?_
                  refine bv_goto (tgt := 161) dX12_isSaid_129 (by decide) ?_
                  refine bw_zast hN r23 dX12_isSaid_161 ?_
                  refine bv_goto (tgt := 204) dX12_isSaid_162 (by decide) ?_
                  refine bv_iinc (j := 3) (v := (x3 + 1)) (ls1 := [(0, .ref x0), (1, .int x1), (2, .int (x2 + (-1))), (3, .int (x3 + 1)), (4, .int (107 + (3 * x3)))]) dX12_isSaid_204 rfl rfl (by decide) rfl rfl ?_
                  refine bv_goto (tgt := 4) dX12_isSaid_207 (by decide) ?_
                  refine bw_ls (ls1 := [(0, .ref x0), (1, .int x1), (2, .int (x2 + (-1))), (3, .int (x3 + 1))]) [0, 1, 2, 3] rfl ?_
                  exact ih _ _ _ _ h K0
      · replace h := bu_t h cc
        refine bv_aload_n dX12_isSaid_35 0 rfl ?_
        obtain ⟨a25, e26, h⟩ := bu_bd h
        refine bw_getA (a := a25) hN q1 e26 dX12_isSaid_36 fl_12_80 rfl ?_
        refine bv_iload_n dX12_isSaid_39 2 rfl ?_
        refine bv_iconst (v := 1) dX12_isSaid_40 (by decide) ?_
        refine bv_isub dX12_isSaid_41 ?_
        refine bv_aload_n dX12_isSaid_42 0 rfl ?_
        refine bw_getA (a := a25) hN q1 e26 dX12_isSaid_43 fl_12_80 rfl ?_
        refine bv_iload_n dX12_isSaid_46 2 rfl ?_
        refine bv_iconst (v := 1) dX12_isSaid_47 (by decide) ?_
        refine bv_isub dX12_isSaid_48 ?_
        obtain ⟨r27, h⟩ := bu_ia h
        refine bw_zald hN r27 dX12_isSaid_49 ?_
        refine bv_if_ne (tgt := 57) dX12_isSaid_50 (by decide) (fun cc => ?_) (fun cc => ?_)
        · replace h := bu_f h cc
          refine bv_iconst (v := 0) dX12_isSaid_57 (by decide) ?_
          refine bw_zast hN r27 dX12_isSaid_58 ?_
          refine bv_goto (tgt := 204) dX12_isSaid_59 (by decide) ?_
          refine bv_iinc (j := 3) (v := (x3 + 1)) (ls1 := [(0, .ref x0), (1, .int x1), (2, .int x2), (3, .int (x3 + 1)), (4, .int (107 + (3 * x3)))]) dX12_isSaid_204 rfl rfl (by decide) rfl rfl ?_
          refine bv_goto (tgt := 4) dX12_isSaid_207 (by decide) ?_
          refine bw_ls (ls1 := [(0, .ref x0), (1, .int x1), (2, .int x2), (3, .int (x3 + 1))]) [0, 1, 2, 3] rfl ?_
          exact ih _ _ _ _ h K0
        · replace h := bu_t h cc
          refine bv_iconst (v := 1) dX12_isSaid_53 (by decide) ?_
          refine bv_goto (tgt := 58) dX12_isSaid_54 (by decide) ?_
          refine bw_zast hN r27 dX12_isSaid_58 ?_
          refine bv_goto (tgt := 204) dX12_isSaid_59 (by decide) ?_
          refine bv_iinc (j := 3) (v := (x3 + 1)) (ls1 := [(0, .ref x0), (1, .int x1), (2, .int x2), (3, .int (x3 + 1)), (4, .int (107 + (3 * x3)))]) dX12_isSaid_204 rfl rfl (by decide) rfl rfl ?_
          refine bv_goto (tgt := 4) dX12_isSaid_207 (by decide) ?_
          refine bw_ls (ls1 := [(0, .ref x0), (1, .int x1), (2, .int x2), (3, .int (x3 + 1))]) [0, 1, 2, 3] rfl ?_
          exact ih _ _ _ _ h K0
def f_X12_isSaid (M : bm_M) (x0 : Nat) (x1 : Int32) : Option (Bool × bm_M) := ((f_X12_isSaid_l4 x0 x1 1000 0 0 M).bind fun y3 => (if bm_io x0 11 then ((y3.2.2 x0 43).bind fun a5 => (if bm_ia a5 3 0 = true then (if bm_bz (y3.1 a5 (0 : Int32).toNatClampNeg) = true then some (bm_ib (y3.1 a5 (0 : Int32).toNatClampNeg), y3) else none) else none)) else none))
set_option maxHeartbeats 4000000 in
set_option maxRecDepth 100000 in
theorem c_X12_isSaid {L : bm_L} {d n : Nat} {M : bm_M} {x0 : Nat} {x1 : Int32} {v : Bool × bm_M} (hN : 181 ≤ n) (h : f_X12_isSaid M x0 x1 = some v) : bm_C L m_X12_isSaid (d + 5) n n [.ref x0, .int x1] M (fun r M' => r = some (.int (bm_bi v.1)) ∧ M' = v.2) := by
  refine bm_C.ofV (by decide) (Nat.le_of_ble_eq_true rfl) ?_
  show bm_V L m_X12_isSaid (d + 5) n n n 0 [(0, .ref x0), (1, .int x1)] [] M _
  unfold f_X12_isSaid at h
  refine bv_iconst (v := 0) dX12_isSaid_0 (by decide) ?_
  refine bv_istore_n (ls1 := [(0, .ref x0), (1, .int x1), (2, .int 0)]) dX12_isSaid_1 (by decide) rfl rfl ?_
  refine bv_iconst (v := 0) dX12_isSaid_2 (by decide) ?_
  refine bv_istore_n (ls1 := [(0, .ref x0), (1, .int x1), (2, .int 0), (3, .int 0)]) dX12_isSaid_3 (by decide) rfl rfl ?_
  obtain ⟨r1, p2, h⟩ := bu_bd h
  refine v_X12_isSaid_l4 hN 1000 _ _ _ _ p2 (fun y3 hy => ?_)
  · subst hy
    refine bv_aload_n dX12_isSaid_210 0 rfl ?_
    obtain ⟨q4, h⟩ := bu_io h
    obtain ⟨a5, e6, h⟩ := bu_bd h
    refine bw_getA (a := a5) hN q4 e6 dX12_isSaid_211 fl_12_80 rfl ?_
    refine bv_iconst (v := 0) dX12_isSaid_214 (by decide) ?_
    obtain ⟨r7, h⟩ := bu_ia h
    refine bw_zald hN r7 dX12_isSaid_215 ?_
    obtain ⟨z8, h⟩ := bu_g h
    obtain rfl := Option.some.inj h
    exact bw_bretI z8 dX12_isSaid_216 rfl ⟨rfl, rfl⟩
def f_X12_said_l26 (x0 : Nat) (x1 : Int32) : Nat → Int32 → Int32 → bm_M → Option (((Int32 × bm_M) ⊕ (Int32 × bm_M)))
  | 0, _, _, _ => none
  | k + 1, x2, x3, M => ((M.2.2 x0 6).bind fun a1 => (if bm_ia a1 0 0 = true then (if (M.1 a1 (0 : Int32).toNatClampNeg) ≤ x3 then some (Sum.inr (x2, M)) else ((f_X12_isSaid M x0 x3).bind fun v4 => (if v4.1 = true then (if x2 = x1 then some (Sum.inl (x3, v4.2)) else f_X12_said_l26 x0 x1 k (x2 + 1) (x3 + 1) v4.2) else f_X12_said_l26 x0 x1 k x2 (x3 + 1) v4.2))) else none))
set_option maxHeartbeats 4000000 in
set_option maxRecDepth 100000 in
theorem v_X12_said_l26 {L : bm_L} {d n : Nat} {Q : Option Value → bm_M → Prop} {x0 : Nat} {x1 : Int32} (hN : 181 ≤ n) (q_0 : bm_OK x0 11) : ∀ (k : Nat) (x2 : Int32) (x3 : Int32) (M : bm_M) (r : ((Int32 × bm_M) ⊕ (Int32 × bm_M))), f_X12_said_l26 x0 x1 k x2 x3 M = some r → (∀ yy, (Sum.inl yy) = r → bm_V L m_X12_said (d + 6) n n n 52 [(3, .int yy.1)] [] yy.2 Q) → (∀ yy, (Sum.inr yy) = r → bm_V L m_X12_said (d + 6) n n n 63 [(1, .int x1), (2, .int yy.1)] [] yy.2 Q) → bm_V L m_X12_said (d + 6) n n n 26 [(0, .ref x0), (1, .int x1), (2, .int x2), (3, .int x3)] [] M Q := by
  intro k
  induction k with
  | zero => intro x2 x3 M r h; cases (show (none : Option (((Int32 × bm_M) ⊕ (Int32 × bm_M)))) = some r from h)
  | succ k ih =>
    intro x2 x3 M r h K0 K1
    unfold f_X12_said_l26 at h
    refine bv_iload_n dX12_said_26 3 rfl ?_
    refine bv_aload_n dX12_said_27 0 rfl ?_
    obtain ⟨a1, e2, h⟩ := bu_bd h
    refine bw_getA (a := a1) hN q_0 e2 dX12_said_28 fl_12_33 rfl ?_
    refine bv_iconst (v := 0) dX12_said_31 (by decide) ?_
    obtain ⟨r3, h⟩ := bu_ia h
    refine bw_iald hN r3 dX12_said_32 ?_
    refine bv_icmp_ge (tgt := 63) dX12_said_33 (by decide) (fun cc => ?_) (fun cc => ?_)
    · replace h := bu_t h cc
      refine bw_ls (ls1 := [(1, .int x1), (2, .int x2)]) [1, 2] rfl ?_
      obtain rfl := Option.some.inj h
      exact K1 _ rfl
    · replace h := bu_f h cc
      refine bv_aload_n dX12_said_36 0 rfl ?_
      refine bv_iload_n dX12_said_37 3 rfl ?_
      obtain ⟨v4, p5, h⟩ := bu_bd h
      refine bw_callV (As := [.int x3]) hN q_0 ⟨_, _, rfl⟩ dX12_said_38 mc_12_487 (c_X12_isSaid (d := d + 0) hN p5) rfl rfl (by decide) ?_
      refine bw_ifB_ne (b := v4.1) (tgt := 47) dX12_said_41 (by decide) (fun cc => ?_) (fun cc => ?_)
      · replace h := bu_bt h cc
        refine bv_iload_n dX12_said_47 2 rfl ?_
        refine bv_iload_n dX12_said_48 1 rfl ?_
        refine bv_icmp_ne (tgt := 54) dX12_said_49 (by decide) (fun cc => ?_) (fun cc => ?_)
        · replace h := bu_f h cc
          refine bv_iinc (j := 2) (v := (x2 + 1)) (ls1 := [(0, .ref x0), (1, .int x1), (2, .int (x2 + 1)), (3, .int x3)]) dX12_said_54 rfl rfl (by decide) rfl rfl ?_
          refine bv_iinc (j := 3) (v := (x3 + 1)) (ls1 := [(0, .ref x0), (1, .int x1), (2, .int (x2 + 1)), (3, .int (x3 + 1))]) dX12_said_57 rfl rfl (by decide) rfl rfl ?_
          refine bv_goto (tgt := 26) dX12_said_60 (by decide) ?_
          exact ih _ _ _ _ h K0 K1
        · replace h := bu_t h cc
          refine bw_ls (ls1 := [(3, .int x3)]) [3] rfl ?_
          obtain rfl := Option.some.inj h
          exact K0 _ rfl
      · replace h := bu_bf h cc
        refine bv_goto (tgt := 57) dX12_said_44 (by decide) ?_
        refine bv_iinc (j := 3) (v := (x3 + 1)) (ls1 := [(0, .ref x0), (1, .int x1), (2, .int x2), (3, .int (x3 + 1))]) dX12_said_57 rfl rfl (by decide) rfl rfl ?_
        refine bv_goto (tgt := 26) dX12_said_60 (by decide) ?_
        exact ih _ _ _ _ h K0 K1
def f_X12_said (M : bm_M) (x0 : Nat) (x1 : Int32) : Option (Int32 × bm_M) := (if bm_io x0 11 then ((M.2.2 x0 6).bind fun a2 => (if bm_ia a2 0 106 = true then (if ((bm_sI M x0 0 0).1 a2 (106 : Int32).toNatClampNeg) = 0 then some ((-1), (bm_sI M x0 0 0)) else (if (-1) ≤ x1 then ((f_X12_said_l26 x0 x1 1000 0 0 (bm_sI M x0 0 0)).bind fun rr => match rr with | (Sum.inl y7) => some (y7.1, y7.2) | (Sum.inr y7) => (if x1 = (-1) then some (y7.1, y7.2) else some ((-1), y7.2))) else some ((-1), (bm_sI M x0 0 0)))) else none)) else none)
set_option maxHeartbeats 4000000 in
set_option maxRecDepth 100000 in
theorem c_X12_said {L : bm_L} {d n : Nat} {M : bm_M} {x0 : Nat} {x1 : Int32} {v : Int32 × bm_M} (hN : 181 ≤ n) (h : f_X12_said M x0 x1 = some v) : bm_C L m_X12_said (d + 6) n n [.ref x0, .int x1] M (fun r M' => r = some (.int v.1) ∧ M' = v.2) := by
  refine bm_C.ofV (by decide) (Nat.le_of_ble_eq_true rfl) ?_
  show bm_V L m_X12_said (d + 6) n n n 0 [(0, .ref x0), (1, .int x1)] [] M _
  unfold f_X12_said at h
  refine bv_aload_n dX12_said_0 0 rfl ?_
  refine bv_iconst (v := 0) dX12_said_1 (by decide) ?_
  obtain ⟨q1, h⟩ := bu_io h
  refine bw_putI hN q1 dX12_said_2 fl_12_1 rfl ?_
  refine bv_aload_n dX12_said_5 0 rfl ?_
  obtain ⟨a2, e3, h⟩ := bu_bd h
  refine bw_getA (a := a2) hN q1 e3 dX12_said_6 fl_12_33 rfl ?_
  refine bv_bipush (v := 106) dX12_said_9 (by decide) ?_
  obtain ⟨r4, h⟩ := bu_ia h
  refine bw_iald hN r4 dX12_said_11 ?_
  refine bv_if_eq (tgt := 20) dX12_said_12 (by decide) (fun cc => ?_) (fun cc => ?_)
  · replace h := bu_t h cc
    refine bv_iconst (v := (-1)) dX12_said_20 (by decide) ?_
    obtain rfl := Option.some.inj h
    exact bv_iret (x := (-1)) dX12_said_21 rfl ⟨rfl, rfl⟩
  · replace h := bu_f h cc
    refine bv_iload_n dX12_said_15 1 rfl ?_
    refine bv_iconst (v := (-1)) dX12_said_16 (by decide) ?_
    refine bv_icmp_ge (tgt := 22) dX12_said_17 (by decide) (fun cc => ?_) (fun cc => ?_)
    · replace h := bu_t h cc
      refine bv_iconst (v := 0) dX12_said_22 (by decide) ?_
      refine bv_istore_n (ls1 := [(0, .ref x0), (1, .int x1), (2, .int 0)]) dX12_said_23 (by decide) rfl rfl ?_
      refine bv_iconst (v := 0) dX12_said_24 (by decide) ?_
      refine bv_istore_n (ls1 := [(0, .ref x0), (1, .int x1), (2, .int 0), (3, .int 0)]) dX12_said_25 (by decide) rfl rfl ?_
      obtain ⟨r5, p6, h⟩ := bu_bd h
      refine v_X12_said_l26 hN q1 1000 _ _ _ _ p6 (fun y7 hy => ?_) (fun y7 hy => ?_)
      · subst hy
        refine bv_iload_n dX12_said_52 0 rfl ?_
        obtain rfl := Option.some.inj h
        exact bv_iret (x := y7.1) dX12_said_53 rfl ⟨rfl, rfl⟩
      · subst hy
        refine bv_iload_n dX12_said_63 0 rfl ?_
        refine bv_iconst (v := (-1)) dX12_said_64 (by decide) ?_
        refine bv_icmp_ne (tgt := 72) dX12_said_65 (by decide) (fun cc => ?_) (fun cc => ?_)
        · replace h := bu_f h cc
          refine bv_iconst (v := (-1)) dX12_said_72 (by decide) ?_
          obtain rfl := Option.some.inj h
          exact bv_iret (x := (-1)) dX12_said_73 rfl ⟨rfl, rfl⟩
        · replace h := bu_t h cc
          refine bv_iload_n dX12_said_68 1 rfl ?_
          refine bv_goto (tgt := 73) dX12_said_69 (by decide) ?_
          obtain rfl := Option.some.inj h
          exact bv_iret (x := y7.1) dX12_said_73 rfl ⟨rfl, rfl⟩
    · replace h := bu_f h cc
      refine bv_iconst (v := (-1)) dX12_said_20 (by decide) ?_
      obtain rfl := Option.some.inj h
      exact bv_iret (x := (-1)) dX12_said_21 rfl ⟨rfl, rfl⟩
def f_X12_image_l18 (x0 : Nat) (x1 : Int32) : Nat → Int32 → bm_M → Option (bm_M)
  | 0, _, _ => none
  | k + 1, x2, M => (if 287 ≤ x2 then some M else ((M.2.2 x0 44).bind fun a1 => ((M.2.2 x0 6).bind fun a3 => (if bm_ia a3 0 x2 = true then (if bm_ia a1 0 ((287 * x1) + x2) = true then f_X12_image_l18 x0 x1 k (x2 + 1) (bm_sI M a1 ((287 * x1) + x2).toNatClampNeg (M.1 a3 x2.toNatClampNeg)) else none) else none))))
set_option maxHeartbeats 4000000 in
set_option maxRecDepth 100000 in
theorem v_X12_image_l18 {L : bm_L} {d n : Nat} {Q : Option Value → bm_M → Prop} {x0 : Nat} {x1 : Int32} (hN : 181 ≤ n) (q_0 : bm_OK x0 11) : ∀ (k : Nat) (x2 : Int32) (M : bm_M) (r : bm_M), f_X12_image_l18 x0 x1 k x2 M = some r → (∀ yy, yy = r → bm_V L m_X12_image (d + 1) n n n 49 [(0, .ref x0), (1, .int x1)] [] yy Q) → bm_V L m_X12_image (d + 1) n n n 18 [(0, .ref x0), (1, .int x1), (2, .int x2)] [] M Q := by
  intro k
  induction k with
  | zero => intro x2 M r h; cases (show (none : Option (bm_M)) = some r from h)
  | succ k ih =>
    intro x2 M r h K0
    unfold f_X12_image_l18 at h
    refine bv_iload_n dX12_image_18 2 rfl ?_
    refine bv_sipush (v := 287) dX12_image_19 (by decide) ?_
    refine bv_icmp_ge (tgt := 49) dX12_image_22 (by decide) (fun cc => ?_) (fun cc => ?_)
    · replace h := bu_t h cc
      refine bw_ls (ls1 := [(0, .ref x0), (1, .int x1)]) [0, 1] rfl ?_
      obtain rfl := Option.some.inj h
      exact K0 _ rfl
    · replace h := bu_f h cc
      refine bv_aload_n dX12_image_25 0 rfl ?_
      obtain ⟨a1, e2, h⟩ := bu_bd h
      refine bw_getA (a := a1) hN q_0 e2 dX12_image_26 fl_12_84 rfl ?_
      refine bv_sipush (v := 287) dX12_image_29 (by decide) ?_
      refine bv_iload_n dX12_image_32 1 rfl ?_
      refine bv_imul dX12_image_33 ?_
      refine bv_iload_n dX12_image_34 2 rfl ?_
      refine bv_iadd dX12_image_35 ?_
      refine bv_aload_n dX12_image_36 0 rfl ?_
      obtain ⟨a3, e4, h⟩ := bu_bd h
      refine bw_getA (a := a3) hN q_0 e4 dX12_image_37 fl_12_33 rfl ?_
      refine bv_iload_n dX12_image_40 2 rfl ?_
      obtain ⟨r5, h⟩ := bu_ia h
      refine bw_iald hN r5 dX12_image_41 ?_
      obtain ⟨r6, h⟩ := bu_ia h
      refine bw_iast hN r6 dX12_image_42 ?_
      refine bv_iinc (j := 2) (v := (x2 + 1)) (ls1 := [(0, .ref x0), (1, .int x1), (2, .int (x2 + 1))]) dX12_image_43 rfl rfl (by decide) rfl rfl ?_
      refine bv_goto (tgt := 18) dX12_image_46 (by decide) ?_
      exact ih _ _ _ h K0
def f_X12_image_l51 (x0 : Nat) (x1 : Int32) : Nat → Int32 → bm_M → Option (bm_M)
  | 0, _, _ => none
  | k + 1, x2, M => (if 15 ≤ x2 then some M else ((M.2.2 x0 45).bind fun a1 => ((M.2.2 x0 9).bind fun a3 => (if bm_ia a3 2 x2 = true then (if bm_ia a1 2 ((15 * x1) + x2) = true then f_X12_image_l51 x0 x1 k (x2 + 1) (bm_sL M a1 ((15 * x1) + x2).toNatClampNeg (M.2.1 a3 x2.toNatClampNeg)) else none) else none))))
set_option maxHeartbeats 4000000 in
set_option maxRecDepth 100000 in
theorem v_X12_image_l51 {L : bm_L} {d n : Nat} {Q : Option Value → bm_M → Prop} {x0 : Nat} {x1 : Int32} (hN : 181 ≤ n) (q_0 : bm_OK x0 11) : ∀ (k : Nat) (x2 : Int32) (M : bm_M) (r : bm_M), f_X12_image_l51 x0 x1 k x2 M = some r → (∀ yy, yy = r → bm_V L m_X12_image (d + 1) n n n 80 [(0, .ref x0), (1, .int x1)] [] yy Q) → bm_V L m_X12_image (d + 1) n n n 51 [(0, .ref x0), (1, .int x1), (2, .int x2)] [] M Q := by
  intro k
  induction k with
  | zero => intro x2 M r h; cases (show (none : Option (bm_M)) = some r from h)
  | succ k ih =>
    intro x2 M r h K0
    unfold f_X12_image_l51 at h
    refine bv_iload_n dX12_image_51 2 rfl ?_
    refine bv_bipush (v := 15) dX12_image_52 (by decide) ?_
    refine bv_icmp_ge (tgt := 80) dX12_image_54 (by decide) (fun cc => ?_) (fun cc => ?_)
    · replace h := bu_t h cc
      refine bw_ls (ls1 := [(0, .ref x0), (1, .int x1)]) [0, 1] rfl ?_
      obtain rfl := Option.some.inj h
      exact K0 _ rfl
    · replace h := bu_f h cc
      refine bv_aload_n dX12_image_57 0 rfl ?_
      obtain ⟨a1, e2, h⟩ := bu_bd h
      refine bw_getA (a := a1) hN q_0 e2 dX12_image_58 fl_12_87 rfl ?_
      refine bv_bipush (v := 15) dX12_image_61 (by decide) ?_
      refine bv_iload_n dX12_image_63 1 rfl ?_
      refine bv_imul dX12_image_64 ?_
      refine bv_iload_n dX12_image_65 2 rfl ?_
      refine bv_iadd dX12_image_66 ?_
      refine bv_aload_n dX12_image_67 0 rfl ?_
      obtain ⟨a3, e4, h⟩ := bu_bd h
      refine bw_getA (a := a3) hN q_0 e4 dX12_image_68 fl_12_43 rfl ?_
      refine bv_iload_n dX12_image_71 2 rfl ?_
      obtain ⟨r5, h⟩ := bu_ia h
      refine bw_lald hN r5 dX12_image_72 ?_
      obtain ⟨r6, h⟩ := bu_ia h
      refine bw_last hN r6 dX12_image_73 ?_
      refine bv_iinc (j := 2) (v := (x2 + 1)) (ls1 := [(0, .ref x0), (1, .int x1), (2, .int (x2 + 1))]) dX12_image_74 rfl rfl (by decide) rfl rfl ?_
      refine bv_goto (tgt := 51) dX12_image_77 (by decide) ?_
      exact ih _ _ _ h K0
def f_X12_image (M : bm_M) (x0 : Nat) (x1 : Int32) : Option (Bool × bm_M) := (if bm_io x0 11 then (if (f_X12_isIn x1 0 1) = true then ((f_X12_image_l18 x0 x1 1000 0 (bm_sI M x0 0 0)).bind fun y4 => ((f_X12_image_l51 x0 x1 1000 0 y4).bind fun y7 => ((y7.2.2 x0 46).bind fun a8 => (if bm_ia a8 3 x1 = true then some (true, (bm_sI y7 a8 x1.toNatClampNeg (vp_nar .boolean 1))) else none)))) else some (false, (bm_sI M x0 0 0))) else none)
set_option maxHeartbeats 4000000 in
set_option maxRecDepth 100000 in
theorem c_X12_image {L : bm_L} {d n : Nat} {M : bm_M} {x0 : Nat} {x1 : Int32} {v : Bool × bm_M} (hN : 181 ≤ n) (h : f_X12_image M x0 x1 = some v) : bm_C L m_X12_image (d + 1) n n [.ref x0, .int x1] M (fun r M' => r = some (.int (bm_bi v.1)) ∧ M' = v.2) := by
  refine bm_C.ofV (by decide) (Nat.le_of_ble_eq_true rfl) ?_
  show bm_V L m_X12_image (d + 1) n n n 0 [(0, .ref x0), (1, .int x1)] [] M _
  unfold f_X12_image at h
  refine bv_aload_n dX12_image_0 0 rfl ?_
  refine bv_iconst (v := 0) dX12_image_1 (by decide) ?_
  obtain ⟨q1, h⟩ := bu_io h
  refine bw_putI hN q1 dX12_image_2 fl_12_1 rfl ?_
  refine bv_iload_n dX12_image_5 1 rfl ?_
  refine bv_iconst (v := 0) dX12_image_6 (by decide) ?_
  refine bv_iconst (v := 1) dX12_image_7 (by decide) ?_
  refine bw_callS (As := [.int x1, .int 0, .int 1]) dX12_image_8 mc_12_206 (c_X12_isIn (d := d + 0) hN rfl) rfl rfl (by decide) ?_
  refine bw_ifB_ne (b := (f_X12_isIn x1 0 1)) (tgt := 16) dX12_image_11 (by decide) (fun cc => ?_) (fun cc => ?_)
  · replace h := bu_bt h cc
    refine bv_iconst (v := 0) dX12_image_16 (by decide) ?_
    refine bv_istore_n (ls1 := [(0, .ref x0), (1, .int x1), (2, .int 0)]) dX12_image_17 (by decide) rfl rfl ?_
    obtain ⟨r2, p3, h⟩ := bu_bd h
    refine v_X12_image_l18 hN q1 1000 _ _ _ p3 (fun y4 hy => ?_)
    · subst hy
      refine bv_iconst (v := 0) dX12_image_49 (by decide) ?_
      refine bv_istore_n (ls1 := [(0, .ref x0), (1, .int x1), (2, .int 0)]) dX12_image_50 (by decide) rfl rfl ?_
      obtain ⟨r5, p6, h⟩ := bu_bd h
      refine v_X12_image_l51 hN q1 1000 _ _ _ p6 (fun y7 hy => ?_)
      · subst hy
        refine bv_aload_n dX12_image_80 0 rfl ?_
        obtain ⟨a8, e9, h⟩ := bu_bd h
        refine bw_getA (a := a8) hN q1 e9 dX12_image_81 fl_12_90 rfl ?_
        refine bv_iload_n dX12_image_84 1 rfl ?_
        refine bv_iconst (v := 1) dX12_image_85 (by decide) ?_
        obtain ⟨r10, h⟩ := bu_ia h
        refine bw_zast hN r10 dX12_image_86 ?_
        refine bv_iconst (v := 1) dX12_image_87 (by decide) ?_
        obtain rfl := Option.some.inj h
        exact bw_bret (b := true) dX12_image_88 rfl ⟨rfl, rfl⟩
  · replace h := bu_bf h cc
    refine bv_iconst (v := 0) dX12_image_14 (by decide) ?_
    obtain rfl := Option.some.inj h
    exact bw_bret (b := false) dX12_image_15 rfl ⟨rfl, rfl⟩
def f_X12_restore_l27 (x0 : Nat) (x1 : Int32) : Nat → Int32 → bm_M → Option (bm_M)
  | 0, _, _ => none
  | k + 1, x2, M => (if 287 ≤ x2 then some M else ((M.2.2 x0 6).bind fun a1 => ((M.2.2 x0 44).bind fun a3 => (if bm_ia a3 0 ((287 * x1) + x2) = true then (if bm_ia a1 0 x2 = true then f_X12_restore_l27 x0 x1 k (x2 + 1) (bm_sI M a1 x2.toNatClampNeg (M.1 a3 ((287 * x1) + x2).toNatClampNeg)) else none) else none))))
set_option maxHeartbeats 4000000 in
set_option maxRecDepth 100000 in
theorem v_X12_restore_l27 {L : bm_L} {d n : Nat} {Q : Option Value → bm_M → Prop} {x0 : Nat} {x1 : Int32} (hN : 181 ≤ n) (q_0 : bm_OK x0 11) : ∀ (k : Nat) (x2 : Int32) (M : bm_M) (r : bm_M), f_X12_restore_l27 x0 x1 k x2 M = some r → (∀ yy, yy = r → bm_V L m_X12_restore (d + 1) n n n 58 [(0, .ref x0), (1, .int x1)] [] yy Q) → bm_V L m_X12_restore (d + 1) n n n 27 [(0, .ref x0), (1, .int x1), (2, .int x2)] [] M Q := by
  intro k
  induction k with
  | zero => intro x2 M r h; cases (show (none : Option (bm_M)) = some r from h)
  | succ k ih =>
    intro x2 M r h K0
    unfold f_X12_restore_l27 at h
    refine bv_iload_n dX12_restore_27 2 rfl ?_
    refine bv_sipush (v := 287) dX12_restore_28 (by decide) ?_
    refine bv_icmp_ge (tgt := 58) dX12_restore_31 (by decide) (fun cc => ?_) (fun cc => ?_)
    · replace h := bu_t h cc
      refine bw_ls (ls1 := [(0, .ref x0), (1, .int x1)]) [0, 1] rfl ?_
      obtain rfl := Option.some.inj h
      exact K0 _ rfl
    · replace h := bu_f h cc
      refine bv_aload_n dX12_restore_34 0 rfl ?_
      obtain ⟨a1, e2, h⟩ := bu_bd h
      refine bw_getA (a := a1) hN q_0 e2 dX12_restore_35 fl_12_33 rfl ?_
      refine bv_iload_n dX12_restore_38 2 rfl ?_
      refine bv_aload_n dX12_restore_39 0 rfl ?_
      obtain ⟨a3, e4, h⟩ := bu_bd h
      refine bw_getA (a := a3) hN q_0 e4 dX12_restore_40 fl_12_84 rfl ?_
      refine bv_sipush (v := 287) dX12_restore_43 (by decide) ?_
      refine bv_iload_n dX12_restore_46 1 rfl ?_
      refine bv_imul dX12_restore_47 ?_
      refine bv_iload_n dX12_restore_48 2 rfl ?_
      refine bv_iadd dX12_restore_49 ?_
      obtain ⟨r5, h⟩ := bu_ia h
      refine bw_iald hN r5 dX12_restore_50 ?_
      obtain ⟨r6, h⟩ := bu_ia h
      refine bw_iast hN r6 dX12_restore_51 ?_
      refine bv_iinc (j := 2) (v := (x2 + 1)) (ls1 := [(0, .ref x0), (1, .int x1), (2, .int (x2 + 1))]) dX12_restore_52 rfl rfl (by decide) rfl rfl ?_
      refine bv_goto (tgt := 27) dX12_restore_55 (by decide) ?_
      exact ih _ _ _ h K0
def f_X12_restore_l60 (x0 : Nat) (x1 : Int32) : Nat → Int32 → bm_M → Option (bm_M)
  | 0, _, _ => none
  | k + 1, x2, M => (if 15 ≤ x2 then some M else ((M.2.2 x0 9).bind fun a1 => ((M.2.2 x0 45).bind fun a3 => (if bm_ia a3 2 ((15 * x1) + x2) = true then (if bm_ia a1 2 x2 = true then f_X12_restore_l60 x0 x1 k (x2 + 1) (bm_sL M a1 x2.toNatClampNeg (M.2.1 a3 ((15 * x1) + x2).toNatClampNeg)) else none) else none))))
set_option maxHeartbeats 4000000 in
set_option maxRecDepth 100000 in
theorem v_X12_restore_l60 {L : bm_L} {d n : Nat} {Q : Option Value → bm_M → Prop} {x0 : Nat} {x1 : Int32} (hN : 181 ≤ n) (q_0 : bm_OK x0 11) : ∀ (k : Nat) (x2 : Int32) (M : bm_M) (r : bm_M), f_X12_restore_l60 x0 x1 k x2 M = some r → (∀ yy, yy = r → bm_V L m_X12_restore (d + 1) n n n 89 [(0, .ref x0)] [] yy Q) → bm_V L m_X12_restore (d + 1) n n n 60 [(0, .ref x0), (1, .int x1), (2, .int x2)] [] M Q := by
  intro k
  induction k with
  | zero => intro x2 M r h; cases (show (none : Option (bm_M)) = some r from h)
  | succ k ih =>
    intro x2 M r h K0
    unfold f_X12_restore_l60 at h
    refine bv_iload_n dX12_restore_60 2 rfl ?_
    refine bv_bipush (v := 15) dX12_restore_61 (by decide) ?_
    refine bv_icmp_ge (tgt := 89) dX12_restore_63 (by decide) (fun cc => ?_) (fun cc => ?_)
    · replace h := bu_t h cc
      refine bw_ls (ls1 := [(0, .ref x0)]) [0] rfl ?_
      obtain rfl := Option.some.inj h
      exact K0 _ rfl
    · replace h := bu_f h cc
      refine bv_aload_n dX12_restore_66 0 rfl ?_
      obtain ⟨a1, e2, h⟩ := bu_bd h
      refine bw_getA (a := a1) hN q_0 e2 dX12_restore_67 fl_12_43 rfl ?_
      refine bv_iload_n dX12_restore_70 2 rfl ?_
      refine bv_aload_n dX12_restore_71 0 rfl ?_
      obtain ⟨a3, e4, h⟩ := bu_bd h
      refine bw_getA (a := a3) hN q_0 e4 dX12_restore_72 fl_12_87 rfl ?_
      refine bv_bipush (v := 15) dX12_restore_75 (by decide) ?_
      refine bv_iload_n dX12_restore_77 1 rfl ?_
      refine bv_imul dX12_restore_78 ?_
      refine bv_iload_n dX12_restore_79 2 rfl ?_
      refine bv_iadd dX12_restore_80 ?_
      obtain ⟨r5, h⟩ := bu_ia h
      refine bw_lald hN r5 dX12_restore_81 ?_
      obtain ⟨r6, h⟩ := bu_ia h
      refine bw_last hN r6 dX12_restore_82 ?_
      refine bv_iinc (j := 2) (v := (x2 + 1)) (ls1 := [(0, .ref x0), (1, .int x1), (2, .int (x2 + 1))]) dX12_restore_83 rfl rfl (by decide) rfl rfl ?_
      refine bv_goto (tgt := 60) dX12_restore_86 (by decide) ?_
      exact ih _ _ _ h K0
def f_X12_restore (M : bm_M) (x0 : Nat) (x1 : Int32) : Option (Bool × bm_M) := (if bm_io x0 11 then (if (f_X12_isIn x1 0 1) = true then ((M.2.2 x0 46).bind fun a2 => (if bm_ia a2 3 x1 = true then (if ((bm_sI M x0 0 0).1 a2 x1.toNatClampNeg) = 0 then some (false, (bm_sI M x0 0 0)) else ((f_X12_restore_l27 x0 x1 1000 0 (bm_sI M x0 0 0)).bind fun y7 => ((f_X12_restore_l60 x0 x1 1000 0 y7).bind fun y10 => some (true, (bm_sI y10 x0 24 0))))) else none)) else some (false, (bm_sI M x0 0 0))) else none)
set_option maxHeartbeats 4000000 in
set_option maxRecDepth 100000 in
theorem c_X12_restore {L : bm_L} {d n : Nat} {M : bm_M} {x0 : Nat} {x1 : Int32} {v : Bool × bm_M} (hN : 181 ≤ n) (h : f_X12_restore M x0 x1 = some v) : bm_C L m_X12_restore (d + 1) n n [.ref x0, .int x1] M (fun r M' => r = some (.int (bm_bi v.1)) ∧ M' = v.2) := by
  refine bm_C.ofV (by decide) (Nat.le_of_ble_eq_true rfl) ?_
  show bm_V L m_X12_restore (d + 1) n n n 0 [(0, .ref x0), (1, .int x1)] [] M _
  unfold f_X12_restore at h
  refine bv_aload_n dX12_restore_0 0 rfl ?_
  refine bv_iconst (v := 0) dX12_restore_1 (by decide) ?_
  obtain ⟨q1, h⟩ := bu_io h
  refine bw_putI hN q1 dX12_restore_2 fl_12_1 rfl ?_
  refine bv_iload_n dX12_restore_5 1 rfl ?_
  refine bv_iconst (v := 0) dX12_restore_6 (by decide) ?_
  refine bv_iconst (v := 1) dX12_restore_7 (by decide) ?_
  refine bw_callS (As := [.int x1, .int 0, .int 1]) dX12_restore_8 mc_12_206 (c_X12_isIn (d := d + 0) hN rfl) rfl rfl (by decide) ?_
  refine bw_ifB_eq (b := (f_X12_isIn x1 0 1)) (tgt := 23) dX12_restore_11 (by decide) (fun cc => ?_) (fun cc => ?_)
  · replace h := bu_bf h cc
    refine bv_iconst (v := 0) dX12_restore_23 (by decide) ?_
    obtain rfl := Option.some.inj h
    exact bw_bret (b := false) dX12_restore_24 rfl ⟨rfl, rfl⟩
  · replace h := bu_bt h cc
    refine bv_aload_n dX12_restore_14 0 rfl ?_
    obtain ⟨a2, e3, h⟩ := bu_bd h
    refine bw_getA (a := a2) hN q1 e3 dX12_restore_15 fl_12_90 rfl ?_
    refine bv_iload_n dX12_restore_18 1 rfl ?_
    obtain ⟨r4, h⟩ := bu_ia h
    refine bw_zald hN r4 dX12_restore_19 ?_
    refine bv_if_ne (tgt := 25) dX12_restore_20 (by decide) (fun cc => ?_) (fun cc => ?_)
    · replace h := bu_f h cc
      refine bv_iconst (v := 0) dX12_restore_25 (by decide) ?_
      refine bv_istore_n (ls1 := [(0, .ref x0), (1, .int x1), (2, .int 0)]) dX12_restore_26 (by decide) rfl rfl ?_
      obtain ⟨r5, p6, h⟩ := bu_bd h
      refine v_X12_restore_l27 hN q1 1000 _ _ _ p6 (fun y7 hy => ?_)
      · subst hy
        refine bv_iconst (v := 0) dX12_restore_58 (by decide) ?_
        refine bv_istore_n (ls1 := [(0, .ref x0), (1, .int x1), (2, .int 0)]) dX12_restore_59 (by decide) rfl rfl ?_
        obtain ⟨r8, p9, h⟩ := bu_bd h
        refine v_X12_restore_l60 hN q1 1000 _ _ _ p9 (fun y10 hy => ?_)
        · subst hy
          refine bv_aload_n dX12_restore_89 0 rfl ?_
          refine bv_iconst (v := 0) dX12_restore_90 (by decide) ?_
          refine bw_putI hN q1 dX12_restore_91 fl_12_276 rfl ?_
          refine bv_iconst (v := 1) dX12_restore_94 (by decide) ?_
          obtain rfl := Option.some.inj h
          exact bw_bret (b := true) dX12_restore_95 rfl ⟨rfl, rfl⟩
    · replace h := bu_t h cc
      refine bv_iconst (v := 0) dX12_restore_23 (by decide) ?_
      obtain rfl := Option.some.inj h
      exact bw_bret (b := false) dX12_restore_24 rfl ⟨rfl, rfl⟩
def f_X12_count (M : bm_M) (x0 : Nat) (x1 : Int32) : Option (Int32 × bm_M) := (if bm_io x0 11 then (if x1 = 5 then some (((bm_sI M x0 0 0).1 x0 2), (bm_sI M x0 0 0)) else (if (f_X12_isIn x1 0 4) = true then ((M.2.2 x0 6).bind fun a2 => (if bm_ia a2 0 x1 = true then some (((bm_sI M x0 0 0).1 a2 x1.toNatClampNeg), (bm_sI M x0 0 0)) else none)) else some ((-1), (bm_sI M x0 0 0)))) else none)
set_option maxHeartbeats 4000000 in
set_option maxRecDepth 100000 in
theorem c_X12_count {L : bm_L} {d n : Nat} {M : bm_M} {x0 : Nat} {x1 : Int32} {v : Int32 × bm_M} (hN : 181 ≤ n) (h : f_X12_count M x0 x1 = some v) : bm_C L m_X12_count (d + 1) n n [.ref x0, .int x1] M (fun r M' => r = some (.int v.1) ∧ M' = v.2) := by
  refine bm_C.ofV (by decide) (Nat.le_of_ble_eq_true rfl) ?_
  show bm_V L m_X12_count (d + 1) n n n 0 [(0, .ref x0), (1, .int x1)] [] M _
  unfold f_X12_count at h
  refine bv_aload_n dX12_count_0 0 rfl ?_
  refine bv_iconst (v := 0) dX12_count_1 (by decide) ?_
  obtain ⟨q1, h⟩ := bu_io h
  refine bw_putI hN q1 dX12_count_2 fl_12_1 rfl ?_
  refine bv_iload_n dX12_count_5 1 rfl ?_
  refine bv_iconst (v := 5) dX12_count_6 (by decide) ?_
  refine bv_icmp_ne (tgt := 17) dX12_count_7 (by decide) (fun cc => ?_) (fun cc => ?_)
  · replace h := bu_f h cc
    refine bv_iload_n dX12_count_17 1 rfl ?_
    refine bv_iconst (v := 0) dX12_count_18 (by decide) ?_
    refine bv_iconst (v := 4) dX12_count_19 (by decide) ?_
    refine bw_callS (As := [.int x1, .int 0, .int 4]) dX12_count_20 mc_12_206 (c_X12_isIn (d := d + 0) hN rfl) rfl rfl (by decide) ?_
    refine bw_ifB_eq (b := (f_X12_isIn x1 0 4)) (tgt := 35) dX12_count_23 (by decide) (fun cc => ?_) (fun cc => ?_)
    · replace h := bu_bf h cc
      refine bv_iconst (v := (-1)) dX12_count_35 (by decide) ?_
      obtain rfl := Option.some.inj h
      exact bv_iret (x := (-1)) dX12_count_36 rfl ⟨rfl, rfl⟩
    · replace h := bu_bt h cc
      refine bv_aload_n dX12_count_26 0 rfl ?_
      obtain ⟨a2, e3, h⟩ := bu_bd h
      refine bw_getA (a := a2) hN q1 e3 dX12_count_27 fl_12_33 rfl ?_
      refine bv_iload_n dX12_count_30 1 rfl ?_
      obtain ⟨r4, h⟩ := bu_ia h
      refine bw_iald hN r4 dX12_count_31 ?_
      refine bv_goto (tgt := 36) dX12_count_32 (by decide) ?_
      obtain rfl := Option.some.inj h
      exact bv_iret (x := ((bm_sI M x0 0 0).1 a2 x1.toNatClampNeg)) dX12_count_36 rfl ⟨rfl, rfl⟩
  · replace h := bu_t h cc
    refine bv_aload_n dX12_count_10 0 rfl ?_
    refine bw_getI hN q1 dX12_count_11 fl_12_7 rfl ?_
    refine bv_goto (tgt := 36) dX12_count_14 (by decide) ?_
    obtain rfl := Option.some.inj h
    exact bv_iret (x := ((bm_sI M x0 0 0).1 x0 2)) dX12_count_36 rfl ⟨rfl, rfl⟩
