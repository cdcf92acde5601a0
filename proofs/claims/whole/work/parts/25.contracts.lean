def f_X12_lifts_l9 (x0 : Nat) (x2 : Int32) (x3 : Int32) : Nat → Int32 → bm_M → Option (bm_M)
  | 0, _, _ => none
  | k + 1, x4, M => ((M.2.2 x0 6).bind fun a1 => (if bm_ia a1 0 0 = true then (if (M.1 a1 (0 : Int32).toNatClampNeg) ≤ x4 then some M else (if (f_X12_bitOf x3 x4) = true then ((f_X12_hears M x0 x4 x2).bind fun v4 => f_X12_lifts_l9 x0 x2 x3 k (x4 + 1) v4) else f_X12_lifts_l9 x0 x2 x3 k (x4 + 1) M)) else none))
set_option maxHeartbeats 4000000 in
set_option maxRecDepth 100000 in
theorem v_X12_lifts_l9 {L : bm_L} {d n : Nat} {Q : Option Value → bm_M → Prop} {x0 : Nat} {x2 : Int32} {x3 : Int32} (hN : 181 ≤ n) (q_0 : bm_OK x0 11) : ∀ (k : Nat) (x4 : Int32) (M : bm_M) (r : bm_M), f_X12_lifts_l9 x0 x2 x3 k x4 M = some r → (∀ yy, yy = r → bm_V L m_X12_lifts (d + 6) n n n 42 [(0, .ref x0)] [] yy Q) → bm_V L m_X12_lifts (d + 6) n n n 9 [(0, .ref x0), (2, .int x2), (3, .int x3), (4, .int x4)] [] M Q := by
  intro k
  induction k with
  | zero => intro x4 M r h; cases (show (none : Option (bm_M)) = some r from h)
  | succ k ih =>
    intro x4 M r h K0
    unfold f_X12_lifts_l9 at h
    refine bv_iload dX12_lifts_9 3 rfl ?_
    refine bv_aload_n dX12_lifts_11 0 rfl ?_
    obtain ⟨a1, e2, h⟩ := bu_bd h
    refine bw_getA (a := a1) hN q_0 e2 dX12_lifts_12 fl_12_33 rfl ?_
    refine bv_iconst (v := 0) dX12_lifts_15 (by decide) ?_
    obtain ⟨r3, h⟩ := bu_ia h
    refine bw_iald hN r3 dX12_lifts_16 ?_
    refine bv_icmp_ge (tgt := 42) dX12_lifts_17 (by decide) (fun cc => ?_) (fun cc => ?_)
    · replace h := bu_t h cc
      refine bw_ls (ls1 := [(0, .ref x0)]) [0] rfl ?_
      obtain rfl := Option.some.inj h
      exact K0 _ rfl
    · replace h := bu_f h cc
      refine bv_iload_n dX12_lifts_20 2 rfl ?_
      refine bv_iload dX12_lifts_21 3 rfl ?_
      refine bw_callS (As := [.int x3, .int x4]) dX12_lifts_23 mc_12_231 (c_X12_bitOf (d := d + 5) hN rfl) rfl rfl (by decide) ?_
      refine bw_ifB_eq (b := (f_X12_bitOf x3 x4)) (tgt := 36) dX12_lifts_26 (by decide) (fun cc => ?_) (fun cc => ?_)
      · replace h := bu_bf h cc
        refine bv_iinc (j := 3) (v := (x4 + 1)) (ls1 := [(0, .ref x0), (2, .int x2), (3, .int x3), (4, .int (x4 + 1))]) dX12_lifts_36 rfl rfl (by decide) rfl rfl ?_
        refine bv_goto (tgt := 9) dX12_lifts_39 (by decide) ?_
        exact ih _ _ _ h K0
      · replace h := bu_bt h cc
        refine bv_aload_n dX12_lifts_29 0 rfl ?_
        refine bv_iload dX12_lifts_30 3 rfl ?_
        refine bv_iload_n dX12_lifts_32 1 rfl ?_
        obtain ⟨v4, p5, h⟩ := bu_bd h
        refine bw_callVv (As := [.int x4, .int x2]) hN q_0 ⟨_, _, rfl⟩ dX12_lifts_33 mc_12_325 (c_X12_hears (d := d + 4) hN p5) rfl rfl (by decide) ?_
        refine bv_iinc (j := 3) (v := (x4 + 1)) (ls1 := [(0, .ref x0), (2, .int x2), (3, .int x3), (4, .int (x4 + 1))]) dX12_lifts_36 rfl rfl (by decide) rfl rfl ?_
        refine bv_goto (tgt := 9) dX12_lifts_39 (by decide) ?_
        exact ih _ _ _ h K0
def f_X12_lifts (M : bm_M) (x0 : Nat) (x1 : Int32) (x2 : Int32) : Option (bm_M) := (if bm_io x0 11 then ((f_X12_readersOf M x0 x1).bind fun v2 => ((f_X12_lifts_l9 x0 x2 v2 1000 0 M).bind fun y6 => ((y6.2.2 x0 6).bind fun a7 => (if bm_ia a7 0 62 = true then some (bm_sI y6 a7 (62 : Int32).toNatClampNeg ((y6.1 a7 (62 : Int32).toNatClampNeg) + 1)) else none)))) else none)
set_option maxHeartbeats 4000000 in
set_option maxRecDepth 100000 in
theorem c_X12_lifts {L : bm_L} {d n : Nat} {M : bm_M} {x0 : Nat} {x1 : Int32} {x2 : Int32} {v : bm_M} (hN : 181 ≤ n) (h : f_X12_lifts M x0 x1 x2 = some v) : bm_C L m_X12_lifts (d + 6) n n [.ref x0, .int x1, .int x2] M (fun r M' => r = none ∧ M' = v) := by
  refine bm_C.ofV (by decide) (Nat.le_of_ble_eq_true rfl) ?_
  show bm_V L m_X12_lifts (d + 6) n n n 0 [(0, .ref x0), (1, .int x1), (2, .int x2)] [] M _
  unfold f_X12_lifts at h
  refine bv_aload_n dX12_lifts_0 0 rfl ?_
  refine bv_iload_n dX12_lifts_1 1 rfl ?_
  obtain ⟨q1, h⟩ := bu_io h
  obtain ⟨v2, p3, h⟩ := bu_bd h
  refine bw_callV (As := [.int x1]) hN q1 ⟨_, _, rfl⟩ dX12_lifts_2 mc_12_322 (c_X12_readersOf (d := d + 0) hN p3) rfl rfl (by decide) ?_
  refine bv_istore_n (ls1 := [(0, .ref x0), (1, .int x1), (2, .int x2), (3, .int v2)]) dX12_lifts_5 (by decide) rfl rfl ?_
  refine bv_iconst (v := 0) dX12_lifts_6 (by decide) ?_
  refine bv_istore (ls1 := [(0, .ref x0), (1, .int x1), (2, .int x2), (3, .int v2), (4, .int 0)]) dX12_lifts_7 (by decide) rfl rfl ?_
  refine bw_ls (ls1 := [(0, .ref x0), (2, .int x2), (3, .int v2), (4, .int 0)]) [0, 2, 3, 4] rfl ?_
  obtain ⟨r4, p5, h⟩ := bu_bd h
  refine v_X12_lifts_l9 hN q1 1000 _ _ _ p5 (fun y6 hy => ?_)
  · subst hy
    refine bv_aload_n dX12_lifts_42 0 rfl ?_
    obtain ⟨a7, e8, h⟩ := bu_bd h
    refine bw_getA (a := a7) hN q1 e8 dX12_lifts_43 fl_12_33 rfl ?_
    refine bv_bipush (v := 62) dX12_lifts_46 (by decide) ?_
    refine bv_dup2 dX12_lifts_48 rfl rfl ?_
    obtain ⟨r9, h⟩ := bu_ia h
    refine bw_iald hN r9 dX12_lifts_49 ?_
    refine bv_iconst (v := 1) dX12_lifts_50 (by decide) ?_
    refine bv_iadd dX12_lifts_51 ?_
    refine bw_iast hN r9 dX12_lifts_52 ?_
    obtain rfl := Option.some.inj h
    exact bv_vret dX12_lifts_53 rfl ⟨rfl, rfl⟩
def f_X12_gives (M : bm_M) (x0 : Nat) (x1 : Int32) (x2 : Int32) : Option (bm_M) := (if bm_io x0 11 then ((M.2.2 x0 6).bind fun a2 => (if bm_ia a2 0 (39 + x2) = true then ((f_X12_lifts M x0 x1 (M.1 a2 (39 + x2).toNatClampNeg)).bind fun v5 => ((v5.2.2 x0 6).bind fun a7 => (if bm_ia a7 0 (46 + x2) = true then ((f_X12_lifts v5 x0 x1 (v5.1 a7 (46 + x2).toNatClampNeg)).bind fun v10 => some v10) else none))) else none)) else none)
set_option maxHeartbeats 4000000 in
set_option maxRecDepth 100000 in
theorem c_X12_gives {L : bm_L} {d n : Nat} {M : bm_M} {x0 : Nat} {x1 : Int32} {x2 : Int32} {v : bm_M} (hN : 181 ≤ n) (h : f_X12_gives M x0 x1 x2 = some v) : bm_C L m_X12_gives (d + 7) n n [.ref x0, .int x1, .int x2] M (fun r M' => r = none ∧ M' = v) := by
  refine bm_C.ofV (by decide) (Nat.le_of_ble_eq_true rfl) ?_
  show bm_V L m_X12_gives (d + 7) n n n 0 [(0, .ref x0), (1, .int x1), (2, .int x2)] [] M _
  unfold f_X12_gives at h
  refine bv_aload_n dX12_gives_0 0 rfl ?_
  refine bv_iload_n dX12_gives_1 1 rfl ?_
  refine bv_aload_n dX12_gives_2 0 rfl ?_
  obtain ⟨q1, h⟩ := bu_io h
  obtain ⟨a2, e3, h⟩ := bu_bd h
  refine bw_getA (a := a2) hN q1 e3 dX12_gives_3 fl_12_33 rfl ?_
  refine bv_bipush (v := 39) dX12_gives_6 (by decide) ?_
  refine bv_iload_n dX12_gives_8 2 rfl ?_
  refine bv_iadd dX12_gives_9 ?_
  obtain ⟨r4, h⟩ := bu_ia h
  refine bw_iald hN r4 dX12_gives_10 ?_
  obtain ⟨v5, p6, h⟩ := bu_bd h
  refine bw_callVv (As := [.int x1, .int (M.1 a2 (39 + x2).toNatClampNeg)]) hN q1 ⟨_, _, rfl⟩ dX12_gives_11 mc_12_329 (c_X12_lifts (d := d + 0) hN p6) rfl rfl (by decide) ?_
  refine bv_aload_n dX12_gives_14 0 rfl ?_
  refine bv_iload_n dX12_gives_15 1 rfl ?_
  refine bv_aload_n dX12_gives_16 0 rfl ?_
  obtain ⟨a7, e8, h⟩ := bu_bd h
  refine bw_getA (a := a7) hN q1 e8 dX12_gives_17 fl_12_33 rfl ?_
  refine bv_bipush (v := 46) dX12_gives_20 (by decide) ?_
  refine bv_iload_n dX12_gives_22 2 rfl ?_
  refine bv_iadd dX12_gives_23 ?_
  obtain ⟨r9, h⟩ := bu_ia h
  refine bw_iald hN r9 dX12_gives_24 ?_
  obtain ⟨v10, p11, h⟩ := bu_bd h
  refine bw_callVv (As := [.int x1, .int (v5.1 a7 (46 + x2).toNatClampNeg)]) hN q1 ⟨_, _, rfl⟩ dX12_gives_25 mc_12_329 (c_X12_lifts (d := d + 0) hN p11) rfl rfl (by decide) ?_
  obtain rfl := Option.some.inj h
  exact bv_vret dX12_gives_28 rfl ⟨rfl, rfl⟩
def f_X12_hour_l2 (x0 : Nat) : Nat → Int32 → bm_M → Option (bm_M)
  | 0, _, _ => none
  | k + 1, x1, M => (if bm_io x0 11 then ((M.2.2 x0 6).bind fun a2 => (if bm_ia a2 0 0 = true then (if (M.1 a2 (0 : Int32).toNatClampNeg) ≤ x1 then some M else ((M.2.2 x0 21).bind fun a5 => (if bm_ia a2 0 65 = true then (if (f_X12_bitOf (M.1 a2 (65 : Int32).toNatClampNeg) x1) = true then (if bm_ia a2 0 (90 + x1) = true then (if bm_ia a5 0 x1 = true then f_X12_hour_l2 x0 k (x1 + 1) (bm_sI M a5 x1.toNatClampNeg (M.1 a2 (90 + x1).toNatClampNeg)) else none) else none) else (if bm_ia a5 0 x1 = true then f_X12_hour_l2 x0 k (x1 + 1) (bm_sI M a5 x1.toNatClampNeg 0) else none)) else none))) else none)) else none)
set_option maxHeartbeats 4000000 in
set_option maxRecDepth 100000 in
theorem v_X12_hour_l2 {L : bm_L} {d n : Nat} {Q : Option Value → bm_M → Prop} {x0 : Nat} (hN : 181 ≤ n) : ∀ (k : Nat) (x1 : Int32) (M : bm_M) (r : bm_M), f_X12_hour_l2 x0 k x1 M = some r → (∀ yy, yy = r → bm_V L m_X12_hour (d + 8) n n n 51 [(0, .ref x0)] [] yy Q) → bm_V L m_X12_hour (d + 8) n n n 2 [(0, .ref x0), (1, .int x1)] [] M Q := by
  intro k
  induction k with
  | zero => intro x1 M r h; cases (show (none : Option (bm_M)) = some r from h)
  | succ k ih =>
    intro x1 M r h K0
    unfold f_X12_hour_l2 at h
    refine bv_iload_n dX12_hour_2 1 rfl ?_
    refine bv_aload_n dX12_hour_3 0 rfl ?_
    obtain ⟨q1, h⟩ := bu_io h
    obtain ⟨a2, e3, h⟩ := bu_bd h
    refine bw_getA (a := a2) hN q1 e3 dX12_hour_4 fl_12_33 rfl ?_
    refine bv_iconst (v := 0) dX12_hour_7 (by decide) ?_
    obtain ⟨r4, h⟩ := bu_ia h
    refine bw_iald hN r4 dX12_hour_8 ?_
    refine bv_icmp_ge (tgt := 51) dX12_hour_9 (by decide) (fun cc => ?_) (fun cc => ?_)
    · replace h := bu_t h cc
      refine bw_ls (ls1 := [(0, .ref x0)]) [0] rfl ?_
      obtain rfl := Option.some.inj h
      exact K0 _ rfl
    · replace h := bu_f h cc
      refine bv_aload_n dX12_hour_12 0 rfl ?_
      obtain ⟨a5, e6, h⟩ := bu_bd h
      refine bw_getA (a := a5) hN q1 e6 dX12_hour_13 fl_12_50 rfl ?_
      refine bv_iload_n dX12_hour_16 1 rfl ?_
      refine bv_aload_n dX12_hour_17 0 rfl ?_
      refine bw_getA (a := a2) hN q1 e3 dX12_hour_18 fl_12_33 rfl ?_
      refine bv_bipush (v := 65) dX12_hour_21 (by decide) ?_
      obtain ⟨r7, h⟩ := bu_ia h
      refine bw_iald hN r7 dX12_hour_23 ?_
      refine bv_iload_n dX12_hour_24 1 rfl ?_
      refine bw_callS (As := [.int (M.1 a2 (65 : Int32).toNatClampNeg), .int x1]) dX12_hour_25 mc_12_231 (c_X12_bitOf (d := d + 7) hN rfl) rfl rfl (Nat.le_of_ble_eq_true rfl) ?_
      refine bw_ifB_eq (b := (f_X12_bitOf (M.1 a2 (65 : Int32).toNatClampNeg) x1)) (tgt := 43) dX12_hour_28 (by decide) (fun cc => ?_) (fun cc => ?_)
      · replace h := bu_bf h cc
        refine bv_iconst (v := 0) dX12_hour_43 (by decide) ?_
        obtain ⟨r8, h⟩ := bu_ia h
        refine bw_iast hN r8 dX12_hour_44 ?_
        refine bv_iinc (j := 1) (v := (x1 + 1)) (ls1 := [(0, .ref x0), (1, .int (x1 + 1))]) dX12_hour_45 rfl rfl (by decide) rfl rfl ?_
        refine bv_goto (tgt := 2) dX12_hour_48 (by decide) ?_
        exact ih _ _ _ h K0
      · replace h := bu_bt h cc
        refine bv_aload_n dX12_hour_31 0 rfl ?_
        refine bw_getA (a := a2) hN q1 e3 dX12_hour_32 fl_12_33 rfl ?_
        refine bv_bipush (v := 90) dX12_hour_35 (by decide) ?_
        refine bv_iload_n dX12_hour_37 1 rfl ?_
        refine bv_iadd dX12_hour_38 ?_
        obtain ⟨r9, h⟩ := bu_ia h
        refine bw_iald hN r9 dX12_hour_39 ?_
        refine bv_goto (tgt := 44) dX12_hour_40 (by decide) ?_
        obtain ⟨r10, h⟩ := bu_ia h
        refine bw_iast hN r10 dX12_hour_44 ?_
        refine bv_iinc (j := 1) (v := (x1 + 1)) (ls1 := [(0, .ref x0), (1, .int (x1 + 1))]) dX12_hour_45 rfl rfl (by decide) rfl rfl ?_
        refine bv_goto (tgt := 2) dX12_hour_48 (by decide) ?_
        exact ih _ _ _ h K0
def f_X12_hour_l61 (x0 : Nat) : Nat → Int32 → bm_M → Option (bm_M)
  | 0, _, _ => none
  | k + 1, x1, M => ((M.2.2 x0 6).bind fun a1 => (if bm_ia a1 0 0 = true then (if (M.1 a1 (0 : Int32).toNatClampNeg) ≤ x1 then some M else ((M.2.2 x0 21).bind fun a4 => (if bm_ia a4 0 x1 = true then (if (M.1 a4 x1.toNatClampNeg) ≤ 0 then f_X12_hour_l61 x0 k (x1 + 1) M else ((f_X12_browOf M x0 x1).bind fun v7 => (if v7 ≤ 0 then f_X12_hour_l61 x0 k (x1 + 1) M else ((f_X12_gives M x0 x1 ((M.1 a4 x1.toNatClampNeg) - 1)).bind fun v9 => f_X12_hour_l61 x0 k (x1 + 1) v9)))) else none))) else none))
set_option maxHeartbeats 4000000 in
set_option maxRecDepth 100000 in
theorem v_X12_hour_l61 {L : bm_L} {d n : Nat} {Q : Option Value → bm_M → Prop} {x0 : Nat} (hN : 181 ≤ n) (q_0 : bm_OK x0 11) : ∀ (k : Nat) (x1 : Int32) (M : bm_M) (r : bm_M), f_X12_hour_l61 x0 k x1 M = some r → (∀ yy, yy = r → bm_V L m_X12_hour (d + 8) n n n 107 [(0, .ref x0)] [] yy Q) → bm_V L m_X12_hour (d + 8) n n n 61 [(0, .ref x0), (1, .int x1)] [] M Q := by
  intro k
  induction k with
  | zero => intro x1 M r h; cases (show (none : Option (bm_M)) = some r from h)
  | succ k ih =>
    intro x1 M r h K0
    unfold f_X12_hour_l61 at h
    refine bv_iload_n dX12_hour_61 1 rfl ?_
    refine bv_aload_n dX12_hour_62 0 rfl ?_
    obtain ⟨a1, e2, h⟩ := bu_bd h
    refine bw_getA (a := a1) hN q_0 e2 dX12_hour_63 fl_12_33 rfl ?_
    refine bv_iconst (v := 0) dX12_hour_66 (by decide) ?_
    obtain ⟨r3, h⟩ := bu_ia h
    refine bw_iald hN r3 dX12_hour_67 ?_
    refine bv_icmp_ge (tgt := 107) dX12_hour_68 (by decide) (fun cc => ?_) (fun cc => ?_)
    · replace h := bu_t h cc
      refine bw_ls (ls1 := [(0, .ref x0)]) [0] rfl ?_
      obtain rfl := Option.some.inj h
      exact K0 _ rfl
    · replace h := bu_f h cc
      refine bv_aload_n dX12_hour_71 0 rfl ?_
      obtain ⟨a4, e5, h⟩ := bu_bd h
      refine bw_getA (a := a4) hN q_0 e5 dX12_hour_72 fl_12_50 rfl ?_
      refine bv_iload_n dX12_hour_75 1 rfl ?_
      obtain ⟨r6, h⟩ := bu_ia h
      refine bw_iald hN r6 dX12_hour_76 ?_
      refine bv_if_le (tgt := 101) dX12_hour_77 (by decide) (fun cc => ?_) (fun cc => ?_)
      · replace h := bu_t h cc
        refine bv_iinc (j := 1) (v := (x1 + 1)) (ls1 := [(0, .ref x0), (1, .int (x1 + 1))]) dX12_hour_101 rfl rfl (by decide) rfl rfl ?_
        refine bv_goto (tgt := 61) dX12_hour_104 (by decide) ?_
        exact ih _ _ _ h K0
      · replace h := bu_f h cc
        refine bv_aload_n dX12_hour_80 0 rfl ?_
        refine bv_iload_n dX12_hour_81 1 rfl ?_
        obtain ⟨v7, p8, h⟩ := bu_bd h
        refine bw_callV (As := [.int x1]) hN q_0 ⟨_, _, rfl⟩ dX12_hour_82 mc_12_290 (c_X12_browOf (d := d + 6) hN p8) rfl rfl (by decide) ?_
        refine bv_if_le (tgt := 101) dX12_hour_85 (by decide) (fun cc => ?_) (fun cc => ?_)
        · replace h := bu_t h cc
          refine bv_iinc (j := 1) (v := (x1 + 1)) (ls1 := [(0, .ref x0), (1, .int (x1 + 1))]) dX12_hour_101 rfl rfl (by decide) rfl rfl ?_
          refine bv_goto (tgt := 61) dX12_hour_104 (by decide) ?_
          exact ih _ _ _ h K0
        · replace h := bu_f h cc
          refine bv_aload_n dX12_hour_88 0 rfl ?_
          refine bv_iload_n dX12_hour_89 1 rfl ?_
          refine bv_aload_n dX12_hour_90 0 rfl ?_
          refine bw_getA (a := a4) hN q_0 e5 dX12_hour_91 fl_12_50 rfl ?_
          refine bv_iload_n dX12_hour_94 1 rfl ?_
          refine bw_iald hN r6 dX12_hour_95 ?_
          refine bv_iconst (v := 1) dX12_hour_96 (by decide) ?_
          refine bv_isub dX12_hour_97 ?_
          obtain ⟨v9, p10, h⟩ := bu_bd h
          refine bw_callVv (As := [.int x1, .int ((M.1 a4 x1.toNatClampNeg) - 1)]) hN q_0 ⟨_, _, rfl⟩ dX12_hour_98 mc_12_332 (c_X12_gives (d := d + 0) hN p10) rfl rfl (by decide) ?_
          refine bv_iinc (j := 1) (v := (x1 + 1)) (ls1 := [(0, .ref x0), (1, .int (x1 + 1))]) dX12_hour_101 rfl rfl (by decide) rfl rfl ?_
          refine bv_goto (tgt := 61) dX12_hour_104 (by decide) ?_
          exact ih _ _ _ h K0
def f_X12_hour (M : bm_M) (x0 : Nat) : Option (bm_M) := ((f_X12_hour_l2 x0 1000 0 M).bind fun y3 => (if bm_io x0 11 then ((y3.2.2 x0 6).bind fun a5 => (if bm_ia a5 0 65 = true then ((f_X12_hour_l61 x0 1000 0 (bm_sI y3 a5 (65 : Int32).toNatClampNeg 0)).bind fun y10 => ((y10.2.2 x0 6).bind fun a11 => (if bm_ia a11 0 61 = true then (if bm_ia a11 0 4 = true then (if ¬ ((bm_sI y10 a11 (61 : Int32).toNatClampNeg ((y10.1 a11 (61 : Int32).toNatClampNeg) + 1)).1 a11 (4 : Int32).toNatClampNeg) = 0 then (if (bm_rem ((bm_sI y10 a11 (61 : Int32).toNatClampNeg ((y10.1 a11 (61 : Int32).toNatClampNeg) + 1)).1 a11 (61 : Int32).toNatClampNeg) ((bm_sI y10 a11 (61 : Int32).toNatClampNeg ((y10.1 a11 (61 : Int32).toNatClampNeg) + 1)).1 a11 (4 : Int32).toNatClampNeg)) = 0 then (if bm_ia a11 0 64 = true then some (bm_sI (bm_sI y10 a11 (61 : Int32).toNatClampNeg ((y10.1 a11 (61 : Int32).toNatClampNeg) + 1)) a11 (64 : Int32).toNatClampNeg 0) else none) else some (bm_sI y10 a11 (61 : Int32).toNatClampNeg ((y10.1 a11 (61 : Int32).toNatClampNeg) + 1))) else none) else none) else none))) else none)) else none))
set_option maxHeartbeats 4000000 in
set_option maxRecDepth 100000 in
theorem c_X12_hour {L : bm_L} {d n : Nat} {M : bm_M} {x0 : Nat} {v : bm_M} (hN : 181 ≤ n) (h : f_X12_hour M x0 = some v) : bm_C L m_X12_hour (d + 8) n n [.ref x0] M (fun r M' => r = none ∧ M' = v) := by
  refine bm_C.ofV (by decide) (Nat.le_of_ble_eq_true rfl) ?_
  show bm_V L m_X12_hour (d + 8) n n n 0 [(0, .ref x0)] [] M _
  unfold f_X12_hour at h
  refine bv_iconst (v := 0) dX12_hour_0 (by decide) ?_
  refine bv_istore_n (ls1 := [(0, .ref x0), (1, .int 0)]) dX12_hour_1 (by decide) rfl rfl ?_
  obtain ⟨r1, p2, h⟩ := bu_bd h
  refine v_X12_hour_l2 hN 1000 _ _ _ p2 (fun y3 hy => ?_)
  · subst hy
    refine bv_aload_n dX12_hour_51 0 rfl ?_
    obtain ⟨q4, h⟩ := bu_io h
    obtain ⟨a5, e6, h⟩ := bu_bd h
    refine bw_getA (a := a5) hN q4 e6 dX12_hour_52 fl_12_33 rfl ?_
    refine bv_bipush (v := 65) dX12_hour_55 (by decide) ?_
    refine bv_iconst (v := 0) dX12_hour_57 (by decide) ?_
    obtain ⟨r7, h⟩ := bu_ia h
    refine bw_iast hN r7 dX12_hour_58 ?_
    refine bv_iconst (v := 0) dX12_hour_59 (by decide) ?_
    refine bv_istore_n (ls1 := [(0, .ref x0), (1, .int 0)]) dX12_hour_60 (by decide) rfl rfl ?_
    obtain ⟨r8, p9, h⟩ := bu_bd h
    refine v_X12_hour_l61 hN q4 1000 _ _ _ p9 (fun y10 hy => ?_)
    · subst hy
      refine bv_aload_n dX12_hour_107 0 rfl ?_
      obtain ⟨a11, e12, h⟩ := bu_bd h
      refine bw_getA (a := a11) hN q4 e12 dX12_hour_108 fl_12_33 rfl ?_
      refine bv_bipush (v := 61) dX12_hour_111 (by decide) ?_
      refine bv_dup2 dX12_hour_113 rfl rfl ?_
      obtain ⟨r13, h⟩ := bu_ia h
      refine bw_iald hN r13 dX12_hour_114 ?_
      refine bv_iconst (v := 1) dX12_hour_115 (by decide) ?_
      refine bv_iadd dX12_hour_116 ?_
      refine bw_iast hN r13 dX12_hour_117 ?_
      refine bv_aload_n dX12_hour_118 0 rfl ?_
      refine bw_getA (a := a11) hN q4 e12 dX12_hour_119 fl_12_33 rfl ?_
      refine bv_bipush (v := 61) dX12_hour_122 (by decide) ?_
      refine bw_iald hN r13 dX12_hour_124 ?_
      refine bv_aload_n dX12_hour_125 0 rfl ?_
      refine bw_getA (a := a11) hN q4 e12 dX12_hour_126 fl_12_33 rfl ?_
      refine bv_iconst (v := 4) dX12_hour_129 (by decide) ?_
      obtain ⟨r14, h⟩ := bu_ia h
      refine bw_iald hN r14 dX12_hour_130 ?_
      obtain ⟨z15, h⟩ := bu_gp h
      refine bv_irem dX12_hour_131 z15 ?_
      refine bv_if_ne (tgt := 143) dX12_hour_132 (by decide) (fun cc => ?_) (fun cc => ?_)
      · replace h := bu_f h cc
        obtain rfl := Option.some.inj h
        exact bv_vret dX12_hour_143 rfl ⟨rfl, rfl⟩
      · replace h := bu_t h cc
        refine bv_aload_n dX12_hour_135 0 rfl ?_
        refine bw_getA (a := a11) hN q4 e12 dX12_hour_136 fl_12_33 rfl ?_
        refine bv_bipush (v := 64) dX12_hour_139 (by decide) ?_
        refine bv_iconst (v := 0) dX12_hour_141 (by decide) ?_
        obtain ⟨r16, h⟩ := bu_ia h
        refine bw_iast hN r16 dX12_hour_142 ?_
        obtain rfl := Option.some.inj h
        exact bv_vret dX12_hour_143 rfl ⟨rfl, rfl⟩
def f_X12_goesOn_l2 (x0 : Nat) (x1 : Int32) : Nat → Int32 → bm_M → Option (Int32 × bm_M)
  | 0, _, _ => none
  | k + 1, x2, M => (if x1 ≤ x2 then some (x2, M) else (if bm_io x0 11 then ((M.2.2 x0 6).bind fun a2 => (if bm_ia a2 0 61 = true then (if 400 ≤ (M.1 a2 (61 : Int32).toNatClampNeg) then some (x2, M) else ((f_X12_hour M x0).bind fun v5 => f_X12_goesOn_l2 x0 x1 k (x2 + 1) v5)) else none)) else none))
set_option maxHeartbeats 4000000 in
set_option maxRecDepth 100000 in
theorem v_X12_goesOn_l2 {L : bm_L} {d n : Nat} {Q : Option Value → bm_M → Prop} {x0 : Nat} {x1 : Int32} (hN : 181 ≤ n) : ∀ (k : Nat) (x2 : Int32) (M : bm_M) (r : Int32 × bm_M), f_X12_goesOn_l2 x0 x1 k x2 M = some r → (∀ yy, yy = r → bm_V L m_X12_goesOn (d + 9) n n n 30 [(2, .int yy.1)] [] yy.2 Q) → bm_V L m_X12_goesOn (d + 9) n n n 2 [(0, .ref x0), (1, .int x1), (2, .int x2)] [] M Q := by
  intro k
  induction k with
  | zero => intro x2 M r h; cases (show (none : Option (Int32 × bm_M)) = some r from h)
  | succ k ih =>
    intro x2 M r h K0
    unfold f_X12_goesOn_l2 at h
    refine bv_iload_n dX12_goesOn_2 2 rfl ?_
    refine bv_iload_n dX12_goesOn_3 1 rfl ?_
    refine bv_icmp_ge (tgt := 30) dX12_goesOn_4 (by decide) (fun cc => ?_) (fun cc => ?_)
    · replace h := bu_t h cc
      refine bw_ls (ls1 := [(2, .int x2)]) [2] rfl ?_
      obtain rfl := Option.some.inj h
      exact K0 _ rfl
    · replace h := bu_f h cc
      refine bv_aload_n dX12_goesOn_7 0 rfl ?_
      obtain ⟨q1, h⟩ := bu_io h
      obtain ⟨a2, e3, h⟩ := bu_bd h
      refine bw_getA (a := a2) hN q1 e3 dX12_goesOn_8 fl_12_33 rfl ?_
      refine bv_bipush (v := 61) dX12_goesOn_11 (by decide) ?_
      obtain ⟨r4, h⟩ := bu_ia h
      refine bw_iald hN r4 dX12_goesOn_13 ?_
      refine bv_sipush (v := 400) dX12_goesOn_14 (by decide) ?_
      refine bv_icmp_ge (tgt := 30) dX12_goesOn_17 (by decide) (fun cc => ?_) (fun cc => ?_)
      · replace h := bu_t h cc
        refine bw_ls (ls1 := [(2, .int x2)]) [2] rfl ?_
        obtain rfl := Option.some.inj h
        exact K0 _ rfl
      · replace h := bu_f h cc
        refine bv_aload_n dX12_goesOn_20 0 rfl ?_
        obtain ⟨v5, p6, h⟩ := bu_bd h
        refine bw_callVv (As := []) hN q1 ⟨_, _, rfl⟩ dX12_goesOn_21 mc_12_335 (c_X12_hour (d := d + 0) hN p6) rfl rfl (by decide) ?_
        refine bv_iinc (j := 2) (v := (x2 + 1)) (ls1 := [(0, .ref x0), (1, .int x1), (2, .int (x2 + 1))]) dX12_goesOn_24 rfl rfl (by decide) rfl rfl ?_
        refine bv_goto (tgt := 2) dX12_goesOn_27 (by decide) ?_
        exact ih _ _ _ h K0
def f_X12_goesOn (M : bm_M) (x0 : Nat) (x1 : Int32) : Option (Int32 × bm_M) := ((f_X12_goesOn_l2 x0 x1 1000 0 M).bind fun y3 => some (y3.1, y3.2))
set_option maxHeartbeats 4000000 in
set_option maxRecDepth 100000 in
theorem c_X12_goesOn {L : bm_L} {d n : Nat} {M : bm_M} {x0 : Nat} {x1 : Int32} {v : Int32 × bm_M} (hN : 181 ≤ n) (h : f_X12_goesOn M x0 x1 = some v) : bm_C L m_X12_goesOn (d + 9) n n [.ref x0, .int x1] M (fun r M' => r = some (.int v.1) ∧ M' = v.2) := by
  refine bm_C.ofV (by decide) (Nat.le_of_ble_eq_true rfl) ?_
  show bm_V L m_X12_goesOn (d + 9) n n n 0 [(0, .ref x0), (1, .int x1)] [] M _
  unfold f_X12_goesOn at h
  refine bv_iconst (v := 0) dX12_goesOn_0 (by decide) ?_
  refine bv_istore_n (ls1 := [(0, .ref x0), (1, .int x1), (2, .int 0)]) dX12_goesOn_1 (by decide) rfl rfl ?_
  obtain ⟨r1, p2, h⟩ := bu_bd h
  refine v_X12_goesOn_l2 hN 1000 _ _ _ p2 (fun y3 hy => ?_)
  · subst hy
    refine bv_iload_n dX12_goesOn_30 0 rfl ?_
    obtain rfl := Option.some.inj h
    exact bv_iret (x := y3.1) dX12_goesOn_31 rfl ⟨rfl, rfl⟩
def f_X12_xBy (M : bm_M) (x0 : Nat) (x1 : Int32) (x2 : Int32) : Option (Int32) := (if bm_io x0 11 then ((M.2.2 x0 6).bind fun a2 => (if bm_ia a2 0 (66 + x1) = true then (if x2 = 0 then some ((M.1 a2 (66 + x1).toNatClampNeg) + 1) else (if x2 = 2 then some ((M.1 a2 (66 + x1).toNatClampNeg) + (-1)) else some ((M.1 a2 (66 + x1).toNatClampNeg) + 0))) else none)) else none)
set_option maxHeartbeats 4000000 in
set_option maxRecDepth 100000 in
theorem c_X12_xBy {L : bm_L} {d n : Nat} {M : bm_M} {x0 : Nat} {x1 : Int32} {x2 : Int32} {v : Int32} (hN : 181 ≤ n) (h : f_X12_xBy M x0 x1 x2 = some v) : bm_C L m_X12_xBy d n n [.ref x0, .int x1, .int x2] M (fun r M' => r = some (.int v) ∧ M' = M) := by
  refine bm_C.ofV (by decide) (Nat.le_of_ble_eq_true rfl) ?_
  show bm_V L m_X12_xBy d n n n 0 [(0, .ref x0), (1, .int x1), (2, .int x2)] [] M _
  unfold f_X12_xBy at h
  refine bv_aload_n dX12_xBy_0 0 rfl ?_
  obtain ⟨q1, h⟩ := bu_io h
  obtain ⟨a2, e3, h⟩ := bu_bd h
  refine bw_getA (a := a2) hN q1 e3 dX12_xBy_1 fl_12_33 rfl ?_
  refine bv_bipush (v := 66) dX12_xBy_4 (by decide) ?_
  refine bv_iload_n dX12_xBy_6 1 rfl ?_
  refine bv_iadd dX12_xBy_7 ?_
  obtain ⟨r4, h⟩ := bu_ia h
  refine bw_iald hN r4 dX12_xBy_8 ?_
  refine bv_iload_n dX12_xBy_9 2 rfl ?_
  refine bv_if_ne (tgt := 17) dX12_xBy_10 (by decide) (fun cc => ?_) (fun cc => ?_)
  · replace h := bu_f h cc
    refine bv_iload_n dX12_xBy_17 2 rfl ?_
    refine bv_iconst (v := 2) dX12_xBy_18 (by decide) ?_
    refine bv_icmp_ne (tgt := 26) dX12_xBy_19 (by decide) (fun cc => ?_) (fun cc => ?_)
    · replace h := bu_f h cc
      refine bv_iconst (v := 0) dX12_xBy_26 (by decide) ?_
      refine bv_iadd dX12_xBy_27 ?_
      obtain rfl := Option.some.inj h
      exact bv_iret (x := ((M.1 a2 (66 + x1).toNatClampNeg) + 0)) dX12_xBy_28 rfl ⟨rfl, rfl⟩
    · replace h := bu_t h cc
      refine bv_iconst (v := (-1)) dX12_xBy_22 (by decide) ?_
      refine bv_goto (tgt := 27) dX12_xBy_23 (by decide) ?_
      refine bv_iadd dX12_xBy_27 ?_
      obtain rfl := Option.some.inj h
      exact bv_iret (x := ((M.1 a2 (66 + x1).toNatClampNeg) + (-1))) dX12_xBy_28 rfl ⟨rfl, rfl⟩
  · replace h := bu_t h cc
    refine bv_iconst (v := 1) dX12_xBy_13 (by decide) ?_
    refine bv_goto (tgt := 27) dX12_xBy_14 (by decide) ?_
    refine bv_iadd dX12_xBy_27 ?_
    obtain rfl := Option.some.inj h
    exact bv_iret (x := ((M.1 a2 (66 + x1).toNatClampNeg) + 1)) dX12_xBy_28 rfl ⟨rfl, rfl⟩
def f_X12_yBy (M : bm_M) (x0 : Nat) (x1 : Int32) (x2 : Int32) : Option (Int32) := (if bm_io x0 11 then ((M.2.2 x0 6).bind fun a2 => (if bm_ia a2 0 (74 + x1) = true then (if x2 = 1 then some ((M.1 a2 (74 + x1).toNatClampNeg) + 1) else (if x2 = 3 then some ((M.1 a2 (74 + x1).toNatClampNeg) + (-1)) else some ((M.1 a2 (74 + x1).toNatClampNeg) + 0))) else none)) else none)
set_option maxHeartbeats 4000000 in
set_option maxRecDepth 100000 in
theorem c_X12_yBy {L : bm_L} {d n : Nat} {M : bm_M} {x0 : Nat} {x1 : Int32} {x2 : Int32} {v : Int32} (hN : 181 ≤ n) (h : f_X12_yBy M x0 x1 x2 = some v) : bm_C L m_X12_yBy d n n [.ref x0, .int x1, .int x2] M (fun r M' => r = some (.int v) ∧ M' = M) := by
  refine bm_C.ofV (by decide) (Nat.le_of_ble_eq_true rfl) ?_
  show bm_V L m_X12_yBy d n n n 0 [(0, .ref x0), (1, .int x1), (2, .int x2)] [] M _
  unfold f_X12_yBy at h
  refine bv_aload_n dX12_yBy_0 0 rfl ?_
  obtain ⟨q1, h⟩ := bu_io h
  obtain ⟨a2, e3, h⟩ := bu_bd h
  refine bw_getA (a := a2) hN q1 e3 dX12_yBy_1 fl_12_33 rfl ?_
  refine bv_bipush (v := 74) dX12_yBy_4 (by decide) ?_
  refine bv_iload_n dX12_yBy_6 1 rfl ?_
  refine bv_iadd dX12_yBy_7 ?_
  obtain ⟨r4, h⟩ := bu_ia h
  refine bw_iald hN r4 dX12_yBy_8 ?_
  refine bv_iload_n dX12_yBy_9 2 rfl ?_
  refine bv_iconst (v := 1) dX12_yBy_10 (by decide) ?_
  refine bv_icmp_ne (tgt := 18) dX12_yBy_11 (by decide) (fun cc => ?_) (fun cc => ?_)
  · replace h := bu_f h cc
    refine bv_iload_n dX12_yBy_18 2 rfl ?_
    refine bv_iconst (v := 3) dX12_yBy_19 (by decide) ?_
    refine bv_icmp_ne (tgt := 27) dX12_yBy_20 (by decide) (fun cc => ?_) (fun cc => ?_)
    · replace h := bu_f h cc
      refine bv_iconst (v := 0) dX12_yBy_27 (by decide) ?_
      refine bv_iadd dX12_yBy_28 ?_
      obtain rfl := Option.some.inj h
      exact bv_iret (x := ((M.1 a2 (74 + x1).toNatClampNeg) + 0)) dX12_yBy_29 rfl ⟨rfl, rfl⟩
    · replace h := bu_t h cc
      refine bv_iconst (v := (-1)) dX12_yBy_23 (by decide) ?_
      refine bv_goto (tgt := 28) dX12_yBy_24 (by decide) ?_
      refine bv_iadd dX12_yBy_28 ?_
      obtain rfl := Option.some.inj h
      exact bv_iret (x := ((M.1 a2 (74 + x1).toNatClampNeg) + (-1))) dX12_yBy_29 rfl ⟨rfl, rfl⟩
  · replace h := bu_t h cc
    refine bv_iconst (v := 1) dX12_yBy_14 (by decide) ?_
    refine bv_goto (tgt := 28) dX12_yBy_15 (by decide) ?_
    refine bv_iadd dX12_yBy_28 ?_
    obtain rfl := Option.some.inj h
    exact bv_iret (x := ((M.1 a2 (74 + x1).toNatClampNeg) + 1)) dX12_yBy_29 rfl ⟨rfl, rfl⟩
def f_X12_whyGo (M : bm_M) (x0 : Nat) (x1 : Int32) (x2 : Int32) : Option (Int32) := (if bm_io x0 11 then ((f_X12_xBy M x0 x1 x2).bind fun v2 => (if (f_X12_isIn v2 0 30) = true then ((f_X12_yBy M x0 x1 x2).bind fun v4 => (if (f_X12_isIn v4 0 30) = true then some 0 else some 1)) else some 1)) else none)
set_option maxHeartbeats 4000000 in
set_option maxRecDepth 100000 in
theorem c_X12_whyGo {L : bm_L} {d n : Nat} {M : bm_M} {x0 : Nat} {x1 : Int32} {x2 : Int32} {v : Int32} (hN : 181 ≤ n) (h : f_X12_whyGo M x0 x1 x2 = some v) : bm_C L m_X12_whyGo (d + 1) n n [.ref x0, .int x1, .int x2] M (fun r M' => r = some (.int v) ∧ M' = M) := by
  refine bm_C.ofV (by decide) (Nat.le_of_ble_eq_true rfl) ?_
  show bm_V L m_X12_whyGo (d + 1) n n n 0 [(0, .ref x0), (1, .int x1), (2, .int x2)] [] M _
  unfold f_X12_whyGo at h
  refine bv_aload_n dX12_whyGo_0 0 rfl ?_
  refine bv_iload_n dX12_whyGo_1 1 rfl ?_
  refine bv_iload_n dX12_whyGo_2 2 rfl ?_
  obtain ⟨q1, h⟩ := bu_io h
  obtain ⟨v2, p3, h⟩ := bu_bd h
  refine bw_callV (As := [.int x1, .int x2]) hN q1 ⟨_, _, rfl⟩ dX12_whyGo_3 mc_12_338 (c_X12_xBy (d := d + 0) hN p3) rfl rfl (by decide) ?_
  refine bv_iconst (v := 0) dX12_whyGo_6 (by decide) ?_
  refine bv_bipush (v := 30) dX12_whyGo_7 (by decide) ?_
  refine bw_callS (As := [.int v2, .int 0, .int 30]) dX12_whyGo_9 mc_12_206 (c_X12_isIn (d := d + 0) hN rfl) rfl rfl (by decide) ?_
  refine bw_ifB_eq (b := (f_X12_isIn v2 0 30)) (tgt := 34) dX12_whyGo_12 (by decide) (fun cc => ?_) (fun cc => ?_)
  · replace h := bu_bf h cc
    refine bv_iconst (v := 1) dX12_whyGo_34 (by decide) ?_
    obtain rfl := Option.some.inj h
    exact bv_iret (x := 1) dX12_whyGo_35 rfl ⟨rfl, rfl⟩
  · replace h := bu_bt h cc
    refine bv_aload_n dX12_whyGo_15 0 rfl ?_
    refine bv_iload_n dX12_whyGo_16 1 rfl ?_
    refine bv_iload_n dX12_whyGo_17 2 rfl ?_
    obtain ⟨v4, p5, h⟩ := bu_bd h
    refine bw_callV (As := [.int x1, .int x2]) hN q1 ⟨_, _, rfl⟩ dX12_whyGo_18 mc_12_341 (c_X12_yBy (d := d + 0) hN p5) rfl rfl (by decide) ?_
    refine bv_iconst (v := 0) dX12_whyGo_21 (by decide) ?_
    refine bv_bipush (v := 30) dX12_whyGo_22 (by decide) ?_
    refine bw_callS (As := [.int v4, .int 0, .int 30]) dX12_whyGo_24 mc_12_206 (c_X12_isIn (d := d + 0) hN rfl) rfl rfl (by decide) ?_
    refine bw_ifB_eq (b := (f_X12_isIn v4 0 30)) (tgt := 34) dX12_whyGo_27 (by decide) (fun cc => ?_) (fun cc => ?_)
    · replace h := bu_bf h cc
      refine bv_iconst (v := 1) dX12_whyGo_34 (by decide) ?_
      obtain rfl := Option.some.inj h
      exact bv_iret (x := 1) dX12_whyGo_35 rfl ⟨rfl, rfl⟩
    · replace h := bu_bt h cc
      refine bv_iconst (v := 0) dX12_whyGo_30 (by decide) ?_
      refine bv_goto (tgt := 35) dX12_whyGo_31 (by decide) ?_
      obtain rfl := Option.some.inj h
      exact bv_iret (x := 0) dX12_whyGo_35 rfl ⟨rfl, rfl⟩
def f_X12_goes (M : bm_M) (x0 : Nat) (x1 : Int32) (x2 : Int32) : Option (bm_M) := (if bm_io x0 11 then ((f_X12_xBy M x0 x1 x2).bind fun v2 => ((M.2.2 x0 6).bind fun a4 => ((f_X12_yBy M x0 x1 x2).bind fun v6 => (if bm_ia a4 0 (74 + x1) = true then (if bm_ia a4 0 (66 + x1) = true then some (bm_sI (bm_sI M a4 (74 + x1).toNatClampNeg v6) a4 (66 + x1).toNatClampNeg v2) else none) else none)))) else none)
set_option maxHeartbeats 4000000 in
set_option maxRecDepth 100000 in
theorem c_X12_goes {L : bm_L} {d n : Nat} {M : bm_M} {x0 : Nat} {x1 : Int32} {x2 : Int32} {v : bm_M} (hN : 181 ≤ n) (h : f_X12_goes M x0 x1 x2 = some v) : bm_C L m_X12_goes (d + 1) n n [.ref x0, .int x1, .int x2] M (fun r M' => r = none ∧ M' = v) := by
  refine bm_C.ofV (by decide) (Nat.le_of_ble_eq_true rfl) ?_
  show bm_V L m_X12_goes (d + 1) n n n 0 [(0, .ref x0), (1, .int x1), (2, .int x2)] [] M _
  unfold f_X12_goes at h
  refine bv_aload_n dX12_goes_0 0 rfl ?_
  refine bv_iload_n dX12_goes_1 1 rfl ?_
  refine bv_iload_n dX12_goes_2 2 rfl ?_
  obtain ⟨q1, h⟩ := bu_io h
  obtain ⟨v2, p3, h⟩ := bu_bd h
  refine bw_callV (As := [.int x1, .int x2]) hN q1 ⟨_, _, rfl⟩ dX12_goes_3 mc_12_338 (c_X12_xBy (d := d + 0) hN p3) rfl rfl (by decide) ?_
  refine bv_istore_n (ls1 := [(0, .ref x0), (1, .int x1), (2, .int x2), (3, .int v2)]) dX12_goes_6 (by decide) rfl rfl ?_
  refine bv_aload_n dX12_goes_7 0 rfl ?_
  obtain ⟨a4, e5, h⟩ := bu_bd h
  refine bw_getA (a := a4) hN q1 e5 dX12_goes_8 fl_12_33 rfl ?_
  refine bv_bipush (v := 74) dX12_goes_11 (by decide) ?_
  refine bv_iload_n dX12_goes_13 1 rfl ?_
  refine bv_iadd dX12_goes_14 ?_
  refine bv_aload_n dX12_goes_15 0 rfl ?_
  refine bv_iload_n dX12_goes_16 1 rfl ?_
  refine bv_iload_n dX12_goes_17 2 rfl ?_
  obtain ⟨v6, p7, h⟩ := bu_bd h
  refine bw_callV (As := [.int x1, .int x2]) hN q1 ⟨_, _, rfl⟩ dX12_goes_18 mc_12_341 (c_X12_yBy (d := d + 0) hN p7) rfl rfl (Nat.le_of_ble_eq_true rfl) ?_
  obtain ⟨r8, h⟩ := bu_ia h
  refine bw_iast hN r8 dX12_goes_21 ?_
  refine bv_aload_n dX12_goes_22 0 rfl ?_
  refine bw_getA (a := a4) hN q1 e5 dX12_goes_23 fl_12_33 rfl ?_
  refine bv_bipush (v := 66) dX12_goes_26 (by decide) ?_
  refine bv_iload_n dX12_goes_28 1 rfl ?_
  refine bv_iadd dX12_goes_29 ?_
  refine bv_iload_n dX12_goes_30 3 rfl ?_
  obtain ⟨r9, h⟩ := bu_ia h
  refine bw_iast hN r9 dX12_goes_31 ?_
  obtain rfl := Option.some.inj h
  exact bv_vret dX12_goes_32 rfl ⟨rfl, rfl⟩
def f_X12_keep_l47 (x0 : Nat) : Nat → Int32 → bm_M → Option (bm_M)
  | 0, _, _ => none
  | k + 1, x1, M => (if 45 ≤ x1 then some M else ((M.2.2 x0 22).bind fun a1 => ((M.2.2 x0 6).bind fun a3 => (if bm_ia a3 0 (61 + x1) = true then (if bm_ia a1 0 ((45 * (M.1 x0 24)) + x1) = true then f_X12_keep_l47 x0 k (x1 + 1) (bm_sI M a1 ((45 * (M.1 x0 24)) + x1).toNatClampNeg (M.1 a3 (61 + x1).toNatClampNeg)) else none) else none))))
set_option maxHeartbeats 4000000 in
set_option maxRecDepth 100000 in
theorem v_X12_keep_l47 {L : bm_L} {d n : Nat} {Q : Option Value → bm_M → Prop} {x0 : Nat} (hN : 181 ≤ n) (q_0 : bm_OK x0 11) : ∀ (k : Nat) (x1 : Int32) (M : bm_M) (r : bm_M), f_X12_keep_l47 x0 k x1 M = some r → (∀ yy, yy = r → bm_V L m_X12_keep d n n n 82 [(0, .ref x0)] [] yy Q) → bm_V L m_X12_keep d n n n 47 [(0, .ref x0), (1, .int x1)] [] M Q := by
  intro k
  induction k with
  | zero => intro x1 M r h; cases (show (none : Option (bm_M)) = some r from h)
  | succ k ih =>
    intro x1 M r h K0
    unfold f_X12_keep_l47 at h
    refine bv_iload_n dX12_keep_47 1 rfl ?_
    refine bv_bipush (v := 45) dX12_keep_48 (by decide) ?_
    refine bv_icmp_ge (tgt := 82) dX12_keep_50 (by decide) (fun cc => ?_) (fun cc => ?_)
    · replace h := bu_t h cc
      refine bw_ls (ls1 := [(0, .ref x0)]) [0] rfl ?_
      obtain rfl := Option.some.inj h
      exact K0 _ rfl
    · replace h := bu_f h cc
      refine bv_aload_n dX12_keep_53 0 rfl ?_
      obtain ⟨a1, e2, h⟩ := bu_bd h
      refine bw_getA (a := a1) hN q_0 e2 dX12_keep_54 fl_12_53 rfl ?_
      refine bv_bipush (v := 45) dX12_keep_57 (by decide) ?_
      refine bv_aload_n dX12_keep_59 0 rfl ?_
      refine bw_getI hN q_0 dX12_keep_60 fl_12_276 rfl ?_
      refine bv_imul dX12_keep_63 ?_
      refine bv_iload_n dX12_keep_64 1 rfl ?_
      refine bv_iadd dX12_keep_65 ?_
      refine bv_aload_n dX12_keep_66 0 rfl ?_
      obtain ⟨a3, e4, h⟩ := bu_bd h
      refine bw_getA (a := a3) hN q_0 e4 dX12_keep_67 fl_12_33 rfl ?_
      refine bv_bipush (v := 61) dX12_keep_70 (by decide) ?_
      refine bv_iload_n dX12_keep_72 1 rfl ?_
      refine bv_iadd dX12_keep_73 ?_
      obtain ⟨r5, h⟩ := bu_ia h
      refine bw_iald hN r5 dX12_keep_74 ?_
      obtain ⟨r6, h⟩ := bu_ia h
      refine bw_iast hN r6 dX12_keep_75 ?_
      refine bv_iinc (j := 1) (v := (x1 + 1)) (ls1 := [(0, .ref x0), (1, .int (x1 + 1))]) dX12_keep_76 rfl rfl (by decide) rfl rfl ?_
      refine bv_goto (tgt := 47) dX12_keep_79 (by decide) ?_
      exact ih _ _ _ h K0
def f_X12_keep_l11 (x0 : Nat) : Nat → Int32 → bm_M → Option (bm_M)
  | 0, _, _ => none
  | k + 1, x1, M => (if 315 ≤ x1 then some M else ((M.2.2 x0 22).bind fun a1 => (if bm_ia a1 0 (x1 + 45) = true then (if bm_ia a1 0 x1 = true then f_X12_keep_l11 x0 k (x1 + 1) (bm_sI M a1 x1.toNatClampNeg (M.1 a1 (x1 + 45).toNatClampNeg)) else none) else none)))
set_option maxHeartbeats 4000000 in
set_option maxRecDepth 100000 in
theorem v_X12_keep_l11 {L : bm_L} {d n : Nat} {Q : Option Value → bm_M → Prop} {x0 : Nat} (hN : 181 ≤ n) (q_0 : bm_OK x0 11) : ∀ (k : Nat) (x1 : Int32) (M : bm_M) (r : bm_M), f_X12_keep_l11 x0 k x1 M = some r → (∀ yy, yy = r → bm_V L m_X12_keep d n n n 39 [(0, .ref x0)] [] yy Q) → bm_V L m_X12_keep d n n n 11 [(0, .ref x0), (1, .int x1)] [] M Q := by
  intro k
  induction k with
  | zero => intro x1 M r h; cases (show (none : Option (bm_M)) = some r from h)
  | succ k ih =>
    intro x1 M r h K0
    unfold f_X12_keep_l11 at h
    refine bv_iload_n dX12_keep_11 1 rfl ?_
    refine bv_sipush (v := 315) dX12_keep_12 (by decide) ?_
    refine bv_icmp_ge (tgt := 39) dX12_keep_15 (by decide) (fun cc => ?_) (fun cc => ?_)
    · replace h := bu_t h cc
      refine bw_ls (ls1 := [(0, .ref x0)]) [0] rfl ?_
      obtain rfl := Option.some.inj h
      exact K0 _ rfl
    · replace h := bu_f h cc
      refine bv_aload_n dX12_keep_18 0 rfl ?_
      obtain ⟨a1, e2, h⟩ := bu_bd h
      refine bw_getA (a := a1) hN q_0 e2 dX12_keep_19 fl_12_53 rfl ?_
      refine bv_iload_n dX12_keep_22 1 rfl ?_
      refine bv_aload_n dX12_keep_23 0 rfl ?_
      refine bw_getA (a := a1) hN q_0 e2 dX12_keep_24 fl_12_53 rfl ?_
      refine bv_iload_n dX12_keep_27 1 rfl ?_
      refine bv_bipush (v := 45) dX12_keep_28 (by decide) ?_
      refine bv_iadd dX12_keep_30 ?_
      obtain ⟨r3, h⟩ := bu_ia h
      refine bw_iald hN r3 dX12_keep_31 ?_
      obtain ⟨r4, h⟩ := bu_ia h
      refine bw_iast hN r4 dX12_keep_32 ?_
      refine bv_iinc (j := 1) (v := (x1 + 1)) (ls1 := [(0, .ref x0), (1, .int (x1 + 1))]) dX12_keep_33 rfl rfl (by decide) rfl rfl ?_
      refine bv_goto (tgt := 11) dX12_keep_36 (by decide) ?_
      exact ih _ _ _ h K0
def f_X12_keep (M : bm_M) (x0 : Nat) : Option (bm_M) := (if bm_io x0 11 then (if (M.1 x0 24) = 8 then ((f_X12_keep_l11 x0 1000 0 M).bind fun y7 => ((f_X12_keep_l47 x0 1000 0 (bm_sI y7 x0 24 7)).bind fun y10 => some (bm_sI y10 x0 24 ((y10.1 x0 24) + 1)))) else ((f_X12_keep_l47 x0 1000 0 M).bind fun y4 => some (bm_sI y4 x0 24 ((y4.1 x0 24) + 1)))) else none)
set_option maxHeartbeats 4000000 in
set_option maxRecDepth 100000 in
theorem c_X12_keep {L : bm_L} {d n : Nat} {M : bm_M} {x0 : Nat} {v : bm_M} (hN : 181 ≤ n) (h : f_X12_keep M x0 = some v) : bm_C L m_X12_keep d n n [.ref x0] M (fun r M' => r = none ∧ M' = v) := by
  refine bm_C.ofV (by decide) (Nat.le_of_ble_eq_true rfl) ?_
  show bm_V L m_X12_keep d n n n 0 [(0, .ref x0)] [] M _
  unfold f_X12_keep at h
  refine bv_aload_n dX12_keep_0 0 rfl ?_
  obtain ⟨q1, h⟩ := bu_io h
  refine bw_getI hN q1 dX12_keep_1 fl_12_276 rfl ?_
  refine bv_bipush (v := 8) dX12_keep_4 (by decide) ?_
  refine bv_icmp_ne (tgt := 45) dX12_keep_6 (by decide) (fun cc => ?_) (fun cc => ?_)
  · replace h := bu_f h cc
    refine bv_iconst (v := 0) dX12_keep_45 (by decide) ?_
    refine bv_istore_n (ls1 := [(0, .ref x0), (1, .int 0)]) dX12_keep_46 (by decide) rfl rfl ?_
    obtain ⟨r2, p3, h⟩ := bu_bd h
    refine v_X12_keep_l47 hN q1 1000 _ _ _ p3 (fun y4 hy => ?_)
    · subst hy
      refine bv_aload_n dX12_keep_82 0 rfl ?_
      refine bv_dup dX12_keep_83 rfl ?_
      refine bw_getI hN q1 dX12_keep_84 fl_12_276 rfl ?_
      refine bv_iconst (v := 1) dX12_keep_87 (by decide) ?_
      refine bv_iadd dX12_keep_88 ?_
      refine bw_putI hN q1 dX12_keep_89 fl_12_276 rfl ?_
      obtain rfl := Option.some.inj h
      exact bv_vret dX12_keep_92 rfl ⟨rfl, rfl⟩
  · replace h := bu_t h cc
    refine bv_iconst (v := 0) dX12_keep_9 (by decide) ?_
    refine bv_istore_n (ls1 := [(0, .ref x0), (1, .int 0)]) dX12_keep_10 (by decide) rfl rfl ?_
    obtain ⟨r5, p6, h⟩ := bu_bd h
    refine v_X12_keep_l11 hN q1 1000 _ _ _ p6 (fun y7 hy => ?_)
    · subst hy
      refine bv_aload_n dX12_keep_39 0 rfl ?_
      refine bv_bipush (v := 7) dX12_keep_40 (by decide) ?_
      refine bw_putI hN q1 dX12_keep_42 fl_12_276 rfl ?_
      refine bv_iconst (v := 0) dX12_keep_45 (by decide) ?_
      refine bv_istore_n (ls1 := [(0, .ref x0), (1, .int 0)]) dX12_keep_46 (by decide) rfl rfl ?_
      obtain ⟨r8, p9, h⟩ := bu_bd h
      refine v_X12_keep_l47 hN q1 1000 _ _ _ p9 (fun y10 hy => ?_)
      · subst hy
        refine bv_aload_n dX12_keep_82 0 rfl ?_
        refine bv_dup dX12_keep_83 rfl ?_
        refine bw_getI hN q1 dX12_keep_84 fl_12_276 rfl ?_
        refine bv_iconst (v := 1) dX12_keep_87 (by decide) ?_
        refine bv_iadd dX12_keep_88 ?_
        refine bw_putI hN q1 dX12_keep_89 fl_12_276 rfl ?_
        obtain rfl := Option.some.inj h
        exact bv_vret dX12_keep_92 rfl ⟨rfl, rfl⟩
def f_X12_lift (M : bm_M) (x0 : Nat) (x1 : Int32) (x2 : Int32) : Option (Int32 × bm_M) := (if bm_io x0 11 then ((f_X12_isMan (bm_sI M x0 0 0) x0 x1).bind fun v2 => (if v2 = true then (if (f_X12_isIn x2 1 3) = true then ((f_X12_browOf (bm_sI M x0 0 0) x0 x1).bind fun v4 => (if v4 = 0 then some (1, (bm_sI M x0 0 0)) else ((f_X12_keep (bm_sI M x0 0 0) x0).bind fun v6 => ((f_X12_lifts v6 x0 x1 x2).bind fun v8 => some (0, v8))))) else some ((-1), (bm_sI M x0 0 0))) else some ((-1), (bm_sI M x0 0 0)))) else none)
set_option maxHeartbeats 4000000 in
set_option maxRecDepth 100000 in
theorem c_X12_lift {L : bm_L} {d n : Nat} {M : bm_M} {x0 : Nat} {x1 : Int32} {x2 : Int32} {v : Int32 × bm_M} (hN : 181 ≤ n) (h : f_X12_lift M x0 x1 x2 = some v) : bm_C L m_X12_lift (d + 7) n n [.ref x0, .int x1, .int x2] M (fun r M' => r = some (.int v.1) ∧ M' = v.2) := by
  refine bm_C.ofV (by decide) (Nat.le_of_ble_eq_true rfl) ?_
  show bm_V L m_X12_lift (d + 7) n n n 0 [(0, .ref x0), (1, .int x1), (2, .int x2)] [] M _
  unfold f_X12_lift at h
  refine bv_aload_n dX12_lift_0 0 rfl ?_
  refine bv_iconst (v := 0) dX12_lift_1 (by decide) ?_
  obtain ⟨q1, h⟩ := bu_io h
  refine bw_putI hN q1 dX12_lift_2 fl_12_1 rfl ?_
  refine bv_aload_n dX12_lift_5 0 rfl ?_
  refine bv_iload_n dX12_lift_6 1 rfl ?_
  obtain ⟨v2, p3, h⟩ := bu_bd h
  refine bw_callV (As := [.int x1]) hN q1 ⟨_, _, rfl⟩ dX12_lift_7 mc_12_303 (c_X12_isMan (d := d + 5) hN p3) rfl rfl (by decide) ?_
  refine bw_ifB_eq (b := v2) (tgt := 22) dX12_lift_10 (by decide) (fun cc => ?_) (fun cc => ?_)
  · replace h := bu_bf h cc
    refine bv_iconst (v := (-1)) dX12_lift_22 (by decide) ?_
    obtain rfl := Option.some.inj h
    exact bv_iret (x := (-1)) dX12_lift_23 rfl ⟨rfl, rfl⟩
  · replace h := bu_bt h cc
    refine bv_iload_n dX12_lift_13 2 rfl ?_
    refine bv_iconst (v := 1) dX12_lift_14 (by decide) ?_
    refine bv_iconst (v := 3) dX12_lift_15 (by decide) ?_
    refine bw_callS (As := [.int x2, .int 1, .int 3]) dX12_lift_16 mc_12_206 (c_X12_isIn (d := d + 6) hN rfl) rfl rfl (by decide) ?_
    refine bw_ifB_ne (b := (f_X12_isIn x2 1 3)) (tgt := 24) dX12_lift_19 (by decide) (fun cc => ?_) (fun cc => ?_)
    · replace h := bu_bt h cc
      refine bv_aload_n dX12_lift_24 0 rfl ?_
      refine bv_iload_n dX12_lift_25 1 rfl ?_
      obtain ⟨v4, p5, h⟩ := bu_bd h
      refine bw_callV (As := [.int x1]) hN q1 ⟨_, _, rfl⟩ dX12_lift_26 mc_12_290 (c_X12_browOf (d := d + 5) hN p5) rfl rfl (by decide) ?_
      refine bv_if_ne (tgt := 34) dX12_lift_29 (by decide) (fun cc => ?_) (fun cc => ?_)
      · replace h := bu_f h cc
        refine bv_aload_n dX12_lift_34 0 rfl ?_
        obtain ⟨v6, p7, h⟩ := bu_bd h
        refine bw_callVv (As := []) hN q1 ⟨_, _, rfl⟩ dX12_lift_35 mc_12_344 (c_X12_keep (d := d + 6) hN p7) rfl rfl (by decide) ?_
        refine bv_aload_n dX12_lift_38 0 rfl ?_
        refine bv_iload_n dX12_lift_39 1 rfl ?_
        refine bv_iload_n dX12_lift_40 2 rfl ?_
        obtain ⟨v8, p9, h⟩ := bu_bd h
        refine bw_callVv (As := [.int x1, .int x2]) hN q1 ⟨_, _, rfl⟩ dX12_lift_41 mc_12_329 (c_X12_lifts (d := d + 0) hN p9) rfl rfl (by decide) ?_
        refine bv_iconst (v := 0) dX12_lift_44 (by decide) ?_
        obtain rfl := Option.some.inj h
        exact bv_iret (x := 0) dX12_lift_45 rfl ⟨rfl, rfl⟩
      · replace h := bu_t h cc
        refine bv_iconst (v := 1) dX12_lift_32 (by decide) ?_
        obtain rfl := Option.some.inj h
        exact bv_iret (x := 1) dX12_lift_33 rfl ⟨rfl, rfl⟩
    · replace h := bu_bf h cc
      refine bv_iconst (v := (-1)) dX12_lift_22 (by decide) ?_
      obtain rfl := Option.some.inj h
      exact bv_iret (x := (-1)) dX12_lift_23 rfl ⟨rfl, rfl⟩
def f_X12_give (M : bm_M) (x0 : Nat) (x1 : Int32) (x2 : Int32) : Option (Int32 × bm_M) := (if bm_io x0 11 then ((f_X12_isMan (bm_sI M x0 0 0) x0 x1).bind fun v2 => (if v2 = true then ((f_X12_isOrder (bm_sI M x0 0 0) x0 x2).bind fun v4 => (if v4 = true then ((f_X12_browOf (bm_sI M x0 0 0) x0 x1).bind fun v6 => (if v6 = 0 then some (1, (bm_sI M x0 0 0)) else ((f_X12_keep (bm_sI M x0 0 0) x0).bind fun v8 => ((f_X12_gives v8 x0 x1 x2).bind fun v10 => some (0, v10))))) else some ((-1), (bm_sI M x0 0 0)))) else some ((-1), (bm_sI M x0 0 0)))) else none)
set_option maxHeartbeats 4000000 in
set_option maxRecDepth 100000 in
theorem c_X12_give {L : bm_L} {d n : Nat} {M : bm_M} {x0 : Nat} {x1 : Int32} {x2 : Int32} {v : Int32 × bm_M} (hN : 181 ≤ n) (h : f_X12_give M x0 x1 x2 = some v) : bm_C L m_X12_give (d + 8) n n [.ref x0, .int x1, .int x2] M (fun r M' => r = some (.int v.1) ∧ M' = v.2) := by
  refine bm_C.ofV (by decide) (Nat.le_of_ble_eq_true rfl) ?_
  show bm_V L m_X12_give (d + 8) n n n 0 [(0, .ref x0), (1, .int x1), (2, .int x2)] [] M _
  unfold f_X12_give at h
  refine bv_aload_n dX12_give_0 0 rfl ?_
  refine bv_iconst (v := 0) dX12_give_1 (by decide) ?_
  obtain ⟨q1, h⟩ := bu_io h
  refine bw_putI hN q1 dX12_give_2 fl_12_1 rfl ?_
  refine bv_aload_n dX12_give_5 0 rfl ?_
  refine bv_iload_n dX12_give_6 1 rfl ?_
  obtain ⟨v2, p3, h⟩ := bu_bd h
  refine bw_callV (As := [.int x1]) hN q1 ⟨_, _, rfl⟩ dX12_give_7 mc_12_303 (c_X12_isMan (d := d + 6) hN p3) rfl rfl (by decide) ?_
  refine bw_ifB_eq (b := v2) (tgt := 21) dX12_give_10 (by decide) (fun cc => ?_) (fun cc => ?_)
  · replace h := bu_bf h cc
    refine bv_iconst (v := (-1)) dX12_give_21 (by decide) ?_
    obtain rfl := Option.some.inj h
    exact bv_iret (x := (-1)) dX12_give_22 rfl ⟨rfl, rfl⟩
  · replace h := bu_bt h cc
    refine bv_aload_n dX12_give_13 0 rfl ?_
    refine bv_iload_n dX12_give_14 2 rfl ?_
    obtain ⟨v4, p5, h⟩ := bu_bd h
    refine bw_callV (As := [.int x2]) hN q1 ⟨_, _, rfl⟩ dX12_give_15 mc_12_310 (c_X12_isOrder (d := d + 6) hN p5) rfl rfl (by decide) ?_
    refine bw_ifB_ne (b := v4) (tgt := 23) dX12_give_18 (by decide) (fun cc => ?_) (fun cc => ?_)
    · replace h := bu_bt h cc
      refine bv_aload_n dX12_give_23 0 rfl ?_
      refine bv_iload_n dX12_give_24 1 rfl ?_
      obtain ⟨v6, p7, h⟩ := bu_bd h
      refine bw_callV (As := [.int x1]) hN q1 ⟨_, _, rfl⟩ dX12_give_25 mc_12_290 (c_X12_browOf (d := d + 6) hN p7) rfl rfl (by decide) ?_
      refine bv_if_ne (tgt := 33) dX12_give_28 (by decide) (fun cc => ?_) (fun cc => ?_)
      · replace h := bu_f h cc
        refine bv_aload_n dX12_give_33 0 rfl ?_
        obtain ⟨v8, p9, h⟩ := bu_bd h
        refine bw_callVv (As := []) hN q1 ⟨_, _, rfl⟩ dX12_give_34 mc_12_344 (c_X12_keep (d := d + 7) hN p9) rfl rfl (by decide) ?_
        refine bv_aload_n dX12_give_37 0 rfl ?_
        refine bv_iload_n dX12_give_38 1 rfl ?_
        refine bv_iload_n dX12_give_39 2 rfl ?_
        obtain ⟨v10, p11, h⟩ := bu_bd h
        refine bw_callVv (As := [.int x1, .int x2]) hN q1 ⟨_, _, rfl⟩ dX12_give_40 mc_12_332 (c_X12_gives (d := d + 0) hN p11) rfl rfl (by decide) ?_
        refine bv_iconst (v := 0) dX12_give_43 (by decide) ?_
        obtain rfl := Option.some.inj h
        exact bv_iret (x := 0) dX12_give_44 rfl ⟨rfl, rfl⟩
      · replace h := bu_t h cc
        refine bv_iconst (v := 1) dX12_give_31 (by decide) ?_
        obtain rfl := Option.some.inj h
        exact bv_iret (x := 1) dX12_give_32 rfl ⟨rfl, rfl⟩
    · replace h := bu_bf h cc
      refine bv_iconst (v := (-1)) dX12_give_21 (by decide) ?_
      obtain rfl := Option.some.inj h
      exact bv_iret (x := (-1)) dX12_give_22 rfl ⟨rfl, rfl⟩
def f_X12_turns (M : bm_M) (x0 : Nat) (x1 : Int32) (x2 : Int32) (x3 : Int32) : Option (Int32 × bm_M) := (if bm_io x0 11 then ((f_X12_isMan (bm_sI M x0 0 0) x0 x2).bind fun v2 => (if v2 = true then ((M.2.2 x0 6).bind fun a4 => (if bm_ia a4 0 x1 = true then (if ((bm_ishr ((bm_sI M x0 0 0).1 a4 x1.toNatClampNeg) x2) &&& 1) = x3 then some (1, (bm_sI M x0 0 0)) else ((f_X12_keep (bm_sI M x0 0 0) x0).bind fun v7 => ((v7.2.2 x0 6).bind fun a9 => (if bm_ia a9 0 x1 = true then some (0, (bm_sI v7 a9 x1.toNatClampNeg ((v7.1 a9 x1.toNatClampNeg) ^^^ (bm_ishl 1 x2)))) else none)))) else none)) else some ((-1), (bm_sI M x0 0 0)))) else none)
set_option maxHeartbeats 4000000 in
set_option maxRecDepth 100000 in
theorem c_X12_turns {L : bm_L} {d n : Nat} {M : bm_M} {x0 : Nat} {x1 : Int32} {x2 : Int32} {x3 : Int32} {v : Int32 × bm_M} (hN : 181 ≤ n) (h : f_X12_turns M x0 x1 x2 x3 = some v) : bm_C L m_X12_turns (d + 2) n n [.ref x0, .int x1, .int x2, .int x3] M (fun r M' => r = some (.int v.1) ∧ M' = v.2) := by
  refine bm_C.ofV (by decide) (Nat.le_of_ble_eq_true rfl) ?_
  show bm_V L m_X12_turns (d + 2) n n n 0 [(0, .ref x0), (1, .int x1), (2, .int x2), (3, .int x3)] [] M _
  unfold f_X12_turns at h
  refine bv_aload_n dX12_turns_0 0 rfl ?_
  refine bv_iconst (v := 0) dX12_turns_1 (by decide) ?_
  obtain ⟨q1, h⟩ := bu_io h
  refine bw_putI hN q1 dX12_turns_2 fl_12_1 rfl ?_
  refine bv_aload_n dX12_turns_5 0 rfl ?_
  refine bv_iload_n dX12_turns_6 2 rfl ?_
  obtain ⟨v2, p3, h⟩ := bu_bd h
  refine bw_callV (As := [.int x2]) hN q1 ⟨_, _, rfl⟩ dX12_turns_7 mc_12_303 (c_X12_isMan (d := d + 0) hN p3) rfl rfl (by decide) ?_
  refine bw_ifB_ne (b := v2) (tgt := 15) dX12_turns_10 (by decide) (fun cc => ?_) (fun cc => ?_)
  · replace h := bu_bt h cc
    refine bv_aload_n dX12_turns_15 0 rfl ?_
    obtain ⟨a4, e5, h⟩ := bu_bd h
    refine bw_getA (a := a4) hN q1 e5 dX12_turns_16 fl_12_33 rfl ?_
    refine bv_iload_n dX12_turns_19 1 rfl ?_
    obtain ⟨r6, h⟩ := bu_ia h
    refine bw_iald hN r6 dX12_turns_20 ?_
    refine bv_iload_n dX12_turns_21 2 rfl ?_
    refine bv_ishr dX12_turns_22 ?_
    refine bv_iconst (v := 1) dX12_turns_23 (by decide) ?_
    refine bv_iand dX12_turns_24 ?_
    refine bv_iload_n dX12_turns_25 3 rfl ?_
    refine bv_icmp_ne (tgt := 31) dX12_turns_26 (by decide) (fun cc => ?_) (fun cc => ?_)
    · replace h := bu_f h cc
      refine bv_aload_n dX12_turns_31 0 rfl ?_
      obtain ⟨v7, p8, h⟩ := bu_bd h
      refine bw_callVv (As := []) hN q1 ⟨_, _, rfl⟩ dX12_turns_32 mc_12_344 (c_X12_keep (d := d + 1) hN p8) rfl rfl (by decide) ?_
      refine bv_aload_n dX12_turns_35 0 rfl ?_
      obtain ⟨a9, e10, h⟩ := bu_bd h
      refine bw_getA (a := a9) hN q1 e10 dX12_turns_36 fl_12_33 rfl ?_
      refine bv_iload_n dX12_turns_39 1 rfl ?_
      refine bv_dup2 dX12_turns_40 rfl rfl ?_
      obtain ⟨r11, h⟩ := bu_ia h
      refine bw_iald hN r11 dX12_turns_41 ?_
      refine bv_iconst (v := 1) dX12_turns_42 (by decide) ?_
      refine bv_iload_n dX12_turns_43 2 rfl ?_
      refine bv_ishl dX12_turns_44 ?_
      refine bv_ixor dX12_turns_45 ?_
      refine bw_iast hN r11 dX12_turns_46 ?_
      refine bv_iconst (v := 0) dX12_turns_47 (by decide) ?_
      obtain rfl := Option.some.inj h
      exact bv_iret (x := 0) dX12_turns_48 rfl ⟨rfl, rfl⟩
    · replace h := bu_t h cc
      refine bv_iconst (v := 1) dX12_turns_29 (by decide) ?_
      obtain rfl := Option.some.inj h
      exact bv_iret (x := 1) dX12_turns_30 rfl ⟨rfl, rfl⟩
  · replace h := bu_bf h cc
    refine bv_iconst (v := (-1)) dX12_turns_13 (by decide) ?_
    obtain rfl := Option.some.inj h
    exact bv_iret (x := (-1)) dX12_turns_14 rfl ⟨rfl, rfl⟩
def f_X12_sleep (M : bm_M) (x0 : Nat) (x1 : Int32) : Option (Int32 × bm_M) := (if bm_io x0 11 then ((f_X12_turns M x0 63 x1 1).bind fun v2 => some (v2.1, v2.2)) else none)
set_option maxHeartbeats 4000000 in
set_option maxRecDepth 100000 in
theorem c_X12_sleep {L : bm_L} {d n : Nat} {M : bm_M} {x0 : Nat} {x1 : Int32} {v : Int32 × bm_M} (hN : 181 ≤ n) (h : f_X12_sleep M x0 x1 = some v) : bm_C L m_X12_sleep (d + 3) n n [.ref x0, .int x1] M (fun r M' => r = some (.int v.1) ∧ M' = v.2) := by
  refine bm_C.ofV (by decide) (Nat.le_of_ble_eq_true rfl) ?_
  show bm_V L m_X12_sleep (d + 3) n n n 0 [(0, .ref x0), (1, .int x1)] [] M _
  unfold f_X12_sleep at h
  refine bv_aload_n dX12_sleep_0 0 rfl ?_
  refine bv_bipush (v := 63) dX12_sleep_1 (by decide) ?_
  refine bv_iload_n dX12_sleep_3 1 rfl ?_
  refine bv_iconst (v := 1) dX12_sleep_4 (by decide) ?_
  obtain ⟨q1, h⟩ := bu_io h
  obtain ⟨v2, p3, h⟩ := bu_bd h
  refine bw_callV (As := [.int 63, .int x1, .int 1]) hN q1 ⟨_, _, rfl⟩ dX12_sleep_5 mc_12_347 (c_X12_turns (d := d + 0) hN p3) rfl rfl (by decide) ?_
  obtain rfl := Option.some.inj h
  exact bv_iret (x := v2.1) dX12_sleep_8 rfl ⟨rfl, rfl⟩
def f_X12_wake (M : bm_M) (x0 : Nat) (x1 : Int32) : Option (Int32 × bm_M) := (if bm_io x0 11 then ((f_X12_turns M x0 63 x1 0).bind fun v2 => some (v2.1, v2.2)) else none)
set_option maxHeartbeats 4000000 in
set_option maxRecDepth 100000 in
theorem c_X12_wake {L : bm_L} {d n : Nat} {M : bm_M} {x0 : Nat} {x1 : Int32} {v : Int32 × bm_M} (hN : 181 ≤ n) (h : f_X12_wake M x0 x1 = some v) : bm_C L m_X12_wake (d + 3) n n [.ref x0, .int x1] M (fun r M' => r = some (.int v.1) ∧ M' = v.2) := by
  refine bm_C.ofV (by decide) (Nat.le_of_ble_eq_true rfl) ?_
  show bm_V L m_X12_wake (d + 3) n n n 0 [(0, .ref x0), (1, .int x1)] [] M _
  unfold f_X12_wake at h
  refine bv_aload_n dX12_wake_0 0 rfl ?_
  refine bv_bipush (v := 63) dX12_wake_1 (by decide) ?_
  refine bv_iload_n dX12_wake_3 1 rfl ?_
  refine bv_iconst (v := 0) dX12_wake_4 (by decide) ?_
  obtain ⟨q1, h⟩ := bu_io h
  obtain ⟨v2, p3, h⟩ := bu_bd h
  refine bw_callV (As := [.int 63, .int x1, .int 0]) hN q1 ⟨_, _, rfl⟩ dX12_wake_5 mc_12_347 (c_X12_turns (d := d + 0) hN p3) rfl rfl (by decide) ?_
  obtain rfl := Option.some.inj h
  exact bv_iret (x := v2.1) dX12_wake_8 rfl ⟨rfl, rfl⟩
def f_X12_soot (M : bm_M) (x0 : Nat) (x1 : Int32) : Option (Int32 × bm_M) := (if bm_io x0 11 then ((f_X12_turns M x0 64 x1 1).bind fun v2 => some (v2.1, v2.2)) else none)
set_option maxHeartbeats 4000000 in
set_option maxRecDepth 100000 in
theorem c_X12_soot {L : bm_L} {d n : Nat} {M : bm_M} {x0 : Nat} {x1 : Int32} {v : Int32 × bm_M} (hN : 181 ≤ n) (h : f_X12_soot M x0 x1 = some v) : bm_C L m_X12_soot (d + 3) n n [.ref x0, .int x1] M (fun r M' => r = some (.int v.1) ∧ M' = v.2) := by
  refine bm_C.ofV (by decide) (Nat.le_of_ble_eq_true rfl) ?_
  show bm_V L m_X12_soot (d + 3) n n n 0 [(0, .ref x0), (1, .int x1)] [] M _
  unfold f_X12_soot at h
  refine bv_aload_n dX12_soot_0 0 rfl ?_
  refine bv_bipush (v := 64) dX12_soot_1 (by decide) ?_
  refine bv_iload_n dX12_soot_3 1 rfl ?_
  refine bv_iconst (v := 1) dX12_soot_4 (by decide) ?_
  obtain ⟨q1, h⟩ := bu_io h
  obtain ⟨v2, p3, h⟩ := bu_bd h
  refine bw_callV (As := [.int 64, .int x1, .int 1]) hN q1 ⟨_, _, rfl⟩ dX12_soot_5 mc_12_347 (c_X12_turns (d := d + 0) hN p3) rfl rfl (by decide) ?_
  obtain rfl := Option.some.inj h
  exact bv_iret (x := v2.1) dX12_soot_8 rfl ⟨rfl, rfl⟩
def f_X12_go (M : bm_M) (x0 : Nat) (x1 : Int32) (x2 : Int32) : Option (Int32 × bm_M) := (if bm_io x0 11 then ((f_X12_isMan (bm_sI M x0 0 0) x0 x1).bind fun v2 => (if v2 = true then (if (f_X12_isIn x2 0 3) = true then ((f_X12_whyGo (bm_sI M x0 0 0) x0 x1 x2).bind fun v4 => (if v4 ≤ 0 then ((f_X12_keep (bm_sI M x0 0 0) x0).bind fun v6 => ((f_X12_goes v6 x0 x1 x2).bind fun v8 => some (0, v8))) else some (1, (bm_sI M x0 0 0)))) else some ((-1), (bm_sI M x0 0 0))) else some ((-1), (bm_sI M x0 0 0)))) else none)
set_option maxHeartbeats 4000000 in
set_option maxRecDepth 100000 in
theorem c_X12_go {L : bm_L} {d n : Nat} {M : bm_M} {x0 : Nat} {x1 : Int32} {x2 : Int32} {v : Int32 × bm_M} (hN : 181 ≤ n) (h : f_X12_go M x0 x1 x2 = some v) : bm_C L m_X12_go (d + 2) n n [.ref x0, .int x1, .int x2] M (fun r M' => r = some (.int v.1) ∧ M' = v.2) := by
  refine bm_C.ofV (by decide) (Nat.le_of_ble_eq_true rfl) ?_
  show bm_V L m_X12_go (d + 2) n n n 0 [(0, .ref x0), (1, .int x1), (2, .int x2)] [] M _
  unfold f_X12_go at h
  refine bv_aload_n dX12_go_0 0 rfl ?_
  refine bv_iconst (v := 0) dX12_go_1 (by decide) ?_
  obtain ⟨q1, h⟩ := bu_io h
  refine bw_putI hN q1 dX12_go_2 fl_12_1 rfl ?_
  refine bv_aload_n dX12_go_5 0 rfl ?_
  refine bv_iload_n dX12_go_6 1 rfl ?_
  obtain ⟨v2, p3, h⟩ := bu_bd h
  refine bw_callV (As := [.int x1]) hN q1 ⟨_, _, rfl⟩ dX12_go_7 mc_12_303 (c_X12_isMan (d := d + 0) hN p3) rfl rfl (by decide) ?_
  refine bw_ifB_eq (b := v2) (tgt := 22) dX12_go_10 (by decide) (fun cc => ?_) (fun cc => ?_)
  · replace h := bu_bf h cc
    refine bv_iconst (v := (-1)) dX12_go_22 (by decide) ?_
    obtain rfl := Option.some.inj h
    exact bv_iret (x := (-1)) dX12_go_23 rfl ⟨rfl, rfl⟩
  · replace h := bu_bt h cc
    refine bv_iload_n dX12_go_13 2 rfl ?_
    refine bv_iconst (v := 0) dX12_go_14 (by decide) ?_
    refine bv_iconst (v := 3) dX12_go_15 (by decide) ?_
    refine bw_callS (As := [.int x2, .int 0, .int 3]) dX12_go_16 mc_12_206 (c_X12_isIn (d := d + 1) hN rfl) rfl rfl (by decide) ?_
    refine bw_ifB_ne (b := (f_X12_isIn x2 0 3)) (tgt := 24) dX12_go_19 (by decide) (fun cc => ?_) (fun cc => ?_)
    · replace h := bu_bt h cc
      refine bv_aload_n dX12_go_24 0 rfl ?_
      refine bv_iload_n dX12_go_25 1 rfl ?_
      refine bv_iload_n dX12_go_26 2 rfl ?_
      obtain ⟨v4, p5, h⟩ := bu_bd h
      refine bw_callV (As := [.int x1, .int x2]) hN q1 ⟨_, _, rfl⟩ dX12_go_27 mc_12_351 (c_X12_whyGo (d := d + 0) hN p5) rfl rfl (by decide) ?_
      refine bv_if_le (tgt := 35) dX12_go_30 (by decide) (fun cc => ?_) (fun cc => ?_)
      · replace h := bu_t h cc
        refine bv_aload_n dX12_go_35 0 rfl ?_
        obtain ⟨v6, p7, h⟩ := bu_bd h
        refine bw_callVv (As := []) hN q1 ⟨_, _, rfl⟩ dX12_go_36 mc_12_344 (c_X12_keep (d := d + 1) hN p7) rfl rfl (by decide) ?_
        refine bv_aload_n dX12_go_39 0 rfl ?_
        refine bv_iload_n dX12_go_40 1 rfl ?_
        refine bv_iload_n dX12_go_41 2 rfl ?_
        obtain ⟨v8, p9, h⟩ := bu_bd h
        refine bw_callVv (As := [.int x1, .int x2]) hN q1 ⟨_, _, rfl⟩ dX12_go_42 mc_12_354 (c_X12_goes (d := d + 0) hN p9) rfl rfl (by decide) ?_
        refine bv_iconst (v := 0) dX12_go_45 (by decide) ?_
        obtain rfl := Option.some.inj h
        exact bv_iret (x := 0) dX12_go_46 rfl ⟨rfl, rfl⟩
      · replace h := bu_f h cc
        refine bv_iconst (v := 1) dX12_go_33 (by decide) ?_
        obtain rfl := Option.some.inj h
        exact bv_iret (x := 1) dX12_go_34 rfl ⟨rfl, rfl⟩
    · replace h := bu_bf h cc
      refine bv_iconst (v := (-1)) dX12_go_22 (by decide) ?_
      obtain rfl := Option.some.inj h
      exact bv_iret (x := (-1)) dX12_go_23 rfl ⟨rfl, rfl⟩
def f_X12_hours (M : bm_M) (x0 : Nat) (x1 : Int32) : Option (Int32 × bm_M) := (if bm_io x0 11 then (if (f_X12_isIn x1 1 60) = true then ((M.2.2 x0 6).bind fun a2 => (if bm_ia a2 0 61 = true then (if ((bm_sI M x0 0 0).1 a2 (61 : Int32).toNatClampNeg) = 400 then some (0, (bm_sI M x0 0 0)) else ((f_X12_keep (bm_sI M x0 0 0) x0).bind fun v5 => ((f_X12_goesOn v5 x0 x1).bind fun v7 => some (v7.1, v7.2)))) else none)) else some ((-1), (bm_sI M x0 0 0))) else none)
set_option maxHeartbeats 4000000 in
set_option maxRecDepth 100000 in
theorem c_X12_hours {L : bm_L} {d n : Nat} {M : bm_M} {x0 : Nat} {x1 : Int32} {v : Int32 × bm_M} (hN : 181 ≤ n) (h : f_X12_hours M x0 x1 = some v) : bm_C L m_X12_hours (d + 10) n n [.ref x0, .int x1] M (fun r M' => r = some (.int v.1) ∧ M' = v.2) := by
  refine bm_C.ofV (by decide) (Nat.le_of_ble_eq_true rfl) ?_
  show bm_V L m_X12_hours (d + 10) n n n 0 [(0, .ref x0), (1, .int x1)] [] M _
  unfold f_X12_hours at h
  refine bv_aload_n dX12_hours_0 0 rfl ?_
  refine bv_iconst (v := 0) dX12_hours_1 (by decide) ?_
  obtain ⟨q1, h⟩ := bu_io h
  refine bw_putI hN q1 dX12_hours_2 fl_12_1 rfl ?_
  refine bv_iload_n dX12_hours_5 1 rfl ?_
  refine bv_iconst (v := 1) dX12_hours_6 (by decide) ?_
  refine bv_bipush (v := 60) dX12_hours_7 (by decide) ?_
  refine bw_callS (As := [.int x1, .int 1, .int 60]) dX12_hours_9 mc_12_206 (c_X12_isIn (d := d + 9) hN rfl) rfl rfl (by decide) ?_
  refine bw_ifB_ne (b := (f_X12_isIn x1 1 60)) (tgt := 17) dX12_hours_12 (by decide) (fun cc => ?_) (fun cc => ?_)
  · replace h := bu_bt h cc
    refine bv_aload_n dX12_hours_17 0 rfl ?_
    obtain ⟨a2, e3, h⟩ := bu_bd h
    refine bw_getA (a := a2) hN q1 e3 dX12_hours_18 fl_12_33 rfl ?_
    refine bv_bipush (v := 61) dX12_hours_21 (by decide) ?_
    obtain ⟨r4, h⟩ := bu_ia h
    refine bw_iald hN r4 dX12_hours_23 ?_
    refine bv_sipush (v := 400) dX12_hours_24 (by decide) ?_
    refine bv_icmp_ne (tgt := 32) dX12_hours_27 (by decide) (fun cc => ?_) (fun cc => ?_)
    · replace h := bu_f h cc
      refine bv_aload_n dX12_hours_32 0 rfl ?_
      obtain ⟨v5, p6, h⟩ := bu_bd h
      refine bw_callVv (As := []) hN q1 ⟨_, _, rfl⟩ dX12_hours_33 mc_12_344 (c_X12_keep (d := d + 9) hN p6) rfl rfl (by decide) ?_
      refine bv_aload_n dX12_hours_36 0 rfl ?_
      refine bv_iload_n dX12_hours_37 1 rfl ?_
      obtain ⟨v7, p8, h⟩ := bu_bd h
      refine bw_callV (As := [.int x1]) hN q1 ⟨_, _, rfl⟩ dX12_hours_38 mc_12_357 (c_X12_goesOn (d := d + 0) hN p8) rfl rfl (by decide) ?_
      obtain rfl := Option.some.inj h
      exact bv_iret (x := v7.1) dX12_hours_41 rfl ⟨rfl, rfl⟩
    · replace h := bu_t h cc
      refine bv_iconst (v := 0) dX12_hours_30 (by decide) ?_
      obtain rfl := Option.some.inj h
      exact bv_iret (x := 0) dX12_hours_31 rfl ⟨rfl, rfl⟩
  · replace h := bu_bf h cc
    refine bv_iconst (v := (-1)) dX12_hours_15 (by decide) ?_
    obtain rfl := Option.some.inj h
    exact bv_iret (x := (-1)) dX12_hours_16 rfl ⟨rfl, rfl⟩
def f_X12_undo_l26 (x0 : Nat) : Nat → Int32 → bm_M → Option (bm_M)
  | 0, _, _ => none
  | k + 1, x1, M => (if 45 ≤ x1 then some M else ((M.2.2 x0 6).bind fun a1 => ((M.2.2 x0 22).bind fun a3 => (if bm_ia a3 0 ((45 * (M.1 x0 24)) + x1) = true then (if bm_ia a1 0 (61 + x1) = true then f_X12_undo_l26 x0 k (x1 + 1) (bm_sI M a1 (61 + x1).toNatClampNeg (M.1 a3 ((45 * (M.1 x0 24)) + x1).toNatClampNeg)) else none) else none))))
set_option maxHeartbeats 4000000 in
set_option maxRecDepth 100000 in
theorem v_X12_undo_l26 {L : bm_L} {d n : Nat} {Q : Option Value → bm_M → Prop} {x0 : Nat} (hN : 181 ≤ n) (q_0 : bm_OK x0 11) : ∀ (k : Nat) (x1 : Int32) (M : bm_M) (r : bm_M), f_X12_undo_l26 x0 k x1 M = some r → (∀ yy, yy = r → bm_V L m_X12_undo d n n n 61 [(0, .ref x0)] [] yy Q) → bm_V L m_X12_undo d n n n 26 [(0, .ref x0), (1, .int x1)] [] M Q := by
  intro k
  induction k with
  | zero => intro x1 M r h; cases (show (none : Option (bm_M)) = some r from h)
  | succ k ih =>
    intro x1 M r h K0
    unfold f_X12_undo_l26 at h
    refine bv_iload_n dX12_undo_26 1 rfl ?_
    refine bv_bipush (v := 45) dX12_undo_27 (by decide) ?_
    refine bv_icmp_ge (tgt := 61) dX12_undo_29 (by decide) (fun cc => ?_) (fun cc => ?_)
    · replace h := bu_t h cc
      refine bw_ls (ls1 := [(0, .ref x0)]) [0] rfl ?_
      obtain rfl := Option.some.inj h
      exact K0 _ rfl
    · replace h := bu_f h cc
      refine bv_aload_n dX12_undo_32 0 rfl ?_
      obtain ⟨a1, e2, h⟩ := bu_bd h
      refine bw_getA (a := a1) hN q_0 e2 dX12_undo_33 fl_12_33 rfl ?_
      refine bv_bipush (v := 61) dX12_undo_36 (by decide) ?_
      refine bv_iload_n dX12_undo_38 1 rfl ?_
      refine bv_iadd dX12_undo_39 ?_
      refine bv_aload_n dX12_undo_40 0 rfl ?_
      obtain ⟨a3, e4, h⟩ := bu_bd h
      refine bw_getA (a := a3) hN q_0 e4 dX12_undo_41 fl_12_53 rfl ?_
      refine bv_bipush (v := 45) dX12_undo_44 (by decide) ?_
      refine bv_aload_n dX12_undo_46 0 rfl ?_
      refine bw_getI hN q_0 dX12_undo_47 fl_12_276 rfl ?_
      refine bv_imul dX12_undo_50 ?_
      refine bv_iload_n dX12_undo_51 1 rfl ?_
      refine bv_iadd dX12_undo_52 ?_
      obtain ⟨r5, h⟩ := bu_ia h
      refine bw_iald hN r5 dX12_undo_53 ?_
      obtain ⟨r6, h⟩ := bu_ia h
      refine bw_iast hN r6 dX12_undo_54 ?_
      refine bv_iinc (j := 1) (v := (x1 + 1)) (ls1 := [(0, .ref x0), (1, .int (x1 + 1))]) dX12_undo_55 rfl rfl (by decide) rfl rfl ?_
      refine bv_goto (tgt := 26) dX12_undo_58 (by decide) ?_
      exact ih _ _ _ h K0
def f_X12_undo (M : bm_M) (x0 : Nat) : Option (Int32 × bm_M) := (if bm_io x0 11 then (if ((bm_sI M x0 0 0).1 x0 24) = 0 then some ((-1), (bm_sI M x0 0 0)) else ((f_X12_undo_l26 x0 1000 0 (bm_sI (bm_sI M x0 0 0) x0 24 (((bm_sI M x0 0 0).1 x0 24) - 1))).bind fun y4 => some ((y4.1 x0 24), y4))) else none)
set_option maxHeartbeats 4000000 in
set_option maxRecDepth 100000 in
theorem c_X12_undo {L : bm_L} {d n : Nat} {M : bm_M} {x0 : Nat} {v : Int32 × bm_M} (hN : 181 ≤ n) (h : f_X12_undo M x0 = some v) : bm_C L m_X12_undo d n n [.ref x0] M (fun r M' => r = some (.int v.1) ∧ M' = v.2) := by
  refine bm_C.ofV (by decide) (Nat.le_of_ble_eq_true rfl) ?_
  show bm_V L m_X12_undo d n n n 0 [(0, .ref x0)] [] M _
  unfold f_X12_undo at h
  refine bv_aload_n dX12_undo_0 0 rfl ?_
  refine bv_iconst (v := 0) dX12_undo_1 (by decide) ?_
  obtain ⟨q1, h⟩ := bu_io h
  refine bw_putI hN q1 dX12_undo_2 fl_12_1 rfl ?_
  refine bv_aload_n dX12_undo_5 0 rfl ?_
  refine bw_getI hN q1 dX12_undo_6 fl_12_276 rfl ?_
  refine bv_if_ne (tgt := 14) dX12_undo_9 (by decide) (fun cc => ?_) (fun cc => ?_)
  · replace h := bu_f h cc
    refine bv_aload_n dX12_undo_14 0 rfl ?_
    refine bv_dup dX12_undo_15 rfl ?_
    refine bw_getI hN q1 dX12_undo_16 fl_12_276 rfl ?_
    refine bv_iconst (v := 1) dX12_undo_19 (by decide) ?_
    refine bv_isub dX12_undo_20 ?_
    refine bw_putI hN q1 dX12_undo_21 fl_12_276 rfl ?_
    refine bv_iconst (v := 0) dX12_undo_24 (by decide) ?_
    refine bv_istore_n (ls1 := [(0, .ref x0), (1, .int 0)]) dX12_undo_25 (by decide) rfl rfl ?_
    obtain ⟨r2, p3, h⟩ := bu_bd h
    refine v_X12_undo_l26 hN q1 1000 _ _ _ p3 (fun y4 hy => ?_)
    · subst hy
      refine bv_aload_n dX12_undo_61 0 rfl ?_
      refine bw_getI hN q1 dX12_undo_62 fl_12_276 rfl ?_
      obtain rfl := Option.some.inj h
      exact bv_iret (x := (y4.1 x0 24)) dX12_undo_65 rfl ⟨rfl, rfl⟩
  · replace h := bu_t h cc
    refine bv_iconst (v := (-1)) dX12_undo_12 (by decide) ?_
    obtain rfl := Option.some.inj h
    exact bv_iret (x := (-1)) dX12_undo_13 rfl ⟨rfl, rfl⟩
def f_X12_tries_l2 (x0 : Nat) : Nat → Int32 → bm_M → Option (bm_M)
  | 0, _, _ => none
  | k + 1, x1, M => (if 45 ≤ x1 then some M else (if bm_io x0 11 then ((M.2.2 x0 23).bind fun a2 => ((M.2.2 x0 6).bind fun a4 => (if bm_ia a4 0 (61 + x1) = true then (if bm_ia a2 0 x1 = true then f_X12_tries_l2 x0 k (x1 + 1) (bm_sI M a2 x1.toNatClampNeg (M.1 a4 (61 + x1).toNatClampNeg)) else none) else none))) else none))
set_option maxHeartbeats 4000000 in
set_option maxRecDepth 100000 in
theorem v_X12_tries_l2 {L : bm_L} {d n : Nat} {Q : Option Value → bm_M → Prop} {x0 : Nat} (hN : 181 ≤ n) : ∀ (k : Nat) (x1 : Int32) (M : bm_M) (r : bm_M), f_X12_tries_l2 x0 k x1 M = some r → (∀ yy, yy = r → bm_V L m_X12_tries d n n n 29 [] [] yy Q) → bm_V L m_X12_tries d n n n 2 [(0, .ref x0), (1, .int x1)] [] M Q := by
  intro k
  induction k with
  | zero => intro x1 M r h; cases (show (none : Option (bm_M)) = some r from h)
  | succ k ih =>
    intro x1 M r h K0
    unfold f_X12_tries_l2 at h
    refine bv_iload_n dX12_tries_2 1 rfl ?_
    refine bv_bipush (v := 45) dX12_tries_3 (by decide) ?_
    refine bv_icmp_ge (tgt := 29) dX12_tries_5 (by decide) (fun cc => ?_) (fun cc => ?_)
    · replace h := bu_t h cc
      refine bw_ls (ls1 := []) [] rfl ?_
      obtain rfl := Option.some.inj h
      exact K0 _ rfl
    · replace h := bu_f h cc
      refine bv_aload_n dX12_tries_8 0 rfl ?_
      obtain ⟨q1, h⟩ := bu_io h
      obtain ⟨a2, e3, h⟩ := bu_bd h
      refine bw_getA (a := a2) hN q1 e3 dX12_tries_9 fl_12_56 rfl ?_
      refine bv_iload_n dX12_tries_12 1 rfl ?_
      refine bv_aload_n dX12_tries_13 0 rfl ?_
      obtain ⟨a4, e5, h⟩ := bu_bd h
      refine bw_getA (a := a4) hN q1 e5 dX12_tries_14 fl_12_33 rfl ?_
      refine bv_bipush (v := 61) dX12_tries_17 (by decide) ?_
      refine bv_iload_n dX12_tries_19 1 rfl ?_
      refine bv_iadd dX12_tries_20 ?_
      obtain ⟨r6, h⟩ := bu_ia h
      refine bw_iald hN r6 dX12_tries_21 ?_
      obtain ⟨r7, h⟩ := bu_ia h
      refine bw_iast hN r7 dX12_tries_22 ?_
      refine bv_iinc (j := 1) (v := (x1 + 1)) (ls1 := [(0, .ref x0), (1, .int (x1 + 1))]) dX12_tries_23 rfl rfl (by decide) rfl rfl ?_
      refine bv_goto (tgt := 2) dX12_tries_26 (by decide) ?_
      exact ih _ _ _ h K0
def f_X12_tries (M : bm_M) (x0 : Nat) : Option (bm_M) := ((f_X12_tries_l2 x0 1000 0 M).bind fun y3 => some y3)
set_option maxHeartbeats 4000000 in
set_option maxRecDepth 100000 in
theorem c_X12_tries {L : bm_L} {d n : Nat} {M : bm_M} {x0 : Nat} {v : bm_M} (hN : 181 ≤ n) (h : f_X12_tries M x0 = some v) : bm_C L m_X12_tries d n n [.ref x0] M (fun r M' => r = none ∧ M' = v) := by
  refine bm_C.ofV (by decide) (Nat.le_of_ble_eq_true rfl) ?_
  show bm_V L m_X12_tries d n n n 0 [(0, .ref x0)] [] M _
  unfold f_X12_tries at h
  refine bv_iconst (v := 0) dX12_tries_0 (by decide) ?_
  refine bv_istore_n (ls1 := [(0, .ref x0), (1, .int 0)]) dX12_tries_1 (by decide) rfl rfl ?_
  obtain ⟨r1, p2, h⟩ := bu_bd h
  refine v_X12_tries_l2 hN 1000 _ _ _ p2 (fun y3 hy => ?_)
  · subst hy
    obtain rfl := Option.some.inj h
    exact bv_vret dX12_tries_29 rfl ⟨rfl, rfl⟩
def f_X12_back_l2 (x0 : Nat) : Nat → Int32 → bm_M → Option (bm_M)
  | 0, _, _ => none
  | k + 1, x1, M => (if 45 ≤ x1 then some M else (if bm_io x0 11 then ((M.2.2 x0 6).bind fun a2 => ((M.2.2 x0 23).bind fun a4 => (if bm_ia a4 0 x1 = true then (if bm_ia a2 0 (61 + x1) = true then f_X12_back_l2 x0 k (x1 + 1) (bm_sI M a2 (61 + x1).toNatClampNeg (M.1 a4 x1.toNatClampNeg)) else none) else none))) else none))
set_option maxHeartbeats 4000000 in
set_option maxRecDepth 100000 in
theorem v_X12_back_l2 {L : bm_L} {d n : Nat} {Q : Option Value → bm_M → Prop} {x0 : Nat} (hN : 181 ≤ n) : ∀ (k : Nat) (x1 : Int32) (M : bm_M) (r : bm_M), f_X12_back_l2 x0 k x1 M = some r → (∀ yy, yy = r → bm_V L m_X12_back d n n n 29 [] [] yy Q) → bm_V L m_X12_back d n n n 2 [(0, .ref x0), (1, .int x1)] [] M Q := by
  intro k
  induction k with
  | zero => intro x1 M r h; cases (show (none : Option (bm_M)) = some r from h)
  | succ k ih =>
    intro x1 M r h K0
    unfold f_X12_back_l2 at h
    refine bv_iload_n dX12_back_2 1 rfl ?_
    refine bv_bipush (v := 45) dX12_back_3 (by decide) ?_
    refine bv_icmp_ge (tgt := 29) dX12_back_5 (by decide) (fun cc => ?_) (fun cc => ?_)
    · replace h := bu_t h cc
      refine bw_ls (ls1 := []) [] rfl ?_
      obtain rfl := Option.some.inj h
      exact K0 _ rfl
    · replace h := bu_f h cc
      refine bv_aload_n dX12_back_8 0 rfl ?_
      obtain ⟨q1, h⟩ := bu_io h
      obtain ⟨a2, e3, h⟩ := bu_bd h
      refine bw_getA (a := a2) hN q1 e3 dX12_back_9 fl_12_33 rfl ?_
      refine bv_bipush (v := 61) dX12_back_12 (by decide) ?_
      refine bv_iload_n dX12_back_14 1 rfl ?_
      refine bv_iadd dX12_back_15 ?_
      refine bv_aload_n dX12_back_16 0 rfl ?_
      obtain ⟨a4, e5, h⟩ := bu_bd h
      refine bw_getA (a := a4) hN q1 e5 dX12_back_17 fl_12_56 rfl ?_
      refine bv_iload_n dX12_back_20 1 rfl ?_
      obtain ⟨r6, h⟩ := bu_ia h
      refine bw_iald hN r6 dX12_back_21 ?_
      obtain ⟨r7, h⟩ := bu_ia h
      refine bw_iast hN r7 dX12_back_22 ?_
      refine bv_iinc (j := 1) (v := (x1 + 1)) (ls1 := [(0, .ref x0), (1, .int (x1 + 1))]) dX12_back_23 rfl rfl (by decide) rfl rfl ?_
      refine bv_goto (tgt := 2) dX12_back_26 (by decide) ?_
      exact ih _ _ _ h K0
def f_X12_back (M : bm_M) (x0 : Nat) : Option (bm_M) := ((f_X12_back_l2 x0 1000 0 M).bind fun y3 => some y3)
set_option maxHeartbeats 4000000 in
set_option maxRecDepth 100000 in
theorem c_X12_back {L : bm_L} {d n : Nat} {M : bm_M} {x0 : Nat} {v : bm_M} (hN : 181 ≤ n) (h : f_X12_back M x0 = some v) : bm_C L m_X12_back d n n [.ref x0] M (fun r M' => r = none ∧ M' = v) := by
  refine bm_C.ofV (by decide) (Nat.le_of_ble_eq_true rfl) ?_
  show bm_V L m_X12_back d n n n 0 [(0, .ref x0)] [] M _
  unfold f_X12_back at h
  refine bv_iconst (v := 0) dX12_back_0 (by decide) ?_
  refine bv_istore_n (ls1 := [(0, .ref x0), (1, .int 0)]) dX12_back_1 (by decide) rfl rfl ?_
  obtain ⟨r1, p2, h⟩ := bu_bd h
  refine v_X12_back_l2 hN 1000 _ _ _ p2 (fun y3 hy => ?_)
  · subst hy
    obtain rfl := Option.some.inj h
    exact bv_vret dX12_back_29 rfl ⟨rfl, rfl⟩
def f_X12_sees (M : bm_M) (x0 : Nat) (x1 : Int32) : Option (Int32 × bm_M) := (if bm_io x0 11 then ((f_X12_isMan (bm_sI M x0 0 0) x0 x1).bind fun v2 => (if v2 = true then ((f_X12_seenBy (bm_sI M x0 0 0) x0 x1).bind fun v4 => some (v4, (bm_sI M x0 0 0))) else some ((-1), (bm_sI M x0 0 0)))) else none)
set_option maxHeartbeats 4000000 in
set_option maxRecDepth 100000 in
theorem c_X12_sees {L : bm_L} {d n : Nat} {M : bm_M} {x0 : Nat} {x1 : Int32} {v : Int32 × bm_M} (hN : 181 ≤ n) (h : f_X12_sees M x0 x1 = some v) : bm_C L m_X12_sees (d + 5) n n [.ref x0, .int x1] M (fun r M' => r = some (.int v.1) ∧ M' = v.2) := by
  refine bm_C.ofV (by decide) (Nat.le_of_ble_eq_true rfl) ?_
  show bm_V L m_X12_sees (d + 5) n n n 0 [(0, .ref x0), (1, .int x1)] [] M _
  unfold f_X12_sees at h
  refine bv_aload_n dX12_sees_0 0 rfl ?_
  refine bv_iconst (v := 0) dX12_sees_1 (by decide) ?_
  obtain ⟨q1, h⟩ := bu_io h
  refine bw_putI hN q1 dX12_sees_2 fl_12_1 rfl ?_
  refine bv_aload_n dX12_sees_5 0 rfl ?_
  refine bv_iload_n dX12_sees_6 1 rfl ?_
  obtain ⟨v2, p3, h⟩ := bu_bd h
  refine bw_callV (As := [.int x1]) hN q1 ⟨_, _, rfl⟩ dX12_sees_7 mc_12_303 (c_X12_isMan (d := d + 3) hN p3) rfl rfl (by decide) ?_
  refine bw_ifB_eq (b := v2) (tgt := 21) dX12_sees_10 (by decide) (fun cc => ?_) (fun cc => ?_)
  · replace h := bu_bf h cc
    refine bv_iconst (v := (-1)) dX12_sees_21 (by decide) ?_
    obtain rfl := Option.some.inj h
    exact bv_iret (x := (-1)) dX12_sees_22 rfl ⟨rfl, rfl⟩
  · replace h := bu_bt h cc
    refine bv_aload_n dX12_sees_13 0 rfl ?_
    refine bv_iload_n dX12_sees_14 1 rfl ?_
    obtain ⟨v4, p5, h⟩ := bu_bd h
    refine bw_callV (As := [.int x1]) hN q1 ⟨_, _, rfl⟩ dX12_sees_15 mc_12_360 (c_X12_seenBy (d := d + 0) hN p5) rfl rfl (by decide) ?_
    refine bv_goto (tgt := 22) dX12_sees_18 (by decide) ?_
    obtain rfl := Option.some.inj h
    exact bv_iret (x := v4) dX12_sees_22 rfl ⟨rfl, rfl⟩
def f_X12_reads (M : bm_M) (x0 : Nat) (x1 : Int32) : Option (Int32 × bm_M) := (if bm_io x0 11 then ((f_X12_isMan (bm_sI M x0 0 0) x0 x1).bind fun v2 => (if v2 = true then ((f_X12_readersOf (bm_sI M x0 0 0) x0 x1).bind fun v4 => some (v4, (bm_sI M x0 0 0))) else some ((-1), (bm_sI M x0 0 0)))) else none)
set_option maxHeartbeats 4000000 in
set_option maxRecDepth 100000 in
theorem c_X12_reads {L : bm_L} {d n : Nat} {M : bm_M} {x0 : Nat} {x1 : Int32} {v : Int32 × bm_M} (hN : 181 ≤ n) (h : f_X12_reads M x0 x1 = some v) : bm_C L m_X12_reads (d + 6) n n [.ref x0, .int x1] M (fun r M' => r = some (.int v.1) ∧ M' = v.2) := by
  refine bm_C.ofV (by decide) (Nat.le_of_ble_eq_true rfl) ?_
  show bm_V L m_X12_reads (d + 6) n n n 0 [(0, .ref x0), (1, .int x1)] [] M _
  unfold f_X12_reads at h
  refine bv_aload_n dX12_reads_0 0 rfl ?_
  refine bv_iconst (v := 0) dX12_reads_1 (by decide) ?_
  obtain ⟨q1, h⟩ := bu_io h
  refine bw_putI hN q1 dX12_reads_2 fl_12_1 rfl ?_
  refine bv_aload_n dX12_reads_5 0 rfl ?_
  refine bv_iload_n dX12_reads_6 1 rfl ?_
  obtain ⟨v2, p3, h⟩ := bu_bd h
  refine bw_callV (As := [.int x1]) hN q1 ⟨_, _, rfl⟩ dX12_reads_7 mc_12_303 (c_X12_isMan (d := d + 4) hN p3) rfl rfl (by decide) ?_
  refine bw_ifB_eq (b := v2) (tgt := 21) dX12_reads_10 (by decide) (fun cc => ?_) (fun cc => ?_)
  · replace h := bu_bf h cc
    refine bv_iconst (v := (-1)) dX12_reads_21 (by decide) ?_
    obtain rfl := Option.some.inj h
    exact bv_iret (x := (-1)) dX12_reads_22 rfl ⟨rfl, rfl⟩
  · replace h := bu_bt h cc
    refine bv_aload_n dX12_reads_13 0 rfl ?_
    refine bv_iload_n dX12_reads_14 1 rfl ?_
    obtain ⟨v4, p5, h⟩ := bu_bd h
    refine bw_callV (As := [.int x1]) hN q1 ⟨_, _, rfl⟩ dX12_reads_15 mc_12_322 (c_X12_readersOf (d := d + 0) hN p5) rfl rfl (by decide) ?_
    refine bv_goto (tgt := 22) dX12_reads_18 (by decide) ?_
    obtain rfl := Option.some.inj h
    exact bv_iret (x := v4) dX12_reads_22 rfl ⟨rfl, rfl⟩
def f_X12_foes (M : bm_M) (x0 : Nat) (x1 : Int32) : Option (Int32 × bm_M) := (if bm_io x0 11 then ((f_X12_isMan (bm_sI M x0 0 0) x0 x1).bind fun v2 => (if v2 = true then ((M.2.2 x0 6).bind fun a4 => (if bm_ia a4 0 (66 + x1) = true then (if bm_ia a4 0 (74 + x1) = true then ((f_X12_foesOf (bm_sI M x0 0 0) x0 x1 ((bm_sI M x0 0 0).1 a4 (66 + x1).toNatClampNeg) ((bm_sI M x0 0 0).1 a4 (74 + x1).toNatClampNeg)).bind fun v8 => some (v8, (bm_sI M x0 0 0))) else none) else none)) else some ((-1), (bm_sI M x0 0 0)))) else none)
set_option maxHeartbeats 4000000 in
set_option maxRecDepth 100000 in
theorem c_X12_foes {L : bm_L} {d n : Nat} {M : bm_M} {x0 : Nat} {x1 : Int32} {v : Int32 × bm_M} (hN : 181 ≤ n) (h : f_X12_foes M x0 x1 = some v) : bm_C L m_X12_foes (d + 4) n n [.ref x0, .int x1] M (fun r M' => r = some (.int v.1) ∧ M' = v.2) := by
  refine bm_C.ofV (by decide) (Nat.le_of_ble_eq_true rfl) ?_
  show bm_V L m_X12_foes (d + 4) n n n 0 [(0, .ref x0), (1, .int x1)] [] M _
  unfold f_X12_foes at h
  refine bv_aload_n dX12_foes_0 0 rfl ?_
  refine bv_iconst (v := 0) dX12_foes_1 (by decide) ?_
  obtain ⟨q1, h⟩ := bu_io h
  refine bw_putI hN q1 dX12_foes_2 fl_12_1 rfl ?_
  refine bv_aload_n dX12_foes_5 0 rfl ?_
  refine bv_iload_n dX12_foes_6 1 rfl ?_
  obtain ⟨v2, p3, h⟩ := bu_bd h
  refine bw_callV (As := [.int x1]) hN q1 ⟨_, _, rfl⟩ dX12_foes_7 mc_12_303 (c_X12_isMan (d := d + 2) hN p3) rfl rfl (by decide) ?_
  refine bw_ifB_eq (b := v2) (tgt := 39) dX12_foes_10 (by decide) (fun cc => ?_) (fun cc => ?_)
  · replace h := bu_bf h cc
    refine bv_iconst (v := (-1)) dX12_foes_39 (by decide) ?_
    obtain rfl := Option.some.inj h
    exact bv_iret (x := (-1)) dX12_foes_40 rfl ⟨rfl, rfl⟩
  · replace h := bu_bt h cc
    refine bv_aload_n dX12_foes_13 0 rfl ?_
    refine bv_iload_n dX12_foes_14 1 rfl ?_
    refine bv_aload_n dX12_foes_15 0 rfl ?_
    obtain ⟨a4, e5, h⟩ := bu_bd h
    refine bw_getA (a := a4) hN q1 e5 dX12_foes_16 fl_12_33 rfl ?_
    refine bv_bipush (v := 66) dX12_foes_19 (by decide) ?_
    refine bv_iload_n dX12_foes_21 1 rfl ?_
    refine bv_iadd dX12_foes_22 ?_
    obtain ⟨r6, h⟩ := bu_ia h
    refine bw_iald hN r6 dX12_foes_23 ?_
    refine bv_aload_n dX12_foes_24 0 rfl ?_
    refine bw_getA (a := a4) hN q1 e5 dX12_foes_25 fl_12_33 rfl ?_
    refine bv_bipush (v := 74) dX12_foes_28 (by decide) ?_
    refine bv_iload_n dX12_foes_30 1 rfl ?_
    refine bv_iadd dX12_foes_31 ?_
    obtain ⟨r7, h⟩ := bu_ia h
    refine bw_iald hN r7 dX12_foes_32 ?_
    obtain ⟨v8, p9, h⟩ := bu_bd h
    refine bw_callV (As := [.int x1, .int ((bm_sI M x0 0 0).1 a4 (66 + x1).toNatClampNeg), .int ((bm_sI M x0 0 0).1 a4 (74 + x1).toNatClampNeg)]) hN q1 ⟨_, _, rfl⟩ dX12_foes_33 mc_12_363 (c_X12_foesOf (d := d + 0) hN p9) rfl rfl (by decide) ?_
    refine bv_goto (tgt := 40) dX12_foes_36 (by decide) ?_
    obtain rfl := Option.some.inj h
    exact bv_iret (x := v8) dX12_foes_40 rfl ⟨rfl, rfl⟩
def f_X12_reachOf (M : bm_M) (x0 : Nat) (x1 : Int32) (x2 : Int32) : Option (Int32 × bm_M) := (if bm_io x0 11 then ((f_X12_tries M x0).bind fun v2 => ((f_X12_gives v2 x0 x1 x2).bind fun v4 => ((f_X12_goesOn v4 x0 20).bind fun v6 => ((f_X12_havers v6.2 x0 x2).bind fun v8 => ((f_X12_back v6.2 x0).bind fun v10 => some (v8, v10)))))) else none)
set_option maxHeartbeats 4000000 in
set_option maxRecDepth 100000 in
theorem c_X12_reachOf {L : bm_L} {d n : Nat} {M : bm_M} {x0 : Nat} {x1 : Int32} {x2 : Int32} {v : Int32 × bm_M} (hN : 181 ≤ n) (h : f_X12_reachOf M x0 x1 x2 = some v) : bm_C L m_X12_reachOf (d + 10) n n [.ref x0, .int x1, .int x2] M (fun r M' => r = some (.int v.1) ∧ M' = v.2) := by
  refine bm_C.ofV (by decide) (Nat.le_of_ble_eq_true rfl) ?_
  show bm_V L m_X12_reachOf (d + 10) n n n 0 [(0, .ref x0), (1, .int x1), (2, .int x2)] [] M _
  unfold f_X12_reachOf at h
  refine bv_aload_n dX12_reachOf_0 0 rfl ?_
  obtain ⟨q1, h⟩ := bu_io h
  obtain ⟨v2, p3, h⟩ := bu_bd h
  refine bw_callVv (As := []) hN q1 ⟨_, _, rfl⟩ dX12_reachOf_1 mc_12_366 (c_X12_tries (d := d + 9) hN p3) rfl rfl (by decide) ?_
  refine bv_aload_n dX12_reachOf_4 0 rfl ?_
  refine bv_iload_n dX12_reachOf_5 1 rfl ?_
  refine bv_iload_n dX12_reachOf_6 2 rfl ?_
  obtain ⟨v4, p5, h⟩ := bu_bd h
  refine bw_callVv (As := [.int x1, .int x2]) hN q1 ⟨_, _, rfl⟩ dX12_reachOf_7 mc_12_332 (c_X12_gives (d := d + 2) hN p5) rfl rfl (by decide) ?_
  refine bv_aload_n dX12_reachOf_10 0 rfl ?_
  refine bv_bipush (v := 20) dX12_reachOf_11 (by decide) ?_
  obtain ⟨v6, p7, h⟩ := bu_bd h
  refine bw_callV (As := [.int 20]) hN q1 ⟨_, _, rfl⟩ dX12_reachOf_13 mc_12_357 (c_X12_goesOn (d := d + 0) hN p7) rfl rfl (by decide) ?_
  refine bv_pop dX12_reachOf_16 rfl ?_
  refine bv_aload_n dX12_reachOf_17 0 rfl ?_
  refine bv_iload_n dX12_reachOf_18 2 rfl ?_
  obtain ⟨v8, p9, h⟩ := bu_bd h
  refine bw_callV (As := [.int x2]) hN q1 ⟨_, _, rfl⟩ dX12_reachOf_19 mc_12_313 (c_X12_havers (d := d + 9) hN p9) rfl rfl (by decide) ?_
  refine bv_istore_n (ls1 := [(0, .ref x0), (1, .int x1), (2, .int x2), (3, .int v8)]) dX12_reachOf_22 (by decide) rfl rfl ?_
  refine bv_aload_n dX12_reachOf_23 0 rfl ?_
  obtain ⟨v10, p11, h⟩ := bu_bd h
  refine bw_callVv (As := []) hN q1 ⟨_, _, rfl⟩ dX12_reachOf_24 mc_12_369 (c_X12_back (d := d + 9) hN p11) rfl rfl (by decide) ?_
  refine bv_iload_n dX12_reachOf_27 3 rfl ?_
  obtain rfl := Option.some.inj h
  exact bv_iret (x := v8) dX12_reachOf_28 rfl ⟨rfl, rfl⟩
def f_X12_reach (M : bm_M) (x0 : Nat) (x1 : Int32) (x2 : Int32) : Option (Int32 × bm_M) := (if bm_io x0 11 then ((f_X12_isMan (bm_sI M x0 0 0) x0 x1).bind fun v2 => (if v2 = true then ((f_X12_isOrder (bm_sI M x0 0 0) x0 x2).bind fun v4 => (if v4 = true then ((f_X12_browOf (bm_sI M x0 0 0) x0 x1).bind fun v6 => (if v6 ≤ 0 then some ((-1), (bm_sI M x0 0 0)) else ((f_X12_reachOf (bm_sI M x0 0 0) x0 x1 x2).bind fun v8 => some (v8.1, v8.2)))) else some ((-1), (bm_sI M x0 0 0)))) else some ((-1), (bm_sI M x0 0 0)))) else none)
set_option maxHeartbeats 4000000 in
set_option maxRecDepth 100000 in
theorem c_X12_reach {L : bm_L} {d n : Nat} {M : bm_M} {x0 : Nat} {x1 : Int32} {x2 : Int32} {v : Int32 × bm_M} (hN : 181 ≤ n) (h : f_X12_reach M x0 x1 x2 = some v) : bm_C L m_X12_reach (d + 11) n n [.ref x0, .int x1, .int x2] M (fun r M' => r = some (.int v.1) ∧ M' = v.2) := by
  refine bm_C.ofV (by decide) (Nat.le_of_ble_eq_true rfl) ?_
  show bm_V L m_X12_reach (d + 11) n n n 0 [(0, .ref x0), (1, .int x1), (2, .int x2)] [] M _
  unfold f_X12_reach at h
  refine bv_aload_n dX12_reach_0 0 rfl ?_
  refine bv_iconst (v := 0) dX12_reach_1 (by decide) ?_
  obtain ⟨q1, h⟩ := bu_io h
  refine bw_putI hN q1 dX12_reach_2 fl_12_1 rfl ?_
  refine bv_aload_n dX12_reach_5 0 rfl ?_
  refine bv_iload_n dX12_reach_6 1 rfl ?_
  obtain ⟨v2, p3, h⟩ := bu_bd h
  refine bw_callV (As := [.int x1]) hN q1 ⟨_, _, rfl⟩ dX12_reach_7 mc_12_303 (c_X12_isMan (d := d + 9) hN p3) rfl rfl (by decide) ?_
  refine bw_ifB_eq (b := v2) (tgt := 38) dX12_reach_10 (by decide) (fun cc => ?_) (fun cc => ?_)
  · replace h := bu_bf h cc
    refine bv_iconst (v := (-1)) dX12_reach_38 (by decide) ?_
    obtain rfl := Option.some.inj h
    exact bv_iret (x := (-1)) dX12_reach_39 rfl ⟨rfl, rfl⟩
  · replace h := bu_bt h cc
    refine bv_aload_n dX12_reach_13 0 rfl ?_
    refine bv_iload_n dX12_reach_14 2 rfl ?_
    obtain ⟨v4, p5, h⟩ := bu_bd h
    refine bw_callV (As := [.int x2]) hN q1 ⟨_, _, rfl⟩ dX12_reach_15 mc_12_310 (c_X12_isOrder (d := d + 9) hN p5) rfl rfl (by decide) ?_
    refine bw_ifB_eq (b := v4) (tgt := 38) dX12_reach_18 (by decide) (fun cc => ?_) (fun cc => ?_)
    · replace h := bu_bf h cc
      refine bv_iconst (v := (-1)) dX12_reach_38 (by decide) ?_
      obtain rfl := Option.some.inj h
      exact bv_iret (x := (-1)) dX12_reach_39 rfl ⟨rfl, rfl⟩
    · replace h := bu_bt h cc
      refine bv_aload_n dX12_reach_21 0 rfl ?_
      refine bv_iload_n dX12_reach_22 1 rfl ?_
      obtain ⟨v6, p7, h⟩ := bu_bd h
      refine bw_callV (As := [.int x1]) hN q1 ⟨_, _, rfl⟩ dX12_reach_23 mc_12_290 (c_X12_browOf (d := d + 9) hN p7) rfl rfl (by decide) ?_
      refine bv_if_le (tgt := 38) dX12_reach_26 (by decide) (fun cc => ?_) (fun cc => ?_)
      · replace h := bu_t h cc
        refine bv_iconst (v := (-1)) dX12_reach_38 (by decide) ?_
        obtain rfl := Option.some.inj h
        exact bv_iret (x := (-1)) dX12_reach_39 rfl ⟨rfl, rfl⟩
      · replace h := bu_f h cc
        refine bv_aload_n dX12_reach_29 0 rfl ?_
        refine bv_iload_n dX12_reach_30 1 rfl ?_
        refine bv_iload_n dX12_reach_31 2 rfl ?_
        obtain ⟨v8, p9, h⟩ := bu_bd h
        refine bw_callV (As := [.int x1, .int x2]) hN q1 ⟨_, _, rfl⟩ dX12_reach_32 mc_12_372 (c_X12_reachOf (d := d + 0) hN p9) rfl rfl (by decide) ?_
        refine bv_goto (tgt := 39) dX12_reach_35 (by decide) ?_
        obtain rfl := Option.some.inj h
        exact bv_iret (x := v8.1) dX12_reach_39 rfl ⟨rfl, rfl⟩
def f_X12_soon_l53 (x0 : Nat) (x2 : Int32) (x3 : Int32) : Nat → Int32 → Int32 → bm_M → Option (((Int32 × bm_M) ⊕ (Int32 × bm_M)))
  | 0, _, _, _ => none
  | k + 1, x4, x5, M => (if 20 < x5 then some (Sum.inr (x4, M)) else (if 0 ≤ x4 then some (Sum.inr (x4, M)) else ((f_X12_havers M x0 x2).bind fun v1 => (if (v1 &&& x3) = x3 then ((M.2.2 x0 6).bind fun a8 => (if bm_ia a8 0 61 = true then (if (M.1 a8 (61 : Int32).toNatClampNeg) = 400 then some (Sum.inl (x5, M)) else ((f_X12_hour M x0).bind fun v11 => f_X12_soon_l53 x0 x2 x3 k x5 (x5 + 1) v11)) else none)) else ((M.2.2 x0 6).bind fun a3 => (if bm_ia a3 0 61 = true then (if (M.1 a3 (61 : Int32).toNatClampNeg) = 400 then some (Sum.inl (x4, M)) else ((f_X12_hour M x0).bind fun v6 => f_X12_soon_l53 x0 x2 x3 k x4 (x5 + 1) v6)) else none))))))
set_option maxHeartbeats 4000000 in
set_option maxRecDepth 100000 in
theorem v_X12_soon_l53 {L : bm_L} {d n : Nat} {Q : Option Value → bm_M → Prop} {x0 : Nat} {x2 : Int32} {x3 : Int32} (hN : 181 ≤ n) (q_0 : bm_OK x0 11) : ∀ (k : Nat) (x4 : Int32) (x5 : Int32) (M : bm_M) (r : ((Int32 × bm_M) ⊕ (Int32 × bm_M))), f_X12_soon_l53 x0 x2 x3 k x4 x5 M = some r → (∀ yy, (Sum.inl yy) = r → bm_V L m_X12_soon (d + 9) n n n 93 [(0, .ref x0), (4, .int yy.1)] [] yy.2 Q) → (∀ yy, (Sum.inr yy) = r → bm_V L m_X12_soon (d + 9) n n n 106 [(0, .ref x0), (4, .int yy.1)] [] yy.2 Q) → bm_V L m_X12_soon (d + 9) n n n 53 [(0, .ref x0), (2, .int x2), (3, .int x3), (4, .int x4), (5, .int x5)] [] M Q := by
  intro k
  induction k with
  | zero => intro x4 x5 M r h; cases (show (none : Option (((Int32 × bm_M) ⊕ (Int32 × bm_M)))) = some r from h)
  | succ k ih =>
    intro x4 x5 M r h K0 K1
    unfold f_X12_soon_l53 at h
    refine bv_iload dX12_soon_53 4 rfl ?_
    refine bv_bipush (v := 20) dX12_soon_55 (by decide) ?_
    refine bv_icmp_gt (tgt := 106) dX12_soon_57 (by decide) (fun cc => ?_) (fun cc => ?_)
    · replace h := bu_t h cc
      refine bw_ls (ls1 := [(0, .ref x0), (4, .int x4)]) [0, 3] rfl ?_
      obtain rfl := Option.some.inj h
      exact K1 _ rfl
    · replace h := bu_f h cc
      refine bv_iload dX12_soon_60 3 rfl ?_
      refine bv_if_ge (tgt := 106) dX12_soon_62 (by decide) (fun cc => ?_) (fun cc => ?_)
      · replace h := bu_t h cc
        refine bw_ls (ls1 := [(0, .ref x0), (4, .int x4)]) [0, 3] rfl ?_
        obtain rfl := Option.some.inj h
        exact K1 _ rfl
      · replace h := bu_f h cc
        refine bv_aload_n dX12_soon_65 0 rfl ?_
        refine bv_iload_n dX12_soon_66 1 rfl ?_
        obtain ⟨v1, p2, h⟩ := bu_bd h
        refine bw_callV (As := [.int x2]) hN q_0 ⟨_, _, rfl⟩ dX12_soon_67 mc_12_313 (c_X12_havers (d := d + 8) hN p2) rfl rfl (by decide) ?_
        refine bv_iload_n dX12_soon_70 2 rfl ?_
        refine bv_iand dX12_soon_71 ?_
        refine bv_iload_n dX12_soon_72 2 rfl ?_
        refine bv_icmp_ne (tgt := 80) dX12_soon_73 (by decide) (fun cc => ?_) (fun cc => ?_)
        · replace h := bu_f h cc
          refine bv_aload_n dX12_soon_80 0 rfl ?_
          obtain ⟨a3, e4, h⟩ := bu_bd h
          refine bw_getA (a := a3) hN q_0 e4 dX12_soon_81 fl_12_33 rfl ?_
          refine bv_bipush (v := 61) dX12_soon_84 (by decide) ?_
          obtain ⟨r5, h⟩ := bu_ia h
          refine bw_iald hN r5 dX12_soon_86 ?_
          refine bv_sipush (v := 400) dX12_soon_87 (by decide) ?_
          refine bv_icmp_ne (tgt := 96) dX12_soon_90 (by decide) (fun cc => ?_) (fun cc => ?_)
          · replace h := bu_f h cc
            refine bv_aload_n dX12_soon_96 0 rfl ?_
            obtain ⟨v6, p7, h⟩ := bu_bd h
            refine bw_callVv (As := []) hN q_0 ⟨_, _, rfl⟩ dX12_soon_97 mc_12_335 (c_X12_hour (d := d + 0) hN p7) rfl rfl (by decide) ?_
            refine bv_iinc (j := 4) (v := (x5 + 1)) (ls1 := [(0, .ref x0), (2, .int x2), (3, .int x3), (4, .int x4), (5, .int (x5 + 1))]) dX12_soon_100 rfl rfl (by decide) rfl rfl ?_
            refine bv_goto (tgt := 53) dX12_soon_103 (by decide) ?_
            exact ih _ _ _ _ h K0 K1
          · replace h := bu_t h cc
            refine bw_ls (ls1 := [(0, .ref x0), (4, .int x4)]) [0, 3] rfl ?_
            obtain rfl := Option.some.inj h
            exact K0 _ rfl
        · replace h := bu_t h cc
          refine bv_iload dX12_soon_76 4 rfl ?_
          refine bv_istore (ls1 := [(0, .ref x0), (2, .int x2), (3, .int x3), (4, .int x5), (5, .int x5)]) dX12_soon_78 (by decide) rfl rfl ?_
          refine bv_aload_n dX12_soon_80 0 rfl ?_
          obtain ⟨a8, e9, h⟩ := bu_bd h
          refine bw_getA (a := a8) hN q_0 e9 dX12_soon_81 fl_12_33 rfl ?_
          refine bv_bipush (v := 61) dX12_soon_84 (by decide) ?_
          obtain ⟨r10, h⟩ := bu_ia h
          refine bw_iald hN r10 dX12_soon_86 ?_
          refine bv_sipush (v := 400) dX12_soon_87 (by decide) ?_
          refine bv_icmp_ne (tgt := 96) dX12_soon_90 (by decide) (fun cc => ?_) (fun cc => ?_)
          · replace h := bu_f h cc
            refine bv_aload_n dX12_soon_96 0 rfl ?_
            obtain ⟨v11, p12, h⟩ := bu_bd h
            refine bw_callVv (As := []) hN q_0 ⟨_, _, rfl⟩ dX12_soon_97 mc_12_335 (c_X12_hour (d := d + 0) hN p12) rfl rfl (by decide) ?_
            refine bv_iinc (j := 4) (v := (x5 + 1)) (ls1 := [(0, .ref x0), (2, .int x2), (3, .int x3), (4, .int x5), (5, .int (x5 + 1))]) dX12_soon_100 rfl rfl (by decide) rfl rfl ?_
            refine bv_goto (tgt := 53) dX12_soon_103 (by decide) ?_
            exact ih _ _ _ _ h K0 K1
          · replace h := bu_t h cc
            refine bw_ls (ls1 := [(0, .ref x0), (4, .int x5)]) [0, 3] rfl ?_
            obtain rfl := Option.some.inj h
            exact K0 _ rfl
def f_X12_soon (M : bm_M) (x0 : Nat) (x1 : Int32) (x2 : Int32) : Option (Int32 × bm_M) := (if bm_io x0 11 then ((f_X12_isMan (bm_sI M x0 0 0) x0 x1).bind fun v2 => (if v2 = true then ((f_X12_isOrder (bm_sI M x0 0 0) x0 x2).bind fun v4 => (if v4 = true then ((f_X12_browOf (bm_sI M x0 0 0) x0 x1).bind fun v6 => (if v6 = 0 then some ((-1), (bm_sI M x0 0 0)) else ((f_X12_allUnder (bm_sI M x0 0 0) x0 x1).bind fun v8 => ((f_X12_tries (bm_sI M x0 0 0) x0).bind fun v10 => ((f_X12_gives v10 x0 x1 x2).bind fun v12 => ((f_X12_soon_l53 x0 x2 v8 1000 (-1) 0 v12).bind fun rr => match rr with | (Sum.inl y16) => ((f_X12_back y16.2 x0).bind fun v17 => some (y16.1, v17)) | (Sum.inr y16) => ((f_X12_back y16.2 x0).bind fun v19 => some (y16.1, v19)))))))) else some ((-1), (bm_sI M x0 0 0)))) else some ((-1), (bm_sI M x0 0 0)))) else none)
set_option maxHeartbeats 4000000 in
set_option maxRecDepth 100000 in
theorem c_X12_soon {L : bm_L} {d n : Nat} {M : bm_M} {x0 : Nat} {x1 : Int32} {x2 : Int32} {v : Int32 × bm_M} (hN : 181 ≤ n) (h : f_X12_soon M x0 x1 x2 = some v) : bm_C L m_X12_soon (d + 9) n n [.ref x0, .int x1, .int x2] M (fun r M' => r = some (.int v.1) ∧ M' = v.2) := by
  refine bm_C.ofV (by decide) (Nat.le_of_ble_eq_true rfl) ?_
  show bm_V L m_X12_soon (d + 9) n n n 0 [(0, .ref x0), (1, .int x1), (2, .int x2)] [] M _
  unfold f_X12_soon at h
  refine bv_aload_n dX12_soon_0 0 rfl ?_
  refine bv_iconst (v := 0) dX12_soon_1 (by decide) ?_
  obtain ⟨q1, h⟩ := bu_io h
  refine bw_putI hN q1 dX12_soon_2 fl_12_1 rfl ?_
  refine bv_aload_n dX12_soon_5 0 rfl ?_
  refine bv_iload_n dX12_soon_6 1 rfl ?_
  obtain ⟨v2, p3, h⟩ := bu_bd h
  refine bw_callV (As := [.int x1]) hN q1 ⟨_, _, rfl⟩ dX12_soon_7 mc_12_303 (c_X12_isMan (d := d + 7) hN p3) rfl rfl (by decide) ?_
  refine bw_ifB_eq (b := v2) (tgt := 29) dX12_soon_10 (by decide) (fun cc => ?_) (fun cc => ?_)
  · replace h := bu_bf h cc
    refine bv_iconst (v := (-1)) dX12_soon_29 (by decide) ?_
    obtain rfl := Option.some.inj h
    exact bv_iret (x := (-1)) dX12_soon_30 rfl ⟨rfl, rfl⟩
  · replace h := bu_bt h cc
    refine bv_aload_n dX12_soon_13 0 rfl ?_
    refine bv_iload_n dX12_soon_14 2 rfl ?_
    obtain ⟨v4, p5, h⟩ := bu_bd h
    refine bw_callV (As := [.int x2]) hN q1 ⟨_, _, rfl⟩ dX12_soon_15 mc_12_310 (c_X12_isOrder (d := d + 7) hN p5) rfl rfl (by decide) ?_
    refine bw_ifB_eq (b := v4) (tgt := 29) dX12_soon_18 (by decide) (fun cc => ?_) (fun cc => ?_)
    · replace h := bu_bf h cc
      refine bv_iconst (v := (-1)) dX12_soon_29 (by decide) ?_
      obtain rfl := Option.some.inj h
      exact bv_iret (x := (-1)) dX12_soon_30 rfl ⟨rfl, rfl⟩
    · replace h := bu_bt h cc
      refine bv_aload_n dX12_soon_21 0 rfl ?_
      refine bv_iload_n dX12_soon_22 1 rfl ?_
      obtain ⟨v6, p7, h⟩ := bu_bd h
      refine bw_callV (As := [.int x1]) hN q1 ⟨_, _, rfl⟩ dX12_soon_23 mc_12_290 (c_X12_browOf (d := d + 7) hN p7) rfl rfl (by decide) ?_
      refine bv_if_ne (tgt := 31) dX12_soon_26 (by decide) (fun cc => ?_) (fun cc => ?_)
      · replace h := bu_f h cc
        refine bv_aload_n dX12_soon_31 0 rfl ?_
        refine bv_iload_n dX12_soon_32 1 rfl ?_
        obtain ⟨v8, p9, h⟩ := bu_bd h
        refine bw_callV (As := [.int x1]) hN q1 ⟨_, _, rfl⟩ dX12_soon_33 mc_12_375 (c_X12_allUnder (d := d + 8) hN p9) rfl rfl (by decide) ?_
        refine bv_istore_n (ls1 := [(0, .ref x0), (1, .int x1), (2, .int x2), (3, .int v8)]) dX12_soon_36 (by decide) rfl rfl ?_
        refine bv_aload_n dX12_soon_37 0 rfl ?_
        obtain ⟨v10, p11, h⟩ := bu_bd h
        refine bw_callVv (As := []) hN q1 ⟨_, _, rfl⟩ dX12_soon_38 mc_12_366 (c_X12_tries (d := d + 8) hN p11) rfl rfl (by decide) ?_
        refine bv_aload_n dX12_soon_41 0 rfl ?_
        refine bv_iload_n dX12_soon_42 1 rfl ?_
        refine bv_iload_n dX12_soon_43 2 rfl ?_
        obtain ⟨v12, p13, h⟩ := bu_bd h
        refine bw_callVv (As := [.int x1, .int x2]) hN q1 ⟨_, _, rfl⟩ dX12_soon_44 mc_12_332 (c_X12_gives (d := d + 1) hN p13) rfl rfl (by decide) ?_
        refine bv_iconst (v := (-1)) dX12_soon_47 (by decide) ?_
        refine bv_istore (ls1 := [(0, .ref x0), (1, .int x1), (2, .int x2), (3, .int v8), (4, .int (-1))]) dX12_soon_48 (by decide) rfl rfl ?_
        refine bv_iconst (v := 0) dX12_soon_50 (by decide) ?_
        refine bv_istore (ls1 := [(0, .ref x0), (1, .int x1), (2, .int x2), (3, .int v8), (4, .int (-1)), (5, .int 0)]) dX12_soon_51 (by decide) rfl rfl ?_
        refine bw_ls (ls1 := [(0, .ref x0), (2, .int x2), (3, .int v8), (4, .int (-1)), (5, .int 0)]) [0, 2, 3, 4, 5] rfl ?_
        obtain ⟨r14, p15, h⟩ := bu_bd h
        refine v_X12_soon_l53 hN q1 1000 _ _ _ _ p15 (fun y16 hy => ?_) (fun y16 hy => ?_)
        · subst hy
          refine bv_goto (tgt := 106) dX12_soon_93 (by decide) ?_
          refine bv_aload_n dX12_soon_106 0 rfl ?_
          obtain ⟨v17, p18, h⟩ := bu_bd h
          refine bw_callVv (As := []) hN q1 ⟨_, _, rfl⟩ dX12_soon_107 mc_12_369 (c_X12_back (d := d + 8) hN p18) rfl rfl (by decide) ?_
          refine bv_iload dX12_soon_110 1 rfl ?_
          obtain rfl := Option.some.inj h
          exact bv_iret (x := y16.1) dX12_soon_112 rfl ⟨rfl, rfl⟩
        · subst hy
          refine bv_aload_n dX12_soon_106 0 rfl ?_
          obtain ⟨v19, p20, h⟩ := bu_bd h
          refine bw_callVv (As := []) hN q1 ⟨_, _, rfl⟩ dX12_soon_107 mc_12_369 (c_X12_back (d := d + 8) hN p20) rfl rfl (by decide) ?_
          refine bv_iload dX12_soon_110 1 rfl ?_
          obtain rfl := Option.some.inj h
          exact bv_iret (x := y16.1) dX12_soon_112 rfl ⟨rfl, rfl⟩
      · replace h := bu_t h cc
        refine bv_iconst (v := (-1)) dX12_soon_29 (by decide) ?_
        obtain rfl := Option.some.inj h
        exact bv_iret (x := (-1)) dX12_soon_30 rfl ⟨rfl, rfl⟩
def f_X12_best_l22 (x0 : Nat) (x1 : Int32) : Nat → Int32 → Int32 → Int32 → bm_M → Option (Int32 × bm_M)
  | 0, _, _, _, _ => none
  | k + 1, x2, x3, x4, M => ((M.2.2 x0 6).bind fun a1 => (if bm_ia a1 0 0 = true then (if (M.1 a1 (0 : Int32).toNatClampNeg) ≤ x4 then some (x2, M) else ((f_X12_browOf M x0 x4).bind fun v4 => (if v4 = 0 then f_X12_best_l22 x0 x1 k x2 x3 (x4 + 1) M else ((f_X12_reachOf M x0 x4 x1).bind fun v6 => ((f_X12_bits v6.2 v6.1).bind fun v8 => (if x3 < v8 then f_X12_best_l22 x0 x1 k x4 v8 (x4 + 1) v6.2 else f_X12_best_l22 x0 x1 k x2 x3 (x4 + 1) v6.2)))))) else none))
set_option maxHeartbeats 4000000 in
set_option maxRecDepth 100000 in
theorem v_X12_best_l22 {L : bm_L} {d n : Nat} {Q : Option Value → bm_M → Prop} {x0 : Nat} {x1 : Int32} (hN : 181 ≤ n) (q_0 : bm_OK x0 11) : ∀ (k : Nat) (x2 : Int32) (x3 : Int32) (x4 : Int32) (M : bm_M) (r : Int32 × bm_M), f_X12_best_l22 x0 x1 k x2 x3 x4 M = some r → (∀ yy, yy = r → bm_V L m_X12_best (d + 11) n n n 78 [(2, .int yy.1)] [] yy.2 Q) → bm_V L m_X12_best (d + 11) n n n 22 [(0, .ref x0), (1, .int x1), (2, .int x2), (3, .int x3), (4, .int x4)] [] M Q := by
  intro k
  induction k with
  | zero => intro x2 x3 x4 M r h; cases (show (none : Option (Int32 × bm_M)) = some r from h)
  | succ k ih =>
    intro x2 x3 x4 M r h K0
    unfold f_X12_best_l22 at h
    refine bv_iload dX12_best_22 4 rfl ?_
    refine bv_aload_n dX12_best_24 0 rfl ?_
    obtain ⟨a1, e2, h⟩ := bu_bd h
    refine bw_getA (a := a1) hN q_0 e2 dX12_best_25 fl_12_33 rfl ?_
    refine bv_iconst (v := 0) dX12_best_28 (by decide) ?_
    obtain ⟨r3, h⟩ := bu_ia h
    refine bw_iald hN r3 dX12_best_29 ?_
    refine bv_icmp_ge (tgt := 78) dX12_best_30 (by decide) (fun cc => ?_) (fun cc => ?_)
    · replace h := bu_t h cc
      refine bw_ls (ls1 := [(2, .int x2)]) [2] rfl ?_
      obtain rfl := Option.some.inj h
      exact K0 _ rfl
    · replace h := bu_f h cc
      refine bv_aload_n dX12_best_33 0 rfl ?_
      refine bv_iload dX12_best_34 4 rfl ?_
      obtain ⟨v4, p5, h⟩ := bu_bd h
      refine bw_callV (As := [.int x4]) hN q_0 ⟨_, _, rfl⟩ dX12_best_36 mc_12_290 (c_X12_browOf (d := d + 9) hN p5) rfl rfl (by decide) ?_
      refine bv_if_ne (tgt := 45) dX12_best_39 (by decide) (fun cc => ?_) (fun cc => ?_)
      · replace h := bu_f h cc
        refine bv_aload_n dX12_best_45 0 rfl ?_
        refine bv_iload dX12_best_46 4 rfl ?_
        refine bv_iload_n dX12_best_48 1 rfl ?_
        obtain ⟨v6, p7, h⟩ := bu_bd h
        refine bw_callV (As := [.int x4, .int x1]) hN q_0 ⟨_, _, rfl⟩ dX12_best_49 mc_12_372 (c_X12_reachOf (d := d + 0) hN p7) rfl rfl (by decide) ?_
        obtain ⟨v8, p9, h⟩ := bu_bd h
        refine bw_callS (As := [.int v6.1]) dX12_best_52 mc_12_378 (c_X12_bits (d := d + 10) hN p9) rfl rfl (by decide) ?_
        refine bv_istore (ls1 := [(0, .ref x0), (1, .int x1), (2, .int x2), (3, .int x3), (4, .int x4), (5, .int v8)]) dX12_best_55 (by decide) rfl rfl ?_
        refine bv_iload dX12_best_57 5 rfl ?_
        refine bv_iload_n dX12_best_59 3 rfl ?_
        refine bv_icmp_gt (tgt := 66) dX12_best_60 (by decide) (fun cc => ?_) (fun cc => ?_)
        · replace h := bu_t h cc
          refine bv_iload dX12_best_66 5 rfl ?_
          refine bv_istore_n (ls1 := [(0, .ref x0), (1, .int x1), (2, .int x2), (3, .int v8), (4, .int x4), (5, .int v8)]) dX12_best_68 (by decide) rfl rfl ?_
          refine bv_iload dX12_best_69 4 rfl ?_
          refine bv_istore_n (ls1 := [(0, .ref x0), (1, .int x1), (2, .int x4), (3, .int v8), (4, .int x4), (5, .int v8)]) dX12_best_71 (by decide) rfl rfl ?_
          refine bv_iinc (j := 4) (v := (x4 + 1)) (ls1 := [(0, .ref x0), (1, .int x1), (2, .int x4), (3, .int v8), (4, .int (x4 + 1)), (5, .int v8)]) dX12_best_72 rfl rfl (by decide) rfl rfl ?_
          refine bv_goto (tgt := 22) dX12_best_75 (by decide) ?_
          refine bw_ls (ls1 := [(0, .ref x0), (1, .int x1), (2, .int x4), (3, .int v8), (4, .int (x4 + 1))]) [0, 1, 2, 3, 4] rfl ?_
          exact ih _ _ _ _ _ h K0
        · replace h := bu_f h cc
          refine bv_goto (tgt := 72) dX12_best_63 (by decide) ?_
          refine bv_iinc (j := 4) (v := (x4 + 1)) (ls1 := [(0, .ref x0), (1, .int x1), (2, .int x2), (3, .int x3), (4, .int (x4 + 1)), (5, .int v8)]) dX12_best_72 rfl rfl (by decide) rfl rfl ?_
          refine bv_goto (tgt := 22) dX12_best_75 (by decide) ?_
          refine bw_ls (ls1 := [(0, .ref x0), (1, .int x1), (2, .int x2), (3, .int x3), (4, .int (x4 + 1))]) [0, 1, 2, 3, 4] rfl ?_
          exact ih _ _ _ _ _ h K0
      · replace h := bu_t h cc
        refine bv_goto (tgt := 72) dX12_best_42 (by decide) ?_
        refine bv_iinc (j := 4) (v := (x4 + 1)) (ls1 := [(0, .ref x0), (1, .int x1), (2, .int x2), (3, .int x3), (4, .int (x4 + 1))]) dX12_best_72 rfl rfl (by decide) rfl rfl ?_
        refine bv_goto (tgt := 22) dX12_best_75 (by decide) ?_
        exact ih _ _ _ _ _ h K0
def f_X12_best (M : bm_M) (x0 : Nat) (x1 : Int32) : Option (Int32 × bm_M) := (if bm_io x0 11 then ((f_X12_isOrder (bm_sI M x0 0 0) x0 x1).bind fun v2 => (if v2 = true then ((f_X12_best_l22 x0 x1 1000 (-1) (-1) 0 (bm_sI M x0 0 0)).bind fun y6 => some (y6.1, y6.2)) else some ((-1), (bm_sI M x0 0 0)))) else none)
set_option maxHeartbeats 4000000 in
set_option maxRecDepth 100000 in
theorem c_X12_best {L : bm_L} {d n : Nat} {M : bm_M} {x0 : Nat} {x1 : Int32} {v : Int32 × bm_M} (hN : 181 ≤ n) (h : f_X12_best M x0 x1 = some v) : bm_C L m_X12_best (d + 11) n n [.ref x0, .int x1] M (fun r M' => r = some (.int v.1) ∧ M' = v.2) := by
  refine bm_C.ofV (by decide) (Nat.le_of_ble_eq_true rfl) ?_
  show bm_V L m_X12_best (d + 11) n n n 0 [(0, .ref x0), (1, .int x1)] [] M _
  unfold f_X12_best at h
  refine bv_aload_n dX12_best_0 0 rfl ?_
  refine bv_iconst (v := 0) dX12_best_1 (by decide) ?_
  obtain ⟨q1, h⟩ := bu_io h
  refine bw_putI hN q1 dX12_best_2 fl_12_1 rfl ?_
  refine bv_aload_n dX12_best_5 0 rfl ?_
  refine bv_iload_n dX12_best_6 1 rfl ?_
  obtain ⟨v2, p3, h⟩ := bu_bd h
  refine bw_callV (As := [.int x1]) hN q1 ⟨_, _, rfl⟩ dX12_best_7 mc_12_310 (c_X12_isOrder (d := d + 9) hN p3) rfl rfl (by decide) ?_
  refine bw_ifB_ne (b := v2) (tgt := 15) dX12_best_10 (by decide) (fun cc => ?_) (fun cc => ?_)
  · replace h := bu_bt h cc
    refine bv_iconst (v := (-1)) dX12_best_15 (by decide) ?_
    refine bv_istore_n (ls1 := [(0, .ref x0), (1, .int x1), (2, .int (-1))]) dX12_best_16 (by decide) rfl rfl ?_
    refine bv_iconst (v := (-1)) dX12_best_17 (by decide) ?_
    refine bv_istore_n (ls1 := [(0, .ref x0), (1, .int x1), (2, .int (-1)), (3, .int (-1))]) dX12_best_18 (by decide) rfl rfl ?_
    refine bv_iconst (v := 0) dX12_best_19 (by decide) ?_
    refine bv_istore (ls1 := [(0, .ref x0), (1, .int x1), (2, .int (-1)), (3, .int (-1)), (4, .int 0)]) dX12_best_20 (by decide) rfl rfl ?_
    obtain ⟨r4, p5, h⟩ := bu_bd h
    refine v_X12_best_l22 hN q1 1000 _ _ _ _ _ p5 (fun y6 hy => ?_)
    · subst hy
      refine bv_iload_n dX12_best_78 0 rfl ?_
      obtain rfl := Option.some.inj h
      exact bv_iret (x := y6.1) dX12_best_79 rfl ⟨rfl, rfl⟩
  · replace h := bu_bf h cc
    refine bv_iconst (v := (-1)) dX12_best_13 (by decide) ?_
    obtain rfl := Option.some.inj h
    exact bv_iret (x := (-1)) dX12_best_14 rfl ⟨rfl, rfl⟩
def f_X12_seersAt_l6 (M : bm_M) (x0 : Nat) (x1 : Int32) (x2 : Int32) (x3 : Int32) : Nat → Int32 → Int32 → Option (Int32)
  | 0, _, _ => none
  | k + 1, x4, x5 => (if bm_io x0 11 then ((M.2.2 x0 6).bind fun a2 => (if bm_ia a2 0 0 = true then (if (M.1 a2 (0 : Int32).toNatClampNeg) ≤ x5 then some x4 else (if bm_ia a2 0 (31 + x5) = true then (if (M.1 a2 (31 + x5).toNatClampNeg) = (x1 + 1) then ((f_X12_browOf M x0 x1).bind fun v6 => (if bm_ia a2 0 (66 + x5) = true then (if bm_ia a2 0 (74 + x5) = true then ((f_X12_isShown M x0 v6 x2 x3 (M.1 a2 (66 + x5).toNatClampNeg) (M.1 a2 (74 + x5).toNatClampNeg)).bind fun v10 => (if v10 = true then f_X12_seersAt_l6 M x0 x1 x2 x3 k (x4 + 1) (x5 + 1) else f_X12_seersAt_l6 M x0 x1 x2 x3 k (x4 + 0) (x5 + 1))) else none) else none)) else f_X12_seersAt_l6 M x0 x1 x2 x3 k (x4 + 0) (x5 + 1)) else none)) else none)) else none)
set_option maxHeartbeats 4000000 in
set_option maxRecDepth 100000 in
theorem v_X12_seersAt_l6 {L : bm_L} {d n : Nat} {Q : Option Value → bm_M → Prop} {M : bm_M} {x0 : Nat} {x1 : Int32} {x2 : Int32} {x3 : Int32} (hN : 181 ≤ n) : ∀ (k : Nat) (x4 : Int32) (x5 : Int32) (r : Int32), f_X12_seersAt_l6 M x0 x1 x2 x3 k x4 x5 = some r → (∀ yy, yy = r → bm_V L m_X12_seersAt (d + 3) n n n 83 [(4, .int yy)] [] M Q) → bm_V L m_X12_seersAt (d + 3) n n n 6 [(0, .ref x0), (1, .int x1), (2, .int x2), (3, .int x3), (4, .int x4), (5, .int x5)] [] M Q := by
  intro k
  induction k with
  | zero => intro x4 x5 r h; cases (show (none : Option (Int32)) = some r from h)
  | succ k ih =>
    intro x4 x5 r h K0
    unfold f_X12_seersAt_l6 at h
    refine bv_iload dX12_seersAt_6 5 rfl ?_
    refine bv_aload_n dX12_seersAt_8 0 rfl ?_
    obtain ⟨q1, h⟩ := bu_io h
    obtain ⟨a2, e3, h⟩ := bu_bd h
    refine bw_getA (a := a2) hN q1 e3 dX12_seersAt_9 fl_12_33 rfl ?_
    refine bv_iconst (v := 0) dX12_seersAt_12 (by decide) ?_
    obtain ⟨r4, h⟩ := bu_ia h
    refine bw_iald hN r4 dX12_seersAt_13 ?_
    refine bv_icmp_ge (tgt := 83) dX12_seersAt_14 (by decide) (fun cc => ?_) (fun cc => ?_)
    · replace h := bu_t h cc
      refine bw_ls (ls1 := [(4, .int x4)]) [4] rfl ?_
      obtain rfl := Option.some.inj h
      exact K0 _ rfl
    · replace h := bu_f h cc
      refine bv_iload dX12_seersAt_17 4 rfl ?_
      refine bv_aload_n dX12_seersAt_19 0 rfl ?_
      refine bw_getA (a := a2) hN q1 e3 dX12_seersAt_20 fl_12_33 rfl ?_
      refine bv_bipush (v := 31) dX12_seersAt_23 (by decide) ?_
      refine bv_iload dX12_seersAt_25 5 rfl ?_
      refine bv_iadd dX12_seersAt_27 ?_
      obtain ⟨r5, h⟩ := bu_ia h
      refine bw_iald hN r5 dX12_seersAt_28 ?_
      refine bv_iload_n dX12_seersAt_29 1 rfl ?_
      refine bv_iconst (v := 1) dX12_seersAt_30 (by decide) ?_
      refine bv_iadd dX12_seersAt_31 ?_
      refine bv_icmp_ne (tgt := 73) dX12_seersAt_32 (by decide) (fun cc => ?_) (fun cc => ?_)
      · replace h := bu_f h cc
        refine bv_iconst (v := 0) dX12_seersAt_73 (by decide) ?_
        refine bv_iadd dX12_seersAt_74 ?_
        refine bv_istore (ls1 := [(0, .ref x0), (1, .int x1), (2, .int x2), (3, .int x3), (4, .int (x4 + 0)), (5, .int x5)]) dX12_seersAt_75 (by decide) rfl rfl ?_
        refine bv_iinc (j := 5) (v := (x5 + 1)) (ls1 := [(0, .ref x0), (1, .int x1), (2, .int x2), (3, .int x3), (4, .int (x4 + 0)), (5, .int (x5 + 1))]) dX12_seersAt_77 rfl rfl (by decide) rfl rfl ?_
        refine bv_goto (tgt := 6) dX12_seersAt_80 (by decide) ?_
        exact ih _ _ _ h K0
      · replace h := bu_t h cc
        refine bv_aload_n dX12_seersAt_35 0 rfl ?_
        refine bv_aload_n dX12_seersAt_36 0 rfl ?_
        refine bv_iload_n dX12_seersAt_37 1 rfl ?_
        obtain ⟨v6, p7, h⟩ := bu_bd h
        refine bw_callV (As := [.int x1]) hN q1 ⟨_, _, rfl⟩ dX12_seersAt_38 mc_12_290 (c_X12_browOf (d := d + 1) hN p7) rfl rfl (Nat.le_of_ble_eq_true rfl) ?_
        refine bv_iload_n dX12_seersAt_41 2 rfl ?_
        refine bv_iload_n dX12_seersAt_42 3 rfl ?_
        refine bv_aload_n dX12_seersAt_43 0 rfl ?_
        refine bw_getA (a := a2) hN q1 e3 dX12_seersAt_44 fl_12_33 rfl ?_
        refine bv_bipush (v := 66) dX12_seersAt_47 (by decide) ?_
        refine bv_iload dX12_seersAt_49 5 rfl ?_
        refine bv_iadd dX12_seersAt_51 ?_
        obtain ⟨r8, h⟩ := bu_ia h
        refine bw_iald hN r8 dX12_seersAt_52 ?_
        refine bv_aload_n dX12_seersAt_53 0 rfl ?_
        refine bw_getA (a := a2) hN q1 e3 dX12_seersAt_54 fl_12_33 rfl ?_
        refine bv_bipush (v := 74) dX12_seersAt_57 (by decide) ?_
        refine bv_iload dX12_seersAt_59 5 rfl ?_
        refine bv_iadd dX12_seersAt_61 ?_
        obtain ⟨r9, h⟩ := bu_ia h
        refine bw_iald hN r9 dX12_seersAt_62 ?_
        obtain ⟨v10, p11, h⟩ := bu_bd h
        refine bw_callV (As := [.int v6, .int x2, .int x3, .int (M.1 a2 (66 + x5).toNatClampNeg), .int (M.1 a2 (74 + x5).toNatClampNeg)]) hN q1 ⟨_, _, rfl⟩ dX12_seersAt_63 mc_12_293 (c_X12_isShown (d := d + 0) hN p11) rfl rfl (Nat.le_of_ble_eq_true rfl) ?_
        refine bw_ifB_eq (b := v10) (tgt := 73) dX12_seersAt_66 (by decide) (fun cc => ?_) (fun cc => ?_)
        · replace h := bu_bf h cc
          refine bv_iconst (v := 0) dX12_seersAt_73 (by decide) ?_
          refine bv_iadd dX12_seersAt_74 ?_
          refine bv_istore (ls1 := [(0, .ref x0), (1, .int x1), (2, .int x2), (3, .int x3), (4, .int (x4 + 0)), (5, .int x5)]) dX12_seersAt_75 (by decide) rfl rfl ?_
          refine bv_iinc (j := 5) (v := (x5 + 1)) (ls1 := [(0, .ref x0), (1, .int x1), (2, .int x2), (3, .int x3), (4, .int (x4 + 0)), (5, .int (x5 + 1))]) dX12_seersAt_77 rfl rfl (by decide) rfl rfl ?_
          refine bv_goto (tgt := 6) dX12_seersAt_80 (by decide) ?_
          exact ih _ _ _ h K0
        · replace h := bu_bt h cc
          refine bv_iconst (v := 1) dX12_seersAt_69 (by decide) ?_
          refine bv_goto (tgt := 74) dX12_seersAt_70 (by decide) ?_
          refine bv_iadd dX12_seersAt_74 ?_
          refine bv_istore (ls1 := [(0, .ref x0), (1, .int x1), (2, .int x2), (3, .int x3), (4, .int (x4 + 1)), (5, .int x5)]) dX12_seersAt_75 (by decide) rfl rfl ?_
          refine bv_iinc (j := 5) (v := (x5 + 1)) (ls1 := [(0, .ref x0), (1, .int x1), (2, .int x2), (3, .int x3), (4, .int (x4 + 1)), (5, .int (x5 + 1))]) dX12_seersAt_77 rfl rfl (by decide) rfl rfl ?_
          refine bv_goto (tgt := 6) dX12_seersAt_80 (by decide) ?_
          exact ih _ _ _ h K0
def f_X12_seersAt (M : bm_M) (x0 : Nat) (x1 : Int32) (x2 : Int32) (x3 : Int32) : Option (Int32) := ((f_X12_seersAt_l6 M x0 x1 x2 x3 1000 0 0).bind fun y3 => some y3)
set_option maxHeartbeats 4000000 in
set_option maxRecDepth 100000 in
theorem c_X12_seersAt {L : bm_L} {d n : Nat} {M : bm_M} {x0 : Nat} {x1 : Int32} {x2 : Int32} {x3 : Int32} {v : Int32} (hN : 181 ≤ n) (h : f_X12_seersAt M x0 x1 x2 x3 = some v) : bm_C L m_X12_seersAt (d + 3) n n [.ref x0, .int x1, .int x2, .int x3] M (fun r M' => r = some (.int v) ∧ M' = M) := by
  refine bm_C.ofV (by decide) (Nat.le_of_ble_eq_true rfl) ?_
  show bm_V L m_X12_seersAt (d + 3) n n n 0 [(0, .ref x0), (1, .int x1), (2, .int x2), (3, .int x3)] [] M _
  unfold f_X12_seersAt at h
  refine bv_iconst (v := 0) dX12_seersAt_0 (by decide) ?_
  refine bv_istore (ls1 := [(0, .ref x0), (1, .int x1), (2, .int x2), (3, .int x3), (4, .int 0)]) dX12_seersAt_1 (by decide) rfl rfl ?_
  refine bv_iconst (v := 0) dX12_seersAt_3 (by decide) ?_
  refine bv_istore (ls1 := [(0, .ref x0), (1, .int x1), (2, .int x2), (3, .int x3), (4, .int 0), (5, .int 0)]) dX12_seersAt_4 (by decide) rfl rfl ?_
  obtain ⟨r1, p2, h⟩ := bu_bd h
  refine v_X12_seersAt_l6 hN 1000 _ _ _ p2 (fun y3 hy => ?_)
  · subst hy
    refine bv_iload dX12_seersAt_83 0 rfl ?_
    obtain rfl := Option.some.inj h
    exact bv_iret (x := y3) dX12_seersAt_85 rfl ⟨rfl, rfl⟩
def f_X12_stand_l34 (x0 : Nat) (x1 : Int32) (x4 : Int32) : Nat → Int32 → Int32 → Int32 → bm_M → Option (Int32 × Int32 × bm_M)
  | 0, _, _, _, _ => none
  | k + 1, x2, x3, x5, M => (if 30 < x5 then some (x2, x3, M) else ((f_X12_seersAt M x0 x1 x5 x4).bind fun v1 => ((M.2.2 x0 6).bind fun a3 => (if bm_ia a3 0 (66 + x1) = true then (if bm_ia a3 0 (74 + x1) = true then (if v1 < x2 then f_X12_stand_l34 x0 x1 x4 k x2 x3 (x5 + 1) M else (if v1 = x2 then (if (f_X12_farBy x5 x4 (M.1 a3 (66 + x1).toNatClampNeg) (M.1 a3 (74 + x1).toNatClampNeg)) < x3 then f_X12_stand_l34 x0 x1 x4 k v1 (f_X12_farBy x5 x4 (M.1 a3 (66 + x1).toNatClampNeg) (M.1 a3 (74 + x1).toNatClampNeg)) (x5 + 1) (bm_sI (bm_sI M x0 25 x5) x0 26 x4) else f_X12_stand_l34 x0 x1 x4 k x2 x3 (x5 + 1) M) else f_X12_stand_l34 x0 x1 x4 k v1 (f_X12_farBy x5 x4 (M.1 a3 (66 + x1).toNatClampNeg) (M.1 a3 (74 + x1).toNatClampNeg)) (x5 + 1) (bm_sI (bm_sI M x0 25 x5) x0 26 x4))) else none) else none))))
set_option maxHeartbeats 4000000 in
set_option maxRecDepth 100000 in
theorem v_X12_stand_l34 {L : bm_L} {d n : Nat} {Q : Option Value → bm_M → Prop} {x0 : Nat} {x1 : Int32} {x4 : Int32} (hN : 181 ≤ n) (q_0 : bm_OK x0 11) : ∀ (k : Nat) (x2 : Int32) (x3 : Int32) (x5 : Int32) (M : bm_M) (r : Int32 × Int32 × bm_M), f_X12_stand_l34 x0 x1 x4 k x2 x3 x5 M = some r → (∀ yy, yy = r → bm_V L m_X12_stand (d + 4) n n n 124 [(0, .ref x0), (1, .int x1), (2, .int yy.1), (3, .int yy.2.1), (4, .int x4)] [] yy.2.2 Q) → bm_V L m_X12_stand (d + 4) n n n 34 [(0, .ref x0), (1, .int x1), (2, .int x2), (3, .int x3), (4, .int x4), (5, .int x5)] [] M Q := by
  intro k
  induction k with
  | zero => intro x2 x3 x5 M r h; cases (show (none : Option (Int32 × Int32 × bm_M)) = some r from h)
  | succ k ih =>
    intro x2 x3 x5 M r h K0
    unfold f_X12_stand_l34 at h
    refine bv_iload dX12_stand_34 5 rfl ?_
    refine bv_bipush (v := 30) dX12_stand_36 (by decide) ?_
    refine bv_icmp_gt (tgt := 124) dX12_stand_38 (by decide) (fun cc => ?_) (fun cc => ?_)
    · replace h := bu_t h cc
      refine bw_ls (ls1 := [(0, .ref x0), (1, .int x1), (2, .int x2), (3, .int x3), (4, .int x4)]) [0, 1, 2, 3, 4] rfl ?_
      obtain rfl := Option.some.inj h
      exact K0 _ rfl
    · replace h := bu_f h cc
      refine bv_aload_n dX12_stand_41 0 rfl ?_
      refine bv_iload_n dX12_stand_42 1 rfl ?_
      refine bv_iload dX12_stand_43 5 rfl ?_
      refine bv_iload dX12_stand_45 4 rfl ?_
      obtain ⟨v1, p2, h⟩ := bu_bd h
      refine bw_callV (As := [.int x1, .int x5, .int x4]) hN q_0 ⟨_, _, rfl⟩ dX12_stand_47 mc_12_382 (c_X12_seersAt (d := d + 0) hN p2) rfl rfl (by decide) ?_
      refine bv_istore (ls1 := [(0, .ref x0), (1, .int x1), (2, .int x2), (3, .int x3), (4, .int x4), (5, .int x5), (6, .int v1)]) dX12_stand_50 (by decide) rfl rfl ?_
      refine bv_iload dX12_stand_52 5 rfl ?_
      refine bv_iload dX12_stand_54 4 rfl ?_
      refine bv_aload_n dX12_stand_56 0 rfl ?_
      obtain ⟨a3, e4, h⟩ := bu_bd h
      refine bw_getA (a := a3) hN q_0 e4 dX12_stand_57 fl_12_33 rfl ?_
      refine bv_bipush (v := 66) dX12_stand_60 (by decide) ?_
      refine bv_iload_n dX12_stand_62 1 rfl ?_
      refine bv_iadd dX12_stand_63 ?_
      obtain ⟨r5, h⟩ := bu_ia h
      refine bw_iald hN r5 dX12_stand_64 ?_
      refine bv_aload_n dX12_stand_65 0 rfl ?_
      refine bw_getA (a := a3) hN q_0 e4 dX12_stand_66 fl_12_33 rfl ?_
      refine bv_bipush (v := 74) dX12_stand_69 (by decide) ?_
      refine bv_iload_n dX12_stand_71 1 rfl ?_
      refine bv_iadd dX12_stand_72 ?_
      obtain ⟨r6, h⟩ := bu_ia h
      refine bw_iald hN r6 dX12_stand_73 ?_
      refine bw_callS (As := [.int x5, .int x4, .int (M.1 a3 (66 + x1).toNatClampNeg), .int (M.1 a3 (74 + x1).toNatClampNeg)]) dX12_stand_74 mc_12_286 (c_X12_farBy (d := d + 2) hN rfl) rfl rfl (by decide) ?_
      refine bv_istore (ls1 := [(0, .ref x0), (1, .int x1), (2, .int x2), (3, .int x3), (4, .int x4), (5, .int x5), (6, .int v1), (7, .int (f_X12_farBy x5 x4 (M.1 a3 (66 + x1).toNatClampNeg) (M.1 a3 (74 + x1).toNatClampNeg)))]) dX12_stand_77 (by decide) rfl rfl ?_
      refine bv_iload dX12_stand_79 6 rfl ?_
      refine bv_iload_n dX12_stand_81 2 rfl ?_
      refine bv_icmp_lt (tgt := 118) dX12_stand_82 (by decide) (fun cc => ?_) (fun cc => ?_)
      · replace h := bu_t h cc
        refine bv_iinc (j := 5) (v := (x5 + 1)) (ls1 := [(0, .ref x0), (1, .int x1), (2, .int x2), (3, .int x3), (4, .int x4), (5, .int (x5 + 1)), (6, .int v1), (7, .int (f_X12_farBy x5 x4 (M.1 a3 (66 + x1).toNatClampNeg) (M.1 a3 (74 + x1).toNatClampNeg)))]) dX12_stand_118 rfl rfl (by decide) rfl rfl ?_
        refine bv_goto (tgt := 34) dX12_stand_121 (by decide) ?_
        refine bw_ls (ls1 := [(0, .ref x0), (1, .int x1), (2, .int x2), (3, .int x3), (4, .int x4), (5, .int (x5 + 1))]) [0, 1, 2, 3, 4, 5] rfl ?_
        exact ih _ _ _ _ _ h K0
      · replace h := bu_f h cc
        refine bv_iload dX12_stand_85 6 rfl ?_
        refine bv_iload_n dX12_stand_87 2 rfl ?_
        refine bv_icmp_ne (tgt := 100) dX12_stand_88 (by decide) (fun cc => ?_) (fun cc => ?_)
        · replace h := bu_f h cc
          refine bv_iload dX12_stand_100 6 rfl ?_
          refine bv_istore_n (ls1 := [(0, .ref x0), (1, .int x1), (2, .int v1), (3, .int x3), (4, .int x4), (5, .int x5), (6, .int v1), (7, .int (f_X12_farBy x5 x4 (M.1 a3 (66 + x1).toNatClampNeg) (M.1 a3 (74 + x1).toNatClampNeg)))]) dX12_stand_102 (by decide) rfl rfl ?_
          refine bv_iload dX12_stand_103 7 rfl ?_
          refine bv_istore_n (ls1 := [(0, .ref x0), (1, .int x1), (2, .int v1), (3, .int (f_X12_farBy x5 x4 (M.1 a3 (66 + x1).toNatClampNeg) (M.1 a3 (74 + x1).toNatClampNeg))), (4, .int x4), (5, .int x5), (6, .int v1), (7, .int (f_X12_farBy x5 x4 (M.1 a3 (66 + x1).toNatClampNeg) (M.1 a3 (74 + x1).toNatClampNeg)))]) dX12_stand_105 (by decide) rfl rfl ?_
          refine bv_aload_n dX12_stand_106 0 rfl ?_
          refine bv_iload dX12_stand_107 5 rfl ?_
          refine bw_putI hN q_0 dX12_stand_109 fl_12_59 rfl ?_
          refine bv_aload_n dX12_stand_112 0 rfl ?_
          refine bv_iload dX12_stand_113 4 rfl ?_
          refine bw_putI hN q_0 dX12_stand_115 fl_12_62 rfl ?_
          refine bv_iinc (j := 5) (v := (x5 + 1)) (ls1 := [(0, .ref x0), (1, .int x1), (2, .int v1), (3, .int (f_X12_farBy x5 x4 (M.1 a3 (66 + x1).toNatClampNeg) (M.1 a3 (74 + x1).toNatClampNeg))), (4, .int x4), (5, .int (x5 + 1)), (6, .int v1), (7, .int (f_X12_farBy x5 x4 (M.1 a3 (66 + x1).toNatClampNeg) (M.1 a3 (74 + x1).toNatClampNeg)))]) dX12_stand_118 rfl rfl (by decide) rfl rfl ?_
          refine bv_goto (tgt := 34) dX12_stand_121 (by decide) ?_
          refine bw_ls (ls1 := [(0, .ref x0), (1, .int x1), (2, .int v1), (3, .int (f_X12_farBy x5 x4 (M.1 a3 (66 + x1).toNatClampNeg) (M.1 a3 (74 + x1).toNatClampNeg))), (4, .int x4), (5, .int (x5 + 1))]) [0, 1, 2, 3, 4, 5] rfl ?_
          exact ih _ _ _ _ _ h K0
        · replace h := bu_t h cc
          refine bv_iload dX12_stand_91 7 rfl ?_
          refine bv_iload_n dX12_stand_93 3 rfl ?_
          refine bv_icmp_lt (tgt := 100) dX12_stand_94 (by decide) (fun cc => ?_) (fun cc => ?_)
          · replace h := bu_t h cc
            refine bv_iload dX12_stand_100 6 rfl ?_
            refine bv_istore_n (ls1 := [(0, .ref x0), (1, .int x1), (2, .int v1), (3, .int x3), (4, .int x4), (5, .int x5), (6, .int v1), (7, .int (f_X12_farBy x5 x4 (M.1 a3 (66 + x1).toNatClampNeg) (M.1 a3 (74 + x1).toNatClampNeg)))]) dX12_stand_102 (by decide) rfl rfl ?_
            refine bv_iload dX12_stand_103 7 rfl ?_
            refine bv_istore_n (ls1 := [(0, .ref x0), (1, .int x1), (2, .int v1), (3, .int (f_X12_farBy x5 x4 (M.1 a3 (66 + x1).toNatClampNeg) (M.1 a3 (74 + x1).toNatClampNeg))), (4, .int x4), (5, .int x5), (6, .int v1), (7, .int (f_X12_farBy x5 x4 (M.1 a3 (66 + x1).toNatClampNeg) (M.1 a3 (74 + x1).toNatClampNeg)))]) dX12_stand_105 (by decide) rfl rfl ?_
            refine bv_aload_n dX12_stand_106 0 rfl ?_
            refine bv_iload dX12_stand_107 5 rfl ?_
            refine bw_putI hN q_0 dX12_stand_109 fl_12_59 rfl ?_
            refine bv_aload_n dX12_stand_112 0 rfl ?_
            refine bv_iload dX12_stand_113 4 rfl ?_
            refine bw_putI hN q_0 dX12_stand_115 fl_12_62 rfl ?_
            refine bv_iinc (j := 5) (v := (x5 + 1)) (ls1 := [(0, .ref x0), (1, .int x1), (2, .int v1), (3, .int (f_X12_farBy x5 x4 (M.1 a3 (66 + x1).toNatClampNeg) (M.1 a3 (74 + x1).toNatClampNeg))), (4, .int x4), (5, .int (x5 + 1)), (6, .int v1), (7, .int (f_X12_farBy x5 x4 (M.1 a3 (66 + x1).toNatClampNeg) (M.1 a3 (74 + x1).toNatClampNeg)))]) dX12_stand_118 rfl rfl (by decide) rfl rfl ?_
            refine bv_goto (tgt := 34) dX12_stand_121 (by decide) ?_
            refine bw_ls (ls1 := [(0, .ref x0), (1, .int x1), (2, .int v1), (3, .int (f_X12_farBy x5 x4 (M.1 a3 (66 + x1).toNatClampNeg) (M.1 a3 (74 + x1).toNatClampNeg))), (4, .int x4), (5, .int (x5 + 1))]) [0, 1, 2, 3, 4, 5] rfl ?_
            exact ih _ _ _ _ _ h K0
          · replace h := bu_f h cc
            refine bv_goto (tgt := 118) dX12_stand_97 (by decide) ?_
            refine bv_iinc (j := 5) (v := (x5 + 1)) (ls1 := [(0, .ref x0), (1, .int x1), (2, .int x2), (3, .int x3), (4, .int x4), (5, .int (x5 + 1)), (6, .int v1), (7, .int (f_X12_farBy x5 x4 (M.1 a3 (66 + x1).toNatClampNeg) (M.1 a3 (74 + x1).toNatClampNeg)))]) dX12_stand_118 rfl rfl (by decide) rfl rfl ?_
            refine bv_goto (tgt := 34) dX12_stand_121 (by decide) ?_
            refine bw_ls (ls1 := [(0, .ref x0), (1, .int x1), (2, .int x2), (3, .int x3), (4, .int x4), (5, .int (x5 + 1))]) [0, 1, 2, 3, 4, 5] rfl ?_
            exact ih _ _ _ _ _ h K0
def f_X12_stand_l24 (x0 : Nat) (x1 : Int32) : Nat → Int32 → Int32 → Int32 → bm_M → Option (Int32 × bm_M)
  | 0, _, _, _, _ => none
  | k + 1, x2, x3, x4, M => (if 30 < x4 then some (x2, M) else ((f_X12_stand_l34 x0 x1 x4 1000 x2 x3 0 M).bind fun y3 => f_X12_stand_l24 x0 x1 k y3.1 y3.2.1 (x4 + 1) y3.2.2))
set_option maxHeartbeats 4000000 in
set_option maxRecDepth 100000 in
theorem v_X12_stand_l24 {L : bm_L} {d n : Nat} {Q : Option Value → bm_M → Prop} {x0 : Nat} {x1 : Int32} (hN : 181 ≤ n) (q_0 : bm_OK x0 11) : ∀ (k : Nat) (x2 : Int32) (x3 : Int32) (x4 : Int32) (M : bm_M) (r : Int32 × bm_M), f_X12_stand_l24 x0 x1 k x2 x3 x4 M = some r → (∀ yy, yy = r → bm_V L m_X12_stand (d + 4) n n n 130 [(2, .int yy.1)] [] yy.2 Q) → bm_V L m_X12_stand (d + 4) n n n 24 [(0, .ref x0), (1, .int x1), (2, .int x2), (3, .int x3), (4, .int x4)] [] M Q := by
  intro k
  induction k with
  | zero => intro x2 x3 x4 M r h; cases (show (none : Option (Int32 × bm_M)) = some r from h)
  | succ k ih =>
    intro x2 x3 x4 M r h K0
    unfold f_X12_stand_l24 at h
    refine bv_iload dX12_stand_24 4 rfl ?_
    refine bv_bipush (v := 30) dX12_stand_26 (by decide) ?_
    refine bv_icmp_gt (tgt := 130) dX12_stand_28 (by decide) (fun cc => ?_) (fun cc => ?_)
    · replace h := bu_t h cc
      refine bw_ls (ls1 := [(2, .int x2)]) [2] rfl ?_
      obtain rfl := Option.some.inj h
      exact K0 _ rfl
    · replace h := bu_f h cc
      refine bv_iconst (v := 0) dX12_stand_31 (by decide) ?_
      refine bv_istore (ls1 := [(0, .ref x0), (1, .int x1), (2, .int x2), (3, .int x3), (4, .int x4), (5, .int 0)]) dX12_stand_32 (by decide) rfl rfl ?_
      obtain ⟨r1, p2, h⟩ := bu_bd h
      refine v_X12_stand_l34 hN q_0 1000 _ _ _ _ _ p2 (fun y3 hy => ?_)
      · subst hy
        refine bv_iinc (j := 4) (v := (x4 + 1)) (ls1 := [(0, .ref x0), (1, .int x1), (2, .int y3.1), (3, .int y3.2.1), (4, .int (x4 + 1))]) dX12_stand_124 rfl rfl (by decide) rfl rfl ?_
        refine bv_goto (tgt := 24) dX12_stand_127 (by decide) ?_
        exact ih _ _ _ _ _ h K0
def f_X12_stand (M : bm_M) (x0 : Nat) (x1 : Int32) : Option (Int32 × bm_M) := (if bm_io x0 11 then ((f_X12_isMan (bm_sI M x0 0 0) x0 x1).bind fun v2 => (if v2 = true then ((f_X12_stand_l24 x0 x1 1000 (-1) 1000000 0 (bm_sI M x0 0 0)).bind fun y6 => some (y6.1, y6.2)) else some ((-1), (bm_sI M x0 0 0)))) else none)
set_option maxHeartbeats 4000000 in
set_option maxRecDepth 100000 in
theorem c_X12_stand {L : bm_L} {d n : Nat} {M : bm_M} {x0 : Nat} {x1 : Int32} {v : Int32 × bm_M} (hN : 181 ≤ n) (h : f_X12_stand M x0 x1 = some v) : bm_C L m_X12_stand (d + 4) n n [.ref x0, .int x1] M (fun r M' => r = some (.int v.1) ∧ M' = v.2) := by
  refine bm_C.ofV (by decide) (Nat.le_of_ble_eq_true rfl) ?_
  show bm_V L m_X12_stand (d + 4) n n n 0 [(0, .ref x0), (1, .int x1)] [] M _
  unfold f_X12_stand at h
  refine bv_aload_n dX12_stand_0 0 rfl ?_
  refine bv_iconst (v := 0) dX12_stand_1 (by decide) ?_
  obtain ⟨q1, h⟩ := bu_io h
  refine bw_putI hN q1 dX12_stand_2 fl_12_1 rfl ?_
  refine bv_aload_n dX12_stand_5 0 rfl ?_
  refine bv_iload_n dX12_stand_6 1 rfl ?_
  obtain ⟨v2, p3, h⟩ := bu_bd h
  refine bw_callV (As := [.int x1]) hN q1 ⟨_, _, rfl⟩ dX12_stand_7 mc_12_303 (c_X12_isMan (d := d + 2) hN p3) rfl rfl (by decide) ?_
  refine bw_ifB_ne (b := v2) (tgt := 15) dX12_stand_10 (by decide) (fun cc => ?_) (fun cc => ?_)
  · replace h := bu_bt h cc
    refine bv_iconst (v := (-1)) dX12_stand_15 (by decide) ?_
    refine bv_istore_n (ls1 := [(0, .ref x0), (1, .int x1), (2, .int (-1))]) dX12_stand_16 (by decide) rfl rfl ?_
    refine bv_ldcw (v := 1000000) dX12_stand_17 cst_12_381 ?_
    refine bv_istore_n (ls1 := [(0, .ref x0), (1, .int x1), (2, .int (-1)), (3, .int 1000000)]) dX12_stand_20 (by decide) rfl rfl ?_
    refine bv_iconst (v := 0) dX12_stand_21 (by decide) ?_
    refine bv_istore (ls1 := [(0, .ref x0), (1, .int x1), (2, .int (-1)), (3, .int 1000000), (4, .int 0)]) dX12_stand_22 (by decide) rfl rfl ?_
    obtain ⟨r4, p5, h⟩ := bu_bd h
    refine v_X12_stand_l24 hN q1 1000 _ _ _ _ _ p5 (fun y6 hy => ?_)
    · subst hy
      refine bv_iload_n dX12_stand_130 0 rfl ?_
      obtain rfl := Option.some.inj h
      exact bv_iret (x := y6.1) dX12_stand_131 rfl ⟨rfl, rfl⟩
  · replace h := bu_bf h cc
    refine bv_iconst (v := (-1)) dX12_stand_13 (by decide) ?_
    obtain rfl := Option.some.inj h
    exact bv_iret (x := (-1)) dX12_stand_14 rfl ⟨rfl, rfl⟩
def f_X12_hide_l30 (x0 : Nat) (x1 : Int32) (x3 : Int32) : Nat → Int32 → Int32 → bm_M → Option (Int32 × bm_M)
  | 0, _, _, _ => none
  | k + 1, x2, x4, M => (if 30 < x4 then some (x2, M) else ((M.2.2 x0 6).bind fun a1 => (if bm_ia a1 0 (66 + x1) = true then (if bm_ia a1 0 (74 + x1) = true then (if x2 ≤ (f_X12_farBy x4 x3 (M.1 a1 (66 + x1).toNatClampNeg) (M.1 a1 (74 + x1).toNatClampNeg)) then f_X12_hide_l30 x0 x1 x3 k x2 (x4 + 1) M else ((f_X12_foesOf M x0 x1 x4 x3).bind fun v5 => (if v5 = 0 then ((f_X12_seersAt M x0 x1 x4 x3).bind fun v7 => (if v7 = 0 then f_X12_hide_l30 x0 x1 x3 k x2 (x4 + 1) M else f_X12_hide_l30 x0 x1 x3 k (f_X12_farBy x4 x3 (M.1 a1 (66 + x1).toNatClampNeg) (M.1 a1 (74 + x1).toNatClampNeg)) (x4 + 1) (bm_sI (bm_sI M x0 25 x4) x0 26 x3))) else f_X12_hide_l30 x0 x1 x3 k x2 (x4 + 1) M))) else none) else none)))
set_option maxHeartbeats 4000000 in
set_option maxRecDepth 100000 in
theorem v_X12_hide_l30 {L : bm_L} {d n : Nat} {Q : Option Value → bm_M → Prop} {x0 : Nat} {x1 : Int32} {x3 : Int32} (hN : 181 ≤ n) (q_0 : bm_OK x0 11) : ∀ (k : Nat) (x2 : Int32) (x4 : Int32) (M : bm_M) (r : Int32 × bm_M), f_X12_hide_l30 x0 x1 x3 k x2 x4 M = some r → (∀ yy, yy = r → bm_V L m_X12_hide (d + 4) n n n 114 [(0, .ref x0), (1, .int x1), (2, .int yy.1), (3, .int x3)] [] yy.2 Q) → bm_V L m_X12_hide (d + 4) n n n 30 [(0, .ref x0), (1, .int x1), (2, .int x2), (3, .int x3), (4, .int x4)] [] M Q := by
  intro k
  induction k with
  | zero => intro x2 x4 M r h; cases (show (none : Option (Int32 × bm_M)) = some r from h)
  | succ k ih =>
    intro x2 x4 M r h K0
    unfold f_X12_hide_l30 at h
    refine bv_iload dX12_hide_30 4 rfl ?_
    refine bv_bipush (v := 30) dX12_hide_32 (by decide) ?_
    refine bv_icmp_gt (tgt := 114) dX12_hide_34 (by decide) (fun cc => ?_) (fun cc => ?_)
    · replace h := bu_t h cc
      refine bw_ls (ls1 := [(0, .ref x0), (1, .int x1), (2, .int x2), (3, .int x3)]) [0, 1, 2, 3] rfl ?_
      obtain rfl := Option.some.inj h
      exact K0 _ rfl
    · replace h := bu_f h cc
      refine bv_iload dX12_hide_37 4 rfl ?_
      refine bv_iload_n dX12_hide_39 3 rfl ?_
      refine bv_aload_n dX12_hide_40 0 rfl ?_
      obtain ⟨a1, e2, h⟩ := bu_bd h
      refine bw_getA (a := a1) hN q_0 e2 dX12_hide_41 fl_12_33 rfl ?_
      refine bv_bipush (v := 66) dX12_hide_44 (by decide) ?_
      refine bv_iload_n dX12_hide_46 1 rfl ?_
      refine bv_iadd dX12_hide_47 ?_
      obtain ⟨r3, h⟩ := bu_ia h
      refine bw_iald hN r3 dX12_hide_48 ?_
      refine bv_aload_n dX12_hide_49 0 rfl ?_
      refine bw_getA (a := a1) hN q_0 e2 dX12_hide_50 fl_12_33 rfl ?_
      refine bv_bipush (v := 74) dX12_hide_53 (by decide) ?_
      refine bv_iload_n dX12_hide_55 1 rfl ?_
      refine bv_iadd dX12_hide_56 ?_
      obtain ⟨r4, h⟩ := bu_ia h
      refine bw_iald hN r4 dX12_hide_57 ?_
      refine bw_callS (As := [.int x4, .int x3, .int (M.1 a1 (66 + x1).toNatClampNeg), .int (M.1 a1 (74 + x1).toNatClampNeg)]) dX12_hide_58 mc_12_286 (c_X12_farBy (d := d + 2) hN rfl) rfl rfl (by decide) ?_
      refine bv_istore (ls1 := [(0, .ref x0), (1, .int x1), (2, .int x2), (3, .int x3), (4, .int x4), (5, .int (f_X12_farBy x4 x3 (M.1 a1 (66 + x1).toNatClampNeg) (M.1 a1 (74 + x1).toNatClampNeg)))]) dX12_hide_61 (by decide) rfl rfl ?_
      refine bv_iload dX12_hide_63 5 rfl ?_
      refine bv_iload_n dX12_hide_65 2 rfl ?_
      refine bv_icmp_ge (tgt := 108) dX12_hide_66 (by decide) (fun cc => ?_) (fun cc => ?_)
      · replace h := bu_t h cc
        refine bv_iinc (j := 4) (v := (x4 + 1)) (ls1 := [(0, .ref x0), (1, .int x1), (2, .int x2), (3, .int x3), (4, .int (x4 + 1)), (5, .int (f_X12_farBy x4 x3 (M.1 a1 (66 + x1).toNatClampNeg) (M.1 a1 (74 + x1).toNatClampNeg)))]) dX12_hide_108 rfl rfl (by decide) rfl rfl ?_
        refine bv_goto (tgt := 30) dX12_hide_111 (by decide) ?_
        refine bw_ls (ls1 := [(0, .ref x0), (1, .int x1), (2, .int x2), (3, .int x3), (4, .int (x4 + 1))]) [0, 1, 2, 3, 4] rfl ?_
        exact ih _ _ _ _ h K0
      · replace h := bu_f h cc
        refine bv_aload_n dX12_hide_69 0 rfl ?_
        refine bv_iload_n dX12_hide_70 1 rfl ?_
        refine bv_iload dX12_hide_71 4 rfl ?_
        refine bv_iload_n dX12_hide_73 3 rfl ?_
        obtain ⟨v5, p6, h⟩ := bu_bd h
        refine bw_callV (As := [.int x1, .int x4, .int x3]) hN q_0 ⟨_, _, rfl⟩ dX12_hide_74 mc_12_363 (c_X12_foesOf (d := d + 0) hN p6) rfl rfl (by decide) ?_
        refine bv_if_ne (tgt := 108) dX12_hide_77 (by decide) (fun cc => ?_) (fun cc => ?_)
        · replace h := bu_f h cc
          refine bv_iinc (j := 4) (v := (x4 + 1)) (ls1 := [(0, .ref x0), (1, .int x1), (2, .int x2), (3, .int x3), (4, .int (x4 + 1)), (5, .int (f_X12_farBy x4 x3 (M.1 a1 (66 + x1).toNatClampNeg) (M.1 a1 (74 + x1).toNatClampNeg)))]) dX12_hide_108 rfl rfl (by decide) rfl rfl ?_
          refine bv_goto (tgt := 30) dX12_hide_111 (by decide) ?_
          refine bw_ls (ls1 := [(0, .ref x0), (1, .int x1), (2, .int x2), (3, .int x3), (4, .int (x4 + 1))]) [0, 1, 2, 3, 4] rfl ?_
          exact ih _ _ _ _ h K0
        · replace h := bu_t h cc
          refine bv_aload_n dX12_hide_80 0 rfl ?_
          refine bv_iload_n dX12_hide_81 1 rfl ?_
          refine bv_iload dX12_hide_82 4 rfl ?_
          refine bv_iload_n dX12_hide_84 3 rfl ?_
          obtain ⟨v7, p8, h⟩ := bu_bd h
          refine bw_callV (As := [.int x1, .int x4, .int x3]) hN q_0 ⟨_, _, rfl⟩ dX12_hide_85 mc_12_382 (c_X12_seersAt (d := d + 0) hN p8) rfl rfl (by decide) ?_
          refine bv_if_ne (tgt := 94) dX12_hide_88 (by decide) (fun cc => ?_) (fun cc => ?_)
          · replace h := bu_f h cc
            refine bv_iload dX12_hide_94 5 rfl ?_
            refine bv_istore_n (ls1 := [(0, .ref x0), (1, .int x1), (2, .int (f_X12_farBy x4 x3 (M.1 a1 (66 + x1).toNatClampNeg) (M.1 a1 (74 + x1).toNatClampNeg))), (3, .int x3), (4, .int x4), (5, .int (f_X12_farBy x4 x3 (M.1 a1 (66 + x1).toNatClampNeg) (M.1 a1 (74 + x1).toNatClampNeg)))]) dX12_hide_96 (by decide) rfl rfl ?_
            refine bv_aload_n dX12_hide_97 0 rfl ?_
            refine bv_iload dX12_hide_98 4 rfl ?_
            refine bw_putI hN q_0 dX12_hide_100 fl_12_59 rfl ?_
            refine bv_aload_n dX12_hide_103 0 rfl ?_
            refine bv_iload_n dX12_hide_104 3 rfl ?_
            refine bw_putI hN q_0 dX12_hide_105 fl_12_62 rfl ?_
            refine bv_iinc (j := 4) (v := (x4 + 1)) (ls1 := [(0, .ref x0), (1, .int x1), (2, .int (f_X12_farBy x4 x3 (M.1 a1 (66 + x1).toNatClampNeg) (M.1 a1 (74 + x1).toNatClampNeg))), (3, .int x3), (4, .int (x4 + 1)), (5, .int (f_X12_farBy x4 x3 (M.1 a1 (66 + x1).toNatClampNeg) (M.1 a1 (74 + x1).toNatClampNeg)))]) dX12_hide_108 rfl rfl (by decide) rfl rfl ?_
            refine bv_goto (tgt := 30) dX12_hide_111 (by decide) ?_
            refine bw_ls (ls1 := [(0, .ref x0), (1, .int x1), (2, .int (f_X12_farBy x4 x3 (M.1 a1 (66 + x1).toNatClampNeg) (M.1 a1 (74 + x1).toNatClampNeg))), (3, .int x3), (4, .int (x4 + 1))]) [0, 1, 2, 3, 4] rfl ?_
            exact ih _ _ _ _ h K0
          · replace h := bu_t h cc
            refine bv_goto (tgt := 108) dX12_hide_91 (by decide) ?_
            refine bv_iinc (j := 4) (v := (x4 + 1)) (ls1 := [(0, .ref x0), (1, .int x1), (2, .int x2), (3, .int x3), (4, .int (x4 + 1)), (5, .int (f_X12_farBy x4 x3 (M.1 a1 (66 + x1).toNatClampNeg) (M.1 a1 (74 + x1).toNatClampNeg)))]) dX12_hide_108 rfl rfl (by decide) rfl rfl ?_
            refine bv_goto (tgt := 30) dX12_hide_111 (by decide) ?_
            refine bw_ls (ls1 := [(0, .ref x0), (1, .int x1), (2, .int x2), (3, .int x3), (4, .int (x4 + 1))]) [0, 1, 2, 3, 4] rfl ?_
            exact ih _ _ _ _ h K0
def f_X12_hide_l21 (x0 : Nat) (x1 : Int32) : Nat → Int32 → Int32 → bm_M → Option (Int32 × bm_M)
  | 0, _, _, _ => none
  | k + 1, x2, x3, M => (if 30 < x3 then some (x2, M) else ((f_X12_hide_l30 x0 x1 x3 1000 x2 0 M).bind fun y3 => f_X12_hide_l21 x0 x1 k y3.1 (x3 + 1) y3.2))
set_option maxHeartbeats 4000000 in
set_option maxRecDepth 100000 in
theorem v_X12_hide_l21 {L : bm_L} {d n : Nat} {Q : Option Value → bm_M → Prop} {x0 : Nat} {x1 : Int32} (hN : 181 ≤ n) (q_0 : bm_OK x0 11) : ∀ (k : Nat) (x2 : Int32) (x3 : Int32) (M : bm_M) (r : Int32 × bm_M), f_X12_hide_l21 x0 x1 k x2 x3 M = some r → (∀ yy, yy = r → bm_V L m_X12_hide (d + 4) n n n 120 [(2, .int yy.1)] [] yy.2 Q) → bm_V L m_X12_hide (d + 4) n n n 21 [(0, .ref x0), (1, .int x1), (2, .int x2), (3, .int x3)] [] M Q := by
  intro k
  induction k with
  | zero => intro x2 x3 M r h; cases (show (none : Option (Int32 × bm_M)) = some r from h)
  | succ k ih =>
    intro x2 x3 M r h K0
    unfold f_X12_hide_l21 at h
    refine bv_iload_n dX12_hide_21 3 rfl ?_
    refine bv_bipush (v := 30) dX12_hide_22 (by decide) ?_
    refine bv_icmp_gt (tgt := 120) dX12_hide_24 (by decide) (fun cc => ?_) (fun cc => ?_)
    · replace h := bu_t h cc
      refine bw_ls (ls1 := [(2, .int x2)]) [2] rfl ?_
      obtain rfl := Option.some.inj h
      exact K0 _ rfl
    · replace h := bu_f h cc
      refine bv_iconst (v := 0) dX12_hide_27 (by decide) ?_
      refine bv_istore (ls1 := [(0, .ref x0), (1, .int x1), (2, .int x2), (3, .int x3), (4, .int 0)]) dX12_hide_28 (by decide) rfl rfl ?_
      obtain ⟨r1, p2, h⟩ := bu_bd h
      refine v_X12_hide_l30 hN q_0 1000 _ _ _ _ p2 (fun y3 hy => ?_)
      · subst hy
        refine bv_iinc (j := 3) (v := (x3 + 1)) (ls1 := [(0, .ref x0), (1, .int x1), (2, .int y3.1), (3, .int (x3 + 1))]) dX12_hide_114 rfl rfl (by decide) rfl rfl ?_
        refine bv_goto (tgt := 21) dX12_hide_117 (by decide) ?_
        exact ih _ _ _ _ h K0
def f_X12_hide (M : bm_M) (x0 : Nat) (x1 : Int32) : Option (Int32 × bm_M) := (if bm_io x0 11 then ((f_X12_isMan (bm_sI M x0 0 0) x0 x1).bind fun v2 => (if v2 = true then ((f_X12_hide_l21 x0 x1 1000 1000000 0 (bm_sI M x0 0 0)).bind fun y6 => (if y6.1 = 1000000 then some ((-1), y6.2) else some (y6.1, y6.2))) else some ((-1), (bm_sI M x0 0 0)))) else none)
set_option maxHeartbeats 4000000 in
set_option maxRecDepth 100000 in
theorem c_X12_hide {L : bm_L} {d n : Nat} {M : bm_M} {x0 : Nat} {x1 : Int32} {v : Int32 × bm_M} (hN : 181 ≤ n) (h : f_X12_hide M x0 x1 = some v) : bm_C L m_X12_hide (d + 4) n n [.ref x0, .int x1] M (fun r M' => r = some (.int v.1) ∧ M' = v.2) := by
  refine bm_C.ofV (by decide) (Nat.le_of_ble_eq_true rfl) ?_
  show bm_V L m_X12_hide (d + 4) n n n 0 [(0, .ref x0), (1, .int x1)] [] M _
  unfold f_X12_hide at h
  refine bv_aload_n dX12_hide_0 0 rfl ?_
  refine bv_iconst (v := 0) dX12_hide_1 (by decide) ?_
  obtain ⟨q1, h⟩ := bu_io h
  refine bw_putI hN q1 dX12_hide_2 fl_12_1 rfl ?_
  refine bv_aload_n dX12_hide_5 0 rfl ?_
  refine bv_iload_n dX12_hide_6 1 rfl ?_
  obtain ⟨v2, p3, h⟩ := bu_bd h
  refine bw_callV (As := [.int x1]) hN q1 ⟨_, _, rfl⟩ dX12_hide_7 mc_12_303 (c_X12_isMan (d := d + 2) hN p3) rfl rfl (by decide) ?_
  refine bw_ifB_ne (b := v2) (tgt := 15) dX12_hide_10 (by decide) (fun cc => ?_) (fun cc => ?_)
  · replace h := bu_bt h cc
    refine bv_ldcw (v := 1000000) dX12_hide_15 cst_12_381 ?_
    refine bv_istore_n (ls1 := [(0, .ref x0), (1, .int x1), (2, .int 1000000)]) dX12_hide_18 (by decide) rfl rfl ?_
    refine bv_iconst (v := 0) dX12_hide_19 (by decide) ?_
    refine bv_istore_n (ls1 := [(0, .ref x0), (1, .int x1), (2, .int 1000000), (3, .int 0)]) dX12_hide_20 (by decide) rfl rfl ?_
    obtain ⟨r4, p5, h⟩ := bu_bd h
    refine v_X12_hide_l21 hN q1 1000 _ _ _ _ p5 (fun y6 hy => ?_)
    · subst hy
      refine bv_iload_n dX12_hide_120 0 rfl ?_
      refine bv_ldcw (v := 1000000) dX12_hide_121 cst_12_381 ?_
      refine bv_icmp_ne (tgt := 131) dX12_hide_124 (by decide) (fun cc => ?_) (fun cc => ?_)
      · replace h := bu_f h cc
        refine bv_iload_n dX12_hide_131 0 rfl ?_
        obtain rfl := Option.some.inj h
        exact bv_iret (x := y6.1) dX12_hide_132 rfl ⟨rfl, rfl⟩
      · replace h := bu_t h cc
        refine bv_iconst (v := (-1)) dX12_hide_127 (by decide) ?_
        refine bv_goto (tgt := 132) dX12_hide_128 (by decide) ?_
        obtain rfl := Option.some.inj h
        exact bv_iret (x := (-1)) dX12_hide_132 rfl ⟨rfl, rfl⟩
  · replace h := bu_bf h cc
    refine bv_iconst (v := (-1)) dX12_hide_13 (by decide) ?_
    obtain rfl := Option.some.inj h
    exact bv_iret (x := (-1)) dX12_hide_14 rfl ⟨rfl, rfl⟩
def f_X12_cell (M : bm_M) (x0 : Nat) (x1 : Int32) : Option (Int32 × bm_M) := (if bm_io x0 11 then (if x1 = 0 then some (((bm_sI M x0 0 0).1 x0 25), (bm_sI M x0 0 0)) else (if x1 = 1 then some (((bm_sI M x0 0 0).1 x0 26), (bm_sI M x0 0 0)) else some ((-1), (bm_sI M x0 0 0)))) else none)
set_option maxHeartbeats 4000000 in
set_option maxRecDepth 100000 in
theorem c_X12_cell {L : bm_L} {d n : Nat} {M : bm_M} {x0 : Nat} {x1 : Int32} {v : Int32 × bm_M} (hN : 181 ≤ n) (h : f_X12_cell M x0 x1 = some v) : bm_C L m_X12_cell d n n [.ref x0, .int x1] M (fun r M' => r = some (.int v.1) ∧ M' = v.2) := by
  refine bm_C.ofV (by decide) (Nat.le_of_ble_eq_true rfl) ?_
  show bm_V L m_X12_cell d n n n 0 [(0, .ref x0), (1, .int x1)] [] M _
  unfold f_X12_cell at h
  refine bv_aload_n dX12_cell_0 0 rfl ?_
  refine bv_iconst (v := 0) dX12_cell_1 (by decide) ?_
  obtain ⟨q1, h⟩ := bu_io h
  refine bw_putI hN q1 dX12_cell_2 fl_12_1 rfl ?_
  refine bv_iload_n dX12_cell_5 1 rfl ?_
  refine bv_if_ne (tgt := 16) dX12_cell_6 (by decide) (fun cc => ?_) (fun cc => ?_)
  · replace h := bu_f h cc
    refine bv_iload_n dX12_cell_16 1 rfl ?_
    refine bv_iconst (v := 1) dX12_cell_17 (by decide) ?_
    refine bv_icmp_ne (tgt := 28) dX12_cell_18 (by decide) (fun cc => ?_) (fun cc => ?_)
    · replace h := bu_f h cc
      refine bv_iconst (v := (-1)) dX12_cell_28 (by decide) ?_
      obtain rfl := Option.some.inj h
      exact bv_iret (x := (-1)) dX12_cell_29 rfl ⟨rfl, rfl⟩
    · replace h := bu_t h cc
      refine bv_aload_n dX12_cell_21 0 rfl ?_
      refine bw_getI hN q1 dX12_cell_22 fl_12_62 rfl ?_
      refine bv_goto (tgt := 29) dX12_cell_25 (by decide) ?_
      obtain rfl := Option.some.inj h
      exact bv_iret (x := ((bm_sI M x0 0 0).1 x0 26)) dX12_cell_29 rfl ⟨rfl, rfl⟩
  · replace h := bu_t h cc
    refine bv_aload_n dX12_cell_9 0 rfl ?_
    refine bw_getI hN q1 dX12_cell_10 fl_12_59 rfl ?_
    refine bv_goto (tgt := 29) dX12_cell_13 (by decide) ?_
    obtain rfl := Option.some.inj h
    exact bv_iret (x := ((bm_sI M x0 0 0).1 x0 25)) dX12_cell_29 rfl ⟨rfl, rfl⟩
def f_X12_wrongBy_l4 (M : bm_M) (x0 : Nat) (x1 : Int32) : Nat → Int32 → Int32 → Option (Int32)
  | 0, _, _ => none
  | k + 1, x2, x3 => (if bm_io x0 11 then (if (M.1 x0 3) ≤ x3 then some x2 else ((f_X12_octet M x0 x3).bind fun v2 => (if v2 ≤ 0 then ((f_X12_octet M x0 (x3 + 1)).bind fun v4 => (if v4 ≤ 0 then f_X12_wrongBy_l4 M x0 x1 k ((x2 + 0) + 0) (x3 + 2) else ((f_X12_octet M x0 (x3 + 1)).bind fun v6 => ((M.2.2 x0 6).bind fun a8 => (if bm_ia a8 0 (46 + x1) = true then (if v6 = (M.1 a8 (46 + x1).toNatClampNeg) then f_X12_wrongBy_l4 M x0 x1 k ((x2 + 0) + 0) (x3 + 2) else f_X12_wrongBy_l4 M x0 x1 k ((x2 + 0) + 1) (x3 + 2)) else none))))) else ((f_X12_octet M x0 x3).bind fun v11 => ((M.2.2 x0 6).bind fun a13 => (if bm_ia a13 0 (39 + x1) = true then (if v11 = (M.1 a13 (39 + x1).toNatClampNeg) then ((f_X12_octet M x0 (x3 + 1)).bind fun v16 => (if v16 ≤ 0 then f_X12_wrongBy_l4 M x0 x1 k ((x2 + 0) + 0) (x3 + 2) else ((f_X12_octet M x0 (x3 + 1)).bind fun v18 => (if bm_ia a13 0 (46 + x1) = true then (if v18 = (M.1 a13 (46 + x1).toNatClampNeg) then f_X12_wrongBy_l4 M x0 x1 k ((x2 + 0) + 0) (x3 + 2) else f_X12_wrongBy_l4 M x0 x1 k ((x2 + 0) + 1) (x3 + 2)) else none)))) else ((f_X12_octet M x0 (x3 + 1)).bind fun v21 => (if v21 ≤ 0 then f_X12_wrongBy_l4 M x0 x1 k ((x2 + 1) + 0) (x3 + 2) else ((f_X12_octet M x0 (x3 + 1)).bind fun v23 => (if bm_ia a13 0 (46 + x1) = true then (if v23 = (M.1 a13 (46 + x1).toNatClampNeg) then f_X12_wrongBy_l4 M x0 x1 k ((x2 + 1) + 0) (x3 + 2) else f_X12_wrongBy_l4 M x0 x1 k ((x2 + 1) + 1) (x3 + 2)) else none))))) else none)))))) else none)
set_option maxHeartbeats 4000000 in
set_option maxRecDepth 100000 in
theorem v_X12_wrongBy_l4 {L : bm_L} {d n : Nat} {Q : Option Value → bm_M → Prop} {M : bm_M} {x0 : Nat} {x1 : Int32} (hN : 181 ≤ n) : ∀ (k : Nat) (x2 : Int32) (x3 : Int32) (r : Int32), f_X12_wrongBy_l4 M x0 x1 k x2 x3 = some r → (∀ yy, yy = r → bm_V L m_X12_wrongBy (d + 1) n n n 88 [(2, .int yy)] [] M Q) → bm_V L m_X12_wrongBy (d + 1) n n n 4 [(0, .ref x0), (1, .int x1), (2, .int x2), (3, .int x3)] [] M Q := by
  intro k
  induction k with
  | zero => intro x2 x3 r h; cases (show (none : Option (Int32)) = some r from h)
  | succ k ih =>
    intro x2 x3 r h K0
    unfold f_X12_wrongBy_l4 at h
    refine bv_iload_n dX12_wrongBy_4 3 rfl ?_
    refine bv_aload_n dX12_wrongBy_5 0 rfl ?_
    obtain ⟨q1, h⟩ := bu_io h
    refine bw_getI hN q1 dX12_wrongBy_6 fl_12_18 rfl ?_
    refine bv_icmp_ge (tgt := 88) dX12_wrongBy_9 (by decide) (fun cc => ?_) (fun cc => ?_)
    · replace h := bu_t h cc
      refine bw_ls (ls1 := [(2, .int x2)]) [2] rfl ?_
      obtain rfl := Option.some.inj h
      exact K0 _ rfl
    · replace h := bu_f h cc
      refine bv_iload_n dX12_wrongBy_12 2 rfl ?_
      refine bv_aload_n dX12_wrongBy_13 0 rfl ?_
      refine bv_iload_n dX12_wrongBy_14 3 rfl ?_
      obtain ⟨v2, p3, h⟩ := bu_bd h
      refine bw_callV (As := [.int x3]) hN q1 ⟨_, _, rfl⟩ dX12_wrongBy_15 mc_12_385 (c_X12_octet (d := d + 0) hN p3) rfl rfl (Nat.le_of_ble_eq_true rfl) ?_
      refine bv_if_le (tgt := 42) dX12_wrongBy_18 (by decide) (fun cc => ?_) (fun cc => ?_)
      · replace h := bu_t h cc
        refine bv_iconst (v := 0) dX12_wrongBy_42 (by decide) ?_
        refine bv_iadd dX12_wrongBy_43 ?_
        refine bv_istore_n (ls1 := [(0, .ref x0), (1, .int x1), (2, .int (x2 + 0)), (3, .int x3)]) dX12_wrongBy_44 (by decide) rfl rfl ?_
        refine bv_iload_n dX12_wrongBy_45 2 rfl ?_
        refine bv_aload_n dX12_wrongBy_46 0 rfl ?_
        refine bv_iload_n dX12_wrongBy_47 3 rfl ?_
        refine bv_iconst (v := 1) dX12_wrongBy_48 (by decide) ?_
        refine bv_iadd dX12_wrongBy_49 ?_
        obtain ⟨v4, p5, h⟩ := bu_bd h
        refine bw_callV (As := [.int (x3 + 1)]) hN q1 ⟨_, _, rfl⟩ dX12_wrongBy_50 mc_12_385 (c_X12_octet (d := d + 0) hN p5) rfl rfl (Nat.le_of_ble_eq_true rfl) ?_
        refine bv_if_le (tgt := 79) dX12_wrongBy_53 (by decide) (fun cc => ?_) (fun cc => ?_)
        · replace h := bu_t h cc
          refine bv_iconst (v := 0) dX12_wrongBy_79 (by decide) ?_
          refine bv_iadd dX12_wrongBy_80 ?_
          refine bv_istore_n (ls1 := [(0, .ref x0), (1, .int x1), (2, .int ((x2 + 0) + 0)), (3, .int x3)]) dX12_wrongBy_81 (by decide) rfl rfl ?_
          refine bv_iinc (j := 3) (v := (x3 + 2)) (ls1 := [(0, .ref x0), (1, .int x1), (2, .int ((x2 + 0) + 0)), (3, .int (x3 + 2))]) dX12_wrongBy_82 rfl rfl (by decide) rfl rfl ?_
          refine bv_goto (tgt := 4) dX12_wrongBy_85 (by decide) ?_
          exact ih _ _ _ h K0
        · replace h := bu_f h cc
          refine bv_aload_n dX12_wrongBy_56 0 rfl ?_
          refine bv_iload_n dX12_wrongBy_57 3 rfl ?_
          refine bv_iconst (v := 1) dX12_wrongBy_58 (by decide) ?_
          refine bv_iadd dX12_wrongBy_59 ?_
          obtain ⟨v6, p7, h⟩ := bu_bd h
          refine bw_callV (As := [.int (x3 + 1)]) hN q1 ⟨_, _, rfl⟩ dX12_wrongBy_60 mc_12_385 (c_X12_octet (d := d + 0) hN p7) rfl rfl (Nat.le_of_ble_eq_true rfl) ?_
          refine bv_aload_n dX12_wrongBy_63 0 rfl ?_
          obtain ⟨a8, e9, h⟩ := bu_bd h
          refine bw_getA (a := a8) hN q1 e9 dX12_wrongBy_64 fl_12_33 rfl ?_
          refine bv_bipush (v := 46) dX12_wrongBy_67 (by decide) ?_
          refine bv_iload_n dX12_wrongBy_69 1 rfl ?_
          refine bv_iadd dX12_wrongBy_70 ?_
          obtain ⟨r10, h⟩ := bu_ia h
          refine bw_iald hN r10 dX12_wrongBy_71 ?_
          refine bv_icmp_eq (tgt := 79) dX12_wrongBy_72 (by decide) (fun cc => ?_) (fun cc => ?_)
          · replace h := bu_t h cc
            refine bv_iconst (v := 0) dX12_wrongBy_79 (by decide) ?_
            refine bv_iadd dX12_wrongBy_80 ?_
            refine bv_istore_n (ls1 := [(0, .ref x0), (1, .int x1), (2, .int ((x2 + 0) + 0)), (3, .int x3)]) dX12_wrongBy_81 (by decide) rfl rfl ?_
            refine bv_iinc (j := 3) (v := (x3 + 2)) (ls1 := [(0, .ref x0), (1, .int x1), (2, .int ((x2 + 0) + 0)), (3, .int (x3 + 2))]) dX12_wrongBy_82 rfl rfl (by decide) rfl rfl ?_
            refine bv_goto (tgt := 4) dX12_wrongBy_85 (by decide) ?_
            exact ih _ _ _ h K0
          · replace h := bu_f h cc
            refine bv_iconst (v := 1) dX12_wrongBy_75 (by decide) ?_
            refine bv_goto (tgt := 80) dX12_wrongBy_76 (by decide) ?_
            refine bv_iadd dX12_wrongBy_80 ?_
            refine bv_istore_n (ls1 := [(0, .ref x0), (1, .int x1), (2, .int ((x2 + 0) + 1)), (3, .int x3)]) dX12_wrongBy_81 (by decide) rfl rfl ?_
            refine bv_iinc (j := 3) (v := (x3 + 2)) (ls1 := [(0, .ref x0), (1, .int x1), (2, .int ((x2 + 0) + 1)), (3, .int (x3 + 2))]) dX12_wrongBy_82 rfl rfl (by decide) rfl rfl ?_
            refine bv_goto (tgt := 4) dX12_wrongBy_85 (by decide) ?_
            exact ih _ _ _ h K0
      · replace h := bu_f h cc
        refine bv_aload_n dX12_wrongBy_21 0 rfl ?_
        refine bv_iload_n dX12_wrongBy_22 3 rfl ?_
        obtain ⟨v11, p12, h⟩ := bu_bd h
        refine bw_callV (As := [.int x3]) hN q1 ⟨_, _, rfl⟩ dX12_wrongBy_23 mc_12_385 (c_X12_octet (d := d + 0) hN p12) rfl rfl (Nat.le_of_ble_eq_true rfl) ?_
        refine bv_aload_n dX12_wrongBy_26 0 rfl ?_
        obtain ⟨a13, e14, h⟩ := bu_bd h
        refine bw_getA (a := a13) hN q1 e14 dX12_wrongBy_27 fl_12_33 rfl ?_
        refine bv_bipush (v := 39) dX12_wrongBy_30 (by decide) ?_
        refine bv_iload_n dX12_wrongBy_32 1 rfl ?_
        refine bv_iadd dX12_wrongBy_33 ?_
        obtain ⟨r15, h⟩ := bu_ia h
        refine bw_iald hN r15 dX12_wrongBy_34 ?_
        refine bv_icmp_eq (tgt := 42) dX12_wrongBy_35 (by decide) (fun cc => ?_) (fun cc => ?_)
        · replace h := bu_t h cc
          refine bv_iconst (v := 0) dX12_wrongBy_42 (by decide) ?_
          refine bv_iadd dX12_wrongBy_43 ?_
          refine bv_istore_n (ls1 := [(0, .ref x0), (1, .int x1), (2, .int (x2 + 0)), (3, .int x3)]) dX12_wrongBy_44 (by decide) rfl rfl ?_
          refine bv_iload_n dX12_wrongBy_45 2 rfl ?_
          refine bv_aload_n dX12_wrongBy_46 0 rfl ?_
          refine bv_iload_n dX12_wrongBy_47 3 rfl ?_
          refine bv_iconst (v := 1) dX12_wrongBy_48 (by decide) ?_
          refine bv_iadd dX12_wrongBy_49 ?_
          obtain ⟨v16, p17, h⟩ := bu_bd h
          refine bw_callV (As := [.int (x3 + 1)]) hN q1 ⟨_, _, rfl⟩ dX12_wrongBy_50 mc_12_385 (c_X12_octet (d := d + 0) hN p17) rfl rfl (Nat.le_of_ble_eq_true rfl) ?_
          refine bv_if_le (tgt := 79) dX12_wrongBy_53 (by decide) (fun cc => ?_) (fun cc => ?_)
          · replace h := bu_t h cc
            refine bv_iconst (v := 0) dX12_wrongBy_79 (by decide) ?_
            refine bv_iadd dX12_wrongBy_80 ?_
            refine bv_istore_n (ls1 := [(0, .ref x0), (1, .int x1), (2, .int ((x2 + 0) + 0)), (3, .int x3)]) dX12_wrongBy_81 (by decide) rfl rfl ?_
            refine bv_iinc (j := 3) (v := (x3 + 2)) (ls1 := [(0, .ref x0), (1, .int x1), (2, .int ((x2 + 0) + 0)), (3, .int (x3 + 2))]) dX12_wrongBy_82 rfl rfl (by decide) rfl rfl ?_
            refine bv_goto (tgt := 4) dX12_wrongBy_85 (by decide) ?_
            exact ih _ _ _ h K0
          · replace h := bu_f h cc
            refine bv_aload_n dX12_wrongBy_56 0 rfl ?_
            refine bv_iload_n dX12_wrongBy_57 3 rfl ?_
            refine bv_iconst (v := 1) dX12_wrongBy_58 (by decide) ?_
            refine bv_iadd dX12_wrongBy_59 ?_
            obtain ⟨v18, p19, h⟩ := bu_bd h
            refine bw_callV (As := [.int (x3 + 1)]) hN q1 ⟨_, _, rfl⟩ dX12_wrongBy_60 mc_12_385 (c_X12_octet (d := d + 0) hN p19) rfl rfl (Nat.le_of_ble_eq_true rfl) ?_
            refine bv_aload_n dX12_wrongBy_63 0 rfl ?_
            refine bw_getA (a := a13) hN q1 e14 dX12_wrongBy_64 fl_12_33 rfl ?_
            refine bv_bipush (v := 46) dX12_wrongBy_67 (by decide) ?_
            refine bv_iload_n dX12_wrongBy_69 1 rfl ?_
            refine bv_iadd dX12_wrongBy_70 ?_
            obtain ⟨r20, h⟩ := bu_ia h
            refine bw_iald hN r20 dX12_wrongBy_71 ?_
            refine bv_icmp_eq (tgt := 79) dX12_wrongBy_72 (by decide) (fun cc => ?_) (fun cc => ?_)
            · replace h := bu_t h cc
              refine bv_iconst (v := 0) dX12_wrongBy_79 (by decide) ?_
              refine bv_iadd dX12_wrongBy_80 ?_
              refine bv_istore_n (ls1 := [(0, .ref x0), (1, .int x1), (2, .int ((x2 + 0) + 0)), (3, .int x3)]) dX12_wrongBy_81 (by decide) rfl rfl ?_
              refine bv_iinc (j := 3) (v := (x3 + 2)) (ls1 := [(0, .ref x0), (1, .int x1), (2, .int ((x2 + 0) + 0)), (3, .int (x3 + 2))]) dX12_wrongBy_82 rfl rfl (by decide) rfl rfl ?_
              refine bv_goto (tgt := 4) dX12_wrongBy_85 (by decide) ?_
              exact ih _ _ _ h K0
            · replace h := bu_f h cc
              refine bv_iconst (v := 1) dX12_wrongBy_75 (by decide) ?_
              refine bv_goto (tgt := 80) dX12_wrongBy_76 (by decide) ?_
              refine bv_iadd dX12_wrongBy_80 ?_
              refine bv_istore_n (ls1 := [(0, .ref x0), (1, .int x1), (2, .int ((x2 + 0) + 1)), (3, .int x3)]) dX12_wrongBy_81 (by decide) rfl rfl ?_
              refine bv_iinc (j := 3) (v := (x3 + 2)) (ls1 := [(0, .ref x0), (1, .int x1), (2, .int ((x2 + 0) + 1)), (3, .int (x3 + 2))]) dX12_wrongBy_82 rfl rfl (by decide) rfl rfl ?_
              refine bv_goto (tgt := 4) dX12_wrongBy_85 (by decide) ?_
              exact ih _ _ _ h K0
        · replace h := bu_f h cc
          refine bv_iconst (v := 1) dX12_wrongBy_38 (by decide) ?_
          refine bv_goto (tgt := 43) dX12_wrongBy_39 (by decide) ?_
          refine bv_iadd dX12_wrongBy_43 ?_
          refine bv_istore_n (ls1 := [(0, .ref x0), (1, .int x1), (2, .int (x2 + 1)), (3, .int x3)]) dX12_wrongBy_44 (by decide) rfl rfl ?_
          refine bv_iload_n dX12_wrongBy_45 2 rfl ?_
          refine bv_aload_n dX12_wrongBy_46 0 rfl ?_
          refine bv_iload_n dX12_wrongBy_47 3 rfl ?_
          refine bv_iconst (v := 1) dX12_wrongBy_48 (by decide) ?_
          refine bv_iadd dX12_wrongBy_49 ?_
          obtain ⟨v21, p22, h⟩ := bu_bd h
          refine bw_callV (As := [.int (x3 + 1)]) hN q1 ⟨_, _, rfl⟩ dX12_wrongBy_50 mc_12_385 (c_X12_octet (d := d + 0) hN p22) rfl rfl (Nat.le_of_ble_eq_true rfl) ?_
          refine bv_if_le (tgt := 79) dX12_wrongBy_53 (by decide) (fun cc => ?_) (fun cc => ?_)
          · replace h := bu_t h cc
            refine bv_iconst (v := 0) dX12_wrongBy_79 (by decide) ?_
            refine bv_iadd dX12_wrongBy_80 ?_
            refine bv_istore_n (ls1 := [(0, .ref x0), (1, .int x1), (2, .int ((x2 + 1) + 0)), (3, .int x3)]) dX12_wrongBy_81 (by decide) rfl rfl ?_
            refine bv_iinc (j := 3) (v := (x3 + 2)) (ls1 := [(0, .ref x0), (1, .int x1), (2, .int ((x2 + 1) + 0)), (3, .int (x3 + 2))]) dX12_wrongBy_82 rfl rfl (by decide) rfl rfl ?_
            refine bv_goto (tgt := 4) dX12_wrongBy_85 (by decide) ?_
            exact ih _ _ _ h K0
          · replace h := bu_f h cc
            refine bv_aload_n dX12_wrongBy_56 0 rfl ?_
            refine bv_iload_n dX12_wrongBy_57 3 rfl ?_
            refine bv_iconst (v := 1) dX12_wrongBy_58 (by decide) ?_
            refine bv_iadd dX12_wrongBy_59 ?_
            obtain ⟨v23, p24, h⟩ := bu_bd h
            refine bw_callV (As := [.int (x3 + 1)]) hN q1 ⟨_, _, rfl⟩ dX12_wrongBy_60 mc_12_385 (c_X12_octet (d := d + 0) hN p24) rfl rfl (Nat.le_of_ble_eq_true rfl) ?_
            refine bv_aload_n dX12_wrongBy_63 0 rfl ?_
            refine bw_getA (a := a13) hN q1 e14 dX12_wrongBy_64 fl_12_33 rfl ?_
            refine bv_bipush (v := 46) dX12_wrongBy_67 (by decide) ?_
            refine bv_iload_n dX12_wrongBy_69 1 rfl ?_
            refine bv_iadd dX12_wrongBy_70 ?_
            obtain ⟨r25, h⟩ := bu_ia h
            refine bw_iald hN r25 dX12_wrongBy_71 ?_
            refine bv_icmp_eq (tgt := 79) dX12_wrongBy_72 (by decide) (fun cc => ?_) (fun cc => ?_)
            · replace h := bu_t h cc
              refine bv_iconst (v := 0) dX12_wrongBy_79 (by decide) ?_
              refine bv_iadd dX12_wrongBy_80 ?_
              refine bv_istore_n (ls1 := [(0, .ref x0), (1, .int x1), (2, .int ((x2 + 1) + 0)), (3, .int x3)]) dX12_wrongBy_81 (by decide) rfl rfl ?_
              refine bv_iinc (j := 3) (v := (x3 + 2)) (ls1 := [(0, .ref x0), (1, .int x1), (2, .int ((x2 + 1) + 0)), (3, .int (x3 + 2))]) dX12_wrongBy_82 rfl rfl (by decide) rfl rfl ?_
              refine bv_goto (tgt := 4) dX12_wrongBy_85 (by decide) ?_
              exact ih _ _ _ h K0
            · replace h := bu_f h cc
              refine bv_iconst (v := 1) dX12_wrongBy_75 (by decide) ?_
              refine bv_goto (tgt := 80) dX12_wrongBy_76 (by decide) ?_
              refine bv_iadd dX12_wrongBy_80 ?_
              refine bv_istore_n (ls1 := [(0, .ref x0), (1, .int x1), (2, .int ((x2 + 1) + 1)), (3, .int x3)]) dX12_wrongBy_81 (by decide) rfl rfl ?_
              refine bv_iinc (j := 3) (v := (x3 + 2)) (ls1 := [(0, .ref x0), (1, .int x1), (2, .int ((x2 + 1) + 1)), (3, .int (x3 + 2))]) dX12_wrongBy_82 rfl rfl (by decide) rfl rfl ?_
              refine bv_goto (tgt := 4) dX12_wrongBy_85 (by decide) ?_
              exact ih _ _ _ h K0
def f_X12_wrongBy (M : bm_M) (x0 : Nat) (x1 : Int32) : Option (Int32) := ((f_X12_wrongBy_l4 M x0 x1 1000 0 0).bind fun y3 => some y3)
set_option maxHeartbeats 4000000 in
set_option maxRecDepth 100000 in
theorem c_X12_wrongBy {L : bm_L} {d n : Nat} {M : bm_M} {x0 : Nat} {x1 : Int32} {v : Int32} (hN : 181 ≤ n) (h : f_X12_wrongBy M x0 x1 = some v) : bm_C L m_X12_wrongBy (d + 1) n n [.ref x0, .int x1] M (fun r M' => r = some (.int v) ∧ M' = M) := by
  refine bm_C.ofV (by decide) (Nat.le_of_ble_eq_true rfl) ?_
  show bm_V L m_X12_wrongBy (d + 1) n n n 0 [(0, .ref x0), (1, .int x1)] [] M _
  unfold f_X12_wrongBy at h
  refine bv_iconst (v := 0) dX12_wrongBy_0 (by decide) ?_
  refine bv_istore_n (ls1 := [(0, .ref x0), (1, .int x1), (2, .int 0)]) dX12_wrongBy_1 (by decide) rfl rfl ?_
  refine bv_iconst (v := 0) dX12_wrongBy_2 (by decide) ?_
  refine bv_istore_n (ls1 := [(0, .ref x0), (1, .int x1), (2, .int 0), (3, .int 0)]) dX12_wrongBy_3 (by decide) rfl rfl ?_
  obtain ⟨r1, p2, h⟩ := bu_bd h
  refine v_X12_wrongBy_l4 hN 1000 _ _ _ p2 (fun y3 hy => ?_)
  · subst hy
    refine bv_iload_n dX12_wrongBy_88 0 rfl ?_
    obtain rfl := Option.some.inj h
    exact bv_iret (x := y3) dX12_wrongBy_89 rfl ⟨rfl, rfl⟩
def f_X12_leftBy_l17 (M : bm_M) (x0 : Nat) (x1 : Int32) (x2 : Int32) (x3 : Int32) (x4 : Int32) : Nat → Int32 → Int32 → Option (Int32)
  | 0, _, _ => none
  | k + 1, x5, x6 => (if bm_io x0 11 then ((M.2.2 x0 6).bind fun a2 => (if bm_ia a2 0 1 = true then (if (M.1 a2 (1 : Int32).toNatClampNeg) ≤ x6 then some x5 else (if (f_X12_bitOf x1 x6) = true then (if bm_ia a2 0 (x2 + x6) = true then (if (M.1 a2 (x2 + x6).toNatClampNeg) = x4 then f_X12_leftBy_l17 M x0 x1 x2 x3 x4 k (x5 + 1) (x6 + 1) else f_X12_leftBy_l17 M x0 x1 x2 x3 x4 k (x5 + 0) (x6 + 1)) else none) else f_X12_leftBy_l17 M x0 x1 x2 x3 x4 k (x5 + 0) (x6 + 1))) else none)) else none)
set_option maxHeartbeats 4000000 in
set_option maxRecDepth 100000 in
theorem v_X12_leftBy_l17 {L : bm_L} {d n : Nat} {Q : Option Value → bm_M → Prop} {M : bm_M} {x0 : Nat} {x1 : Int32} {x2 : Int32} {x3 : Int32} {x4 : Int32} (hN : 181 ≤ n) : ∀ (k : Nat) (x5 : Int32) (x6 : Int32) (r : Int32), f_X12_leftBy_l17 M x0 x1 x2 x3 x4 k x5 x6 = some r → (∀ yy, yy = r → bm_V L m_X12_leftBy (d + 1) n n n 67 [(0, .ref x0), (1, .int x1), (2, .int x2), (3, .int x3), (4, .int x4), (5, .int yy)] [] M Q) → bm_V L m_X12_leftBy (d + 1) n n n 17 [(0, .ref x0), (1, .int x1), (2, .int x2), (3, .int x3), (4, .int x4), (5, .int x5), (6, .int x6)] [] M Q := by
  intro k
  induction k with
  | zero => intro x5 x6 r h; cases (show (none : Option (Int32)) = some r from h)
  | succ k ih =>
    intro x5 x6 r h K0
    unfold f_X12_leftBy_l17 at h
    refine bv_iload dX12_leftBy_17 6 rfl ?_
    refine bv_aload_n dX12_leftBy_19 0 rfl ?_
    obtain ⟨q1, h⟩ := bu_io h
    obtain ⟨a2, e3, h⟩ := bu_bd h
    refine bw_getA (a := a2) hN q1 e3 dX12_leftBy_20 fl_12_33 rfl ?_
    refine bv_iconst (v := 1) dX12_leftBy_23 (by decide) ?_
    obtain ⟨r4, h⟩ := bu_ia h
    refine bw_iald hN r4 dX12_leftBy_24 ?_
    refine bv_icmp_ge (tgt := 67) dX12_leftBy_25 (by decide) (fun cc => ?_) (fun cc => ?_)
    · replace h := bu_t h cc
      refine bw_ls (ls1 := [(0, .ref x0), (1, .int x1), (2, .int x2), (3, .int x3), (4, .int x4), (5, .int x5)]) [0, 1, 2, 3, 4, 5] rfl ?_
      obtain rfl := Option.some.inj h
      exact K0 _ rfl
    · replace h := bu_f h cc
      refine bv_iload dX12_leftBy_28 5 rfl ?_
      refine bv_iload_n dX12_leftBy_30 1 rfl ?_
      refine bv_iload dX12_leftBy_31 6 rfl ?_
      refine bw_callS (As := [.int x1, .int x6]) dX12_leftBy_33 mc_12_231 (c_X12_bitOf (d := d + 0) hN rfl) rfl rfl (Nat.le_of_ble_eq_true rfl) ?_
      refine bw_ifB_eq (b := (f_X12_bitOf x1 x6)) (tgt := 57) dX12_leftBy_36 (by decide) (fun cc => ?_) (fun cc => ?_)
      · replace h := bu_bf h cc
        refine bv_iconst (v := 0) dX12_leftBy_57 (by decide) ?_
        refine bv_iadd dX12_leftBy_58 ?_
        refine bv_istore (ls1 := [(0, .ref x0), (1, .int x1), (2, .int x2), (3, .int x3), (4, .int x4), (5, .int (x5 + 0)), (6, .int x6)]) dX12_leftBy_59 (by decide) rfl rfl ?_
        refine bv_iinc (j := 6) (v := (x6 + 1)) (ls1 := [(0, .ref x0), (1, .int x1), (2, .int x2), (3, .int x3), (4, .int x4), (5, .int (x5 + 0)), (6, .int (x6 + 1))]) dX12_leftBy_61 rfl rfl (by decide) rfl rfl ?_
        refine bv_goto (tgt := 17) dX12_leftBy_64 (by decide) ?_
        exact ih _ _ _ h K0
      · replace h := bu_bt h cc
        refine bv_aload_n dX12_leftBy_39 0 rfl ?_
        refine bw_getA (a := a2) hN q1 e3 dX12_leftBy_40 fl_12_33 rfl ?_
        refine bv_iload_n dX12_leftBy_43 2 rfl ?_
        refine bv_iload dX12_leftBy_44 6 rfl ?_
        refine bv_iadd dX12_leftBy_46 ?_
        obtain ⟨r5, h⟩ := bu_ia h
        refine bw_iald hN r5 dX12_leftBy_47 ?_
        refine bv_iload dX12_leftBy_48 4 rfl ?_
        refine bv_icmp_ne (tgt := 57) dX12_leftBy_50 (by decide) (fun cc => ?_) (fun cc => ?_)
        · replace h := bu_f h cc
          refine bv_iconst (v := 0) dX12_leftBy_57 (by decide) ?_
          refine bv_iadd dX12_leftBy_58 ?_
          refine bv_istore (ls1 := [(0, .ref x0), (1, .int x1), (2, .int x2), (3, .int x3), (4, .int x4), (5, .int (x5 + 0)), (6, .int x6)]) dX12_leftBy_59 (by decide) rfl rfl ?_
          refine bv_iinc (j := 6) (v := (x6 + 1)) (ls1 := [(0, .ref x0), (1, .int x1), (2, .int x2), (3, .int x3), (4, .int x4), (5, .int (x5 + 0)), (6, .int (x6 + 1))]) dX12_leftBy_61 rfl rfl (by decide) rfl rfl ?_
          refine bv_goto (tgt := 17) dX12_leftBy_64 (by decide) ?_
          exact ih _ _ _ h K0
        · replace h := bu_t h cc
          refine bv_iconst (v := 1) dX12_leftBy_53 (by decide) ?_
          refine bv_goto (tgt := 58) dX12_leftBy_54 (by decide) ?_
          refine bv_iadd dX12_leftBy_58 ?_
          refine bv_istore (ls1 := [(0, .ref x0), (1, .int x1), (2, .int x2), (3, .int x3), (4, .int x4), (5, .int (x5 + 1)), (6, .int x6)]) dX12_leftBy_59 (by decide) rfl rfl ?_
          refine bv_iinc (j := 6) (v := (x6 + 1)) (ls1 := [(0, .ref x0), (1, .int x1), (2, .int x2), (3, .int x3), (4, .int x4), (5, .int (x5 + 1)), (6, .int (x6 + 1))]) dX12_leftBy_61 rfl rfl (by decide) rfl rfl ?_
          refine bv_goto (tgt := 17) dX12_leftBy_64 (by decide) ?_
          exact ih _ _ _ h K0
def f_X12_leftBy_l5 (M : bm_M) (x0 : Nat) (x1 : Int32) (x2 : Int32) : Nat → Int32 → Int32 → Option (Int32)
  | 0, _, _ => none
  | k + 1, x3, x4 => (if 4 ≤ x4 then some x3 else ((f_X12_leftBy_l17 M x0 x1 x2 x3 x4 1000 0 0).bind fun y3 => f_X12_leftBy_l5 M x0 x1 x2 k (f_X12_greater x3 y3) (x4 + 1)))
set_option maxHeartbeats 4000000 in
set_option maxRecDepth 100000 in
theorem v_X12_leftBy_l5 {L : bm_L} {d n : Nat} {Q : Option Value → bm_M → Prop} {M : bm_M} {x0 : Nat} {x1 : Int32} {x2 : Int32} (hN : 181 ≤ n) : ∀ (k : Nat) (x3 : Int32) (x4 : Int32) (r : Int32), f_X12_leftBy_l5 M x0 x1 x2 k x3 x4 = some r → (∀ yy, yy = r → bm_V L m_X12_leftBy (d + 1) n n n 80 [(3, .int yy)] [] M Q) → bm_V L m_X12_leftBy (d + 1) n n n 5 [(0, .ref x0), (1, .int x1), (2, .int x2), (3, .int x3), (4, .int x4)] [] M Q := by
  intro k
  induction k with
  | zero => intro x3 x4 r h; cases (show (none : Option (Int32)) = some r from h)
  | succ k ih =>
    intro x3 x4 r h K0
    unfold f_X12_leftBy_l5 at h
    refine bv_iload dX12_leftBy_5 4 rfl ?_
    refine bv_iconst (v := 4) dX12_leftBy_7 (by decide) ?_
    refine bv_icmp_ge (tgt := 80) dX12_leftBy_8 (by decide) (fun cc => ?_) (fun cc => ?_)
    · replace h := bu_t h cc
      refine bw_ls (ls1 := [(3, .int x3)]) [3] rfl ?_
      obtain rfl := Option.some.inj h
      exact K0 _ rfl
    · replace h := bu_f h cc
      refine bv_iconst (v := 0) dX12_leftBy_11 (by decide) ?_
      refine bv_istore (ls1 := [(0, .ref x0), (1, .int x1), (2, .int x2), (3, .int x3), (4, .int x4), (5, .int 0)]) dX12_leftBy_12 (by decide) rfl rfl ?_
      refine bv_iconst (v := 0) dX12_leftBy_14 (by decide) ?_
      refine bv_istore (ls1 := [(0, .ref x0), (1, .int x1), (2, .int x2), (3, .int x3), (4, .int x4), (5, .int 0), (6, .int 0)]) dX12_leftBy_15 (by decide) rfl rfl ?_
      obtain ⟨r1, p2, h⟩ := bu_bd h
      refine v_X12_leftBy_l17 hN 1000 _ _ _ p2 (fun y3 hy => ?_)
      · subst hy
        refine bv_iload_n dX12_leftBy_67 3 rfl ?_
        refine bv_iload dX12_leftBy_68 5 rfl ?_
        refine bw_callS (As := [.int x3, .int y3]) dX12_leftBy_70 mc_12_388 (c_X12_greater (d := d + 0) hN rfl) rfl rfl (by decide) ?_
        refine bv_istore_n (ls1 := [(0, .ref x0), (1, .int x1), (2, .int x2), (3, .int (f_X12_greater x3 y3)), (4, .int x4), (5, .int y3)]) dX12_leftBy_73 (by decide) rfl rfl ?_
        refine bv_iinc (j := 4) (v := (x4 + 1)) (ls1 := [(0, .ref x0), (1, .int x1), (2, .int x2), (3, .int (f_X12_greater x3 y3)), (4, .int (x4 + 1)), (5, .int y3)]) dX12_leftBy_74 rfl rfl (by decide) rfl rfl ?_
        refine bv_goto (tgt := 5) dX12_leftBy_77 (by decide) ?_
        refine bw_ls (ls1 := [(0, .ref x0), (1, .int x1), (2, .int x2), (3, .int (f_X12_greater x3 y3)), (4, .int (x4 + 1))]) [0, 1, 2, 3, 4] rfl ?_
        exact ih _ _ _ h K0
def f_X12_leftBy (M : bm_M) (x0 : Nat) (x1 : Int32) (x2 : Int32) : Option (Int32) := ((f_X12_leftBy_l5 M x0 x1 x2 1000 0 1).bind fun y3 => some y3)
set_option maxHeartbeats 4000000 in
set_option maxRecDepth 100000 in
theorem c_X12_leftBy {L : bm_L} {d n : Nat} {M : bm_M} {x0 : Nat} {x1 : Int32} {x2 : Int32} {v : Int32} (hN : 181 ≤ n) (h : f_X12_leftBy M x0 x1 x2 = some v) : bm_C L m_X12_leftBy (d + 1) n n [.ref x0, .int x1, .int x2] M (fun r M' => r = some (.int v) ∧ M' = M) := by
  refine bm_C.ofV (by decide) (Nat.le_of_ble_eq_true rfl) ?_
  show bm_V L m_X12_leftBy (d + 1) n n n 0 [(0, .ref x0), (1, .int x1), (2, .int x2)] [] M _
  unfold f_X12_leftBy at h
  refine bv_iconst (v := 0) dX12_leftBy_0 (by decide) ?_
  refine bv_istore_n (ls1 := [(0, .ref x0), (1, .int x1), (2, .int x2), (3, .int 0)]) dX12_leftBy_1 (by decide) rfl rfl ?_
  refine bv_iconst (v := 1) dX12_leftBy_2 (by decide) ?_
  refine bv_istore (ls1 := [(0, .ref x0), (1, .int x1), (2, .int x2), (3, .int 0), (4, .int 1)]) dX12_leftBy_3 (by decide) rfl rfl ?_
  obtain ⟨r1, p2, h⟩ := bu_bd h
  refine v_X12_leftBy_l5 hN 1000 _ _ _ p2 (fun y3 hy => ?_)
  · subst hy
    refine bv_iload_n dX12_leftBy_80 0 rfl ?_
    obtain rfl := Option.some.inj h
    exact bv_iret (x := y3) dX12_leftBy_81 rfl ⟨rfl, rfl⟩
def f_X12_meant_l48 (M : bm_M) (x0 : Nat) : Nat → Int32 → Option (((Unit) ⊕ (Unit)))
  | 0, _ => none
  | k + 1, x1 => (if (M.1 x0 3) ≤ x1 then some (Sum.inr ()) else ((f_X12_octet M x0 x1).bind fun v1 => (if v1 ≤ 3 then f_X12_meant_l48 M x0 k (x1 + 1) else some (Sum.inl ()))))
set_option maxHeartbeats 4000000 in
set_option maxRecDepth 100000 in
theorem v_X12_meant_l48 {L : bm_L} {d n : Nat} {Q : Option Value → bm_M → Prop} {M : bm_M} {x0 : Nat} (hN : 181 ≤ n) (q_0 : bm_OK x0 11) : ∀ (k : Nat) (x1 : Int32) (r : ((Unit) ⊕ (Unit))), f_X12_meant_l48 M x0 k x1 = some r → (∀ yy, (Sum.inl yy) = r → bm_V L m_X12_meant (d + 2) n n n 65 [] [] M Q) → (∀ yy, (Sum.inr yy) = r → bm_V L m_X12_meant (d + 2) n n n 73 [(0, .ref x0)] [] M Q) → bm_V L m_X12_meant (d + 2) n n n 48 [(0, .ref x0), (1, .int x1)] [] M Q := by
  intro k
  induction k with
  | zero => intro x1 r h; cases (show (none : Option (((Unit) ⊕ (Unit)))) = some r from h)
  | succ k ih =>
    intro x1 r h K0 K1
    unfold f_X12_meant_l48 at h
    refine bv_iload_n dX12_meant_48 1 rfl ?_
    refine bv_aload_n dX12_meant_49 0 rfl ?_
    refine bw_getI hN q_0 dX12_meant_50 fl_12_18 rfl ?_
    refine bv_icmp_ge (tgt := 73) dX12_meant_53 (by decide) (fun cc => ?_) (fun cc => ?_)
    · replace h := bu_t h cc
      refine bw_ls (ls1 := [(0, .ref x0)]) [0] rfl ?_
      obtain rfl := Option.some.inj h
      exact K1 _ rfl
    · replace h := bu_f h cc
      refine bv_aload_n dX12_meant_56 0 rfl ?_
      refine bv_iload_n dX12_meant_57 1 rfl ?_
      obtain ⟨v1, p2, h⟩ := bu_bd h
      refine bw_callV (As := [.int x1]) hN q_0 ⟨_, _, rfl⟩ dX12_meant_58 mc_12_385 (c_X12_octet (d := d + 1) hN p2) rfl rfl (by decide) ?_
      refine bv_iconst (v := 3) dX12_meant_61 (by decide) ?_
      refine bv_icmp_le (tgt := 67) dX12_meant_62 (by decide) (fun cc => ?_) (fun cc => ?_)
      · replace h := bu_t h cc
        refine bv_iinc (j := 1) (v := (x1 + 1)) (ls1 := [(0, .ref x0), (1, .int (x1 + 1))]) dX12_meant_67 rfl rfl (by decide) rfl rfl ?_
        refine bv_goto (tgt := 48) dX12_meant_70 (by decide) ?_
        exact ih _ _ h K0 K1
      · replace h := bu_f h cc
        refine bw_ls (ls1 := []) [] rfl ?_
        obtain rfl := Option.some.inj h
        exact K0 _ rfl
def f_X12_meant_l81 (M : bm_M) (x0 : Nat) : Nat → Int32 → Int32 → Int32 → Option (Int32 × Int32)
  | 0, _, _, _ => none
  | k + 1, x1, x2, x3 => ((M.2.2 x0 6).bind fun a1 => (if bm_ia a1 0 1 = true then (if (M.1 a1 (1 : Int32).toNatClampNeg) ≤ x3 then some (x1, x2) else ((f_X12_wrongBy M x0 x3).bind fun v4 => (if v4 ≤ x1 then (if x1 ≤ v4 then f_X12_meant_l81 M x0 k v4 (x2 ||| (bm_ishl 1 x3)) (x3 + 1) else f_X12_meant_l81 M x0 k v4 (bm_ishl 1 x3) (x3 + 1)) else f_X12_meant_l81 M x0 k x1 x2 (x3 + 1)))) else none))
set_option maxHeartbeats 4000000 in
set_option maxRecDepth 100000 in
theorem v_X12_meant_l81 {L : bm_L} {d n : Nat} {Q : Option Value → bm_M → Prop} {M : bm_M} {x0 : Nat} (hN : 181 ≤ n) (q_0 : bm_OK x0 11) : ∀ (k : Nat) (x1 : Int32) (x2 : Int32) (x3 : Int32) (r : Int32 × Int32), f_X12_meant_l81 M x0 k x1 x2 x3 = some r → (∀ yy, yy = r → bm_V L m_X12_meant (d + 2) n n n 134 [(0, .ref x0), (1, .int yy.1), (2, .int yy.2)] [] M Q) → bm_V L m_X12_meant (d + 2) n n n 81 [(0, .ref x0), (1, .int x1), (2, .int x2), (3, .int x3)] [] M Q := by
  intro k
  induction k with
  | zero => intro x1 x2 x3 r h; cases (show (none : Option (Int32 × Int32)) = some r from h)
  | succ k ih =>
    intro x1 x2 x3 r h K0
    unfold f_X12_meant_l81 at h
    refine bv_iload_n dX12_meant_81 3 rfl ?_
    refine bv_aload_n dX12_meant_82 0 rfl ?_
    obtain ⟨a1, e2, h⟩ := bu_bd h
    refine bw_getA (a := a1) hN q_0 e2 dX12_meant_83 fl_12_33 rfl ?_
    refine bv_iconst (v := 1) dX12_meant_86 (by decide) ?_
    obtain ⟨r3, h⟩ := bu_ia h
    refine bw_iald hN r3 dX12_meant_87 ?_
    refine bv_icmp_ge (tgt := 134) dX12_meant_88 (by decide) (fun cc => ?_) (fun cc => ?_)
    · replace h := bu_t h cc
      refine bw_ls (ls1 := [(0, .ref x0), (1, .int x1), (2, .int x2)]) [0, 1, 2] rfl ?_
      obtain rfl := Option.some.inj h
      exact K0 _ rfl
    · replace h := bu_f h cc
      refine bv_aload_n dX12_meant_91 0 rfl ?_
      refine bv_iload_n dX12_meant_92 3 rfl ?_
      obtain ⟨v4, p5, h⟩ := bu_bd h
      refine bw_callV (As := [.int x3]) hN q_0 ⟨_, _, rfl⟩ dX12_meant_93 mc_12_391 (c_X12_wrongBy (d := d + 0) hN p5) rfl rfl (by decide) ?_
      refine bv_istore (ls1 := [(0, .ref x0), (1, .int x1), (2, .int x2), (3, .int x3), (4, .int v4)]) dX12_meant_96 (by decide) rfl rfl ?_
      refine bv_iload dX12_meant_98 4 rfl ?_
      refine bv_iload_n dX12_meant_100 1 rfl ?_
      refine bv_icmp_le (tgt := 107) dX12_meant_101 (by decide) (fun cc => ?_) (fun cc => ?_)
      · replace h := bu_t h cc
        refine bv_iload dX12_meant_107 4 rfl ?_
        refine bv_iload_n dX12_meant_109 1 rfl ?_
        refine bv_icmp_ge (tgt := 119) dX12_meant_110 (by decide) (fun cc => ?_) (fun cc => ?_)
        · replace h := bu_t h cc
          refine bv_iload_n dX12_meant_119 2 rfl ?_
          refine bv_iconst (v := 1) dX12_meant_120 (by decide) ?_
          refine bv_iload_n dX12_meant_121 3 rfl ?_
          refine bv_ishl dX12_meant_122 ?_
          refine bv_ior dX12_meant_123 ?_
          refine bv_istore_n (ls1 := [(0, .ref x0), (1, .int x1), (2, .int (x2 ||| (bm_ishl 1 x3))), (3, .int x3), (4, .int v4)]) dX12_meant_124 (by decide) rfl rfl ?_
          refine bv_iload dX12_meant_125 4 rfl ?_
          refine bv_istore_n (ls1 := [(0, .ref x0), (1, .int v4), (2, .int (x2 ||| (bm_ishl 1 x3))), (3, .int x3), (4, .int v4)]) dX12_meant_127 (by decide) rfl rfl ?_
          refine bv_iinc (j := 3) (v := (x3 + 1)) (ls1 := [(0, .ref x0), (1, .int v4), (2, .int (x2 ||| (bm_ishl 1 x3))), (3, .int (x3 + 1)), (4, .int v4)]) dX12_meant_128 rfl rfl (by decide) rfl rfl ?_
          refine bv_goto (tgt := 81) dX12_meant_131 (by decide) ?_
          refine bw_ls (ls1 := [(0, .ref x0), (1, .int v4), (2, .int (x2 ||| (bm_ishl 1 x3))), (3, .int (x3 + 1))]) [0, 1, 2, 3] rfl ?_
          exact ih _ _ _ _ h K0
        · replace h := bu_f h cc
          refine bv_iconst (v := 1) dX12_meant_113 (by decide) ?_
          refine bv_iload_n dX12_meant_114 3 rfl ?_
          refine bv_ishl dX12_meant_115 ?_
          refine bv_goto (tgt := 124) dX12_meant_116 (by decide) ?_
          refine bv_istore_n (ls1 := [(0, .ref x0), (1, .int x1), (2, .int (bm_ishl 1 x3)), (3, .int x3), (4, .int v4)]) dX12_meant_124 (by decide) rfl rfl ?_
          refine bv_iload dX12_meant_125 4 rfl ?_
          refine bv_istore_n (ls1 := [(0, .ref x0), (1, .int v4), (2, .int (bm_ishl 1 x3)), (3, .int x3), (4, .int v4)]) dX12_meant_127 (by decide) rfl rfl ?_
          refine bv_iinc (j := 3) (v := (x3 + 1)) (ls1 := [(0, .ref x0), (1, .int v4), (2, .int (bm_ishl 1 x3)), (3, .int (x3 + 1)), (4, .int v4)]) dX12_meant_128 rfl rfl (by decide) rfl rfl ?_
          refine bv_goto (tgt := 81) dX12_meant_131 (by decide) ?_
          refine bw_ls (ls1 := [(0, .ref x0), (1, .int v4), (2, .int (bm_ishl 1 x3)), (3, .int (x3 + 1))]) [0, 1, 2, 3] rfl ?_
          exact ih _ _ _ _ h K0
      · replace h := bu_f h cc
        refine bv_goto (tgt := 128) dX12_meant_104 (by decide) ?_
        refine bv_iinc (j := 3) (v := (x3 + 1)) (ls1 := [(0, .ref x0), (1, .int x1), (2, .int x2), (3, .int (x3 + 1)), (4, .int v4)]) dX12_meant_128 rfl rfl (by decide) rfl rfl ?_
        refine bv_goto (tgt := 81) dX12_meant_131 (by decide) ?_
        refine bw_ls (ls1 := [(0, .ref x0), (1, .int x1), (2, .int x2), (3, .int (x3 + 1))]) [0, 1, 2, 3] rfl ?_
        exact ih _ _ _ _ h K0
def f_X12_meant (M : bm_M) (x0 : Nat) : Option (Int32 × bm_M) := (if bm_io x0 11 then ((f_X12_taken (bm_sI M x0 0 0) x0 940).bind fun v2 => (if (f_X12_isIn (v2.1 x0 3) 2 12) = true then (if (bm_rem (v2.1 x0 3) 2) = 1 then some ((-1), v2) else ((v2.2.2 x0 6).bind fun a4 => (if bm_ia a4 0 1 = true then (if (v2.1 a4 (1 : Int32).toNatClampNeg) = 0 then some ((-1), v2) else ((f_X12_meant_l48 v2 x0 1000 0).bind fun rr => match rr with | (Sum.inl y9) => some ((-1), v2) | (Sum.inr y9) => ((f_X12_meant_l81 v2 x0 1000 1000000 0 0).bind fun y12 => ((f_X12_leftBy (bm_sI v2 x0 27 y12.1) x0 y12.2 46).bind fun v13 => ((f_X12_leftBy (bm_sI v2 x0 27 y12.1) x0 y12.2 39).bind fun v15 => (if v15 ≤ v13 then some (y12.2, (bm_sI (bm_sI v2 x0 27 y12.1) x0 28 0)) else some (y12.2, (bm_sI (bm_sI v2 x0 27 y12.1) x0 28 1)))))))) else none))) else some ((-1), v2))) else none)
set_option maxHeartbeats 4000000 in
set_option maxRecDepth 100000 in
theorem c_X12_meant {L : bm_L} {d n : Nat} {M : bm_M} {x0 : Nat} {v : Int32 × bm_M} (hN : 181 ≤ n) (h : f_X12_meant M x0 = some v) : bm_C L m_X12_meant (d + 2) n n [.ref x0] M (fun r M' => r = some (.int v.1) ∧ M' = v.2) := by
  refine bm_C.ofV (by decide) (Nat.le_of_ble_eq_true rfl) ?_
  show bm_V L m_X12_meant (d + 2) n n n 0 [(0, .ref x0)] [] M _
  unfold f_X12_meant at h
  refine bv_aload_n dX12_meant_0 0 rfl ?_
  refine bv_iconst (v := 0) dX12_meant_1 (by decide) ?_
  obtain ⟨q1, h⟩ := bu_io h
  refine bw_putI hN q1 dX12_meant_2 fl_12_1 rfl ?_
  refine bv_aload_n dX12_meant_5 0 rfl ?_
  refine bv_sipush (v := 940) dX12_meant_6 (by decide) ?_
  obtain ⟨v2, p3, h⟩ := bu_bd h
  refine bw_callVv (As := [.int 940]) hN q1 ⟨_, _, rfl⟩ dX12_meant_9 mc_12_264 (c_X12_taken (d := d + 1) hN p3) rfl rfl (by decide) ?_
  refine bv_aload_n dX12_meant_12 0 rfl ?_
  refine bw_getI hN q1 dX12_meant_13 fl_12_18 rfl ?_
  refine bv_iconst (v := 2) dX12_meant_16 (by decide) ?_
  refine bv_bipush (v := 12) dX12_meant_17 (by decide) ?_
  refine bw_callS (As := [.int (v2.1 x0 3), .int 2, .int 12]) dX12_meant_19 mc_12_206 (c_X12_isIn (d := d + 1) hN rfl) rfl rfl (by decide) ?_
  refine bw_ifB_eq (b := (f_X12_isIn (v2.1 x0 3) 2 12)) (tgt := 44) dX12_meant_22 (by decide) (fun cc => ?_) (fun cc => ?_)
  · replace h := bu_bf h cc
    refine bv_iconst (v := (-1)) dX12_meant_44 (by decide) ?_
    obtain rfl := Option.some.inj h
    exact bv_iret (x := (-1)) dX12_meant_45 rfl ⟨rfl, rfl⟩
  · replace h := bu_bt h cc
    refine bv_aload_n dX12_meant_25 0 rfl ?_
    refine bw_getI hN q1 dX12_meant_26 fl_12_18 rfl ?_
    refine bv_iconst (v := 2) dX12_meant_29 (by decide) ?_
    refine bv_irem dX12_meant_30 (by decide) ?_
    refine bv_iconst (v := 1) dX12_meant_31 (by decide) ?_
    refine bv_icmp_eq (tgt := 44) dX12_meant_32 (by decide) (fun cc => ?_) (fun cc => ?_)
    · replace h := bu_t h cc
      refine bv_iconst (v := (-1)) dX12_meant_44 (by decide) ?_
      obtain rfl := Option.some.inj h
      exact bv_iret (x := (-1)) dX12_meant_45 rfl ⟨rfl, rfl⟩
    · replace h := bu_f h cc
      refine bv_aload_n dX12_meant_35 0 rfl ?_
      obtain ⟨a4, e5, h⟩ := bu_bd h
      refine bw_getA (a := a4) hN q1 e5 dX12_meant_36 fl_12_33 rfl ?_
      refine bv_iconst (v := 1) dX12_meant_39 (by decide) ?_
      obtain ⟨r6, h⟩ := bu_ia h
      refine bw_iald hN r6 dX12_meant_40 ?_
      refine bv_if_ne (tgt := 46) dX12_meant_41 (by decide) (fun cc => ?_) (fun cc => ?_)
      · replace h := bu_f h cc
        refine bv_iconst (v := 0) dX12_meant_46 (by decide) ?_
        refine bv_istore_n (ls1 := [(0, .ref x0), (1, .int 0)]) dX12_meant_47 (by decide) rfl rfl ?_
        obtain ⟨r7, p8, h⟩ := bu_bd h
        refine v_X12_meant_l48 hN q1 1000 _ _ p8 (fun y9 hy => ?_) (fun y9 hy => ?_)
        · subst hy
          refine bv_iconst (v := (-1)) dX12_meant_65 (by decide) ?_
          obtain rfl := Option.some.inj h
          exact bv_iret (x := (-1)) dX12_meant_66 rfl ⟨rfl, rfl⟩
        · subst hy
          refine bv_ldcw (v := 1000000) dX12_meant_73 cst_12_381 ?_
          refine bv_istore_n (ls1 := [(0, .ref x0), (1, .int 1000000)]) dX12_meant_76 (by decide) rfl rfl ?_
          refine bv_iconst (v := 0) dX12_meant_77 (by decide) ?_
          refine bv_istore_n (ls1 := [(0, .ref x0), (1, .int 1000000), (2, .int 0)]) dX12_meant_78 (by decide) rfl rfl ?_
          refine bv_iconst (v := 0) dX12_meant_79 (by decide) ?_
          refine bv_istore_n (ls1 := [(0, .ref x0), (1, .int 1000000), (2, .int 0), (3, .int 0)]) dX12_meant_80 (by decide) rfl rfl ?_
          obtain ⟨r10, p11, h⟩ := bu_bd h
          refine v_X12_meant_l81 hN q1 1000 _ _ _ _ p11 (fun y12 hy => ?_)
          · subst hy
            refine bv_aload_n dX12_meant_134 0 rfl ?_
            refine bv_iload_n dX12_meant_135 1 rfl ?_
            refine bw_putI hN q1 dX12_meant_136 fl_12_65 rfl ?_
            refine bv_aload_n dX12_meant_139 0 rfl ?_
            refine bv_aload_n dX12_meant_140 0 rfl ?_
            refine bv_iload_n dX12_meant_141 2 rfl ?_
            refine bv_bipush (v := 46) dX12_meant_142 (by decide) ?_
            obtain ⟨v13, p14, h⟩ := bu_bd h
            refine bw_callV (As := [.int y12.2, .int 46]) hN q1 ⟨_, _, rfl⟩ dX12_meant_144 mc_12_394 (c_X12_leftBy (d := d + 0) hN p14) rfl rfl (Nat.le_of_ble_eq_true rfl) ?_
            refine bv_aload_n dX12_meant_147 0 rfl ?_
            refine bv_iload_n dX12_meant_148 2 rfl ?_
            refine bv_bipush (v := 39) dX12_meant_149 (by decide) ?_
            obtain ⟨v15, p16, h⟩ := bu_bd h
            refine bw_callV (As := [.int y12.2, .int 39]) hN q1 ⟨_, _, rfl⟩ dX12_meant_151 mc_12_394 (c_X12_leftBy (d := d + 0) hN p16) rfl rfl (Nat.le_of_ble_eq_true rfl) ?_
            refine bv_icmp_ge (tgt := 161) dX12_meant_154 (by decide) (fun cc => ?_) (fun cc => ?_)
            · replace h := bu_t h cc
              refine bv_iconst (v := 0) dX12_meant_161 (by decide) ?_
              refine bw_putI hN q1 dX12_meant_162 fl_12_68 rfl ?_
              refine bv_iload_n dX12_meant_165 2 rfl ?_
              obtain rfl := Option.some.inj h
              exact bv_iret (x := y12.2) dX12_meant_166 rfl ⟨rfl, rfl⟩
            · replace h := bu_f h cc
              refine bv_iconst (v := 1) dX12_meant_157 (by decide) ?_
              refine bv_goto (tgt := 162) dX12_meant_158 (by decide) ?_
              refine bw_putI hN q1 dX12_meant_162 fl_12_68 rfl ?_
              refine bv_iload_n dX12_meant_165 2 rfl ?_
              obtain rfl := Option.some.inj h
              exact bv_iret (x := y12.2) dX12_meant_166 rfl ⟨rfl, rfl⟩
      · replace h := bu_t h cc
        refine bv_iconst (v := (-1)) dX12_meant_44 (by decide) ?_
        obtain rfl := Option.some.inj h
        exact bv_iret (x := (-1)) dX12_meant_45 rfl ⟨rfl, rfl⟩
def f_X12_wrong (M : bm_M) (x0 : Nat) : Option (Int32 × bm_M) := (if bm_io x0 11 then some (((bm_sI M x0 0 0).1 x0 27), (bm_sI M x0 0 0)) else none)
set_option maxHeartbeats 4000000 in
set_option maxRecDepth 100000 in
theorem c_X12_wrong {L : bm_L} {d n : Nat} {M : bm_M} {x0 : Nat} {v : Int32 × bm_M} (hN : 181 ≤ n) (h : f_X12_wrong M x0 = some v) : bm_C L m_X12_wrong d n n [.ref x0] M (fun r M' => r = some (.int v.1) ∧ M' = v.2) := by
  refine bm_C.ofV (by decide) (Nat.le_of_ble_eq_true rfl) ?_
  show bm_V L m_X12_wrong d n n n 0 [(0, .ref x0)] [] M _
  unfold f_X12_wrong at h
  refine bv_aload_n dX12_wrong_0 0 rfl ?_
  refine bv_iconst (v := 0) dX12_wrong_1 (by decide) ?_
  obtain ⟨q1, h⟩ := bu_io h
  refine bw_putI hN q1 dX12_wrong_2 fl_12_1 rfl ?_
  refine bv_aload_n dX12_wrong_5 0 rfl ?_
  refine bw_getI hN q1 dX12_wrong_6 fl_12_65 rfl ?_
  obtain rfl := Option.some.inj h
  exact bv_iret (x := ((bm_sI M x0 0 0).1 x0 27)) dX12_wrong_9 rfl ⟨rfl, rfl⟩
def f_X12_look (M : bm_M) (x0 : Nat) : Option (Int32 × bm_M) := (if bm_io x0 11 then some (((bm_sI M x0 0 0).1 x0 28), (bm_sI M x0 0 0)) else none)
set_option maxHeartbeats 4000000 in
set_option maxRecDepth 100000 in
theorem c_X12_look {L : bm_L} {d n : Nat} {M : bm_M} {x0 : Nat} {v : Int32 × bm_M} (hN : 181 ≤ n) (h : f_X12_look M x0 = some v) : bm_C L m_X12_look d n n [.ref x0] M (fun r M' => r = some (.int v.1) ∧ M' = v.2) := by
  refine bm_C.ofV (by decide) (Nat.le_of_ble_eq_true rfl) ?_
  show bm_V L m_X12_look d n n n 0 [(0, .ref x0)] [] M _
  unfold f_X12_look at h
  refine bv_aload_n dX12_look_0 0 rfl ?_
  refine bv_iconst (v := 0) dX12_look_1 (by decide) ?_
  obtain ⟨q1, h⟩ := bu_io h
  refine bw_putI hN q1 dX12_look_2 fl_12_1 rfl ?_
  refine bv_aload_n dX12_look_5 0 rfl ?_
  refine bw_getI hN q1 dX12_look_6 fl_12_68 rfl ?_
  obtain rfl := Option.some.inj h
  exact bv_iret (x := ((bm_sI M x0 0 0).1 x0 28)) dX12_look_9 rfl ⟨rfl, rfl⟩
def f_X12_code_l31 (M : bm_M) (x0 : Nat) (x1 : Int32) (x2 : Int32) (x3 : Int32) (x4 : Int32) : Nat → Int32 → Int32 → Option (Int32)
  | 0, _, _ => none
  | k + 1, x5, x6 => ((M.2.2 x0 6).bind fun a1 => (if bm_ia a1 0 1 = true then (if (M.1 a1 (1 : Int32).toNatClampNeg) ≤ x6 then some x5 else (if bm_ia a1 0 (39 + x6) = true then (if x3 = (M.1 a1 (39 + x6).toNatClampNeg) then (if bm_ia a1 0 (46 + x6) = true then (if x4 = (M.1 a1 (46 + x6).toNatClampNeg) then f_X12_code_l31 M x0 x1 x2 x3 x4 k (f_X12_lesser x5 (0 + 0)) (x6 + 1) else f_X12_code_l31 M x0 x1 x2 x3 x4 k (f_X12_lesser x5 (0 + 1)) (x6 + 1)) else none) else (if bm_ia a1 0 (46 + x6) = true then (if x4 = (M.1 a1 (46 + x6).toNatClampNeg) then f_X12_code_l31 M x0 x1 x2 x3 x4 k (f_X12_lesser x5 (1 + 0)) (x6 + 1) else f_X12_code_l31 M x0 x1 x2 x3 x4 k (f_X12_lesser x5 (1 + 1)) (x6 + 1)) else none)) else none)) else none))
set_option maxHeartbeats 4000000 in
set_option maxRecDepth 100000 in
theorem v_X12_code_l31 {L : bm_L} {d n : Nat} {Q : Option Value → bm_M → Prop} {M : bm_M} {x0 : Nat} {x1 : Int32} {x2 : Int32} {x3 : Int32} {x4 : Int32} (hN : 181 ≤ n) (q_0 : bm_OK x0 11) : ∀ (k : Nat) (x5 : Int32) (x6 : Int32) (r : Int32), f_X12_code_l31 M x0 x1 x2 x3 x4 k x5 x6 = some r → (∀ yy, yy = r → bm_V L m_X12_code (d + 1) n n n 95 [(0, .ref x0), (1, .int x1), (2, .int x2), (3, .int x3), (4, .int x4), (5, .int yy)] [] M Q) → bm_V L m_X12_code (d + 1) n n n 31 [(0, .ref x0), (1, .int x1), (2, .int x2), (3, .int x3), (4, .int x4), (5, .int x5), (6, .int x6)] [] M Q := by
  intro k
  induction k with
  | zero => intro x5 x6 r h; cases (show (none : Option (Int32)) = some r from h)
  | succ k ih =>
    intro x5 x6 r h K0
    unfold f_X12_code_l31 at h
    refine bv_iload dX12_code_31 6 rfl ?_
    refine bv_aload_n dX12_code_33 0 rfl ?_
    obtain ⟨a1, e2, h⟩ := bu_bd h
    refine bw_getA (a := a1) hN q_0 e2 dX12_code_34 fl_12_33 rfl ?_
    refine bv_iconst (v := 1) dX12_code_37 (by decide) ?_
    obtain ⟨r3, h⟩ := bu_ia h
    refine bw_iald hN r3 dX12_code_38 ?_
    refine bv_icmp_ge (tgt := 95) dX12_code_39 (by decide) (fun cc => ?_) (fun cc => ?_)
    · replace h := bu_t h cc
      refine bw_ls (ls1 := [(0, .ref x0), (1, .int x1), (2, .int x2), (3, .int x3), (4, .int x4), (5, .int x5)]) [0, 1, 2, 3, 4, 5] rfl ?_
      obtain rfl := Option.some.inj h
      exact K0 _ rfl
    · replace h := bu_f h cc
      refine bv_iload dX12_code_42 5 rfl ?_
      refine bv_iload_n dX12_code_44 3 rfl ?_
      refine bv_aload_n dX12_code_45 0 rfl ?_
      refine bw_getA (a := a1) hN q_0 e2 dX12_code_46 fl_12_33 rfl ?_
      refine bv_bipush (v := 39) dX12_code_49 (by decide) ?_
      refine bv_iload dX12_code_51 6 rfl ?_
      refine bv_iadd dX12_code_53 ?_
      obtain ⟨r4, h⟩ := bu_ia h
      refine bw_iald hN r4 dX12_code_54 ?_
      refine bv_icmp_ne (tgt := 62) dX12_code_55 (by decide) (fun cc => ?_) (fun cc => ?_)
      · replace h := bu_f h cc
        refine bv_iconst (v := 1) dX12_code_62 (by decide) ?_
        refine bv_iload dX12_code_63 4 rfl ?_
        refine bv_aload_n dX12_code_65 0 rfl ?_
        refine bw_getA (a := a1) hN q_0 e2 dX12_code_66 fl_12_33 rfl ?_
        refine bv_bipush (v := 46) dX12_code_69 (by decide) ?_
        refine bv_iload dX12_code_71 6 rfl ?_
        refine bv_iadd dX12_code_73 ?_
        obtain ⟨r5, h⟩ := bu_ia h
        refine bw_iald hN r5 dX12_code_74 ?_
        refine bv_icmp_ne (tgt := 82) dX12_code_75 (by decide) (fun cc => ?_) (fun cc => ?_)
        · replace h := bu_f h cc
          refine bv_iconst (v := 1) dX12_code_82 (by decide) ?_
          refine bv_iadd dX12_code_83 ?_
          refine bw_callS (As := [.int x5, .int (1 + 1)]) dX12_code_84 mc_12_279 (c_X12_lesser (d := d + 0) hN rfl) rfl rfl (by decide) ?_
          refine bv_istore (ls1 := [(0, .ref x0), (1, .int x1), (2, .int x2), (3, .int x3), (4, .int x4), (5, .int (f_X12_lesser x5 (1 + 1))), (6, .int x6)]) dX12_code_87 (by decide) rfl rfl ?_
          refine bv_iinc (j := 6) (v := (x6 + 1)) (ls1 := [(0, .ref x0), (1, .int x1), (2, .int x2), (3, .int x3), (4, .int x4), (5, .int (f_X12_lesser x5 (1 + 1))), (6, .int (x6 + 1))]) dX12_code_89 rfl rfl (by decide) rfl rfl ?_
          refine bv_goto (tgt := 31) dX12_code_92 (by decide) ?_
          exact ih _ _ _ h K0
        · replace h := bu_t h cc
          refine bv_iconst (v := 0) dX12_code_78 (by decide) ?_
          refine bv_goto (tgt := 83) dX12_code_79 (by decide) ?_
          refine bv_iadd dX12_code_83 ?_
          refine bw_callS (As := [.int x5, .int (1 + 0)]) dX12_code_84 mc_12_279 (c_X12_lesser (d := d + 0) hN rfl) rfl rfl (by decide) ?_
          refine bv_istore (ls1 := [(0, .ref x0), (1, .int x1), (2, .int x2), (3, .int x3), (4, .int x4), (5, .int (f_X12_lesser x5 (1 + 0))), (6, .int x6)]) dX12_code_87 (by decide) rfl rfl ?_
          refine bv_iinc (j := 6) (v := (x6 + 1)) (ls1 := [(0, .ref x0), (1, .int x1), (2, .int x2), (3, .int x3), (4, .int x4), (5, .int (f_X12_lesser x5 (1 + 0))), (6, .int (x6 + 1))]) dX12_code_89 rfl rfl (by decide) rfl rfl ?_
          refine bv_goto (tgt := 31) dX12_code_92 (by decide) ?_
          exact ih _ _ _ h K0
      · replace h := bu_t h cc
        refine bv_iconst (v := 0) dX12_code_58 (by decide) ?_
        refine bv_goto (tgt := 63) dX12_code_59 (by decide) ?_
        refine bv_iload dX12_code_63 4 rfl ?_
        refine bv_aload_n dX12_code_65 0 rfl ?_
        refine bw_getA (a := a1) hN q_0 e2 dX12_code_66 fl_12_33 rfl ?_
        refine bv_bipush (v := 46) dX12_code_69 (by decide) ?_
        refine bv_iload dX12_code_71 6 rfl ?_
        refine bv_iadd dX12_code_73 ?_
        obtain ⟨r6, h⟩ := bu_ia h
        refine bw_iald hN r6 dX12_code_74 ?_
        refine bv_icmp_ne (tgt := 82) dX12_code_75 (by decide) (fun cc => ?_) (fun cc => ?_)
        · replace h := bu_f h cc
          refine bv_iconst (v := 1) dX12_code_82 (by decide) ?_
          refine bv_iadd dX12_code_83 ?_
          refine bw_callS (As := [.int x5, .int (0 + 1)]) dX12_code_84 mc_12_279 (c_X12_lesser (d := d + 0) hN rfl) rfl rfl (by decide) ?_
          refine bv_istore (ls1 := [(0, .ref x0), (1, .int x1), (2, .int x2), (3, .int x3), (4, .int x4), (5, .int (f_X12_lesser x5 (0 + 1))), (6, .int x6)]) dX12_code_87 (by decide) rfl rfl ?_
          refine bv_iinc (j := 6) (v := (x6 + 1)) (ls1 := [(0, .ref x0), (1, .int x1), (2, .int x2), (3, .int x3), (4, .int x4), (5, .int (f_X12_lesser x5 (0 + 1))), (6, .int (x6 + 1))]) dX12_code_89 rfl rfl (by decide) rfl rfl ?_
          refine bv_goto (tgt := 31) dX12_code_92 (by decide) ?_
          exact ih _ _ _ h K0
        · replace h := bu_t h cc
          refine bv_iconst (v := 0) dX12_code_78 (by decide) ?_
          refine bv_goto (tgt := 83) dX12_code_79 (by decide) ?_
          refine bv_iadd dX12_code_83 ?_
          refine bw_callS (As := [.int x5, .int (0 + 0)]) dX12_code_84 mc_12_279 (c_X12_lesser (d := d + 0) hN rfl) rfl rfl (by decide) ?_
          refine bv_istore (ls1 := [(0, .ref x0), (1, .int x1), (2, .int x2), (3, .int x3), (4, .int x4), (5, .int (f_X12_lesser x5 (0 + 0))), (6, .int x6)]) dX12_code_87 (by decide) rfl rfl ?_
          refine bv_iinc (j := 6) (v := (x6 + 1)) (ls1 := [(0, .ref x0), (1, .int x1), (2, .int x2), (3, .int x3), (4, .int x4), (5, .int (f_X12_lesser x5 (0 + 0))), (6, .int (x6 + 1))]) dX12_code_89 rfl rfl (by decide) rfl rfl ?_
          refine bv_goto (tgt := 31) dX12_code_92 (by decide) ?_
          exact ih _ _ _ h K0
def f_X12_code_l19 (M : bm_M) (x0 : Nat) (x3 : Int32) : Nat → Int32 → Int32 → Int32 → Option (Int32 × Int32)
  | 0, _, _, _ => none
  | k + 1, x1, x2, x4 => (if 4 ≤ x4 then some (x1, x2) else ((f_X12_code_l31 M x0 x1 x2 x3 x4 1000 2 0).bind fun y3 => ((f_X12_orderBy M x0 x3 x4).bind fun v4 => (if 0 ≤ v4 then f_X12_code_l19 M x0 x3 k x1 x2 (x4 + 1) else (if x2 < y3 then f_X12_code_l19 M x0 x3 k ((4 * x3) + x4) y3 (x4 + 1) else f_X12_code_l19 M x0 x3 k x1 x2 (x4 + 1))))))
set_option maxHeartbeats 4000000 in
set_option maxRecDepth 100000 in
theorem v_X12_code_l19 {L : bm_L} {d n : Nat} {Q : Option Value → bm_M → Prop} {M : bm_M} {x0 : Nat} {x3 : Int32} (hN : 181 ≤ n) (q_0 : bm_OK x0 11) : ∀ (k : Nat) (x1 : Int32) (x2 : Int32) (x4 : Int32) (r : Int32 × Int32), f_X12_code_l19 M x0 x3 k x1 x2 x4 = some r → (∀ yy, yy = r → bm_V L m_X12_code (d + 1) n n n 130 [(0, .ref x0), (1, .int yy.1), (2, .int yy.2), (3, .int x3)] [] M Q) → bm_V L m_X12_code (d + 1) n n n 19 [(0, .ref x0), (1, .int x1), (2, .int x2), (3, .int x3), (4, .int x4)] [] M Q := by
  intro k
  induction k with
  | zero => intro x1 x2 x4 r h; cases (show (none : Option (Int32 × Int32)) = some r from h)
  | succ k ih =>
    intro x1 x2 x4 r h K0
    unfold f_X12_code_l19 at h
    refine bv_iload dX12_code_19 4 rfl ?_
    refine bv_iconst (v := 4) dX12_code_21 (by decide) ?_
    refine bv_icmp_ge (tgt := 130) dX12_code_22 (by decide) (fun cc => ?_) (fun cc => ?_)
    · replace h := bu_t h cc
      refine bw_ls (ls1 := [(0, .ref x0), (1, .int x1), (2, .int x2), (3, .int x3)]) [0, 1, 2, 3] rfl ?_
      obtain rfl := Option.some.inj h
      exact K0 _ rfl
    · replace h := bu_f h cc
      refine bv_iconst (v := 2) dX12_code_25 (by decide) ?_
      refine bv_istore (ls1 := [(0, .ref x0), (1, .int x1), (2, .int x2), (3, .int x3), (4, .int x4), (5, .int 2)]) dX12_code_26 (by decide) rfl rfl ?_
      refine bv_iconst (v := 0) dX12_code_28 (by decide) ?_
      refine bv_istore (ls1 := [(0, .ref x0), (1, .int x1), (2, .int x2), (3, .int x3), (4, .int x4), (5, .int 2), (6, .int 0)]) dX12_code_29 (by decide) rfl rfl ?_
      obtain ⟨r1, p2, h⟩ := bu_bd h
      refine v_X12_code_l31 hN q_0 1000 _ _ _ p2 (fun y3 hy => ?_)
      · subst hy
        refine bv_aload_n dX12_code_95 0 rfl ?_
        refine bv_iload_n dX12_code_96 3 rfl ?_
        refine bv_iload dX12_code_97 4 rfl ?_
        obtain ⟨v4, p5, h⟩ := bu_bd h
        refine bw_callV (As := [.int x3, .int x4]) hN q_0 ⟨_, _, rfl⟩ dX12_code_99 mc_12_319 (c_X12_orderBy (d := d + 0) hN p5) rfl rfl (by decide) ?_
        refine bv_if_ge (tgt := 124) dX12_code_102 (by decide) (fun cc => ?_) (fun cc => ?_)
        · replace h := bu_t h cc
          refine bv_iinc (j := 4) (v := (x4 + 1)) (ls1 := [(0, .ref x0), (1, .int x1), (2, .int x2), (3, .int x3), (4, .int (x4 + 1)), (5, .int y3)]) dX12_code_124 rfl rfl (by decide) rfl rfl ?_
          refine bv_goto (tgt := 19) dX12_code_127 (by decide) ?_
          refine bw_ls (ls1 := [(0, .ref x0), (1, .int x1), (2, .int x2), (3, .int x3), (4, .int (x4 + 1))]) [0, 1, 2, 3, 4] rfl ?_
          exact ih _ _ _ _ h K0
        · replace h := bu_f h cc
          refine bv_iload dX12_code_105 5 rfl ?_
          refine bv_iload_n dX12_code_107 2 rfl ?_
          refine bv_icmp_gt (tgt := 114) dX12_code_108 (by decide) (fun cc => ?_) (fun cc => ?_)
          · replace h := bu_t h cc
            refine bv_iload dX12_code_114 5 rfl ?_
            refine bv_istore_n (ls1 := [(0, .ref x0), (1, .int x1), (2, .int y3), (3, .int x3), (4, .int x4), (5, .int y3)]) dX12_code_116 (by decide) rfl rfl ?_
            refine bv_iconst (v := 4) dX12_code_117 (by decide) ?_
            refine bv_iload_n dX12_code_118 3 rfl ?_
            refine bv_imul dX12_code_119 ?_
            refine bv_iload dX12_code_120 4 rfl ?_
            refine bv_iadd dX12_code_122 ?_
            refine bv_istore_n (ls1 := [(0, .ref x0), (1, .int ((4 * x3) + x4)), (2, .int y3), (3, .int x3), (4, .int x4), (5, .int y3)]) dX12_code_123 (by decide) rfl rfl ?_
            refine bv_iinc (j := 4) (v := (x4 + 1)) (ls1 := [(0, .ref x0), (1, .int ((4 * x3) + x4)), (2, .int y3), (3, .int x3), (4, .int (x4 + 1)), (5, .int y3)]) dX12_code_124 rfl rfl (by decide) rfl rfl ?_
            refine bv_goto (tgt := 19) dX12_code_127 (by decide) ?_
            refine bw_ls (ls1 := [(0, .ref x0), (1, .int ((4 * x3) + x4)), (2, .int y3), (3, .int x3), (4, .int (x4 + 1))]) [0, 1, 2, 3, 4] rfl ?_
            exact ih _ _ _ _ h K0
          · replace h := bu_f h cc
            refine bv_goto (tgt := 124) dX12_code_111 (by decide) ?_
            refine bv_iinc (j := 4) (v := (x4 + 1)) (ls1 := [(0, .ref x0), (1, .int x1), (2, .int x2), (3, .int x3), (4, .int (x4 + 1)), (5, .int y3)]) dX12_code_124 rfl rfl (by decide) rfl rfl ?_
            refine bv_goto (tgt := 19) dX12_code_127 (by decide) ?_
            refine bw_ls (ls1 := [(0, .ref x0), (1, .int x1), (2, .int x2), (3, .int x3), (4, .int (x4 + 1))]) [0, 1, 2, 3, 4] rfl ?_
            exact ih _ _ _ _ h K0
def f_X12_code_l11 (M : bm_M) (x0 : Nat) : Nat → Int32 → Int32 → Int32 → Option (Int32)
  | 0, _, _, _ => none
  | k + 1, x1, x2, x3 => (if 4 ≤ x3 then some x1 else ((f_X12_code_l19 M x0 x3 1000 x1 x2 1).bind fun y3 => f_X12_code_l11 M x0 k y3.1 y3.2 (x3 + 1)))
set_option maxHeartbeats 4000000 in
set_option maxRecDepth 100000 in
theorem v_X12_code_l11 {L : bm_L} {d n : Nat} {Q : Option Value → bm_M → Prop} {M : bm_M} {x0 : Nat} (hN : 181 ≤ n) (q_0 : bm_OK x0 11) : ∀ (k : Nat) (x1 : Int32) (x2 : Int32) (x3 : Int32) (r : Int32), f_X12_code_l11 M x0 k x1 x2 x3 = some r → (∀ yy, yy = r → bm_V L m_X12_code (d + 1) n n n 136 [(1, .int yy)] [] M Q) → bm_V L m_X12_code (d + 1) n n n 11 [(0, .ref x0), (1, .int x1), (2, .int x2), (3, .int x3)] [] M Q := by
  intro k
  induction k with
  | zero => intro x1 x2 x3 r h; cases (show (none : Option (Int32)) = some r from h)
  | succ k ih =>
    intro x1 x2 x3 r h K0
    unfold f_X12_code_l11 at h
    refine bv_iload_n dX12_code_11 3 rfl ?_
    refine bv_iconst (v := 4) dX12_code_12 (by decide) ?_
    refine bv_icmp_ge (tgt := 136) dX12_code_13 (by decide) (fun cc => ?_) (fun cc => ?_)
    · replace h := bu_t h cc
      refine bw_ls (ls1 := [(1, .int x1)]) [1] rfl ?_
      obtain rfl := Option.some.inj h
      exact K0 _ rfl
    · replace h := bu_f h cc
      refine bv_iconst (v := 1) dX12_code_16 (by decide) ?_
      refine bv_istore (ls1 := [(0, .ref x0), (1, .int x1), (2, .int x2), (3, .int x3), (4, .int 1)]) dX12_code_17 (by decide) rfl rfl ?_
      obtain ⟨r1, p2, h⟩ := bu_bd h
      refine v_X12_code_l19 hN q_0 1000 _ _ _ _ p2 (fun y3 hy => ?_)
      · subst hy
        refine bv_iinc (j := 3) (v := (x3 + 1)) (ls1 := [(0, .ref x0), (1, .int y3.1), (2, .int y3.2), (3, .int (x3 + 1))]) dX12_code_130 rfl rfl (by decide) rfl rfl ?_
        refine bv_goto (tgt := 11) dX12_code_133 (by decide) ?_
        exact ih _ _ _ _ h K0
def f_X12_code (M : bm_M) (x0 : Nat) : Option (Int32 × bm_M) := (if bm_io x0 11 then ((f_X12_code_l11 (bm_sI M x0 0 0) x0 1000 0 (-1) 1).bind fun y4 => some (y4, (bm_sI M x0 0 0))) else none)
set_option maxHeartbeats 4000000 in
set_option maxRecDepth 100000 in
theorem c_X12_code {L : bm_L} {d n : Nat} {M : bm_M} {x0 : Nat} {v : Int32 × bm_M} (hN : 181 ≤ n) (h : f_X12_code M x0 = some v) : bm_C L m_X12_code (d + 1) n n [.ref x0] M (fun r M' => r = some (.int v.1) ∧ M' = v.2) := by
  refine bm_C.ofV (by decide) (Nat.le_of_ble_eq_true rfl) ?_
  show bm_V L m_X12_code (d + 1) n n n 0 [(0, .ref x0)] [] M _
  unfold f_X12_code at h
  refine bv_aload_n dX12_code_0 0 rfl ?_
  refine bv_iconst (v := 0) dX12_code_1 (by decide) ?_
  obtain ⟨q1, h⟩ := bu_io h
  refine bw_putI hN q1 dX12_code_2 fl_12_1 rfl ?_
  refine bv_iconst (v := 0) dX12_code_5 (by decide) ?_
  refine bv_istore_n (ls1 := [(0, .ref x0), (1, .int 0)]) dX12_code_6 (by decide) rfl rfl ?_
  refine bv_iconst (v := (-1)) dX12_code_7 (by decide) ?_
  refine bv_istore_n (ls1 := [(0, .ref x0), (1, .int 0), (2, .int (-1))]) dX12_code_8 (by decide) rfl rfl ?_
  refine bv_iconst (v := 1) dX12_code_9 (by decide) ?_
  refine bv_istore_n (ls1 := [(0, .ref x0), (1, .int 0), (2, .int (-1)), (3, .int 1)]) dX12_code_10 (by decide) rfl rfl ?_
  obtain ⟨r2, p3, h⟩ := bu_bd h
  refine v_X12_code_l11 hN q1 1000 _ _ _ _ p3 (fun y4 hy => ?_)
  · subst hy
    refine bv_iload_n dX12_code_136 0 rfl ?_
    obtain rfl := Option.some.inj h
    exact bv_iret (x := y4) dX12_code_137 rfl ⟨rfl, rfl⟩
def f_X12_isScratch_l4 (M : bm_M) (x0 : Nat) (x1 : Int32) : Nat → Bool → Int32 → Option (Bool)
  | 0, _, _ => none
  | k + 1, x2, x3 => (if bm_io x0 11 then (if (M.1 x0 3) ≤ x3 then some x2 else (if x2 = true then ((f_X12_octet M x0 x3).bind fun v2 => ((f_X12_readsOne M x0 v2 x1).bind fun v4 => ((f_X12_octet M x0 (x3 + 1)).bind fun v6 => (if v6 = 1 then (if (bm_bi v4) = 1 then f_X12_isScratch_l4 M x0 x1 k true (x3 + 2) else f_X12_isScratch_l4 M x0 x1 k false (x3 + 2)) else (if (bm_bi v4) = 0 then f_X12_isScratch_l4 M x0 x1 k true (x3 + 2) else f_X12_isScratch_l4 M x0 x1 k false (x3 + 2)))))) else f_X12_isScratch_l4 M x0 x1 k false (x3 + 2))) else none)
set_option maxHeartbeats 4000000 in
set_option maxRecDepth 100000 in
theorem v_X12_isScratch_l4 {L : bm_L} {d n : Nat} {Q : Option Value → bm_M → Prop} {M : bm_M} {x0 : Nat} {x1 : Int32} (hN : 181 ≤ n) : ∀ (k : Nat) (x2 : Bool) (x3 : Int32) (r : Bool), f_X12_isScratch_l4 M x0 x1 k x2 x3 = some r → (∀ yy, yy = r → bm_V L m_X12_isScratch (d + 5) n n n 57 [(2, .int (bm_bi yy))] [] M Q) → bm_V L m_X12_isScratch (d + 5) n n n 4 [(0, .ref x0), (1, .int x1), (2, .int (bm_bi x2)), (3, .int x3)] [] M Q := by
  intro k
  induction k with
  | zero => intro x2 x3 r h; cases (show (none : Option (Bool)) = some r from h)
  | succ k ih =>
    intro x2 x3 r h K0
    unfold f_X12_isScratch_l4 at h
    refine bv_iload_n dX12_isScratch_4 3 rfl ?_
    refine bv_aload_n dX12_isScratch_5 0 rfl ?_
    obtain ⟨q1, h⟩ := bu_io h
    refine bw_getI hN q1 dX12_isScratch_6 fl_12_18 rfl ?_
    refine bv_icmp_ge (tgt := 57) dX12_isScratch_9 (by decide) (fun cc => ?_) (fun cc => ?_)
    · replace h := bu_t h cc
      refine bw_ls (ls1 := [(2, .int (bm_bi x2))]) [2] rfl ?_
      obtain rfl := Option.some.inj h
      exact K0 _ rfl
    · replace h := bu_f h cc
      refine bv_iload_n dX12_isScratch_12 2 rfl ?_
      refine bw_ifB_eq (b := x2) (tgt := 49) dX12_isScratch_13 (by decide) (fun cc => ?_) (fun cc => ?_)
      · replace h := bu_bf h cc
        refine bv_iconst (v := 0) dX12_isScratch_49 (by decide) ?_
        refine bv_istore_n (ls1 := [(0, .ref x0), (1, .int x1), (2, .int 0), (3, .int x3)]) dX12_isScratch_50 (by decide) rfl rfl ?_
        refine bv_iinc (j := 3) (v := (x3 + 2)) (ls1 := [(0, .ref x0), (1, .int x1), (2, .int 0), (3, .int (x3 + 2))]) dX12_isScratch_51 rfl rfl (by decide) rfl rfl ?_
        refine bv_goto (tgt := 4) dX12_isScratch_54 (by decide) ?_
        exact ih _ _ _ h K0
      · replace h := bu_bt h cc
        refine bv_aload_n dX12_isScratch_16 0 rfl ?_
        refine bv_aload_n dX12_isScratch_17 0 rfl ?_
        refine bv_iload_n dX12_isScratch_18 3 rfl ?_
        obtain ⟨v2, p3, h⟩ := bu_bd h
        refine bw_callV (As := [.int x3]) hN q1 ⟨_, _, rfl⟩ dX12_isScratch_19 mc_12_385 (c_X12_octet (d := d + 4) hN p3) rfl rfl (Nat.le_of_ble_eq_true rfl) ?_
        refine bv_iload_n dX12_isScratch_22 1 rfl ?_
        obtain ⟨v4, p5, h⟩ := bu_bd h
        refine bw_callV (As := [.int v2, .int x1]) hN q1 ⟨_, _, rfl⟩ dX12_isScratch_23 mc_12_300 (c_X12_readsOne (d := d + 0) hN p5) rfl rfl (by decide) ?_
        refine bv_aload_n dX12_isScratch_26 0 rfl ?_
        refine bv_iload_n dX12_isScratch_27 3 rfl ?_
        refine bv_iconst (v := 1) dX12_isScratch_28 (by decide) ?_
        refine bv_iadd dX12_isScratch_29 ?_
        obtain ⟨v6, p7, h⟩ := bu_bd h
        refine bw_callV (As := [.int (x3 + 1)]) hN q1 ⟨_, _, rfl⟩ dX12_isScratch_30 mc_12_385 (c_X12_octet (d := d + 4) hN p7) rfl rfl (Nat.le_of_ble_eq_true rfl) ?_
        refine bv_iconst (v := 1) dX12_isScratch_33 (by decide) ?_
        refine bv_icmp_ne (tgt := 41) dX12_isScratch_34 (by decide) (fun cc => ?_) (fun cc => ?_)
        · replace h := bu_f h cc
          refine bv_iconst (v := 0) dX12_isScratch_41 (by decide) ?_
          refine bv_icmp_ne (tgt := 49) dX12_isScratch_42 (by decide) (fun cc => ?_) (fun cc => ?_)
          · replace h := bu_f h cc
            refine bv_iconst (v := 0) dX12_isScratch_49 (by decide) ?_
            refine bv_istore_n (ls1 := [(0, .ref x0), (1, .int x1), (2, .int 0), (3, .int x3)]) dX12_isScratch_50 (by decide) rfl rfl ?_
            refine bv_iinc (j := 3) (v := (x3 + 2)) (ls1 := [(0, .ref x0), (1, .int x1), (2, .int 0), (3, .int (x3 + 2))]) dX12_isScratch_51 rfl rfl (by decide) rfl rfl ?_
            refine bv_goto (tgt := 4) dX12_isScratch_54 (by decide) ?_
            exact ih _ _ _ h K0
          · replace h := bu_t h cc
            refine bv_iconst (v := 1) dX12_isScratch_45 (by decide) ?_
            refine bv_goto (tgt := 50) dX12_isScratch_46 (by decide) ?_
            refine bv_istore_n (ls1 := [(0, .ref x0), (1, .int x1), (2, .int 1), (3, .int x3)]) dX12_isScratch_50 (by decide) rfl rfl ?_
            refine bv_iinc (j := 3) (v := (x3 + 2)) (ls1 := [(0, .ref x0), (1, .int x1), (2, .int 1), (3, .int (x3 + 2))]) dX12_isScratch_51 rfl rfl (by decide) rfl rfl ?_
            refine bv_goto (tgt := 4) dX12_isScratch_54 (by decide) ?_
            exact ih _ _ _ h K0
        · replace h := bu_t h cc
          refine bv_iconst (v := 1) dX12_isScratch_37 (by decide) ?_
          refine bv_goto (tgt := 42) dX12_isScratch_38 (by decide) ?_
          refine bv_icmp_ne (tgt := 49) dX12_isScratch_42 (by decide) (fun cc => ?_) (fun cc => ?_)
          · replace h := bu_f h cc
            refine bv_iconst (v := 0) dX12_isScratch_49 (by decide) ?_
            refine bv_istore_n (ls1 := [(0, .ref x0), (1, .int x1), (2, .int 0), (3, .int x3)]) dX12_isScratch_50 (by decide) rfl rfl ?_
            refine bv_iinc (j := 3) (v := (x3 + 2)) (ls1 := [(0, .ref x0), (1, .int x1), (2, .int 0), (3, .int (x3 + 2))]) dX12_isScratch_51 rfl rfl (by decide) rfl rfl ?_
            refine bv_goto (tgt := 4) dX12_isScratch_54 (by decide) ?_
            exact ih _ _ _ h K0
          · replace h := bu_t h cc
            refine bv_iconst (v := 1) dX12_isScratch_45 (by decide) ?_
            refine bv_goto (tgt := 50) dX12_isScratch_46 (by decide) ?_
            refine bv_istore_n (ls1 := [(0, .ref x0), (1, .int x1), (2, .int 1), (3, .int x3)]) dX12_isScratch_50 (by decide) rfl rfl ?_
            refine bv_iinc (j := 3) (v := (x3 + 2)) (ls1 := [(0, .ref x0), (1, .int x1), (2, .int 1), (3, .int (x3 + 2))]) dX12_isScratch_51 rfl rfl (by decide) rfl rfl ?_
            refine bv_goto (tgt := 4) dX12_isScratch_54 (by decide) ?_
            exact ih _ _ _ h K0
def f_X12_isScratch (M : bm_M) (x0 : Nat) (x1 : Int32) : Option (Bool) := ((f_X12_isScratch_l4 M x0 x1 1000 true 0).bind fun y3 => some y3)
set_option maxHeartbeats 4000000 in
set_option maxRecDepth 100000 in
theorem c_X12_isScratch {L : bm_L} {d n : Nat} {M : bm_M} {x0 : Nat} {x1 : Int32} {v : Bool} (hN : 181 ≤ n) (h : f_X12_isScratch M x0 x1 = some v) : bm_C L m_X12_isScratch (d + 5) n n [.ref x0, .int x1] M (fun r M' => r = some (.int (bm_bi v)) ∧ M' = M) := by
  refine bm_C.ofV (by decide) (Nat.le_of_ble_eq_true rfl) ?_
  show bm_V L m_X12_isScratch (d + 5) n n n 0 [(0, .ref x0), (1, .int x1)] [] M _
  unfold f_X12_isScratch at h
  refine bv_iconst (v := 1) dX12_isScratch_0 (by decide) ?_
  refine bv_istore_n (ls1 := [(0, .ref x0), (1, .int x1), (2, .int 1)]) dX12_isScratch_1 (by decide) rfl rfl ?_
  refine bv_iconst (v := 0) dX12_isScratch_2 (by decide) ?_
  refine bv_istore_n (ls1 := [(0, .ref x0), (1, .int x1), (2, .int 1), (3, .int 0)]) dX12_isScratch_3 (by decide) rfl rfl ?_
  obtain ⟨r1, p2, h⟩ := bu_bd h
  refine v_X12_isScratch_l4 hN 1000 _ _ _ p2 (fun y3 hy => ?_)
  · subst hy
    refine bv_iload_n dX12_isScratch_57 0 rfl ?_
    obtain rfl := Option.some.inj h
    exact bw_bret (b := y3) dX12_isScratch_58 rfl ⟨rfl, rfl⟩
def f_X12_scratch_l39 (M : bm_M) (x0 : Nat) : Nat → Int32 → Option (((Unit) ⊕ (Unit)))
  | 0, _ => none
  | k + 1, x1 => (if (M.1 x0 3) ≤ x1 then some (Sum.inr ()) else ((f_X12_octet M x0 x1).bind fun v1 => ((f_X12_isMan M x0 v1).bind fun v3 => (if v3 = true then ((f_X12_octet M x0 (x1 + 1)).bind fun v5 => (if v5 ≤ 1 then f_X12_scratch_l39 M x0 k (x1 + 2) else some (Sum.inl ()))) else some (Sum.inl ())))))
set_option maxHeartbeats 4000000 in
set_option maxRecDepth 100000 in
theorem v_X12_scratch_l39 {L : bm_L} {d n : Nat} {Q : Option Value → bm_M → Prop} {M : bm_M} {x0 : Nat} (hN : 181 ≤ n) (q_0 : bm_OK x0 11) : ∀ (k : Nat) (x1 : Int32) (r : ((Unit) ⊕ (Unit))), f_X12_scratch_l39 M x0 k x1 = some r → (∀ yy, (Sum.inl yy) = r → bm_V L m_X12_scratch (d + 6) n n n 70 [] [] M Q) → (∀ yy, (Sum.inr yy) = r → bm_V L m_X12_scratch (d + 6) n n n 78 [(0, .ref x0)] [] M Q) → bm_V L m_X12_scratch (d + 6) n n n 39 [(0, .ref x0), (1, .int x1)] [] M Q := by
  intro k
  induction k with
  | zero => intro x1 r h; cases (show (none : Option (((Unit) ⊕ (Unit)))) = some r from h)
  | succ k ih =>
    intro x1 r h K0 K1
    unfold f_X12_scratch_l39 at h
    refine bv_iload_n dX12_scratch_39 1 rfl ?_
    refine bv_aload_n dX12_scratch_40 0 rfl ?_
    refine bw_getI hN q_0 dX12_scratch_41 fl_12_18 rfl ?_
    refine bv_icmp_ge (tgt := 78) dX12_scratch_44 (by decide) (fun cc => ?_) (fun cc => ?_)
    · replace h := bu_t h cc
      refine bw_ls (ls1 := [(0, .ref x0)]) [0] rfl ?_
      obtain rfl := Option.some.inj h
      exact K1 _ rfl
    · replace h := bu_f h cc
      refine bv_aload_n dX12_scratch_47 0 rfl ?_
      refine bv_aload_n dX12_scratch_48 0 rfl ?_
      refine bv_iload_n dX12_scratch_49 1 rfl ?_
      obtain ⟨v1, p2, h⟩ := bu_bd h
      refine bw_callV (As := [.int x1]) hN q_0 ⟨_, _, rfl⟩ dX12_scratch_50 mc_12_385 (c_X12_octet (d := d + 5) hN p2) rfl rfl (Nat.le_of_ble_eq_true rfl) ?_
      obtain ⟨v3, p4, h⟩ := bu_bd h
      refine bw_callV (As := [.int v1]) hN q_0 ⟨_, _, rfl⟩ dX12_scratch_53 mc_12_303 (c_X12_isMan (d := d + 4) hN p4) rfl rfl (by decide) ?_
      refine bw_ifB_eq (b := v3) (tgt := 70) dX12_scratch_56 (by decide) (fun cc => ?_) (fun cc => ?_)
      · replace h := bu_bf h cc
        refine bw_ls (ls1 := []) [] rfl ?_
        obtain rfl := Option.some.inj h
        exact K0 _ rfl
      · replace h := bu_bt h cc
        refine bv_aload_n dX12_scratch_59 0 rfl ?_
        refine bv_iload_n dX12_scratch_60 1 rfl ?_
        refine bv_iconst (v := 1) dX12_scratch_61 (by decide) ?_
        refine bv_iadd dX12_scratch_62 ?_
        obtain ⟨v5, p6, h⟩ := bu_bd h
        refine bw_callV (As := [.int (x1 + 1)]) hN q_0 ⟨_, _, rfl⟩ dX12_scratch_63 mc_12_385 (c_X12_octet (d := d + 5) hN p6) rfl rfl (by decide) ?_
        refine bv_iconst (v := 1) dX12_scratch_66 (by decide) ?_
        refine bv_icmp_le (tgt := 72) dX12_scratch_67 (by decide) (fun cc => ?_) (fun cc => ?_)
        · replace h := bu_t h cc
          refine bv_iinc (j := 1) (v := (x1 + 2)) (ls1 := [(0, .ref x0), (1, .int (x1 + 2))]) dX12_scratch_72 rfl rfl (by decide) rfl rfl ?_
          refine bv_goto (tgt := 39) dX12_scratch_75 (by decide) ?_
          exact ih _ _ h K0 K1
        · replace h := bu_f h cc
          refine bw_ls (ls1 := []) [] rfl ?_
          obtain rfl := Option.some.inj h
          exact K0 _ rfl
def f_X12_scratch_l82 (M : bm_M) (x0 : Nat) : Nat → Int32 → Int32 → Option (Int32)
  | 0, _, _ => none
  | k + 1, x1, x2 => ((M.2.2 x0 6).bind fun a1 => (if bm_ia a1 0 0 = true then (if (M.1 a1 (0 : Int32).toNatClampNeg) ≤ x2 then some x1 else ((f_X12_isScratch M x0 x2).bind fun v4 => (if v4 = true then f_X12_scratch_l82 M x0 k (x1 ||| (bm_ishl 1 x2)) (x2 + 1) else f_X12_scratch_l82 M x0 k (x1 ||| 0) (x2 + 1)))) else none))
set_option maxHeartbeats 4000000 in
set_option maxRecDepth 100000 in
theorem v_X12_scratch_l82 {L : bm_L} {d n : Nat} {Q : Option Value → bm_M → Prop} {M : bm_M} {x0 : Nat} (hN : 181 ≤ n) (q_0 : bm_OK x0 11) : ∀ (k : Nat) (x1 : Int32) (x2 : Int32) (r : Int32), f_X12_scratch_l82 M x0 k x1 x2 = some r → (∀ yy, yy = r → bm_V L m_X12_scratch (d + 6) n n n 116 [(0, .ref x0), (1, .int yy)] [] M Q) → bm_V L m_X12_scratch (d + 6) n n n 82 [(0, .ref x0), (1, .int x1), (2, .int x2)] [] M Q := by
  intro k
  induction k with
  | zero => intro x1 x2 r h; cases (show (none : Option (Int32)) = some r from h)
  | succ k ih =>
    intro x1 x2 r h K0
    unfold f_X12_scratch_l82 at h
    refine bv_iload_n dX12_scratch_82 2 rfl ?_
    refine bv_aload_n dX12_scratch_83 0 rfl ?_
    obtain ⟨a1, e2, h⟩ := bu_bd h
    refine bw_getA (a := a1) hN q_0 e2 dX12_scratch_84 fl_12_33 rfl ?_
    refine bv_iconst (v := 0) dX12_scratch_87 (by decide) ?_
    obtain ⟨r3, h⟩ := bu_ia h
    refine bw_iald hN r3 dX12_scratch_88 ?_
    refine bv_icmp_ge (tgt := 116) dX12_scratch_89 (by decide) (fun cc => ?_) (fun cc => ?_)
    · replace h := bu_t h cc
      refine bw_ls (ls1 := [(0, .ref x0), (1, .int x1)]) [0, 1] rfl ?_
      obtain rfl := Option.some.inj h
      exact K0 _ rfl
    · replace h := bu_f h cc
      refine bv_iload_n dX12_scratch_92 1 rfl ?_
      refine bv_aload_n dX12_scratch_93 0 rfl ?_
      refine bv_iload_n dX12_scratch_94 2 rfl ?_
      obtain ⟨v4, p5, h⟩ := bu_bd h
      refine bw_callV (As := [.int x2]) hN q_0 ⟨_, _, rfl⟩ dX12_scratch_95 mc_12_397 (c_X12_isScratch (d := d + 0) hN p5) rfl rfl (Nat.le_of_ble_eq_true rfl) ?_
      refine bw_ifB_eq (b := v4) (tgt := 107) dX12_scratch_98 (by decide) (fun cc => ?_) (fun cc => ?_)
      · replace h := bu_bf h cc
        refine bv_iconst (v := 0) dX12_scratch_107 (by decide) ?_
        refine bv_ior dX12_scratch_108 ?_
        refine bv_istore_n (ls1 := [(0, .ref x0), (1, .int (x1 ||| 0)), (2, .int x2)]) dX12_scratch_109 (by decide) rfl rfl ?_
        refine bv_iinc (j := 2) (v := (x2 + 1)) (ls1 := [(0, .ref x0), (1, .int (x1 ||| 0)), (2, .int (x2 + 1))]) dX12_scratch_110 rfl rfl (by decide) rfl rfl ?_
        refine bv_goto (tgt := 82) dX12_scratch_113 (by decide) ?_
        exact ih _ _ _ h K0
      · replace h := bu_bt h cc
        refine bv_iconst (v := 1) dX12_scratch_101 (by decide) ?_
        refine bv_iload_n dX12_scratch_102 2 rfl ?_
        refine bv_ishl dX12_scratch_103 ?_
        refine bv_goto (tgt := 108) dX12_scratch_104 (by decide) ?_
        refine bv_ior dX12_scratch_108 ?_
        refine bv_istore_n (ls1 := [(0, .ref x0), (1, .int (x1 ||| (bm_ishl 1 x2))), (2, .int x2)]) dX12_scratch_109 (by decide) rfl rfl ?_
        refine bv_iinc (j := 2) (v := (x2 + 1)) (ls1 := [(0, .ref x0), (1, .int (x1 ||| (bm_ishl 1 x2))), (2, .int (x2 + 1))]) dX12_scratch_110 rfl rfl (by decide) rfl rfl ?_
        refine bv_goto (tgt := 82) dX12_scratch_113 (by decide) ?_
        exact ih _ _ _ h K0
def f_X12_scratch_l149 (M : bm_M) (x0 : Nat) (x1 : Int32) (x2 : Int32) (x3 : Int32) : Nat → Int32 → Int32 → Option (Int32)
  | 0, _, _ => none
  | k + 1, x4, x5 => ((M.2.2 x0 6).bind fun a1 => (if bm_ia a1 0 0 = true then (if (M.1 a1 (0 : Int32).toNatClampNeg) ≤ x5 then some x4 else (if (f_X12_bitOf x1 x5) = true then ((f_X12_readsOne M x0 x3 x5).bind fun v4 => (if v4 = true then f_X12_scratch_l149 M x0 x1 x2 x3 k (x4 + 1) (x5 + 1) else f_X12_scratch_l149 M x0 x1 x2 x3 k (x4 + 0) (x5 + 1))) else f_X12_scratch_l149 M x0 x1 x2 x3 k (x4 + 0) (x5 + 1))) else none))
set_option maxHeartbeats 4000000 in
set_option maxRecDepth 100000 in
theorem v_X12_scratch_l149 {L : bm_L} {d n : Nat} {Q : Option Value → bm_M → Prop} {M : bm_M} {x0 : Nat} {x1 : Int32} {x2 : Int32} {x3 : Int32} (hN : 181 ≤ n) (q_0 : bm_OK x0 11) : ∀ (k : Nat) (x4 : Int32) (x5 : Int32) (r : Int32), f_X12_scratch_l149 M x0 x1 x2 x3 k x4 x5 = some r → (∀ yy, yy = r → bm_V L m_X12_scratch (d + 6) n n n 195 [(0, .ref x0), (1, .int x1), (2, .int x2), (3, .int x3), (4, .int yy)] [] M Q) → bm_V L m_X12_scratch (d + 6) n n n 149 [(0, .ref x0), (1, .int x1), (2, .int x2), (3, .int x3), (4, .int x4), (5, .int x5)] [] M Q := by
  intro k
  induction k with
  | zero => intro x4 x5 r h; cases (show (none : Option (Int32)) = some r from h)
  | succ k ih =>
    intro x4 x5 r h K0
    unfold f_X12_scratch_l149 at h
    refine bv_iload dX12_scratch_149 5 rfl ?_
    refine bv_aload_n dX12_scratch_151 0 rfl ?_
    obtain ⟨a1, e2, h⟩ := bu_bd h
    refine bw_getA (a := a1) hN q_0 e2 dX12_scratch_152 fl_12_33 rfl ?_
    refine bv_iconst (v := 0) dX12_scratch_155 (by decide) ?_
    obtain ⟨r3, h⟩ := bu_ia h
    refine bw_iald hN r3 dX12_scratch_156 ?_
    refine bv_icmp_ge (tgt := 195) dX12_scratch_157 (by decide) (fun cc => ?_) (fun cc => ?_)
    · replace h := bu_t h cc
      refine bw_ls (ls1 := [(0, .ref x0), (1, .int x1), (2, .int x2), (3, .int x3), (4, .int x4)]) [0, 1, 2, 3, 4] rfl ?_
      obtain rfl := Option.some.inj h
      exact K0 _ rfl
    · replace h := bu_f h cc
      refine bv_iload dX12_scratch_160 4 rfl ?_
      refine bv_iload_n dX12_scratch_162 1 rfl ?_
      refine bv_iload dX12_scratch_163 5 rfl ?_
      refine bw_callS (As := [.int x1, .int x5]) dX12_scratch_165 mc_12_231 (c_X12_bitOf (d := d + 5) hN rfl) rfl rfl (Nat.le_of_ble_eq_true rfl) ?_
      refine bw_ifB_eq (b := (f_X12_bitOf x1 x5)) (tgt := 185) dX12_scratch_168 (by decide) (fun cc => ?_) (fun cc => ?_)
      · replace h := bu_bf h cc
        refine bv_iconst (v := 0) dX12_scratch_185 (by decide) ?_
        refine bv_iadd dX12_scratch_186 ?_
        refine bv_istore (ls1 := [(0, .ref x0), (1, .int x1), (2, .int x2), (3, .int x3), (4, .int (x4 + 0)), (5, .int x5)]) dX12_scratch_187 (by decide) rfl rfl ?_
        refine bv_iinc (j := 5) (v := (x5 + 1)) (ls1 := [(0, .ref x0), (1, .int x1), (2, .int x2), (3, .int x3), (4, .int (x4 + 0)), (5, .int (x5 + 1))]) dX12_scratch_189 rfl rfl (by decide) rfl rfl ?_
        refine bv_goto (tgt := 149) dX12_scratch_192 (by decide) ?_
        exact ih _ _ _ h K0
      · replace h := bu_bt h cc
        refine bv_aload_n dX12_scratch_171 0 rfl ?_
        refine bv_iload_n dX12_scratch_172 3 rfl ?_
        refine bv_iload dX12_scratch_173 5 rfl ?_
        obtain ⟨v4, p5, h⟩ := bu_bd h
        refine bw_callV (As := [.int x3, .int x5]) hN q_0 ⟨_, _, rfl⟩ dX12_scratch_175 mc_12_300 (c_X12_readsOne (d := d + 1) hN p5) rfl rfl (Nat.le_of_ble_eq_true rfl) ?_
        refine bw_ifB_eq (b := v4) (tgt := 185) dX12_scratch_178 (by decide) (fun cc => ?_) (fun cc => ?_)
        · replace h := bu_bf h cc
          refine bv_iconst (v := 0) dX12_scratch_185 (by decide) ?_
          refine bv_iadd dX12_scratch_186 ?_
          refine bv_istore (ls1 := [(0, .ref x0), (1, .int x1), (2, .int x2), (3, .int x3), (4, .int (x4 + 0)), (5, .int x5)]) dX12_scratch_187 (by decide) rfl rfl ?_
          refine bv_iinc (j := 5) (v := (x5 + 1)) (ls1 := [(0, .ref x0), (1, .int x1), (2, .int x2), (3, .int x3), (4, .int (x4 + 0)), (5, .int (x5 + 1))]) dX12_scratch_189 rfl rfl (by decide) rfl rfl ?_
          refine bv_goto (tgt := 149) dX12_scratch_192 (by decide) ?_
          exact ih _ _ _ h K0
        · replace h := bu_bt h cc
          refine bv_iconst (v := 1) dX12_scratch_181 (by decide) ?_
          refine bv_goto (tgt := 186) dX12_scratch_182 (by decide) ?_
          refine bv_iadd dX12_scratch_186 ?_
          refine bv_istore (ls1 := [(0, .ref x0), (1, .int x1), (2, .int x2), (3, .int x3), (4, .int (x4 + 1)), (5, .int x5)]) dX12_scratch_187 (by decide) rfl rfl ?_
          refine bv_iinc (j := 5) (v := (x5 + 1)) (ls1 := [(0, .ref x0), (1, .int x1), (2, .int x2), (3, .int x3), (4, .int (x4 + 1)), (5, .int (x5 + 1))]) dX12_scratch_189 rfl rfl (by decide) rfl rfl ?_
          refine bv_goto (tgt := 149) dX12_scratch_192 (by decide) ?_
          exact ih _ _ _ h K0
def f_X12_scratch_l133 (x0 : Nat) (x1 : Int32) : Nat → Int32 → Int32 → bm_M → Option (bm_M)
  | 0, _, _, _ => none
  | k + 1, x2, x3, M => ((M.2.2 x0 6).bind fun a1 => (if bm_ia a1 0 0 = true then (if (M.1 a1 (0 : Int32).toNatClampNeg) ≤ x3 then some M else ((f_X12_scratch_l149 M x0 x1 x2 x3 1000 0 0).bind fun y6 => ((f_X12_bits M x1).bind fun v7 => (if (f_X12_absolute (v7 - (2 * y6))) < x2 then f_X12_scratch_l133 x0 x1 k (f_X12_absolute (v7 - (2 * y6))) (x3 + 1) (bm_sI M x0 29 x3) else f_X12_scratch_l133 x0 x1 k x2 (x3 + 1) M)))) else none))
set_option maxHeartbeats 4000000 in
set_option maxRecDepth 100000 in
theorem v_X12_scratch_l133 {L : bm_L} {d n : Nat} {Q : Option Value → bm_M → Prop} {x0 : Nat} {x1 : Int32} (hN : 181 ≤ n) (q_0 : bm_OK x0 11) : ∀ (k : Nat) (x2 : Int32) (x3 : Int32) (M : bm_M) (r : bm_M), f_X12_scratch_l133 x0 x1 k x2 x3 M = some r → (∀ yy, yy = r → bm_V L m_X12_scratch (d + 6) n n n 232 [(1, .int x1)] [] yy Q) → bm_V L m_X12_scratch (d + 6) n n n 133 [(0, .ref x0), (1, .int x1), (2, .int x2), (3, .int x3)] [] M Q := by
  intro k
  induction k with
  | zero => intro x2 x3 M r h; cases (show (none : Option (bm_M)) = some r from h)
  | succ k ih =>
    intro x2 x3 M r h K0
    unfold f_X12_scratch_l133 at h
    refine bv_iload_n dX12_scratch_133 3 rfl ?_
    refine bv_aload_n dX12_scratch_134 0 rfl ?_
    obtain ⟨a1, e2, h⟩ := bu_bd h
    refine bw_getA (a := a1) hN q_0 e2 dX12_scratch_135 fl_12_33 rfl ?_
    refine bv_iconst (v := 0) dX12_scratch_138 (by decide) ?_
    obtain ⟨r3, h⟩ := bu_ia h
    refine bw_iald hN r3 dX12_scratch_139 ?_
    refine bv_icmp_ge (tgt := 232) dX12_scratch_140 (by decide) (fun cc => ?_) (fun cc => ?_)
    · replace h := bu_t h cc
      refine bw_ls (ls1 := [(1, .int x1)]) [1] rfl ?_
      obtain rfl := Option.some.inj h
      exact K0 _ rfl
    · replace h := bu_f h cc
      refine bv_iconst (v := 0) dX12_scratch_143 (by decide) ?_
      refine bv_istore (ls1 := [(0, .ref x0), (1, .int x1), (2, .int x2), (3, .int x3), (4, .int 0)]) dX12_scratch_144 (by decide) rfl rfl ?_
      refine bv_iconst (v := 0) dX12_scratch_146 (by decide) ?_
      refine bv_istore (ls1 := [(0, .ref x0), (1, .int x1), (2, .int x2), (3, .int x3), (4, .int 0), (5, .int 0)]) dX12_scratch_147 (by decide) rfl rfl ?_
      obtain ⟨r4, p5, h⟩ := bu_bd h
      refine v_X12_scratch_l149 hN q_0 1000 _ _ _ p5 (fun y6 hy => ?_)
      · subst hy
        refine bv_iload_n dX12_scratch_195 1 rfl ?_
        obtain ⟨v7, p8, h⟩ := bu_bd h
        refine bw_callS (As := [.int x1]) dX12_scratch_196 mc_12_378 (c_X12_bits (d := d + 5) hN p8) rfl rfl (by decide) ?_
        refine bv_iconst (v := 2) dX12_scratch_199 (by decide) ?_
        refine bv_iload dX12_scratch_200 4 rfl ?_
        refine bv_imul dX12_scratch_202 ?_
        refine bv_isub dX12_scratch_203 ?_
        refine bw_callS (As := [.int (v7 - (2 * y6))]) dX12_scratch_204 mc_12_282 (c_X12_absolute (d := d + 5) hN rfl) rfl rfl (by decide) ?_
        refine bv_istore (ls1 := [(0, .ref x0), (1, .int x1), (2, .int x2), (3, .int x3), (4, .int y6), (5, .int (f_X12_absolute (v7 - (2 * y6))))]) dX12_scratch_207 (by decide) rfl rfl ?_
        refine bv_iload dX12_scratch_209 5 rfl ?_
        refine bv_iload_n dX12_scratch_211 2 rfl ?_
        refine bv_icmp_lt (tgt := 218) dX12_scratch_212 (by decide) (fun cc => ?_) (fun cc => ?_)
        · replace h := bu_t h cc
          refine bv_iload dX12_scratch_218 5 rfl ?_
          refine bv_istore_n (ls1 := [(0, .ref x0), (1, .int x1), (2, .int (f_X12_absolute (v7 - (2 * y6)))), (3, .int x3), (4, .int y6), (5, .int (f_X12_absolute (v7 - (2 * y6))))]) dX12_scratch_220 (by decide) rfl rfl ?_
          refine bv_aload_n dX12_scratch_221 0 rfl ?_
          refine bv_iload_n dX12_scratch_222 3 rfl ?_
          refine bw_putI hN q_0 dX12_scratch_223 fl_12_404 rfl ?_
          refine bv_iinc (j := 3) (v := (x3 + 1)) (ls1 := [(0, .ref x0), (1, .int x1), (2, .int (f_X12_absolute (v7 - (2 * y6)))), (3, .int (x3 + 1)), (4, .int y6), (5, .int (f_X12_absolute (v7 - (2 * y6))))]) dX12_scratch_226 rfl rfl (by decide) rfl rfl ?_
          refine bv_goto (tgt := 133) dX12_scratch_229 (by decide) ?_
          refine bw_ls (ls1 := [(0, .ref x0), (1, .int x1), (2, .int (f_X12_absolute (v7 - (2 * y6)))), (3, .int (x3 + 1))]) [0, 1, 2, 3] rfl ?_
          exact ih _ _ _ _ h K0
        · replace h := bu_f h cc
          refine bv_goto (tgt := 226) dX12_scratch_215 (by decide) ?_
          refine bv_iinc (j := 3) (v := (x3 + 1)) (ls1 := [(0, .ref x0), (1, .int x1), (2, .int x2), (3, .int (x3 + 1)), (4, .int y6), (5, .int (f_X12_absolute (v7 - (2 * y6))))]) dX12_scratch_226 rfl rfl (by decide) rfl rfl ?_
          refine bv_goto (tgt := 133) dX12_scratch_229 (by decide) ?_
          refine bw_ls (ls1 := [(0, .ref x0), (1, .int x1), (2, .int x2), (3, .int (x3 + 1))]) [0, 1, 2, 3] rfl ?_
          exact ih _ _ _ _ h K0
def f_X12_scratch (M : bm_M) (x0 : Nat) : Option (Int32 × bm_M) := (if bm_io x0 11 then ((f_X12_taken (bm_sI M x0 0 0) x0 940).bind fun v2 => (if (f_X12_isIn (v2.1 x0 3) 2 16) = true then (if (bm_rem (v2.1 x0 3) 2) = 1 then some ((-1), v2) else ((f_X12_scratch_l39 v2 x0 1000 0).bind fun rr => match rr with | (Sum.inl y6) => some ((-1), v2) | (Sum.inr y6) => ((f_X12_scratch_l82 v2 x0 1000 0 0).bind fun y9 => (if y9 = 0 then some (0, v2) else ((f_X12_scratch_l133 x0 y9 1000 1000000 0 (bm_sI v2 x0 30 (bm_bi true))).bind fun y12 => some (y9, y12)))))) else some ((-1), v2))) else none)
set_option maxHeartbeats 4000000 in
set_option maxRecDepth 100000 in
theorem c_X12_scratch {L : bm_L} {d n : Nat} {M : bm_M} {x0 : Nat} {v : Int32 × bm_M} (hN : 181 ≤ n) (h : f_X12_scratch M x0 = some v) : bm_C L m_X12_scratch (d + 6) n n [.ref x0] M (fun r M' => r = some (.int v.1) ∧ M' = v.2) := by
  refine bm_C.ofV (by decide) (Nat.le_of_ble_eq_true rfl) ?_
  show bm_V L m_X12_scratch (d + 6) n n n 0 [(0, .ref x0)] [] M _
  unfold f_X12_scratch at h
  refine bv_aload_n dX12_scratch_0 0 rfl ?_
  refine bv_iconst (v := 0) dX12_scratch_1 (by decide) ?_
  obtain ⟨q1, h⟩ := bu_io h
  refine bw_putI hN q1 dX12_scratch_2 fl_12_1 rfl ?_
  refine bv_aload_n dX12_scratch_5 0 rfl ?_
  refine bv_sipush (v := 940) dX12_scratch_6 (by decide) ?_
  obtain ⟨v2, p3, h⟩ := bu_bd h
  refine bw_callVv (As := [.int 940]) hN q1 ⟨_, _, rfl⟩ dX12_scratch_9 mc_12_264 (c_X12_taken (d := d + 5) hN p3) rfl rfl (by decide) ?_
  refine bv_aload_n dX12_scratch_12 0 rfl ?_
  refine bw_getI hN q1 dX12_scratch_13 fl_12_18 rfl ?_
  refine bv_iconst (v := 2) dX12_scratch_16 (by decide) ?_
  refine bv_bipush (v := 16) dX12_scratch_17 (by decide) ?_
  refine bw_callS (As := [.int (v2.1 x0 3), .int 2, .int 16]) dX12_scratch_19 mc_12_206 (c_X12_isIn (d := d + 5) hN rfl) rfl rfl (by decide) ?_
  refine bw_ifB_eq (b := (f_X12_isIn (v2.1 x0 3) 2 16)) (tgt := 35) dX12_scratch_22 (by decide) (fun cc => ?_) (fun cc => ?_)
  · replace h := bu_bf h cc
    refine bv_iconst (v := (-1)) dX12_scratch_35 (by decide) ?_
    obtain rfl := Option.some.inj h
    exact bv_iret (x := (-1)) dX12_scratch_36 rfl ⟨rfl, rfl⟩
  · replace h := bu_bt h cc
    refine bv_aload_n dX12_scratch_25 0 rfl ?_
    refine bw_getI hN q1 dX12_scratch_26 fl_12_18 rfl ?_
    refine bv_iconst (v := 2) dX12_scratch_29 (by decide) ?_
    refine bv_irem dX12_scratch_30 (by decide) ?_
    refine bv_iconst (v := 1) dX12_scratch_31 (by decide) ?_
    refine bv_icmp_ne (tgt := 37) dX12_scratch_32 (by decide) (fun cc => ?_) (fun cc => ?_)
    · replace h := bu_f h cc
      refine bv_iconst (v := 0) dX12_scratch_37 (by decide) ?_
      refine bv_istore_n (ls1 := [(0, .ref x0), (1, .int 0)]) dX12_scratch_38 (by decide) rfl rfl ?_
      obtain ⟨r4, p5, h⟩ := bu_bd h
      refine v_X12_scratch_l39 hN q1 1000 _ _ p5 (fun y6 hy => ?_) (fun y6 hy => ?_)
      · subst hy
        refine bv_iconst (v := (-1)) dX12_scratch_70 (by decide) ?_
        obtain rfl := Option.some.inj h
        exact bv_iret (x := (-1)) dX12_scratch_71 rfl ⟨rfl, rfl⟩
      · subst hy
        refine bv_iconst (v := 0) dX12_scratch_78 (by decide) ?_
        refine bv_istore_n (ls1 := [(0, .ref x0), (1, .int 0)]) dX12_scratch_79 (by decide) rfl rfl ?_
        refine bv_iconst (v := 0) dX12_scratch_80 (by decide) ?_
        refine bv_istore_n (ls1 := [(0, .ref x0), (1, .int 0), (2, .int 0)]) dX12_scratch_81 (by decide) rfl rfl ?_
        obtain ⟨r7, p8, h⟩ := bu_bd h
        refine v_X12_scratch_l82 hN q1 1000 _ _ _ p8 (fun y9 hy => ?_)
        · subst hy
          refine bv_iload_n dX12_scratch_116 1 rfl ?_
          refine bv_if_ne (tgt := 122) dX12_scratch_117 (by decide) (fun cc => ?_) (fun cc => ?_)
          · replace h := bu_f h cc
            refine bv_aload_n dX12_scratch_122 0 rfl ?_
            refine bv_iconst (v := 1) dX12_scratch_123 (by decide) ?_
            refine bw_putB (b := true) hN q1 dX12_scratch_124 fl_12_400 rfl ?_
            refine bv_ldcw (v := 1000000) dX12_scratch_127 cst_12_381 ?_
            refine bv_istore_n (ls1 := [(0, .ref x0), (1, .int y9), (2, .int 1000000)]) dX12_scratch_130 (by decide) rfl rfl ?_
            refine bv_iconst (v := 0) dX12_scratch_131 (by decide) ?_
            refine bv_istore_n (ls1 := [(0, .ref x0), (1, .int y9), (2, .int 1000000), (3, .int 0)]) dX12_scratch_132 (by decide) rfl rfl ?_
            obtain ⟨r10, p11, h⟩ := bu_bd h
            refine v_X12_scratch_l133 hN q1 1000 _ _ _ _ p11 (fun y12 hy => ?_)
            · subst hy
              refine bv_iload_n dX12_scratch_232 0 rfl ?_
              obtain rfl := Option.some.inj h
              exact bv_iret (x := y9) dX12_scratch_233 rfl ⟨rfl, rfl⟩
          · replace h := bu_t h cc
            refine bv_iconst (v := 0) dX12_scratch_120 (by decide) ?_
            obtain rfl := Option.some.inj h
            exact bv_iret (x := 0) dX12_scratch_121 rfl ⟨rfl, rfl⟩
    · replace h := bu_t h cc
      refine bv_iconst (v := (-1)) dX12_scratch_35 (by decide) ?_
      obtain rfl := Option.some.inj h
      exact bv_iret (x := (-1)) dX12_scratch_36 rfl ⟨rfl, rfl⟩
