def f_X12_bad (M : bm_M) (x0 : Nat) (x1 : Int32) : Option (Bool × bm_M) := (if bm_io x0 11 then some (false, (bm_sI (bm_sI M x0 15 x1) x0 16 ((bm_sI M x0 15 x1).1 x0 12))) else none)
set_option maxHeartbeats 4000000 in
set_option maxRecDepth 100000 in
theorem c_X12_bad {L : bm_L} {d n : Nat} {M : bm_M} {x0 : Nat} {x1 : Int32} {v : Bool × bm_M} (hN : 181 ≤ n) (h : f_X12_bad M x0 x1 = some v) : bm_C L m_X12_bad d n n [.ref x0, .int x1] M (fun r M' => r = some (.int (bm_bi v.1)) ∧ M' = v.2) := by
  refine bm_C.ofV (by decide) (Nat.le_of_ble_eq_true rfl) ?_
  show bm_V L m_X12_bad d n n n 0 [(0, .ref x0), (1, .int x1)] [] M _
  unfold f_X12_bad at h
  refine bv_aload_n dX12_bad_0 0 rfl ?_
  refine bv_iload_n dX12_bad_1 1 rfl ?_
  obtain ⟨q1, h⟩ := bu_io h
  refine bw_putI hN q1 dX12_bad_2 fl_12_191 rfl ?_
  refine bv_aload_n dX12_bad_5 0 rfl ?_
  refine bv_aload_n dX12_bad_6 0 rfl ?_
  refine bw_getI hN q1 dX12_bad_7 fl_12_168 rfl ?_
  refine bw_putI hN q1 dX12_bad_10 fl_12_194 rfl ?_
  refine bv_iconst (v := 0) dX12_bad_13 (by decide) ?_
  obtain rfl := Option.some.inj h
  exact bw_bret (b := false) dX12_bad_14 rfl ⟨rfl, rfl⟩
def f_X12_isWord (M : bm_M) (x0 : Nat) (x1 : Int64) : Option (Bool) := (if bm_io x0 11 then (if (M.1 x0 11) = 1 then (if (lg_cmp (M.2.1 x0 17) x1) = 0 then some true else some false) else some false) else none)
set_option maxHeartbeats 4000000 in
set_option maxRecDepth 100000 in
theorem c_X12_isWord {L : bm_L} {d n : Nat} {M : bm_M} {x0 : Nat} {x1 : Int64} {v : Bool} (hN : 181 ≤ n) (h : f_X12_isWord M x0 x1 = some v) : bm_C L m_X12_isWord d n n [.ref x0, .long x1] M (fun r M' => r = some (.int (bm_bi v)) ∧ M' = M) := by
  refine bm_C.ofV (by decide) (Nat.le_of_ble_eq_true rfl) ?_
  show bm_V L m_X12_isWord d n n n 0 [(0, .ref x0), (1, .long x1)] [] M _
  unfold f_X12_isWord at h
  refine bv_aload_n dX12_isWord_0 0 rfl ?_
  obtain ⟨q1, h⟩ := bu_io h
  refine bw_getI hN q1 dX12_isWord_1 fl_12_174 rfl ?_
  refine bv_iconst (v := 1) dX12_isWord_4 (by decide) ?_
  refine bv_icmp_ne (tgt := 21) dX12_isWord_5 (by decide) (fun cc => ?_) (fun cc => ?_)
  · replace h := bu_f h cc
    refine bv_iconst (v := 0) dX12_isWord_21 (by decide) ?_
    obtain rfl := Option.some.inj h
    exact bw_bret (b := false) dX12_isWord_22 rfl ⟨rfl, rfl⟩
  · replace h := bu_t h cc
    refine bv_aload_n dX12_isWord_8 0 rfl ?_
    refine bw_getL hN q1 dX12_isWord_9 fl_12_187 rfl ?_
    refine bv_lload_n dX12_isWord_12 1 rfl ?_
    refine bv_lcmp dX12_isWord_13 ?_
    refine bv_if_ne (tgt := 21) dX12_isWord_14 (by decide) (fun cc => ?_) (fun cc => ?_)
    · replace h := bu_f h cc
      refine bv_iconst (v := 0) dX12_isWord_21 (by decide) ?_
      obtain rfl := Option.some.inj h
      exact bw_bret (b := false) dX12_isWord_22 rfl ⟨rfl, rfl⟩
    · replace h := bu_t h cc
      refine bv_iconst (v := 1) dX12_isWord_17 (by decide) ?_
      refine bv_goto (tgt := 22) dX12_isWord_18 (by decide) ?_
      obtain rfl := Option.some.inj h
      exact bw_bret (b := true) dX12_isWord_22 rfl ⟨rfl, rfl⟩
def f_X12_isSign (M : bm_M) (x0 : Nat) (x1 : Int32) : Option (Bool) := (if bm_io x0 11 then (if (M.1 x0 11) = 3 then (if (M.1 x0 14) = x1 then some true else some false) else some false) else none)
set_option maxHeartbeats 4000000 in
set_option maxRecDepth 100000 in
theorem c_X12_isSign {L : bm_L} {d n : Nat} {M : bm_M} {x0 : Nat} {x1 : Int32} {v : Bool} (hN : 181 ≤ n) (h : f_X12_isSign M x0 x1 = some v) : bm_C L m_X12_isSign d n n [.ref x0, .int x1] M (fun r M' => r = some (.int (bm_bi v)) ∧ M' = M) := by
  refine bm_C.ofV (by decide) (Nat.le_of_ble_eq_true rfl) ?_
  show bm_V L m_X12_isSign d n n n 0 [(0, .ref x0), (1, .int x1)] [] M _
  unfold f_X12_isSign at h
  refine bv_aload_n dX12_isSign_0 0 rfl ?_
  obtain ⟨q1, h⟩ := bu_io h
  refine bw_getI hN q1 dX12_isSign_1 fl_12_174 rfl ?_
  refine bv_iconst (v := 3) dX12_isSign_4 (by decide) ?_
  refine bv_icmp_ne (tgt := 20) dX12_isSign_5 (by decide) (fun cc => ?_) (fun cc => ?_)
  · replace h := bu_f h cc
    refine bv_iconst (v := 0) dX12_isSign_20 (by decide) ?_
    obtain rfl := Option.some.inj h
    exact bw_bret (b := false) dX12_isSign_21 rfl ⟨rfl, rfl⟩
  · replace h := bu_t h cc
    refine bv_aload_n dX12_isSign_8 0 rfl ?_
    refine bw_getI hN q1 dX12_isSign_9 fl_12_184 rfl ?_
    refine bv_iload_n dX12_isSign_12 1 rfl ?_
    refine bv_icmp_ne (tgt := 20) dX12_isSign_13 (by decide) (fun cc => ?_) (fun cc => ?_)
    · replace h := bu_f h cc
      refine bv_iconst (v := 0) dX12_isSign_20 (by decide) ?_
      obtain rfl := Option.some.inj h
      exact bw_bret (b := false) dX12_isSign_21 rfl ⟨rfl, rfl⟩
    · replace h := bu_t h cc
      refine bv_iconst (v := 1) dX12_isSign_16 (by decide) ?_
      refine bv_goto (tgt := 21) dX12_isSign_17 (by decide) ?_
      obtain rfl := Option.some.inj h
      exact bw_bret (b := true) dX12_isSign_21 rfl ⟨rfl, rfl⟩
def f_X12_sign (M : bm_M) (x0 : Nat) (x1 : Int32) : Option (Bool × bm_M) := (if bm_io x0 11 then ((f_X12_isSign M x0 x1).bind fun v2 => (if v2 = true then ((f_X12_next M x0).bind fun v4 => some (true, v4)) else ((f_X12_bad M x0 1).bind fun v6 => some (v6.1, v6.2)))) else none)
set_option maxHeartbeats 4000000 in
set_option maxRecDepth 100000 in
theorem c_X12_sign {L : bm_L} {d n : Nat} {M : bm_M} {x0 : Nat} {x1 : Int32} {v : Bool × bm_M} (hN : 181 ≤ n) (h : f_X12_sign M x0 x1 = some v) : bm_C L m_X12_sign (d + 2) n n [.ref x0, .int x1] M (fun r M' => r = some (.int (bm_bi v.1)) ∧ M' = v.2) := by
  refine bm_C.ofV (by decide) (Nat.le_of_ble_eq_true rfl) ?_
  show bm_V L m_X12_sign (d + 2) n n n 0 [(0, .ref x0), (1, .int x1)] [] M _
  unfold f_X12_sign at h
  refine bv_aload_n dX12_sign_0 0 rfl ?_
  refine bv_iload_n dX12_sign_1 1 rfl ?_
  obtain ⟨q1, h⟩ := bu_io h
  obtain ⟨v2, p3, h⟩ := bu_bd h
  refine bw_callV (As := [.int x1]) hN q1 ⟨_, _, rfl⟩ dX12_sign_2 mc_12_197 (c_X12_isSign (d := d + 1) hN p3) rfl rfl (by decide) ?_
  refine bw_ifB_ne (b := v2) (tgt := 14) dX12_sign_5 (by decide) (fun cc => ?_) (fun cc => ?_)
  · replace h := bu_bt h cc
    refine bv_aload_n dX12_sign_14 0 rfl ?_
    obtain ⟨v4, p5, h⟩ := bu_bd h
    refine bw_callVv (As := []) hN q1 ⟨_, _, rfl⟩ dX12_sign_15 mc_12_203 (c_X12_next (d := d + 0) hN p5) rfl rfl (by decide) ?_
    refine bv_iconst (v := 1) dX12_sign_18 (by decide) ?_
    obtain rfl := Option.some.inj h
    exact bw_bret (b := true) dX12_sign_19 rfl ⟨rfl, rfl⟩
  · replace h := bu_bf h cc
    refine bv_aload_n dX12_sign_8 0 rfl ?_
    refine bv_iconst (v := 1) dX12_sign_9 (by decide) ?_
    obtain ⟨v6, p7, h⟩ := bu_bd h
    refine bw_callV (As := [.int 1]) hN q1 ⟨_, _, rfl⟩ dX12_sign_10 mc_12_200 (c_X12_bad (d := d + 1) hN p7) rfl rfl (by decide) ?_
    obtain rfl := Option.some.inj h
    exact bw_bret (b := v6.1) dX12_sign_13 rfl ⟨rfl, rfl⟩
def f_X12_isName_l16 (M : bm_M) (x0 : Nat) : Nat → Bool → Int32 → Option (Bool)
  | 0, _, _ => none
  | k + 1, x1, x2 => (if 34 ≤ x2 then some x1 else (if x1 = true then ((M.2.2 x0 10).bind fun a1 => (if bm_ia a1 2 x2 = true then (if (lg_cmp (M.2.1 x0 17) (M.2.1 a1 x2.toNatClampNeg)) = 0 then f_X12_isName_l16 M x0 k false (x2 + 1) else f_X12_isName_l16 M x0 k true (x2 + 1)) else none)) else f_X12_isName_l16 M x0 k false (x2 + 1)))
set_option maxHeartbeats 4000000 in
set_option maxRecDepth 100000 in
theorem v_X12_isName_l16 {L : bm_L} {d n : Nat} {Q : Option Value → bm_M → Prop} {M : bm_M} {x0 : Nat} (hN : 181 ≤ n) (q_0 : bm_OK x0 11) : ∀ (k : Nat) (x1 : Bool) (x2 : Int32) (r : Bool), f_X12_isName_l16 M x0 k x1 x2 = some r → (∀ yy, yy = r → bm_V L m_X12_isName d n n n 52 [(1, .int (bm_bi yy))] [] M Q) → bm_V L m_X12_isName d n n n 16 [(0, .ref x0), (1, .int (bm_bi x1)), (2, .int x2)] [] M Q := by
  intro k
  induction k with
  | zero => intro x1 x2 r h; cases (show (none : Option (Bool)) = some r from h)
  | succ k ih =>
    intro x1 x2 r h K0
    unfold f_X12_isName_l16 at h
    refine bv_iload_n dX12_isName_16 2 rfl ?_
    refine bv_bipush (v := 34) dX12_isName_17 (by decide) ?_
    refine bv_icmp_ge (tgt := 52) dX12_isName_19 (by decide) (fun cc => ?_) (fun cc => ?_)
    · replace h := bu_t h cc
      refine bw_ls (ls1 := [(1, .int (bm_bi x1))]) [1] rfl ?_
      obtain rfl := Option.some.inj h
      exact K0 _ rfl
    · replace h := bu_f h cc
      refine bv_iload_n dX12_isName_22 1 rfl ?_
      refine bw_ifB_eq (b := x1) (tgt := 44) dX12_isName_23 (by decide) (fun cc => ?_) (fun cc => ?_)
      · replace h := bu_bf h cc
        refine bv_iconst (v := 0) dX12_isName_44 (by decide) ?_
        refine bv_istore_n (ls1 := [(0, .ref x0), (1, .int 0), (2, .int x2)]) dX12_isName_45 (by decide) rfl rfl ?_
        refine bv_iinc (j := 2) (v := (x2 + 1)) (ls1 := [(0, .ref x0), (1, .int 0), (2, .int (x2 + 1))]) dX12_isName_46 rfl rfl (by decide) rfl rfl ?_
        refine bv_goto (tgt := 16) dX12_isName_49 (by decide) ?_
        exact ih _ _ _ h K0
      · replace h := bu_bt h cc
        refine bv_aload_n dX12_isName_26 0 rfl ?_
        refine bw_getL hN q_0 dX12_isName_27 fl_12_187 rfl ?_
        refine bv_aload_n dX12_isName_30 0 rfl ?_
        obtain ⟨a1, e2, h⟩ := bu_bd h
        refine bw_getA (a := a1) hN q_0 e2 dX12_isName_31 fl_12_47 rfl ?_
        refine bv_iload_n dX12_isName_34 2 rfl ?_
        obtain ⟨r3, h⟩ := bu_ia h
        refine bw_lald hN r3 dX12_isName_35 ?_
        refine bv_lcmp dX12_isName_36 ?_
        refine bv_if_eq (tgt := 44) dX12_isName_37 (by decide) (fun cc => ?_) (fun cc => ?_)
        · replace h := bu_t h cc
          refine bv_iconst (v := 0) dX12_isName_44 (by decide) ?_
          refine bv_istore_n (ls1 := [(0, .ref x0), (1, .int 0), (2, .int x2)]) dX12_isName_45 (by decide) rfl rfl ?_
          refine bv_iinc (j := 2) (v := (x2 + 1)) (ls1 := [(0, .ref x0), (1, .int 0), (2, .int (x2 + 1))]) dX12_isName_46 rfl rfl (by decide) rfl rfl ?_
          refine bv_goto (tgt := 16) dX12_isName_49 (by decide) ?_
          exact ih _ _ _ h K0
        · replace h := bu_f h cc
          refine bv_iconst (v := 1) dX12_isName_40 (by decide) ?_
          refine bv_goto (tgt := 45) dX12_isName_41 (by decide) ?_
          refine bv_istore_n (ls1 := [(0, .ref x0), (1, .int 1), (2, .int x2)]) dX12_isName_45 (by decide) rfl rfl ?_
          refine bv_iinc (j := 2) (v := (x2 + 1)) (ls1 := [(0, .ref x0), (1, .int 1), (2, .int (x2 + 1))]) dX12_isName_46 rfl rfl (by decide) rfl rfl ?_
          refine bv_goto (tgt := 16) dX12_isName_49 (by decide) ?_
          exact ih _ _ _ h K0
def f_X12_isName (M : bm_M) (x0 : Nat) : Option (Bool) := (if bm_io x0 11 then (if (M.1 x0 11) = 1 then ((f_X12_isName_l16 M x0 1000 true 0).bind fun y7 => some y7) else ((f_X12_isName_l16 M x0 1000 false 0).bind fun y4 => some y4)) else none)
set_option maxHeartbeats 4000000 in
set_option maxRecDepth 100000 in
theorem c_X12_isName {L : bm_L} {d n : Nat} {M : bm_M} {x0 : Nat} {v : Bool} (hN : 181 ≤ n) (h : f_X12_isName M x0 = some v) : bm_C L m_X12_isName d n n [.ref x0] M (fun r M' => r = some (.int (bm_bi v)) ∧ M' = M) := by
  refine bm_C.ofV (by decide) (Nat.le_of_ble_eq_true rfl) ?_
  show bm_V L m_X12_isName d n n n 0 [(0, .ref x0)] [] M _
  unfold f_X12_isName at h
  refine bv_aload_n dX12_isName_0 0 rfl ?_
  obtain ⟨q1, h⟩ := bu_io h
  refine bw_getI hN q1 dX12_isName_1 fl_12_174 rfl ?_
  refine bv_iconst (v := 1) dX12_isName_4 (by decide) ?_
  refine bv_icmp_ne (tgt := 12) dX12_isName_5 (by decide) (fun cc => ?_) (fun cc => ?_)
  · replace h := bu_f h cc
    refine bv_iconst (v := 0) dX12_isName_12 (by decide) ?_
    refine bv_istore_n (ls1 := [(0, .ref x0), (1, .int 0)]) dX12_isName_13 (by decide) rfl rfl ?_
    refine bv_iconst (v := 0) dX12_isName_14 (by decide) ?_
    refine bv_istore_n (ls1 := [(0, .ref x0), (1, .int 0), (2, .int 0)]) dX12_isName_15 (by decide) rfl rfl ?_
    obtain ⟨r2, p3, h⟩ := bu_bd h
    refine v_X12_isName_l16 hN q1 1000 _ _ _ p3 (fun y4 hy => ?_)
    · subst hy
      refine bv_iload_n dX12_isName_52 0 rfl ?_
      obtain rfl := Option.some.inj h
      exact bw_bret (b := y4) dX12_isName_53 rfl ⟨rfl, rfl⟩
  · replace h := bu_t h cc
    refine bv_iconst (v := 1) dX12_isName_8 (by decide) ?_
    refine bv_goto (tgt := 13) dX12_isName_9 (by decide) ?_
    refine bv_istore_n (ls1 := [(0, .ref x0), (1, .int 1)]) dX12_isName_13 (by decide) rfl rfl ?_
    refine bv_iconst (v := 0) dX12_isName_14 (by decide) ?_
    refine bv_istore_n (ls1 := [(0, .ref x0), (1, .int 1), (2, .int 0)]) dX12_isName_15 (by decide) rfl rfl ?_
    obtain ⟨r5, p6, h⟩ := bu_bd h
    refine v_X12_isName_l16 hN q1 1000 _ _ _ p6 (fun y7 hy => ?_)
    · subst hy
      refine bv_iload_n dX12_isName_52 0 rfl ?_
      obtain rfl := Option.some.inj h
      exact bw_bret (b := y7) dX12_isName_53 rfl ⟨rfl, rfl⟩
def f_X12_takes (M : bm_M) (x0 : Nat) (x1 : Int32) (x2 : Int32) : Option (Bool × bm_M) := (if bm_io x0 11 then (if (M.1 x0 11) = 2 then (if (f_X12_isIn (M.1 x0 14) x1 x2) = true then ((f_X12_next (bm_sI M x0 18 (M.1 x0 14)) x0).bind fun v2 => some (true, v2)) else ((f_X12_bad M x0 2).bind fun v4 => some (v4.1, v4.2))) else ((f_X12_bad M x0 1).bind fun v6 => some (v6.1, v6.2))) else none)
set_option maxHeartbeats 4000000 in
set_option maxRecDepth 100000 in
theorem c_X12_takes {L : bm_L} {d n : Nat} {M : bm_M} {x0 : Nat} {x1 : Int32} {x2 : Int32} {v : Bool × bm_M} (hN : 181 ≤ n) (h : f_X12_takes M x0 x1 x2 = some v) : bm_C L m_X12_takes (d + 2) n n [.ref x0, .int x1, .int x2] M (fun r M' => r = some (.int (bm_bi v.1)) ∧ M' = v.2) := by
  refine bm_C.ofV (by decide) (Nat.le_of_ble_eq_true rfl) ?_
  show bm_V L m_X12_takes (d + 2) n n n 0 [(0, .ref x0), (1, .int x1), (2, .int x2)] [] M _
  unfold f_X12_takes at h
  refine bv_aload_n dX12_takes_0 0 rfl ?_
  obtain ⟨q1, h⟩ := bu_io h
  refine bw_getI hN q1 dX12_takes_1 fl_12_174 rfl ?_
  refine bv_iconst (v := 2) dX12_takes_4 (by decide) ?_
  refine bv_icmp_eq (tgt := 14) dX12_takes_5 (by decide) (fun cc => ?_) (fun cc => ?_)
  · replace h := bu_t h cc
    refine bv_aload_n dX12_takes_14 0 rfl ?_
    refine bw_getI hN q1 dX12_takes_15 fl_12_184 rfl ?_
    refine bv_iload_n dX12_takes_18 1 rfl ?_
    refine bv_iload_n dX12_takes_19 2 rfl ?_
    refine bw_callS (As := [.int (M.1 x0 14), .int x1, .int x2]) dX12_takes_20 mc_12_206 (c_X12_isIn (d := d + 1) hN rfl) rfl rfl (by decide) ?_
    refine bw_ifB_ne (b := (f_X12_isIn (M.1 x0 14) x1 x2)) (tgt := 32) dX12_takes_23 (by decide) (fun cc => ?_) (fun cc => ?_)
    · replace h := bu_bt h cc
      refine bv_aload_n dX12_takes_32 0 rfl ?_
      refine bv_aload_n dX12_takes_33 0 rfl ?_
      refine bw_getI hN q1 dX12_takes_34 fl_12_184 rfl ?_
      refine bw_putI hN q1 dX12_takes_37 fl_12_210 rfl ?_
      refine bv_aload_n dX12_takes_40 0 rfl ?_
      obtain ⟨v2, p3, h⟩ := bu_bd h
      refine bw_callVv (As := []) hN q1 ⟨_, _, rfl⟩ dX12_takes_41 mc_12_203 (c_X12_next (d := d + 0) hN p3) rfl rfl (by decide) ?_
      refine bv_iconst (v := 1) dX12_takes_44 (by decide) ?_
      obtain rfl := Option.some.inj h
      exact bw_bret (b := true) dX12_takes_45 rfl ⟨rfl, rfl⟩
    · replace h := bu_bf h cc
      refine bv_aload_n dX12_takes_26 0 rfl ?_
      refine bv_iconst (v := 2) dX12_takes_27 (by decide) ?_
      obtain ⟨v4, p5, h⟩ := bu_bd h
      refine bw_callV (As := [.int 2]) hN q1 ⟨_, _, rfl⟩ dX12_takes_28 mc_12_200 (c_X12_bad (d := d + 1) hN p5) rfl rfl (by decide) ?_
      obtain rfl := Option.some.inj h
      exact bw_bret (b := v4.1) dX12_takes_31 rfl ⟨rfl, rfl⟩
  · replace h := bu_f h cc
    refine bv_aload_n dX12_takes_8 0 rfl ?_
    refine bv_iconst (v := 1) dX12_takes_9 (by decide) ?_
    obtain ⟨v6, p7, h⟩ := bu_bd h
    refine bw_callV (As := [.int 1]) hN q1 ⟨_, _, rfl⟩ dX12_takes_10 mc_12_200 (c_X12_bad (d := d + 1) hN p7) rfl rfl (by decide) ?_
    obtain rfl := Option.some.inj h
    exact bw_bret (b := v6.1) dX12_takes_13 rfl ⟨rfl, rfl⟩
def f_X12_puts (M : bm_M) (x0 : Nat) (x1 : Int32) (x2 : Int32) (x3 : Int32) : Option (Bool × bm_M) := (if bm_io x0 11 then ((f_X12_takes M x0 x2 x3).bind fun v2 => (if v2.1 = true then ((v2.2.2.2 x0 7).bind fun a4 => (if bm_ia a4 0 x1 = true then some (true, (bm_sI v2.2 a4 x1.toNatClampNeg (v2.2.1 x0 18))) else none)) else some (false, v2.2))) else none)
set_option maxHeartbeats 4000000 in
set_option maxRecDepth 100000 in
theorem c_X12_puts {L : bm_L} {d n : Nat} {M : bm_M} {x0 : Nat} {x1 : Int32} {x2 : Int32} {x3 : Int32} {v : Bool × bm_M} (hN : 181 ≤ n) (h : f_X12_puts M x0 x1 x2 x3 = some v) : bm_C L m_X12_puts (d + 3) n n [.ref x0, .int x1, .int x2, .int x3] M (fun r M' => r = some (.int (bm_bi v.1)) ∧ M' = v.2) := by
  refine bm_C.ofV (by decide) (Nat.le_of_ble_eq_true rfl) ?_
  show bm_V L m_X12_puts (d + 3) n n n 0 [(0, .ref x0), (1, .int x1), (2, .int x2), (3, .int x3)] [] M _
  unfold f_X12_puts at h
  refine bv_aload_n dX12_puts_0 0 rfl ?_
  refine bv_iload_n dX12_puts_1 2 rfl ?_
  refine bv_iload_n dX12_puts_2 3 rfl ?_
  obtain ⟨q1, h⟩ := bu_io h
  obtain ⟨v2, p3, h⟩ := bu_bd h
  refine bw_callV (As := [.int x2, .int x3]) hN q1 ⟨_, _, rfl⟩ dX12_puts_3 mc_12_213 (c_X12_takes (d := d + 0) hN p3) rfl rfl (by decide) ?_
  refine bw_ifB_ne (b := v2.1) (tgt := 11) dX12_puts_6 (by decide) (fun cc => ?_) (fun cc => ?_)
  · replace h := bu_bt h cc
    refine bv_aload_n dX12_puts_11 0 rfl ?_
    obtain ⟨a4, e5, h⟩ := bu_bd h
    refine bw_getA (a := a4) hN q1 e5 dX12_puts_12 fl_12_37 rfl ?_
    refine bv_iload_n dX12_puts_15 1 rfl ?_
    refine bv_aload_n dX12_puts_16 0 rfl ?_
    refine bw_getI hN q1 dX12_puts_17 fl_12_210 rfl ?_
    obtain ⟨r6, h⟩ := bu_ia h
    refine bw_iast hN r6 dX12_puts_20 ?_
    refine bv_iconst (v := 1) dX12_puts_21 (by decide) ?_
    obtain rfl := Option.some.inj h
    exact bw_bret (b := true) dX12_puts_22 rfl ⟨rfl, rfl⟩
  · replace h := bu_bf h cc
    refine bv_iconst (v := 0) dX12_puts_9 (by decide) ?_
    obtain rfl := Option.some.inj h
    exact bw_bret (b := false) dX12_puts_10 rfl ⟨rfl, rfl⟩
def f_X12_isOneOf_l7 (x0 : Nat) (x1 : Int32) (x2 : Int32) : Nat → Int32 → bm_M → Option (bm_M)
  | 0, _, _ => none
  | k + 1, x3, M => (if x2 ≤ x3 then some M else (if (M.1 x0 11) = 1 then ((M.2.2 x0 10).bind fun a1 => (if bm_ia a1 2 (x1 + x3) = true then (if (lg_cmp (M.2.1 x0 17) (M.2.1 a1 (x1 + x3).toNatClampNeg)) = 0 then f_X12_isOneOf_l7 x0 x1 x2 k (x3 + 1) (bm_sI M x0 18 x3) else f_X12_isOneOf_l7 x0 x1 x2 k (x3 + 1) (bm_sI M x0 18 (M.1 x0 18))) else none)) else f_X12_isOneOf_l7 x0 x1 x2 k (x3 + 1) (bm_sI M x0 18 (M.1 x0 18))))
set_option maxHeartbeats 4000000 in
set_option maxRecDepth 100000 in
theorem v_X12_isOneOf_l7 {L : bm_L} {d n : Nat} {Q : Option Value → bm_M → Prop} {x0 : Nat} {x1 : Int32} {x2 : Int32} (hN : 181 ≤ n) (q_0 : bm_OK x0 11) : ∀ (k : Nat) (x3 : Int32) (M : bm_M) (r : bm_M), f_X12_isOneOf_l7 x0 x1 x2 k x3 M = some r → (∀ yy, yy = r → bm_V L m_X12_isOneOf (d + 1) n n n 54 [(0, .ref x0)] [] yy Q) → bm_V L m_X12_isOneOf (d + 1) n n n 7 [(0, .ref x0), (1, .int x1), (2, .int x2), (3, .int x3)] [] M Q := by
  intro k
  induction k with
  | zero => intro x3 M r h; cases (show (none : Option (bm_M)) = some r from h)
  | succ k ih =>
    intro x3 M r h K0
    unfold f_X12_isOneOf_l7 at h
    refine bv_iload_n dX12_isOneOf_7 3 rfl ?_
    refine bv_iload_n dX12_isOneOf_8 2 rfl ?_
    refine bv_icmp_ge (tgt := 54) dX12_isOneOf_9 (by decide) (fun cc => ?_) (fun cc => ?_)
    · replace h := bu_t h cc
      refine bw_ls (ls1 := [(0, .ref x0)]) [0] rfl ?_
      obtain rfl := Option.some.inj h
      exact K0 _ rfl
    · replace h := bu_f h cc
      refine bv_aload_n dX12_isOneOf_12 0 rfl ?_
      refine bv_aload_n dX12_isOneOf_13 0 rfl ?_
      refine bw_getI hN q_0 dX12_isOneOf_14 fl_12_174 rfl ?_
      refine bv_iconst (v := 1) dX12_isOneOf_17 (by decide) ?_
      refine bv_icmp_ne (tgt := 41) dX12_isOneOf_18 (by decide) (fun cc => ?_) (fun cc => ?_)
      · replace h := bu_f h cc
        refine bv_aload_n dX12_isOneOf_41 0 rfl ?_
        refine bw_getI hN q_0 dX12_isOneOf_42 fl_12_210 rfl ?_
        refine bw_putI hN q_0 dX12_isOneOf_45 fl_12_210 rfl ?_
        refine bv_iinc (j := 3) (v := (x3 + 1)) (ls1 := [(0, .ref x0), (1, .int x1), (2, .int x2), (3, .int (x3 + 1))]) dX12_isOneOf_48 rfl rfl (by decide) rfl rfl ?_
        refine bv_goto (tgt := 7) dX12_isOneOf_51 (by decide) ?_
        exact ih _ _ _ h K0
      · replace h := bu_t h cc
        refine bv_aload_n dX12_isOneOf_21 0 rfl ?_
        refine bw_getL hN q_0 dX12_isOneOf_22 fl_12_187 rfl ?_
        refine bv_aload_n dX12_isOneOf_25 0 rfl ?_
        obtain ⟨a1, e2, h⟩ := bu_bd h
        refine bw_getA (a := a1) hN q_0 e2 dX12_isOneOf_26 fl_12_47 rfl ?_
        refine bv_iload_n dX12_isOneOf_29 1 rfl ?_
        refine bv_iload_n dX12_isOneOf_30 3 rfl ?_
        refine bv_iadd dX12_isOneOf_31 ?_
        obtain ⟨r3, h⟩ := bu_ia h
        refine bw_lald hN r3 dX12_isOneOf_32 ?_
        refine bv_lcmp dX12_isOneOf_33 ?_
        refine bv_if_ne (tgt := 41) dX12_isOneOf_34 (by decide) (fun cc => ?_) (fun cc => ?_)
        · replace h := bu_f h cc
          refine bv_aload_n dX12_isOneOf_41 0 rfl ?_
          refine bw_getI hN q_0 dX12_isOneOf_42 fl_12_210 rfl ?_
          refine bw_putI hN q_0 dX12_isOneOf_45 fl_12_210 rfl ?_
          refine bv_iinc (j := 3) (v := (x3 + 1)) (ls1 := [(0, .ref x0), (1, .int x1), (2, .int x2), (3, .int (x3 + 1))]) dX12_isOneOf_48 rfl rfl (by decide) rfl rfl ?_
          refine bv_goto (tgt := 7) dX12_isOneOf_51 (by decide) ?_
          exact ih _ _ _ h K0
        · replace h := bu_t h cc
          refine bv_iload_n dX12_isOneOf_37 3 rfl ?_
          refine bv_goto (tgt := 45) dX12_isOneOf_38 (by decide) ?_
          refine bw_putI hN q_0 dX12_isOneOf_45 fl_12_210 rfl ?_
          refine bv_iinc (j := 3) (v := (x3 + 1)) (ls1 := [(0, .ref x0), (1, .int x1), (2, .int x2), (3, .int (x3 + 1))]) dX12_isOneOf_48 rfl rfl (by decide) rfl rfl ?_
          refine bv_goto (tgt := 7) dX12_isOneOf_51 (by decide) ?_
          exact ih _ _ _ h K0
def f_X12_isOneOf (M : bm_M) (x0 : Nat) (x1 : Int32) (x2 : Int32) : Option (Bool × bm_M) := (if bm_io x0 11 then ((f_X12_isOneOf_l7 x0 x1 x2 1000 0 (bm_sI M x0 18 (-1))).bind fun y4 => (if 0 ≤ (y4.1 x0 18) then some (true, y4) else ((f_X12_bad y4 x0 1).bind fun v5 => (if v5.1 = true then some (true, v5.2) else some (false, v5.2))))) else none)
set_option maxHeartbeats 4000000 in
set_option maxRecDepth 100000 in
theorem c_X12_isOneOf {L : bm_L} {d n : Nat} {M : bm_M} {x0 : Nat} {x1 : Int32} {x2 : Int32} {v : Bool × bm_M} (hN : 181 ≤ n) (h : f_X12_isOneOf M x0 x1 x2 = some v) : bm_C L m_X12_isOneOf (d + 1) n n [.ref x0, .int x1, .int x2] M (fun r M' => r = some (.int (bm_bi v.1)) ∧ M' = v.2) := by
  refine bm_C.ofV (by decide) (Nat.le_of_ble_eq_true rfl) ?_
  show bm_V L m_X12_isOneOf (d + 1) n n n 0 [(0, .ref x0), (1, .int x1), (2, .int x2)] [] M _
  unfold f_X12_isOneOf at h
  refine bv_aload_n dX12_isOneOf_0 0 rfl ?_
  refine bv_iconst (v := (-1)) dX12_isOneOf_1 (by decide) ?_
  obtain ⟨q1, h⟩ := bu_io h
  refine bw_putI hN q1 dX12_isOneOf_2 fl_12_210 rfl ?_
  refine bv_iconst (v := 0) dX12_isOneOf_5 (by decide) ?_
  refine bv_istore_n (ls1 := [(0, .ref x0), (1, .int x1), (2, .int x2), (3, .int 0)]) dX12_isOneOf_6 (by decide) rfl rfl ?_
  obtain ⟨r2, p3, h⟩ := bu_bd h
  refine v_X12_isOneOf_l7 hN q1 1000 _ _ _ p3 (fun y4 hy => ?_)
  · subst hy
    refine bv_aload_n dX12_isOneOf_54 0 rfl ?_
    refine bw_getI hN q1 dX12_isOneOf_55 fl_12_210 rfl ?_
    refine bv_if_ge (tgt := 69) dX12_isOneOf_58 (by decide) (fun cc => ?_) (fun cc => ?_)
    · replace h := bu_t h cc
      refine bv_iconst (v := 1) dX12_isOneOf_69 (by decide) ?_
      refine bv_goto (tgt := 74) dX12_isOneOf_70 (by decide) ?_
      obtain rfl := Option.some.inj h
      exact bw_bret (b := true) dX12_isOneOf_74 rfl ⟨rfl, rfl⟩
    · replace h := bu_f h cc
      refine bv_aload_n dX12_isOneOf_61 0 rfl ?_
      refine bv_iconst (v := 1) dX12_isOneOf_62 (by decide) ?_
      obtain ⟨v5, p6, h⟩ := bu_bd h
      refine bw_callV (As := [.int 1]) hN q1 ⟨_, _, rfl⟩ dX12_isOneOf_63 mc_12_200 (c_X12_bad (d := d + 0) hN p6) rfl rfl (by decide) ?_
      refine bw_ifB_eq (b := v5.1) (tgt := 73) dX12_isOneOf_66 (by decide) (fun cc => ?_) (fun cc => ?_)
      · replace h := bu_bf h cc
        refine bv_iconst (v := 0) dX12_isOneOf_73 (by decide) ?_
        obtain rfl := Option.some.inj h
        exact bw_bret (b := false) dX12_isOneOf_74 rfl ⟨rfl, rfl⟩
      · replace h := bu_bt h cc
        refine bv_iconst (v := 1) dX12_isOneOf_69 (by decide) ?_
        refine bv_goto (tgt := 74) dX12_isOneOf_70 (by decide) ?_
        obtain rfl := Option.some.inj h
        exact bw_bret (b := true) dX12_isOneOf_74 rfl ⟨rfl, rfl⟩
def f_X12_find_l2 (M : bm_M) (x0 : Nat) (x1 : Int32) (x2 : Int32) : Nat → Int32 → Option (((Int32) ⊕ (Unit)))
  | 0, _ => none
  | k + 1, x3 => (if x2 ≤ x3 then some (Sum.inr ()) else (if bm_io x0 11 then ((M.2.2 x0 9).bind fun a2 => (if bm_ia a2 2 (x1 + x3) = true then (if (lg_cmp (M.2.1 a2 (x1 + x3).toNatClampNeg) (M.2.1 x0 17)) = 0 then some (Sum.inl x3) else f_X12_find_l2 M x0 x1 x2 k (x3 + 1)) else none)) else none))
set_option maxHeartbeats 4000000 in
set_option maxRecDepth 100000 in
theorem v_X12_find_l2 {L : bm_L} {d n : Nat} {Q : Option Value → bm_M → Prop} {M : bm_M} {x0 : Nat} {x1 : Int32} {x2 : Int32} (hN : 181 ≤ n) : ∀ (k : Nat) (x3 : Int32) (r : ((Int32) ⊕ (Unit))), f_X12_find_l2 M x0 x1 x2 k x3 = some r → (∀ yy, (Sum.inl yy) = r → bm_V L m_X12_find d n n n 23 [(3, .int yy)] [] M Q) → (∀ yy, (Sum.inr yy) = r → bm_V L m_X12_find d n n n 31 [] [] M Q) → bm_V L m_X12_find d n n n 2 [(0, .ref x0), (1, .int x1), (2, .int x2), (3, .int x3)] [] M Q := by
  intro k
  induction k with
  | zero => intro x3 r h; cases (show (none : Option (((Int32) ⊕ (Unit)))) = some r from h)
  | succ k ih =>
    intro x3 r h K0 K1
    unfold f_X12_find_l2 at h
    refine bv_iload_n dX12_find_2 3 rfl ?_
    refine bv_iload_n dX12_find_3 2 rfl ?_
    refine bv_icmp_ge (tgt := 31) dX12_find_4 (by decide) (fun cc => ?_) (fun cc => ?_)
    · replace h := bu_t h cc
      refine bw_ls (ls1 := []) [] rfl ?_
      obtain rfl := Option.some.inj h
      exact K1 _ rfl
    · replace h := bu_f h cc
      refine bv_aload_n dX12_find_7 0 rfl ?_
      obtain ⟨q1, h⟩ := bu_io h
      obtain ⟨a2, e3, h⟩ := bu_bd h
      refine bw_getA (a := a2) hN q1 e3 dX12_find_8 fl_12_43 rfl ?_
      refine bv_iload_n dX12_find_11 1 rfl ?_
      refine bv_iload_n dX12_find_12 3 rfl ?_
      refine bv_iadd dX12_find_13 ?_
      obtain ⟨r4, h⟩ := bu_ia h
      refine bw_lald hN r4 dX12_find_14 ?_
      refine bv_aload_n dX12_find_15 0 rfl ?_
      refine bw_getL hN q1 dX12_find_16 fl_12_187 rfl ?_
      refine bv_lcmp dX12_find_19 ?_
      refine bv_if_ne (tgt := 25) dX12_find_20 (by decide) (fun cc => ?_) (fun cc => ?_)
      · replace h := bu_f h cc
        refine bv_iinc (j := 3) (v := (x3 + 1)) (ls1 := [(0, .ref x0), (1, .int x1), (2, .int x2), (3, .int (x3 + 1))]) dX12_find_25 rfl rfl (by decide) rfl rfl ?_
        refine bv_goto (tgt := 2) dX12_find_28 (by decide) ?_
        exact ih _ _ h K0 K1
      · replace h := bu_t h cc
        refine bw_ls (ls1 := [(3, .int x3)]) [3] rfl ?_
        obtain rfl := Option.some.inj h
        exact K0 _ rfl
def f_X12_find (M : bm_M) (x0 : Nat) (x1 : Int32) (x2 : Int32) : Option (Int32) := ((f_X12_find_l2 M x0 x1 x2 1000 0).bind fun rr => match rr with | (Sum.inl y3) => some y3 | (Sum.inr y3) => some (-1))
set_option maxHeartbeats 4000000 in
set_option maxRecDepth 100000 in
theorem c_X12_find {L : bm_L} {d n : Nat} {M : bm_M} {x0 : Nat} {x1 : Int32} {x2 : Int32} {v : Int32} (hN : 181 ≤ n) (h : f_X12_find M x0 x1 x2 = some v) : bm_C L m_X12_find d n n [.ref x0, .int x1, .int x2] M (fun r M' => r = some (.int v) ∧ M' = M) := by
  refine bm_C.ofV (by decide) (Nat.le_of_ble_eq_true rfl) ?_
  show bm_V L m_X12_find d n n n 0 [(0, .ref x0), (1, .int x1), (2, .int x2)] [] M _
  unfold f_X12_find at h
  refine bv_iconst (v := 0) dX12_find_0 (by decide) ?_
  refine bv_istore_n (ls1 := [(0, .ref x0), (1, .int x1), (2, .int x2), (3, .int 0)]) dX12_find_1 (by decide) rfl rfl ?_
  obtain ⟨r1, p2, h⟩ := bu_bd h
  refine v_X12_find_l2 hN 1000 _ _ p2 (fun y3 hy => ?_) (fun y3 hy => ?_)
  · subst hy
    refine bv_iload_n dX12_find_23 0 rfl ?_
    obtain rfl := Option.some.inj h
    exact bv_iret (x := y3) dX12_find_24 rfl ⟨rfl, rfl⟩
  · subst hy
    refine bv_iconst (v := (-1)) dX12_find_31 (by decide) ?_
    obtain rfl := Option.some.inj h
    exact bv_iret (x := (-1)) dX12_find_32 rfl ⟨rfl, rfl⟩
def f_X12_fresh (M : bm_M) (x0 : Nat) (x1 : Int32) : Option (Bool × bm_M) := (if bm_io x0 11 then ((f_X12_isName M x0).bind fun v2 => (if v2 = true then ((M.2.2 x0 7).bind fun a4 => (if bm_ia a4 0 0 = true then ((f_X12_find M x0 15 (M.1 a4 (0 : Int32).toNatClampNeg)).bind fun v7 => (if 0 ≤ v7 then ((f_X12_bad M x0 3).bind fun v9 => some (v9.1, v9.2)) else (if bm_ia a4 0 1 = true then ((f_X12_find M x0 23 (M.1 a4 (1 : Int32).toNatClampNeg)).bind fun v12 => (if v12 < 0 then ((M.2.2 x0 9).bind fun a14 => (if bm_ia a14 2 x1 = true then ((f_X12_next (bm_sL M a14 x1.toNatClampNeg (M.2.1 x0 17)) x0).bind fun v17 => some (true, v17)) else none)) else ((f_X12_bad M x0 3).bind fun v19 => some (v19.1, v19.2)))) else none))) else none)) else ((f_X12_bad M x0 1).bind fun v21 => some (v21.1, v21.2)))) else none)
set_option maxHeartbeats 4000000 in
set_option maxRecDepth 100000 in
theorem c_X12_fresh {L : bm_L} {d n : Nat} {M : bm_M} {x0 : Nat} {x1 : Int32} {v : Bool × bm_M} (hN : 181 ≤ n) (h : f_X12_fresh M x0 x1 = some v) : bm_C L m_X12_fresh (d + 2) n n [.ref x0, .int x1] M (fun r M' => r = some (.int (bm_bi v.1)) ∧ M' = v.2) := by
  refine bm_C.ofV (by decide) (Nat.le_of_ble_eq_true rfl) ?_
  show bm_V L m_X12_fresh (d + 2) n n n 0 [(0, .ref x0), (1, .int x1)] [] M _
  unfold f_X12_fresh at h
  refine bv_aload_n dX12_fresh_0 0 rfl ?_
  obtain ⟨q1, h⟩ := bu_io h
  obtain ⟨v2, p3, h⟩ := bu_bd h
  refine bw_callV (As := []) hN q1 ⟨_, _, rfl⟩ dX12_fresh_1 mc_12_217 (c_X12_isName (d := d + 1) hN p3) rfl rfl (by decide) ?_
  refine bw_ifB_ne (b := v2) (tgt := 13) dX12_fresh_4 (by decide) (fun cc => ?_) (fun cc => ?_)
  · replace h := bu_bt h cc
    refine bv_aload_n dX12_fresh_13 0 rfl ?_
    refine bv_bipush (v := 15) dX12_fresh_14 (by decide) ?_
    refine bv_aload_n dX12_fresh_16 0 rfl ?_
    obtain ⟨a4, e5, h⟩ := bu_bd h
    refine bw_getA (a := a4) hN q1 e5 dX12_fresh_17 fl_12_37 rfl ?_
    refine bv_iconst (v := 0) dX12_fresh_20 (by decide) ?_
    obtain ⟨r6, h⟩ := bu_ia h
    refine bw_iald hN r6 dX12_fresh_21 ?_
    obtain ⟨v7, p8, h⟩ := bu_bd h
    refine bw_callV (As := [.int 15, .int (M.1 a4 (0 : Int32).toNatClampNeg)]) hN q1 ⟨_, _, rfl⟩ dX12_fresh_22 mc_12_221 (c_X12_find (d := d + 1) hN p8) rfl rfl (by decide) ?_
    refine bv_if_ge (tgt := 43) dX12_fresh_25 (by decide) (fun cc => ?_) (fun cc => ?_)
    · replace h := bu_t h cc
      refine bv_aload_n dX12_fresh_43 0 rfl ?_
      refine bv_iconst (v := 3) dX12_fresh_44 (by decide) ?_
      obtain ⟨v9, p10, h⟩ := bu_bd h
      refine bw_callV (As := [.int 3]) hN q1 ⟨_, _, rfl⟩ dX12_fresh_45 mc_12_200 (c_X12_bad (d := d + 1) hN p10) rfl rfl (by decide) ?_
      obtain rfl := Option.some.inj h
      exact bw_bret (b := v9.1) dX12_fresh_48 rfl ⟨rfl, rfl⟩
    · replace h := bu_f h cc
      refine bv_aload_n dX12_fresh_28 0 rfl ?_
      refine bv_bipush (v := 23) dX12_fresh_29 (by decide) ?_
      refine bv_aload_n dX12_fresh_31 0 rfl ?_
      refine bw_getA (a := a4) hN q1 e5 dX12_fresh_32 fl_12_37 rfl ?_
      refine bv_iconst (v := 1) dX12_fresh_35 (by decide) ?_
      obtain ⟨r11, h⟩ := bu_ia h
      refine bw_iald hN r11 dX12_fresh_36 ?_
      obtain ⟨v12, p13, h⟩ := bu_bd h
      refine bw_callV (As := [.int 23, .int (M.1 a4 (1 : Int32).toNatClampNeg)]) hN q1 ⟨_, _, rfl⟩ dX12_fresh_37 mc_12_221 (c_X12_find (d := d + 1) hN p13) rfl rfl (by decide) ?_
      refine bv_if_lt (tgt := 49) dX12_fresh_40 (by decide) (fun cc => ?_) (fun cc => ?_)
      · replace h := bu_t h cc
        refine bv_aload_n dX12_fresh_49 0 rfl ?_
        obtain ⟨a14, e15, h⟩ := bu_bd h
        refine bw_getA (a := a14) hN q1 e15 dX12_fresh_50 fl_12_43 rfl ?_
        refine bv_iload_n dX12_fresh_53 1 rfl ?_
        refine bv_aload_n dX12_fresh_54 0 rfl ?_
        refine bw_getL hN q1 dX12_fresh_55 fl_12_187 rfl ?_
        obtain ⟨r16, h⟩ := bu_ia h
        refine bw_last hN r16 dX12_fresh_58 ?_
        refine bv_aload_n dX12_fresh_59 0 rfl ?_
        obtain ⟨v17, p18, h⟩ := bu_bd h
        refine bw_callVv (As := []) hN q1 ⟨_, _, rfl⟩ dX12_fresh_60 mc_12_203 (c_X12_next (d := d + 0) hN p18) rfl rfl (by decide) ?_
        refine bv_iconst (v := 1) dX12_fresh_63 (by decide) ?_
        obtain rfl := Option.some.inj h
        exact bw_bret (b := true) dX12_fresh_64 rfl ⟨rfl, rfl⟩
      · replace h := bu_f h cc
        refine bv_aload_n dX12_fresh_43 0 rfl ?_
        refine bv_iconst (v := 3) dX12_fresh_44 (by decide) ?_
        obtain ⟨v19, p20, h⟩ := bu_bd h
        refine bw_callV (As := [.int 3]) hN q1 ⟨_, _, rfl⟩ dX12_fresh_45 mc_12_200 (c_X12_bad (d := d + 1) hN p20) rfl rfl (by decide) ?_
        obtain rfl := Option.some.inj h
        exact bw_bret (b := v19.1) dX12_fresh_48 rfl ⟨rfl, rfl⟩
  · replace h := bu_bf h cc
    refine bv_aload_n dX12_fresh_7 0 rfl ?_
    refine bv_iconst (v := 1) dX12_fresh_8 (by decide) ?_
    obtain ⟨v21, p22, h⟩ := bu_bd h
    refine bw_callV (As := [.int 1]) hN q1 ⟨_, _, rfl⟩ dX12_fresh_9 mc_12_200 (c_X12_bad (d := d + 1) hN p22) rfl rfl (by decide) ?_
    obtain rfl := Option.some.inj h
    exact bw_bret (b := v21.1) dX12_fresh_12 rfl ⟨rfl, rfl⟩
def f_X12_looksAt (M : bm_M) (x0 : Nat) (x1 : Int32) (x2 : Int32) : Option (Bool × bm_M) := (if bm_io x0 11 then ((f_X12_isName M x0).bind fun v2 => (if v2 = true then ((f_X12_find M x0 x1 x2).bind fun v4 => (if 0 ≤ ((bm_sI M x0 18 v4).1 x0 18) then some (true, (bm_sI M x0 18 v4)) else ((f_X12_bad (bm_sI M x0 18 v4) x0 3).bind fun v6 => (if v6.1 = true then some (true, v6.2) else some (false, v6.2))))) else ((f_X12_bad M x0 1).bind fun v8 => some (v8.1, v8.2)))) else none)
set_option maxHeartbeats 4000000 in
set_option maxRecDepth 100000 in
theorem c_X12_looksAt {L : bm_L} {d n : Nat} {M : bm_M} {x0 : Nat} {x1 : Int32} {x2 : Int32} {v : Bool × bm_M} (hN : 181 ≤ n) (h : f_X12_looksAt M x0 x1 x2 = some v) : bm_C L m_X12_looksAt (d + 1) n n [.ref x0, .int x1, .int x2] M (fun r M' => r = some (.int (bm_bi v.1)) ∧ M' = v.2) := by
  refine bm_C.ofV (by decide) (Nat.le_of_ble_eq_true rfl) ?_
  show bm_V L m_X12_looksAt (d + 1) n n n 0 [(0, .ref x0), (1, .int x1), (2, .int x2)] [] M _
  unfold f_X12_looksAt at h
  refine bv_aload_n dX12_looksAt_0 0 rfl ?_
  obtain ⟨q1, h⟩ := bu_io h
  obtain ⟨v2, p3, h⟩ := bu_bd h
  refine bw_callV (As := []) hN q1 ⟨_, _, rfl⟩ dX12_looksAt_1 mc_12_217 (c_X12_isName (d := d + 0) hN p3) rfl rfl (by decide) ?_
  refine bw_ifB_ne (b := v2) (tgt := 13) dX12_looksAt_4 (by decide) (fun cc => ?_) (fun cc => ?_)
  · replace h := bu_bt h cc
    refine bv_aload_n dX12_looksAt_13 0 rfl ?_
    refine bv_aload_n dX12_looksAt_14 0 rfl ?_
    refine bv_iload_n dX12_looksAt_15 1 rfl ?_
    refine bv_iload_n dX12_looksAt_16 2 rfl ?_
    obtain ⟨v4, p5, h⟩ := bu_bd h
    refine bw_callV (As := [.int x1, .int x2]) hN q1 ⟨_, _, rfl⟩ dX12_looksAt_17 mc_12_221 (c_X12_find (d := d + 0) hN p5) rfl rfl (Nat.le_of_ble_eq_true rfl) ?_
    refine bw_putI hN q1 dX12_looksAt_20 fl_12_210 rfl ?_
    refine bv_aload_n dX12_looksAt_23 0 rfl ?_
    refine bw_getI hN q1 dX12_looksAt_24 fl_12_210 rfl ?_
    refine bv_if_ge (tgt := 38) dX12_looksAt_27 (by decide) (fun cc => ?_) (fun cc => ?_)
    · replace h := bu_t h cc
      refine bv_iconst (v := 1) dX12_looksAt_38 (by decide) ?_
      refine bv_goto (tgt := 43) dX12_looksAt_39 (by decide) ?_
      obtain rfl := Option.some.inj h
      exact bw_bret (b := true) dX12_looksAt_43 rfl ⟨rfl, rfl⟩
    · replace h := bu_f h cc
      refine bv_aload_n dX12_looksAt_30 0 rfl ?_
      refine bv_iconst (v := 3) dX12_looksAt_31 (by decide) ?_
      obtain ⟨v6, p7, h⟩ := bu_bd h
      refine bw_callV (As := [.int 3]) hN q1 ⟨_, _, rfl⟩ dX12_looksAt_32 mc_12_200 (c_X12_bad (d := d + 0) hN p7) rfl rfl (by decide) ?_
      refine bw_ifB_eq (b := v6.1) (tgt := 42) dX12_looksAt_35 (by decide) (fun cc => ?_) (fun cc => ?_)
      · replace h := bu_bf h cc
        refine bv_iconst (v := 0) dX12_looksAt_42 (by decide) ?_
        obtain rfl := Option.some.inj h
        exact bw_bret (b := false) dX12_looksAt_43 rfl ⟨rfl, rfl⟩
      · replace h := bu_bt h cc
        refine bv_iconst (v := 1) dX12_looksAt_38 (by decide) ?_
        refine bv_goto (tgt := 43) dX12_looksAt_39 (by decide) ?_
        obtain rfl := Option.some.inj h
        exact bw_bret (b := true) dX12_looksAt_43 rfl ⟨rfl, rfl⟩
  · replace h := bu_bf h cc
    refine bv_aload_n dX12_looksAt_7 0 rfl ?_
    refine bv_iconst (v := 1) dX12_looksAt_8 (by decide) ?_
    obtain ⟨v8, p9, h⟩ := bu_bd h
    refine bw_callV (As := [.int 1]) hN q1 ⟨_, _, rfl⟩ dX12_looksAt_9 mc_12_200 (c_X12_bad (d := d + 0) hN p9) rfl rfl (by decide) ?_
    obtain rfl := Option.some.inj h
    exact bw_bret (b := v8.1) dX12_looksAt_12 rfl ⟨rfl, rfl⟩
def f_X12_takesName (M : bm_M) (x0 : Nat) (x1 : Int32) (x2 : Int32) : Option (Bool × bm_M) := (if bm_io x0 11 then ((f_X12_looksAt M x0 x1 x2).bind fun v2 => (if v2.1 = true then ((f_X12_next v2.2 x0).bind fun v4 => some (true, v4)) else some (false, v2.2))) else none)
set_option maxHeartbeats 4000000 in
set_option maxRecDepth 100000 in
theorem c_X12_takesName {L : bm_L} {d n : Nat} {M : bm_M} {x0 : Nat} {x1 : Int32} {x2 : Int32} {v : Bool × bm_M} (hN : 181 ≤ n) (h : f_X12_takesName M x0 x1 x2 = some v) : bm_C L m_X12_takesName (d + 2) n n [.ref x0, .int x1, .int x2] M (fun r M' => r = some (.int (bm_bi v.1)) ∧ M' = v.2) := by
  refine bm_C.ofV (by decide) (Nat.le_of_ble_eq_true rfl) ?_
  show bm_V L m_X12_takesName (d + 2) n n n 0 [(0, .ref x0), (1, .int x1), (2, .int x2)] [] M _
  unfold f_X12_takesName at h
  refine bv_aload_n dX12_takesName_0 0 rfl ?_
  refine bv_iload_n dX12_takesName_1 1 rfl ?_
  refine bv_iload_n dX12_takesName_2 2 rfl ?_
  obtain ⟨q1, h⟩ := bu_io h
  obtain ⟨v2, p3, h⟩ := bu_bd h
  refine bw_callV (As := [.int x1, .int x2]) hN q1 ⟨_, _, rfl⟩ dX12_takesName_3 mc_12_225 (c_X12_looksAt (d := d + 0) hN p3) rfl rfl (by decide) ?_
  refine bw_ifB_ne (b := v2.1) (tgt := 11) dX12_takesName_6 (by decide) (fun cc => ?_) (fun cc => ?_)
  · replace h := bu_bt h cc
    refine bv_aload_n dX12_takesName_11 0 rfl ?_
    obtain ⟨v4, p5, h⟩ := bu_bd h
    refine bw_callVv (As := []) hN q1 ⟨_, _, rfl⟩ dX12_takesName_12 mc_12_203 (c_X12_next (d := d + 0) hN p5) rfl rfl (by decide) ?_
    refine bv_iconst (v := 1) dX12_takesName_15 (by decide) ?_
    obtain rfl := Option.some.inj h
    exact bw_bret (b := true) dX12_takesName_16 rfl ⟨rfl, rfl⟩
  · replace h := bu_bf h cc
    refine bv_iconst (v := 0) dX12_takesName_9 (by decide) ?_
    obtain rfl := Option.some.inj h
    exact bw_bret (b := false) dX12_takesName_10 rfl ⟨rfl, rfl⟩
def f_X12_once (M : bm_M) (x0 : Nat) (x1 : Int32) (x2 : Int32) (x3 : Int32) (x4 : Int32) : Option (Bool × bm_M) := (if bm_io x0 11 then (if (f_X12_bitOf (M.1 x0 20) x1) = true then ((f_X12_bad M x0 3).bind fun v6 => some (v6.1, v6.2)) else ((f_X12_next (bm_sI M x0 20 ((M.1 x0 20) ||| (bm_ishl 1 x1))) x0).bind fun v2 => ((f_X12_puts v2 x0 x2 x3 x4).bind fun v4 => some (v4.1, v4.2)))) else none)
set_option maxHeartbeats 4000000 in
set_option maxRecDepth 100000 in
theorem c_X12_once {L : bm_L} {d n : Nat} {M : bm_M} {x0 : Nat} {x1 : Int32} {x2 : Int32} {x3 : Int32} {x4 : Int32} {v : Bool × bm_M} (hN : 181 ≤ n) (h : f_X12_once M x0 x1 x2 x3 x4 = some v) : bm_C L m_X12_once (d + 4) n n [.ref x0, .int x1, .int x2, .int x3, .int x4] M (fun r M' => r = some (.int (bm_bi v.1)) ∧ M' = v.2) := by
  refine bm_C.ofV (by decide) (Nat.le_of_ble_eq_true rfl) ?_
  show bm_V L m_X12_once (d + 4) n n n 0 [(0, .ref x0), (1, .int x1), (2, .int x2), (3, .int x3), (4, .int x4)] [] M _
  unfold f_X12_once at h
  refine bv_aload_n dX12_once_0 0 rfl ?_
  obtain ⟨q1, h⟩ := bu_io h
  refine bw_getI hN q1 dX12_once_1 fl_12_228 rfl ?_
  refine bv_iload_n dX12_once_4 1 rfl ?_
  refine bw_callS (As := [.int (M.1 x0 20), .int x1]) dX12_once_5 mc_12_231 (c_X12_bitOf (d := d + 3) hN rfl) rfl rfl (by decide) ?_
  refine bw_ifB_eq (b := (f_X12_bitOf (M.1 x0 20) x1)) (tgt := 17) dX12_once_8 (by decide) (fun cc => ?_) (fun cc => ?_)
  · replace h := bu_bf h cc
    refine bv_aload_n dX12_once_17 0 rfl ?_
    refine bv_dup dX12_once_18 rfl ?_
    refine bw_getI hN q1 dX12_once_19 fl_12_228 rfl ?_
    refine bv_iconst (v := 1) dX12_once_22 (by decide) ?_
    refine bv_iload_n dX12_once_23 1 rfl ?_
    refine bv_ishl dX12_once_24 ?_
    refine bv_ior dX12_once_25 ?_
    refine bw_putI hN q1 dX12_once_26 fl_12_228 rfl ?_
    refine bv_aload_n dX12_once_29 0 rfl ?_
    obtain ⟨v2, p3, h⟩ := bu_bd h
    refine bw_callVv (As := []) hN q1 ⟨_, _, rfl⟩ dX12_once_30 mc_12_203 (c_X12_next (d := d + 2) hN p3) rfl rfl (by decide) ?_
    refine bv_aload_n dX12_once_33 0 rfl ?_
    refine bv_iload_n dX12_once_34 2 rfl ?_
    refine bv_iload_n dX12_once_35 3 rfl ?_
    refine bv_iload dX12_once_36 4 rfl ?_
    obtain ⟨v4, p5, h⟩ := bu_bd h
    refine bw_callV (As := [.int x2, .int x3, .int x4]) hN q1 ⟨_, _, rfl⟩ dX12_once_38 mc_12_234 (c_X12_puts (d := d + 0) hN p5) rfl rfl (by decide) ?_
    obtain rfl := Option.some.inj h
    exact bw_bret (b := v4.1) dX12_once_41 rfl ⟨rfl, rfl⟩
  · replace h := bu_bt h cc
    refine bv_aload_n dX12_once_11 0 rfl ?_
    refine bv_iconst (v := 3) dX12_once_12 (by decide) ?_
    obtain ⟨v6, p7, h⟩ := bu_bd h
    refine bw_callV (As := [.int 3]) hN q1 ⟨_, _, rfl⟩ dX12_once_13 mc_12_200 (c_X12_bad (d := d + 3) hN p7) rfl rfl (by decide) ?_
    obtain rfl := Option.some.inj h
    exact bw_bret (b := v6.1) dX12_once_16 rfl ⟨rfl, rfl⟩
def f_X12_flag (M : bm_M) (x0 : Nat) (x1 : Int64) (x3 : Int32) : Option (Int32 × bm_M) := (if bm_io x0 11 then ((f_X12_isWord M x0 x1).bind fun v2 => (if v2 = true then ((f_X12_next M x0).bind fun v4 => some ((bm_ishl 1 x3), v4)) else some (0, M))) else none)
set_option maxHeartbeats 4000000 in
set_option maxRecDepth 100000 in
theorem c_X12_flag {L : bm_L} {d n : Nat} {M : bm_M} {x0 : Nat} {x1 : Int64} {x3 : Int32} {v : Int32 × bm_M} (hN : 181 ≤ n) (h : f_X12_flag M x0 x1 x3 = some v) : bm_C L m_X12_flag (d + 2) n n [.ref x0, .long x1, .int x3] M (fun r M' => r = some (.int v.1) ∧ M' = v.2) := by
  refine bm_C.ofV (by decide) (Nat.le_of_ble_eq_true rfl) ?_
  show bm_V L m_X12_flag (d + 2) n n n 0 [(0, .ref x0), (1, .long x1), (3, .int x3)] [] M _
  unfold f_X12_flag at h
  refine bv_aload_n dX12_flag_0 0 rfl ?_
  refine bv_lload_n dX12_flag_1 1 rfl ?_
  obtain ⟨q1, h⟩ := bu_io h
  obtain ⟨v2, p3, h⟩ := bu_bd h
  refine bw_callV (As := [.long x1]) hN q1 ⟨_, _, rfl⟩ dX12_flag_2 mc_12_237 (c_X12_isWord (d := d + 1) hN p3) rfl rfl (by decide) ?_
  refine bw_ifB_ne (b := v2) (tgt := 10) dX12_flag_5 (by decide) (fun cc => ?_) (fun cc => ?_)
  · replace h := bu_bt h cc
    refine bv_aload_n dX12_flag_10 0 rfl ?_
    obtain ⟨v4, p5, h⟩ := bu_bd h
    refine bw_callVv (As := []) hN q1 ⟨_, _, rfl⟩ dX12_flag_11 mc_12_203 (c_X12_next (d := d + 0) hN p5) rfl rfl (by decide) ?_
    refine bv_iconst (v := 1) dX12_flag_14 (by decide) ?_
    refine bv_iload_n dX12_flag_15 2 rfl ?_
    refine bv_ishl dX12_flag_16 ?_
    obtain rfl := Option.some.inj h
    exact bv_iret (x := (bm_ishl 1 x3)) dX12_flag_17 rfl ⟨rfl, rfl⟩
  · replace h := bu_bf h cc
    refine bv_iconst (v := 0) dX12_flag_8 (by decide) ?_
    obtain rfl := Option.some.inj h
    exact bv_iret (x := 0) dX12_flag_9 rfl ⟨rfl, rfl⟩
def f_X12_readMan (M : bm_M) (x0 : Nat) : Option (Bool × bm_M) := (if bm_io x0 11 then ((M.2.2 x0 7).bind fun a2 => (if bm_ia a2 0 0 = true then (if (M.1 a2 (0 : Int32).toNatClampNeg) = 8 then ((f_X12_bad M x0 4).bind fun v28 => some (v28.1, v28.2)) else ((f_X12_next M x0).bind fun v5 => ((f_X12_fresh v5 x0 (15 + (M.1 a2 (0 : Int32).toNatClampNeg))).bind fun v7 => (if v7.1 = true then ((f_X12_puts v7.2 x0 (5 + (M.1 a2 (0 : Int32).toNatClampNeg)) 0 30).bind fun v9 => (if v9.1 = true then ((f_X12_puts v9.2 x0 (13 + (M.1 a2 (0 : Int32).toNatClampNeg)) 0 30).bind fun v11 => (if v11.1 = true then ((f_X12_puts v11.2 x0 (21 + (M.1 a2 (0 : Int32).toNatClampNeg)) 0 9).bind fun v13 => (if v13.1 = true then ((v13.2.2.2 x0 7).bind fun a15 => (if bm_ia a15 0 29 = true then ((f_X12_flag v13.2 x0 117026742756708 (M.1 a2 (0 : Int32).toNatClampNeg)).bind fun v18 => ((v18.2.2.2 x0 7).bind fun a20 => (if bm_ia a20 0 30 = true then ((f_X12_flag (bm_sI v18.2 a15 (29 : Int32).toNatClampNeg ((v13.2.1 a15 (29 : Int32).toNatClampNeg) ||| v18.1)) x0 1735550329 (M.1 a2 (0 : Int32).toNatClampNeg)).bind fun v23 => ((v23.2.2.2 x0 7).bind fun a25 => (if bm_ia a25 0 0 = true then some (true, (bm_sI (bm_sI v23.2 a20 (30 : Int32).toNatClampNeg (((bm_sI v18.2 a15 (29 : Int32).toNatClampNeg ((v13.2.1 a15 (29 : Int32).toNatClampNeg) ||| v18.1)).1 a20 (30 : Int32).toNatClampNeg) ||| v23.1)) a25 (0 : Int32).toNatClampNeg (((bm_sI v23.2 a20 (30 : Int32).toNatClampNeg (((bm_sI v18.2 a15 (29 : Int32).toNatClampNeg ((v13.2.1 a15 (29 : Int32).toNatClampNeg) ||| v18.1)).1 a20 (30 : Int32).toNatClampNeg) ||| v23.1)).1 a25 (0 : Int32).toNatClampNeg) + 1))) else none))) else none))) else none)) else some (false, v13.2))) else some (false, v11.2))) else some (false, v9.2))) else some (false, v7.2))))) else none)) else none)
set_option maxHeartbeats 4000000 in
set_option maxRecDepth 100000 in
theorem c_X12_readMan {L : bm_L} {d n : Nat} {M : bm_M} {x0 : Nat} {v : Bool × bm_M} (hN : 181 ≤ n) (h : f_X12_readMan M x0 = some v) : bm_C L m_X12_readMan (d + 4) n n [.ref x0] M (fun r M' => r = some (.int (bm_bi v.1)) ∧ M' = v.2) := by
  refine bm_C.ofV (by decide) (Nat.le_of_ble_eq_true rfl) ?_
  show bm_V L m_X12_readMan (d + 4) n n n 0 [(0, .ref x0)] [] M _
  unfold f_X12_readMan at h
  refine bv_aload_n dX12_readMan_0 0 rfl ?_
  obtain ⟨q1, h⟩ := bu_io h
  obtain ⟨a2, e3, h⟩ := bu_bd h
  refine bw_getA (a := a2) hN q1 e3 dX12_readMan_1 fl_12_37 rfl ?_
  refine bv_iconst (v := 0) dX12_readMan_4 (by decide) ?_
  obtain ⟨r4, h⟩ := bu_ia h
  refine bw_iald hN r4 dX12_readMan_5 ?_
  refine bv_istore_n (ls1 := [(0, .ref x0), (1, .int (M.1 a2 (0 : Int32).toNatClampNeg))]) dX12_readMan_6 (by decide) rfl rfl ?_
  refine bv_iload_n dX12_readMan_7 1 rfl ?_
  refine bv_bipush (v := 8) dX12_readMan_8 (by decide) ?_
  refine bv_icmp_ne (tgt := 19) dX12_readMan_10 (by decide) (fun cc => ?_) (fun cc => ?_)
  · replace h := bu_f h cc
    refine bv_aload_n dX12_readMan_19 0 rfl ?_
    obtain ⟨v5, p6, h⟩ := bu_bd h
    refine bw_callVv (As := []) hN q1 ⟨_, _, rfl⟩ dX12_readMan_20 mc_12_203 (c_X12_next (d := d + 2) hN p6) rfl rfl (by decide) ?_
    refine bv_aload_n dX12_readMan_23 0 rfl ?_
    refine bv_bipush (v := 15) dX12_readMan_24 (by decide) ?_
    refine bv_iload_n dX12_readMan_26 1 rfl ?_
    refine bv_iadd dX12_readMan_27 ?_
    obtain ⟨v7, p8, h⟩ := bu_bd h
    refine bw_callV (As := [.int (15 + (M.1 a2 (0 : Int32).toNatClampNeg))]) hN q1 ⟨_, _, rfl⟩ dX12_readMan_28 mc_12_254 (c_X12_fresh (d := d + 1) hN p8) rfl rfl (by decide) ?_
    refine bw_ifB_eq (b := v7.1) (tgt := 75) dX12_readMan_31 (by decide) (fun cc => ?_) (fun cc => ?_)
    · replace h := bu_bf h cc
      refine bv_iconst (v := 0) dX12_readMan_75 (by decide) ?_
      obtain rfl := Option.some.inj h
      exact bw_bret (b := false) dX12_readMan_76 rfl ⟨rfl, rfl⟩
    · replace h := bu_bt h cc
      refine bv_aload_n dX12_readMan_34 0 rfl ?_
      refine bv_iconst (v := 5) dX12_readMan_35 (by decide) ?_
      refine bv_iload_n dX12_readMan_36 1 rfl ?_
      refine bv_iadd dX12_readMan_37 ?_
      refine bv_iconst (v := 0) dX12_readMan_38 (by decide) ?_
      refine bv_bipush (v := 30) dX12_readMan_39 (by decide) ?_
      obtain ⟨v9, p10, h⟩ := bu_bd h
      refine bw_callV (As := [.int (5 + (M.1 a2 (0 : Int32).toNatClampNeg)), .int 0, .int 30]) hN q1 ⟨_, _, rfl⟩ dX12_readMan_41 mc_12_234 (c_X12_puts (d := d + 0) hN p10) rfl rfl (by decide) ?_
      refine bw_ifB_eq (b := v9.1) (tgt := 75) dX12_readMan_44 (by decide) (fun cc => ?_) (fun cc => ?_)
      · replace h := bu_bf h cc
        refine bv_iconst (v := 0) dX12_readMan_75 (by decide) ?_
        obtain rfl := Option.some.inj h
        exact bw_bret (b := false) dX12_readMan_76 rfl ⟨rfl, rfl⟩
      · replace h := bu_bt h cc
        refine bv_aload_n dX12_readMan_47 0 rfl ?_
        refine bv_bipush (v := 13) dX12_readMan_48 (by decide) ?_
        refine bv_iload_n dX12_readMan_50 1 rfl ?_
        refine bv_iadd dX12_readMan_51 ?_
        refine bv_iconst (v := 0) dX12_readMan_52 (by decide) ?_
        refine bv_bipush (v := 30) dX12_readMan_53 (by decide) ?_
        obtain ⟨v11, p12, h⟩ := bu_bd h
        refine bw_callV (As := [.int (13 + (M.1 a2 (0 : Int32).toNatClampNeg)), .int 0, .int 30]) hN q1 ⟨_, _, rfl⟩ dX12_readMan_55 mc_12_234 (c_X12_puts (d := d + 0) hN p12) rfl rfl (by decide) ?_
        refine bw_ifB_eq (b := v11.1) (tgt := 75) dX12_readMan_58 (by decide) (fun cc => ?_) (fun cc => ?_)
        · replace h := bu_bf h cc
          refine bv_iconst (v := 0) dX12_readMan_75 (by decide) ?_
          obtain rfl := Option.some.inj h
          exact bw_bret (b := false) dX12_readMan_76 rfl ⟨rfl, rfl⟩
        · replace h := bu_bt h cc
          refine bv_aload_n dX12_readMan_61 0 rfl ?_
          refine bv_bipush (v := 21) dX12_readMan_62 (by decide) ?_
          refine bv_iload_n dX12_readMan_64 1 rfl ?_
          refine bv_iadd dX12_readMan_65 ?_
          refine bv_iconst (v := 0) dX12_readMan_66 (by decide) ?_
          refine bv_bipush (v := 9) dX12_readMan_67 (by decide) ?_
          obtain ⟨v13, p14, h⟩ := bu_bd h
          refine bw_callV (As := [.int (21 + (M.1 a2 (0 : Int32).toNatClampNeg)), .int 0, .int 9]) hN q1 ⟨_, _, rfl⟩ dX12_readMan_69 mc_12_234 (c_X12_puts (d := d + 0) hN p14) rfl rfl (by decide) ?_
          refine bw_ifB_ne (b := v13.1) (tgt := 77) dX12_readMan_72 (by decide) (fun cc => ?_) (fun cc => ?_)
          · replace h := bu_bt h cc
            refine bv_aload_n dX12_readMan_77 0 rfl ?_
            obtain ⟨a15, e16, h⟩ := bu_bd h
            refine bw_getA (a := a15) hN q1 e16 dX12_readMan_78 fl_12_37 rfl ?_
            refine bv_bipush (v := 29) dX12_readMan_81 (by decide) ?_
            refine bv_dup2 dX12_readMan_83 rfl rfl ?_
            obtain ⟨r17, h⟩ := bu_ia h
            refine bw_iald hN r17 dX12_readMan_84 ?_
            refine bv_aload_n dX12_readMan_85 0 rfl ?_
            refine bv_ldc2 (v := 117026742756708) dX12_readMan_86 cst_12_95 ?_
            refine bv_iload_n dX12_readMan_89 1 rfl ?_
            obtain ⟨v18, p19, h⟩ := bu_bd h
            refine bw_callV (As := [.long 117026742756708, .int (M.1 a2 (0 : Int32).toNatClampNeg)]) hN q1 ⟨_, _, rfl⟩ dX12_readMan_90 mc_12_257 (c_X12_flag (d := d + 1) hN p19) rfl rfl (Nat.le_of_ble_eq_true rfl) ?_
            refine bv_ior dX12_readMan_93 ?_
            refine bw_iast hN r17 dX12_readMan_94 ?_
            refine bv_aload_n dX12_readMan_95 0 rfl ?_
            obtain ⟨a20, e21, h⟩ := bu_bd h
            refine bw_getA (a := a20) hN q1 e21 dX12_readMan_96 fl_12_37 rfl ?_
            refine bv_bipush (v := 30) dX12_readMan_99 (by decide) ?_
            refine bv_dup2 dX12_readMan_101 rfl rfl ?_
            obtain ⟨r22, h⟩ := bu_ia h
            refine bw_iald hN r22 dX12_readMan_102 ?_
            refine bv_aload_n dX12_readMan_103 0 rfl ?_
            refine bv_ldc2 (v := 1735550329) dX12_readMan_104 cst_12_97 ?_
            refine bv_iload_n dX12_readMan_107 1 rfl ?_
            obtain ⟨v23, p24, h⟩ := bu_bd h
            refine bw_callV (As := [.long 1735550329, .int (M.1 a2 (0 : Int32).toNatClampNeg)]) hN q1 ⟨_, _, rfl⟩ dX12_readMan_108 mc_12_257 (c_X12_flag (d := d + 1) hN p24) rfl rfl (Nat.le_of_ble_eq_true rfl) ?_
            refine bv_ior dX12_readMan_111 ?_
            refine bw_iast hN r22 dX12_readMan_112 ?_
            refine bv_aload_n dX12_readMan_113 0 rfl ?_
            obtain ⟨a25, e26, h⟩ := bu_bd h
            refine bw_getA (a := a25) hN q1 e26 dX12_readMan_114 fl_12_37 rfl ?_
            refine bv_iconst (v := 0) dX12_readMan_117 (by decide) ?_
            refine bv_dup2 dX12_readMan_118 rfl rfl ?_
            obtain ⟨r27, h⟩ := bu_ia h
            refine bw_iald hN r27 dX12_readMan_119 ?_
            refine bv_iconst (v := 1) dX12_readMan_120 (by decide) ?_
            refine bv_iadd dX12_readMan_121 ?_
            refine bw_iast hN r27 dX12_readMan_122 ?_
            refine bv_iconst (v := 1) dX12_readMan_123 (by decide) ?_
            obtain rfl := Option.some.inj h
            exact bw_bret (b := true) dX12_readMan_124 rfl ⟨rfl, rfl⟩
          · replace h := bu_bf h cc
            refine bv_iconst (v := 0) dX12_readMan_75 (by decide) ?_
            obtain rfl := Option.some.inj h
            exact bw_bret (b := false) dX12_readMan_76 rfl ⟨rfl, rfl⟩
  · replace h := bu_t h cc
    refine bv_aload_n dX12_readMan_13 0 rfl ?_
    refine bv_iconst (v := 4) dX12_readMan_14 (by decide) ?_
    obtain ⟨v28, p29, h⟩ := bu_bd h
    refine bw_callV (As := [.int 4]) hN q1 ⟨_, _, rfl⟩ dX12_readMan_15 mc_12_200 (c_X12_bad (d := d + 3) hN p29) rfl rfl (by decide) ?_
    obtain rfl := Option.some.inj h
    exact bw_bret (b := v28.1) dX12_readMan_18 rfl ⟨rfl, rfl⟩
def f_X12_readOrder_l92 (M : bm_M) (x0 : Nat) (x1 : Int32) : Nat → Int32 → Option (((Unit) ⊕ (Unit)))
  | 0, _ => none
  | k + 1, x2 => (if x1 ≤ x2 then some (Sum.inr ()) else ((M.2.2 x0 7).bind fun a1 => (if bm_ia a1 0 (39 + x2) = true then (if bm_ia a1 0 (39 + x1) = true then (if (M.1 a1 (39 + x2).toNatClampNeg) = (M.1 a1 (39 + x1).toNatClampNeg) then (if bm_ia a1 0 (46 + x2) = true then (if bm_ia a1 0 (46 + x1) = true then (if (M.1 a1 (46 + x2).toNatClampNeg) = (M.1 a1 (46 + x1).toNatClampNeg) then some (Sum.inl ()) else f_X12_readOrder_l92 M x0 x1 k (x2 + 1)) else none) else none) else f_X12_readOrder_l92 M x0 x1 k (x2 + 1)) else none) else none)))
set_option maxHeartbeats 4000000 in
set_option maxRecDepth 100000 in
theorem v_X12_readOrder_l92 {L : bm_L} {d n : Nat} {Q : Option Value → bm_M → Prop} {M : bm_M} {x0 : Nat} {x1 : Int32} (hN : 181 ≤ n) (q_0 : bm_OK x0 11) : ∀ (k : Nat) (x2 : Int32) (r : ((Unit) ⊕ (Unit))), f_X12_readOrder_l92 M x0 x1 k x2 = some r → (∀ yy, (Sum.inl yy) = r → bm_V L m_X12_readOrder (d + 3) n n n 139 [(0, .ref x0)] [] M Q) → (∀ yy, (Sum.inr yy) = r → bm_V L m_X12_readOrder (d + 3) n n n 151 [(0, .ref x0)] [] M Q) → bm_V L m_X12_readOrder (d + 3) n n n 92 [(0, .ref x0), (1, .int x1), (2, .int x2)] [] M Q := by
  intro k
  induction k with
  | zero => intro x2 r h; cases (show (none : Option (((Unit) ⊕ (Unit)))) = some r from h)
  | succ k ih =>
    intro x2 r h K0 K1
    unfold f_X12_readOrder_l92 at h
    refine bv_iload_n dX12_readOrder_92 2 rfl ?_
    refine bv_iload_n dX12_readOrder_93 1 rfl ?_
    refine bv_icmp_ge (tgt := 151) dX12_readOrder_94 (by decide) (fun cc => ?_) (fun cc => ?_)
    · replace h := bu_t h cc
      refine bw_ls (ls1 := [(0, .ref x0)]) [0] rfl ?_
      obtain rfl := Option.some.inj h
      exact K1 _ rfl
    · replace h := bu_f h cc
      refine bv_aload_n dX12_readOrder_97 0 rfl ?_
      obtain ⟨a1, e2, h⟩ := bu_bd h
      refine bw_getA (a := a1) hN q_0 e2 dX12_readOrder_98 fl_12_37 rfl ?_
      refine bv_bipush (v := 39) dX12_readOrder_101 (by decide) ?_
      refine bv_iload_n dX12_readOrder_103 2 rfl ?_
      refine bv_iadd dX12_readOrder_104 ?_
      obtain ⟨r3, h⟩ := bu_ia h
      refine bw_iald hN r3 dX12_readOrder_105 ?_
      refine bv_aload_n dX12_readOrder_106 0 rfl ?_
      refine bw_getA (a := a1) hN q_0 e2 dX12_readOrder_107 fl_12_37 rfl ?_
      refine bv_bipush (v := 39) dX12_readOrder_110 (by decide) ?_
      refine bv_iload_n dX12_readOrder_112 1 rfl ?_
      refine bv_iadd dX12_readOrder_113 ?_
      obtain ⟨r4, h⟩ := bu_ia h
      refine bw_iald hN r4 dX12_readOrder_114 ?_
      refine bv_icmp_ne (tgt := 145) dX12_readOrder_115 (by decide) (fun cc => ?_) (fun cc => ?_)
      · replace h := bu_f h cc
        refine bv_iinc (j := 2) (v := (x2 + 1)) (ls1 := [(0, .ref x0), (1, .int x1), (2, .int (x2 + 1))]) dX12_readOrder_145 rfl rfl (by decide) rfl rfl ?_
        refine bv_goto (tgt := 92) dX12_readOrder_148 (by decide) ?_
        exact ih _ _ h K0 K1
      · replace h := bu_t h cc
        refine bv_aload_n dX12_readOrder_118 0 rfl ?_
        refine bw_getA (a := a1) hN q_0 e2 dX12_readOrder_119 fl_12_37 rfl ?_
        refine bv_bipush (v := 46) dX12_readOrder_122 (by decide) ?_
        refine bv_iload_n dX12_readOrder_124 2 rfl ?_
        refine bv_iadd dX12_readOrder_125 ?_
        obtain ⟨r5, h⟩ := bu_ia h
        refine bw_iald hN r5 dX12_readOrder_126 ?_
        refine bv_aload_n dX12_readOrder_127 0 rfl ?_
        refine bw_getA (a := a1) hN q_0 e2 dX12_readOrder_128 fl_12_37 rfl ?_
        refine bv_bipush (v := 46) dX12_readOrder_131 (by decide) ?_
        refine bv_iload_n dX12_readOrder_133 1 rfl ?_
        refine bv_iadd dX12_readOrder_134 ?_
        obtain ⟨r6, h⟩ := bu_ia h
        refine bw_iald hN r6 dX12_readOrder_135 ?_
        refine bv_icmp_ne (tgt := 145) dX12_readOrder_136 (by decide) (fun cc => ?_) (fun cc => ?_)
        · replace h := bu_f h cc
          refine bv_iinc (j := 2) (v := (x2 + 1)) (ls1 := [(0, .ref x0), (1, .int x1), (2, .int (x2 + 1))]) dX12_readOrder_145 rfl rfl (by decide) rfl rfl ?_
          refine bv_goto (tgt := 92) dX12_readOrder_148 (by decide) ?_
          exact ih _ _ h K0 K1
        · replace h := bu_t h cc
          refine bw_ls (ls1 := [(0, .ref x0)]) [0] rfl ?_
          obtain rfl := Option.some.inj h
          exact K0 _ rfl
def f_X12_readOrder (M : bm_M) (x0 : Nat) : Option (Bool × bm_M) := (if bm_io x0 11 then ((M.2.2 x0 7).bind fun a2 => (if bm_ia a2 0 1 = true then (if (M.1 a2 (1 : Int32).toNatClampNeg) = 7 then ((f_X12_bad M x0 4).bind fun v31 => some (v31.1, v31.2)) else ((f_X12_next M x0).bind fun v5 => ((f_X12_fresh v5 x0 (23 + (M.1 a2 (1 : Int32).toNatClampNeg))).bind fun v7 => (if v7.1 = true then ((f_X12_isOneOf v7.2 x0 5 3).bind fun v9 => (if v9.1 = true then ((v9.2.2.2 x0 7).bind fun a11 => (if bm_ia a11 0 (39 + (M.1 a2 (1 : Int32).toNatClampNeg)) = true then ((f_X12_next (bm_sI v9.2 a11 (39 + (M.1 a2 (1 : Int32).toNatClampNeg)).toNatClampNeg ((v9.2.1 x0 18) + 1)) x0).bind fun v14 => ((f_X12_isOneOf v14 x0 5 3).bind fun v16 => (if v16.1 = true then ((v16.2.2.2 x0 7).bind fun a18 => (if bm_ia a18 0 (46 + (M.1 a2 (1 : Int32).toNatClampNeg)) = true then ((f_X12_readOrder_l92 (bm_sI v16.2 a18 (46 + (M.1 a2 (1 : Int32).toNatClampNeg)).toNatClampNeg ((v16.2.1 x0 18) + 1)) x0 (M.1 a2 (1 : Int32).toNatClampNeg) 1000 0).bind fun rr => match rr with | (Sum.inl y23) => ((f_X12_bad (bm_sI v16.2 a18 (46 + (M.1 a2 (1 : Int32).toNatClampNeg)).toNatClampNeg ((v16.2.1 x0 18) + 1)) x0 3).bind fun v24 => some (v24.1, v24.2)) | (Sum.inr y23) => ((f_X12_next (bm_sI v16.2 a18 (46 + (M.1 a2 (1 : Int32).toNatClampNeg)).toNatClampNeg ((v16.2.1 x0 18) + 1)) x0).bind fun v26 => ((v26.2.2 x0 7).bind fun a28 => (if bm_ia a28 0 1 = true then some (true, (bm_sI v26 a28 (1 : Int32).toNatClampNeg ((v26.1 a28 (1 : Int32).toNatClampNeg) + 1))) else none)))) else none)) else some (false, v16.2)))) else none)) else some (false, v9.2))) else some (false, v7.2))))) else none)) else none)
set_option maxHeartbeats 4000000 in
set_option maxRecDepth 100000 in
theorem c_X12_readOrder {L : bm_L} {d n : Nat} {M : bm_M} {x0 : Nat} {v : Bool × bm_M} (hN : 181 ≤ n) (h : f_X12_readOrder M x0 = some v) : bm_C L m_X12_readOrder (d + 3) n n [.ref x0] M (fun r M' => r = some (.int (bm_bi v.1)) ∧ M' = v.2) := by
  refine bm_C.ofV (by decide) (Nat.le_of_ble_eq_true rfl) ?_
  show bm_V L m_X12_readOrder (d + 3) n n n 0 [(0, .ref x0)] [] M _
  unfold f_X12_readOrder at h
  refine bv_aload_n dX12_readOrder_0 0 rfl ?_
  obtain ⟨q1, h⟩ := bu_io h
  obtain ⟨a2, e3, h⟩ := bu_bd h
  refine bw_getA (a := a2) hN q1 e3 dX12_readOrder_1 fl_12_37 rfl ?_
  refine bv_iconst (v := 1) dX12_readOrder_4 (by decide) ?_
  obtain ⟨r4, h⟩ := bu_ia h
  refine bw_iald hN r4 dX12_readOrder_5 ?_
  refine bv_istore_n (ls1 := [(0, .ref x0), (1, .int (M.1 a2 (1 : Int32).toNatClampNeg))]) dX12_readOrder_6 (by decide) rfl rfl ?_
  refine bv_iload_n dX12_readOrder_7 1 rfl ?_
  refine bv_bipush (v := 7) dX12_readOrder_8 (by decide) ?_
  refine bv_icmp_ne (tgt := 19) dX12_readOrder_10 (by decide) (fun cc => ?_) (fun cc => ?_)
  · replace h := bu_f h cc
    refine bv_aload_n dX12_readOrder_19 0 rfl ?_
    obtain ⟨v5, p6, h⟩ := bu_bd h
    refine bw_callVv (As := []) hN q1 ⟨_, _, rfl⟩ dX12_readOrder_20 mc_12_203 (c_X12_next (d := d + 1) hN p6) rfl rfl (by decide) ?_
    refine bv_aload_n dX12_readOrder_23 0 rfl ?_
    refine bv_bipush (v := 23) dX12_readOrder_24 (by decide) ?_
    refine bv_iload_n dX12_readOrder_26 1 rfl ?_
    refine bv_iadd dX12_readOrder_27 ?_
    obtain ⟨v7, p8, h⟩ := bu_bd h
    refine bw_callV (As := [.int (23 + (M.1 a2 (1 : Int32).toNatClampNeg))]) hN q1 ⟨_, _, rfl⟩ dX12_readOrder_28 mc_12_254 (c_X12_fresh (d := d + 0) hN p8) rfl rfl (by decide) ?_
    refine bw_ifB_eq (b := v7.1) (tgt := 43) dX12_readOrder_31 (by decide) (fun cc => ?_) (fun cc => ?_)
    · replace h := bu_bf h cc
      refine bv_iconst (v := 0) dX12_readOrder_43 (by decide) ?_
      obtain rfl := Option.some.inj h
      exact bw_bret (b := false) dX12_readOrder_44 rfl ⟨rfl, rfl⟩
    · replace h := bu_bt h cc
      refine bv_aload_n dX12_readOrder_34 0 rfl ?_
      refine bv_iconst (v := 5) dX12_readOrder_35 (by decide) ?_
      refine bv_iconst (v := 3) dX12_readOrder_36 (by decide) ?_
      obtain ⟨v9, p10, h⟩ := bu_bd h
      refine bw_callV (As := [.int 5, .int 3]) hN q1 ⟨_, _, rfl⟩ dX12_readOrder_37 mc_12_261 (c_X12_isOneOf (d := d + 1) hN p10) rfl rfl (by decide) ?_
      refine bw_ifB_ne (b := v9.1) (tgt := 45) dX12_readOrder_40 (by decide) (fun cc => ?_) (fun cc => ?_)
      · replace h := bu_bt h cc
        refine bv_aload_n dX12_readOrder_45 0 rfl ?_
        obtain ⟨a11, e12, h⟩ := bu_bd h
        refine bw_getA (a := a11) hN q1 e12 dX12_readOrder_46 fl_12_37 rfl ?_
        refine bv_bipush (v := 39) dX12_readOrder_49 (by decide) ?_
        refine bv_iload_n dX12_readOrder_51 1 rfl ?_
        refine bv_iadd dX12_readOrder_52 ?_
        refine bv_aload_n dX12_readOrder_53 0 rfl ?_
        refine bw_getI hN q1 dX12_readOrder_54 fl_12_210 rfl ?_
        refine bv_iconst (v := 1) dX12_readOrder_57 (by decide) ?_
        refine bv_iadd dX12_readOrder_58 ?_
        obtain ⟨r13, h⟩ := bu_ia h
        refine bw_iast hN r13 dX12_readOrder_59 ?_
        refine bv_aload_n dX12_readOrder_60 0 rfl ?_
        obtain ⟨v14, p15, h⟩ := bu_bd h
        refine bw_callVv (As := []) hN q1 ⟨_, _, rfl⟩ dX12_readOrder_61 mc_12_203 (c_X12_next (d := d + 1) hN p15) rfl rfl (by decide) ?_
        refine bv_aload_n dX12_readOrder_64 0 rfl ?_
        refine bv_iconst (v := 5) dX12_readOrder_65 (by decide) ?_
        refine bv_iconst (v := 3) dX12_readOrder_66 (by decide) ?_
        obtain ⟨v16, p17, h⟩ := bu_bd h
        refine bw_callV (As := [.int 5, .int 3]) hN q1 ⟨_, _, rfl⟩ dX12_readOrder_67 mc_12_261 (c_X12_isOneOf (d := d + 1) hN p17) rfl rfl (by decide) ?_
        refine bw_ifB_ne (b := v16.1) (tgt := 75) dX12_readOrder_70 (by decide) (fun cc => ?_) (fun cc => ?_)
        · replace h := bu_bt h cc
          refine bv_aload_n dX12_readOrder_75 0 rfl ?_
          obtain ⟨a18, e19, h⟩ := bu_bd h
          refine bw_getA (a := a18) hN q1 e19 dX12_readOrder_76 fl_12_37 rfl ?_
          refine bv_bipush (v := 46) dX12_readOrder_79 (by decide) ?_
          refine bv_iload_n dX12_readOrder_81 1 rfl ?_
          refine bv_iadd dX12_readOrder_82 ?_
          refine bv_aload_n dX12_readOrder_83 0 rfl ?_
          refine bw_getI hN q1 dX12_readOrder_84 fl_12_210 rfl ?_
          refine bv_iconst (v := 1) dX12_readOrder_87 (by decide) ?_
          refine bv_iadd dX12_readOrder_88 ?_
          obtain ⟨r20, h⟩ := bu_ia h
          refine bw_iast hN r20 dX12_readOrder_89 ?_
          refine bv_iconst (v := 0) dX12_readOrder_90 (by decide) ?_
          refine bv_istore_n (ls1 := [(0, .ref x0), (1, .int (M.1 a2 (1 : Int32).toNatClampNeg)), (2, .int 0)]) dX12_readOrder_91 (by decide) rfl rfl ?_
          obtain ⟨r21, p22, h⟩ := bu_bd h
          refine v_X12_readOrder_l92 hN q1 1000 _ _ p22 (fun y23 hy => ?_) (fun y23 hy => ?_)
          · subst hy
            refine bv_aload_n dX12_readOrder_139 0 rfl ?_
            refine bv_iconst (v := 3) dX12_readOrder_140 (by decide) ?_
            obtain ⟨v24, p25, h⟩ := bu_bd h
            refine bw_callV (As := [.int 3]) hN q1 ⟨_, _, rfl⟩ dX12_readOrder_141 mc_12_200 (c_X12_bad (d := d + 2) hN p25) rfl rfl (by decide) ?_
            obtain rfl := Option.some.inj h
            exact bw_bret (b := v24.1) dX12_readOrder_144 rfl ⟨rfl, rfl⟩
          · subst hy
            refine bv_aload_n dX12_readOrder_151 0 rfl ?_
            obtain ⟨v26, p27, h⟩ := bu_bd h
            refine bw_callVv (As := []) hN q1 ⟨_, _, rfl⟩ dX12_readOrder_152 mc_12_203 (c_X12_next (d := d + 1) hN p27) rfl rfl (by decide) ?_
            refine bv_aload_n dX12_readOrder_155 0 rfl ?_
            obtain ⟨a28, e29, h⟩ := bu_bd h
            refine bw_getA (a := a28) hN q1 e29 dX12_readOrder_156 fl_12_37 rfl ?_
            refine bv_iconst (v := 1) dX12_readOrder_159 (by decide) ?_
            refine bv_dup2 dX12_readOrder_160 rfl rfl ?_
            obtain ⟨r30, h⟩ := bu_ia h
            refine bw_iald hN r30 dX12_readOrder_161 ?_
            refine bv_iconst (v := 1) dX12_readOrder_162 (by decide) ?_
            refine bv_iadd dX12_readOrder_163 ?_
            refine bw_iast hN r30 dX12_readOrder_164 ?_
            refine bv_iconst (v := 1) dX12_readOrder_165 (by decide) ?_
            obtain rfl := Option.some.inj h
            exact bw_bret (b := true) dX12_readOrder_166 rfl ⟨rfl, rfl⟩
        · replace h := bu_bf h cc
          refine bv_iconst (v := 0) dX12_readOrder_73 (by decide) ?_
          obtain rfl := Option.some.inj h
          exact bw_bret (b := false) dX12_readOrder_74 rfl ⟨rfl, rfl⟩
      · replace h := bu_bf h cc
        refine bv_iconst (v := 0) dX12_readOrder_43 (by decide) ?_
        obtain rfl := Option.some.inj h
        exact bw_bret (b := false) dX12_readOrder_44 rfl ⟨rfl, rfl⟩
  · replace h := bu_t h cc
    refine bv_aload_n dX12_readOrder_13 0 rfl ?_
    refine bv_iconst (v := 4) dX12_readOrder_14 (by decide) ?_
    obtain ⟨v31, p32, h⟩ := bu_bd h
    refine bw_callV (As := [.int 4]) hN q1 ⟨_, _, rfl⟩ dX12_readOrder_15 mc_12_200 (c_X12_bad (d := d + 2) hN p32) rfl rfl (by decide) ?_
    obtain rfl := Option.some.inj h
    exact bw_bret (b := v31.1) dX12_readOrder_18 rfl ⟨rfl, rfl⟩
def f_X12_readUnder_l70 (M : bm_M) (x0 : Nat) (x1 : Int32) : Nat → Int32 → Option (((Unit) ⊕ (Unit)))
  | 0, _ => none
  | k + 1, x2 => (if x2 < 0 then some (Sum.inr ()) else (if x2 = x1 then some (Sum.inl ()) else ((M.2.2 x0 7).bind fun a1 => (if bm_ia a1 0 (31 + x2) = true then f_X12_readUnder_l70 M x0 x1 k ((M.1 a1 (31 + x2).toNatClampNeg) - 1) else none))))
set_option maxHeartbeats 4000000 in
set_option maxRecDepth 100000 in
theorem v_X12_readUnder_l70 {L : bm_L} {d n : Nat} {Q : Option Value → bm_M → Prop} {M : bm_M} {x0 : Nat} {x1 : Int32} (hN : 181 ≤ n) (q_0 : bm_OK x0 11) : ∀ (k : Nat) (x2 : Int32) (r : ((Unit) ⊕ (Unit))), f_X12_readUnder_l70 M x0 x1 k x2 = some r → (∀ yy, (Sum.inl yy) = r → bm_V L m_X12_readUnder (d + 2) n n n 79 [(0, .ref x0)] [] M Q) → (∀ yy, (Sum.inr yy) = r → bm_V L m_X12_readUnder (d + 2) n n n 100 [(0, .ref x0), (1, .int x1)] [] M Q) → bm_V L m_X12_readUnder (d + 2) n n n 70 [(0, .ref x0), (1, .int x1), (2, .int x2)] [] M Q := by
  intro k
  induction k with
  | zero => intro x2 r h; cases (show (none : Option (((Unit) ⊕ (Unit)))) = some r from h)
  | succ k ih =>
    intro x2 r h K0 K1
    unfold f_X12_readUnder_l70 at h
    refine bv_iload_n dX12_readUnder_70 2 rfl ?_
    refine bv_if_lt (tgt := 100) dX12_readUnder_71 (by decide) (fun cc => ?_) (fun cc => ?_)
    · replace h := bu_t h cc
      refine bw_ls (ls1 := [(0, .ref x0), (1, .int x1)]) [0, 1] rfl ?_
      obtain rfl := Option.some.inj h
      exact K1 _ rfl
    · replace h := bu_f h cc
      refine bv_iload_n dX12_readUnder_74 2 rfl ?_
      refine bv_iload_n dX12_readUnder_75 1 rfl ?_
      refine bv_icmp_ne (tgt := 85) dX12_readUnder_76 (by decide) (fun cc => ?_) (fun cc => ?_)
      · replace h := bu_f h cc
        refine bv_aload_n dX12_readUnder_85 0 rfl ?_
        obtain ⟨a1, e2, h⟩ := bu_bd h
        refine bw_getA (a := a1) hN q_0 e2 dX12_readUnder_86 fl_12_37 rfl ?_
        refine bv_bipush (v := 31) dX12_readUnder_89 (by decide) ?_
        refine bv_iload_n dX12_readUnder_91 2 rfl ?_
        refine bv_iadd dX12_readUnder_92 ?_
        obtain ⟨r3, h⟩ := bu_ia h
        refine bw_iald hN r3 dX12_readUnder_93 ?_
        refine bv_iconst (v := 1) dX12_readUnder_94 (by decide) ?_
        refine bv_isub dX12_readUnder_95 ?_
        refine bv_istore_n (ls1 := [(0, .ref x0), (1, .int x1), (2, .int ((M.1 a1 (31 + x2).toNatClampNeg) - 1))]) dX12_readUnder_96 (by decide) rfl rfl ?_
        refine bv_goto (tgt := 70) dX12_readUnder_97 (by decide) ?_
        exact ih _ _ h K0 K1
      · replace h := bu_t h cc
        refine bw_ls (ls1 := [(0, .ref x0)]) [0] rfl ?_
        obtain rfl := Option.some.inj h
        exact K0 _ rfl
def f_X12_readUnder (M : bm_M) (x0 : Nat) : Option (Bool × bm_M) := (if bm_io x0 11 then ((f_X12_next M x0).bind fun v2 => ((v2.2.2 x0 7).bind fun a4 => (if bm_ia a4 0 0 = true then ((f_X12_looksAt v2 x0 15 (v2.1 a4 (0 : Int32).toNatClampNeg)).bind fun v7 => (if v7.1 = true then ((v7.2.2.2 x0 7).bind fun a9 => (if bm_ia a9 0 (31 + (v7.2.1 x0 18)) = true then (if (v7.2.1 a9 (31 + (v7.2.1 x0 18)).toNatClampNeg) ≤ 0 then ((f_X12_next v7.2 x0).bind fun v12 => ((v12.2.2 x0 7).bind fun a14 => (if bm_ia a14 0 0 = true then ((f_X12_looksAt v12 x0 15 (v12.1 a14 (0 : Int32).toNatClampNeg)).bind fun v17 => (if v17.1 = true then ((f_X12_readUnder_l70 v17.2 x0 (v7.2.1 x0 18) 1000 (v17.2.1 x0 18)).bind fun rr => match rr with | (Sum.inl y21) => ((f_X12_bad v17.2 x0 3).bind fun v22 => some (v22.1, v22.2)) | (Sum.inr y21) => ((v17.2.2.2 x0 7).bind fun a24 => (if bm_ia a24 0 (31 + (v7.2.1 x0 18)) = true then ((f_X12_next (bm_sI v17.2 a24 (31 + (v7.2.1 x0 18)).toNatClampNeg ((v17.2.1 x0 18) + 1)) x0).bind fun v27 => some (true, v27)) else none))) else some (false, v17.2))) else none))) else ((f_X12_bad v7.2 x0 3).bind fun v29 => some (v29.1, v29.2))) else none)) else some (false, v7.2))) else none))) else none)
set_option maxHeartbeats 4000000 in
set_option maxRecDepth 100000 in
theorem c_X12_readUnder {L : bm_L} {d n : Nat} {M : bm_M} {x0 : Nat} {v : Bool × bm_M} (hN : 181 ≤ n) (h : f_X12_readUnder M x0 = some v) : bm_C L m_X12_readUnder (d + 2) n n [.ref x0] M (fun r M' => r = some (.int (bm_bi v.1)) ∧ M' = v.2) := by
  refine bm_C.ofV (by decide) (Nat.le_of_ble_eq_true rfl) ?_
  show bm_V L m_X12_readUnder (d + 2) n n n 0 [(0, .ref x0)] [] M _
  unfold f_X12_readUnder at h
  refine bv_aload_n dX12_readUnder_0 0 rfl ?_
  obtain ⟨q1, h⟩ := bu_io h
  obtain ⟨v2, p3, h⟩ := bu_bd h
  refine bw_callVv (As := []) hN q1 ⟨_, _, rfl⟩ dX12_readUnder_1 mc_12_203 (c_X12_next (d := d + 0) hN p3) rfl rfl (by decide) ?_
  refine bv_aload_n dX12_readUnder_4 0 rfl ?_
  refine bv_bipush (v := 15) dX12_readUnder_5 (by decide) ?_
  refine bv_aload_n dX12_readUnder_7 0 rfl ?_
  obtain ⟨a4, e5, h⟩ := bu_bd h
  refine bw_getA (a := a4) hN q1 e5 dX12_readUnder_8 fl_12_37 rfl ?_
  refine bv_iconst (v := 0) dX12_readUnder_11 (by decide) ?_
  obtain ⟨r6, h⟩ := bu_ia h
  refine bw_iald hN r6 dX12_readUnder_12 ?_
  obtain ⟨v7, p8, h⟩ := bu_bd h
  refine bw_callV (As := [.int 15, .int (v2.1 a4 (0 : Int32).toNatClampNeg)]) hN q1 ⟨_, _, rfl⟩ dX12_readUnder_13 mc_12_225 (c_X12_looksAt (d := d + 0) hN p8) rfl rfl (by decide) ?_
  refine bw_ifB_ne (b := v7.1) (tgt := 21) dX12_readUnder_16 (by decide) (fun cc => ?_) (fun cc => ?_)
  · replace h := bu_bt h cc
    refine bv_aload_n dX12_readUnder_21 0 rfl ?_
    refine bw_getI hN q1 dX12_readUnder_22 fl_12_210 rfl ?_
    refine bv_istore_n (ls1 := [(0, .ref x0), (1, .int (v7.2.1 x0 18))]) dX12_readUnder_25 (by decide) rfl rfl ?_
    refine bv_aload_n dX12_readUnder_26 0 rfl ?_
    obtain ⟨a9, e10, h⟩ := bu_bd h
    refine bw_getA (a := a9) hN q1 e10 dX12_readUnder_27 fl_12_37 rfl ?_
    refine bv_bipush (v := 31) dX12_readUnder_30 (by decide) ?_
    refine bv_iload_n dX12_readUnder_32 1 rfl ?_
    refine bv_iadd dX12_readUnder_33 ?_
    obtain ⟨r11, h⟩ := bu_ia h
    refine bw_iald hN r11 dX12_readUnder_34 ?_
    refine bv_if_le (tgt := 44) dX12_readUnder_35 (by decide) (fun cc => ?_) (fun cc => ?_)
    · replace h := bu_t h cc
      refine bv_aload_n dX12_readUnder_44 0 rfl ?_
      obtain ⟨v12, p13, h⟩ := bu_bd h
      refine bw_callVv (As := []) hN q1 ⟨_, _, rfl⟩ dX12_readUnder_45 mc_12_203 (c_X12_next (d := d + 0) hN p13) rfl rfl (by decide) ?_
      refine bv_aload_n dX12_readUnder_48 0 rfl ?_
      refine bv_bipush (v := 15) dX12_readUnder_49 (by decide) ?_
      refine bv_aload_n dX12_readUnder_51 0 rfl ?_
      obtain ⟨a14, e15, h⟩ := bu_bd h
      refine bw_getA (a := a14) hN q1 e15 dX12_readUnder_52 fl_12_37 rfl ?_
      refine bv_iconst (v := 0) dX12_readUnder_55 (by decide) ?_
      obtain ⟨r16, h⟩ := bu_ia h
      refine bw_iald hN r16 dX12_readUnder_56 ?_
      obtain ⟨v17, p18, h⟩ := bu_bd h
      refine bw_callV (As := [.int 15, .int (v12.1 a14 (0 : Int32).toNatClampNeg)]) hN q1 ⟨_, _, rfl⟩ dX12_readUnder_57 mc_12_225 (c_X12_looksAt (d := d + 0) hN p18) rfl rfl (by decide) ?_
      refine bw_ifB_ne (b := v17.1) (tgt := 65) dX12_readUnder_60 (by decide) (fun cc => ?_) (fun cc => ?_)
      · replace h := bu_bt h cc
        refine bv_aload_n dX12_readUnder_65 0 rfl ?_
        refine bw_getI hN q1 dX12_readUnder_66 fl_12_210 rfl ?_
        refine bv_istore_n (ls1 := [(0, .ref x0), (1, .int (v7.2.1 x0 18)), (2, .int (v17.2.1 x0 18))]) dX12_readUnder_69 (by decide) rfl rfl ?_
        obtain ⟨r19, p20, h⟩ := bu_bd h
        refine v_X12_readUnder_l70 hN q1 1000 _ _ p20 (fun y21 hy => ?_) (fun y21 hy => ?_)
        · subst hy
          refine bv_aload_n dX12_readUnder_79 0 rfl ?_
          refine bv_iconst (v := 3) dX12_readUnder_80 (by decide) ?_
          obtain ⟨v22, p23, h⟩ := bu_bd h
          refine bw_callV (As := [.int 3]) hN q1 ⟨_, _, rfl⟩ dX12_readUnder_81 mc_12_200 (c_X12_bad (d := d + 1) hN p23) rfl rfl (by decide) ?_
          obtain rfl := Option.some.inj h
          exact bw_bret (b := v22.1) dX12_readUnder_84 rfl ⟨rfl, rfl⟩
        · subst hy
          refine bv_aload_n dX12_readUnder_100 0 rfl ?_
          obtain ⟨a24, e25, h⟩ := bu_bd h
          refine bw_getA (a := a24) hN q1 e25 dX12_readUnder_101 fl_12_37 rfl ?_
          refine bv_bipush (v := 31) dX12_readUnder_104 (by decide) ?_
          refine bv_iload_n dX12_readUnder_106 1 rfl ?_
          refine bv_iadd dX12_readUnder_107 ?_
          refine bv_aload_n dX12_readUnder_108 0 rfl ?_
          refine bw_getI hN q1 dX12_readUnder_109 fl_12_210 rfl ?_
          refine bv_iconst (v := 1) dX12_readUnder_112 (by decide) ?_
          refine bv_iadd dX12_readUnder_113 ?_
          obtain ⟨r26, h⟩ := bu_ia h
          refine bw_iast hN r26 dX12_readUnder_114 ?_
          refine bv_aload_n dX12_readUnder_115 0 rfl ?_
          obtain ⟨v27, p28, h⟩ := bu_bd h
          refine bw_callVv (As := []) hN q1 ⟨_, _, rfl⟩ dX12_readUnder_116 mc_12_203 (c_X12_next (d := d + 0) hN p28) rfl rfl (by decide) ?_
          refine bv_iconst (v := 1) dX12_readUnder_119 (by decide) ?_
          obtain rfl := Option.some.inj h
          exact bw_bret (b := true) dX12_readUnder_120 rfl ⟨rfl, rfl⟩
      · replace h := bu_bf h cc
        refine bv_iconst (v := 0) dX12_readUnder_63 (by decide) ?_
        obtain rfl := Option.some.inj h
        exact bw_bret (b := false) dX12_readUnder_64 rfl ⟨rfl, rfl⟩
    · replace h := bu_f h cc
      refine bv_aload_n dX12_readUnder_38 0 rfl ?_
      refine bv_iconst (v := 3) dX12_readUnder_39 (by decide) ?_
      obtain ⟨v29, p30, h⟩ := bu_bd h
      refine bw_callV (As := [.int 3]) hN q1 ⟨_, _, rfl⟩ dX12_readUnder_40 mc_12_200 (c_X12_bad (d := d + 1) hN p30) rfl rfl (by decide) ?_
      obtain rfl := Option.some.inj h
      exact bw_bret (b := v29.1) dX12_readUnder_43 rfl ⟨rfl, rfl⟩
  · replace h := bu_bf h cc
    refine bv_iconst (v := 0) dX12_readUnder_19 (by decide) ?_
    obtain rfl := Option.some.inj h
    exact bw_bret (b := false) dX12_readUnder_20 rfl ⟨rfl, rfl⟩
def f_X12_line (M : bm_M) (x0 : Nat) : Option (Bool × bm_M) := (if bm_io x0 11 then ((f_X12_isWord M x0 7168366).bind fun v2 => (if v2 = true then ((f_X12_readMan M x0).bind fun v38 => some (v38.1, v38.2)) else ((f_X12_isWord M x0 504363246962).bind fun v4 => (if v4 = true then ((f_X12_readUnder M x0).bind fun v36 => some (v36.1, v36.2)) else ((f_X12_isWord M x0 478660552050).bind fun v6 => (if v6 = true then ((f_X12_readOrder M x0).bind fun v34 => some (v34.1, v34.2)) else ((f_X12_isWord M x0 6713189).bind fun v8 => (if v8 = true then ((M.2.2 x0 7).bind fun a20 => (if bm_ia a20 0 2 = true then (if (M.1 a20 (2 : Int32).toNatClampNeg) = 4 then ((f_X12_bad M x0 4).bind fun v32 => some (v32.1, v32.2)) else ((f_X12_next M x0).bind fun v23 => ((f_X12_puts v23 x0 (53 + (M.1 a20 (2 : Int32).toNatClampNeg)) 0 30).bind fun v25 => (if v25.1 = true then ((f_X12_puts v25.2 x0 (57 + (M.1 a20 (2 : Int32).toNatClampNeg)) 0 30).bind fun v27 => (if v27.1 = true then ((v27.2.2.2 x0 7).bind fun a29 => (if bm_ia a29 0 2 = true then some (true, (bm_sI v27.2 a29 (2 : Int32).toNatClampNeg ((v27.2.1 a29 (2 : Int32).toNatClampNeg) + 1))) else none)) else some (false, v27.2))) else some (false, v25.2))))) else none)) else ((f_X12_isWord M x0 427020345714).bind fun v10 => (if v10 = true then ((f_X12_once M x0 0 3 1 5).bind fun v18 => some (v18.1, v18.2)) else ((f_X12_isWord M x0 1918986606).bind fun v12 => (if v12 = true then ((f_X12_once M x0 1 4 1 30).bind fun v16 => some (v16.1, v16.2)) else ((f_X12_bad M x0 1).bind fun v14 => some (v14.1, v14.2)))))))))))))) else none)
set_option maxHeartbeats 4000000 in
set_option maxRecDepth 100000 in
theorem c_X12_line {L : bm_L} {d n : Nat} {M : bm_M} {x0 : Nat} {v : Bool × bm_M} (hN : 181 ≤ n) (h : f_X12_line M x0 = some v) : bm_C L m_X12_line (d + 5) n n [.ref x0] M (fun r M' => r = some (.int (bm_bi v.1)) ∧ M' = v.2) := by
  refine bm_C.ofV (by decide) (Nat.le_of_ble_eq_true rfl) ?_
  show bm_V L m_X12_line (d + 5) n n n 0 [(0, .ref x0)] [] M _
  unfold f_X12_line at h
  refine bv_aload_n dX12_line_0 0 rfl ?_
  refine bv_ldc2 (v := 7168366) dX12_line_1 cst_12_93 ?_
  obtain ⟨q1, h⟩ := bu_io h
  obtain ⟨v2, p3, h⟩ := bu_bd h
  refine bw_callV (As := [.long 7168366]) hN q1 ⟨_, _, rfl⟩ dX12_line_4 mc_12_237 (c_X12_isWord (d := d + 4) hN p3) rfl rfl (by decide) ?_
  refine bw_ifB_eq (b := v2) (tgt := 15) dX12_line_7 (by decide) (fun cc => ?_) (fun cc => ?_)
  · replace h := bu_bf h cc
    refine bv_aload_n dX12_line_15 0 rfl ?_
    refine bv_ldc2 (v := 504363246962) dX12_line_16 cst_12_99 ?_
    obtain ⟨v4, p5, h⟩ := bu_bd h
    refine bw_callV (As := [.long 504363246962]) hN q1 ⟨_, _, rfl⟩ dX12_line_19 mc_12_237 (c_X12_isWord (d := d + 4) hN p5) rfl rfl (by decide) ?_
    refine bw_ifB_eq (b := v4) (tgt := 30) dX12_line_22 (by decide) (fun cc => ?_) (fun cc => ?_)
    · replace h := bu_bf h cc
      refine bv_aload_n dX12_line_30 0 rfl ?_
      refine bv_ldc2 (v := 478660552050) dX12_line_31 cst_12_101 ?_
      obtain ⟨v6, p7, h⟩ := bu_bd h
      refine bw_callV (As := [.long 478660552050]) hN q1 ⟨_, _, rfl⟩ dX12_line_34 mc_12_237 (c_X12_isWord (d := d + 4) hN p7) rfl rfl (by decide) ?_
      refine bw_ifB_eq (b := v6) (tgt := 45) dX12_line_37 (by decide) (fun cc => ?_) (fun cc => ?_)
      · replace h := bu_bf h cc
        refine bv_aload_n dX12_line_45 0 rfl ?_
        refine bv_ldc2 (v := 6713189) dX12_line_46 cst_12_109 ?_
        obtain ⟨v8, p9, h⟩ := bu_bd h
        refine bw_callV (As := [.long 6713189]) hN q1 ⟨_, _, rfl⟩ dX12_line_49 mc_12_237 (c_X12_isWord (d := d + 4) hN p9) rfl rfl (by decide) ?_
        refine bw_ifB_eq (b := v8) (tgt := 119) dX12_line_52 (by decide) (fun cc => ?_) (fun cc => ?_)
        · replace h := bu_bf h cc
          refine bv_aload_n dX12_line_119 0 rfl ?_
          refine bv_ldc2 (v := 427020345714) dX12_line_120 cst_12_111 ?_
          obtain ⟨v10, p11, h⟩ := bu_bd h
          refine bw_callV (As := [.long 427020345714]) hN q1 ⟨_, _, rfl⟩ dX12_line_123 mc_12_237 (c_X12_isWord (d := d + 4) hN p11) rfl rfl (by decide) ?_
          refine bw_ifB_eq (b := v10) (tgt := 138) dX12_line_126 (by decide) (fun cc => ?_) (fun cc => ?_)
          · replace h := bu_bf h cc
            refine bv_aload_n dX12_line_138 0 rfl ?_
            refine bv_ldc2 (v := 1918986606) dX12_line_139 cst_12_113 ?_
            obtain ⟨v12, p13, h⟩ := bu_bd h
            refine bw_callV (As := [.long 1918986606]) hN q1 ⟨_, _, rfl⟩ dX12_line_142 mc_12_237 (c_X12_isWord (d := d + 4) hN p13) rfl rfl (by decide) ?_
            refine bw_ifB_eq (b := v12) (tgt := 160) dX12_line_145 (by decide) (fun cc => ?_) (fun cc => ?_)
            · replace h := bu_bf h cc
              refine bv_aload_n dX12_line_160 0 rfl ?_
              refine bv_iconst (v := 1) dX12_line_161 (by decide) ?_
              obtain ⟨v14, p15, h⟩ := bu_bd h
              refine bw_callV (As := [.int 1]) hN q1 ⟨_, _, rfl⟩ dX12_line_162 mc_12_200 (c_X12_bad (d := d + 4) hN p15) rfl rfl (by decide) ?_
              obtain rfl := Option.some.inj h
              exact bw_bret (b := v14.1) dX12_line_165 rfl ⟨rfl, rfl⟩
            · replace h := bu_bt h cc
              refine bv_aload_n dX12_line_148 0 rfl ?_
              refine bv_iconst (v := 1) dX12_line_149 (by decide) ?_
              refine bv_iconst (v := 4) dX12_line_150 (by decide) ?_
              refine bv_iconst (v := 1) dX12_line_151 (by decide) ?_
              refine bv_bipush (v := 30) dX12_line_152 (by decide) ?_
              obtain ⟨v16, p17, h⟩ := bu_bd h
              refine bw_callV (As := [.int 1, .int 4, .int 1, .int 30]) hN q1 ⟨_, _, rfl⟩ dX12_line_154 mc_12_250 (c_X12_once (d := d + 0) hN p17) rfl rfl (by decide) ?_
              refine bv_goto (tgt := 165) dX12_line_157 (by decide) ?_
              obtain rfl := Option.some.inj h
              exact bw_bret (b := v16.1) dX12_line_165 rfl ⟨rfl, rfl⟩
          · replace h := bu_bt h cc
            refine bv_aload_n dX12_line_129 0 rfl ?_
            refine bv_iconst (v := 0) dX12_line_130 (by decide) ?_
            refine bv_iconst (v := 3) dX12_line_131 (by decide) ?_
            refine bv_iconst (v := 1) dX12_line_132 (by decide) ?_
            refine bv_iconst (v := 5) dX12_line_133 (by decide) ?_
            obtain ⟨v18, p19, h⟩ := bu_bd h
            refine bw_callV (As := [.int 0, .int 3, .int 1, .int 5]) hN q1 ⟨_, _, rfl⟩ dX12_line_134 mc_12_250 (c_X12_once (d := d + 0) hN p19) rfl rfl (by decide) ?_
            obtain rfl := Option.some.inj h
            exact bw_bret (b := v18.1) dX12_line_137 rfl ⟨rfl, rfl⟩
        · replace h := bu_bt h cc
          refine bv_aload_n dX12_line_55 0 rfl ?_
          obtain ⟨a20, e21, h⟩ := bu_bd h
          refine bw_getA (a := a20) hN q1 e21 dX12_line_56 fl_12_37 rfl ?_
          refine bv_iconst (v := 2) dX12_line_59 (by decide) ?_
          obtain ⟨r22, h⟩ := bu_ia h
          refine bw_iald hN r22 dX12_line_60 ?_
          refine bv_istore_n (ls1 := [(0, .ref x0), (1, .int (M.1 a20 (2 : Int32).toNatClampNeg))]) dX12_line_61 (by decide) rfl rfl ?_
          refine bv_iload_n dX12_line_62 1 rfl ?_
          refine bv_iconst (v := 4) dX12_line_63 (by decide) ?_
          refine bv_icmp_ne (tgt := 73) dX12_line_64 (by decide) (fun cc => ?_) (fun cc => ?_)
          · replace h := bu_f h cc
            refine bv_aload_n dX12_line_73 0 rfl ?_
            obtain ⟨v23, p24, h⟩ := bu_bd h
            refine bw_callVv (As := []) hN q1 ⟨_, _, rfl⟩ dX12_line_74 mc_12_203 (c_X12_next (d := d + 3) hN p24) rfl rfl (by decide) ?_
            refine bv_aload_n dX12_line_77 0 rfl ?_
            refine bv_bipush (v := 53) dX12_line_78 (by decide) ?_
            refine bv_iload_n dX12_line_80 1 rfl ?_
            refine bv_iadd dX12_line_81 ?_
            refine bv_iconst (v := 0) dX12_line_82 (by decide) ?_
            refine bv_bipush (v := 30) dX12_line_83 (by decide) ?_
            obtain ⟨v25, p26, h⟩ := bu_bd h
            refine bw_callV (As := [.int (53 + (M.1 a20 (2 : Int32).toNatClampNeg)), .int 0, .int 30]) hN q1 ⟨_, _, rfl⟩ dX12_line_85 mc_12_234 (c_X12_puts (d := d + 1) hN p26) rfl rfl (by decide) ?_
            refine bw_ifB_eq (b := v25.1) (tgt := 105) dX12_line_88 (by decide) (fun cc => ?_) (fun cc => ?_)
            · replace h := bu_bf h cc
              refine bv_iconst (v := 0) dX12_line_105 (by decide) ?_
              obtain rfl := Option.some.inj h
              exact bw_bret (b := false) dX12_line_106 rfl ⟨rfl, rfl⟩
            · replace h := bu_bt h cc
              refine bv_aload_n dX12_line_91 0 rfl ?_
              refine bv_bipush (v := 57) dX12_line_92 (by decide) ?_
              refine bv_iload_n dX12_line_94 1 rfl ?_
              refine bv_iadd dX12_line_95 ?_
              refine bv_iconst (v := 0) dX12_line_96 (by decide) ?_
              refine bv_bipush (v := 30) dX12_line_97 (by decide) ?_
              obtain ⟨v27, p28, h⟩ := bu_bd h
              refine bw_callV (As := [.int (57 + (M.1 a20 (2 : Int32).toNatClampNeg)), .int 0, .int 30]) hN q1 ⟨_, _, rfl⟩ dX12_line_99 mc_12_234 (c_X12_puts (d := d + 1) hN p28) rfl rfl (by decide) ?_
              refine bw_ifB_ne (b := v27.1) (tgt := 107) dX12_line_102 (by decide) (fun cc => ?_) (fun cc => ?_)
              · replace h := bu_bt h cc
                refine bv_aload_n dX12_line_107 0 rfl ?_
                obtain ⟨a29, e30, h⟩ := bu_bd h
                refine bw_getA (a := a29) hN q1 e30 dX12_line_108 fl_12_37 rfl ?_
                refine bv_iconst (v := 2) dX12_line_111 (by decide) ?_
                refine bv_dup2 dX12_line_112 rfl rfl ?_
                obtain ⟨r31, h⟩ := bu_ia h
                refine bw_iald hN r31 dX12_line_113 ?_
                refine bv_iconst (v := 1) dX12_line_114 (by decide) ?_
                refine bv_iadd dX12_line_115 ?_
                refine bw_iast hN r31 dX12_line_116 ?_
                refine bv_iconst (v := 1) dX12_line_117 (by decide) ?_
                obtain rfl := Option.some.inj h
                exact bw_bret (b := true) dX12_line_118 rfl ⟨rfl, rfl⟩
              · replace h := bu_bf h cc
                refine bv_iconst (v := 0) dX12_line_105 (by decide) ?_
                obtain rfl := Option.some.inj h
                exact bw_bret (b := false) dX12_line_106 rfl ⟨rfl, rfl⟩
          · replace h := bu_t h cc
            refine bv_aload_n dX12_line_67 0 rfl ?_
            refine bv_iconst (v := 4) dX12_line_68 (by decide) ?_
            obtain ⟨v32, p33, h⟩ := bu_bd h
            refine bw_callV (As := [.int 4]) hN q1 ⟨_, _, rfl⟩ dX12_line_69 mc_12_200 (c_X12_bad (d := d + 4) hN p33) rfl rfl (by decide) ?_
            obtain rfl := Option.some.inj h
            exact bw_bret (b := v32.1) dX12_line_72 rfl ⟨rfl, rfl⟩
      · replace h := bu_bt h cc
        refine bv_aload_n dX12_line_40 0 rfl ?_
        obtain ⟨v34, p35, h⟩ := bu_bd h
        refine bw_callV (As := []) hN q1 ⟨_, _, rfl⟩ dX12_line_41 mc_12_247 (c_X12_readOrder (d := d + 1) hN p35) rfl rfl (by decide) ?_
        obtain rfl := Option.some.inj h
        exact bw_bret (b := v34.1) dX12_line_44 rfl ⟨rfl, rfl⟩
    · replace h := bu_bt h cc
      refine bv_aload_n dX12_line_25 0 rfl ?_
      obtain ⟨v36, p37, h⟩ := bu_bd h
      refine bw_callV (As := []) hN q1 ⟨_, _, rfl⟩ dX12_line_26 mc_12_244 (c_X12_readUnder (d := d + 2) hN p37) rfl rfl (by decide) ?_
      obtain rfl := Option.some.inj h
      exact bw_bret (b := v36.1) dX12_line_29 rfl ⟨rfl, rfl⟩
  · replace h := bu_bt h cc
    refine bv_aload_n dX12_line_10 0 rfl ?_
    obtain ⟨v38, p39, h⟩ := bu_bd h
    refine bw_callV (As := []) hN q1 ⟨_, _, rfl⟩ dX12_line_11 mc_12_241 (c_X12_readMan (d := d + 0) hN p39) rfl rfl (by decide) ?_
    obtain rfl := Option.some.inj h
    exact bw_bret (b := v38.1) dX12_line_14 rfl ⟨rfl, rfl⟩
def f_X12_army_l35 (x0 : Nat) : Nat → bm_M → Option (((bm_M) ⊕ (bm_M)))
  | 0, _ => none
  | k + 1, M => (if (M.1 x0 11) = 0 then some (Sum.inr M) else ((f_X12_line M x0).bind fun v1 => (if v1.1 = true then ((f_X12_sign v1.2 x0 59).bind fun v3 => (if v3.1 = true then f_X12_army_l35 x0 k (bm_sI v3.2 x0 19 ((v3.2.1 x0 19) + 1)) else some (Sum.inl v3.2))) else some (Sum.inl v1.2))))
set_option maxHeartbeats 4000000 in
set_option maxRecDepth 100000 in
theorem v_X12_army_l35 {L : bm_L} {d n : Nat} {Q : Option Value → bm_M → Prop} {x0 : Nat} (hN : 181 ≤ n) (q_0 : bm_OK x0 11) : ∀ (k : Nat) (M : bm_M) (r : ((bm_M) ⊕ (bm_M))), f_X12_army_l35 x0 k M = some r → (∀ yy, (Sum.inl yy) = r → bm_V L m_X12_army (d + 6) n n n 58 [(0, .ref x0)] [] yy Q) → (∀ yy, (Sum.inr yy) = r → bm_V L m_X12_army (d + 6) n n n 78 [(0, .ref x0)] [] yy Q) → bm_V L m_X12_army (d + 6) n n n 35 [(0, .ref x0)] [] M Q := by
  intro k
  induction k with
  | zero => intro M r h; cases (show (none : Option (((bm_M) ⊕ (bm_M)))) = some r from h)
  | succ k ih =>
    intro M r h K0 K1
    unfold f_X12_army_l35 at h
    refine bv_aload_n dX12_army_35 0 rfl ?_
    refine bw_getI hN q_0 dX12_army_36 fl_12_174 rfl ?_
    refine bv_if_eq (tgt := 78) dX12_army_39 (by decide) (fun cc => ?_) (fun cc => ?_)
    · replace h := bu_t h cc
      obtain rfl := Option.some.inj h
      exact K1 _ rfl
    · replace h := bu_f h cc
      refine bv_aload_n dX12_army_42 0 rfl ?_
      obtain ⟨v1, p2, h⟩ := bu_bd h
      refine bw_callV (As := []) hN q_0 ⟨_, _, rfl⟩ dX12_army_43 mc_12_270 (c_X12_line (d := d + 0) hN p2) rfl rfl (by decide) ?_
      refine bw_ifB_eq (b := v1.1) (tgt := 58) dX12_army_46 (by decide) (fun cc => ?_) (fun cc => ?_)
      · replace h := bu_bf h cc
        obtain rfl := Option.some.inj h
        exact K0 _ rfl
      · replace h := bu_bt h cc
        refine bv_aload_n dX12_army_49 0 rfl ?_
        refine bv_bipush (v := 59) dX12_army_50 (by decide) ?_
        obtain ⟨v3, p4, h⟩ := bu_bd h
        refine bw_callV (As := [.int 59]) hN q_0 ⟨_, _, rfl⟩ dX12_army_52 mc_12_273 (c_X12_sign (d := d + 3) hN p4) rfl rfl (by decide) ?_
        refine bw_ifB_ne (b := v3.1) (tgt := 65) dX12_army_55 (by decide) (fun cc => ?_) (fun cc => ?_)
        · replace h := bu_bt h cc
          refine bv_aload_n dX12_army_65 0 rfl ?_
          refine bv_dup dX12_army_66 rfl ?_
          refine bw_getI hN q_0 dX12_army_67 fl_12_267 rfl ?_
          refine bv_iconst (v := 1) dX12_army_70 (by decide) ?_
          refine bv_iadd dX12_army_71 ?_
          refine bw_putI hN q_0 dX12_army_72 fl_12_267 rfl ?_
          refine bv_goto (tgt := 35) dX12_army_75 (by decide) ?_
          exact ih _ _ h K0 K1
        · replace h := bu_bf h cc
          obtain rfl := Option.some.inj h
          exact K0 _ rfl
def f_X12_army_l80 (x0 : Nat) : Nat → Int32 → bm_M → Option (bm_M)
  | 0, _, _ => none
  | k + 1, x1, M => (if 287 ≤ x1 then some M else ((M.2.2 x0 6).bind fun a1 => (if 61 ≤ x1 then (if bm_ia a1 0 x1 = true then f_X12_army_l80 x0 k (x1 + 1) (bm_sI M a1 x1.toNatClampNeg 0) else none) else ((M.2.2 x0 7).bind fun a4 => (if bm_ia a4 0 x1 = true then (if bm_ia a1 0 x1 = true then f_X12_army_l80 x0 k (x1 + 1) (bm_sI M a1 x1.toNatClampNeg (M.1 a4 x1.toNatClampNeg)) else none) else none)))))
set_option maxHeartbeats 4000000 in
set_option maxRecDepth 100000 in
theorem v_X12_army_l80 {L : bm_L} {d n : Nat} {Q : Option Value → bm_M → Prop} {x0 : Nat} (hN : 181 ≤ n) (q_0 : bm_OK x0 11) : ∀ (k : Nat) (x1 : Int32) (M : bm_M) (r : bm_M), f_X12_army_l80 x0 k x1 M = some r → (∀ yy, yy = r → bm_V L m_X12_army (d + 6) n n n 115 [(0, .ref x0)] [] yy Q) → bm_V L m_X12_army (d + 6) n n n 80 [(0, .ref x0), (1, .int x1)] [] M Q := by
  intro k
  induction k with
  | zero => intro x1 M r h; cases (show (none : Option (bm_M)) = some r from h)
  | succ k ih =>
    intro x1 M r h K0
    unfold f_X12_army_l80 at h
    refine bv_iload_n dX12_army_80 1 rfl ?_
    refine bv_sipush (v := 287) dX12_army_81 (by decide) ?_
    refine bv_icmp_ge (tgt := 115) dX12_army_84 (by decide) (fun cc => ?_) (fun cc => ?_)
    · replace h := bu_t h cc
      refine bw_ls (ls1 := [(0, .ref x0)]) [0] rfl ?_
      obtain rfl := Option.some.inj h
      exact K0 _ rfl
    · replace h := bu_f h cc
      refine bv_aload_n dX12_army_87 0 rfl ?_
      obtain ⟨a1, e2, h⟩ := bu_bd h
      refine bw_getA (a := a1) hN q_0 e2 dX12_army_88 fl_12_33 rfl ?_
      refine bv_iload_n dX12_army_91 1 rfl ?_
      refine bv_iload_n dX12_army_92 1 rfl ?_
      refine bv_bipush (v := 61) dX12_army_93 (by decide) ?_
      refine bv_icmp_ge (tgt := 107) dX12_army_95 (by decide) (fun cc => ?_) (fun cc => ?_)
      · replace h := bu_t h cc
        refine bv_iconst (v := 0) dX12_army_107 (by decide) ?_
        obtain ⟨r3, h⟩ := bu_ia h
        refine bw_iast hN r3 dX12_army_108 ?_
        refine bv_iinc (j := 1) (v := (x1 + 1)) (ls1 := [(0, .ref x0), (1, .int (x1 + 1))]) dX12_army_109 rfl rfl (by decide) rfl rfl ?_
        refine bv_goto (tgt := 80) dX12_army_112 (by decide) ?_
        exact ih _ _ _ h K0
      · replace h := bu_f h cc
        refine bv_aload_n dX12_army_98 0 rfl ?_
        obtain ⟨a4, e5, h⟩ := bu_bd h
        refine bw_getA (a := a4) hN q_0 e5 dX12_army_99 fl_12_37 rfl ?_
        refine bv_iload_n dX12_army_102 1 rfl ?_
        obtain ⟨r6, h⟩ := bu_ia h
        refine bw_iald hN r6 dX12_army_103 ?_
        refine bv_goto (tgt := 108) dX12_army_104 (by decide) ?_
        obtain ⟨r7, h⟩ := bu_ia h
        refine bw_iast hN r7 dX12_army_108 ?_
        refine bv_iinc (j := 1) (v := (x1 + 1)) (ls1 := [(0, .ref x0), (1, .int (x1 + 1))]) dX12_army_109 rfl rfl (by decide) rfl rfl ?_
        refine bv_goto (tgt := 80) dX12_army_112 (by decide) ?_
        exact ih _ _ _ h K0
def f_X12_army_l117 (x0 : Nat) : Nat → Int32 → bm_M → Option (bm_M)
  | 0, _, _ => none
  | k + 1, x1, M => (if 15 ≤ x1 then some M else ((M.2.2 x0 9).bind fun a1 => (if bm_ia a1 2 (15 + x1) = true then (if bm_ia a1 2 x1 = true then f_X12_army_l117 x0 k (x1 + 1) (bm_sL M a1 x1.toNatClampNeg (M.2.1 a1 (15 + x1).toNatClampNeg)) else none) else none)))
set_option maxHeartbeats 4000000 in
set_option maxRecDepth 100000 in
theorem v_X12_army_l117 {L : bm_L} {d n : Nat} {Q : Option Value → bm_M → Prop} {x0 : Nat} (hN : 181 ≤ n) (q_0 : bm_OK x0 11) : ∀ (k : Nat) (x1 : Int32) (M : bm_M) (r : bm_M), f_X12_army_l117 x0 k x1 M = some r → (∀ yy, yy = r → bm_V L m_X12_army (d + 6) n n n 144 [(0, .ref x0)] [] yy Q) → bm_V L m_X12_army (d + 6) n n n 117 [(0, .ref x0), (1, .int x1)] [] M Q := by
  intro k
  induction k with
  | zero => intro x1 M r h; cases (show (none : Option (bm_M)) = some r from h)
  | succ k ih =>
    intro x1 M r h K0
    unfold f_X12_army_l117 at h
    refine bv_iload_n dX12_army_117 1 rfl ?_
    refine bv_bipush (v := 15) dX12_army_118 (by decide) ?_
    refine bv_icmp_ge (tgt := 144) dX12_army_120 (by decide) (fun cc => ?_) (fun cc => ?_)
    · replace h := bu_t h cc
      refine bw_ls (ls1 := [(0, .ref x0)]) [0] rfl ?_
      obtain rfl := Option.some.inj h
      exact K0 _ rfl
    · replace h := bu_f h cc
      refine bv_aload_n dX12_army_123 0 rfl ?_
      obtain ⟨a1, e2, h⟩ := bu_bd h
      refine bw_getA (a := a1) hN q_0 e2 dX12_army_124 fl_12_43 rfl ?_
      refine bv_iload_n dX12_army_127 1 rfl ?_
      refine bv_aload_n dX12_army_128 0 rfl ?_
      refine bw_getA (a := a1) hN q_0 e2 dX12_army_129 fl_12_43 rfl ?_
      refine bv_bipush (v := 15) dX12_army_132 (by decide) ?_
      refine bv_iload_n dX12_army_134 1 rfl ?_
      refine bv_iadd dX12_army_135 ?_
      obtain ⟨r3, h⟩ := bu_ia h
      refine bw_lald hN r3 dX12_army_136 ?_
      obtain ⟨r4, h⟩ := bu_ia h
      refine bw_last hN r4 dX12_army_137 ?_
      refine bv_iinc (j := 1) (v := (x1 + 1)) (ls1 := [(0, .ref x0), (1, .int (x1 + 1))]) dX12_army_138 rfl rfl (by decide) rfl rfl ?_
      refine bv_goto (tgt := 117) dX12_army_141 (by decide) ?_
      exact ih _ _ _ h K0
def f_X12_army_l146 (x0 : Nat) : Nat → Int32 → bm_M → Option (bm_M)
  | 0, _, _ => none
  | k + 1, x1, M => (if 8 ≤ x1 then some M else ((M.2.2 x0 6).bind fun a1 => (if bm_ia a1 0 (5 + x1) = true then (if bm_ia a1 0 (66 + x1) = true then (if bm_ia a1 0 (13 + x1) = true then (if bm_ia a1 0 (74 + x1) = true then f_X12_army_l146 x0 k (x1 + 1) (bm_sI (bm_sI M a1 (66 + x1).toNatClampNeg (M.1 a1 (5 + x1).toNatClampNeg)) a1 (74 + x1).toNatClampNeg ((bm_sI M a1 (66 + x1).toNatClampNeg (M.1 a1 (5 + x1).toNatClampNeg)).1 a1 (13 + x1).toNatClampNeg)) else none) else none) else none) else none)))
set_option maxHeartbeats 4000000 in
set_option maxRecDepth 100000 in
theorem v_X12_army_l146 {L : bm_L} {d n : Nat} {Q : Option Value → bm_M → Prop} {x0 : Nat} (hN : 181 ≤ n) (q_0 : bm_OK x0 11) : ∀ (k : Nat) (x1 : Int32) (M : bm_M) (r : bm_M), f_X12_army_l146 x0 k x1 M = some r → (∀ yy, yy = r → bm_V L m_X12_army (d + 6) n n n 193 [(0, .ref x0)] [] yy Q) → bm_V L m_X12_army (d + 6) n n n 146 [(0, .ref x0), (1, .int x1)] [] M Q := by
  intro k
  induction k with
  | zero => intro x1 M r h; cases (show (none : Option (bm_M)) = some r from h)
  | succ k ih =>
    intro x1 M r h K0
    unfold f_X12_army_l146 at h
    refine bv_iload_n dX12_army_146 1 rfl ?_
    refine bv_bipush (v := 8) dX12_army_147 (by decide) ?_
    refine bv_icmp_ge (tgt := 193) dX12_army_149 (by decide) (fun cc => ?_) (fun cc => ?_)
    · replace h := bu_t h cc
      refine bw_ls (ls1 := [(0, .ref x0)]) [0] rfl ?_
      obtain rfl := Option.some.inj h
      exact K0 _ rfl
    · replace h := bu_f h cc
      refine bv_aload_n dX12_army_152 0 rfl ?_
      obtain ⟨a1, e2, h⟩ := bu_bd h
      refine bw_getA (a := a1) hN q_0 e2 dX12_army_153 fl_12_33 rfl ?_
      refine bv_bipush (v := 66) dX12_army_156 (by decide) ?_
      refine bv_iload_n dX12_army_158 1 rfl ?_
      refine bv_iadd dX12_army_159 ?_
      refine bv_aload_n dX12_army_160 0 rfl ?_
      refine bw_getA (a := a1) hN q_0 e2 dX12_army_161 fl_12_33 rfl ?_
      refine bv_iconst (v := 5) dX12_army_164 (by decide) ?_
      refine bv_iload_n dX12_army_165 1 rfl ?_
      refine bv_iadd dX12_army_166 ?_
      obtain ⟨r3, h⟩ := bu_ia h
      refine bw_iald hN r3 dX12_army_167 ?_
      obtain ⟨r4, h⟩ := bu_ia h
      refine bw_iast hN r4 dX12_army_168 ?_
      refine bv_aload_n dX12_army_169 0 rfl ?_
      refine bw_getA (a := a1) hN q_0 e2 dX12_army_170 fl_12_33 rfl ?_
      refine bv_bipush (v := 74) dX12_army_173 (by decide) ?_
      refine bv_iload_n dX12_army_175 1 rfl ?_
      refine bv_iadd dX12_army_176 ?_
      refine bv_aload_n dX12_army_177 0 rfl ?_
      refine bw_getA (a := a1) hN q_0 e2 dX12_army_178 fl_12_33 rfl ?_
      refine bv_bipush (v := 13) dX12_army_181 (by decide) ?_
      refine bv_iload_n dX12_army_183 1 rfl ?_
      refine bv_iadd dX12_army_184 ?_
      obtain ⟨r5, h⟩ := bu_ia h
      refine bw_iald hN r5 dX12_army_185 ?_
      obtain ⟨r6, h⟩ := bu_ia h
      refine bw_iast hN r6 dX12_army_186 ?_
      refine bv_iinc (j := 1) (v := (x1 + 1)) (ls1 := [(0, .ref x0), (1, .int (x1 + 1))]) dX12_army_187 rfl rfl (by decide) rfl rfl ?_
      refine bv_goto (tgt := 146) dX12_army_190 (by decide) ?_
      exact ih _ _ _ h K0
def f_X12_army (M : bm_M) (x0 : Nat) : Option (Int32 × bm_M) := (if bm_io x0 11 then ((f_X12_taken (bm_sI M x0 0 0) x0 900).bind fun v2 => ((f_X12_clears (bm_sI (bm_sI (bm_sI v2 x0 15 0) x0 19 0) x0 20 0) x0).bind fun v4 => ((f_X12_next v4 x0).bind fun v6 => ((f_X12_army_l35 x0 1000 v6).bind fun rr => match rr with | (Sum.inl y10) => some (((-1) - (y10.1 x0 16)), y10) | (Sum.inr y10) => ((f_X12_army_l80 x0 1000 0 y10).bind fun y13 => ((f_X12_army_l117 x0 1000 0 y13).bind fun y16 => ((f_X12_army_l146 x0 1000 0 y16).bind fun y19 => some (((bm_sI y19 x0 24 0).1 x0 19), (bm_sI y19 x0 24 0))))))))) else none)
set_option maxHeartbeats 4000000 in
set_option maxRecDepth 100000 in
theorem c_X12_army {L : bm_L} {d n : Nat} {M : bm_M} {x0 : Nat} {v : Int32 × bm_M} (hN : 181 ≤ n) (h : f_X12_army M x0 = some v) : bm_C L m_X12_army (d + 6) n n [.ref x0] M (fun r M' => r = some (.int v.1) ∧ M' = v.2) := by
  refine bm_C.ofV (by decide) (Nat.le_of_ble_eq_true rfl) ?_
  show bm_V L m_X12_army (d + 6) n n n 0 [(0, .ref x0)] [] M _
  unfold f_X12_army at h
  refine bv_aload_n dX12_army_0 0 rfl ?_
  refine bv_iconst (v := 0) dX12_army_1 (by decide) ?_
  obtain ⟨q1, h⟩ := bu_io h
  refine bw_putI hN q1 dX12_army_2 fl_12_1 rfl ?_
  refine bv_aload_n dX12_army_5 0 rfl ?_
  refine bv_sipush (v := 900) dX12_army_6 (by decide) ?_
  obtain ⟨v2, p3, h⟩ := bu_bd h
  refine bw_callVv (As := [.int 900]) hN q1 ⟨_, _, rfl⟩ dX12_army_9 mc_12_264 (c_X12_taken (d := d + 5) hN p3) rfl rfl (by decide) ?_
  refine bv_aload_n dX12_army_12 0 rfl ?_
  refine bv_iconst (v := 0) dX12_army_13 (by decide) ?_
  refine bw_putI hN q1 dX12_army_14 fl_12_191 rfl ?_
  refine bv_aload_n dX12_army_17 0 rfl ?_
  refine bv_iconst (v := 0) dX12_army_18 (by decide) ?_
  refine bw_putI hN q1 dX12_army_19 fl_12_267 rfl ?_
  refine bv_aload_n dX12_army_22 0 rfl ?_
  refine bv_iconst (v := 0) dX12_army_23 (by decide) ?_
  refine bw_putI hN q1 dX12_army_24 fl_12_228 rfl ?_
  refine bv_aload_n dX12_army_27 0 rfl ?_
  obtain ⟨v4, p5, h⟩ := bu_bd h
  refine bw_callVv (As := []) hN q1 ⟨_, _, rfl⟩ dX12_army_28 mc_12_161 (c_X12_clears (d := d + 5) hN p5) rfl rfl (by decide) ?_
  refine bv_aload_n dX12_army_31 0 rfl ?_
  obtain ⟨v6, p7, h⟩ := bu_bd h
  refine bw_callVv (As := []) hN q1 ⟨_, _, rfl⟩ dX12_army_32 mc_12_203 (c_X12_next (d := d + 4) hN p7) rfl rfl (by decide) ?_
  obtain ⟨r8, p9, h⟩ := bu_bd h
  refine v_X12_army_l35 hN q1 1000 _ _ p9 (fun y10 hy => ?_) (fun y10 hy => ?_)
  · subst hy
    refine bv_iconst (v := (-1)) dX12_army_58 (by decide) ?_
    refine bv_aload_n dX12_army_59 0 rfl ?_
    refine bw_getI hN q1 dX12_army_60 fl_12_194 rfl ?_
    refine bv_isub dX12_army_63 ?_
    obtain rfl := Option.some.inj h
    exact bv_iret (x := ((-1) - (y10.1 x0 16))) dX12_army_64 rfl ⟨rfl, rfl⟩
  · subst hy
    refine bv_iconst (v := 0) dX12_army_78 (by decide) ?_
    refine bv_istore_n (ls1 := [(0, .ref x0), (1, .int 0)]) dX12_army_79 (by decide) rfl rfl ?_
    obtain ⟨r11, p12, h⟩ := bu_bd h
    refine v_X12_army_l80 hN q1 1000 _ _ _ p12 (fun y13 hy => ?_)
    · subst hy
      refine bv_iconst (v := 0) dX12_army_115 (by decide) ?_
      refine bv_istore_n (ls1 := [(0, .ref x0), (1, .int 0)]) dX12_army_116 (by decide) rfl rfl ?_
      obtain ⟨r14, p15, h⟩ := bu_bd h
      refine v_X12_army_l117 hN q1 1000 _ _ _ p15 (fun y16 hy => ?_)
      · subst hy
        refine bv_iconst (v := 0) dX12_army_144 (by decide) ?_
        refine bv_istore_n (ls1 := [(0, .ref x0), (1, .int 0)]) dX12_army_145 (by decide) rfl rfl ?_
        obtain ⟨r17, p18, h⟩ := bu_bd h
        refine v_X12_army_l146 hN q1 1000 _ _ _ p18 (fun y19 hy => ?_)
        · subst hy
          refine bv_aload_n dX12_army_193 0 rfl ?_
          refine bv_iconst (v := 0) dX12_army_194 (by decide) ?_
          refine bw_putI hN q1 dX12_army_195 fl_12_276 rfl ?_
          refine bv_aload_n dX12_army_198 0 rfl ?_
          refine bw_getI hN q1 dX12_army_199 fl_12_267 rfl ?_
          obtain rfl := Option.some.inj h
          exact bv_iret (x := ((bm_sI y19 x0 24 0).1 x0 19)) dX12_army_202 rfl ⟨rfl, rfl⟩
def f_X12_fault (M : bm_M) (x0 : Nat) : Option (Int32 × bm_M) := (if bm_io x0 11 then some (((bm_sI M x0 0 0).1 x0 15), (bm_sI M x0 0 0)) else none)
set_option maxHeartbeats 4000000 in
set_option maxRecDepth 100000 in
theorem c_X12_fault {L : bm_L} {d n : Nat} {M : bm_M} {x0 : Nat} {v : Int32 × bm_M} (hN : 181 ≤ n) (h : f_X12_fault M x0 = some v) : bm_C L m_X12_fault d n n [.ref x0] M (fun r M' => r = some (.int v.1) ∧ M' = v.2) := by
  refine bm_C.ofV (by decide) (Nat.le_of_ble_eq_true rfl) ?_
  show bm_V L m_X12_fault d n n n 0 [(0, .ref x0)] [] M _
  unfold f_X12_fault at h
  refine bv_aload_n dX12_fault_0 0 rfl ?_
  refine bv_iconst (v := 0) dX12_fault_1 (by decide) ?_
  obtain ⟨q1, h⟩ := bu_io h
  refine bw_putI hN q1 dX12_fault_2 fl_12_1 rfl ?_
  refine bv_aload_n dX12_fault_5 0 rfl ?_
  refine bw_getI hN q1 dX12_fault_6 fl_12_191 rfl ?_
  obtain rfl := Option.some.inj h
  exact bv_iret (x := ((bm_sI M x0 0 0).1 x0 15)) dX12_fault_9 rfl ⟨rfl, rfl⟩
def f_X12_isMan (M : bm_M) (x0 : Nat) (x1 : Int32) : Option (Bool) := (if bm_io x0 11 then ((M.2.2 x0 6).bind fun a2 => (if bm_ia a2 0 0 = true then some (f_X12_isIn x1 0 ((M.1 a2 (0 : Int32).toNatClampNeg) - 1)) else none)) else none)
set_option maxHeartbeats 4000000 in
set_option maxRecDepth 100000 in
theorem c_X12_isMan {L : bm_L} {d n : Nat} {M : bm_M} {x0 : Nat} {x1 : Int32} {v : Bool} (hN : 181 ≤ n) (h : f_X12_isMan M x0 x1 = some v) : bm_C L m_X12_isMan (d + 1) n n [.ref x0, .int x1] M (fun r M' => r = some (.int (bm_bi v)) ∧ M' = M) := by
  refine bm_C.ofV (by decide) (Nat.le_of_ble_eq_true rfl) ?_
  show bm_V L m_X12_isMan (d + 1) n n n 0 [(0, .ref x0), (1, .int x1)] [] M _
  unfold f_X12_isMan at h
  refine bv_iload_n dX12_isMan_0 1 rfl ?_
  refine bv_iconst (v := 0) dX12_isMan_1 (by decide) ?_
  refine bv_aload_n dX12_isMan_2 0 rfl ?_
  obtain ⟨q1, h⟩ := bu_io h
  obtain ⟨a2, e3, h⟩ := bu_bd h
  refine bw_getA (a := a2) hN q1 e3 dX12_isMan_3 fl_12_33 rfl ?_
  refine bv_iconst (v := 0) dX12_isMan_6 (by decide) ?_
  obtain ⟨r4, h⟩ := bu_ia h
  refine bw_iald hN r4 dX12_isMan_7 ?_
  refine bv_iconst (v := 1) dX12_isMan_8 (by decide) ?_
  refine bv_isub dX12_isMan_9 ?_
  refine bw_callS (As := [.int x1, .int 0, .int ((M.1 a2 (0 : Int32).toNatClampNeg) - 1)]) dX12_isMan_10 mc_12_206 (c_X12_isIn (d := d + 0) hN rfl) rfl rfl (by decide) ?_
  obtain rfl := Option.some.inj h
  exact bw_bret (b := (f_X12_isIn x1 0 ((M.1 a2 (0 : Int32).toNatClampNeg) - 1))) dX12_isMan_13 rfl ⟨rfl, rfl⟩
def f_X12_isOrder (M : bm_M) (x0 : Nat) (x1 : Int32) : Option (Bool) := (if bm_io x0 11 then ((M.2.2 x0 6).bind fun a2 => (if bm_ia a2 0 1 = true then some (f_X12_isIn x1 0 ((M.1 a2 (1 : Int32).toNatClampNeg) - 1)) else none)) else none)
set_option maxHeartbeats 4000000 in
set_option maxRecDepth 100000 in
theorem c_X12_isOrder {L : bm_L} {d n : Nat} {M : bm_M} {x0 : Nat} {x1 : Int32} {v : Bool} (hN : 181 ≤ n) (h : f_X12_isOrder M x0 x1 = some v) : bm_C L m_X12_isOrder (d + 1) n n [.ref x0, .int x1] M (fun r M' => r = some (.int (bm_bi v)) ∧ M' = M) := by
  refine bm_C.ofV (by decide) (Nat.le_of_ble_eq_true rfl) ?_
  show bm_V L m_X12_isOrder (d + 1) n n n 0 [(0, .ref x0), (1, .int x1)] [] M _
  unfold f_X12_isOrder at h
  refine bv_iload_n dX12_isOrder_0 1 rfl ?_
  refine bv_iconst (v := 0) dX12_isOrder_1 (by decide) ?_
  refine bv_aload_n dX12_isOrder_2 0 rfl ?_
  obtain ⟨q1, h⟩ := bu_io h
  obtain ⟨a2, e3, h⟩ := bu_bd h
  refine bw_getA (a := a2) hN q1 e3 dX12_isOrder_3 fl_12_33 rfl ?_
  refine bv_iconst (v := 1) dX12_isOrder_6 (by decide) ?_
  obtain ⟨r4, h⟩ := bu_ia h
  refine bw_iald hN r4 dX12_isOrder_7 ?_
  refine bv_iconst (v := 1) dX12_isOrder_8 (by decide) ?_
  refine bv_isub dX12_isOrder_9 ?_
  refine bw_callS (As := [.int x1, .int 0, .int ((M.1 a2 (1 : Int32).toNatClampNeg) - 1)]) dX12_isOrder_10 mc_12_206 (c_X12_isIn (d := d + 0) hN rfl) rfl rfl (by decide) ?_
  obtain rfl := Option.some.inj h
  exact bw_bret (b := (f_X12_isIn x1 0 ((M.1 a2 (1 : Int32).toNatClampNeg) - 1))) dX12_isOrder_13 rfl ⟨rfl, rfl⟩
def f_X12_browOf (M : bm_M) (x0 : Nat) (x1 : Int32) : Option (Int32) := (if bm_io x0 11 then ((M.2.2 x0 6).bind fun a2 => (if bm_ia a2 0 64 = true then (if (f_X12_bitOf (M.1 a2 (64 : Int32).toNatClampNeg) x1) = true then (if bm_ia a2 0 (21 + x1) = true then some (f_X12_lesser 9 ((M.1 a2 (21 + x1).toNatClampNeg) + 3)) else none) else (if bm_ia a2 0 (21 + x1) = true then some (M.1 a2 (21 + x1).toNatClampNeg) else none)) else none)) else none)
set_option maxHeartbeats 4000000 in
set_option maxRecDepth 100000 in
theorem c_X12_browOf {L : bm_L} {d n : Nat} {M : bm_M} {x0 : Nat} {x1 : Int32} {v : Int32} (hN : 181 ≤ n) (h : f_X12_browOf M x0 x1 = some v) : bm_C L m_X12_browOf (d + 1) n n [.ref x0, .int x1] M (fun r M' => r = some (.int v) ∧ M' = M) := by
  refine bm_C.ofV (by decide) (Nat.le_of_ble_eq_true rfl) ?_
  show bm_V L m_X12_browOf (d + 1) n n n 0 [(0, .ref x0), (1, .int x1)] [] M _
  unfold f_X12_browOf at h
  refine bv_aload_n dX12_browOf_0 0 rfl ?_
  obtain ⟨q1, h⟩ := bu_io h
  obtain ⟨a2, e3, h⟩ := bu_bd h
  refine bw_getA (a := a2) hN q1 e3 dX12_browOf_1 fl_12_33 rfl ?_
  refine bv_bipush (v := 64) dX12_browOf_4 (by decide) ?_
  obtain ⟨r4, h⟩ := bu_ia h
  refine bw_iald hN r4 dX12_browOf_6 ?_
  refine bv_iload_n dX12_browOf_7 1 rfl ?_
  refine bw_callS (As := [.int (M.1 a2 (64 : Int32).toNatClampNeg), .int x1]) dX12_browOf_8 mc_12_231 (c_X12_bitOf (d := d + 0) hN rfl) rfl rfl (by decide) ?_
  refine bw_ifB_eq (b := (f_X12_bitOf (M.1 a2 (64 : Int32).toNatClampNeg) x1)) (tgt := 33) dX12_browOf_11 (by decide) (fun cc => ?_) (fun cc => ?_)
  · replace h := bu_bf h cc
    refine bv_aload_n dX12_browOf_33 0 rfl ?_
    refine bw_getA (a := a2) hN q1 e3 dX12_browOf_34 fl_12_33 rfl ?_
    refine bv_bipush (v := 21) dX12_browOf_37 (by decide) ?_
    refine bv_iload_n dX12_browOf_39 1 rfl ?_
    refine bv_iadd dX12_browOf_40 ?_
    obtain ⟨r5, h⟩ := bu_ia h
    refine bw_iald hN r5 dX12_browOf_41 ?_
    obtain rfl := Option.some.inj h
    exact bv_iret (x := (M.1 a2 (21 + x1).toNatClampNeg)) dX12_browOf_42 rfl ⟨rfl, rfl⟩
  · replace h := bu_bt h cc
    refine bv_bipush (v := 9) dX12_browOf_14 (by decide) ?_
    refine bv_aload_n dX12_browOf_16 0 rfl ?_
    refine bw_getA (a := a2) hN q1 e3 dX12_browOf_17 fl_12_33 rfl ?_
    refine bv_bipush (v := 21) dX12_browOf_20 (by decide) ?_
    refine bv_iload_n dX12_browOf_22 1 rfl ?_
    refine bv_iadd dX12_browOf_23 ?_
    obtain ⟨r6, h⟩ := bu_ia h
    refine bw_iald hN r6 dX12_browOf_24 ?_
    refine bv_iconst (v := 3) dX12_browOf_25 (by decide) ?_
    refine bv_iadd dX12_browOf_26 ?_
    refine bw_callS (As := [.int 9, .int ((M.1 a2 (21 + x1).toNatClampNeg) + 3)]) dX12_browOf_27 mc_12_279 (c_X12_lesser (d := d + 0) hN rfl) rfl rfl (by decide) ?_
    refine bv_goto (tgt := 42) dX12_browOf_30 (by decide) ?_
    obtain rfl := Option.some.inj h
    exact bv_iret (x := (f_X12_lesser 9 ((M.1 a2 (21 + x1).toNatClampNeg) + 3))) dX12_browOf_42 rfl ⟨rfl, rfl⟩
def f_X12_farBy (x0 : Int32) (x1 : Int32) (x2 : Int32) (x3 : Int32) : Int32 := ((f_X12_absolute (x0 - x2)) + (f_X12_absolute (x1 - x3)))
set_option maxHeartbeats 4000000 in
set_option maxRecDepth 100000 in
theorem c_X12_farBy {L : bm_L} {d n : Nat} {M : bm_M} {x0 : Int32} {x1 : Int32} {x2 : Int32} {x3 : Int32} {v : Int32} (hN : 181 ≤ n) (h : f_X12_farBy x0 x1 x2 x3 = v) : bm_C L m_X12_farBy (d + 1) n n [.int x0, .int x1, .int x2, .int x3] M (fun r M' => r = some (.int v) ∧ M' = M) := by
  refine bm_C.ofV (by decide) (Nat.le_of_ble_eq_true rfl) ?_
  show bm_V L m_X12_farBy (d + 1) n n n 0 [(0, .int x0), (1, .int x1), (2, .int x2), (3, .int x3)] [] M _
  unfold f_X12_farBy at h
  refine bv_iload_n dX12_farBy_0 0 rfl ?_
  refine bv_iload_n dX12_farBy_1 2 rfl ?_
  refine bv_isub dX12_farBy_2 ?_
  refine bw_callS (As := [.int (x0 - x2)]) dX12_farBy_3 mc_12_282 (c_X12_absolute (d := d + 0) hN rfl) rfl rfl (by decide) ?_
  refine bv_iload_n dX12_farBy_6 1 rfl ?_
  refine bv_iload_n dX12_farBy_7 3 rfl ?_
  refine bv_isub dX12_farBy_8 ?_
  refine bw_callS (As := [.int (x1 - x3)]) dX12_farBy_9 mc_12_282 (c_X12_absolute (d := d + 0) hN rfl) rfl rfl (Nat.le_of_ble_eq_true rfl) ?_
  refine bv_iadd dX12_farBy_12 ?_
  subst h
  exact bv_iret (x := ((f_X12_absolute (x0 - x2)) + (f_X12_absolute (x1 - x3)))) dX12_farBy_13 rfl ⟨rfl, rfl⟩
def f_X12_isShown (M : bm_M) (x0 : Nat) (x1 : Int32) (x2 : Int32) (x3 : Int32) (x4 : Int32) (x5 : Int32) : Option (Bool) := (if x1 ≤ 0 then some false else (if bm_io x0 11 then ((M.2.2 x0 6).bind fun a2 => (if bm_ia a2 0 3 = true then (if (x1 * (M.1 a2 (3 : Int32).toNatClampNeg)) < (f_X12_farBy x2 x3 x4 x5) then some false else some true) else none)) else none))
set_option maxHeartbeats 4000000 in
set_option maxRecDepth 100000 in
theorem c_X12_isShown {L : bm_L} {d n : Nat} {M : bm_M} {x0 : Nat} {x1 : Int32} {x2 : Int32} {x3 : Int32} {x4 : Int32} {x5 : Int32} {v : Bool} (hN : 181 ≤ n) (h : f_X12_isShown M x0 x1 x2 x3 x4 x5 = some v) : bm_C L m_X12_isShown (d + 2) n n [.ref x0, .int x1, .int x2, .int x3, .int x4, .int x5] M (fun r M' => r = some (.int (bm_bi v)) ∧ M' = M) := by
  refine bm_C.ofV (by decide) (Nat.le_of_ble_eq_true rfl) ?_
  show bm_V L m_X12_isShown (d + 2) n n n 0 [(0, .ref x0), (1, .int x1), (2, .int x2), (3, .int x3), (4, .int x4), (5, .int x5)] [] M _
  unfold f_X12_isShown at h
  refine bv_iload_n dX12_isShown_0 1 rfl ?_
  refine bv_if_le (tgt := 28) dX12_isShown_1 (by decide) (fun cc => ?_) (fun cc => ?_)
  · replace h := bu_t h cc
    refine bv_iconst (v := 0) dX12_isShown_28 (by decide) ?_
    obtain rfl := Option.some.inj h
    exact bw_bret (b := false) dX12_isShown_29 rfl ⟨rfl, rfl⟩
  · replace h := bu_f h cc
    refine bv_iload_n dX12_isShown_4 2 rfl ?_
    refine bv_iload_n dX12_isShown_5 3 rfl ?_
    refine bv_iload dX12_isShown_6 4 rfl ?_
    refine bv_iload dX12_isShown_8 5 rfl ?_
    refine bw_callS (As := [.int x2, .int x3, .int x4, .int x5]) dX12_isShown_10 mc_12_286 (c_X12_farBy (d := d + 0) hN rfl) rfl rfl (by decide) ?_
    refine bv_iload_n dX12_isShown_13 1 rfl ?_
    refine bv_aload_n dX12_isShown_14 0 rfl ?_
    obtain ⟨q1, h⟩ := bu_io h
    obtain ⟨a2, e3, h⟩ := bu_bd h
    refine bw_getA (a := a2) hN q1 e3 dX12_isShown_15 fl_12_33 rfl ?_
    refine bv_iconst (v := 3) dX12_isShown_18 (by decide) ?_
    obtain ⟨r4, h⟩ := bu_ia h
    refine bw_iald hN r4 dX12_isShown_19 ?_
    refine bv_imul dX12_isShown_20 ?_
    refine bv_icmp_gt (tgt := 28) dX12_isShown_21 (by decide) (fun cc => ?_) (fun cc => ?_)
    · replace h := bu_t h cc
      refine bv_iconst (v := 0) dX12_isShown_28 (by decide) ?_
      obtain rfl := Option.some.inj h
      exact bw_bret (b := false) dX12_isShown_29 rfl ⟨rfl, rfl⟩
    · replace h := bu_f h cc
      refine bv_iconst (v := 1) dX12_isShown_24 (by decide) ?_
      refine bv_goto (tgt := 29) dX12_isShown_25 (by decide) ?_
      obtain rfl := Option.some.inj h
      exact bw_bret (b := true) dX12_isShown_29 rfl ⟨rfl, rfl⟩
def f_X12_seesOne (M : bm_M) (x0 : Nat) (x1 : Int32) (x2 : Int32) : Option (Bool) := (if x1 = x2 then some false else (if bm_io x0 11 then ((M.2.2 x0 6).bind fun a2 => (if bm_ia a2 0 63 = true then (if (f_X12_bitOf (M.1 a2 (63 : Int32).toNatClampNeg) x1) = true then some false else ((f_X12_browOf M x0 x2).bind fun v5 => (if bm_ia a2 0 (66 + x2) = true then (if bm_ia a2 0 (74 + x2) = true then (if bm_ia a2 0 (66 + x1) = true then (if bm_ia a2 0 (74 + x1) = true then ((f_X12_isShown M x0 v5 (M.1 a2 (66 + x2).toNatClampNeg) (M.1 a2 (74 + x2).toNatClampNeg) (M.1 a2 (66 + x1).toNatClampNeg) (M.1 a2 (74 + x1).toNatClampNeg)).bind fun v11 => (if v11 = true then some true else some false)) else none) else none) else none) else none))) else none)) else none))
set_option maxHeartbeats 4000000 in
set_option maxRecDepth 100000 in
theorem c_X12_seesOne {L : bm_L} {d n : Nat} {M : bm_M} {x0 : Nat} {x1 : Int32} {x2 : Int32} {v : Bool} (hN : 181 ≤ n) (h : f_X12_seesOne M x0 x1 x2 = some v) : bm_C L m_X12_seesOne (d + 3) n n [.ref x0, .int x1, .int x2] M (fun r M' => r = some (.int (bm_bi v)) ∧ M' = M) := by
  refine bm_C.ofV (by decide) (Nat.le_of_ble_eq_true rfl) ?_
  show bm_V L m_X12_seesOne (d + 3) n n n 0 [(0, .ref x0), (1, .int x1), (2, .int x2)] [] M _
  unfold f_X12_seesOne at h
  refine bv_iload_n dX12_seesOne_0 1 rfl ?_
  refine bv_iload_n dX12_seesOne_1 2 rfl ?_
  refine bv_icmp_eq (tgt := 71) dX12_seesOne_2 (by decide) (fun cc => ?_) (fun cc => ?_)
  · replace h := bu_t h cc
    refine bv_iconst (v := 0) dX12_seesOne_71 (by decide) ?_
    obtain rfl := Option.some.inj h
    exact bw_bret (b := false) dX12_seesOne_72 rfl ⟨rfl, rfl⟩
  · replace h := bu_f h cc
    refine bv_aload_n dX12_seesOne_5 0 rfl ?_
    obtain ⟨q1, h⟩ := bu_io h
    obtain ⟨a2, e3, h⟩ := bu_bd h
    refine bw_getA (a := a2) hN q1 e3 dX12_seesOne_6 fl_12_33 rfl ?_
    refine bv_bipush (v := 63) dX12_seesOne_9 (by decide) ?_
    obtain ⟨r4, h⟩ := bu_ia h
    refine bw_iald hN r4 dX12_seesOne_11 ?_
    refine bv_iload_n dX12_seesOne_12 1 rfl ?_
    refine bw_callS (As := [.int (M.1 a2 (63 : Int32).toNatClampNeg), .int x1]) dX12_seesOne_13 mc_12_231 (c_X12_bitOf (d := d + 2) hN rfl) rfl rfl (by decide) ?_
    refine bw_ifB_ne (b := (f_X12_bitOf (M.1 a2 (63 : Int32).toNatClampNeg) x1)) (tgt := 71) dX12_seesOne_16 (by decide) (fun cc => ?_) (fun cc => ?_)
    · replace h := bu_bt h cc
      refine bv_iconst (v := 0) dX12_seesOne_71 (by decide) ?_
      obtain rfl := Option.some.inj h
      exact bw_bret (b := false) dX12_seesOne_72 rfl ⟨rfl, rfl⟩
    · replace h := bu_bf h cc
      refine bv_aload_n dX12_seesOne_19 0 rfl ?_
      refine bv_aload_n dX12_seesOne_20 0 rfl ?_
      refine bv_iload_n dX12_seesOne_21 2 rfl ?_
      obtain ⟨v5, p6, h⟩ := bu_bd h
      refine bw_callV (As := [.int x2]) hN q1 ⟨_, _, rfl⟩ dX12_seesOne_22 mc_12_290 (c_X12_browOf (d := d + 1) hN p6) rfl rfl (Nat.le_of_ble_eq_true rfl) ?_
      refine bv_aload_n dX12_seesOne_25 0 rfl ?_
      refine bw_getA (a := a2) hN q1 e3 dX12_seesOne_26 fl_12_33 rfl ?_
      refine bv_bipush (v := 66) dX12_seesOne_29 (by decide) ?_
      refine bv_iload_n dX12_seesOne_31 2 rfl ?_
      refine bv_iadd dX12_seesOne_32 ?_
      obtain ⟨r7, h⟩ := bu_ia h
      refine bw_iald hN r7 dX12_seesOne_33 ?_
      refine bv_aload_n dX12_seesOne_34 0 rfl ?_
      refine bw_getA (a := a2) hN q1 e3 dX12_seesOne_35 fl_12_33 rfl ?_
      refine bv_bipush (v := 74) dX12_seesOne_38 (by decide) ?_
      refine bv_iload_n dX12_seesOne_40 2 rfl ?_
      refine bv_iadd dX12_seesOne_41 ?_
      obtain ⟨r8, h⟩ := bu_ia h
      refine bw_iald hN r8 dX12_seesOne_42 ?_
      refine bv_aload_n dX12_seesOne_43 0 rfl ?_
      refine bw_getA (a := a2) hN q1 e3 dX12_seesOne_44 fl_12_33 rfl ?_
      refine bv_bipush (v := 66) dX12_seesOne_47 (by decide) ?_
      refine bv_iload_n dX12_seesOne_49 1 rfl ?_
      refine bv_iadd dX12_seesOne_50 ?_
      obtain ⟨r9, h⟩ := bu_ia h
      refine bw_iald hN r9 dX12_seesOne_51 ?_
      refine bv_aload_n dX12_seesOne_52 0 rfl ?_
      refine bw_getA (a := a2) hN q1 e3 dX12_seesOne_53 fl_12_33 rfl ?_
      refine bv_bipush (v := 74) dX12_seesOne_56 (by decide) ?_
      refine bv_iload_n dX12_seesOne_58 1 rfl ?_
      refine bv_iadd dX12_seesOne_59 ?_
      obtain ⟨r10, h⟩ := bu_ia h
      refine bw_iald hN r10 dX12_seesOne_60 ?_
      obtain ⟨v11, p12, h⟩ := bu_bd h
      refine bw_callV (As := [.int v5, .int (M.1 a2 (66 + x2).toNatClampNeg), .int (M.1 a2 (74 + x2).toNatClampNeg), .int (M.1 a2 (66 + x1).toNatClampNeg), .int (M.1 a2 (74 + x1).toNatClampNeg)]) hN q1 ⟨_, _, rfl⟩ dX12_seesOne_61 mc_12_293 (c_X12_isShown (d := d + 0) hN p12) rfl rfl (by decide) ?_
      refine bw_ifB_eq (b := v11) (tgt := 71) dX12_seesOne_64 (by decide) (fun cc => ?_) (fun cc => ?_)
      · replace h := bu_bf h cc
        refine bv_iconst (v := 0) dX12_seesOne_71 (by decide) ?_
        obtain rfl := Option.some.inj h
        exact bw_bret (b := false) dX12_seesOne_72 rfl ⟨rfl, rfl⟩
      · replace h := bu_bt h cc
        refine bv_iconst (v := 1) dX12_seesOne_67 (by decide) ?_
        refine bv_goto (tgt := 72) dX12_seesOne_68 (by decide) ?_
        obtain rfl := Option.some.inj h
        exact bw_bret (b := true) dX12_seesOne_72 rfl ⟨rfl, rfl⟩
def f_X12_readsOne (M : bm_M) (x0 : Nat) (x1 : Int32) (x2 : Int32) : Option (Bool) := (if bm_io x0 11 then ((M.2.2 x0 6).bind fun a2 => (if bm_ia a2 0 (31 + x1) = true then (if (M.1 a2 (31 + x1).toNatClampNeg) = (x2 + 1) then ((f_X12_seesOne M x0 x1 x2).bind fun v5 => (if v5 = true then some true else some false)) else some false) else none)) else none)
set_option maxHeartbeats 4000000 in
set_option maxRecDepth 100000 in
theorem c_X12_readsOne {L : bm_L} {d n : Nat} {M : bm_M} {x0 : Nat} {x1 : Int32} {x2 : Int32} {v : Bool} (hN : 181 ≤ n) (h : f_X12_readsOne M x0 x1 x2 = some v) : bm_C L m_X12_readsOne (d + 4) n n [.ref x0, .int x1, .int x2] M (fun r M' => r = some (.int (bm_bi v)) ∧ M' = M) := by
  refine bm_C.ofV (by decide) (Nat.le_of_ble_eq_true rfl) ?_
  show bm_V L m_X12_readsOne (d + 4) n n n 0 [(0, .ref x0), (1, .int x1), (2, .int x2)] [] M _
  unfold f_X12_readsOne at h
  refine bv_aload_n dX12_readsOne_0 0 rfl ?_
  obtain ⟨q1, h⟩ := bu_io h
  obtain ⟨a2, e3, h⟩ := bu_bd h
  refine bw_getA (a := a2) hN q1 e3 dX12_readsOne_1 fl_12_33 rfl ?_
  refine bv_bipush (v := 31) dX12_readsOne_4 (by decide) ?_
  refine bv_iload_n dX12_readsOne_6 1 rfl ?_
  refine bv_iadd dX12_readsOne_7 ?_
  obtain ⟨r4, h⟩ := bu_ia h
  refine bw_iald hN r4 dX12_readsOne_8 ?_
  refine bv_iload_n dX12_readsOne_9 2 rfl ?_
  refine bv_iconst (v := 1) dX12_readsOne_10 (by decide) ?_
  refine bv_iadd dX12_readsOne_11 ?_
  refine bv_icmp_ne (tgt := 28) dX12_readsOne_12 (by decide) (fun cc => ?_) (fun cc => ?_)
  · replace h := bu_f h cc
    refine bv_iconst (v := 0) dX12_readsOne_28 (by decide) ?_
    obtain rfl := Option.some.inj h
    exact bw_bret (b := false) dX12_readsOne_29 rfl ⟨rfl, rfl⟩
  · replace h := bu_t h cc
    refine bv_aload_n dX12_readsOne_15 0 rfl ?_
    refine bv_iload_n dX12_readsOne_16 1 rfl ?_
    refine bv_iload_n dX12_readsOne_17 2 rfl ?_
    obtain ⟨v5, p6, h⟩ := bu_bd h
    refine bw_callV (As := [.int x1, .int x2]) hN q1 ⟨_, _, rfl⟩ dX12_readsOne_18 mc_12_297 (c_X12_seesOne (d := d + 0) hN p6) rfl rfl (by decide) ?_
    refine bw_ifB_eq (b := v5) (tgt := 28) dX12_readsOne_21 (by decide) (fun cc => ?_) (fun cc => ?_)
    · replace h := bu_bf h cc
      refine bv_iconst (v := 0) dX12_readsOne_28 (by decide) ?_
      obtain rfl := Option.some.inj h
      exact bw_bret (b := false) dX12_readsOne_29 rfl ⟨rfl, rfl⟩
    · replace h := bu_bt h cc
      refine bv_iconst (v := 1) dX12_readsOne_24 (by decide) ?_
      refine bv_goto (tgt := 29) dX12_readsOne_25 (by decide) ?_
      obtain rfl := Option.some.inj h
      exact bw_bret (b := true) dX12_readsOne_29 rfl ⟨rfl, rfl⟩
def f_X12_readersOf_l4 (M : bm_M) (x0 : Nat) (x1 : Int32) : Nat → Int32 → Int32 → Option (Int32)
  | 0, _, _ => none
  | k + 1, x2, x3 => (if bm_io x0 11 then ((M.2.2 x0 6).bind fun a2 => (if bm_ia a2 0 0 = true then (if (M.1 a2 (0 : Int32).toNatClampNeg) ≤ x3 then some x2 else ((f_X12_readsOne M x0 x3 x1).bind fun v5 => (if v5 = true then f_X12_readersOf_l4 M x0 x1 k (x2 ||| (bm_ishl 1 x3)) (x3 + 1) else f_X12_readersOf_l4 M x0 x1 k (x2 ||| 0) (x3 + 1)))) else none)) else none)
set_option maxHeartbeats 4000000 in
set_option maxRecDepth 100000 in
theorem v_X12_readersOf_l4 {L : bm_L} {d n : Nat} {Q : Option Value → bm_M → Prop} {M : bm_M} {x0 : Nat} {x1 : Int32} (hN : 181 ≤ n) : ∀ (k : Nat) (x2 : Int32) (x3 : Int32) (r : Int32), f_X12_readersOf_l4 M x0 x1 k x2 x3 = some r → (∀ yy, yy = r → bm_V L m_X12_readersOf (d + 5) n n n 39 [(2, .int yy)] [] M Q) → bm_V L m_X12_readersOf (d + 5) n n n 4 [(0, .ref x0), (1, .int x1), (2, .int x2), (3, .int x3)] [] M Q := by
  intro k
  induction k with
  | zero => intro x2 x3 r h; cases (show (none : Option (Int32)) = some r from h)
  | succ k ih =>
    intro x2 x3 r h K0
    unfold f_X12_readersOf_l4 at h
    refine bv_iload_n dX12_readersOf_4 3 rfl ?_
    refine bv_aload_n dX12_readersOf_5 0 rfl ?_
    obtain ⟨q1, h⟩ := bu_io h
    obtain ⟨a2, e3, h⟩ := bu_bd h
    refine bw_getA (a := a2) hN q1 e3 dX12_readersOf_6 fl_12_33 rfl ?_
    refine bv_iconst (v := 0) dX12_readersOf_9 (by decide) ?_
    obtain ⟨r4, h⟩ := bu_ia h
    refine bw_iald hN r4 dX12_readersOf_10 ?_
    refine bv_icmp_ge (tgt := 39) dX12_readersOf_11 (by decide) (fun cc => ?_) (fun cc => ?_)
    · replace h := bu_t h cc
      refine bw_ls (ls1 := [(2, .int x2)]) [2] rfl ?_
      obtain rfl := Option.some.inj h
      exact K0 _ rfl
    · replace h := bu_f h cc
      refine bv_iload_n dX12_readersOf_14 2 rfl ?_
      refine bv_aload_n dX12_readersOf_15 0 rfl ?_
      refine bv_iload_n dX12_readersOf_16 3 rfl ?_
      refine bv_iload_n dX12_readersOf_17 1 rfl ?_
      obtain ⟨v5, p6, h⟩ := bu_bd h
      refine bw_callV (As := [.int x3, .int x1]) hN q1 ⟨_, _, rfl⟩ dX12_readersOf_18 mc_12_300 (c_X12_readsOne (d := d + 0) hN p6) rfl rfl (Nat.le_of_ble_eq_true rfl) ?_
      refine bw_ifB_eq (b := v5) (tgt := 30) dX12_readersOf_21 (by decide) (fun cc => ?_) (fun cc => ?_)
      · replace h := bu_bf h cc
        refine bv_iconst (v := 0) dX12_readersOf_30 (by decide) ?_
        refine bv_ior dX12_readersOf_31 ?_
        refine bv_istore_n (ls1 := [(0, .ref x0), (1, .int x1), (2, .int (x2 ||| 0)), (3, .int x3)]) dX12_readersOf_32 (by decide) rfl rfl ?_
        refine bv_iinc (j := 3) (v := (x3 + 1)) (ls1 := [(0, .ref x0), (1, .int x1), (2, .int (x2 ||| 0)), (3, .int (x3 + 1))]) dX12_readersOf_33 rfl rfl (by decide) rfl rfl ?_
        refine bv_goto (tgt := 4) dX12_readersOf_36 (by decide) ?_
        exact ih _ _ _ h K0
      · replace h := bu_bt h cc
        refine bv_iconst (v := 1) dX12_readersOf_24 (by decide) ?_
        refine bv_iload_n dX12_readersOf_25 3 rfl ?_
        refine bv_ishl dX12_readersOf_26 ?_
        refine bv_goto (tgt := 31) dX12_readersOf_27 (by decide) ?_
        refine bv_ior dX12_readersOf_31 ?_
        refine bv_istore_n (ls1 := [(0, .ref x0), (1, .int x1), (2, .int (x2 ||| (bm_ishl 1 x3))), (3, .int x3)]) dX12_readersOf_32 (by decide) rfl rfl ?_
        refine bv_iinc (j := 3) (v := (x3 + 1)) (ls1 := [(0, .ref x0), (1, .int x1), (2, .int (x2 ||| (bm_ishl 1 x3))), (3, .int (x3 + 1))]) dX12_readersOf_33 rfl rfl (by decide) rfl rfl ?_
        refine bv_goto (tgt := 4) dX12_readersOf_36 (by decide) ?_
        exact ih _ _ _ h K0
def f_X12_readersOf (M : bm_M) (x0 : Nat) (x1 : Int32) : Option (Int32) := ((f_X12_readersOf_l4 M x0 x1 1000 0 0).bind fun y3 => some y3)
set_option maxHeartbeats 4000000 in
set_option maxRecDepth 100000 in
theorem c_X12_readersOf {L : bm_L} {d n : Nat} {M : bm_M} {x0 : Nat} {x1 : Int32} {v : Int32} (hN : 181 ≤ n) (h : f_X12_readersOf M x0 x1 = some v) : bm_C L m_X12_readersOf (d + 5) n n [.ref x0, .int x1] M (fun r M' => r = some (.int v) ∧ M' = M) := by
  refine bm_C.ofV (by decide) (Nat.le_of_ble_eq_true rfl) ?_
  show bm_V L m_X12_readersOf (d + 5) n n n 0 [(0, .ref x0), (1, .int x1)] [] M _
  unfold f_X12_readersOf at h
  refine bv_iconst (v := 0) dX12_readersOf_0 (by decide) ?_
  refine bv_istore_n (ls1 := [(0, .ref x0), (1, .int x1), (2, .int 0)]) dX12_readersOf_1 (by decide) rfl rfl ?_
  refine bv_iconst (v := 0) dX12_readersOf_2 (by decide) ?_
  refine bv_istore_n (ls1 := [(0, .ref x0), (1, .int x1), (2, .int 0), (3, .int 0)]) dX12_readersOf_3 (by decide) rfl rfl ?_
  obtain ⟨r1, p2, h⟩ := bu_bd h
  refine v_X12_readersOf_l4 hN 1000 _ _ _ p2 (fun y3 hy => ?_)
  · subst hy
    refine bv_iload_n dX12_readersOf_39 0 rfl ?_
    obtain rfl := Option.some.inj h
    exact bv_iret (x := y3) dX12_readersOf_40 rfl ⟨rfl, rfl⟩
def f_X12_seenBy_l4 (M : bm_M) (x0 : Nat) (x1 : Int32) : Nat → Int32 → Int32 → Option (Int32)
  | 0, _, _ => none
  | k + 1, x2, x3 => (if bm_io x0 11 then ((M.2.2 x0 6).bind fun a2 => (if bm_ia a2 0 0 = true then (if (M.1 a2 (0 : Int32).toNatClampNeg) ≤ x3 then some x2 else ((f_X12_seesOne M x0 x1 x3).bind fun v5 => (if v5 = true then f_X12_seenBy_l4 M x0 x1 k (x2 ||| (bm_ishl 1 x3)) (x3 + 1) else f_X12_seenBy_l4 M x0 x1 k (x2 ||| 0) (x3 + 1)))) else none)) else none)
set_option maxHeartbeats 4000000 in
set_option maxRecDepth 100000 in
theorem v_X12_seenBy_l4 {L : bm_L} {d n : Nat} {Q : Option Value → bm_M → Prop} {M : bm_M} {x0 : Nat} {x1 : Int32} (hN : 181 ≤ n) : ∀ (k : Nat) (x2 : Int32) (x3 : Int32) (r : Int32), f_X12_seenBy_l4 M x0 x1 k x2 x3 = some r → (∀ yy, yy = r → bm_V L m_X12_seenBy (d + 4) n n n 39 [(2, .int yy)] [] M Q) → bm_V L m_X12_seenBy (d + 4) n n n 4 [(0, .ref x0), (1, .int x1), (2, .int x2), (3, .int x3)] [] M Q := by
  intro k
  induction k with
  | zero => intro x2 x3 r h; cases (show (none : Option (Int32)) = some r from h)
  | succ k ih =>
    intro x2 x3 r h K0
    unfold f_X12_seenBy_l4 at h
    refine bv_iload_n dX12_seenBy_4 3 rfl ?_
    refine bv_aload_n dX12_seenBy_5 0 rfl ?_
    obtain ⟨q1, h⟩ := bu_io h
    obtain ⟨a2, e3, h⟩ := bu_bd h
    refine bw_getA (a := a2) hN q1 e3 dX12_seenBy_6 fl_12_33 rfl ?_
    refine bv_iconst (v := 0) dX12_seenBy_9 (by decide) ?_
    obtain ⟨r4, h⟩ := bu_ia h
    refine bw_iald hN r4 dX12_seenBy_10 ?_
    refine bv_icmp_ge (tgt := 39) dX12_seenBy_11 (by decide) (fun cc => ?_) (fun cc => ?_)
    · replace h := bu_t h cc
      refine bw_ls (ls1 := [(2, .int x2)]) [2] rfl ?_
      obtain rfl := Option.some.inj h
      exact K0 _ rfl
    · replace h := bu_f h cc
      refine bv_iload_n dX12_seenBy_14 2 rfl ?_
      refine bv_aload_n dX12_seenBy_15 0 rfl ?_
      refine bv_iload_n dX12_seenBy_16 1 rfl ?_
      refine bv_iload_n dX12_seenBy_17 3 rfl ?_
      obtain ⟨v5, p6, h⟩ := bu_bd h
      refine bw_callV (As := [.int x1, .int x3]) hN q1 ⟨_, _, rfl⟩ dX12_seenBy_18 mc_12_297 (c_X12_seesOne (d := d + 0) hN p6) rfl rfl (Nat.le_of_ble_eq_true rfl) ?_
      refine bw_ifB_eq (b := v5) (tgt := 30) dX12_seenBy_21 (by decide) (fun cc => ?_) (fun cc => ?_)
      · replace h := bu_bf h cc
        refine bv_iconst (v := 0) dX12_seenBy_30 (by decide) ?_
        refine bv_ior dX12_seenBy_31 ?_
        refine bv_istore_n (ls1 := [(0, .ref x0), (1, .int x1), (2, .int (x2 ||| 0)), (3, .int x3)]) dX12_seenBy_32 (by decide) rfl rfl ?_
        refine bv_iinc (j := 3) (v := (x3 + 1)) (ls1 := [(0, .ref x0), (1, .int x1), (2, .int (x2 ||| 0)), (3, .int (x3 + 1))]) dX12_seenBy_33 rfl rfl (by decide) rfl rfl ?_
        refine bv_goto (tgt := 4) dX12_seenBy_36 (by decide) ?_
        exact ih _ _ _ h K0
      · replace h := bu_bt h cc
        refine bv_iconst (v := 1) dX12_seenBy_24 (by decide) ?_
        refine bv_iload_n dX12_seenBy_25 3 rfl ?_
        refine bv_ishl dX12_seenBy_26 ?_
        refine bv_goto (tgt := 31) dX12_seenBy_27 (by decide) ?_
        refine bv_ior dX12_seenBy_31 ?_
        refine bv_istore_n (ls1 := [(0, .ref x0), (1, .int x1), (2, .int (x2 ||| (bm_ishl 1 x3))), (3, .int x3)]) dX12_seenBy_32 (by decide) rfl rfl ?_
        refine bv_iinc (j := 3) (v := (x3 + 1)) (ls1 := [(0, .ref x0), (1, .int x1), (2, .int (x2 ||| (bm_ishl 1 x3))), (3, .int (x3 + 1))]) dX12_seenBy_33 rfl rfl (by decide) rfl rfl ?_
        refine bv_goto (tgt := 4) dX12_seenBy_36 (by decide) ?_
        exact ih _ _ _ h K0
def f_X12_seenBy (M : bm_M) (x0 : Nat) (x1 : Int32) : Option (Int32) := ((f_X12_seenBy_l4 M x0 x1 1000 0 0).bind fun y3 => some y3)
set_option maxHeartbeats 4000000 in
set_option maxRecDepth 100000 in
theorem c_X12_seenBy {L : bm_L} {d n : Nat} {M : bm_M} {x0 : Nat} {x1 : Int32} {v : Int32} (hN : 181 ≤ n) (h : f_X12_seenBy M x0 x1 = some v) : bm_C L m_X12_seenBy (d + 4) n n [.ref x0, .int x1] M (fun r M' => r = some (.int v) ∧ M' = M) := by
  refine bm_C.ofV (by decide) (Nat.le_of_ble_eq_true rfl) ?_
  show bm_V L m_X12_seenBy (d + 4) n n n 0 [(0, .ref x0), (1, .int x1)] [] M _
  unfold f_X12_seenBy at h
  refine bv_iconst (v := 0) dX12_seenBy_0 (by decide) ?_
  refine bv_istore_n (ls1 := [(0, .ref x0), (1, .int x1), (2, .int 0)]) dX12_seenBy_1 (by decide) rfl rfl ?_
  refine bv_iconst (v := 0) dX12_seenBy_2 (by decide) ?_
  refine bv_istore_n (ls1 := [(0, .ref x0), (1, .int x1), (2, .int 0), (3, .int 0)]) dX12_seenBy_3 (by decide) rfl rfl ?_
  obtain ⟨r1, p2, h⟩ := bu_bd h
  refine v_X12_seenBy_l4 hN 1000 _ _ _ p2 (fun y3 hy => ?_)
  · subst hy
    refine bv_iload_n dX12_seenBy_39 0 rfl ?_
    obtain rfl := Option.some.inj h
    exact bv_iret (x := y3) dX12_seenBy_40 rfl ⟨rfl, rfl⟩
def f_X12_foesOf_l6 (M : bm_M) (x0 : Nat) (x1 : Int32) (x2 : Int32) (x3 : Int32) : Nat → Int32 → Int32 → Option (Int32)
  | 0, _, _ => none
  | k + 1, x4, x5 => (if bm_io x0 11 then ((M.2.2 x0 6).bind fun a2 => (if bm_ia a2 0 2 = true then (if (M.1 a2 (2 : Int32).toNatClampNeg) ≤ x5 then some x4 else ((f_X12_browOf M x0 x1).bind fun v5 => (if bm_ia a2 0 (53 + x5) = true then (if bm_ia a2 0 (57 + x5) = true then ((f_X12_isShown M x0 v5 x2 x3 (M.1 a2 (53 + x5).toNatClampNeg) (M.1 a2 (57 + x5).toNatClampNeg)).bind fun v9 => (if v9 = true then f_X12_foesOf_l6 M x0 x1 x2 x3 k (x4 ||| (bm_ishl 1 x5)) (x5 + 1) else f_X12_foesOf_l6 M x0 x1 x2 x3 k (x4 ||| 0) (x5 + 1))) else none) else none))) else none)) else none)
set_option maxHeartbeats 4000000 in
set_option maxRecDepth 100000 in
theorem v_X12_foesOf_l6 {L : bm_L} {d n : Nat} {Q : Option Value → bm_M → Prop} {M : bm_M} {x0 : Nat} {x1 : Int32} {x2 : Int32} {x3 : Int32} (hN : 181 ≤ n) : ∀ (k : Nat) (x4 : Int32) (x5 : Int32) (r : Int32), f_X12_foesOf_l6 M x0 x1 x2 x3 k x4 x5 = some r → (∀ yy, yy = r → bm_V L m_X12_foesOf (d + 3) n n n 70 [(4, .int yy)] [] M Q) → bm_V L m_X12_foesOf (d + 3) n n n 6 [(0, .ref x0), (1, .int x1), (2, .int x2), (3, .int x3), (4, .int x4), (5, .int x5)] [] M Q := by
  intro k
  induction k with
  | zero => intro x4 x5 r h; cases (show (none : Option (Int32)) = some r from h)
  | succ k ih =>
    intro x4 x5 r h K0
    unfold f_X12_foesOf_l6 at h
    refine bv_iload dX12_foesOf_6 5 rfl ?_
    refine bv_aload_n dX12_foesOf_8 0 rfl ?_
    obtain ⟨q1, h⟩ := bu_io h
    obtain ⟨a2, e3, h⟩ := bu_bd h
    refine bw_getA (a := a2) hN q1 e3 dX12_foesOf_9 fl_12_33 rfl ?_
    refine bv_iconst (v := 2) dX12_foesOf_12 (by decide) ?_
    obtain ⟨r4, h⟩ := bu_ia h
    refine bw_iald hN r4 dX12_foesOf_13 ?_
    refine bv_icmp_ge (tgt := 70) dX12_foesOf_14 (by decide) (fun cc => ?_) (fun cc => ?_)
    · replace h := bu_t h cc
      refine bw_ls (ls1 := [(4, .int x4)]) [4] rfl ?_
      obtain rfl := Option.some.inj h
      exact K0 _ rfl
    · replace h := bu_f h cc
      refine bv_iload dX12_foesOf_17 4 rfl ?_
      refine bv_aload_n dX12_foesOf_19 0 rfl ?_
      refine bv_aload_n dX12_foesOf_20 0 rfl ?_
      refine bv_iload_n dX12_foesOf_21 1 rfl ?_
      obtain ⟨v5, p6, h⟩ := bu_bd h
      refine bw_callV (As := [.int x1]) hN q1 ⟨_, _, rfl⟩ dX12_foesOf_22 mc_12_290 (c_X12_browOf (d := d + 1) hN p6) rfl rfl (Nat.le_of_ble_eq_true rfl) ?_
      refine bv_iload_n dX12_foesOf_25 2 rfl ?_
      refine bv_iload_n dX12_foesOf_26 3 rfl ?_
      refine bv_aload_n dX12_foesOf_27 0 rfl ?_
      refine bw_getA (a := a2) hN q1 e3 dX12_foesOf_28 fl_12_33 rfl ?_
      refine bv_bipush (v := 53) dX12_foesOf_31 (by decide) ?_
      refine bv_iload dX12_foesOf_33 5 rfl ?_
      refine bv_iadd dX12_foesOf_35 ?_
      obtain ⟨r7, h⟩ := bu_ia h
      refine bw_iald hN r7 dX12_foesOf_36 ?_
      refine bv_aload_n dX12_foesOf_37 0 rfl ?_
      refine bw_getA (a := a2) hN q1 e3 dX12_foesOf_38 fl_12_33 rfl ?_
      refine bv_bipush (v := 57) dX12_foesOf_41 (by decide) ?_
      refine bv_iload dX12_foesOf_43 5 rfl ?_
      refine bv_iadd dX12_foesOf_45 ?_
      obtain ⟨r8, h⟩ := bu_ia h
      refine bw_iald hN r8 dX12_foesOf_46 ?_
      obtain ⟨v9, p10, h⟩ := bu_bd h
      refine bw_callV (As := [.int v5, .int x2, .int x3, .int (M.1 a2 (53 + x5).toNatClampNeg), .int (M.1 a2 (57 + x5).toNatClampNeg)]) hN q1 ⟨_, _, rfl⟩ dX12_foesOf_47 mc_12_293 (c_X12_isShown (d := d + 0) hN p10) rfl rfl (Nat.le_of_ble_eq_true rfl) ?_
      refine bw_ifB_eq (b := v9) (tgt := 60) dX12_foesOf_50 (by decide) (fun cc => ?_) (fun cc => ?_)
      · replace h := bu_bf h cc
        refine bv_iconst (v := 0) dX12_foesOf_60 (by decide) ?_
        refine bv_ior dX12_foesOf_61 ?_
        refine bv_istore (ls1 := [(0, .ref x0), (1, .int x1), (2, .int x2), (3, .int x3), (4, .int (x4 ||| 0)), (5, .int x5)]) dX12_foesOf_62 (by decide) rfl rfl ?_
        refine bv_iinc (j := 5) (v := (x5 + 1)) (ls1 := [(0, .ref x0), (1, .int x1), (2, .int x2), (3, .int x3), (4, .int (x4 ||| 0)), (5, .int (x5 + 1))]) dX12_foesOf_64 rfl rfl (by decide) rfl rfl ?_
        refine bv_goto (tgt := 6) dX12_foesOf_67 (by decide) ?_
        exact ih _ _ _ h K0
      · replace h := bu_bt h cc
        refine bv_iconst (v := 1) dX12_foesOf_53 (by decide) ?_
        refine bv_iload dX12_foesOf_54 5 rfl ?_
        refine bv_ishl dX12_foesOf_56 ?_
        refine bv_goto (tgt := 61) dX12_foesOf_57 (by decide) ?_
        refine bv_ior dX12_foesOf_61 ?_
        refine bv_istore (ls1 := [(0, .ref x0), (1, .int x1), (2, .int x2), (3, .int x3), (4, .int (x4 ||| (bm_ishl 1 x5))), (5, .int x5)]) dX12_foesOf_62 (by decide) rfl rfl ?_
        refine bv_iinc (j := 5) (v := (x5 + 1)) (ls1 := [(0, .ref x0), (1, .int x1), (2, .int x2), (3, .int x3), (4, .int (x4 ||| (bm_ishl 1 x5))), (5, .int (x5 + 1))]) dX12_foesOf_64 rfl rfl (by decide) rfl rfl ?_
        refine bv_goto (tgt := 6) dX12_foesOf_67 (by decide) ?_
        exact ih _ _ _ h K0
def f_X12_foesOf (M : bm_M) (x0 : Nat) (x1 : Int32) (x2 : Int32) (x3 : Int32) : Option (Int32) := ((f_X12_foesOf_l6 M x0 x1 x2 x3 1000 0 0).bind fun y3 => some y3)
set_option maxHeartbeats 4000000 in
set_option maxRecDepth 100000 in
theorem c_X12_foesOf {L : bm_L} {d n : Nat} {M : bm_M} {x0 : Nat} {x1 : Int32} {x2 : Int32} {x3 : Int32} {v : Int32} (hN : 181 ≤ n) (h : f_X12_foesOf M x0 x1 x2 x3 = some v) : bm_C L m_X12_foesOf (d + 3) n n [.ref x0, .int x1, .int x2, .int x3] M (fun r M' => r = some (.int v) ∧ M' = M) := by
  refine bm_C.ofV (by decide) (Nat.le_of_ble_eq_true rfl) ?_
  show bm_V L m_X12_foesOf (d + 3) n n n 0 [(0, .ref x0), (1, .int x1), (2, .int x2), (3, .int x3)] [] M _
  unfold f_X12_foesOf at h
  refine bv_iconst (v := 0) dX12_foesOf_0 (by decide) ?_
  refine bv_istore (ls1 := [(0, .ref x0), (1, .int x1), (2, .int x2), (3, .int x3), (4, .int 0)]) dX12_foesOf_1 (by decide) rfl rfl ?_
  refine bv_iconst (v := 0) dX12_foesOf_3 (by decide) ?_
  refine bv_istore (ls1 := [(0, .ref x0), (1, .int x1), (2, .int x2), (3, .int x3), (4, .int 0), (5, .int 0)]) dX12_foesOf_4 (by decide) rfl rfl ?_
  obtain ⟨r1, p2, h⟩ := bu_bd h
  refine v_X12_foesOf_l6 hN 1000 _ _ _ p2 (fun y3 hy => ?_)
  · subst hy
    refine bv_iload dX12_foesOf_70 0 rfl ?_
    obtain rfl := Option.some.inj h
    exact bv_iret (x := y3) dX12_foesOf_72 rfl ⟨rfl, rfl⟩
def f_X12_allUnder_l27 (M : bm_M) (x0 : Nat) (x1 : Int32) (x3 : Int32) : Nat → Int32 → Int32 → Option (Int32)
  | 0, _, _ => none
  | k + 1, x2, x4 => (if x4 < 0 then some x2 else (if x4 = x1 then ((M.2.2 x0 6).bind fun a4 => (if bm_ia a4 0 (31 + x4) = true then f_X12_allUnder_l27 M x0 x1 x3 k (x2 ||| (bm_ishl 1 x3)) ((M.1 a4 (31 + x4).toNatClampNeg) - 1) else none)) else ((M.2.2 x0 6).bind fun a1 => (if bm_ia a1 0 (31 + x4) = true then f_X12_allUnder_l27 M x0 x1 x3 k (x2 ||| 0) ((M.1 a1 (31 + x4).toNatClampNeg) - 1) else none))))
set_option maxHeartbeats 4000000 in
set_option maxRecDepth 100000 in
theorem v_X12_allUnder_l27 {L : bm_L} {d n : Nat} {Q : Option Value → bm_M → Prop} {M : bm_M} {x0 : Nat} {x1 : Int32} {x3 : Int32} (hN : 181 ≤ n) (q_0 : bm_OK x0 11) : ∀ (k : Nat) (x2 : Int32) (x4 : Int32) (r : Int32), f_X12_allUnder_l27 M x0 x1 x3 k x2 x4 = some r → (∀ yy, yy = r → bm_V L m_X12_allUnder d n n n 65 [(0, .ref x0), (1, .int x1), (2, .int yy), (3, .int x3)] [] M Q) → bm_V L m_X12_allUnder d n n n 27 [(0, .ref x0), (1, .int x1), (2, .int x2), (3, .int x3), (4, .int x4)] [] M Q := by
  intro k
  induction k with
  | zero => intro x2 x4 r h; cases (show (none : Option (Int32)) = some r from h)
  | succ k ih =>
    intro x2 x4 r h K0
    unfold f_X12_allUnder_l27 at h
    refine bv_iload dX12_allUnder_27 4 rfl ?_
    refine bv_if_lt (tgt := 65) dX12_allUnder_29 (by decide) (fun cc => ?_) (fun cc => ?_)
    · replace h := bu_t h cc
      refine bw_ls (ls1 := [(0, .ref x0), (1, .int x1), (2, .int x2), (3, .int x3)]) [0, 1, 2, 3] rfl ?_
      obtain rfl := Option.some.inj h
      exact K0 _ rfl
    · replace h := bu_f h cc
      refine bv_iload_n dX12_allUnder_32 2 rfl ?_
      refine bv_iload dX12_allUnder_33 4 rfl ?_
      refine bv_iload_n dX12_allUnder_35 1 rfl ?_
      refine bv_icmp_ne (tgt := 45) dX12_allUnder_36 (by decide) (fun cc => ?_) (fun cc => ?_)
      · replace h := bu_f h cc
        refine bv_iconst (v := 0) dX12_allUnder_45 (by decide) ?_
        refine bv_ior dX12_allUnder_46 ?_
        refine bv_istore_n (ls1 := [(0, .ref x0), (1, .int x1), (2, .int (x2 ||| 0)), (3, .int x3), (4, .int x4)]) dX12_allUnder_47 (by decide) rfl rfl ?_
        refine bv_aload_n dX12_allUnder_48 0 rfl ?_
        obtain ⟨a1, e2, h⟩ := bu_bd h
        refine bw_getA (a := a1) hN q_0 e2 dX12_allUnder_49 fl_12_33 rfl ?_
        refine bv_bipush (v := 31) dX12_allUnder_52 (by decide) ?_
        refine bv_iload dX12_allUnder_54 4 rfl ?_
        refine bv_iadd dX12_allUnder_56 ?_
        obtain ⟨r3, h⟩ := bu_ia h
        refine bw_iald hN r3 dX12_allUnder_57 ?_
        refine bv_iconst (v := 1) dX12_allUnder_58 (by decide) ?_
        refine bv_isub dX12_allUnder_59 ?_
        refine bv_istore (ls1 := [(0, .ref x0), (1, .int x1), (2, .int (x2 ||| 0)), (3, .int x3), (4, .int ((M.1 a1 (31 + x4).toNatClampNeg) - 1))]) dX12_allUnder_60 (by decide) rfl rfl ?_
        refine bv_goto (tgt := 27) dX12_allUnder_62 (by decide) ?_
        exact ih _ _ _ h K0
      · replace h := bu_t h cc
        refine bv_iconst (v := 1) dX12_allUnder_39 (by decide) ?_
        refine bv_iload_n dX12_allUnder_40 3 rfl ?_
        refine bv_ishl dX12_allUnder_41 ?_
        refine bv_goto (tgt := 46) dX12_allUnder_42 (by decide) ?_
        refine bv_ior dX12_allUnder_46 ?_
        refine bv_istore_n (ls1 := [(0, .ref x0), (1, .int x1), (2, .int (x2 ||| (bm_ishl 1 x3))), (3, .int x3), (4, .int x4)]) dX12_allUnder_47 (by decide) rfl rfl ?_
        refine bv_aload_n dX12_allUnder_48 0 rfl ?_
        obtain ⟨a4, e5, h⟩ := bu_bd h
        refine bw_getA (a := a4) hN q_0 e5 dX12_allUnder_49 fl_12_33 rfl ?_
        refine bv_bipush (v := 31) dX12_allUnder_52 (by decide) ?_
        refine bv_iload dX12_allUnder_54 4 rfl ?_
        refine bv_iadd dX12_allUnder_56 ?_
        obtain ⟨r6, h⟩ := bu_ia h
        refine bw_iald hN r6 dX12_allUnder_57 ?_
        refine bv_iconst (v := 1) dX12_allUnder_58 (by decide) ?_
        refine bv_isub dX12_allUnder_59 ?_
        refine bv_istore (ls1 := [(0, .ref x0), (1, .int x1), (2, .int (x2 ||| (bm_ishl 1 x3))), (3, .int x3), (4, .int ((M.1 a4 (31 + x4).toNatClampNeg) - 1))]) dX12_allUnder_60 (by decide) rfl rfl ?_
        refine bv_goto (tgt := 27) dX12_allUnder_62 (by decide) ?_
        exact ih _ _ _ h K0
def f_X12_allUnder_l4 (M : bm_M) (x0 : Nat) (x1 : Int32) : Nat → Int32 → Int32 → Option (Int32)
  | 0, _, _ => none
  | k + 1, x2, x3 => (if bm_io x0 11 then ((M.2.2 x0 6).bind fun a2 => (if bm_ia a2 0 0 = true then (if (M.1 a2 (0 : Int32).toNatClampNeg) ≤ x3 then some x2 else (if bm_ia a2 0 (31 + x3) = true then ((f_X12_allUnder_l27 M x0 x1 x3 1000 x2 ((M.1 a2 (31 + x3).toNatClampNeg) - 1)).bind fun y8 => f_X12_allUnder_l4 M x0 x1 k y8 (x3 + 1)) else none)) else none)) else none)
set_option maxHeartbeats 4000000 in
set_option maxRecDepth 100000 in
theorem v_X12_allUnder_l4 {L : bm_L} {d n : Nat} {Q : Option Value → bm_M → Prop} {M : bm_M} {x0 : Nat} {x1 : Int32} (hN : 181 ≤ n) : ∀ (k : Nat) (x2 : Int32) (x3 : Int32) (r : Int32), f_X12_allUnder_l4 M x0 x1 k x2 x3 = some r → (∀ yy, yy = r → bm_V L m_X12_allUnder d n n n 71 [(2, .int yy)] [] M Q) → bm_V L m_X12_allUnder d n n n 4 [(0, .ref x0), (1, .int x1), (2, .int x2), (3, .int x3)] [] M Q := by
  intro k
  induction k with
  | zero => intro x2 x3 r h; cases (show (none : Option (Int32)) = some r from h)
  | succ k ih =>
    intro x2 x3 r h K0
    unfold f_X12_allUnder_l4 at h
    refine bv_iload_n dX12_allUnder_4 3 rfl ?_
    refine bv_aload_n dX12_allUnder_5 0 rfl ?_
    obtain ⟨q1, h⟩ := bu_io h
    obtain ⟨a2, e3, h⟩ := bu_bd h
    refine bw_getA (a := a2) hN q1 e3 dX12_allUnder_6 fl_12_33 rfl ?_
    refine bv_iconst (v := 0) dX12_allUnder_9 (by decide) ?_
    obtain ⟨r4, h⟩ := bu_ia h
    refine bw_iald hN r4 dX12_allUnder_10 ?_
    refine bv_icmp_ge (tgt := 71) dX12_allUnder_11 (by decide) (fun cc => ?_) (fun cc => ?_)
    · replace h := bu_t h cc
      refine bw_ls (ls1 := [(2, .int x2)]) [2] rfl ?_
      obtain rfl := Option.some.inj h
      exact K0 _ rfl
    · replace h := bu_f h cc
      refine bv_aload_n dX12_allUnder_14 0 rfl ?_
      refine bw_getA (a := a2) hN q1 e3 dX12_allUnder_15 fl_12_33 rfl ?_
      refine bv_bipush (v := 31) dX12_allUnder_18 (by decide) ?_
      refine bv_iload_n dX12_allUnder_20 3 rfl ?_
      refine bv_iadd dX12_allUnder_21 ?_
      obtain ⟨r5, h⟩ := bu_ia h
      refine bw_iald hN r5 dX12_allUnder_22 ?_
      refine bv_iconst (v := 1) dX12_allUnder_23 (by decide) ?_
      refine bv_isub dX12_allUnder_24 ?_
      refine bv_istore (ls1 := [(0, .ref x0), (1, .int x1), (2, .int x2), (3, .int x3), (4, .int ((M.1 a2 (31 + x3).toNatClampNeg) - 1))]) dX12_allUnder_25 (by decide) rfl rfl ?_
      obtain ⟨r6, p7, h⟩ := bu_bd h
      refine v_X12_allUnder_l27 hN q1 1000 _ _ _ p7 (fun y8 hy => ?_)
      · subst hy
        refine bv_iinc (j := 3) (v := (x3 + 1)) (ls1 := [(0, .ref x0), (1, .int x1), (2, .int y8), (3, .int (x3 + 1))]) dX12_allUnder_65 rfl rfl (by decide) rfl rfl ?_
        refine bv_goto (tgt := 4) dX12_allUnder_68 (by decide) ?_
        exact ih _ _ _ h K0
def f_X12_allUnder (M : bm_M) (x0 : Nat) (x1 : Int32) : Option (Int32) := ((f_X12_allUnder_l4 M x0 x1 1000 0 0).bind fun y3 => some y3)
set_option maxHeartbeats 4000000 in
set_option maxRecDepth 100000 in
theorem c_X12_allUnder {L : bm_L} {d n : Nat} {M : bm_M} {x0 : Nat} {x1 : Int32} {v : Int32} (hN : 181 ≤ n) (h : f_X12_allUnder M x0 x1 = some v) : bm_C L m_X12_allUnder d n n [.ref x0, .int x1] M (fun r M' => r = some (.int v) ∧ M' = M) := by
  refine bm_C.ofV (by decide) (Nat.le_of_ble_eq_true rfl) ?_
  show bm_V L m_X12_allUnder d n n n 0 [(0, .ref x0), (1, .int x1)] [] M _
  unfold f_X12_allUnder at h
  refine bv_iconst (v := 0) dX12_allUnder_0 (by decide) ?_
  refine bv_istore_n (ls1 := [(0, .ref x0), (1, .int x1), (2, .int 0)]) dX12_allUnder_1 (by decide) rfl rfl ?_
  refine bv_iconst (v := 0) dX12_allUnder_2 (by decide) ?_
  refine bv_istore_n (ls1 := [(0, .ref x0), (1, .int x1), (2, .int 0), (3, .int 0)]) dX12_allUnder_3 (by decide) rfl rfl ?_
  obtain ⟨r1, p2, h⟩ := bu_bd h
  refine v_X12_allUnder_l4 hN 1000 _ _ _ p2 (fun y3 hy => ?_)
  · subst hy
    refine bv_iload_n dX12_allUnder_71 0 rfl ?_
    obtain rfl := Option.some.inj h
    exact bv_iret (x := y3) dX12_allUnder_72 rfl ⟨rfl, rfl⟩
def f_X12_havers_l4 (M : bm_M) (x0 : Nat) (x1 : Int32) : Nat → Int32 → Int32 → Option (Int32)
  | 0, _, _ => none
  | k + 1, x2, x3 => (if bm_io x0 11 then ((M.2.2 x0 6).bind fun a2 => (if bm_ia a2 0 0 = true then (if (M.1 a2 (0 : Int32).toNatClampNeg) ≤ x3 then some x2 else (if bm_ia a2 0 (90 + x3) = true then (if (M.1 a2 (90 + x3).toNatClampNeg) = (x1 + 1) then f_X12_havers_l4 M x0 x1 k (x2 ||| (bm_ishl 1 x3)) (x3 + 1) else f_X12_havers_l4 M x0 x1 k (x2 ||| 0) (x3 + 1)) else none)) else none)) else none)
set_option maxHeartbeats 4000000 in
set_option maxRecDepth 100000 in
theorem v_X12_havers_l4 {L : bm_L} {d n : Nat} {Q : Option Value → bm_M → Prop} {M : bm_M} {x0 : Nat} {x1 : Int32} (hN : 181 ≤ n) : ∀ (k : Nat) (x2 : Int32) (x3 : Int32) (r : Int32), f_X12_havers_l4 M x0 x1 k x2 x3 = some r → (∀ yy, yy = r → bm_V L m_X12_havers d n n n 45 [(2, .int yy)] [] M Q) → bm_V L m_X12_havers d n n n 4 [(0, .ref x0), (1, .int x1), (2, .int x2), (3, .int x3)] [] M Q := by
  intro k
  induction k with
  | zero => intro x2 x3 r h; cases (show (none : Option (Int32)) = some r from h)
  | succ k ih =>
    intro x2 x3 r h K0
    unfold f_X12_havers_l4 at h
    refine bv_iload_n dX12_havers_4 3 rfl ?_
    refine bv_aload_n dX12_havers_5 0 rfl ?_
    obtain ⟨q1, h⟩ := bu_io h
    obtain ⟨a2, e3, h⟩ := bu_bd h
    refine bw_getA (a := a2) hN q1 e3 dX12_havers_6 fl_12_33 rfl ?_
    refine bv_iconst (v := 0) dX12_havers_9 (by decide) ?_
    obtain ⟨r4, h⟩ := bu_ia h
    refine bw_iald hN r4 dX12_havers_10 ?_
    refine bv_icmp_ge (tgt := 45) dX12_havers_11 (by decide) (fun cc => ?_) (fun cc => ?_)
    · replace h := bu_t h cc
      refine bw_ls (ls1 := [(2, .int x2)]) [2] rfl ?_
      obtain rfl := Option.some.inj h
      exact K0 _ rfl
    · replace h := bu_f h cc
      refine bv_iload_n dX12_havers_14 2 rfl ?_
      refine bv_aload_n dX12_havers_15 0 rfl ?_
      refine bw_getA (a := a2) hN q1 e3 dX12_havers_16 fl_12_33 rfl ?_
      refine bv_bipush (v := 90) dX12_havers_19 (by decide) ?_
      refine bv_iload_n dX12_havers_21 3 rfl ?_
      refine bv_iadd dX12_havers_22 ?_
      obtain ⟨r5, h⟩ := bu_ia h
      refine bw_iald hN r5 dX12_havers_23 ?_
      refine bv_iload_n dX12_havers_24 1 rfl ?_
      refine bv_iconst (v := 1) dX12_havers_25 (by decide) ?_
      refine bv_iadd dX12_havers_26 ?_
      refine bv_icmp_ne (tgt := 36) dX12_havers_27 (by decide) (fun cc => ?_) (fun cc => ?_)
      · replace h := bu_f h cc
        refine bv_iconst (v := 0) dX12_havers_36 (by decide) ?_
        refine bv_ior dX12_havers_37 ?_
        refine bv_istore_n (ls1 := [(0, .ref x0), (1, .int x1), (2, .int (x2 ||| 0)), (3, .int x3)]) dX12_havers_38 (by decide) rfl rfl ?_
        refine bv_iinc (j := 3) (v := (x3 + 1)) (ls1 := [(0, .ref x0), (1, .int x1), (2, .int (x2 ||| 0)), (3, .int (x3 + 1))]) dX12_havers_39 rfl rfl (by decide) rfl rfl ?_
        refine bv_goto (tgt := 4) dX12_havers_42 (by decide) ?_
        exact ih _ _ _ h K0
      · replace h := bu_t h cc
        refine bv_iconst (v := 1) dX12_havers_30 (by decide) ?_
        refine bv_iload_n dX12_havers_31 3 rfl ?_
        refine bv_ishl dX12_havers_32 ?_
        refine bv_goto (tgt := 37) dX12_havers_33 (by decide) ?_
        refine bv_ior dX12_havers_37 ?_
        refine bv_istore_n (ls1 := [(0, .ref x0), (1, .int x1), (2, .int (x2 ||| (bm_ishl 1 x3))), (3, .int x3)]) dX12_havers_38 (by decide) rfl rfl ?_
        refine bv_iinc (j := 3) (v := (x3 + 1)) (ls1 := [(0, .ref x0), (1, .int x1), (2, .int (x2 ||| (bm_ishl 1 x3))), (3, .int (x3 + 1))]) dX12_havers_39 rfl rfl (by decide) rfl rfl ?_
        refine bv_goto (tgt := 4) dX12_havers_42 (by decide) ?_
        exact ih _ _ _ h K0
def f_X12_havers (M : bm_M) (x0 : Nat) (x1 : Int32) : Option (Int32) := ((f_X12_havers_l4 M x0 x1 1000 0 0).bind fun y3 => some y3)
set_option maxHeartbeats 4000000 in
set_option maxRecDepth 100000 in
theorem c_X12_havers {L : bm_L} {d n : Nat} {M : bm_M} {x0 : Nat} {x1 : Int32} {v : Int32} (hN : 181 ≤ n) (h : f_X12_havers M x0 x1 = some v) : bm_C L m_X12_havers d n n [.ref x0, .int x1] M (fun r M' => r = some (.int v) ∧ M' = M) := by
  refine bm_C.ofV (by decide) (Nat.le_of_ble_eq_true rfl) ?_
  show bm_V L m_X12_havers d n n n 0 [(0, .ref x0), (1, .int x1)] [] M _
  unfold f_X12_havers at h
  refine bv_iconst (v := 0) dX12_havers_0 (by decide) ?_
  refine bv_istore_n (ls1 := [(0, .ref x0), (1, .int x1), (2, .int 0)]) dX12_havers_1 (by decide) rfl rfl ?_
  refine bv_iconst (v := 0) dX12_havers_2 (by decide) ?_
  refine bv_istore_n (ls1 := [(0, .ref x0), (1, .int x1), (2, .int 0), (3, .int 0)]) dX12_havers_3 (by decide) rfl rfl ?_
  obtain ⟨r1, p2, h⟩ := bu_bd h
  refine v_X12_havers_l4 hN 1000 _ _ _ p2 (fun y3 hy => ?_)
  · subst hy
    refine bv_iload_n dX12_havers_45 0 rfl ?_
    obtain rfl := Option.some.inj h
    exact bv_iret (x := y3) dX12_havers_46 rfl ⟨rfl, rfl⟩
def f_X12_orderly_l4 (M : bm_M) (x0 : Nat) : Nat → Int32 → Int32 → Option (Int32)
  | 0, _, _ => none
  | k + 1, x1, x2 => (if bm_io x0 11 then ((M.2.2 x0 6).bind fun a2 => (if bm_ia a2 0 0 = true then (if (M.1 a2 (0 : Int32).toNatClampNeg) ≤ x2 then some x1 else (if bm_ia a2 0 (90 + x2) = true then (if (M.1 a2 (90 + x2).toNatClampNeg) ≤ 0 then f_X12_orderly_l4 M x0 k (x1 ||| 0) (x2 + 1) else f_X12_orderly_l4 M x0 k (x1 ||| (bm_ishl 1 x2)) (x2 + 1)) else none)) else none)) else none)
set_option maxHeartbeats 4000000 in
set_option maxRecDepth 100000 in
theorem v_X12_orderly_l4 {L : bm_L} {d n : Nat} {Q : Option Value → bm_M → Prop} {M : bm_M} {x0 : Nat} (hN : 181 ≤ n) : ∀ (k : Nat) (x1 : Int32) (x2 : Int32) (r : Int32), f_X12_orderly_l4 M x0 k x1 x2 = some r → (∀ yy, yy = r → bm_V L m_X12_orderly d n n n 42 [(1, .int yy)] [] M Q) → bm_V L m_X12_orderly d n n n 4 [(0, .ref x0), (1, .int x1), (2, .int x2)] [] M Q := by
  intro k
  induction k with
  | zero => intro x1 x2 r h; cases (show (none : Option (Int32)) = some r from h)
  | succ k ih =>
    intro x1 x2 r h K0
    unfold f_X12_orderly_l4 at h
    refine bv_iload_n dX12_orderly_4 2 rfl ?_
    refine bv_aload_n dX12_orderly_5 0 rfl ?_
    obtain ⟨q1, h⟩ := bu_io h
    obtain ⟨a2, e3, h⟩ := bu_bd h
    refine bw_getA (a := a2) hN q1 e3 dX12_orderly_6 fl_12_33 rfl ?_
    refine bv_iconst (v := 0) dX12_orderly_9 (by decide) ?_
    obtain ⟨r4, h⟩ := bu_ia h
    refine bw_iald hN r4 dX12_orderly_10 ?_
    refine bv_icmp_ge (tgt := 42) dX12_orderly_11 (by decide) (fun cc => ?_) (fun cc => ?_)
    · replace h := bu_t h cc
      refine bw_ls (ls1 := [(1, .int x1)]) [1] rfl ?_
      obtain rfl := Option.some.inj h
      exact K0 _ rfl
    · replace h := bu_f h cc
      refine bv_iload_n dX12_orderly_14 1 rfl ?_
      refine bv_aload_n dX12_orderly_15 0 rfl ?_
      refine bw_getA (a := a2) hN q1 e3 dX12_orderly_16 fl_12_33 rfl ?_
      refine bv_bipush (v := 90) dX12_orderly_19 (by decide) ?_
      refine bv_iload_n dX12_orderly_21 2 rfl ?_
      refine bv_iadd dX12_orderly_22 ?_
      obtain ⟨r5, h⟩ := bu_ia h
      refine bw_iald hN r5 dX12_orderly_23 ?_
      refine bv_if_le (tgt := 33) dX12_orderly_24 (by decide) (fun cc => ?_) (fun cc => ?_)
      · replace h := bu_t h cc
        refine bv_iconst (v := 0) dX12_orderly_33 (by decide) ?_
        refine bv_ior dX12_orderly_34 ?_
        refine bv_istore_n (ls1 := [(0, .ref x0), (1, .int (x1 ||| 0)), (2, .int x2)]) dX12_orderly_35 (by decide) rfl rfl ?_
        refine bv_iinc (j := 2) (v := (x2 + 1)) (ls1 := [(0, .ref x0), (1, .int (x1 ||| 0)), (2, .int (x2 + 1))]) dX12_orderly_36 rfl rfl (by decide) rfl rfl ?_
        refine bv_goto (tgt := 4) dX12_orderly_39 (by decide) ?_
        exact ih _ _ _ h K0
      · replace h := bu_f h cc
        refine bv_iconst (v := 1) dX12_orderly_27 (by decide) ?_
        refine bv_iload_n dX12_orderly_28 2 rfl ?_
        refine bv_ishl dX12_orderly_29 ?_
        refine bv_goto (tgt := 34) dX12_orderly_30 (by decide) ?_
        refine bv_ior dX12_orderly_34 ?_
        refine bv_istore_n (ls1 := [(0, .ref x0), (1, .int (x1 ||| (bm_ishl 1 x2))), (2, .int x2)]) dX12_orderly_35 (by decide) rfl rfl ?_
        refine bv_iinc (j := 2) (v := (x2 + 1)) (ls1 := [(0, .ref x0), (1, .int (x1 ||| (bm_ishl 1 x2))), (2, .int (x2 + 1))]) dX12_orderly_36 rfl rfl (by decide) rfl rfl ?_
        refine bv_goto (tgt := 4) dX12_orderly_39 (by decide) ?_
        exact ih _ _ _ h K0
def f_X12_orderly (M : bm_M) (x0 : Nat) : Option (Int32) := ((f_X12_orderly_l4 M x0 1000 0 0).bind fun y3 => some y3)
set_option maxHeartbeats 4000000 in
set_option maxRecDepth 100000 in
theorem c_X12_orderly {L : bm_L} {d n : Nat} {M : bm_M} {x0 : Nat} {v : Int32} (hN : 181 ≤ n) (h : f_X12_orderly M x0 = some v) : bm_C L m_X12_orderly d n n [.ref x0] M (fun r M' => r = some (.int v) ∧ M' = M) := by
  refine bm_C.ofV (by decide) (Nat.le_of_ble_eq_true rfl) ?_
  show bm_V L m_X12_orderly d n n n 0 [(0, .ref x0)] [] M _
  unfold f_X12_orderly at h
  refine bv_iconst (v := 0) dX12_orderly_0 (by decide) ?_
  refine bv_istore_n (ls1 := [(0, .ref x0), (1, .int 0)]) dX12_orderly_1 (by decide) rfl rfl ?_
  refine bv_iconst (v := 0) dX12_orderly_2 (by decide) ?_
  refine bv_istore_n (ls1 := [(0, .ref x0), (1, .int 0), (2, .int 0)]) dX12_orderly_3 (by decide) rfl rfl ?_
  obtain ⟨r1, p2, h⟩ := bu_bd h
  refine v_X12_orderly_l4 hN 1000 _ _ _ p2 (fun y3 hy => ?_)
  · subst hy
    refine bv_iload_n dX12_orderly_42 0 rfl ?_
    obtain rfl := Option.some.inj h
    exact bv_iret (x := y3) dX12_orderly_43 rfl ⟨rfl, rfl⟩
def f_X12_man (M : bm_M) (x0 : Nat) (x1 : Int32) (x2 : Int32) : Option (Int32 × bm_M) := (if bm_io x0 11 then ((f_X12_isMan M x0 x1).bind fun v2 => (if v2 = true then (if (f_X12_isIn x2 0 9) = true then ((f_X12_throwsIf M x0 false).bind fun v44 => (if v44.1 = true then some (0, v44.2) else (if x2 = 0 then ((v44.2.2.2 x0 6).bind fun a47 => (if bm_ia a47 0 (66 + x1) = true then some ((v44.2.1 a47 (66 + x1).toNatClampNeg), v44.2) else none)) else (if x2 = 1 then ((v44.2.2.2 x0 6).bind fun a51 => (if bm_ia a51 0 (74 + x1) = true then some ((v44.2.1 a51 (74 + x1).toNatClampNeg), v44.2) else none)) else (if x2 = 2 then ((f_X12_browOf v44.2 x0 x1).bind fun v55 => some (v55, v44.2)) else (if x2 = 3 then ((v44.2.2.2 x0 6).bind fun a58 => (if bm_ia a58 0 63 = true then some (((bm_ishr (v44.2.1 a58 (63 : Int32).toNatClampNeg) x1) &&& 1), v44.2) else none)) else (if x2 = 4 then ((v44.2.2.2 x0 6).bind fun a62 => (if bm_ia a62 0 64 = true then some (((bm_ishr (v44.2.1 a62 (64 : Int32).toNatClampNeg) x1) &&& 1), v44.2) else none)) else (if x2 = 5 then ((v44.2.2.2 x0 6).bind fun a66 => (if bm_ia a66 0 (82 + x1) = true then some ((v44.2.1 a66 (82 + x1).toNatClampNeg), v44.2) else none)) else (if x2 = 6 then ((v44.2.2.2 x0 6).bind fun a70 => (if bm_ia a70 0 (90 + x1) = true then some (((v44.2.1 a70 (90 + x1).toNatClampNeg) - 1), v44.2) else none)) else (if x2 = 7 then ((v44.2.2.2 x0 6).bind fun a74 => (if bm_ia a74 0 65 = true then some (((bm_ishr (v44.2.1 a74 (65 : Int32).toNatClampNeg) x1) &&& 1), v44.2) else none)) else (if x2 = 8 then ((v44.2.2.2 x0 6).bind fun a78 => (if bm_ia a78 0 (98 + x1) = true then some ((v44.2.1 a78 (98 + x1).toNatClampNeg), v44.2) else none)) else ((v44.2.2.2 x0 6).bind fun a81 => (if bm_ia a81 0 (31 + x1) = true then some (((v44.2.1 a81 (31 + x1).toNatClampNeg) - 1), v44.2) else none))))))))))))) else ((f_X12_throwsIf M x0 true).bind fun v84 => (if v84.1 = true then some (0, v84.2) else (if x2 = 0 then ((v84.2.2.2 x0 6).bind fun a87 => (if bm_ia a87 0 (66 + x1) = true then some ((v84.2.1 a87 (66 + x1).toNatClampNeg), v84.2) else none)) else (if x2 = 1 then ((v84.2.2.2 x0 6).bind fun a91 => (if bm_ia a91 0 (74 + x1) = true then some ((v84.2.1 a91 (74 + x1).toNatClampNeg), v84.2) else none)) else (if x2 = 2 then ((f_X12_browOf v84.2 x0 x1).bind fun v95 => some (v95, v84.2)) else (if x2 = 3 then ((v84.2.2.2 x0 6).bind fun a98 => (if bm_ia a98 0 63 = true then some (((bm_ishr (v84.2.1 a98 (63 : Int32).toNatClampNeg) x1) &&& 1), v84.2) else none)) else (if x2 = 4 then ((v84.2.2.2 x0 6).bind fun a102 => (if bm_ia a102 0 64 = true then some (((bm_ishr (v84.2.1 a102 (64 : Int32).toNatClampNeg) x1) &&& 1), v84.2) else none)) else (if x2 = 5 then ((v84.2.2.2 x0 6).bind fun a106 => (if bm_ia a106 0 (82 + x1) = true then some ((v84.2.1 a106 (82 + x1).toNatClampNeg), v84.2) else none)) else (if x2 = 6 then ((v84.2.2.2 x0 6).bind fun a110 => (if bm_ia a110 0 (90 + x1) = true then some (((v84.2.1 a110 (90 + x1).toNatClampNeg) - 1), v84.2) else none)) else (if x2 = 7 then ((v84.2.2.2 x0 6).bind fun a114 => (if bm_ia a114 0 65 = true then some (((bm_ishr (v84.2.1 a114 (65 : Int32).toNatClampNeg) x1) &&& 1), v84.2) else none)) else (if x2 = 8 then ((v84.2.2.2 x0 6).bind fun a118 => (if bm_ia a118 0 (98 + x1) = true then some ((v84.2.1 a118 (98 + x1).toNatClampNeg), v84.2) else none)) else ((v84.2.2.2 x0 6).bind fun a121 => (if bm_ia a121 0 (31 + x1) = true then some (((v84.2.1 a121 (31 + x1).toNatClampNeg) - 1), v84.2) else none)))))))))))))) else ((f_X12_throwsIf M x0 true).bind fun v4 => (if v4.1 = true then some (0, v4.2) else (if x2 = 0 then ((v4.2.2.2 x0 6).bind fun a7 => (if bm_ia a7 0 (66 + x1) = true then some ((v4.2.1 a7 (66 + x1).toNatClampNeg), v4.2) else none)) else (if x2 = 1 then ((v4.2.2.2 x0 6).bind fun a11 => (if bm_ia a11 0 (74 + x1) = true then some ((v4.2.1 a11 (74 + x1).toNatClampNeg), v4.2) else none)) else (if x2 = 2 then ((f_X12_browOf v4.2 x0 x1).bind fun v15 => some (v15, v4.2)) else (if x2 = 3 then ((v4.2.2.2 x0 6).bind fun a18 => (if bm_ia a18 0 63 = true then some (((bm_ishr (v4.2.1 a18 (63 : Int32).toNatClampNeg) x1) &&& 1), v4.2) else none)) else (if x2 = 4 then ((v4.2.2.2 x0 6).bind fun a22 => (if bm_ia a22 0 64 = true then some (((bm_ishr (v4.2.1 a22 (64 : Int32).toNatClampNeg) x1) &&& 1), v4.2) else none)) else (if x2 = 5 then ((v4.2.2.2 x0 6).bind fun a26 => (if bm_ia a26 0 (82 + x1) = true then some ((v4.2.1 a26 (82 + x1).toNatClampNeg), v4.2) else none)) else (if x2 = 6 then ((v4.2.2.2 x0 6).bind fun a30 => (if bm_ia a30 0 (90 + x1) = true then some (((v4.2.1 a30 (90 + x1).toNatClampNeg) - 1), v4.2) else none)) else (if x2 = 7 then ((v4.2.2.2 x0 6).bind fun a34 => (if bm_ia a34 0 65 = true then some (((bm_ishr (v4.2.1 a34 (65 : Int32).toNatClampNeg) x1) &&& 1), v4.2) else none)) else (if x2 = 8 then ((v4.2.2.2 x0 6).bind fun a38 => (if bm_ia a38 0 (98 + x1) = true then some ((v4.2.1 a38 (98 + x1).toNatClampNeg), v4.2) else none)) else ((v4.2.2.2 x0 6).bind fun a41 => (if bm_ia a41 0 (31 + x1) = true then some (((v4.2.1 a41 (31 + x1).toNatClampNeg) - 1), v4.2) else none))))))))))))))) else none)
set_option maxHeartbeats 4000000 in
set_option maxRecDepth 100000 in
theorem c_X12_man {L : bm_L} {d n : Nat} {M : bm_M} {x0 : Nat} {x1 : Int32} {x2 : Int32} {v : Int32 × bm_M} (hN : 181 ≤ n) (h : f_X12_man M x0 x1 x2 = some v) : bm_C L m_X12_man (d + 2) n n [.ref x0, .int x1, .int x2] M (fun r M' => r = some (.int v.1) ∧ M' = v.2) := by
  refine bm_C.ofV (by decide) (Nat.le_of_ble_eq_true rfl) ?_
  show bm_V L m_X12_man (d + 2) n n n 0 [(0, .ref x0), (1, .int x1), (2, .int x2)] [] M _
  unfold f_X12_man at h
  refine bv_aload_n dX12_man_0 0 rfl ?_
  refine bv_aload_n dX12_man_1 0 rfl ?_
  refine bv_iload_n dX12_man_2 1 rfl ?_
  obtain ⟨q1, h⟩ := bu_io h
  obtain ⟨v2, p3, h⟩ := bu_bd h
  refine bw_callV (As := [.int x1]) hN q1 ⟨_, _, rfl⟩ dX12_man_3 mc_12_303 (c_X12_isMan (d := d + 0) hN p3) rfl rfl (Nat.le_of_ble_eq_true rfl) ?_
  refine bw_ifB_eq (b := v2) (tgt := 19) dX12_man_6 (by decide) (fun cc => ?_) (fun cc => ?_)
  · replace h := bu_bf h cc
    refine bv_iconst (v := 1) dX12_man_19 (by decide) ?_
    refine bv_goto (tgt := 24) dX12_man_20 (by decide) ?_
    obtain ⟨v4, p5, h⟩ := bu_bd h
    refine bw_callV (As := [.int (bm_bi true)]) hN q1 ⟨_, _, rfl⟩ dX12_man_24 mc_12_306 (c_X12_throwsIf (d := d + 1) hN p5) rfl rfl (by decide) ?_
    refine bw_ifB_eq (b := v4.1) (tgt := 32) dX12_man_27 (by decide) (fun cc => ?_) (fun cc => ?_)
    · replace h := bu_bf h cc
      refine bv_iload_n dX12_man_32 2 rfl ?_
      by_cases c6 : x2 = 0
      · replace h := bu_t h c6
        refine bv_tableIn (tgt := 84) dX12_man_33 (by rw [c6]; decide) (by rw [c6]; decide) (by rw [c6]; rfl) (by decide) ?_
        refine bv_aload_n dX12_man_84 0 rfl ?_
        obtain ⟨a7, e8, h⟩ := bu_bd h
        refine bw_getA (a := a7) hN q1 e8 dX12_man_85 fl_12_33 rfl ?_
        refine bv_bipush (v := 66) dX12_man_88 (by decide) ?_
        refine bv_iload_n dX12_man_90 1 rfl ?_
        refine bv_iadd dX12_man_91 ?_
        obtain ⟨r9, h⟩ := bu_ia h
        refine bw_iald hN r9 dX12_man_92 ?_
        obtain rfl := Option.some.inj h
        exact bv_iret (x := (v4.2.1 a7 (66 + x1).toNatClampNeg)) dX12_man_93 rfl ⟨rfl, rfl⟩
      · replace h := bu_f h c6
        by_cases c10 : x2 = 1
        · replace h := bu_t h c10
          refine bv_tableIn (tgt := 94) dX12_man_33 (by rw [c10]; decide) (by rw [c10]; decide) (by rw [c10]; rfl) (by decide) ?_
          refine bv_aload_n dX12_man_94 0 rfl ?_
          obtain ⟨a11, e12, h⟩ := bu_bd h
          refine bw_getA (a := a11) hN q1 e12 dX12_man_95 fl_12_33 rfl ?_
          refine bv_bipush (v := 74) dX12_man_98 (by decide) ?_
          refine bv_iload_n dX12_man_100 1 rfl ?_
          refine bv_iadd dX12_man_101 ?_
          obtain ⟨r13, h⟩ := bu_ia h
          refine bw_iald hN r13 dX12_man_102 ?_
          obtain rfl := Option.some.inj h
          exact bv_iret (x := (v4.2.1 a11 (74 + x1).toNatClampNeg)) dX12_man_103 rfl ⟨rfl, rfl⟩
        · replace h := bu_f h c10
          by_cases c14 : x2 = 2
          · replace h := bu_t h c14
            refine bv_tableIn (tgt := 104) dX12_man_33 (by rw [c14]; decide) (by rw [c14]; decide) (by rw [c14]; rfl) (by decide) ?_
            refine bv_aload_n dX12_man_104 0 rfl ?_
            refine bv_iload_n dX12_man_105 1 rfl ?_
            obtain ⟨v15, p16, h⟩ := bu_bd h
            refine bw_callV (As := [.int x1]) hN q1 ⟨_, _, rfl⟩ dX12_man_106 mc_12_290 (c_X12_browOf (d := d + 0) hN p16) rfl rfl (by decide) ?_
            obtain rfl := Option.some.inj h
            exact bv_iret (x := v15) dX12_man_109 rfl ⟨rfl, rfl⟩
          · replace h := bu_f h c14
            by_cases c17 : x2 = 3
            · replace h := bu_t h c17
              refine bv_tableIn (tgt := 110) dX12_man_33 (by rw [c17]; decide) (by rw [c17]; decide) (by rw [c17]; rfl) (by decide) ?_
              refine bv_aload_n dX12_man_110 0 rfl ?_
              obtain ⟨a18, e19, h⟩ := bu_bd h
              refine bw_getA (a := a18) hN q1 e19 dX12_man_111 fl_12_33 rfl ?_
              refine bv_bipush (v := 63) dX12_man_114 (by decide) ?_
              obtain ⟨r20, h⟩ := bu_ia h
              refine bw_iald hN r20 dX12_man_116 ?_
              refine bv_iload_n dX12_man_117 1 rfl ?_
              refine bv_ishr dX12_man_118 ?_
              refine bv_iconst (v := 1) dX12_man_119 (by decide) ?_
              refine bv_iand dX12_man_120 ?_
              obtain rfl := Option.some.inj h
              exact bv_iret (x := ((bm_ishr (v4.2.1 a18 (63 : Int32).toNatClampNeg) x1) &&& 1)) dX12_man_121 rfl ⟨rfl, rfl⟩
            · replace h := bu_f h c17
              by_cases c21 : x2 = 4
              · replace h := bu_t h c21
                refine bv_tableIn (tgt := 122) dX12_man_33 (by rw [c21]; decide) (by rw [c21]; decide) (by rw [c21]; rfl) (by decide) ?_
                refine bv_aload_n dX12_man_122 0 rfl ?_
                obtain ⟨a22, e23, h⟩ := bu_bd h
                refine bw_getA (a := a22) hN q1 e23 dX12_man_123 fl_12_33 rfl ?_
                refine bv_bipush (v := 64) dX12_man_126 (by decide) ?_
                obtain ⟨r24, h⟩ := bu_ia h
                refine bw_iald hN r24 dX12_man_128 ?_
                refine bv_iload_n dX12_man_129 1 rfl ?_
                refine bv_ishr dX12_man_130 ?_
                refine bv_iconst (v := 1) dX12_man_131 (by decide) ?_
                refine bv_iand dX12_man_132 ?_
                obtain rfl := Option.some.inj h
                exact bv_iret (x := ((bm_ishr (v4.2.1 a22 (64 : Int32).toNatClampNeg) x1) &&& 1)) dX12_man_133 rfl ⟨rfl, rfl⟩
              · replace h := bu_f h c21
                by_cases c25 : x2 = 5
                · replace h := bu_t h c25
                  refine bv_tableIn (tgt := 134) dX12_man_33 (by rw [c25]; decide) (by rw [c25]; decide) (by rw [c25]; rfl) (by decide) ?_
                  refine bv_aload_n dX12_man_134 0 rfl ?_
                  obtain ⟨a26, e27, h⟩ := bu_bd h
                  refine bw_getA (a := a26) hN q1 e27 dX12_man_135 fl_12_33 rfl ?_
                  refine bv_bipush (v := 82) dX12_man_138 (by decide) ?_
                  refine bv_iload_n dX12_man_140 1 rfl ?_
                  refine bv_iadd dX12_man_141 ?_
                  obtain ⟨r28, h⟩ := bu_ia h
                  refine bw_iald hN r28 dX12_man_142 ?_
                  obtain rfl := Option.some.inj h
                  exact bv_iret (x := (v4.2.1 a26 (82 + x1).toNatClampNeg)) dX12_man_143 rfl ⟨rfl, rfl⟩
                · replace h := bu_f h c25
                  by_cases c29 : x2 = 6
                  · replace h := bu_t h c29
                    refine bv_tableIn (tgt := 144) dX12_man_33 (by rw [c29]; decide) (by rw [c29]; decide) (by rw [c29]; rfl) (by decide) ?_
                    refine bv_aload_n dX12_man_144 0 rfl ?_
                    obtain ⟨a30, e31, h⟩ := bu_bd h
                    refine bw_getA (a := a30) hN q1 e31 dX12_man_145 fl_12_33 rfl ?_
                    refine bv_bipush (v := 90) dX12_man_148 (by decide) ?_
                    refine bv_iload_n dX12_man_150 1 rfl ?_
                    refine bv_iadd dX12_man_151 ?_
                    obtain ⟨r32, h⟩ := bu_ia h
                    refine bw_iald hN r32 dX12_man_152 ?_
                    refine bv_iconst (v := 1) dX12_man_153 (by decide) ?_
                    refine bv_isub dX12_man_154 ?_
                    obtain rfl := Option.some.inj h
                    exact bv_iret (x := ((v4.2.1 a30 (90 + x1).toNatClampNeg) - 1)) dX12_man_155 rfl ⟨rfl, rfl⟩
                  · replace h := bu_f h c29
                    by_cases c33 : x2 = 7
                    · replace h := bu_t h c33
                      refine bv_tableIn (tgt := 156) dX12_man_33 (by rw [c33]; decide) (by rw [c33]; decide) (by rw [c33]; rfl) (by decide) ?_
                      refine bv_aload_n dX12_man_156 0 rfl ?_
                      obtain ⟨a34, e35, h⟩ := bu_bd h
                      refine bw_getA (a := a34) hN q1 e35 dX12_man_157 fl_12_33 rfl ?_
                      refine bv_bipush (v := 65) dX12_man_160 (by decide) ?_
                      obtain ⟨r36, h⟩ := bu_ia h
                      refine bw_iald hN r36 dX12_man_162 ?_
                      refine bv_iload_n dX12_man_163 1 rfl ?_
                      refine bv_ishr dX12_man_164 ?_
                      refine bv_iconst (v := 1) dX12_man_165 (by decide) ?_
                      refine bv_iand dX12_man_166 ?_
                      obtain rfl := Option.some.inj h
                      exact bv_iret (x := ((bm_ishr (v4.2.1 a34 (65 : Int32).toNatClampNeg) x1) &&& 1)) dX12_man_167 rfl ⟨rfl, rfl⟩
                    · replace h := bu_f h c33
                      by_cases c37 : x2 = 8
                      · replace h := bu_t h c37
                        refine bv_tableIn (tgt := 168) dX12_man_33 (by rw [c37]; decide) (by rw [c37]; decide) (by rw [c37]; rfl) (by decide) ?_
                        refine bv_aload_n dX12_man_168 0 rfl ?_
                        obtain ⟨a38, e39, h⟩ := bu_bd h
                        refine bw_getA (a := a38) hN q1 e39 dX12_man_169 fl_12_33 rfl ?_
                        refine bv_bipush (v := 98) dX12_man_172 (by decide) ?_
                        refine bv_iload_n dX12_man_174 1 rfl ?_
                        refine bv_iadd dX12_man_175 ?_
                        obtain ⟨r40, h⟩ := bu_ia h
                        refine bw_iald hN r40 dX12_man_176 ?_
                        obtain rfl := Option.some.inj h
                        exact bv_iret (x := (v4.2.1 a38 (98 + x1).toNatClampNeg)) dX12_man_177 rfl ⟨rfl, rfl⟩
                      · replace h := bu_f h c37
                        refine bv_tableOut (tgt := 178) dX12_man_33 (bm_sw (k := 9) (by decide) (fun j hj => by match j, hj with | 0, _ => exact c6 | 1, _ => exact c10 | 2, _ => exact c14 | 3, _ => exact c17 | 4, _ => exact c21 | 5, _ => exact c25 | 6, _ => exact c29 | 7, _ => exact c33 | 8, _ => exact c37)) (by decide) ?_
                        refine bv_aload_n dX12_man_178 0 rfl ?_
                        obtain ⟨a41, e42, h⟩ := bu_bd h
                        refine bw_getA (a := a41) hN q1 e42 dX12_man_179 fl_12_33 rfl ?_
                        refine bv_bipush (v := 31) dX12_man_182 (by decide) ?_
                        refine bv_iload_n dX12_man_184 1 rfl ?_
                        refine bv_iadd dX12_man_185 ?_
                        obtain ⟨r43, h⟩ := bu_ia h
                        refine bw_iald hN r43 dX12_man_186 ?_
                        refine bv_iconst (v := 1) dX12_man_187 (by decide) ?_
                        refine bv_isub dX12_man_188 ?_
                        obtain rfl := Option.some.inj h
                        exact bv_iret (x := ((v4.2.1 a41 (31 + x1).toNatClampNeg) - 1)) dX12_man_189 rfl ⟨rfl, rfl⟩
    · replace h := bu_bt h cc
      refine bv_iconst (v := 0) dX12_man_30 (by decide) ?_
      obtain rfl := Option.some.inj h
      exact bv_iret (x := 0) dX12_man_31 rfl ⟨rfl, rfl⟩
  · replace h := bu_bt h cc
    refine bv_iload_n dX12_man_9 2 rfl ?_
    refine bv_iconst (v := 0) dX12_man_10 (by decide) ?_
    refine bv_bipush (v := 9) dX12_man_11 (by decide) ?_
    refine bw_callS (As := [.int x2, .int 0, .int 9]) dX12_man_13 mc_12_206 (c_X12_isIn (d := d + 1) hN rfl) rfl rfl (Nat.le_of_ble_eq_true rfl) ?_
    refine bw_ifB_ne (b := (f_X12_isIn x2 0 9)) (tgt := 23) dX12_man_16 (by decide) (fun cc => ?_) (fun cc => ?_)
    · replace h := bu_bt h cc
      refine bv_iconst (v := 0) dX12_man_23 (by decide) ?_
      obtain ⟨v44, p45, h⟩ := bu_bd h
      refine bw_callV (As := [.int (bm_bi false)]) hN q1 ⟨_, _, rfl⟩ dX12_man_24 mc_12_306 (c_X12_throwsIf (d := d + 1) hN p45) rfl rfl (by decide) ?_
      refine bw_ifB_eq (b := v44.1) (tgt := 32) dX12_man_27 (by decide) (fun cc => ?_) (fun cc => ?_)
      · replace h := bu_bf h cc
        refine bv_iload_n dX12_man_32 2 rfl ?_
        by_cases c46 : x2 = 0
        · replace h := bu_t h c46
          refine bv_tableIn (tgt := 84) dX12_man_33 (by rw [c46]; decide) (by rw [c46]; decide) (by rw [c46]; rfl) (by decide) ?_
          refine bv_aload_n dX12_man_84 0 rfl ?_
          obtain ⟨a47, e48, h⟩ := bu_bd h
          refine bw_getA (a := a47) hN q1 e48 dX12_man_85 fl_12_33 rfl ?_
          refine bv_bipush (v := 66) dX12_man_88 (by decide) ?_
          refine bv_iload_n dX12_man_90 1 rfl ?_
          refine bv_iadd dX12_man_91 ?_
          obtain ⟨r49, h⟩ := bu_ia h
          refine bw_iald hN r49 dX12_man_92 ?_
          obtain rfl := Option.some.inj h
          exact bv_iret (x := (v44.2.1 a47 (66 + x1).toNatClampNeg)) dX12_man_93 rfl ⟨rfl, rfl⟩
        · replace h := bu_f h c46
          by_cases c50 : x2 = 1
          · replace h := bu_t h c50
            refine bv_tableIn (tgt := 94) dX12_man_33 (by rw [c50]; decide) (by rw [c50]; decide) (by rw [c50]; rfl) (by decide) ?_
            refine bv_aload_n dX12_man_94 0 rfl ?_
            obtain ⟨a51, e52, h⟩ := bu_bd h
            refine bw_getA (a := a51) hN q1 e52 dX12_man_95 fl_12_33 rfl ?_
            refine bv_bipush (v := 74) dX12_man_98 (by decide) ?_
            refine bv_iload_n dX12_man_100 1 rfl ?_
            refine bv_iadd dX12_man_101 ?_
            obtain ⟨r53, h⟩ := bu_ia h
            refine bw_iald hN r53 dX12_man_102 ?_
            obtain rfl := Option.some.inj h
            exact bv_iret (x := (v44.2.1 a51 (74 + x1).toNatClampNeg)) dX12_man_103 rfl ⟨rfl, rfl⟩
          · replace h := bu_f h c50
            by_cases c54 : x2 = 2
            · replace h := bu_t h c54
              refine bv_tableIn (tgt := 104) dX12_man_33 (by rw [c54]; decide) (by rw [c54]; decide) (by rw [c54]; rfl) (by decide) ?_
              refine bv_aload_n dX12_man_104 0 rfl ?_
              refine bv_iload_n dX12_man_105 1 rfl ?_
              obtain ⟨v55, p56, h⟩ := bu_bd h
              refine bw_callV (As := [.int x1]) hN q1 ⟨_, _, rfl⟩ dX12_man_106 mc_12_290 (c_X12_browOf (d := d + 0) hN p56) rfl rfl (by decide) ?_
              obtain rfl := Option.some.inj h
              exact bv_iret (x := v55) dX12_man_109 rfl ⟨rfl, rfl⟩
            · replace h := bu_f h c54
              by_cases c57 : x2 = 3
              · replace h := bu_t h c57
                refine bv_tableIn (tgt := 110) dX12_man_33 (by rw [c57]; decide) (by rw [c57]; decide) (by rw [c57]; rfl) (by decide) ?_
                refine bv_aload_n dX12_man_110 0 rfl ?_
                obtain ⟨a58, e59, h⟩ := bu_bd h
                refine bw_getA (a := a58) hN q1 e59 dX12_man_111 fl_12_33 rfl ?_
                refine bv_bipush (v := 63) dX12_man_114 (by decide) ?_
                obtain ⟨r60, h⟩ := bu_ia h
                refine bw_iald hN r60 dX12_man_116 ?_
                refine bv_iload_n dX12_man_117 1 rfl ?_
                refine bv_ishr dX12_man_118 ?_
                refine bv_iconst (v := 1) dX12_man_119 (by decide) ?_
                refine bv_iand dX12_man_120 ?_
                obtain rfl := Option.some.inj h
                exact bv_iret (x := ((bm_ishr (v44.2.1 a58 (63 : Int32).toNatClampNeg) x1) &&& 1)) dX12_man_121 rfl ⟨rfl, rfl⟩
              · replace h := bu_f h c57
                by_cases c61 : x2 = 4
                · replace h := bu_t h c61
                  refine bv_tableIn (tgt := 122) dX12_man_33 (by rw [c61]; decide) (by rw [c61]; decide) (by rw [c61]; rfl) (by decide) ?_
                  refine bv_aload_n dX12_man_122 0 rfl ?_
                  obtain ⟨a62, e63, h⟩ := bu_bd h
                  refine bw_getA (a := a62) hN q1 e63 dX12_man_123 fl_12_33 rfl ?_
                  refine bv_bipush (v := 64) dX12_man_126 (by decide) ?_
                  obtain ⟨r64, h⟩ := bu_ia h
                  refine bw_iald hN r64 dX12_man_128 ?_
                  refine bv_iload_n dX12_man_129 1 rfl ?_
                  refine bv_ishr dX12_man_130 ?_
                  refine bv_iconst (v := 1) dX12_man_131 (by decide) ?_
                  refine bv_iand dX12_man_132 ?_
                  obtain rfl := Option.some.inj h
                  exact bv_iret (x := ((bm_ishr (v44.2.1 a62 (64 : Int32).toNatClampNeg) x1) &&& 1)) dX12_man_133 rfl ⟨rfl, rfl⟩
                · replace h := bu_f h c61
                  by_cases c65 : x2 = 5
                  · replace h := bu_t h c65
                    refine bv_tableIn (tgt := 134) dX12_man_33 (by rw [c65]; decide) (by rw [c65]; decide) (by rw [c65]; rfl) (by decide) ?_
                    refine bv_aload_n dX12_man_134 0 rfl ?_
                    obtain ⟨a66, e67, h⟩ := bu_bd h
                    refine bw_getA (a := a66) hN q1 e67 dX12_man_135 fl_12_33 rfl ?_
                    refine bv_bipush (v := 82) dX12_man_138 (by decide) ?_
                    refine bv_iload_n dX12_man_140 1 rfl ?_
                    refine bv_iadd dX12_man_141 ?_
                    obtain ⟨r68, h⟩ := bu_ia h
                    refine bw_iald hN r68 dX12_man_142 ?_
                    obtain rfl := Option.some.inj h
                    exact bv_iret (x := (v44.2.1 a66 (82 + x1).toNatClampNeg)) dX12_man_143 rfl ⟨rfl, rfl⟩
                  · replace h := bu_f h c65
                    by_cases c69 : x2 = 6
                    · replace h := bu_t h c69
                      refine bv_tableIn (tgt := 144) dX12_man_33 (by rw [c69]; decide) (by rw [c69]; decide) (by rw [c69]; rfl) (by decide) ?_
                      refine bv_aload_n dX12_man_144 0 rfl ?_
                      obtain ⟨a70, e71, h⟩ := bu_bd h
                      refine bw_getA (a := a70) hN q1 e71 dX12_man_145 fl_12_33 rfl ?_
                      refine bv_bipush (v := 90) dX12_man_148 (by decide) ?_
                      refine bv_iload_n dX12_man_150 1 rfl ?_
                      refine bv_iadd dX12_man_151 ?_
                      obtain ⟨r72, h⟩ := bu_ia h
                      refine bw_iald hN r72 dX12_man_152 ?_
                      refine bv_iconst (v := 1) dX12_man_153 (by decide) ?_
                      refine bv_isub dX12_man_154 ?_
                      obtain rfl := Option.some.inj h
                      exact bv_iret (x := ((v44.2.1 a70 (90 + x1).toNatClampNeg) - 1)) dX12_man_155 rfl ⟨rfl, rfl⟩
                    · replace h := bu_f h c69
                      by_cases c73 : x2 = 7
                      · replace h := bu_t h c73
                        refine bv_tableIn (tgt := 156) dX12_man_33 (by rw [c73]; decide) (by rw [c73]; decide) (by rw [c73]; rfl) (by decide) ?_
                        refine bv_aload_n dX12_man_156 0 rfl ?_
                        obtain ⟨a74, e75, h⟩ := bu_bd h
                        refine bw_getA (a := a74) hN q1 e75 dX12_man_157 fl_12_33 rfl ?_
                        refine bv_bipush (v := 65) dX12_man_160 (by decide) ?_
                        obtain ⟨r76, h⟩ := bu_ia h
                        refine bw_iald hN r76 dX12_man_162 ?_
                        refine bv_iload_n dX12_man_163 1 rfl ?_
                        refine bv_ishr dX12_man_164 ?_
                        refine bv_iconst (v := 1) dX12_man_165 (by decide) ?_
                        refine bv_iand dX12_man_166 ?_
                        obtain rfl := Option.some.inj h
                        exact bv_iret (x := ((bm_ishr (v44.2.1 a74 (65 : Int32).toNatClampNeg) x1) &&& 1)) dX12_man_167 rfl ⟨rfl, rfl⟩
                      · replace h := bu_f h c73
                        by_cases c77 : x2 = 8
                        · replace h := bu_t h c77
                          refine bv_tableIn (tgt := 168) dX12_man_33 (by rw [c77]; decide) (by rw [c77]; decide) (by rw [c77]; rfl) (by decide) ?_
                          refine bv_aload_n dX12_man_168 0 rfl ?_
                          obtain ⟨a78, e79, h⟩ := bu_bd h
                          refine bw_getA (a := a78) hN q1 e79 dX12_man_169 fl_12_33 rfl ?_
                          refine bv_bipush (v := 98) dX12_man_172 (by decide) ?_
                          refine bv_iload_n dX12_man_174 1 rfl ?_
                          refine bv_iadd dX12_man_175 ?_
                          obtain ⟨r80, h⟩ := bu_ia h
                          refine bw_iald hN r80 dX12_man_176 ?_
                          obtain rfl := Option.some.inj h
                          exact bv_iret (x := (v44.2.1 a78 (98 + x1).toNatClampNeg)) dX12_man_177 rfl ⟨rfl, rfl⟩
                        · replace h := bu_f h c77
                          refine bv_tableOut (tgt := 178) dX12_man_33 (bm_sw (k := 9) (by decide) (fun j hj => by match j, hj with | 0, _ => exact c46 | 1, _ => exact c50 | 2, _ => exact c54 | 3, _ => exact c57 | 4, _ => exact c61 | 5, _ => exact c65 | 6, _ => exact c69 | 7, _ => exact c73 | 8, _ => exact c77)) (by decide) ?_
                          refine bv_aload_n dX12_man_178 0 rfl ?_
                          obtain ⟨a81, e82, h⟩ := bu_bd h
                          refine bw_getA (a := a81) hN q1 e82 dX12_man_179 fl_12_33 rfl ?_
                          refine bv_bipush (v := 31) dX12_man_182 (by decide) ?_
                          refine bv_iload_n dX12_man_184 1 rfl ?_
                          refine bv_iadd dX12_man_185 ?_
                          obtain ⟨r83, h⟩ := bu_ia h
                          refine bw_iald hN r83 dX12_man_186 ?_
                          refine bv_iconst (v := 1) dX12_man_187 (by decide) ?_
                          refine bv_isub dX12_man_188 ?_
                          obtain rfl := Option.some.inj h
                          exact bv_iret (x := ((v44.2.1 a81 (31 + x1).toNatClampNeg) - 1)) dX12_man_189 rfl ⟨rfl, rfl⟩
      · replace h := bu_bt h cc
        refine bv_iconst (v := 0) dX12_man_30 (by decide) ?_
        obtain rfl := Option.some.inj h
        exact bv_iret (x := 0) dX12_man_31 rfl ⟨rfl, rfl⟩
    · replace h := bu_bf h cc
      refine bv_iconst (v := 1) dX12_man_19 (by decide) ?_
      refine bv_goto (tgt := 24) dX12_man_20 (by decide) ?_
      obtain ⟨v84, p85, h⟩ := bu_bd h
      refine bw_callV (As := [.int (bm_bi true)]) hN q1 ⟨_, _, rfl⟩ dX12_man_24 mc_12_306 (c_X12_throwsIf (d := d + 1) hN p85) rfl rfl (by decide) ?_
      refine bw_ifB_eq (b := v84.1) (tgt := 32) dX12_man_27 (by decide) (fun cc => ?_) (fun cc => ?_)
      · replace h := bu_bf h cc
        refine bv_iload_n dX12_man_32 2 rfl ?_
        by_cases c86 : x2 = 0
        · replace h := bu_t h c86
          refine bv_tableIn (tgt := 84) dX12_man_33 (by rw [c86]; decide) (by rw [c86]; decide) (by rw [c86]; rfl) (by decide) ?_
          refine bv_aload_n dX12_man_84 0 rfl ?_
          obtain ⟨a87, e88, h⟩ := bu_bd h
          refine bw_getA (a := a87) hN q1 e88 dX12_man_85 fl_12_33 rfl ?_
          refine bv_bipush (v := 66) dX12_man_88 (by decide) ?_
          refine bv_iload_n dX12_man_90 1 rfl ?_
          refine bv_iadd dX12_man_91 ?_
          obtain ⟨r89, h⟩ := bu_ia h
          refine bw_iald hN r89 dX12_man_92 ?_
          obtain rfl := Option.some.inj h
          exact bv_iret (x := (v84.2.1 a87 (66 + x1).toNatClampNeg)) dX12_man_93 rfl ⟨rfl, rfl⟩
        · replace h := bu_f h c86
          by_cases c90 : x2 = 1
          · replace h := bu_t h c90
            refine bv_tableIn (tgt := 94) dX12_man_33 (by rw [c90]; decide) (by rw [c90]; decide) (by rw [c90]; rfl) (by decide) ?_
            refine bv_aload_n dX12_man_94 0 rfl ?_
            obtain ⟨a91, e92, h⟩ := bu_bd h
            refine bw_getA (a := a91) hN q1 e92 dX12_man_95 fl_12_33 rfl ?_
            refine bv_bipush (v := 74) dX12_man_98 (by decide) ?_
            refine bv_iload_n dX12_man_100 1 rfl ?_
            refine bv_iadd dX12_man_101 ?_
            obtain ⟨r93, h⟩ := bu_ia h
            refine bw_iald hN r93 dX12_man_102 ?_
            obtain rfl := Option.some.inj h
            exact bv_iret (x := (v84.2.1 a91 (74 + x1).toNatClampNeg)) dX12_man_103 rfl ⟨rfl, rfl⟩
          · replace h := bu_f h c90
            by_cases c94 : x2 = 2
            · replace h := bu_t h c94
              refine bv_tableIn (tgt := 104) dX12_man_33 (by rw [c94]; decide) (by rw [c94]; decide) (by rw [c94]; rfl) (by decide) ?_
              refine bv_aload_n dX12_man_104 0 rfl ?_
              refine bv_iload_n dX12_man_105 1 rfl ?_
              obtain ⟨v95, p96, h⟩ := bu_bd h
              refine bw_callV (As := [.int x1]) hN q1 ⟨_, _, rfl⟩ dX12_man_106 mc_12_290 (c_X12_browOf (d := d + 0) hN p96) rfl rfl (by decide) ?_
              obtain rfl := Option.some.inj h
              exact bv_iret (x := v95) dX12_man_109 rfl ⟨rfl, rfl⟩
            · replace h := bu_f h c94
              by_cases c97 : x2 = 3
              · replace h := bu_t h c97
                refine bv_tableIn (tgt := 110) dX12_man_33 (by rw [c97]; decide) (by rw [c97]; decide) (by rw [c97]; rfl) (by decide) ?_
                refine bv_aload_n dX12_man_110 0 rfl ?_
                obtain ⟨a98, e99, h⟩ := bu_bd h
                refine bw_getA (a := a98) hN q1 e99 dX12_man_111 fl_12_33 rfl ?_
                refine bv_bipush (v := 63) dX12_man_114 (by decide) ?_
                obtain ⟨r100, h⟩ := bu_ia h
                refine bw_iald hN r100 dX12_man_116 ?_
                refine bv_iload_n dX12_man_117 1 rfl ?_
                refine bv_ishr dX12_man_118 ?_
                refine bv_iconst (v := 1) dX12_man_119 (by decide) ?_
                refine bv_iand dX12_man_120 ?_
                obtain rfl := Option.some.inj h
                exact bv_iret (x := ((bm_ishr (v84.2.1 a98 (63 : Int32).toNatClampNeg) x1) &&& 1)) dX12_man_121 rfl ⟨rfl, rfl⟩
              · replace h := bu_f h c97
                by_cases c101 : x2 = 4
                · replace h := bu_t h c101
                  refine bv_tableIn (tgt := 122) dX12_man_33 (by rw [c101]; decide) (by rw [c101]; decide) (by rw [c101]; rfl) (by decide) ?_
                  refine bv_aload_n dX12_man_122 0 rfl ?_
                  obtain ⟨a102, e103, h⟩ := bu_bd h
                  refine bw_getA (a := a102) hN q1 e103 dX12_man_123 fl_12_33 rfl ?_
                  refine bv_bipush (v := 64) dX12_man_126 (by decide) ?_
                  obtain ⟨r104, h⟩ := bu_ia h
                  refine bw_iald hN r104 dX12_man_128 ?_
                  refine bv_iload_n dX12_man_129 1 rfl ?_
                  refine bv_ishr dX12_man_130 ?_
                  refine bv_iconst (v := 1) dX12_man_131 (by decide) ?_
                  refine bv_iand dX12_man_132 ?_
                  obtain rfl := Option.some.inj h
                  exact bv_iret (x := ((bm_ishr (v84.2.1 a102 (64 : Int32).toNatClampNeg) x1) &&& 1)) dX12_man_133 rfl ⟨rfl, rfl⟩
                · replace h := bu_f h c101
                  by_cases c105 : x2 = 5
                  · replace h := bu_t h c105
                    refine bv_tableIn (tgt := 134) dX12_man_33 (by rw [c105]; decide) (by rw [c105]; decide) (by rw [c105]; rfl) (by decide) ?_
                    refine bv_aload_n dX12_man_134 0 rfl ?_
                    obtain ⟨a106, e107, h⟩ := bu_bd h
                    refine bw_getA (a := a106) hN q1 e107 dX12_man_135 fl_12_33 rfl ?_
                    refine bv_bipush (v := 82) dX12_man_138 (by decide) ?_
                    refine bv_iload_n dX12_man_140 1 rfl ?_
                    refine bv_iadd dX12_man_141 ?_
                    obtain ⟨r108, h⟩ := bu_ia h
                    refine bw_iald hN r108 dX12_man_142 ?_
                    obtain rfl := Option.some.inj h
                    exact bv_iret (x := (v84.2.1 a106 (82 + x1).toNatClampNeg)) dX12_man_143 rfl ⟨rfl, rfl⟩
                  · replace h := bu_f h c105
                    by_cases c109 : x2 = 6
                    · replace h := bu_t h c109
                      refine bv_tableIn (tgt := 144) dX12_man_33 (by rw [c109]; decide) (by rw [c109]; decide) (by rw [c109]; rfl) (by decide) ?_
                      refine bv_aload_n dX12_man_144 0 rfl ?_
                      obtain ⟨a110, e111, h⟩ := bu_bd h
                      refine bw_getA (a := a110) hN q1 e111 dX12_man_145 fl_12_33 rfl ?_
                      refine bv_bipush (v := 90) dX12_man_148 (by decide) ?_
                      refine bv_iload_n dX12_man_150 1 rfl ?_
                      refine bv_iadd dX12_man_151 ?_
                      obtain ⟨r112, h⟩ := bu_ia h
                      refine bw_iald hN r112 dX12_man_152 ?_
                      refine bv_iconst (v := 1) dX12_man_153 (by decide) ?_
                      refine bv_isub dX12_man_154 ?_
                      obtain rfl := Option.some.inj h
                      exact bv_iret (x := ((v84.2.1 a110 (90 + x1).toNatClampNeg) - 1)) dX12_man_155 rfl ⟨rfl, rfl⟩
                    · replace h := bu_f h c109
                      by_cases c113 : x2 = 7
                      · replace h := bu_t h c113
                        refine bv_tableIn (tgt := 156) dX12_man_33 (by rw [c113]; decide) (by rw [c113]; decide) (by rw [c113]; rfl) (by decide) ?_
                        refine bv_aload_n dX12_man_156 0 rfl ?_
                        obtain ⟨a114, e115, h⟩ := bu_bd h
                        refine bw_getA (a := a114) hN q1 e115 dX12_man_157 fl_12_33 rfl ?_
                        refine bv_bipush (v := 65) dX12_man_160 (by decide) ?_
                        obtain ⟨r116, h⟩ := bu_ia h
                        refine bw_iald hN r116 dX12_man_162 ?_
                        refine bv_iload_n dX12_man_163 1 rfl ?_
                        refine bv_ishr dX12_man_164 ?_
                        refine bv_iconst (v := 1) dX12_man_165 (by decide) ?_
                        refine bv_iand dX12_man_166 ?_
                        obtain rfl := Option.some.inj h
                        exact bv_iret (x := ((bm_ishr (v84.2.1 a114 (65 : Int32).toNatClampNeg) x1) &&& 1)) dX12_man_167 rfl ⟨rfl, rfl⟩
                      · replace h := bu_f h c113
                        by_cases c117 : x2 = 8
                        · replace h := bu_t h c117
                          refine bv_tableIn (tgt := 168) dX12_man_33 (by rw [c117]; decide) (by rw [c117]; decide) (by rw [c117]; rfl) (by decide) ?_
                          refine bv_aload_n dX12_man_168 0 rfl ?_
                          obtain ⟨a118, e119, h⟩ := bu_bd h
                          refine bw_getA (a := a118) hN q1 e119 dX12_man_169 fl_12_33 rfl ?_
                          refine bv_bipush (v := 98) dX12_man_172 (by decide) ?_
                          refine bv_iload_n dX12_man_174 1 rfl ?_
                          refine bv_iadd dX12_man_175 ?_
                          obtain ⟨r120, h⟩ := bu_ia h
                          refine bw_iald hN r120 dX12_man_176 ?_
                          obtain rfl := Option.some.inj h
                          exact bv_iret (x := (v84.2.1 a118 (98 + x1).toNatClampNeg)) dX12_man_177 rfl ⟨rfl, rfl⟩
                        · replace h := bu_f h c117
                          refine bv_tableOut (tgt := 178) dX12_man_33 (bm_sw (k := 9) (by decide) (fun j hj => by match j, hj with | 0, _ => exact c86 | 1, _ => exact c90 | 2, _ => exact c94 | 3, _ => exact c97 | 4, _ => exact c101 | 5, _ => exact c105 | 6, _ => exact c109 | 7, _ => exact c113 | 8, _ => exact c117)) (by decide) ?_
                          refine bv_aload_n dX12_man_178 0 rfl ?_
                          obtain ⟨a121, e122, h⟩ := bu_bd h
                          refine bw_getA (a := a121) hN q1 e122 dX12_man_179 fl_12_33 rfl ?_
                          refine bv_bipush (v := 31) dX12_man_182 (by decide) ?_
                          refine bv_iload_n dX12_man_184 1 rfl ?_
                          refine bv_iadd dX12_man_185 ?_
                          obtain ⟨r123, h⟩ := bu_ia h
                          refine bw_iald hN r123 dX12_man_186 ?_
                          refine bv_iconst (v := 1) dX12_man_187 (by decide) ?_
                          refine bv_isub dX12_man_188 ?_
                          obtain rfl := Option.some.inj h
                          exact bv_iret (x := ((v84.2.1 a121 (31 + x1).toNatClampNeg) - 1)) dX12_man_189 rfl ⟨rfl, rfl⟩
      · replace h := bu_bt h cc
        refine bv_iconst (v := 0) dX12_man_30 (by decide) ?_
        obtain rfl := Option.some.inj h
        exact bv_iret (x := 0) dX12_man_31 rfl ⟨rfl, rfl⟩
def f_X12_order (M : bm_M) (x0 : Nat) (x1 : Int32) (x2 : Int32) : Option (Int32 × bm_M) := (if bm_io x0 11 then ((f_X12_isOrder (bm_sI M x0 0 0) x0 x1).bind fun v2 => (if v2 = true then (if x2 = 0 then ((M.2.2 x0 6).bind fun a9 => (if bm_ia a9 0 (39 + x1) = true then some (((bm_sI M x0 0 0).1 a9 (39 + x1).toNatClampNeg), (bm_sI M x0 0 0)) else none)) else (if x2 = 1 then ((M.2.2 x0 6).bind fun a6 => (if bm_ia a6 0 (46 + x1) = true then some (((bm_sI M x0 0 0).1 a6 (46 + x1).toNatClampNeg), (bm_sI M x0 0 0)) else none)) else (if x2 = 2 then ((f_X12_havers (bm_sI M x0 0 0) x0 x1).bind fun v4 => some (v4, (bm_sI M x0 0 0))) else some ((-1), (bm_sI M x0 0 0))))) else some ((-1), (bm_sI M x0 0 0)))) else none)
set_option maxHeartbeats 4000000 in
set_option maxRecDepth 100000 in
theorem c_X12_order {L : bm_L} {d n : Nat} {M : bm_M} {x0 : Nat} {x1 : Int32} {x2 : Int32} {v : Int32 × bm_M} (hN : 181 ≤ n) (h : f_X12_order M x0 x1 x2 = some v) : bm_C L m_X12_order (d + 2) n n [.ref x0, .int x1, .int x2] M (fun r M' => r = some (.int v.1) ∧ M' = v.2) := by
  refine bm_C.ofV (by decide) (Nat.le_of_ble_eq_true rfl) ?_
  show bm_V L m_X12_order (d + 2) n n n 0 [(0, .ref x0), (1, .int x1), (2, .int x2)] [] M _
  unfold f_X12_order at h
  refine bv_aload_n dX12_order_0 0 rfl ?_
  refine bv_iconst (v := 0) dX12_order_1 (by decide) ?_
  obtain ⟨q1, h⟩ := bu_io h
  refine bw_putI hN q1 dX12_order_2 fl_12_1 rfl ?_
  refine bv_aload_n dX12_order_5 0 rfl ?_
  refine bv_iload_n dX12_order_6 1 rfl ?_
  obtain ⟨v2, p3, h⟩ := bu_bd h
  refine bw_callV (As := [.int x1]) hN q1 ⟨_, _, rfl⟩ dX12_order_7 mc_12_310 (c_X12_isOrder (d := d + 0) hN p3) rfl rfl (by decide) ?_
  refine bw_ifB_ne (b := v2) (tgt := 15) dX12_order_10 (by decide) (fun cc => ?_) (fun cc => ?_)
  · replace h := bu_bt h cc
    refine bv_iload_n dX12_order_15 2 rfl ?_
    refine bv_if_ne (tgt := 31) dX12_order_16 (by decide) (fun cc => ?_) (fun cc => ?_)
    · replace h := bu_f h cc
      refine bv_iload_n dX12_order_31 2 rfl ?_
      refine bv_iconst (v := 1) dX12_order_32 (by decide) ?_
      refine bv_icmp_ne (tgt := 48) dX12_order_33 (by decide) (fun cc => ?_) (fun cc => ?_)
      · replace h := bu_f h cc
        refine bv_iload_n dX12_order_48 2 rfl ?_
        refine bv_iconst (v := 2) dX12_order_49 (by decide) ?_
        refine bv_icmp_ne (tgt := 61) dX12_order_50 (by decide) (fun cc => ?_) (fun cc => ?_)
        · replace h := bu_f h cc
          refine bv_iconst (v := (-1)) dX12_order_61 (by decide) ?_
          obtain rfl := Option.some.inj h
          exact bv_iret (x := (-1)) dX12_order_62 rfl ⟨rfl, rfl⟩
        · replace h := bu_t h cc
          refine bv_aload_n dX12_order_53 0 rfl ?_
          refine bv_iload_n dX12_order_54 1 rfl ?_
          obtain ⟨v4, p5, h⟩ := bu_bd h
          refine bw_callV (As := [.int x1]) hN q1 ⟨_, _, rfl⟩ dX12_order_55 mc_12_313 (c_X12_havers (d := d + 1) hN p5) rfl rfl (by decide) ?_
          refine bv_goto (tgt := 62) dX12_order_58 (by decide) ?_
          obtain rfl := Option.some.inj h
          exact bv_iret (x := v4) dX12_order_62 rfl ⟨rfl, rfl⟩
      · replace h := bu_t h cc
        refine bv_aload_n dX12_order_36 0 rfl ?_
        obtain ⟨a6, e7, h⟩ := bu_bd h
        refine bw_getA (a := a6) hN q1 e7 dX12_order_37 fl_12_33 rfl ?_
        refine bv_bipush (v := 46) dX12_order_40 (by decide) ?_
        refine bv_iload_n dX12_order_42 1 rfl ?_
        refine bv_iadd dX12_order_43 ?_
        obtain ⟨r8, h⟩ := bu_ia h
        refine bw_iald hN r8 dX12_order_44 ?_
        refine bv_goto (tgt := 62) dX12_order_45 (by decide) ?_
        obtain rfl := Option.some.inj h
        exact bv_iret (x := ((bm_sI M x0 0 0).1 a6 (46 + x1).toNatClampNeg)) dX12_order_62 rfl ⟨rfl, rfl⟩
    · replace h := bu_t h cc
      refine bv_aload_n dX12_order_19 0 rfl ?_
      obtain ⟨a9, e10, h⟩ := bu_bd h
      refine bw_getA (a := a9) hN q1 e10 dX12_order_20 fl_12_33 rfl ?_
      refine bv_bipush (v := 39) dX12_order_23 (by decide) ?_
      refine bv_iload_n dX12_order_25 1 rfl ?_
      refine bv_iadd dX12_order_26 ?_
      obtain ⟨r11, h⟩ := bu_ia h
      refine bw_iald hN r11 dX12_order_27 ?_
      refine bv_goto (tgt := 62) dX12_order_28 (by decide) ?_
      obtain rfl := Option.some.inj h
      exact bv_iret (x := ((bm_sI M x0 0 0).1 a9 (39 + x1).toNatClampNeg)) dX12_order_62 rfl ⟨rfl, rfl⟩
  · replace h := bu_bf h cc
    refine bv_iconst (v := (-1)) dX12_order_13 (by decide) ?_
    obtain rfl := Option.some.inj h
    exact bv_iret (x := (-1)) dX12_order_14 rfl ⟨rfl, rfl⟩
def f_X12_now_l9 (M : bm_M) (x0 : Nat) (x1 : Int32) : Nat → Int32 → Int32 → Option (Int32)
  | 0, _, _ => none
  | k + 1, x2, x3 => ((M.2.2 x0 6).bind fun a1 => (if bm_ia a1 0 0 = true then (if (M.1 a1 (0 : Int32).toNatClampNeg) ≤ x3 then some x2 else (if bm_ia a1 0 (98 + x3) = true then f_X12_now_l9 M x0 x1 k (x2 + (M.1 a1 (98 + x3).toNatClampNeg)) (x3 + 1) else none)) else none))
set_option maxHeartbeats 4000000 in
set_option maxRecDepth 100000 in
theorem v_X12_now_l9 {L : bm_L} {d n : Nat} {Q : Option Value → bm_M → Prop} {M : bm_M} {x0 : Nat} {x1 : Int32} (hN : 181 ≤ n) (q_0 : bm_OK x0 11) : ∀ (k : Nat) (x2 : Int32) (x3 : Int32) (r : Int32), f_X12_now_l9 M x0 x1 k x2 x3 = some r → (∀ yy, yy = r → bm_V L m_X12_now (d + 1) n n n 37 [(0, .ref x0), (1, .int x1), (2, .int yy)] [] M Q) → bm_V L m_X12_now (d + 1) n n n 9 [(0, .ref x0), (1, .int x1), (2, .int x2), (3, .int x3)] [] M Q := by
  intro k
  induction k with
  | zero => intro x2 x3 r h; cases (show (none : Option (Int32)) = some r from h)
  | succ k ih =>
    intro x2 x3 r h K0
    unfold f_X12_now_l9 at h
    refine bv_iload_n dX12_now_9 3 rfl ?_
    refine bv_aload_n dX12_now_10 0 rfl ?_
    obtain ⟨a1, e2, h⟩ := bu_bd h
    refine bw_getA (a := a1) hN q_0 e2 dX12_now_11 fl_12_33 rfl ?_
    refine bv_iconst (v := 0) dX12_now_14 (by decide) ?_
    obtain ⟨r3, h⟩ := bu_ia h
    refine bw_iald hN r3 dX12_now_15 ?_
    refine bv_icmp_ge (tgt := 37) dX12_now_16 (by decide) (fun cc => ?_) (fun cc => ?_)
    · replace h := bu_t h cc
      refine bw_ls (ls1 := [(0, .ref x0), (1, .int x1), (2, .int x2)]) [0, 1, 2] rfl ?_
      obtain rfl := Option.some.inj h
      exact K0 _ rfl
    · replace h := bu_f h cc
      refine bv_iload_n dX12_now_19 2 rfl ?_
      refine bv_aload_n dX12_now_20 0 rfl ?_
      refine bw_getA (a := a1) hN q_0 e2 dX12_now_21 fl_12_33 rfl ?_
      refine bv_bipush (v := 98) dX12_now_24 (by decide) ?_
      refine bv_iload_n dX12_now_26 3 rfl ?_
      refine bv_iadd dX12_now_27 ?_
      obtain ⟨r4, h⟩ := bu_ia h
      refine bw_iald hN r4 dX12_now_28 ?_
      refine bv_iadd dX12_now_29 ?_
      refine bv_istore_n (ls1 := [(0, .ref x0), (1, .int x1), (2, .int (x2 + (M.1 a1 (98 + x3).toNatClampNeg))), (3, .int x3)]) dX12_now_30 (by decide) rfl rfl ?_
      refine bv_iinc (j := 3) (v := (x3 + 1)) (ls1 := [(0, .ref x0), (1, .int x1), (2, .int (x2 + (M.1 a1 (98 + x3).toNatClampNeg))), (3, .int (x3 + 1))]) dX12_now_31 rfl rfl (by decide) rfl rfl ?_
      refine bv_goto (tgt := 9) dX12_now_34 (by decide) ?_
      exact ih _ _ _ h K0
def f_X12_now (M : bm_M) (x0 : Nat) (x1 : Int32) : Option (Int32 × bm_M) := (if bm_io x0 11 then ((f_X12_now_l9 (bm_sI M x0 0 0) x0 x1 1000 0 0).bind fun y4 => (if x1 = 0 then ((M.2.2 x0 6).bind fun a6 => (if bm_ia a6 0 61 = true then some (((bm_sI M x0 0 0).1 a6 (61 : Int32).toNatClampNeg), (bm_sI M x0 0 0)) else none)) else (if x1 = 1 then ((M.2.2 x0 6).bind fun a10 => (if bm_ia a10 0 63 = true then some (((bm_sI M x0 0 0).1 a10 (63 : Int32).toNatClampNeg), (bm_sI M x0 0 0)) else none)) else (if x1 = 2 then ((M.2.2 x0 6).bind fun a14 => (if bm_ia a14 0 64 = true then some (((bm_sI M x0 0 0).1 a14 (64 : Int32).toNatClampNeg), (bm_sI M x0 0 0)) else none)) else (if x1 = 3 then ((f_X12_orderly (bm_sI M x0 0 0) x0).bind fun v18 => some (v18, (bm_sI M x0 0 0))) else (if x1 = 4 then ((M.2.2 x0 6).bind fun a21 => (if bm_ia a21 0 65 = true then some (((bm_sI M x0 0 0).1 a21 (65 : Int32).toNatClampNeg), (bm_sI M x0 0 0)) else none)) else (if x1 = 5 then some (y4, (bm_sI M x0 0 0)) else (if x1 = 6 then ((M.2.2 x0 6).bind fun a26 => (if bm_ia a26 0 62 = true then some (((bm_sI M x0 0 0).1 a26 (62 : Int32).toNatClampNeg), (bm_sI M x0 0 0)) else none)) else some ((-1), (bm_sI M x0 0 0)))))))))) else none)
set_option maxHeartbeats 4000000 in
set_option maxRecDepth 100000 in
theorem c_X12_now {L : bm_L} {d n : Nat} {M : bm_M} {x0 : Nat} {x1 : Int32} {v : Int32 × bm_M} (hN : 181 ≤ n) (h : f_X12_now M x0 x1 = some v) : bm_C L m_X12_now (d + 1) n n [.ref x0, .int x1] M (fun r M' => r = some (.int v.1) ∧ M' = v.2) := by
  refine bm_C.ofV (by decide) (Nat.le_of_ble_eq_true rfl) ?_
  show bm_V L m_X12_now (d + 1) n n n 0 [(0, .ref x0), (1, .int x1)] [] M _
  unfold f_X12_now at h
  refine bv_aload_n dX12_now_0 0 rfl ?_
  refine bv_iconst (v := 0) dX12_now_1 (by decide) ?_
  obtain ⟨q1, h⟩ := bu_io h
  refine bw_putI hN q1 dX12_now_2 fl_12_1 rfl ?_
  refine bv_iconst (v := 0) dX12_now_5 (by decide) ?_
  refine bv_istore_n (ls1 := [(0, .ref x0), (1, .int x1), (2, .int 0)]) dX12_now_6 (by decide) rfl rfl ?_
  refine bv_iconst (v := 0) dX12_now_7 (by decide) ?_
  refine bv_istore_n (ls1 := [(0, .ref x0), (1, .int x1), (2, .int 0), (3, .int 0)]) dX12_now_8 (by decide) rfl rfl ?_
  obtain ⟨r2, p3, h⟩ := bu_bd h
  refine v_X12_now_l9 hN q1 1000 _ _ _ p3 (fun y4 hy => ?_)
  · subst hy
    refine bv_iload_n dX12_now_37 1 rfl ?_
    by_cases c5 : x1 = 0
    · replace h := bu_t h c5
      refine bv_tableIn (tgt := 80) dX12_now_38 (by rw [c5]; decide) (by rw [c5]; decide) (by rw [c5]; rfl) (by decide) ?_
      refine bv_aload_n dX12_now_80 0 rfl ?_
      obtain ⟨a6, e7, h⟩ := bu_bd h
      refine bw_getA (a := a6) hN q1 e7 dX12_now_81 fl_12_33 rfl ?_
      refine bv_bipush (v := 61) dX12_now_84 (by decide) ?_
      obtain ⟨r8, h⟩ := bu_ia h
      refine bw_iald hN r8 dX12_now_86 ?_
      obtain rfl := Option.some.inj h
      exact bv_iret (x := ((bm_sI M x0 0 0).1 a6 (61 : Int32).toNatClampNeg)) dX12_now_87 rfl ⟨rfl, rfl⟩
    · replace h := bu_f h c5
      by_cases c9 : x1 = 1
      · replace h := bu_t h c9
        refine bv_tableIn (tgt := 88) dX12_now_38 (by rw [c9]; decide) (by rw [c9]; decide) (by rw [c9]; rfl) (by decide) ?_
        refine bv_aload_n dX12_now_88 0 rfl ?_
        obtain ⟨a10, e11, h⟩ := bu_bd h
        refine bw_getA (a := a10) hN q1 e11 dX12_now_89 fl_12_33 rfl ?_
        refine bv_bipush (v := 63) dX12_now_92 (by decide) ?_
        obtain ⟨r12, h⟩ := bu_ia h
        refine bw_iald hN r12 dX12_now_94 ?_
        obtain rfl := Option.some.inj h
        exact bv_iret (x := ((bm_sI M x0 0 0).1 a10 (63 : Int32).toNatClampNeg)) dX12_now_95 rfl ⟨rfl, rfl⟩
      · replace h := bu_f h c9
        by_cases c13 : x1 = 2
        · replace h := bu_t h c13
          refine bv_tableIn (tgt := 96) dX12_now_38 (by rw [c13]; decide) (by rw [c13]; decide) (by rw [c13]; rfl) (by decide) ?_
          refine bv_aload_n dX12_now_96 0 rfl ?_
          obtain ⟨a14, e15, h⟩ := bu_bd h
          refine bw_getA (a := a14) hN q1 e15 dX12_now_97 fl_12_33 rfl ?_
          refine bv_bipush (v := 64) dX12_now_100 (by decide) ?_
          obtain ⟨r16, h⟩ := bu_ia h
          refine bw_iald hN r16 dX12_now_102 ?_
          obtain rfl := Option.some.inj h
          exact bv_iret (x := ((bm_sI M x0 0 0).1 a14 (64 : Int32).toNatClampNeg)) dX12_now_103 rfl ⟨rfl, rfl⟩
        · replace h := bu_f h c13
          by_cases c17 : x1 = 3
          · replace h := bu_t h c17
            refine bv_tableIn (tgt := 104) dX12_now_38 (by rw [c17]; decide) (by rw [c17]; decide) (by rw [c17]; rfl) (by decide) ?_
            refine bv_aload_n dX12_now_104 0 rfl ?_
            obtain ⟨v18, p19, h⟩ := bu_bd h
            refine bw_callV (As := []) hN q1 ⟨_, _, rfl⟩ dX12_now_105 mc_12_316 (c_X12_orderly (d := d + 0) hN p19) rfl rfl (by decide) ?_
            obtain rfl := Option.some.inj h
            exact bv_iret (x := v18) dX12_now_108 rfl ⟨rfl, rfl⟩
          · replace h := bu_f h c17
            by_cases c20 : x1 = 4
            · replace h := bu_t h c20
              refine bv_tableIn (tgt := 109) dX12_now_38 (by rw [c20]; decide) (by rw [c20]; decide) (by rw [c20]; rfl) (by decide) ?_
              refine bv_aload_n dX12_now_109 0 rfl ?_
              obtain ⟨a21, e22, h⟩ := bu_bd h
              refine bw_getA (a := a21) hN q1 e22 dX12_now_110 fl_12_33 rfl ?_
              refine bv_bipush (v := 65) dX12_now_113 (by decide) ?_
              obtain ⟨r23, h⟩ := bu_ia h
              refine bw_iald hN r23 dX12_now_115 ?_
              obtain rfl := Option.some.inj h
              exact bv_iret (x := ((bm_sI M x0 0 0).1 a21 (65 : Int32).toNatClampNeg)) dX12_now_116 rfl ⟨rfl, rfl⟩
            · replace h := bu_f h c20
              by_cases c24 : x1 = 5
              · replace h := bu_t h c24
                refine bv_tableIn (tgt := 117) dX12_now_38 (by rw [c24]; decide) (by rw [c24]; decide) (by rw [c24]; rfl) (by decide) ?_
                refine bv_iload_n dX12_now_117 2 rfl ?_
                obtain rfl := Option.some.inj h
                exact bv_iret (x := y4) dX12_now_118 rfl ⟨rfl, rfl⟩
              · replace h := bu_f h c24
                by_cases c25 : x1 = 6
                · replace h := bu_t h c25
                  refine bv_tableIn (tgt := 119) dX12_now_38 (by rw [c25]; decide) (by rw [c25]; decide) (by rw [c25]; rfl) (by decide) ?_
                  refine bv_aload_n dX12_now_119 0 rfl ?_
                  obtain ⟨a26, e27, h⟩ := bu_bd h
                  refine bw_getA (a := a26) hN q1 e27 dX12_now_120 fl_12_33 rfl ?_
                  refine bv_bipush (v := 62) dX12_now_123 (by decide) ?_
                  obtain ⟨r28, h⟩ := bu_ia h
                  refine bw_iald hN r28 dX12_now_125 ?_
                  obtain rfl := Option.some.inj h
                  exact bv_iret (x := ((bm_sI M x0 0 0).1 a26 (62 : Int32).toNatClampNeg)) dX12_now_126 rfl ⟨rfl, rfl⟩
                · replace h := bu_f h c25
                  refine bv_tableOut (tgt := 127) dX12_now_38 (bm_sw (k := 7) (by decide) (fun j hj => by match j, hj with | 0, _ => exact c5 | 1, _ => exact c9 | 2, _ => exact c13 | 3, _ => exact c17 | 4, _ => exact c20 | 5, _ => exact c24 | 6, _ => exact c25)) (by decide) ?_
                  refine bv_iconst (v := (-1)) dX12_now_127 (by decide) ?_
                  obtain rfl := Option.some.inj h
                  exact bv_iret (x := (-1)) dX12_now_128 rfl ⟨rfl, rfl⟩
def f_X12_orderBy_l2 (M : bm_M) (x0 : Nat) (x1 : Int32) (x2 : Int32) : Nat → Int32 → Option (((Int32) ⊕ (Unit)))
  | 0, _ => none
  | k + 1, x3 => (if bm_io x0 11 then ((M.2.2 x0 6).bind fun a2 => (if bm_ia a2 0 1 = true then (if (M.1 a2 (1 : Int32).toNatClampNeg) ≤ x3 then some (Sum.inr ()) else (if bm_ia a2 0 (39 + x3) = true then (if (M.1 a2 (39 + x3).toNatClampNeg) = x1 then (if bm_ia a2 0 (46 + x3) = true then (if (M.1 a2 (46 + x3).toNatClampNeg) = x2 then some (Sum.inl x3) else f_X12_orderBy_l2 M x0 x1 x2 k (x3 + 1)) else none) else f_X12_orderBy_l2 M x0 x1 x2 k (x3 + 1)) else none)) else none)) else none)
set_option maxHeartbeats 4000000 in
set_option maxRecDepth 100000 in
theorem v_X12_orderBy_l2 {L : bm_L} {d n : Nat} {Q : Option Value → bm_M → Prop} {M : bm_M} {x0 : Nat} {x1 : Int32} {x2 : Int32} (hN : 181 ≤ n) : ∀ (k : Nat) (x3 : Int32) (r : ((Int32) ⊕ (Unit))), f_X12_orderBy_l2 M x0 x1 x2 k x3 = some r → (∀ yy, (Sum.inl yy) = r → bm_V L m_X12_orderBy d n n n 38 [(3, .int yy)] [] M Q) → (∀ yy, (Sum.inr yy) = r → bm_V L m_X12_orderBy d n n n 46 [] [] M Q) → bm_V L m_X12_orderBy d n n n 2 [(0, .ref x0), (1, .int x1), (2, .int x2), (3, .int x3)] [] M Q := by
  intro k
  induction k with
  | zero => intro x3 r h; cases (show (none : Option (((Int32) ⊕ (Unit)))) = some r from h)
  | succ k ih =>
    intro x3 r h K0 K1
    unfold f_X12_orderBy_l2 at h
    refine bv_iload_n dX12_orderBy_2 3 rfl ?_
    refine bv_aload_n dX12_orderBy_3 0 rfl ?_
    obtain ⟨q1, h⟩ := bu_io h
    obtain ⟨a2, e3, h⟩ := bu_bd h
    refine bw_getA (a := a2) hN q1 e3 dX12_orderBy_4 fl_12_33 rfl ?_
    refine bv_iconst (v := 1) dX12_orderBy_7 (by decide) ?_
    obtain ⟨r4, h⟩ := bu_ia h
    refine bw_iald hN r4 dX12_orderBy_8 ?_
    refine bv_icmp_ge (tgt := 46) dX12_orderBy_9 (by decide) (fun cc => ?_) (fun cc => ?_)
    · replace h := bu_t h cc
      refine bw_ls (ls1 := []) [] rfl ?_
      obtain rfl := Option.some.inj h
      exact K1 _ rfl
    · replace h := bu_f h cc
      refine bv_aload_n dX12_orderBy_12 0 rfl ?_
      refine bw_getA (a := a2) hN q1 e3 dX12_orderBy_13 fl_12_33 rfl ?_
      refine bv_bipush (v := 39) dX12_orderBy_16 (by decide) ?_
      refine bv_iload_n dX12_orderBy_18 3 rfl ?_
      refine bv_iadd dX12_orderBy_19 ?_
      obtain ⟨r5, h⟩ := bu_ia h
      refine bw_iald hN r5 dX12_orderBy_20 ?_
      refine bv_iload_n dX12_orderBy_21 1 rfl ?_
      refine bv_icmp_ne (tgt := 40) dX12_orderBy_22 (by decide) (fun cc => ?_) (fun cc => ?_)
      · replace h := bu_f h cc
        refine bv_iinc (j := 3) (v := (x3 + 1)) (ls1 := [(0, .ref x0), (1, .int x1), (2, .int x2), (3, .int (x3 + 1))]) dX12_orderBy_40 rfl rfl (by decide) rfl rfl ?_
        refine bv_goto (tgt := 2) dX12_orderBy_43 (by decide) ?_
        exact ih _ _ h K0 K1
      · replace h := bu_t h cc
        refine bv_aload_n dX12_orderBy_25 0 rfl ?_
        refine bw_getA (a := a2) hN q1 e3 dX12_orderBy_26 fl_12_33 rfl ?_
        refine bv_bipush (v := 46) dX12_orderBy_29 (by decide) ?_
        refine bv_iload_n dX12_orderBy_31 3 rfl ?_
        refine bv_iadd dX12_orderBy_32 ?_
        obtain ⟨r6, h⟩ := bu_ia h
        refine bw_iald hN r6 dX12_orderBy_33 ?_
        refine bv_iload_n dX12_orderBy_34 2 rfl ?_
        refine bv_icmp_ne (tgt := 40) dX12_orderBy_35 (by decide) (fun cc => ?_) (fun cc => ?_)
        · replace h := bu_f h cc
          refine bv_iinc (j := 3) (v := (x3 + 1)) (ls1 := [(0, .ref x0), (1, .int x1), (2, .int x2), (3, .int (x3 + 1))]) dX12_orderBy_40 rfl rfl (by decide) rfl rfl ?_
          refine bv_goto (tgt := 2) dX12_orderBy_43 (by decide) ?_
          exact ih _ _ h K0 K1
        · replace h := bu_t h cc
          refine bw_ls (ls1 := [(3, .int x3)]) [3] rfl ?_
          obtain rfl := Option.some.inj h
          exact K0 _ rfl
def f_X12_orderBy (M : bm_M) (x0 : Nat) (x1 : Int32) (x2 : Int32) : Option (Int32) := ((f_X12_orderBy_l2 M x0 x1 x2 1000 0).bind fun rr => match rr with | (Sum.inl y3) => some y3 | (Sum.inr y3) => some (-1))
set_option maxHeartbeats 4000000 in
set_option maxRecDepth 100000 in
theorem c_X12_orderBy {L : bm_L} {d n : Nat} {M : bm_M} {x0 : Nat} {x1 : Int32} {x2 : Int32} {v : Int32} (hN : 181 ≤ n) (h : f_X12_orderBy M x0 x1 x2 = some v) : bm_C L m_X12_orderBy d n n [.ref x0, .int x1, .int x2] M (fun r M' => r = some (.int v) ∧ M' = M) := by
  refine bm_C.ofV (by decide) (Nat.le_of_ble_eq_true rfl) ?_
  show bm_V L m_X12_orderBy d n n n 0 [(0, .ref x0), (1, .int x1), (2, .int x2)] [] M _
  unfold f_X12_orderBy at h
  refine bv_iconst (v := 0) dX12_orderBy_0 (by decide) ?_
  refine bv_istore_n (ls1 := [(0, .ref x0), (1, .int x1), (2, .int x2), (3, .int 0)]) dX12_orderBy_1 (by decide) rfl rfl ?_
  obtain ⟨r1, p2, h⟩ := bu_bd h
  refine v_X12_orderBy_l2 hN 1000 _ _ p2 (fun y3 hy => ?_) (fun y3 hy => ?_)
  · subst hy
    refine bv_iload_n dX12_orderBy_38 0 rfl ?_
    obtain rfl := Option.some.inj h
    exact bv_iret (x := y3) dX12_orderBy_39 rfl ⟨rfl, rfl⟩
  · subst hy
    refine bv_iconst (v := (-1)) dX12_orderBy_46 (by decide) ?_
    obtain rfl := Option.some.inj h
    exact bv_iret (x := (-1)) dX12_orderBy_47 rfl ⟨rfl, rfl⟩
def f_X12_hears (M : bm_M) (x0 : Nat) (x1 : Int32) (x2 : Int32) : Option (bm_M) := (if bm_io x0 11 then ((M.2.2 x0 6).bind fun a2 => (if bm_ia a2 0 29 = true then (if (f_X12_bitOf (M.1 a2 (29 : Int32).toNatClampNeg) x1) = true then (if bm_ia a2 0 (90 + x1) = true then (if (M.1 a2 (90 + x1).toNatClampNeg) ≤ 0 then (if bm_ia a2 0 (82 + x1) = true then (if (M.1 a2 (82 + x1).toNatClampNeg) = 0 then (if (M.1 a2 (82 + x1).toNatClampNeg) = 0 then some (bm_sI M a2 (82 + x1).toNatClampNeg x2) else ((f_X12_orderBy (bm_sI M a2 (82 + x1).toNatClampNeg x2) x0 (M.1 a2 (82 + x1).toNatClampNeg) x2).bind fun v22 => (if 0 ≤ v22 then (if bm_ia a2 0 65 = true then some (bm_sI (bm_sI (bm_sI M a2 (82 + x1).toNatClampNeg x2) a2 (90 + x1).toNatClampNeg (v22 + 1)) a2 (65 : Int32).toNatClampNeg (((bm_sI (bm_sI M a2 (82 + x1).toNatClampNeg x2) a2 (90 + x1).toNatClampNeg (v22 + 1)).1 a2 (65 : Int32).toNatClampNeg) ||| (bm_ishl 1 x1))) else none) else (if bm_ia a2 0 (98 + x1) = true then some (bm_sI (bm_sI M a2 (82 + x1).toNatClampNeg x2) a2 (98 + x1).toNatClampNeg (f_X12_lesser 99 (((bm_sI M a2 (82 + x1).toNatClampNeg x2).1 a2 (98 + x1).toNatClampNeg) + 1))) else none)))) else (if (M.1 a2 (82 + x1).toNatClampNeg) = 0 then some (bm_sI M a2 (82 + x1).toNatClampNeg 0) else ((f_X12_orderBy (bm_sI M a2 (82 + x1).toNatClampNeg 0) x0 (M.1 a2 (82 + x1).toNatClampNeg) x2).bind fun v18 => (if 0 ≤ v18 then (if bm_ia a2 0 65 = true then some (bm_sI (bm_sI (bm_sI M a2 (82 + x1).toNatClampNeg 0) a2 (90 + x1).toNatClampNeg (v18 + 1)) a2 (65 : Int32).toNatClampNeg (((bm_sI (bm_sI M a2 (82 + x1).toNatClampNeg 0) a2 (90 + x1).toNatClampNeg (v18 + 1)).1 a2 (65 : Int32).toNatClampNeg) ||| (bm_ishl 1 x1))) else none) else (if bm_ia a2 0 (98 + x1) = true then some (bm_sI (bm_sI M a2 (82 + x1).toNatClampNeg 0) a2 (98 + x1).toNatClampNeg (f_X12_lesser 99 (((bm_sI M a2 (82 + x1).toNatClampNeg 0).1 a2 (98 + x1).toNatClampNeg) + 1))) else none))))) else none) else some M) else none) else (if bm_ia a2 0 (82 + x1) = true then (if (M.1 a2 (82 + x1).toNatClampNeg) = 0 then (if (M.1 a2 (82 + x1).toNatClampNeg) = 0 then some (bm_sI M a2 (82 + x1).toNatClampNeg x2) else ((f_X12_orderBy (bm_sI M a2 (82 + x1).toNatClampNeg x2) x0 (M.1 a2 (82 + x1).toNatClampNeg) x2).bind fun v11 => (if 0 ≤ v11 then (if bm_ia a2 0 (90 + x1) = true then (if bm_ia a2 0 65 = true then some (bm_sI (bm_sI (bm_sI M a2 (82 + x1).toNatClampNeg x2) a2 (90 + x1).toNatClampNeg (v11 + 1)) a2 (65 : Int32).toNatClampNeg (((bm_sI (bm_sI M a2 (82 + x1).toNatClampNeg x2) a2 (90 + x1).toNatClampNeg (v11 + 1)).1 a2 (65 : Int32).toNatClampNeg) ||| (bm_ishl 1 x1))) else none) else none) else (if bm_ia a2 0 (98 + x1) = true then some (bm_sI (bm_sI M a2 (82 + x1).toNatClampNeg x2) a2 (98 + x1).toNatClampNeg (f_X12_lesser 99 (((bm_sI M a2 (82 + x1).toNatClampNeg x2).1 a2 (98 + x1).toNatClampNeg) + 1))) else none)))) else (if (M.1 a2 (82 + x1).toNatClampNeg) = 0 then some (bm_sI M a2 (82 + x1).toNatClampNeg 0) else ((f_X12_orderBy (bm_sI M a2 (82 + x1).toNatClampNeg 0) x0 (M.1 a2 (82 + x1).toNatClampNeg) x2).bind fun v6 => (if 0 ≤ v6 then (if bm_ia a2 0 (90 + x1) = true then (if bm_ia a2 0 65 = true then some (bm_sI (bm_sI (bm_sI M a2 (82 + x1).toNatClampNeg 0) a2 (90 + x1).toNatClampNeg (v6 + 1)) a2 (65 : Int32).toNatClampNeg (((bm_sI (bm_sI M a2 (82 + x1).toNatClampNeg 0) a2 (90 + x1).toNatClampNeg (v6 + 1)).1 a2 (65 : Int32).toNatClampNeg) ||| (bm_ishl 1 x1))) else none) else none) else (if bm_ia a2 0 (98 + x1) = true then some (bm_sI (bm_sI M a2 (82 + x1).toNatClampNeg 0) a2 (98 + x1).toNatClampNeg (f_X12_lesser 99 (((bm_sI M a2 (82 + x1).toNatClampNeg 0).1 a2 (98 + x1).toNatClampNeg) + 1))) else none))))) else none)) else none)) else none)
set_option maxHeartbeats 4000000 in
set_option maxRecDepth 100000 in
theorem c_X12_hears {L : bm_L} {d n : Nat} {M : bm_M} {x0 : Nat} {x1 : Int32} {x2 : Int32} {v : bm_M} (hN : 181 ≤ n) (h : f_X12_hears M x0 x1 x2 = some v) : bm_C L m_X12_hears (d + 1) n n [.ref x0, .int x1, .int x2] M (fun r M' => r = none ∧ M' = v) := by
  refine bm_C.ofV (by decide) (Nat.le_of_ble_eq_true rfl) ?_
  show bm_V L m_X12_hears (d + 1) n n n 0 [(0, .ref x0), (1, .int x1), (2, .int x2)] [] M _
  unfold f_X12_hears at h
  refine bv_aload_n dX12_hears_0 0 rfl ?_
  obtain ⟨q1, h⟩ := bu_io h
  obtain ⟨a2, e3, h⟩ := bu_bd h
  refine bw_getA (a := a2) hN q1 e3 dX12_hears_1 fl_12_33 rfl ?_
  refine bv_bipush (v := 29) dX12_hears_4 (by decide) ?_
  obtain ⟨r4, h⟩ := bu_ia h
  refine bw_iald hN r4 dX12_hears_6 ?_
  refine bv_iload_n dX12_hears_7 1 rfl ?_
  refine bw_callS (As := [.int (M.1 a2 (29 : Int32).toNatClampNeg), .int x1]) dX12_hears_8 mc_12_231 (c_X12_bitOf (d := d + 0) hN rfl) rfl rfl (by decide) ?_
  refine bw_ifB_eq (b := (f_X12_bitOf (M.1 a2 (29 : Int32).toNatClampNeg) x1)) (tgt := 27) dX12_hears_11 (by decide) (fun cc => ?_) (fun cc => ?_)
  · replace h := bu_bf h cc
    refine bv_aload_n dX12_hears_27 0 rfl ?_
    refine bw_getA (a := a2) hN q1 e3 dX12_hears_28 fl_12_33 rfl ?_
    refine bv_bipush (v := 82) dX12_hears_31 (by decide) ?_
    refine bv_iload_n dX12_hears_33 1 rfl ?_
    refine bv_iadd dX12_hears_34 ?_
    obtain ⟨r5, h⟩ := bu_ia h
    refine bw_iald hN r5 dX12_hears_35 ?_
    refine bv_istore_n (ls1 := [(0, .ref x0), (1, .int x1), (2, .int x2), (3, .int (M.1 a2 (82 + x1).toNatClampNeg))]) dX12_hears_36 (by decide) rfl rfl ?_
    refine bv_aload_n dX12_hears_37 0 rfl ?_
    refine bw_getA (a := a2) hN q1 e3 dX12_hears_38 fl_12_33 rfl ?_
    refine bv_bipush (v := 82) dX12_hears_41 (by decide) ?_
    refine bv_iload_n dX12_hears_43 1 rfl ?_
    refine bv_iadd dX12_hears_44 ?_
    refine bv_iload_n dX12_hears_45 3 rfl ?_
    refine bv_if_ne (tgt := 53) dX12_hears_46 (by decide) (fun cc => ?_) (fun cc => ?_)
    · replace h := bu_f h cc
      refine bv_iconst (v := 0) dX12_hears_53 (by decide) ?_
      refine bw_iast hN r5 dX12_hears_54 ?_
      refine bv_iload_n dX12_hears_55 3 rfl ?_
      refine bv_if_ne (tgt := 60) dX12_hears_56 (by decide) (fun cc => ?_) (fun cc => ?_)
      · replace h := bu_f h cc
        refine bv_aload_n dX12_hears_60 0 rfl ?_
        refine bv_iload_n dX12_hears_61 3 rfl ?_
        refine bv_iload_n dX12_hears_62 2 rfl ?_
        obtain ⟨v6, p7, h⟩ := bu_bd h
        refine bw_callV (As := [.int (M.1 a2 (82 + x1).toNatClampNeg), .int x2]) hN q1 ⟨_, _, rfl⟩ dX12_hears_63 mc_12_319 (c_X12_orderBy (d := d + 0) hN p7) rfl rfl (by decide) ?_
        refine bv_istore (ls1 := [(0, .ref x0), (1, .int x1), (2, .int x2), (3, .int (M.1 a2 (82 + x1).toNatClampNeg)), (4, .int v6)]) dX12_hears_66 (by decide) rfl rfl ?_
        refine bv_iload dX12_hears_68 4 rfl ?_
        refine bv_if_ge (tgt := 99) dX12_hears_70 (by decide) (fun cc => ?_) (fun cc => ?_)
        · replace h := bu_t h cc
          refine bv_aload_n dX12_hears_99 0 rfl ?_
          refine bw_getA (a := a2) hN q1 e3 dX12_hears_100 fl_12_33 rfl ?_
          refine bv_bipush (v := 90) dX12_hears_103 (by decide) ?_
          refine bv_iload_n dX12_hears_105 1 rfl ?_
          refine bv_iadd dX12_hears_106 ?_
          refine bv_iload dX12_hears_107 4 rfl ?_
          refine bv_iconst (v := 1) dX12_hears_109 (by decide) ?_
          refine bv_iadd dX12_hears_110 ?_
          obtain ⟨r8, h⟩ := bu_ia h
          refine bw_iast hN r8 dX12_hears_111 ?_
          refine bv_aload_n dX12_hears_112 0 rfl ?_
          refine bw_getA (a := a2) hN q1 e3 dX12_hears_113 fl_12_33 rfl ?_
          refine bv_bipush (v := 65) dX12_hears_116 (by decide) ?_
          refine bv_dup2 dX12_hears_118 rfl rfl ?_
          obtain ⟨r9, h⟩ := bu_ia h
          refine bw_iald hN r9 dX12_hears_119 ?_
          refine bv_iconst (v := 1) dX12_hears_120 (by decide) ?_
          refine bv_iload_n dX12_hears_121 1 rfl ?_
          refine bv_ishl dX12_hears_122 ?_
          refine bv_ior dX12_hears_123 ?_
          refine bw_iast hN r9 dX12_hears_124 ?_
          obtain rfl := Option.some.inj h
          exact bv_vret dX12_hears_125 rfl ⟨rfl, rfl⟩
        · replace h := bu_f h cc
          refine bv_aload_n dX12_hears_73 0 rfl ?_
          refine bw_getA (a := a2) hN q1 e3 dX12_hears_74 fl_12_33 rfl ?_
          refine bv_bipush (v := 98) dX12_hears_77 (by decide) ?_
          refine bv_iload_n dX12_hears_79 1 rfl ?_
          refine bv_iadd dX12_hears_80 ?_
          refine bv_bipush (v := 99) dX12_hears_81 (by decide) ?_
          refine bv_aload_n dX12_hears_83 0 rfl ?_
          refine bw_getA (a := a2) hN q1 e3 dX12_hears_84 fl_12_33 rfl ?_
          refine bv_bipush (v := 98) dX12_hears_87 (by decide) ?_
          refine bv_iload_n dX12_hears_89 1 rfl ?_
          refine bv_iadd dX12_hears_90 ?_
          obtain ⟨r10, h⟩ := bu_ia h
          refine bw_iald hN r10 dX12_hears_91 ?_
          refine bv_iconst (v := 1) dX12_hears_92 (by decide) ?_
          refine bv_iadd dX12_hears_93 ?_
          refine bw_callS (As := [.int 99, .int (((bm_sI M a2 (82 + x1).toNatClampNeg 0).1 a2 (98 + x1).toNatClampNeg) + 1)]) dX12_hears_94 mc_12_279 (c_X12_lesser (d := d + 0) hN rfl) rfl rfl (Nat.le_of_ble_eq_true rfl) ?_
          refine bw_iast hN r10 dX12_hears_97 ?_
          obtain rfl := Option.some.inj h
          exact bv_vret dX12_hears_98 rfl ⟨rfl, rfl⟩
      · replace h := bu_t h cc
        obtain rfl := Option.some.inj h
        exact bv_vret dX12_hears_59 rfl ⟨rfl, rfl⟩
    · replace h := bu_t h cc
      refine bv_iload_n dX12_hears_49 2 rfl ?_
      refine bv_goto (tgt := 54) dX12_hears_50 (by decide) ?_
      refine bw_iast hN r5 dX12_hears_54 ?_
      refine bv_iload_n dX12_hears_55 3 rfl ?_
      refine bv_if_ne (tgt := 60) dX12_hears_56 (by decide) (fun cc => ?_) (fun cc => ?_)
      · replace h := bu_f h cc
        refine bv_aload_n dX12_hears_60 0 rfl ?_
        refine bv_iload_n dX12_hears_61 3 rfl ?_
        refine bv_iload_n dX12_hears_62 2 rfl ?_
        obtain ⟨v11, p12, h⟩ := bu_bd h
        refine bw_callV (As := [.int (M.1 a2 (82 + x1).toNatClampNeg), .int x2]) hN q1 ⟨_, _, rfl⟩ dX12_hears_63 mc_12_319 (c_X12_orderBy (d := d + 0) hN p12) rfl rfl (by decide) ?_
        refine bv_istore (ls1 := [(0, .ref x0), (1, .int x1), (2, .int x2), (3, .int (M.1 a2 (82 + x1).toNatClampNeg)), (4, .int v11)]) dX12_hears_66 (by decide) rfl rfl ?_
        refine bv_iload dX12_hears_68 4 rfl ?_
        refine bv_if_ge (tgt := 99) dX12_hears_70 (by decide) (fun cc => ?_) (fun cc => ?_)
        · replace h := bu_t h cc
          refine bv_aload_n dX12_hears_99 0 rfl ?_
          refine bw_getA (a := a2) hN q1 e3 dX12_hears_100 fl_12_33 rfl ?_
          refine bv_bipush (v := 90) dX12_hears_103 (by decide) ?_
          refine bv_iload_n dX12_hears_105 1 rfl ?_
          refine bv_iadd dX12_hears_106 ?_
          refine bv_iload dX12_hears_107 4 rfl ?_
          refine bv_iconst (v := 1) dX12_hears_109 (by decide) ?_
          refine bv_iadd dX12_hears_110 ?_
          obtain ⟨r13, h⟩ := bu_ia h
          refine bw_iast hN r13 dX12_hears_111 ?_
          refine bv_aload_n dX12_hears_112 0 rfl ?_
          refine bw_getA (a := a2) hN q1 e3 dX12_hears_113 fl_12_33 rfl ?_
          refine bv_bipush (v := 65) dX12_hears_116 (by decide) ?_
          refine bv_dup2 dX12_hears_118 rfl rfl ?_
          obtain ⟨r14, h⟩ := bu_ia h
          refine bw_iald hN r14 dX12_hears_119 ?_
          refine bv_iconst (v := 1) dX12_hears_120 (by decide) ?_
          refine bv_iload_n dX12_hears_121 1 rfl ?_
          refine bv_ishl dX12_hears_122 ?_
          refine bv_ior dX12_hears_123 ?_
          refine bw_iast hN r14 dX12_hears_124 ?_
          obtain rfl := Option.some.inj h
          exact bv_vret dX12_hears_125 rfl ⟨rfl, rfl⟩
        · replace h := bu_f h cc
          refine bv_aload_n dX12_hears_73 0 rfl ?_
          refine bw_getA (a := a2) hN q1 e3 dX12_hears_74 fl_12_33 rfl ?_
          refine bv_bipush (v := 98) dX12_hears_77 (by decide) ?_
          refine bv_iload_n dX12_hears_79 1 rfl ?_
          refine bv_iadd dX12_hears_80 ?_
          refine bv_bipush (v := 99) dX12_hears_81 (by decide) ?_
          refine bv_aload_n dX12_hears_83 0 rfl ?_
          refine bw_getA (a := a2) hN q1 e3 dX12_hears_84 fl_12_33 rfl ?_
          refine bv_bipush (v := 98) dX12_hears_87 (by decide) ?_
          refine bv_iload_n dX12_hears_89 1 rfl ?_
          refine bv_iadd dX12_hears_90 ?_
          obtain ⟨r15, h⟩ := bu_ia h
          refine bw_iald hN r15 dX12_hears_91 ?_
          refine bv_iconst (v := 1) dX12_hears_92 (by decide) ?_
          refine bv_iadd dX12_hears_93 ?_
          refine bw_callS (As := [.int 99, .int (((bm_sI M a2 (82 + x1).toNatClampNeg x2).1 a2 (98 + x1).toNatClampNeg) + 1)]) dX12_hears_94 mc_12_279 (c_X12_lesser (d := d + 0) hN rfl) rfl rfl (Nat.le_of_ble_eq_true rfl) ?_
          refine bw_iast hN r15 dX12_hears_97 ?_
          obtain rfl := Option.some.inj h
          exact bv_vret dX12_hears_98 rfl ⟨rfl, rfl⟩
      · replace h := bu_t h cc
        obtain rfl := Option.some.inj h
        exact bv_vret dX12_hears_59 rfl ⟨rfl, rfl⟩
  · replace h := bu_bt h cc
    refine bv_aload_n dX12_hears_14 0 rfl ?_
    refine bw_getA (a := a2) hN q1 e3 dX12_hears_15 fl_12_33 rfl ?_
    refine bv_bipush (v := 90) dX12_hears_18 (by decide) ?_
    refine bv_iload_n dX12_hears_20 1 rfl ?_
    refine bv_iadd dX12_hears_21 ?_
    obtain ⟨r16, h⟩ := bu_ia h
    refine bw_iald hN r16 dX12_hears_22 ?_
    refine bv_if_le (tgt := 27) dX12_hears_23 (by decide) (fun cc => ?_) (fun cc => ?_)
    · replace h := bu_t h cc
      refine bv_aload_n dX12_hears_27 0 rfl ?_
      refine bw_getA (a := a2) hN q1 e3 dX12_hears_28 fl_12_33 rfl ?_
      refine bv_bipush (v := 82) dX12_hears_31 (by decide) ?_
      refine bv_iload_n dX12_hears_33 1 rfl ?_
      refine bv_iadd dX12_hears_34 ?_
      obtain ⟨r17, h⟩ := bu_ia h
      refine bw_iald hN r17 dX12_hears_35 ?_
      refine bv_istore_n (ls1 := [(0, .ref x0), (1, .int x1), (2, .int x2), (3, .int (M.1 a2 (82 + x1).toNatClampNeg))]) dX12_hears_36 (by decide) rfl rfl ?_
      refine bv_aload_n dX12_hears_37 0 rfl ?_
      refine bw_getA (a := a2) hN q1 e3 dX12_hears_38 fl_12_33 rfl ?_
      refine bv_bipush (v := 82) dX12_hears_41 (by decide) ?_
      refine bv_iload_n dX12_hears_43 1 rfl ?_
      refine bv_iadd dX12_hears_44 ?_
      refine bv_iload_n dX12_hears_45 3 rfl ?_
      refine bv_if_ne (tgt := 53) dX12_hears_46 (by decide) (fun cc => ?_) (fun cc => ?_)
      · replace h := bu_f h cc
        refine bv_iconst (v := 0) dX12_hears_53 (by decide) ?_
        refine bw_iast hN r17 dX12_hears_54 ?_
        refine bv_iload_n dX12_hears_55 3 rfl ?_
        refine bv_if_ne (tgt := 60) dX12_hears_56 (by decide) (fun cc => ?_) (fun cc => ?_)
        · replace h := bu_f h cc
          refine bv_aload_n dX12_hears_60 0 rfl ?_
          refine bv_iload_n dX12_hears_61 3 rfl ?_
          refine bv_iload_n dX12_hears_62 2 rfl ?_
          obtain ⟨v18, p19, h⟩ := bu_bd h
          refine bw_callV (As := [.int (M.1 a2 (82 + x1).toNatClampNeg), .int x2]) hN q1 ⟨_, _, rfl⟩ dX12_hears_63 mc_12_319 (c_X12_orderBy (d := d + 0) hN p19) rfl rfl (by decide) ?_
          refine bv_istore (ls1 := [(0, .ref x0), (1, .int x1), (2, .int x2), (3, .int (M.1 a2 (82 + x1).toNatClampNeg)), (4, .int v18)]) dX12_hears_66 (by decide) rfl rfl ?_
          refine bv_iload dX12_hears_68 4 rfl ?_
          refine bv_if_ge (tgt := 99) dX12_hears_70 (by decide) (fun cc => ?_) (fun cc => ?_)
          · replace h := bu_t h cc
            refine bv_aload_n dX12_hears_99 0 rfl ?_
            refine bw_getA (a := a2) hN q1 e3 dX12_hears_100 fl_12_33 rfl ?_
            refine bv_bipush (v := 90) dX12_hears_103 (by decide) ?_
            refine bv_iload_n dX12_hears_105 1 rfl ?_
            refine bv_iadd dX12_hears_106 ?_
            refine bv_iload dX12_hears_107 4 rfl ?_
            refine bv_iconst (v := 1) dX12_hears_109 (by decide) ?_
            refine bv_iadd dX12_hears_110 ?_
            refine bw_iast hN r16 dX12_hears_111 ?_
            refine bv_aload_n dX12_hears_112 0 rfl ?_
            refine bw_getA (a := a2) hN q1 e3 dX12_hears_113 fl_12_33 rfl ?_
            refine bv_bipush (v := 65) dX12_hears_116 (by decide) ?_
            refine bv_dup2 dX12_hears_118 rfl rfl ?_
            obtain ⟨r20, h⟩ := bu_ia h
            refine bw_iald hN r20 dX12_hears_119 ?_
            refine bv_iconst (v := 1) dX12_hears_120 (by decide) ?_
            refine bv_iload_n dX12_hears_121 1 rfl ?_
            refine bv_ishl dX12_hears_122 ?_
            refine bv_ior dX12_hears_123 ?_
            refine bw_iast hN r20 dX12_hears_124 ?_
            obtain rfl := Option.some.inj h
            exact bv_vret dX12_hears_125 rfl ⟨rfl, rfl⟩
          · replace h := bu_f h cc
            refine bv_aload_n dX12_hears_73 0 rfl ?_
            refine bw_getA (a := a2) hN q1 e3 dX12_hears_74 fl_12_33 rfl ?_
            refine bv_bipush (v := 98) dX12_hears_77 (by decide) ?_
            refine bv_iload_n dX12_hears_79 1 rfl ?_
            refine bv_iadd dX12_hears_80 ?_
            refine bv_bipush (v := 99) dX12_hears_81 (by decide) ?_
            refine bv_aload_n dX12_hears_83 0 rfl ?_
            refine bw_getA (a := a2) hN q1 e3 dX12_hears_84 fl_12_33 rfl ?_
            refine bv_bipush (v := 98) dX12_hears_87 (by decide) ?_
            refine bv_iload_n dX12_hears_89 1 rfl ?_
            refine bv_iadd dX12_hears_90 ?_
            obtain ⟨r21, h⟩ := bu_ia h
            refine bw_iald hN r21 dX12_hears_91 ?_
            refine bv_iconst (v := 1) dX12_hears_92 (by decide) ?_
            refine bv_iadd dX12_hears_93 ?_
            refine bw_callS (As := [.int 99, .int (((bm_sI M a2 (82 + x1).toNatClampNeg 0).1 a2 (98 + x1).toNatClampNeg) + 1)]) dX12_hears_94 mc_12_279 (c_X12_lesser (d := d + 0) hN rfl) rfl rfl (Nat.le_of_ble_eq_true rfl) ?_
            refine bw_iast hN r21 dX12_hears_97 ?_
            obtain rfl := Option.some.inj h
            exact bv_vret dX12_hears_98 rfl ⟨rfl, rfl⟩
        · replace h := bu_t h cc
          obtain rfl := Option.some.inj h
          exact bv_vret dX12_hears_59 rfl ⟨rfl, rfl⟩
      · replace h := bu_t h cc
        refine bv_iload_n dX12_hears_49 2 rfl ?_
        refine bv_goto (tgt := 54) dX12_hears_50 (by decide) ?_
        refine bw_iast hN r17 dX12_hears_54 ?_
        refine bv_iload_n dX12_hears_55 3 rfl ?_
        refine bv_if_ne (tgt := 60) dX12_hears_56 (by decide) (fun cc => ?_) (fun cc => ?_)
        · replace h := bu_f h cc
          refine bv_aload_n dX12_hears_60 0 rfl ?_
          refine bv_iload_n dX12_hears_61 3 rfl ?_
          refine bv_iload_n dX12_hears_62 2 rfl ?_
          obtain ⟨v22, p23, h⟩ := bu_bd h
          refine bw_callV (As := [.int (M.1 a2 (82 + x1).toNatClampNeg), .int x2]) hN q1 ⟨_, _, rfl⟩ dX12_hears_63 mc_12_319 (c_X12_orderBy (d := d + 0) hN p23) rfl rfl (by decide) ?_
          refine bv_istore (ls1 := [(0, .ref x0), (1, .int x1), (2, .int x2), (3, .int (M.1 a2 (82 + x1).toNatClampNeg)), (4, .int v22)]) dX12_hears_66 (by decide) rfl rfl ?_
          refine bv_iload dX12_hears_68 4 rfl ?_
          refine bv_if_ge (tgt := 99) dX12_hears_70 (by decide) (fun cc => ?_) (fun cc => ?_)
          · replace h := bu_t h cc
            refine bv_aload_n dX12_hears_99 0 rfl ?_
            refine bw_getA (a := a2) hN q1 e3 dX12_hears_100 fl_12_33 rfl ?_
            refine bv_bipush (v := 90) dX12_hears_103 (by decide) ?_
            refine bv_iload_n dX12_hears_105 1 rfl ?_
            refine bv_iadd dX12_hears_106 ?_
            refine bv_iload dX12_hears_107 4 rfl ?_
            refine bv_iconst (v := 1) dX12_hears_109 (by decide) ?_
            refine bv_iadd dX12_hears_110 ?_
            refine bw_iast hN r16 dX12_hears_111 ?_
            refine bv_aload_n dX12_hears_112 0 rfl ?_
            refine bw_getA (a := a2) hN q1 e3 dX12_hears_113 fl_12_33 rfl ?_
            refine bv_bipush (v := 65) dX12_hears_116 (by decide) ?_
            refine bv_dup2 dX12_hears_118 rfl rfl ?_
            obtain ⟨r24, h⟩ := bu_ia h
            refine bw_iald hN r24 dX12_hears_119 ?_
            refine bv_iconst (v := 1) dX12_hears_120 (by decide) ?_
            refine bv_iload_n dX12_hears_121 1 rfl ?_
            refine bv_ishl dX12_hears_122 ?_
            refine bv_ior dX12_hears_123 ?_
            refine bw_iast hN r24 dX12_hears_124 ?_
            obtain rfl := Option.some.inj h
            exact bv_vret dX12_hears_125 rfl ⟨rfl, rfl⟩
          · replace h := bu_f h cc
            refine bv_aload_n dX12_hears_73 0 rfl ?_
            refine bw_getA (a := a2) hN q1 e3 dX12_hears_74 fl_12_33 rfl ?_
            refine bv_bipush (v := 98) dX12_hears_77 (by decide) ?_
            refine bv_iload_n dX12_hears_79 1 rfl ?_
            refine bv_iadd dX12_hears_80 ?_
            refine bv_bipush (v := 99) dX12_hears_81 (by decide) ?_
            refine bv_aload_n dX12_hears_83 0 rfl ?_
            refine bw_getA (a := a2) hN q1 e3 dX12_hears_84 fl_12_33 rfl ?_
            refine bv_bipush (v := 98) dX12_hears_87 (by decide) ?_
            refine bv_iload_n dX12_hears_89 1 rfl ?_
            refine bv_iadd dX12_hears_90 ?_
            obtain ⟨r25, h⟩ := bu_ia h
            refine bw_iald hN r25 dX12_hears_91 ?_
            refine bv_iconst (v := 1) dX12_hears_92 (by decide) ?_
            refine bv_iadd dX12_hears_93 ?_
            refine bw_callS (As := [.int 99, .int (((bm_sI M a2 (82 + x1).toNatClampNeg x2).1 a2 (98 + x1).toNatClampNeg) + 1)]) dX12_hears_94 mc_12_279 (c_X12_lesser (d := d + 0) hN rfl) rfl rfl (Nat.le_of_ble_eq_true rfl) ?_
            refine bw_iast hN r25 dX12_hears_97 ?_
            obtain rfl := Option.some.inj h
            exact bv_vret dX12_hears_98 rfl ⟨rfl, rfl⟩
        · replace h := bu_t h cc
          obtain rfl := Option.some.inj h
          exact bv_vret dX12_hears_59 rfl ⟨rfl, rfl⟩
    · replace h := bu_f h cc
      obtain rfl := Option.some.inj h
      exact bv_vret dX12_hears_26 rfl ⟨rfl, rfl⟩
