def f_X2_countWrong_l5 (M : bm_M) (x0 : Nat) (x1 : Int32) (x2 : Int32) : Nat → Int32 → Int32 → Option (Int32)
  | 0, _, _ => none
  | k + 1, x3, x4 => (if bm_io x0 9 then (if (M.1 x0 1) ≤ x4 then some x3 else ((M.2.2 x0 0).bind fun a2 => (if bm_ia a2 0 x4 = true then (if (M.1 a2 x4.toNatClampNeg) = 0 then f_X2_countWrong_l5 M x0 x1 x2 k x3 (x4 + 1) else (if (bm_rem x4 2) = 0 then (if (M.1 a2 x4.toNatClampNeg) = x1 then f_X2_countWrong_l5 M x0 x1 x2 k x3 (x4 + 1) else f_X2_countWrong_l5 M x0 x1 x2 k (x3 + 1) (x4 + 1)) else (if (M.1 a2 x4.toNatClampNeg) = x2 then f_X2_countWrong_l5 M x0 x1 x2 k x3 (x4 + 1) else f_X2_countWrong_l5 M x0 x1 x2 k (x3 + 1) (x4 + 1)))) else none))) else none)
set_option maxHeartbeats 4000000 in
set_option maxRecDepth 100000 in
theorem v_X2_countWrong_l5 {L : bm_L} {d n : Nat} {Q : Option Value → bm_M → Prop} {M : bm_M} {x0 : Nat} {x1 : Int32} {x2 : Int32} (hN : 181 ≤ n) : ∀ (k : Nat) (x3 : Int32) (x4 : Int32) (r : Int32), f_X2_countWrong_l5 M x0 x1 x2 k x3 x4 = some r → (∀ yy, yy = r → bm_V L m_X2_countWrong d n n n 54 [(3, .int yy)] [] M Q) → bm_V L m_X2_countWrong d n n n 5 [(0, .ref x0), (1, .int x1), (2, .int x2), (3, .int x3), (4, .int x4)] [] M Q := by
  intro k
  induction k with
  | zero => intro x3 x4 r h; cases (show (none : Option (Int32)) = some r from h)
  | succ k ih =>
    intro x3 x4 r h K0
    unfold f_X2_countWrong_l5 at h
    refine bv_iload dX2_countWrong_5 4 rfl ?_
    refine bv_aload_n dX2_countWrong_7 0 rfl ?_
    obtain ⟨q1, h⟩ := bu_io h
    refine bw_getI hN q1 dX2_countWrong_8 fl_2_27 rfl ?_
    refine bv_icmp_ge (tgt := 54) dX2_countWrong_11 (by decide) (fun cc => ?_) (fun cc => ?_)
    · replace h := bu_t h cc
      refine bw_ls (ls1 := [(3, .int x3)]) [3] rfl ?_
      obtain rfl := Option.some.inj h
      exact K0 _ rfl
    · replace h := bu_f h cc
      refine bv_aload_n dX2_countWrong_14 0 rfl ?_
      obtain ⟨a2, e3, h⟩ := bu_bd h
      refine bw_getA (a := a2) hN q1 e3 dX2_countWrong_15 fl_2_51 rfl ?_
      refine bv_iload dX2_countWrong_18 4 rfl ?_
      obtain ⟨r4, h⟩ := bu_ia h
      refine bw_iald hN r4 dX2_countWrong_20 ?_
      refine bv_istore (ls1 := [(0, .ref x0), (1, .int x1), (2, .int x2), (3, .int x3), (4, .int x4), (5, .int (M.1 a2 x4.toNatClampNeg))]) dX2_countWrong_21 (by decide) rfl rfl ?_
      refine bv_iload dX2_countWrong_23 5 rfl ?_
      refine bv_if_eq (tgt := 48) dX2_countWrong_25 (by decide) (fun cc => ?_) (fun cc => ?_)
      · replace h := bu_t h cc
        refine bv_iinc (j := 4) (v := (x4 + 1)) (ls1 := [(0, .ref x0), (1, .int x1), (2, .int x2), (3, .int x3), (4, .int (x4 + 1)), (5, .int (M.1 a2 x4.toNatClampNeg))]) dX2_countWrong_48 rfl rfl (by decide) rfl rfl ?_
        refine bv_goto (tgt := 5) dX2_countWrong_51 (by decide) ?_
        refine bw_ls (ls1 := [(0, .ref x0), (1, .int x1), (2, .int x2), (3, .int x3), (4, .int (x4 + 1))]) [0, 1, 2, 3, 4] rfl ?_
        exact ih _ _ _ h K0
      · replace h := bu_f h cc
        refine bv_iload dX2_countWrong_28 5 rfl ?_
        refine bv_iload dX2_countWrong_30 4 rfl ?_
        refine bv_iconst (v := 2) dX2_countWrong_32 (by decide) ?_
        refine bv_irem dX2_countWrong_33 (by decide) ?_
        refine bv_if_ne (tgt := 41) dX2_countWrong_34 (by decide) (fun cc => ?_) (fun cc => ?_)
        · replace h := bu_f h cc
          refine bv_iload_n dX2_countWrong_41 2 rfl ?_
          refine bv_icmp_eq (tgt := 48) dX2_countWrong_42 (by decide) (fun cc => ?_) (fun cc => ?_)
          · replace h := bu_t h cc
            refine bv_iinc (j := 4) (v := (x4 + 1)) (ls1 := [(0, .ref x0), (1, .int x1), (2, .int x2), (3, .int x3), (4, .int (x4 + 1)), (5, .int (M.1 a2 x4.toNatClampNeg))]) dX2_countWrong_48 rfl rfl (by decide) rfl rfl ?_
            refine bv_goto (tgt := 5) dX2_countWrong_51 (by decide) ?_
            refine bw_ls (ls1 := [(0, .ref x0), (1, .int x1), (2, .int x2), (3, .int x3), (4, .int (x4 + 1))]) [0, 1, 2, 3, 4] rfl ?_
            exact ih _ _ _ h K0
          · replace h := bu_f h cc
            refine bv_iinc (j := 3) (v := (x3 + 1)) (ls1 := [(0, .ref x0), (1, .int x1), (2, .int x2), (3, .int (x3 + 1)), (4, .int x4), (5, .int (M.1 a2 x4.toNatClampNeg))]) dX2_countWrong_45 rfl rfl (by decide) rfl rfl ?_
            refine bv_iinc (j := 4) (v := (x4 + 1)) (ls1 := [(0, .ref x0), (1, .int x1), (2, .int x2), (3, .int (x3 + 1)), (4, .int (x4 + 1)), (5, .int (M.1 a2 x4.toNatClampNeg))]) dX2_countWrong_48 rfl rfl (by decide) rfl rfl ?_
            refine bv_goto (tgt := 5) dX2_countWrong_51 (by decide) ?_
            refine bw_ls (ls1 := [(0, .ref x0), (1, .int x1), (2, .int x2), (3, .int (x3 + 1)), (4, .int (x4 + 1))]) [0, 1, 2, 3, 4] rfl ?_
            exact ih _ _ _ h K0
        · replace h := bu_t h cc
          refine bv_iload_n dX2_countWrong_37 1 rfl ?_
          refine bv_goto (tgt := 42) dX2_countWrong_38 (by decide) ?_
          refine bv_icmp_eq (tgt := 48) dX2_countWrong_42 (by decide) (fun cc => ?_) (fun cc => ?_)
          · replace h := bu_t h cc
            refine bv_iinc (j := 4) (v := (x4 + 1)) (ls1 := [(0, .ref x0), (1, .int x1), (2, .int x2), (3, .int x3), (4, .int (x4 + 1)), (5, .int (M.1 a2 x4.toNatClampNeg))]) dX2_countWrong_48 rfl rfl (by decide) rfl rfl ?_
            refine bv_goto (tgt := 5) dX2_countWrong_51 (by decide) ?_
            refine bw_ls (ls1 := [(0, .ref x0), (1, .int x1), (2, .int x2), (3, .int x3), (4, .int (x4 + 1))]) [0, 1, 2, 3, 4] rfl ?_
            exact ih _ _ _ h K0
          · replace h := bu_f h cc
            refine bv_iinc (j := 3) (v := (x3 + 1)) (ls1 := [(0, .ref x0), (1, .int x1), (2, .int x2), (3, .int (x3 + 1)), (4, .int x4), (5, .int (M.1 a2 x4.toNatClampNeg))]) dX2_countWrong_45 rfl rfl (by decide) rfl rfl ?_
            refine bv_iinc (j := 4) (v := (x4 + 1)) (ls1 := [(0, .ref x0), (1, .int x1), (2, .int x2), (3, .int (x3 + 1)), (4, .int (x4 + 1)), (5, .int (M.1 a2 x4.toNatClampNeg))]) dX2_countWrong_48 rfl rfl (by decide) rfl rfl ?_
            refine bv_goto (tgt := 5) dX2_countWrong_51 (by decide) ?_
            refine bw_ls (ls1 := [(0, .ref x0), (1, .int x1), (2, .int x2), (3, .int (x3 + 1)), (4, .int (x4 + 1))]) [0, 1, 2, 3, 4] rfl ?_
            exact ih _ _ _ h K0
def f_X2_countWrong (M : bm_M) (x0 : Nat) (x1 : Int32) (x2 : Int32) : Option (Int32) := ((f_X2_countWrong_l5 M x0 x1 x2 1000 0 0).bind fun y3 => some y3)
set_option maxHeartbeats 4000000 in
set_option maxRecDepth 100000 in
theorem c_X2_countWrong {L : bm_L} {d n : Nat} {M : bm_M} {x0 : Nat} {x1 : Int32} {x2 : Int32} {v : Int32} (hN : 181 ≤ n) (h : f_X2_countWrong M x0 x1 x2 = some v) : bm_C L m_X2_countWrong d n n [.ref x0, .int x1, .int x2] M (fun r M' => r = some (.int v) ∧ M' = M) := by
  refine bm_C.ofV (by decide) (Nat.le_of_ble_eq_true rfl) ?_
  show bm_V L m_X2_countWrong d n n n 0 [(0, .ref x0), (1, .int x1), (2, .int x2)] [] M _
  unfold f_X2_countWrong at h
  refine bv_iconst (v := 0) dX2_countWrong_0 (by decide) ?_
  refine bv_istore_n (ls1 := [(0, .ref x0), (1, .int x1), (2, .int x2), (3, .int 0)]) dX2_countWrong_1 (by decide) rfl rfl ?_
  refine bv_iconst (v := 0) dX2_countWrong_2 (by decide) ?_
  refine bv_istore (ls1 := [(0, .ref x0), (1, .int x1), (2, .int x2), (3, .int 0), (4, .int 0)]) dX2_countWrong_3 (by decide) rfl rfl ?_
  obtain ⟨r1, p2, h⟩ := bu_bd h
  refine v_X2_countWrong_l5 hN 1000 _ _ _ p2 (fun y3 hy => ?_)
  · subst hy
    refine bv_iload_n dX2_countWrong_54 0 rfl ?_
    obtain rfl := Option.some.inj h
    exact bv_iret (x := y3) dX2_countWrong_55 rfl ⟨rfl, rfl⟩
def f_X9_isPairs (M : bm_M) (x0 : Nat) (x1 : Int32) : Option (Bool) := (if bm_io x0 9 then (if (M.1 x0 1) < 2 then some false else (if (2 * x1) < (M.1 x0 1) then some false else (if (bm_rem (M.1 x0 1) 2) = 0 then some true else some false))) else none)
set_option maxHeartbeats 4000000 in
set_option maxRecDepth 100000 in
theorem c_X9_isPairs {L : bm_L} {d n : Nat} {M : bm_M} {x0 : Nat} {x1 : Int32} {v : Bool} (hN : 181 ≤ n) (h : f_X9_isPairs M x0 x1 = some v) : bm_C L m_X9_isPairs d n n [.ref x0, .int x1] M (fun r M' => r = some (.int (bm_bi v)) ∧ M' = M) := by
  refine bm_C.ofV (by decide) (Nat.le_of_ble_eq_true rfl) ?_
  show bm_V L m_X9_isPairs d n n n 0 [(0, .ref x0), (1, .int x1)] [] M _
  unfold f_X9_isPairs at h
  refine bv_aload_n dX9_isPairs_0 0 rfl ?_
  obtain ⟨q1, h⟩ := bu_io h
  refine bw_getI hN q1 dX9_isPairs_1 fl_9_15 rfl ?_
  refine bv_iconst (v := 2) dX9_isPairs_4 (by decide) ?_
  refine bv_icmp_lt (tgt := 31) dX9_isPairs_5 (by decide) (fun cc => ?_) (fun cc => ?_)
  · replace h := bu_t h cc
    refine bv_iconst (v := 0) dX9_isPairs_31 (by decide) ?_
    obtain rfl := Option.some.inj h
    exact bw_bret (b := false) dX9_isPairs_32 rfl ⟨rfl, rfl⟩
  · replace h := bu_f h cc
    refine bv_aload_n dX9_isPairs_8 0 rfl ?_
    refine bw_getI hN q1 dX9_isPairs_9 fl_9_15 rfl ?_
    refine bv_iconst (v := 2) dX9_isPairs_12 (by decide) ?_
    refine bv_iload_n dX9_isPairs_13 1 rfl ?_
    refine bv_imul dX9_isPairs_14 ?_
    refine bv_icmp_gt (tgt := 31) dX9_isPairs_15 (by decide) (fun cc => ?_) (fun cc => ?_)
    · replace h := bu_t h cc
      refine bv_iconst (v := 0) dX9_isPairs_31 (by decide) ?_
      obtain rfl := Option.some.inj h
      exact bw_bret (b := false) dX9_isPairs_32 rfl ⟨rfl, rfl⟩
    · replace h := bu_f h cc
      refine bv_aload_n dX9_isPairs_18 0 rfl ?_
      refine bw_getI hN q1 dX9_isPairs_19 fl_9_15 rfl ?_
      refine bv_iconst (v := 2) dX9_isPairs_22 (by decide) ?_
      refine bv_irem dX9_isPairs_23 (by decide) ?_
      refine bv_if_ne (tgt := 31) dX9_isPairs_24 (by decide) (fun cc => ?_) (fun cc => ?_)
      · replace h := bu_f h cc
        refine bv_iconst (v := 0) dX9_isPairs_31 (by decide) ?_
        obtain rfl := Option.some.inj h
        exact bw_bret (b := false) dX9_isPairs_32 rfl ⟨rfl, rfl⟩
      · replace h := bu_t h cc
        refine bv_iconst (v := 1) dX9_isPairs_27 (by decide) ?_
        refine bv_goto (tgt := 32) dX9_isPairs_28 (by decide) ?_
        obtain rfl := Option.some.inj h
        exact bw_bret (b := true) dX9_isPairs_32 rfl ⟨rfl, rfl⟩
def f_X2_isAsTold_l13 (M : bm_M) (x0 : Nat) : Nat → Int32 → Option (((Unit) ⊕ (Unit)))
  | 0, _ => none
  | k + 1, x1 => (if (M.1 x0 1) ≤ x1 then some (Sum.inr ()) else ((M.2.2 x0 0).bind fun a1 => (if bm_ia a1 0 x1 = true then (if (M.1 a1 x1.toNatClampNeg) ≤ 3 then f_X2_isAsTold_l13 M x0 k (x1 + 1) else some (Sum.inl ())) else none)))
set_option maxHeartbeats 4000000 in
set_option maxRecDepth 100000 in
theorem v_X2_isAsTold_l13 {L : bm_L} {d n : Nat} {Q : Option Value → bm_M → Prop} {M : bm_M} {x0 : Nat} (hN : 181 ≤ n) (q_0 : bm_OK x0 9) : ∀ (k : Nat) (x1 : Int32) (r : ((Unit) ⊕ (Unit))), f_X2_isAsTold_l13 M x0 k x1 = some r → (∀ yy, (Sum.inl yy) = r → bm_V L m_X2_isAsTold (d + 1) n n n 31 [] [] M Q) → (∀ yy, (Sum.inr yy) = r → bm_V L m_X2_isAsTold (d + 1) n n n 39 [] [] M Q) → bm_V L m_X2_isAsTold (d + 1) n n n 13 [(0, .ref x0), (1, .int x1)] [] M Q := by
  intro k
  induction k with
  | zero => intro x1 r h; cases (show (none : Option (((Unit) ⊕ (Unit)))) = some r from h)
  | succ k ih =>
    intro x1 r h K0 K1
    unfold f_X2_isAsTold_l13 at h
    refine bv_iload_n dX2_isAsTold_13 1 rfl ?_
    refine bv_aload_n dX2_isAsTold_14 0 rfl ?_
    refine bw_getI hN q_0 dX2_isAsTold_15 fl_2_27 rfl ?_
    refine bv_icmp_ge (tgt := 39) dX2_isAsTold_18 (by decide) (fun cc => ?_) (fun cc => ?_)
    · replace h := bu_t h cc
      refine bw_ls (ls1 := []) [] rfl ?_
      obtain rfl := Option.some.inj h
      exact K1 _ rfl
    · replace h := bu_f h cc
      refine bv_aload_n dX2_isAsTold_21 0 rfl ?_
      obtain ⟨a1, e2, h⟩ := bu_bd h
      refine bw_getA (a := a1) hN q_0 e2 dX2_isAsTold_22 fl_2_51 rfl ?_
      refine bv_iload_n dX2_isAsTold_25 1 rfl ?_
      obtain ⟨r3, h⟩ := bu_ia h
      refine bw_iald hN r3 dX2_isAsTold_26 ?_
      refine bv_iconst (v := 3) dX2_isAsTold_27 (by decide) ?_
      refine bv_icmp_le (tgt := 33) dX2_isAsTold_28 (by decide) (fun cc => ?_) (fun cc => ?_)
      · replace h := bu_t h cc
        refine bv_iinc (j := 1) (v := (x1 + 1)) (ls1 := [(0, .ref x0), (1, .int (x1 + 1))]) dX2_isAsTold_33 rfl rfl (by decide) rfl rfl ?_
        refine bv_goto (tgt := 13) dX2_isAsTold_36 (by decide) ?_
        exact ih _ _ h K0 K1
      · replace h := bu_f h cc
        refine bw_ls (ls1 := []) [] rfl ?_
        obtain rfl := Option.some.inj h
        exact K0 _ rfl
def f_X2_isAsTold (M : bm_M) (x0 : Nat) : Option (Bool) := (if bm_io x0 9 then ((f_X9_isPairs M x0 6).bind fun v2 => (if v2 = true then ((f_X2_isAsTold_l13 M x0 1000 0).bind fun rr => match rr with | (Sum.inl y6) => some false | (Sum.inr y6) => some true) else some false)) else none)
set_option maxHeartbeats 4000000 in
set_option maxRecDepth 100000 in
theorem c_X2_isAsTold {L : bm_L} {d n : Nat} {M : bm_M} {x0 : Nat} {v : Bool} (hN : 181 ≤ n) (h : f_X2_isAsTold M x0 = some v) : bm_C L m_X2_isAsTold (d + 1) n n [.ref x0] M (fun r M' => r = some (.int (bm_bi v)) ∧ M' = M) := by
  refine bm_C.ofV (by decide) (Nat.le_of_ble_eq_true rfl) ?_
  show bm_V L m_X2_isAsTold (d + 1) n n n 0 [(0, .ref x0)] [] M _
  unfold f_X2_isAsTold at h
  refine bv_aload_n dX2_isAsTold_0 0 rfl ?_
  refine bv_bipush (v := 6) dX2_isAsTold_1 (by decide) ?_
  obtain ⟨q1, h⟩ := bu_io h
  obtain ⟨v2, p3, h⟩ := bu_bd h
  refine bw_callV (As := [.int 6]) hN q1 ⟨_, _, rfl⟩ dX2_isAsTold_3 mc_2_47 (c_X9_isPairs (d := d + 0) hN p3) rfl rfl (by decide) ?_
  refine bw_ifB_ne (b := v2) (tgt := 11) dX2_isAsTold_6 (by decide) (fun cc => ?_) (fun cc => ?_)
  · replace h := bu_bt h cc
    refine bv_iconst (v := 0) dX2_isAsTold_11 (by decide) ?_
    refine bv_istore_n (ls1 := [(0, .ref x0), (1, .int 0)]) dX2_isAsTold_12 (by decide) rfl rfl ?_
    obtain ⟨r4, p5, h⟩ := bu_bd h
    refine v_X2_isAsTold_l13 hN q1 1000 _ _ p5 (fun y6 hy => ?_) (fun y6 hy => ?_)
    · subst hy
      refine bv_iconst (v := 0) dX2_isAsTold_31 (by decide) ?_
      obtain rfl := Option.some.inj h
      exact bw_bret (b := false) dX2_isAsTold_32 rfl ⟨rfl, rfl⟩
    · subst hy
      refine bv_iconst (v := 1) dX2_isAsTold_39 (by decide) ?_
      obtain rfl := Option.some.inj h
      exact bw_bret (b := true) dX2_isAsTold_40 rfl ⟨rfl, rfl⟩
  · replace h := bu_bf h cc
    refine bv_iconst (v := 0) dX2_isAsTold_9 (by decide) ?_
    obtain rfl := Option.some.inj h
    exact bw_bret (b := false) dX2_isAsTold_10 rfl ⟨rfl, rfl⟩
def f_X11_bit (x0 : Int32) (x1 : Int32) : Int32 := ((bm_ishr x0 x1) &&& 1)
set_option maxHeartbeats 4000000 in
set_option maxRecDepth 100000 in
theorem c_X11_bit {L : bm_L} {d n : Nat} {M : bm_M} {x0 : Int32} {x1 : Int32} {v : Int32} (hN : 181 ≤ n) (h : f_X11_bit x0 x1 = v) : bm_C L m_X11_bit d n n [.int x0, .int x1] M (fun r M' => r = some (.int v) ∧ M' = M) := by
  refine bm_C.ofV (by decide) (Nat.le_of_ble_eq_true rfl) ?_
  show bm_V L m_X11_bit d n n n 0 [(0, .int x0), (1, .int x1)] [] M _
  unfold f_X11_bit at h
  refine bv_iload_n dX11_bit_0 0 rfl ?_
  refine bv_iload_n dX11_bit_1 1 rfl ?_
  refine bv_ishr dX11_bit_2 ?_
  refine bv_iconst (v := 1) dX11_bit_3 (by decide) ?_
  refine bv_iand dX11_bit_4 ?_
  subst h
  exact bv_iret (x := ((bm_ishr x0 x1) &&& 1)) dX11_bit_5 rfl ⟨rfl, rfl⟩
def f_X2_mostLeft_l17 (M : bm_M) (x0 : Int32) (x1 : Nat) (x2 : Int32) (x3 : Int32) (x4 : Int32) : Nat → Int32 → Int32 → Option (Int32)
  | 0, _, _ => none
  | k + 1, x5, x6 => (if x2 ≤ x6 then some x5 else (if (f_X11_bit x0 x6) = 1 then (if bm_ia x1 0 x6 = true then (if (M.1 x1 x6.toNatClampNeg) = x4 then f_X2_mostLeft_l17 M x0 x1 x2 x3 x4 k (x5 + 1) (x6 + 1) else f_X2_mostLeft_l17 M x0 x1 x2 x3 x4 k x5 (x6 + 1)) else none) else f_X2_mostLeft_l17 M x0 x1 x2 x3 x4 k x5 (x6 + 1)))
set_option maxHeartbeats 4000000 in
set_option maxRecDepth 100000 in
theorem v_X2_mostLeft_l17 {L : bm_L} {d n : Nat} {Q : Option Value → bm_M → Prop} {M : bm_M} {x0 : Int32} {x1 : Nat} {x2 : Int32} {x3 : Int32} {x4 : Int32} (hN : 181 ≤ n) : ∀ (k : Nat) (x5 : Int32) (x6 : Int32) (r : Int32), f_X2_mostLeft_l17 M x0 x1 x2 x3 x4 k x5 x6 = some r → (∀ yy, yy = r → bm_V L m_X2_mostLeft (d + 1) n n n 51 [(0, .int x0), (1, .ref x1), (2, .int x2), (3, .int x3), (4, .int x4), (5, .int yy)] [] M Q) → bm_V L m_X2_mostLeft (d + 1) n n n 17 [(0, .int x0), (1, .ref x1), (2, .int x2), (3, .int x3), (4, .int x4), (5, .int x5), (6, .int x6)] [] M Q := by
  intro k
  induction k with
  | zero => intro x5 x6 r h; cases (show (none : Option (Int32)) = some r from h)
  | succ k ih =>
    intro x5 x6 r h K0
    unfold f_X2_mostLeft_l17 at h
    refine bv_iload dX2_mostLeft_17 6 rfl ?_
    refine bv_iload_n dX2_mostLeft_19 2 rfl ?_
    refine bv_icmp_ge (tgt := 51) dX2_mostLeft_20 (by decide) (fun cc => ?_) (fun cc => ?_)
    · replace h := bu_t h cc
      refine bw_ls (ls1 := [(0, .int x0), (1, .ref x1), (2, .int x2), (3, .int x3), (4, .int x4), (5, .int x5)]) [0, 1, 2, 3, 4, 5] rfl ?_
      obtain rfl := Option.some.inj h
      exact K0 _ rfl
    · replace h := bu_f h cc
      refine bv_iload_n dX2_mostLeft_23 0 rfl ?_
      refine bv_iload dX2_mostLeft_24 6 rfl ?_
      refine bw_callSN (As := [.int x0, .int x6]) dX2_mostLeft_26 mc_2_54 (c_X11_bit (d := d + 0) hN rfl) rfl rfl (by decide) ?_
      refine bv_iconst (v := 1) dX2_mostLeft_29 (by decide) ?_
      refine bv_icmp_ne (tgt := 45) dX2_mostLeft_30 (by decide) (fun cc => ?_) (fun cc => ?_)
      · replace h := bu_f h cc
        refine bv_iinc (j := 6) (v := (x6 + 1)) (ls1 := [(0, .int x0), (1, .ref x1), (2, .int x2), (3, .int x3), (4, .int x4), (5, .int x5), (6, .int (x6 + 1))]) dX2_mostLeft_45 rfl rfl (by decide) rfl rfl ?_
        refine bv_goto (tgt := 17) dX2_mostLeft_48 (by decide) ?_
        exact ih _ _ _ h K0
      · replace h := bu_t h cc
        refine bv_aload_n dX2_mostLeft_33 1 rfl ?_
        refine bv_iload dX2_mostLeft_34 6 rfl ?_
        obtain ⟨r1, h⟩ := bu_ia h
        refine bw_iald hN r1 dX2_mostLeft_36 ?_
        refine bv_iload dX2_mostLeft_37 4 rfl ?_
        refine bv_icmp_ne (tgt := 45) dX2_mostLeft_39 (by decide) (fun cc => ?_) (fun cc => ?_)
        · replace h := bu_f h cc
          refine bv_iinc (j := 6) (v := (x6 + 1)) (ls1 := [(0, .int x0), (1, .ref x1), (2, .int x2), (3, .int x3), (4, .int x4), (5, .int x5), (6, .int (x6 + 1))]) dX2_mostLeft_45 rfl rfl (by decide) rfl rfl ?_
          refine bv_goto (tgt := 17) dX2_mostLeft_48 (by decide) ?_
          exact ih _ _ _ h K0
        · replace h := bu_t h cc
          refine bv_iinc (j := 5) (v := (x5 + 1)) (ls1 := [(0, .int x0), (1, .ref x1), (2, .int x2), (3, .int x3), (4, .int x4), (5, .int (x5 + 1)), (6, .int x6)]) dX2_mostLeft_42 rfl rfl (by decide) rfl rfl ?_
          refine bv_iinc (j := 6) (v := (x6 + 1)) (ls1 := [(0, .int x0), (1, .ref x1), (2, .int x2), (3, .int x3), (4, .int x4), (5, .int (x5 + 1)), (6, .int (x6 + 1))]) dX2_mostLeft_45 rfl rfl (by decide) rfl rfl ?_
          refine bv_goto (tgt := 17) dX2_mostLeft_48 (by decide) ?_
          exact ih _ _ _ h K0
def f_X2_mostLeft_l5 (M : bm_M) (x0 : Int32) (x1 : Nat) (x2 : Int32) : Nat → Int32 → Int32 → Option (Int32)
  | 0, _, _ => none
  | k + 1, x3, x4 => (if 3 < x4 then some x3 else ((f_X2_mostLeft_l17 M x0 x1 x2 x3 x4 1000 0 0).bind fun y3 => f_X2_mostLeft_l5 M x0 x1 x2 k (bm_max x3 y3) (x4 + 1)))
set_option maxHeartbeats 4000000 in
set_option maxRecDepth 100000 in
theorem v_X2_mostLeft_l5 {L : bm_L} {d n : Nat} {Q : Option Value → bm_M → Prop} {M : bm_M} {x0 : Int32} {x1 : Nat} {x2 : Int32} (hN : 181 ≤ n) : ∀ (k : Nat) (x3 : Int32) (x4 : Int32) (r : Int32), f_X2_mostLeft_l5 M x0 x1 x2 k x3 x4 = some r → (∀ yy, yy = r → bm_V L m_X2_mostLeft (d + 1) n n n 64 [(3, .int yy)] [] M Q) → bm_V L m_X2_mostLeft (d + 1) n n n 5 [(0, .int x0), (1, .ref x1), (2, .int x2), (3, .int x3), (4, .int x4)] [] M Q := by
  intro k
  induction k with
  | zero => intro x3 x4 r h; cases (show (none : Option (Int32)) = some r from h)
  | succ k ih =>
    intro x3 x4 r h K0
    unfold f_X2_mostLeft_l5 at h
    refine bv_iload dX2_mostLeft_5 4 rfl ?_
    refine bv_iconst (v := 3) dX2_mostLeft_7 (by decide) ?_
    refine bv_icmp_gt (tgt := 64) dX2_mostLeft_8 (by decide) (fun cc => ?_) (fun cc => ?_)
    · replace h := bu_t h cc
      refine bw_ls (ls1 := [(3, .int x3)]) [3] rfl ?_
      obtain rfl := Option.some.inj h
      exact K0 _ rfl
    · replace h := bu_f h cc
      refine bv_iconst (v := 0) dX2_mostLeft_11 (by decide) ?_
      refine bv_istore (ls1 := [(0, .int x0), (1, .ref x1), (2, .int x2), (3, .int x3), (4, .int x4), (5, .int 0)]) dX2_mostLeft_12 (by decide) rfl rfl ?_
      refine bv_iconst (v := 0) dX2_mostLeft_14 (by decide) ?_
      refine bv_istore (ls1 := [(0, .int x0), (1, .ref x1), (2, .int x2), (3, .int x3), (4, .int x4), (5, .int 0), (6, .int 0)]) dX2_mostLeft_15 (by decide) rfl rfl ?_
      obtain ⟨r1, p2, h⟩ := bu_bd h
      refine v_X2_mostLeft_l17 hN 1000 _ _ _ p2 (fun y3 hy => ?_)
      · subst hy
        refine bv_iload_n dX2_mostLeft_51 3 rfl ?_
        refine bv_iload dX2_mostLeft_52 5 rfl ?_
        refine bv_mmax dX2_mostLeft_54 mw_2_58 (by decide) (Nat.le_refl n) ?_
        refine bv_istore_n (ls1 := [(0, .int x0), (1, .ref x1), (2, .int x2), (3, .int (bm_max x3 y3)), (4, .int x4), (5, .int y3)]) dX2_mostLeft_57 (by decide) rfl rfl ?_
        refine bv_iinc (j := 4) (v := (x4 + 1)) (ls1 := [(0, .int x0), (1, .ref x1), (2, .int x2), (3, .int (bm_max x3 y3)), (4, .int (x4 + 1)), (5, .int y3)]) dX2_mostLeft_58 rfl rfl (by decide) rfl rfl ?_
        refine bv_goto (tgt := 5) dX2_mostLeft_61 (by decide) ?_
        refine bw_ls (ls1 := [(0, .int x0), (1, .ref x1), (2, .int x2), (3, .int (bm_max x3 y3)), (4, .int (x4 + 1))]) [0, 1, 2, 3, 4] rfl ?_
        exact ih _ _ _ h K0
def f_X2_mostLeft (M : bm_M) (x0 : Int32) (x1 : Nat) (x2 : Int32) : Option (Int32) := ((f_X2_mostLeft_l5 M x0 x1 x2 1000 0 1).bind fun y3 => some y3)
set_option maxHeartbeats 4000000 in
set_option maxRecDepth 100000 in
theorem c_X2_mostLeft {L : bm_L} {d n : Nat} {M : bm_M} {x0 : Int32} {x1 : Nat} {x2 : Int32} {v : Int32} (hN : 181 ≤ n) (h : f_X2_mostLeft M x0 x1 x2 = some v) : bm_C L m_X2_mostLeft (d + 1) n n [.int x0, .ref x1, .int x2] M (fun r M' => r = some (.int v) ∧ M' = M) := by
  refine bm_C.ofV (by decide) (Nat.le_of_ble_eq_true rfl) ?_
  show bm_V L m_X2_mostLeft (d + 1) n n n 0 [(0, .int x0), (1, .ref x1), (2, .int x2)] [] M _
  unfold f_X2_mostLeft at h
  refine bv_iconst (v := 0) dX2_mostLeft_0 (by decide) ?_
  refine bv_istore_n (ls1 := [(0, .int x0), (1, .ref x1), (2, .int x2), (3, .int 0)]) dX2_mostLeft_1 (by decide) rfl rfl ?_
  refine bv_iconst (v := 1) dX2_mostLeft_2 (by decide) ?_
  refine bv_istore (ls1 := [(0, .int x0), (1, .ref x1), (2, .int x2), (3, .int 0), (4, .int 1)]) dX2_mostLeft_3 (by decide) rfl rfl ?_
  obtain ⟨r1, p2, h⟩ := bu_bd h
  refine v_X2_mostLeft_l5 hN 1000 _ _ _ p2 (fun y3 hy => ?_)
  · subst hy
    refine bv_iload_n dX2_mostLeft_64 0 rfl ?_
    obtain rfl := Option.some.inj h
    exact bv_iret (x := y3) dX2_mostLeft_65 rfl ⟨rfl, rfl⟩
def f_X2_weigh_l29 (M : bm_M) (x0 : Nat) (x1 : Nat) (x2 : Nat) : Nat → Int32 → Int32 → Int32 → Option (Int32 × Int32)
  | 0, _, _, _ => none
  | k + 1, x3, x4, x5 => (if (M.1 x2 13) ≤ x5 then some (x3, x4) else ((M.2.2 x2 6).bind fun a1 => (if bm_ia a1 0 x5 = true then ((M.2.2 x2 7).bind fun a4 => (if bm_ia a4 0 x5 = true then ((f_X2_countWrong M x1 (M.1 a1 x5.toNatClampNeg) (M.1 a4 x5.toNatClampNeg)).bind fun v7 => (if x4 ≤ v7 then (if v7 = x4 then f_X2_weigh_l29 M x0 x1 x2 k (x3 ||| (bm_ishl 1 x5)) x4 (x5 + 1) else f_X2_weigh_l29 M x0 x1 x2 k x3 x4 (x5 + 1)) else (if v7 = v7 then f_X2_weigh_l29 M x0 x1 x2 k (0 ||| (bm_ishl 1 x5)) v7 (x5 + 1) else f_X2_weigh_l29 M x0 x1 x2 k 0 v7 (x5 + 1)))) else none)) else none)))
set_option maxHeartbeats 4000000 in
set_option maxRecDepth 100000 in
theorem v_X2_weigh_l29 {L : bm_L} {d n : Nat} {Q : Option Value → bm_M → Prop} {M : bm_M} {x0 : Nat} {x1 : Nat} {x2 : Nat} (hN : 181 ≤ n) (q_1 : bm_OK x1 9) (q_2 : bm_OK x2 0) : ∀ (k : Nat) (x3 : Int32) (x4 : Int32) (x5 : Int32) (r : Int32 × Int32), f_X2_weigh_l29 M x0 x1 x2 k x3 x4 x5 = some r → (∀ yy, yy = r → bm_V L m_X2_weigh (d + 2) n n n 91 [(0, .ref x0), (2, .ref x2), (3, .int yy.1), (4, .int yy.2)] [] M Q) → bm_V L m_X2_weigh (d + 2) n n n 29 [(0, .ref x0), (1, .ref x1), (2, .ref x2), (3, .int x3), (4, .int x4), (5, .int x5)] [] M Q := by
  intro k
  induction k with
  | zero => intro x3 x4 x5 r h; cases (show (none : Option (Int32 × Int32)) = some r from h)
  | succ k ih =>
    intro x3 x4 x5 r h K0
    unfold f_X2_weigh_l29 at h
    refine bv_iload dX2_weigh_29 5 rfl ?_
    refine bv_aload_n dX2_weigh_31 2 rfl ?_
    refine bw_getI hN q_2 dX2_weigh_32 fl_2_18 rfl ?_
    refine bv_icmp_ge (tgt := 91) dX2_weigh_35 (by decide) (fun cc => ?_) (fun cc => ?_)
    · replace h := bu_t h cc
      refine bw_ls (ls1 := [(0, .ref x0), (2, .ref x2), (3, .int x3), (4, .int x4)]) [0, 2, 3, 4] rfl ?_
      obtain rfl := Option.some.inj h
      exact K0 _ rfl
    · replace h := bu_f h cc
      refine bv_aload_n dX2_weigh_38 1 rfl ?_
      refine bv_aload_n dX2_weigh_39 2 rfl ?_
      obtain ⟨a1, e2, h⟩ := bu_bd h
      refine bw_getA (a := a1) hN q_2 e2 dX2_weigh_40 fl_2_32 rfl ?_
      refine bv_iload dX2_weigh_43 5 rfl ?_
      obtain ⟨r3, h⟩ := bu_ia h
      refine bw_iald hN r3 dX2_weigh_45 ?_
      refine bv_aload_n dX2_weigh_46 2 rfl ?_
      obtain ⟨a4, e5, h⟩ := bu_bd h
      refine bw_getA (a := a4) hN q_2 e5 dX2_weigh_47 fl_2_36 rfl ?_
      refine bv_iload dX2_weigh_50 5 rfl ?_
      obtain ⟨r6, h⟩ := bu_ia h
      refine bw_iald hN r6 dX2_weigh_52 ?_
      obtain ⟨v7, p8, h⟩ := bu_bd h
      refine bw_callS (As := [.ref x1, .int (M.1 a1 x5.toNatClampNeg), .int (M.1 a4 x5.toNatClampNeg)]) dX2_weigh_53 mc_2_39 (c_X2_countWrong (d := d + 1) hN p8) rfl rfl (by decide) ?_
      refine bv_istore (ls1 := [(0, .ref x0), (1, .ref x1), (2, .ref x2), (3, .int x3), (4, .int x4), (5, .int x5), (6, .int v7)]) dX2_weigh_56 (by decide) rfl rfl ?_
      refine bv_iload dX2_weigh_58 6 rfl ?_
      refine bv_iload dX2_weigh_60 4 rfl ?_
      refine bv_icmp_ge (tgt := 71) dX2_weigh_62 (by decide) (fun cc => ?_) (fun cc => ?_)
      · replace h := bu_t h cc
        refine bv_iload dX2_weigh_71 6 rfl ?_
        refine bv_iload dX2_weigh_73 4 rfl ?_
        refine bv_icmp_ne (tgt := 85) dX2_weigh_75 (by decide) (fun cc => ?_) (fun cc => ?_)
        · replace h := bu_f h cc
          refine bv_iinc (j := 5) (v := (x5 + 1)) (ls1 := [(0, .ref x0), (1, .ref x1), (2, .ref x2), (3, .int x3), (4, .int x4), (5, .int (x5 + 1)), (6, .int v7)]) dX2_weigh_85 rfl rfl (by decide) rfl rfl ?_
          refine bv_goto (tgt := 29) dX2_weigh_88 (by decide) ?_
          refine bw_ls (ls1 := [(0, .ref x0), (1, .ref x1), (2, .ref x2), (3, .int x3), (4, .int x4), (5, .int (x5 + 1))]) [0, 1, 2, 3, 4, 5] rfl ?_
          exact ih _ _ _ _ h K0
        · replace h := bu_t h cc
          refine bv_iload_n dX2_weigh_78 3 rfl ?_
          refine bv_iconst (v := 1) dX2_weigh_79 (by decide) ?_
          refine bv_iload dX2_weigh_80 5 rfl ?_
          refine bv_ishl dX2_weigh_82 ?_
          refine bv_ior dX2_weigh_83 ?_
          refine bv_istore_n (ls1 := [(0, .ref x0), (1, .ref x1), (2, .ref x2), (3, .int (x3 ||| (bm_ishl 1 x5))), (4, .int x4), (5, .int x5), (6, .int v7)]) dX2_weigh_84 (by decide) rfl rfl ?_
          refine bv_iinc (j := 5) (v := (x5 + 1)) (ls1 := [(0, .ref x0), (1, .ref x1), (2, .ref x2), (3, .int (x3 ||| (bm_ishl 1 x5))), (4, .int x4), (5, .int (x5 + 1)), (6, .int v7)]) dX2_weigh_85 rfl rfl (by decide) rfl rfl ?_
          refine bv_goto (tgt := 29) dX2_weigh_88 (by decide) ?_
          refine bw_ls (ls1 := [(0, .ref x0), (1, .ref x1), (2, .ref x2), (3, .int (x3 ||| (bm_ishl 1 x5))), (4, .int x4), (5, .int (x5 + 1))]) [0, 1, 2, 3, 4, 5] rfl ?_
          exact ih _ _ _ _ h K0
      · replace h := bu_f h cc
        refine bv_iload dX2_weigh_65 6 rfl ?_
        refine bv_istore (ls1 := [(0, .ref x0), (1, .ref x1), (2, .ref x2), (3, .int x3), (4, .int v7), (5, .int x5), (6, .int v7)]) dX2_weigh_67 (by decide) rfl rfl ?_
        refine bv_iconst (v := 0) dX2_weigh_69 (by decide) ?_
        refine bv_istore_n (ls1 := [(0, .ref x0), (1, .ref x1), (2, .ref x2), (3, .int 0), (4, .int v7), (5, .int x5), (6, .int v7)]) dX2_weigh_70 (by decide) rfl rfl ?_
        refine bv_iload dX2_weigh_71 6 rfl ?_
        refine bv_iload dX2_weigh_73 4 rfl ?_
        refine bv_icmp_ne (tgt := 85) dX2_weigh_75 (by decide) (fun cc => ?_) (fun cc => ?_)
        · replace h := bu_f h cc
          refine bv_iinc (j := 5) (v := (x5 + 1)) (ls1 := [(0, .ref x0), (1, .ref x1), (2, .ref x2), (3, .int 0), (4, .int v7), (5, .int (x5 + 1)), (6, .int v7)]) dX2_weigh_85 rfl rfl (by decide) rfl rfl ?_
          refine bv_goto (tgt := 29) dX2_weigh_88 (by decide) ?_
          refine bw_ls (ls1 := [(0, .ref x0), (1, .ref x1), (2, .ref x2), (3, .int 0), (4, .int v7), (5, .int (x5 + 1))]) [0, 1, 2, 3, 4, 5] rfl ?_
          exact ih _ _ _ _ h K0
        · replace h := bu_t h cc
          refine bv_iload_n dX2_weigh_78 3 rfl ?_
          refine bv_iconst (v := 1) dX2_weigh_79 (by decide) ?_
          refine bv_iload dX2_weigh_80 5 rfl ?_
          refine bv_ishl dX2_weigh_82 ?_
          refine bv_ior dX2_weigh_83 ?_
          refine bv_istore_n (ls1 := [(0, .ref x0), (1, .ref x1), (2, .ref x2), (3, .int (0 ||| (bm_ishl 1 x5))), (4, .int v7), (5, .int x5), (6, .int v7)]) dX2_weigh_84 (by decide) rfl rfl ?_
          refine bv_iinc (j := 5) (v := (x5 + 1)) (ls1 := [(0, .ref x0), (1, .ref x1), (2, .ref x2), (3, .int (0 ||| (bm_ishl 1 x5))), (4, .int v7), (5, .int (x5 + 1)), (6, .int v7)]) dX2_weigh_85 rfl rfl (by decide) rfl rfl ?_
          refine bv_goto (tgt := 29) dX2_weigh_88 (by decide) ?_
          refine bw_ls (ls1 := [(0, .ref x0), (1, .ref x1), (2, .ref x2), (3, .int (0 ||| (bm_ishl 1 x5))), (4, .int v7), (5, .int (x5 + 1))]) [0, 1, 2, 3, 4, 5] rfl ?_
          exact ih _ _ _ _ h K0
def f_X2_weigh (M : bm_M) (x0 : Nat) (x1 : Nat) (x2 : Nat) : Option (Int32 × bm_M) := (if bm_io x2 0 then (if (M.1 x2 13) = 0 then some ((-1), M) else ((f_X2_isAsTold M x1).bind fun v2 => (if v2 = true then (if bm_io x1 9 then ((f_X2_weigh_l29 M x0 x1 x2 1000 0 ((M.1 x1 1) + 1) 0).bind fun y7 => (if bm_io x0 2 then ((M.2.2 x2 7).bind fun a9 => ((f_X2_mostLeft (bm_sI M x0 0 y7.2) y7.1 a9 ((bm_sI M x0 0 y7.2).1 x2 13)).bind fun v11 => ((M.2.2 x2 6).bind fun a13 => ((f_X2_mostLeft (bm_sI M x0 0 y7.2) y7.1 a13 ((bm_sI M x0 0 y7.2).1 x2 13)).bind fun v15 => (if v15 ≤ v11 then some (y7.1, (bm_sI (bm_sI M x0 0 y7.2) x0 1 0)) else some (y7.1, (bm_sI (bm_sI M x0 0 y7.2) x0 1 1))))))) else none)) else none) else some ((-1), M)))) else none)
set_option maxHeartbeats 4000000 in
set_option maxRecDepth 100000 in
theorem c_X2_weigh {L : bm_L} {d n : Nat} {M : bm_M} {x0 : Nat} {x1 : Nat} {x2 : Nat} {v : Int32 × bm_M} (hN : 181 ≤ n) (h : f_X2_weigh M x0 x1 x2 = some v) : bm_C L m_X2_weigh (d + 2) n n [.ref x0, .ref x1, .ref x2] M (fun r M' => r = some (.int v.1) ∧ M' = v.2) := by
  refine bm_C.ofV (by decide) (Nat.le_of_ble_eq_true rfl) ?_
  show bm_V L m_X2_weigh (d + 2) n n n 0 [(0, .ref x0), (1, .ref x1), (2, .ref x2)] [] M _
  unfold f_X2_weigh at h
  refine bv_aload_n dX2_weigh_0 2 rfl ?_
  obtain ⟨q1, h⟩ := bu_io h
  refine bw_getI hN q1 dX2_weigh_1 fl_2_18 rfl ?_
  refine bv_if_eq (tgt := 14) dX2_weigh_4 (by decide) (fun cc => ?_) (fun cc => ?_)
  · replace h := bu_t h cc
    refine bv_iconst (v := (-1)) dX2_weigh_14 (by decide) ?_
    obtain rfl := Option.some.inj h
    exact bv_iret (x := (-1)) dX2_weigh_15 rfl ⟨rfl, rfl⟩
  · replace h := bu_f h cc
    refine bv_aload_n dX2_weigh_7 1 rfl ?_
    obtain ⟨v2, p3, h⟩ := bu_bd h
    refine bw_callS (As := [.ref x1]) dX2_weigh_8 mc_2_23 (c_X2_isAsTold (d := d + 0) hN p3) rfl rfl (by decide) ?_
    refine bw_ifB_ne (b := v2) (tgt := 16) dX2_weigh_11 (by decide) (fun cc => ?_) (fun cc => ?_)
    · replace h := bu_bt h cc
      refine bv_iconst (v := 0) dX2_weigh_16 (by decide) ?_
      refine bv_istore_n (ls1 := [(0, .ref x0), (1, .ref x1), (2, .ref x2), (3, .int 0)]) dX2_weigh_17 (by decide) rfl rfl ?_
      refine bv_aload_n dX2_weigh_18 1 rfl ?_
      obtain ⟨q4, h⟩ := bu_io h
      refine bw_getI hN q4 dX2_weigh_19 fl_2_27 rfl ?_
      refine bv_iconst (v := 1) dX2_weigh_22 (by decide) ?_
      refine bv_iadd dX2_weigh_23 ?_
      refine bv_istore (ls1 := [(0, .ref x0), (1, .ref x1), (2, .ref x2), (3, .int 0), (4, .int ((M.1 x1 1) + 1))]) dX2_weigh_24 (by decide) rfl rfl ?_
      refine bv_iconst (v := 0) dX2_weigh_26 (by decide) ?_
      refine bv_istore (ls1 := [(0, .ref x0), (1, .ref x1), (2, .ref x2), (3, .int 0), (4, .int ((M.1 x1 1) + 1)), (5, .int 0)]) dX2_weigh_27 (by decide) rfl rfl ?_
      obtain ⟨r5, p6, h⟩ := bu_bd h
      refine v_X2_weigh_l29 hN q4 q1 1000 _ _ _ _ p6 (fun y7 hy => ?_)
      · subst hy
        refine bv_aload_n dX2_weigh_91 0 rfl ?_
        refine bv_iload dX2_weigh_92 3 rfl ?_
        obtain ⟨q8, h⟩ := bu_io h
        refine bw_putI hN q8 dX2_weigh_94 fl_2_9 rfl ?_
        refine bv_aload_n dX2_weigh_97 0 rfl ?_
        refine bv_iload_n dX2_weigh_98 2 rfl ?_
        refine bv_aload_n dX2_weigh_99 1 rfl ?_
        obtain ⟨a9, e10, h⟩ := bu_bd h
        refine bw_getA (a := a9) hN q1 e10 dX2_weigh_100 fl_2_36 rfl ?_
        refine bv_aload_n dX2_weigh_103 1 rfl ?_
        refine bw_getI hN q1 dX2_weigh_104 fl_2_18 rfl ?_
        obtain ⟨v11, p12, h⟩ := bu_bd h
        refine bw_callS (As := [.int y7.1, .ref a9, .int ((bm_sI M x0 0 y7.2).1 x2 13)]) dX2_weigh_107 mc_2_43 (c_X2_mostLeft (d := d + 0) hN p12) rfl rfl (Nat.le_of_ble_eq_true rfl) ?_
        refine bv_iload_n dX2_weigh_110 2 rfl ?_
        refine bv_aload_n dX2_weigh_111 1 rfl ?_
        obtain ⟨a13, e14, h⟩ := bu_bd h
        refine bw_getA (a := a13) hN q1 e14 dX2_weigh_112 fl_2_32 rfl ?_
        refine bv_aload_n dX2_weigh_115 1 rfl ?_
        refine bw_getI hN q1 dX2_weigh_116 fl_2_18 rfl ?_
        obtain ⟨v15, p16, h⟩ := bu_bd h
        refine bw_callS (As := [.int y7.1, .ref a13, .int ((bm_sI M x0 0 y7.2).1 x2 13)]) dX2_weigh_119 mc_2_43 (c_X2_mostLeft (d := d + 0) hN p16) rfl rfl (Nat.le_of_ble_eq_true rfl) ?_
        refine bv_icmp_ge (tgt := 129) dX2_weigh_122 (by decide) (fun cc => ?_) (fun cc => ?_)
        · replace h := bu_t h cc
          refine bv_iconst (v := 0) dX2_weigh_129 (by decide) ?_
          refine bw_putI hN q8 dX2_weigh_130 fl_2_15 rfl ?_
          refine bv_iload_n dX2_weigh_133 2 rfl ?_
          obtain rfl := Option.some.inj h
          exact bv_iret (x := y7.1) dX2_weigh_134 rfl ⟨rfl, rfl⟩
        · replace h := bu_f h cc
          refine bv_iconst (v := 1) dX2_weigh_125 (by decide) ?_
          refine bv_goto (tgt := 130) dX2_weigh_126 (by decide) ?_
          refine bw_putI hN q8 dX2_weigh_130 fl_2_15 rfl ?_
          refine bv_iload_n dX2_weigh_133 2 rfl ?_
          obtain rfl := Option.some.inj h
          exact bv_iret (x := y7.1) dX2_weigh_134 rfl ⟨rfl, rfl⟩
    · replace h := bu_bf h cc
      refine bv_iconst (v := (-1)) dX2_weigh_14 (by decide) ?_
      obtain rfl := Option.some.inj h
      exact bv_iret (x := (-1)) dX2_weigh_15 rfl ⟨rfl, rfl⟩
def f_X7_copyFrom_l2 (x0 : Nat) (x1 : Nat) : Nat → Int32 → bm_M → Option (bm_M)
  | 0, _, _ => none
  | k + 1, x2, M => (if bm_io x1 7 then (if (M.1 x1 4) ≤ x2 then some M else (if bm_io x0 7 then ((M.2.2 x0 0).bind fun a3 => ((M.2.2 x1 0).bind fun a5 => (if bm_ia a5 4 x2 = true then (if bm_ia a3 4 x2 = true then (if bm_iwq (M.2.2 a5 x2.toNatClampNeg) = true then (((bm_sR M a3 x2.toNatClampNeg (M.2.2 a5 x2.toNatClampNeg)).2.2 x0 1).bind fun a10 => (((bm_sR M a3 x2.toNatClampNeg (M.2.2 a5 x2.toNatClampNeg)).2.2 x1 1).bind fun a12 => (if bm_ia a12 0 x2 = true then (if bm_ia a10 0 x2 = true then (((bm_sR M a3 x2.toNatClampNeg (M.2.2 a5 x2.toNatClampNeg)).2.2 x0 2).bind fun a16 => (((bm_sR M a3 x2.toNatClampNeg (M.2.2 a5 x2.toNatClampNeg)).2.2 x1 2).bind fun a18 => (if bm_ia a18 0 x2 = true then (if bm_ia a16 0 x2 = true then f_X7_copyFrom_l2 x0 x1 k (x2 + 1) (bm_sI (bm_sI (bm_sR M a3 x2.toNatClampNeg (M.2.2 a5 x2.toNatClampNeg)) a10 x2.toNatClampNeg ((bm_sR M a3 x2.toNatClampNeg (M.2.2 a5 x2.toNatClampNeg)).1 a12 x2.toNatClampNeg)) a16 x2.toNatClampNeg ((bm_sI (bm_sR M a3 x2.toNatClampNeg (M.2.2 a5 x2.toNatClampNeg)) a10 x2.toNatClampNeg ((bm_sR M a3 x2.toNatClampNeg (M.2.2 a5 x2.toNatClampNeg)).1 a12 x2.toNatClampNeg)).1 a18 x2.toNatClampNeg)) else none) else none))) else none) else none))) else none) else none) else none))) else none)) else none)
set_option maxHeartbeats 4000000 in
set_option maxRecDepth 100000 in
theorem v_X7_copyFrom_l2 {L : bm_L} {d n : Nat} {Q : Option Value → bm_M → Prop} {x0 : Nat} {x1 : Nat} (hN : 181 ≤ n) : ∀ (k : Nat) (x2 : Int32) (M : bm_M) (r : bm_M), f_X7_copyFrom_l2 x0 x1 k x2 M = some r → (∀ yy, yy = r → bm_V L m_X7_copyFrom d n n n 52 [(0, .ref x0), (1, .ref x1)] [] yy Q) → bm_V L m_X7_copyFrom d n n n 2 [(0, .ref x0), (1, .ref x1), (2, .int x2)] [] M Q := by
  intro k
  induction k with
  | zero => intro x2 M r h; cases (show (none : Option (bm_M)) = some r from h)
  | succ k ih =>
    intro x2 M r h K0
    unfold f_X7_copyFrom_l2 at h
    refine bv_iload_n dX7_copyFrom_2 2 rfl ?_
    refine bv_aload_n dX7_copyFrom_3 1 rfl ?_
    obtain ⟨q1, h⟩ := bu_io h
    refine bw_getI hN q1 dX7_copyFrom_4 fl_7_31 rfl ?_
    refine bv_icmp_ge (tgt := 52) dX7_copyFrom_7 (by decide) (fun cc => ?_) (fun cc => ?_)
    · replace h := bu_t h cc
      refine bw_ls (ls1 := [(0, .ref x0), (1, .ref x1)]) [0, 1] rfl ?_
      obtain rfl := Option.some.inj h
      exact K0 _ rfl
    · replace h := bu_f h cc
      refine bv_aload_n dX7_copyFrom_10 0 rfl ?_
      obtain ⟨q2, h⟩ := bu_io h
      obtain ⟨a3, e4, h⟩ := bu_bd h
      refine bw_getA (a := a3) hN q2 e4 dX7_copyFrom_11 fl_7_11 rfl ?_
      refine bv_iload_n dX7_copyFrom_14 2 rfl ?_
      refine bv_aload_n dX7_copyFrom_15 1 rfl ?_
      obtain ⟨a5, e6, h⟩ := bu_bd h
      refine bw_getA (a := a5) hN q1 e6 dX7_copyFrom_16 fl_7_11 rfl ?_
      refine bv_iload_n dX7_copyFrom_19 2 rfl ?_
      obtain ⟨r7, h⟩ := bu_ia h
      refine bw_aald hN r7 (by decide) (by decide) dX7_copyFrom_20 ?_
      obtain ⟨r8, h⟩ := bu_ia h
      obtain ⟨w9, h⟩ := bu_g h
      refine bw_aastQ (v := (M.2.2 a5 x2.toNatClampNeg)) hN r8 w9 dX7_copyFrom_21 ?_
      refine bv_aload_n dX7_copyFrom_22 0 rfl ?_
      obtain ⟨a10, e11, h⟩ := bu_bd h
      refine bw_getA (a := a10) hN q2 e11 dX7_copyFrom_23 fl_7_17 rfl ?_
      refine bv_iload_n dX7_copyFrom_26 2 rfl ?_
      refine bv_aload_n dX7_copyFrom_27 1 rfl ?_
      obtain ⟨a12, e13, h⟩ := bu_bd h
      refine bw_getA (a := a12) hN q1 e13 dX7_copyFrom_28 fl_7_17 rfl ?_
      refine bv_iload_n dX7_copyFrom_31 2 rfl ?_
      obtain ⟨r14, h⟩ := bu_ia h
      refine bw_iald hN r14 dX7_copyFrom_32 ?_
      obtain ⟨r15, h⟩ := bu_ia h
      refine bw_iast hN r15 dX7_copyFrom_33 ?_
      refine bv_aload_n dX7_copyFrom_34 0 rfl ?_
      obtain ⟨a16, e17, h⟩ := bu_bd h
      refine bw_getA (a := a16) hN q2 e17 dX7_copyFrom_35 fl_7_21 rfl ?_
      refine bv_iload_n dX7_copyFrom_38 2 rfl ?_
      refine bv_aload_n dX7_copyFrom_39 1 rfl ?_
      obtain ⟨a18, e19, h⟩ := bu_bd h
      refine bw_getA (a := a18) hN q1 e19 dX7_copyFrom_40 fl_7_21 rfl ?_
      refine bv_iload_n dX7_copyFrom_43 2 rfl ?_
      obtain ⟨r20, h⟩ := bu_ia h
      refine bw_iald hN r20 dX7_copyFrom_44 ?_
      obtain ⟨r21, h⟩ := bu_ia h
      refine bw_iast hN r21 dX7_copyFrom_45 ?_
      refine bv_iinc (j := 2) (v := (x2 + 1)) (ls1 := [(0, .ref x0), (1, .ref x1), (2, .int (x2 + 1))]) dX7_copyFrom_46 rfl rfl (by decide) rfl rfl ?_
      refine bv_goto (tgt := 2) dX7_copyFrom_49 (by decide) ?_
      exact ih _ _ _ h K0
def f_X7_copyFrom (M : bm_M) (x0 : Nat) (x1 : Nat) : Option (bm_M) := ((f_X7_copyFrom_l2 x0 x1 1000 0 M).bind fun y3 => (if bm_io x1 7 then (if bm_io x0 7 then some (bm_sI (bm_sI y3 x0 4 (y3.1 x1 4)) x0 5 ((bm_sI y3 x0 4 (y3.1 x1 4)).1 x1 5)) else none) else none))
set_option maxHeartbeats 4000000 in
set_option maxRecDepth 100000 in
theorem c_X7_copyFrom {L : bm_L} {d n : Nat} {M : bm_M} {x0 : Nat} {x1 : Nat} {v : bm_M} (hN : 181 ≤ n) (h : f_X7_copyFrom M x0 x1 = some v) : bm_C L m_X7_copyFrom d n n [.ref x0, .ref x1] M (fun r M' => r = none ∧ M' = v) := by
  refine bm_C.ofV (by decide) (Nat.le_of_ble_eq_true rfl) ?_
  show bm_V L m_X7_copyFrom d n n n 0 [(0, .ref x0), (1, .ref x1)] [] M _
  unfold f_X7_copyFrom at h
  refine bv_iconst (v := 0) dX7_copyFrom_0 (by decide) ?_
  refine bv_istore_n (ls1 := [(0, .ref x0), (1, .ref x1), (2, .int 0)]) dX7_copyFrom_1 (by decide) rfl rfl ?_
  obtain ⟨r1, p2, h⟩ := bu_bd h
  refine v_X7_copyFrom_l2 hN 1000 _ _ _ p2 (fun y3 hy => ?_)
  · subst hy
    refine bv_aload_n dX7_copyFrom_52 0 rfl ?_
    refine bv_aload_n dX7_copyFrom_53 1 rfl ?_
    obtain ⟨q4, h⟩ := bu_io h
    refine bw_getI hN q4 dX7_copyFrom_54 fl_7_31 rfl ?_
    obtain ⟨q5, h⟩ := bu_io h
    refine bw_putI hN q5 dX7_copyFrom_57 fl_7_31 rfl ?_
    refine bv_aload_n dX7_copyFrom_60 0 rfl ?_
    refine bv_aload_n dX7_copyFrom_61 1 rfl ?_
    refine bw_getI hN q4 dX7_copyFrom_62 fl_7_27 rfl ?_
    refine bw_putI hN q5 dX7_copyFrom_65 fl_7_27 rfl ?_
    obtain rfl := Option.some.inj h
    exact bv_vret dX7_copyFrom_68 rfl ⟨rfl, rfl⟩
def f_X8_copyFrom (M : bm_M) (x0 : Nat) (x1 : Nat) : Option (bm_M) := (if bm_io x1 8 then ((M.2.2 x1 1).bind fun a2 => (if bm_io x0 8 then ((M.2.2 x0 1).bind fun a5 => (if bm_ic a2 0 0 8 = true then (if bm_ic a5 0 0 8 = true then ((M.2.2 x1 2).bind fun a9 => ((M.2.2 x0 2).bind fun a11 => (if bm_ic a9 0 0 8 = true then (if bm_ic a11 0 0 8 = true then ((M.2.2 x1 3).bind fun a15 => ((M.2.2 x0 3).bind fun a17 => (if bm_ic a15 0 0 8 = true then (if bm_ic a17 0 0 8 = true then ((M.2.2 x1 4).bind fun a21 => ((M.2.2 x0 4).bind fun a23 => (if bm_ic a21 0 0 8 = true then (if bm_ic a23 0 0 8 = true then ((M.2.2 x1 5).bind fun a27 => ((M.2.2 x0 5).bind fun a29 => (if bm_ic a27 0 0 8 = true then (if bm_ic a29 0 0 8 = true then some (bm_sI (bm_sI (bm_sI (bm_sI (bm_sI (bm_cI (bm_cI (bm_cI (bm_cI (bm_cI M a2 a5 (0 : Int32).toNatClampNeg (0 : Int32).toNatClampNeg (8 : Int32).toNatClampNeg) a9 a11 (0 : Int32).toNatClampNeg (0 : Int32).toNatClampNeg (8 : Int32).toNatClampNeg) a15 a17 (0 : Int32).toNatClampNeg (0 : Int32).toNatClampNeg (8 : Int32).toNatClampNeg) a21 a23 (0 : Int32).toNatClampNeg (0 : Int32).toNatClampNeg (8 : Int32).toNatClampNeg) a27 a29 (0 : Int32).toNatClampNeg (0 : Int32).toNatClampNeg (8 : Int32).toNatClampNeg) x0 7 ((bm_cI (bm_cI (bm_cI (bm_cI (bm_cI M a2 a5 (0 : Int32).toNatClampNeg (0 : Int32).toNatClampNeg (8 : Int32).toNatClampNeg) a9 a11 (0 : Int32).toNatClampNeg (0 : Int32).toNatClampNeg (8 : Int32).toNatClampNeg) a15 a17 (0 : Int32).toNatClampNeg (0 : Int32).toNatClampNeg (8 : Int32).toNatClampNeg) a21 a23 (0 : Int32).toNatClampNeg (0 : Int32).toNatClampNeg (8 : Int32).toNatClampNeg) a27 a29 (0 : Int32).toNatClampNeg (0 : Int32).toNatClampNeg (8 : Int32).toNatClampNeg).1 x1 7)) x0 8 ((bm_sI (bm_cI (bm_cI (bm_cI (bm_cI (bm_cI M a2 a5 (0 : Int32).toNatClampNeg (0 : Int32).toNatClampNeg (8 : Int32).toNatClampNeg) a9 a11 (0 : Int32).toNatClampNeg (0 : Int32).toNatClampNeg (8 : Int32).toNatClampNeg) a15 a17 (0 : Int32).toNatClampNeg (0 : Int32).toNatClampNeg (8 : Int32).toNatClampNeg) a21 a23 (0 : Int32).toNatClampNeg (0 : Int32).toNatClampNeg (8 : Int32).toNatClampNeg) a27 a29 (0 : Int32).toNatClampNeg (0 : Int32).toNatClampNeg (8 : Int32).toNatClampNeg) x0 7 ((bm_cI (bm_cI (bm_cI (bm_cI (bm_cI M a2 a5 (0 : Int32).toNatClampNeg (0 : Int32).toNatClampNeg (8 : Int32).toNatClampNeg) a9 a11 (0 : Int32).toNatClampNeg (0 : Int32).toNatClampNeg (8 : Int32).toNatClampNeg) a15 a17 (0 : Int32).toNatClampNeg (0 : Int32).toNatClampNeg (8 : Int32).toNatClampNeg) a21 a23 (0 : Int32).toNatClampNeg (0 : Int32).toNatClampNeg (8 : Int32).toNatClampNeg) a27 a29 (0 : Int32).toNatClampNeg (0 : Int32).toNatClampNeg (8 : Int32).toNatClampNeg).1 x1 7)).1 x1 8)) x0 9 ((bm_sI (bm_sI (bm_cI (bm_cI (bm_cI (bm_cI (bm_cI M a2 a5 (0 : Int32).toNatClampNeg (0 : Int32).toNatClampNeg (8 : Int32).toNatClampNeg) a9 a11 (0 : Int32).toNatClampNeg (0 : Int32).toNatClampNeg (8 : Int32).toNatClampNeg) a15 a17 (0 : Int32).toNatClampNeg (0 : Int32).toNatClampNeg (8 : Int32).toNatClampNeg) a21 a23 (0 : Int32).toNatClampNeg (0 : Int32).toNatClampNeg (8 : Int32).toNatClampNeg) a27 a29 (0 : Int32).toNatClampNeg (0 : Int32).toNatClampNeg (8 : Int32).toNatClampNeg) x0 7 ((bm_cI (bm_cI (bm_cI (bm_cI (bm_cI M a2 a5 (0 : Int32).toNatClampNeg (0 : Int32).toNatClampNeg (8 : Int32).toNatClampNeg) a9 a11 (0 : Int32).toNatClampNeg (0 : Int32).toNatClampNeg (8 : Int32).toNatClampNeg) a15 a17 (0 : Int32).toNatClampNeg (0 : Int32).toNatClampNeg (8 : Int32).toNatClampNeg) a21 a23 (0 : Int32).toNatClampNeg (0 : Int32).toNatClampNeg (8 : Int32).toNatClampNeg) a27 a29 (0 : Int32).toNatClampNeg (0 : Int32).toNatClampNeg (8 : Int32).toNatClampNeg).1 x1 7)) x0 8 ((bm_sI (bm_cI (bm_cI (bm_cI (bm_cI (bm_cI M a2 a5 (0 : Int32).toNatClampNeg (0 : Int32).toNatClampNeg (8 : Int32).toNatClampNeg) a9 a11 (0 : Int32).toNatClampNeg (0 : Int32).toNatClampNeg (8 : Int32).toNatClampNeg) a15 a17 (0 : Int32).toNatClampNeg (0 : Int32).toNatClampNeg (8 : Int32).toNatClampNeg) a21 a23 (0 : Int32).toNatClampNeg (0 : Int32).toNatClampNeg (8 : Int32).toNatClampNeg) a27 a29 (0 : Int32).toNatClampNeg (0 : Int32).toNatClampNeg (8 : Int32).toNatClampNeg) x0 7 ((bm_cI (bm_cI (bm_cI (bm_cI (bm_cI M a2 a5 (0 : Int32).toNatClampNeg (0 : Int32).toNatClampNeg (8 : Int32).toNatClampNeg) a9 a11 (0 : Int32).toNatClampNeg (0 : Int32).toNatClampNeg (8 : Int32).toNatClampNeg) a15 a17 (0 : Int32).toNatClampNeg (0 : Int32).toNatClampNeg (8 : Int32).toNatClampNeg) a21 a23 (0 : Int32).toNatClampNeg (0 : Int32).toNatClampNeg (8 : Int32).toNatClampNeg) a27 a29 (0 : Int32).toNatClampNeg (0 : Int32).toNatClampNeg (8 : Int32).toNatClampNeg).1 x1 7)).1 x1 8)).1 x1 9)) x0 10 ((bm_sI (bm_sI (bm_sI (bm_cI (bm_cI (bm_cI (bm_cI (bm_cI M a2 a5 (0 : Int32).toNatClampNeg (0 : Int32).toNatClampNeg (8 : Int32).toNatClampNeg) a9 a11 (0 : Int32).toNatClampNeg (0 : Int32).toNatClampNeg (8 : Int32).toNatClampNeg) a15 a17 (0 : Int32).toNatClampNeg (0 : Int32).toNatClampNeg (8 : Int32).toNatClampNeg) a21 a23 (0 : Int32).toNatClampNeg (0 : Int32).toNatClampNeg (8 : Int32).toNatClampNeg) a27 a29 (0 : Int32).toNatClampNeg (0 : Int32).toNatClampNeg (8 : Int32).toNatClampNeg) x0 7 ((bm_cI (bm_cI (bm_cI (bm_cI (bm_cI M a2 a5 (0 : Int32).toNatClampNeg (0 : Int32).toNatClampNeg (8 : Int32).toNatClampNeg) a9 a11 (0 : Int32).toNatClampNeg (0 : Int32).toNatClampNeg (8 : Int32).toNatClampNeg) a15 a17 (0 : Int32).toNatClampNeg (0 : Int32).toNatClampNeg (8 : Int32).toNatClampNeg) a21 a23 (0 : Int32).toNatClampNeg (0 : Int32).toNatClampNeg (8 : Int32).toNatClampNeg) a27 a29 (0 : Int32).toNatClampNeg (0 : Int32).toNatClampNeg (8 : Int32).toNatClampNeg).1 x1 7)) x0 8 ((bm_sI (bm_cI (bm_cI (bm_cI (bm_cI (bm_cI M a2 a5 (0 : Int32).toNatClampNeg (0 : Int32).toNatClampNeg (8 : Int32).toNatClampNeg) a9 a11 (0 : Int32).toNatClampNeg (0 : Int32).toNatClampNeg (8 : Int32).toNatClampNeg) a15 a17 (0 : Int32).toNatClampNeg (0 : Int32).toNatClampNeg (8 : Int32).toNatClampNeg) a21 a23 (0 : Int32).toNatClampNeg (0 : Int32).toNatClampNeg (8 : Int32).toNatClampNeg) a27 a29 (0 : Int32).toNatClampNeg (0 : Int32).toNatClampNeg (8 : Int32).toNatClampNeg) x0 7 ((bm_cI (bm_cI (bm_cI (bm_cI (bm_cI M a2 a5 (0 : Int32).toNatClampNeg (0 : Int32).toNatClampNeg (8 : Int32).toNatClampNeg) a9 a11 (0 : Int32).toNatClampNeg (0 : Int32).toNatClampNeg (8 : Int32).toNatClampNeg) a15 a17 (0 : Int32).toNatClampNeg (0 : Int32).toNatClampNeg (8 : Int32).toNatClampNeg) a21 a23 (0 : Int32).toNatClampNeg (0 : Int32).toNatClampNeg (8 : Int32).toNatClampNeg) a27 a29 (0 : Int32).toNatClampNeg (0 : Int32).toNatClampNeg (8 : Int32).toNatClampNeg).1 x1 7)).1 x1 8)) x0 9 ((bm_sI (bm_sI (bm_cI (bm_cI (bm_cI (bm_cI (bm_cI M a2 a5 (0 : Int32).toNatClampNeg (0 : Int32).toNatClampNeg (8 : Int32).toNatClampNeg) a9 a11 (0 : Int32).toNatClampNeg (0 : Int32).toNatClampNeg (8 : Int32).toNatClampNeg) a15 a17 (0 : Int32).toNatClampNeg (0 : Int32).toNatClampNeg (8 : Int32).toNatClampNeg) a21 a23 (0 : Int32).toNatClampNeg (0 : Int32).toNatClampNeg (8 : Int32).toNatClampNeg) a27 a29 (0 : Int32).toNatClampNeg (0 : Int32).toNatClampNeg (8 : Int32).toNatClampNeg) x0 7 ((bm_cI (bm_cI (bm_cI (bm_cI (bm_cI M a2 a5 (0 : Int32).toNatClampNeg (0 : Int32).toNatClampNeg (8 : Int32).toNatClampNeg) a9 a11 (0 : Int32).toNatClampNeg (0 : Int32).toNatClampNeg (8 : Int32).toNatClampNeg) a15 a17 (0 : Int32).toNatClampNeg (0 : Int32).toNatClampNeg (8 : Int32).toNatClampNeg) a21 a23 (0 : Int32).toNatClampNeg (0 : Int32).toNatClampNeg (8 : Int32).toNatClampNeg) a27 a29 (0 : Int32).toNatClampNeg (0 : Int32).toNatClampNeg (8 : Int32).toNatClampNeg).1 x1 7)) x0 8 ((bm_sI (bm_cI (bm_cI (bm_cI (bm_cI (bm_cI M a2 a5 (0 : Int32).toNatClampNeg (0 : Int32).toNatClampNeg (8 : Int32).toNatClampNeg) a9 a11 (0 : Int32).toNatClampNeg (0 : Int32).toNatClampNeg (8 : Int32).toNatClampNeg) a15 a17 (0 : Int32).toNatClampNeg (0 : Int32).toNatClampNeg (8 : Int32).toNatClampNeg) a21 a23 (0 : Int32).toNatClampNeg (0 : Int32).toNatClampNeg (8 : Int32).toNatClampNeg) a27 a29 (0 : Int32).toNatClampNeg (0 : Int32).toNatClampNeg (8 : Int32).toNatClampNeg) x0 7 ((bm_cI (bm_cI (bm_cI (bm_cI (bm_cI M a2 a5 (0 : Int32).toNatClampNeg (0 : Int32).toNatClampNeg (8 : Int32).toNatClampNeg) a9 a11 (0 : Int32).toNatClampNeg (0 : Int32).toNatClampNeg (8 : Int32).toNatClampNeg) a15 a17 (0 : Int32).toNatClampNeg (0 : Int32).toNatClampNeg (8 : Int32).toNatClampNeg) a21 a23 (0 : Int32).toNatClampNeg (0 : Int32).toNatClampNeg (8 : Int32).toNatClampNeg) a27 a29 (0 : Int32).toNatClampNeg (0 : Int32).toNatClampNeg (8 : Int32).toNatClampNeg).1 x1 7)).1 x1 8)).1 x1 9)).1 x1 10)) x0 11 ((bm_sI (bm_sI (bm_sI (bm_sI (bm_cI (bm_cI (bm_cI (bm_cI (bm_cI M a2 a5 (0 : Int32).toNatClampNeg (0 : Int32).toNatClampNeg (8 : Int32).toNatClampNeg) a9 a11 (0 : Int32).toNatClampNeg (0 : Int32).toNatClampNeg (8 : Int32).toNatClampNeg) a15 a17 (0 : Int32).toNatClampNeg (0 : Int32).toNatClampNeg (8 : Int32).toNatClampNeg) a21 a23 (0 : Int32).toNatClampNeg (0 : Int32).toNatClampNeg (8 : Int32).toNatClampNeg) a27 a29 (0 : Int32).toNatClampNeg (0 : Int32).toNatClampNeg (8 : Int32).toNatClampNeg) x0 7 ((bm_cI (bm_cI (bm_cI (bm_cI (bm_cI M a2 a5 (0 : Int32).toNatClampNeg (0 : Int32).toNatClampNeg (8 : Int32).toNatClampNeg) a9 a11 (0 : Int32).toNatClampNeg (0 : Int32).toNatClampNeg (8 : Int32).toNatClampNeg) a15 a17 (0 : Int32).toNatClampNeg (0 : Int32).toNatClampNeg (8 : Int32).toNatClampNeg) a21 a23 (0 : Int32).toNatClampNeg (0 : Int32).toNatClampNeg (8 : Int32).toNatClampNeg) a27 a29 (0 : Int32).toNatClampNeg (0 : Int32).toNatClampNeg (8 : Int32).toNatClampNeg).1 x1 7)) x0 8 ((bm_sI (bm_cI (bm_cI (bm_cI (bm_cI (bm_cI M a2 a5 (0 : Int32).toNatClampNeg (0 : Int32).toNatClampNeg (8 : Int32).toNatClampNeg) a9 a11 (0 : Int32).toNatClampNeg (0 : Int32).toNatClampNeg (8 : Int32).toNatClampNeg) a15 a17 (0 : Int32).toNatClampNeg (0 : Int32).toNatClampNeg (8 : Int32).toNatClampNeg) a21 a23 (0 : Int32).toNatClampNeg (0 : Int32).toNatClampNeg (8 : Int32).toNatClampNeg) a27 a29 (0 : Int32).toNatClampNeg (0 : Int32).toNatClampNeg (8 : Int32).toNatClampNeg) x0 7 ((bm_cI (bm_cI (bm_cI (bm_cI (bm_cI M a2 a5 (0 : Int32).toNatClampNeg (0 : Int32).toNatClampNeg (8 : Int32).toNatClampNeg) a9 a11 (0 : Int32).toNatClampNeg (0 : Int32).toNatClampNeg (8 : Int32).toNatClampNeg) a15 a17 (0 : Int32).toNatClampNeg (0 : Int32).toNatClampNeg (8 : Int32).toNatClampNeg) a21 a23 (0 : Int32).toNatClampNeg (0 : Int32).toNatClampNeg (8 : Int32).toNatClampNeg) a27 a29 (0 : Int32).toNatClampNeg (0 : Int32).toNatClampNeg (8 : Int32).toNatClampNeg).1 x1 7)).1 x1 8)) x0 9 ((bm_sI (bm_sI (bm_cI (bm_cI (bm_cI (bm_cI (bm_cI M a2 a5 (0 : Int32).toNatClampNeg (0 : Int32).toNatClampNeg (8 : Int32).toNatClampNeg) a9 a11 (0 : Int32).toNatClampNeg (0 : Int32).toNatClampNeg (8 : Int32).toNatClampNeg) a15 a17 (0 : Int32).toNatClampNeg (0 : Int32).toNatClampNeg (8 : Int32).toNatClampNeg) a21 a23 (0 : Int32).toNatClampNeg (0 : Int32).toNatClampNeg (8 : Int32).toNatClampNeg) a27 a29 (0 : Int32).toNatClampNeg (0 : Int32).toNatClampNeg (8 : Int32).toNatClampNeg) x0 7 ((bm_cI (bm_cI (bm_cI (bm_cI (bm_cI M a2 a5 (0 : Int32).toNatClampNeg (0 : Int32).toNatClampNeg (8 : Int32).toNatClampNeg) a9 a11 (0 : Int32).toNatClampNeg (0 : Int32).toNatClampNeg (8 : Int32).toNatClampNeg) a15 a17 (0 : Int32).toNatClampNeg (0 : Int32).toNatClampNeg (8 : Int32).toNatClampNeg) a21 a23 (0 : Int32).toNatClampNeg (0 : Int32).toNatClampNeg (8 : Int32).toNatClampNeg) a27 a29 (0 : Int32).toNatClampNeg (0 : Int32).toNatClampNeg (8 : Int32).toNatClampNeg).1 x1 7)) x0 8 ((bm_sI (bm_cI (bm_cI (bm_cI (bm_cI (bm_cI M a2 a5 (0 : Int32).toNatClampNeg (0 : Int32).toNatClampNeg (8 : Int32).toNatClampNeg) a9 a11 (0 : Int32).toNatClampNeg (0 : Int32).toNatClampNeg (8 : Int32).toNatClampNeg) a15 a17 (0 : Int32).toNatClampNeg (0 : Int32).toNatClampNeg (8 : Int32).toNatClampNeg) a21 a23 (0 : Int32).toNatClampNeg (0 : Int32).toNatClampNeg (8 : Int32).toNatClampNeg) a27 a29 (0 : Int32).toNatClampNeg (0 : Int32).toNatClampNeg (8 : Int32).toNatClampNeg) x0 7 ((bm_cI (bm_cI (bm_cI (bm_cI (bm_cI M a2 a5 (0 : Int32).toNatClampNeg (0 : Int32).toNatClampNeg (8 : Int32).toNatClampNeg) a9 a11 (0 : Int32).toNatClampNeg (0 : Int32).toNatClampNeg (8 : Int32).toNatClampNeg) a15 a17 (0 : Int32).toNatClampNeg (0 : Int32).toNatClampNeg (8 : Int32).toNatClampNeg) a21 a23 (0 : Int32).toNatClampNeg (0 : Int32).toNatClampNeg (8 : Int32).toNatClampNeg) a27 a29 (0 : Int32).toNatClampNeg (0 : Int32).toNatClampNeg (8 : Int32).toNatClampNeg).1 x1 7)).1 x1 8)).1 x1 9)) x0 10 ((bm_sI (bm_sI (bm_sI (bm_cI (bm_cI (bm_cI (bm_cI (bm_cI M a2 a5 (0 : Int32).toNatClampNeg (0 : Int32).toNatClampNeg (8 : Int32).toNatClampNeg) a9 a11 (0 : Int32).toNatClampNeg (0 : Int32).toNatClampNeg (8 : Int32).toNatClampNeg) a15 a17 (0 : Int32).toNatClampNeg (0 : Int32).toNatClampNeg (8 : Int32).toNatClampNeg) a21 a23 (0 : Int32).toNatClampNeg (0 : Int32).toNatClampNeg (8 : Int32).toNatClampNeg) a27 a29 (0 : Int32).toNatClampNeg (0 : Int32).toNatClampNeg (8 : Int32).toNatClampNeg) x0 7 ((bm_cI (bm_cI (bm_cI (bm_cI (bm_cI M a2 a5 (0 : Int32).toNatClampNeg (0 : Int32).toNatClampNeg (8 : Int32).toNatClampNeg) a9 a11 (0 : Int32).toNatClampNeg (0 : Int32).toNatClampNeg (8 : Int32).toNatClampNeg) a15 a17 (0 : Int32).toNatClampNeg (0 : Int32).toNatClampNeg (8 : Int32).toNatClampNeg) a21 a23 (0 : Int32).toNatClampNeg (0 : Int32).toNatClampNeg (8 : Int32).toNatClampNeg) a27 a29 (0 : Int32).toNatClampNeg (0 : Int32).toNatClampNeg (8 : Int32).toNatClampNeg).1 x1 7)) x0 8 ((bm_sI (bm_cI (bm_cI (bm_cI (bm_cI (bm_cI M a2 a5 (0 : Int32).toNatClampNeg (0 : Int32).toNatClampNeg (8 : Int32).toNatClampNeg) a9 a11 (0 : Int32).toNatClampNeg (0 : Int32).toNatClampNeg (8 : Int32).toNatClampNeg) a15 a17 (0 : Int32).toNatClampNeg (0 : Int32).toNatClampNeg (8 : Int32).toNatClampNeg) a21 a23 (0 : Int32).toNatClampNeg (0 : Int32).toNatClampNeg (8 : Int32).toNatClampNeg) a27 a29 (0 : Int32).toNatClampNeg (0 : Int32).toNatClampNeg (8 : Int32).toNatClampNeg) x0 7 ((bm_cI (bm_cI (bm_cI (bm_cI (bm_cI M a2 a5 (0 : Int32).toNatClampNeg (0 : Int32).toNatClampNeg (8 : Int32).toNatClampNeg) a9 a11 (0 : Int32).toNatClampNeg (0 : Int32).toNatClampNeg (8 : Int32).toNatClampNeg) a15 a17 (0 : Int32).toNatClampNeg (0 : Int32).toNatClampNeg (8 : Int32).toNatClampNeg) a21 a23 (0 : Int32).toNatClampNeg (0 : Int32).toNatClampNeg (8 : Int32).toNatClampNeg) a27 a29 (0 : Int32).toNatClampNeg (0 : Int32).toNatClampNeg (8 : Int32).toNatClampNeg).1 x1 7)).1 x1 8)) x0 9 ((bm_sI (bm_sI (bm_cI (bm_cI (bm_cI (bm_cI (bm_cI M a2 a5 (0 : Int32).toNatClampNeg (0 : Int32).toNatClampNeg (8 : Int32).toNatClampNeg) a9 a11 (0 : Int32).toNatClampNeg (0 : Int32).toNatClampNeg (8 : Int32).toNatClampNeg) a15 a17 (0 : Int32).toNatClampNeg (0 : Int32).toNatClampNeg (8 : Int32).toNatClampNeg) a21 a23 (0 : Int32).toNatClampNeg (0 : Int32).toNatClampNeg (8 : Int32).toNatClampNeg) a27 a29 (0 : Int32).toNatClampNeg (0 : Int32).toNatClampNeg (8 : Int32).toNatClampNeg) x0 7 ((bm_cI (bm_cI (bm_cI (bm_cI (bm_cI M a2 a5 (0 : Int32).toNatClampNeg (0 : Int32).toNatClampNeg (8 : Int32).toNatClampNeg) a9 a11 (0 : Int32).toNatClampNeg (0 : Int32).toNatClampNeg (8 : Int32).toNatClampNeg) a15 a17 (0 : Int32).toNatClampNeg (0 : Int32).toNatClampNeg (8 : Int32).toNatClampNeg) a21 a23 (0 : Int32).toNatClampNeg (0 : Int32).toNatClampNeg (8 : Int32).toNatClampNeg) a27 a29 (0 : Int32).toNatClampNeg (0 : Int32).toNatClampNeg (8 : Int32).toNatClampNeg).1 x1 7)) x0 8 ((bm_sI (bm_cI (bm_cI (bm_cI (bm_cI (bm_cI M a2 a5 (0 : Int32).toNatClampNeg (0 : Int32).toNatClampNeg (8 : Int32).toNatClampNeg) a9 a11 (0 : Int32).toNatClampNeg (0 : Int32).toNatClampNeg (8 : Int32).toNatClampNeg) a15 a17 (0 : Int32).toNatClampNeg (0 : Int32).toNatClampNeg (8 : Int32).toNatClampNeg) a21 a23 (0 : Int32).toNatClampNeg (0 : Int32).toNatClampNeg (8 : Int32).toNatClampNeg) a27 a29 (0 : Int32).toNatClampNeg (0 : Int32).toNatClampNeg (8 : Int32).toNatClampNeg) x0 7 ((bm_cI (bm_cI (bm_cI (bm_cI (bm_cI M a2 a5 (0 : Int32).toNatClampNeg (0 : Int32).toNatClampNeg (8 : Int32).toNatClampNeg) a9 a11 (0 : Int32).toNatClampNeg (0 : Int32).toNatClampNeg (8 : Int32).toNatClampNeg) a15 a17 (0 : Int32).toNatClampNeg (0 : Int32).toNatClampNeg (8 : Int32).toNatClampNeg) a21 a23 (0 : Int32).toNatClampNeg (0 : Int32).toNatClampNeg (8 : Int32).toNatClampNeg) a27 a29 (0 : Int32).toNatClampNeg (0 : Int32).toNatClampNeg (8 : Int32).toNatClampNeg).1 x1 7)).1 x1 8)).1 x1 9)).1 x1 10)).1 x1 11)) else none) else none))) else none) else none))) else none) else none))) else none) else none))) else none) else none)) else none)) else none)
set_option maxHeartbeats 4000000 in
set_option maxRecDepth 100000 in
theorem c_X8_copyFrom {L : bm_L} {d n : Nat} {M : bm_M} {x0 : Nat} {x1 : Nat} {v : bm_M} (hN : 181 ≤ n) (h : f_X8_copyFrom M x0 x1 = some v) : bm_C L m_X8_copyFrom (d + 1) n n [.ref x0, .ref x1] M (fun r M' => r = none ∧ M' = v) := by
  refine bm_C.ofV (by decide) (Nat.le_of_ble_eq_true rfl) ?_
  show bm_V L m_X8_copyFrom (d + 1) n n n 0 [(0, .ref x0), (1, .ref x1)] [] M _
  unfold f_X8_copyFrom at h
  refine bv_aload_n dX8_copyFrom_0 1 rfl ?_
  obtain ⟨q1, h⟩ := bu_io h
  obtain ⟨a2, e3, h⟩ := bu_bd h
  refine bw_getA (a := a2) hN q1 e3 dX8_copyFrom_1 fl_8_9 rfl ?_
  refine bv_iconst (v := 0) dX8_copyFrom_4 (by decide) ?_
  refine bv_aload_n dX8_copyFrom_5 0 rfl ?_
  obtain ⟨q4, h⟩ := bu_io h
  obtain ⟨a5, e6, h⟩ := bu_bd h
  refine bw_getA (a := a5) hN q4 e6 dX8_copyFrom_6 fl_8_9 rfl ?_
  refine bv_iconst (v := 0) dX8_copyFrom_9 (by decide) ?_
  refine bv_bipush (v := 8) dX8_copyFrom_10 (by decide) ?_
  obtain ⟨r7, h⟩ := bu_ic h
  obtain ⟨r8, h⟩ := bu_ic h
  refine bw_copyI hN r7 r8 dX8_copyFrom_12 mw_8_61 (by decide) ?_
  refine bv_aload_n dX8_copyFrom_15 1 rfl ?_
  obtain ⟨a9, e10, h⟩ := bu_bd h
  refine bw_getA (a := a9) hN q1 e10 dX8_copyFrom_16 fl_8_15 rfl ?_
  refine bv_iconst (v := 0) dX8_copyFrom_19 (by decide) ?_
  refine bv_aload_n dX8_copyFrom_20 0 rfl ?_
  obtain ⟨a11, e12, h⟩ := bu_bd h
  refine bw_getA (a := a11) hN q4 e12 dX8_copyFrom_21 fl_8_15 rfl ?_
  refine bv_iconst (v := 0) dX8_copyFrom_24 (by decide) ?_
  refine bv_bipush (v := 8) dX8_copyFrom_25 (by decide) ?_
  obtain ⟨r13, h⟩ := bu_ic h
  obtain ⟨r14, h⟩ := bu_ic h
  refine bw_copyI hN r13 r14 dX8_copyFrom_27 mw_8_61 (by decide) ?_
  refine bv_aload_n dX8_copyFrom_30 1 rfl ?_
  obtain ⟨a15, e16, h⟩ := bu_bd h
  refine bw_getA (a := a15) hN q1 e16 dX8_copyFrom_31 fl_8_18 rfl ?_
  refine bv_iconst (v := 0) dX8_copyFrom_34 (by decide) ?_
  refine bv_aload_n dX8_copyFrom_35 0 rfl ?_
  obtain ⟨a17, e18, h⟩ := bu_bd h
  refine bw_getA (a := a17) hN q4 e18 dX8_copyFrom_36 fl_8_18 rfl ?_
  refine bv_iconst (v := 0) dX8_copyFrom_39 (by decide) ?_
  refine bv_bipush (v := 8) dX8_copyFrom_40 (by decide) ?_
  obtain ⟨r19, h⟩ := bu_ic h
  obtain ⟨r20, h⟩ := bu_ic h
  refine bw_copyI hN r19 r20 dX8_copyFrom_42 mw_8_61 (by decide) ?_
  refine bv_aload_n dX8_copyFrom_45 1 rfl ?_
  obtain ⟨a21, e22, h⟩ := bu_bd h
  refine bw_getA (a := a21) hN q1 e22 dX8_copyFrom_46 fl_8_21 rfl ?_
  refine bv_iconst (v := 0) dX8_copyFrom_49 (by decide) ?_
  refine bv_aload_n dX8_copyFrom_50 0 rfl ?_
  obtain ⟨a23, e24, h⟩ := bu_bd h
  refine bw_getA (a := a23) hN q4 e24 dX8_copyFrom_51 fl_8_21 rfl ?_
  refine bv_iconst (v := 0) dX8_copyFrom_54 (by decide) ?_
  refine bv_bipush (v := 8) dX8_copyFrom_55 (by decide) ?_
  obtain ⟨r25, h⟩ := bu_ic h
  obtain ⟨r26, h⟩ := bu_ic h
  refine bw_copyI hN r25 r26 dX8_copyFrom_57 mw_8_61 (by decide) ?_
  refine bv_aload_n dX8_copyFrom_60 1 rfl ?_
  obtain ⟨a27, e28, h⟩ := bu_bd h
  refine bw_getA (a := a27) hN q1 e28 dX8_copyFrom_61 fl_8_24 rfl ?_
  refine bv_iconst (v := 0) dX8_copyFrom_64 (by decide) ?_
  refine bv_aload_n dX8_copyFrom_65 0 rfl ?_
  obtain ⟨a29, e30, h⟩ := bu_bd h
  refine bw_getA (a := a29) hN q4 e30 dX8_copyFrom_66 fl_8_24 rfl ?_
  refine bv_iconst (v := 0) dX8_copyFrom_69 (by decide) ?_
  refine bv_bipush (v := 8) dX8_copyFrom_70 (by decide) ?_
  obtain ⟨r31, h⟩ := bu_ic h
  obtain ⟨r32, h⟩ := bu_ic h
  refine bw_copyI hN r31 r32 dX8_copyFrom_72 mw_8_61 (by decide) ?_
  refine bv_aload_n dX8_copyFrom_75 0 rfl ?_
  refine bv_aload_n dX8_copyFrom_76 1 rfl ?_
  refine bw_getI hN q1 dX8_copyFrom_77 fl_8_46 rfl ?_
  refine bw_putI hN q4 dX8_copyFrom_80 fl_8_46 rfl ?_
  refine bv_aload_n dX8_copyFrom_83 0 rfl ?_
  refine bv_aload_n dX8_copyFrom_84 1 rfl ?_
  refine bw_getI hN q1 dX8_copyFrom_85 fl_8_49 rfl ?_
  refine bw_putI hN q4 dX8_copyFrom_88 fl_8_49 rfl ?_
  refine bv_aload_n dX8_copyFrom_91 0 rfl ?_
  refine bv_aload_n dX8_copyFrom_92 1 rfl ?_
  refine bw_getI hN q1 dX8_copyFrom_93 fl_8_52 rfl ?_
  refine bw_putI hN q4 dX8_copyFrom_96 fl_8_52 rfl ?_
  refine bv_aload_n dX8_copyFrom_99 0 rfl ?_
  refine bv_aload_n dX8_copyFrom_100 1 rfl ?_
  refine bw_getI hN q1 dX8_copyFrom_101 fl_8_55 rfl ?_
  refine bw_putI hN q4 dX8_copyFrom_104 fl_8_55 rfl ?_
  refine bv_aload_n dX8_copyFrom_107 0 rfl ?_
  refine bv_aload_n dX8_copyFrom_108 1 rfl ?_
  refine bw_getI hN q1 dX8_copyFrom_109 fl_8_58 rfl ?_
  refine bw_putI hN q4 dX8_copyFrom_112 fl_8_58 rfl ?_
  obtain rfl := Option.some.inj h
  exact bv_vret dX8_copyFrom_115 rfl ⟨rfl, rfl⟩
def f_X3_keep (M : bm_M) (x0 : Nat) (x1 : Nat) (x2 : Nat) (x3 : Nat) : Option (bm_M) := (if bm_io x0 3 then ((M.2.2 x0 0).bind fun a2 => (if bm_io a2 0 then ((f_X0_copyFrom M a2 x1).bind fun v5 => ((v5.2.2 x0 1).bind fun a7 => (if bm_io a7 8 then ((f_X8_copyFrom v5 a7 x2).bind fun v10 => ((v10.2.2 x0 2).bind fun a12 => (if bm_io a12 7 then ((f_X7_copyFrom v10 a12 x3).bind fun v15 => some (bm_sI v15 x0 3 (bm_bi true))) else none))) else none))) else none)) else none)
set_option maxHeartbeats 4000000 in
set_option maxRecDepth 100000 in
theorem c_X3_keep {L : bm_L} {d n : Nat} {M : bm_M} {x0 : Nat} {x1 : Nat} {x2 : Nat} {x3 : Nat} {v : bm_M} (hN : 181 ≤ n) (h : f_X3_keep M x0 x1 x2 x3 = some v) : bm_C L m_X3_keep (d + 2) n n [.ref x0, .ref x1, .ref x2, .ref x3] M (fun r M' => r = none ∧ M' = v) := by
  refine bm_C.ofV (by decide) (Nat.le_of_ble_eq_true rfl) ?_
  show bm_V L m_X3_keep (d + 2) n n n 0 [(0, .ref x0), (1, .ref x1), (2, .ref x2), (3, .ref x3)] [] M _
  unfold f_X3_keep at h
  refine bv_aload_n dX3_keep_0 0 rfl ?_
  obtain ⟨q1, h⟩ := bu_io h
  obtain ⟨a2, e3, h⟩ := bu_bd h
  refine bw_getA (a := a2) hN q1 e3 dX3_keep_1 fl_3_10 rfl ?_
  refine bv_aload_n dX3_keep_4 1 rfl ?_
  obtain ⟨q4, h⟩ := bu_io h
  obtain ⟨v5, p6, h⟩ := bu_bd h
  refine bw_callVv (As := [.ref x1]) hN q4 ⟨_, _, rfl⟩ dX3_keep_5 mc_3_32 (c_X0_copyFrom (d := d + 0) hN p6) rfl rfl (by decide) ?_
  refine bv_aload_n dX3_keep_8 0 rfl ?_
  obtain ⟨a7, e8, h⟩ := bu_bd h
  refine bw_getA (a := a7) hN q1 e8 dX3_keep_9 fl_3_21 rfl ?_
  refine bv_aload_n dX3_keep_12 2 rfl ?_
  obtain ⟨q9, h⟩ := bu_io h
  obtain ⟨v10, p11, h⟩ := bu_bd h
  refine bw_callVv (As := [.ref x2]) hN q9 ⟨_, _, rfl⟩ dX3_keep_13 mc_3_35 (c_X8_copyFrom (d := d + 0) hN p11) rfl rfl (by decide) ?_
  refine bv_aload_n dX3_keep_16 0 rfl ?_
  obtain ⟨a12, e13, h⟩ := bu_bd h
  refine bw_getA (a := a12) hN q1 e13 dX3_keep_17 fl_3_28 rfl ?_
  refine bv_aload_n dX3_keep_20 3 rfl ?_
  obtain ⟨q14, h⟩ := bu_io h
  obtain ⟨v15, p16, h⟩ := bu_bd h
  refine bw_callVv (As := [.ref x3]) hN q14 ⟨_, _, rfl⟩ dX3_keep_21 mc_3_38 (c_X7_copyFrom (d := d + 1) hN p16) rfl rfl (by decide) ?_
  refine bv_aload_n dX3_keep_24 0 rfl ?_
  refine bv_iconst (v := 1) dX3_keep_25 (by decide) ?_
  refine bw_putB (b := true) hN q1 dX3_keep_26 fl_3_41 rfl ?_
  obtain rfl := Option.some.inj h
  exact bv_vret dX3_keep_29 rfl ⟨rfl, rfl⟩
def f_X4_keep (M : bm_M) (x0 : Nat) (x1 : Nat) : Option (bm_M) := (if bm_io x0 4 then ((M.2.2 x0 0).bind fun a2 => (if bm_ia a2 5 (bm_rem ((M.1 x0 1) + (M.1 x0 2)) 8) = true then ((M.2.2 a2 (bm_rem ((M.1 x0 1) + (M.1 x0 2)) 8).toNatClampNeg).bind fun a5 => (if bm_io a5 8 then ((f_X8_copyFrom M a5 x1).bind fun v8 => (if 8 ≤ (v8.1 x0 2) then some (bm_sI v8 x0 1 (bm_rem ((v8.1 x0 1) + 1) 8)) else some (bm_sI v8 x0 2 ((v8.1 x0 2) + 1)))) else none)) else none)) else none)
set_option maxHeartbeats 4000000 in
set_option maxRecDepth 100000 in
theorem c_X4_keep {L : bm_L} {d n : Nat} {M : bm_M} {x0 : Nat} {x1 : Nat} {v : bm_M} (hN : 181 ≤ n) (h : f_X4_keep M x0 x1 = some v) : bm_C L m_X4_keep (d + 2) n n [.ref x0, .ref x1] M (fun r M' => r = none ∧ M' = v) := by
  refine bm_C.ofV (by decide) (Nat.le_of_ble_eq_true rfl) ?_
  show bm_V L m_X4_keep (d + 2) n n n 0 [(0, .ref x0), (1, .ref x1)] [] M _
  unfold f_X4_keep at h
  refine bv_aload_n dX4_keep_0 0 rfl ?_
  obtain ⟨q1, h⟩ := bu_io h
  obtain ⟨a2, e3, h⟩ := bu_bd h
  refine bw_getA (a := a2) hN q1 e3 dX4_keep_1 fl_4_11 rfl ?_
  refine bv_aload_n dX4_keep_4 0 rfl ?_
  refine bw_getI hN q1 dX4_keep_5 fl_4_20 rfl ?_
  refine bv_aload_n dX4_keep_8 0 rfl ?_
  refine bw_getI hN q1 dX4_keep_9 fl_4_24 rfl ?_
  refine bv_iadd dX4_keep_12 ?_
  refine bv_bipush (v := 8) dX4_keep_13 (by decide) ?_
  refine bv_irem dX4_keep_15 (by decide) ?_
  obtain ⟨r4, h⟩ := bu_ia h
  refine bw_aald hN r4 (by decide) (by decide) dX4_keep_16 ?_
  obtain ⟨a5, e6, h⟩ := bu_bd h
  refine bw_some e6 ?_
  refine bv_aload_n dX4_keep_17 1 rfl ?_
  obtain ⟨q7, h⟩ := bu_io h
  obtain ⟨v8, p9, h⟩ := bu_bd h
  refine bw_callVv (As := [.ref x1]) hN q7 ⟨_, _, rfl⟩ dX4_keep_18 mc_4_27 (c_X8_copyFrom (d := d + 0) hN p9) rfl rfl (by decide) ?_
  refine bv_aload_n dX4_keep_21 0 rfl ?_
  refine bw_getI hN q1 dX4_keep_22 fl_4_24 rfl ?_
  refine bv_bipush (v := 8) dX4_keep_25 (by decide) ?_
  refine bv_icmp_ge (tgt := 43) dX4_keep_27 (by decide) (fun cc => ?_) (fun cc => ?_)
  · replace h := bu_t h cc
    refine bv_aload_n dX4_keep_43 0 rfl ?_
    refine bv_aload_n dX4_keep_44 0 rfl ?_
    refine bw_getI hN q1 dX4_keep_45 fl_4_20 rfl ?_
    refine bv_iconst (v := 1) dX4_keep_48 (by decide) ?_
    refine bv_iadd dX4_keep_49 ?_
    refine bv_bipush (v := 8) dX4_keep_50 (by decide) ?_
    refine bv_irem dX4_keep_52 (by decide) ?_
    refine bw_putI hN q1 dX4_keep_53 fl_4_20 rfl ?_
    obtain rfl := Option.some.inj h
    exact bv_vret dX4_keep_56 rfl ⟨rfl, rfl⟩
  · replace h := bu_f h cc
    refine bv_aload_n dX4_keep_30 0 rfl ?_
    refine bv_dup dX4_keep_31 rfl ?_
    refine bw_getI hN q1 dX4_keep_32 fl_4_24 rfl ?_
    refine bv_iconst (v := 1) dX4_keep_35 (by decide) ?_
    refine bv_iadd dX4_keep_36 ?_
    refine bw_putI hN q1 dX4_keep_37 fl_4_24 rfl ?_
    refine bv_goto (tgt := 56) dX4_keep_40 (by decide) ?_
    obtain rfl := Option.some.inj h
    exact bv_vret dX4_keep_56 rfl ⟨rfl, rfl⟩
def f_X4_bringBack (M : bm_M) (x0 : Nat) (x1 : Nat) : Option (Int32 × bm_M) := (if bm_io x0 4 then (if (M.1 x0 2) = 0 then some ((-1), M) else ((M.2.2 x0 0).bind fun a2 => (if bm_ia a2 5 (bm_rem (((bm_sI M x0 2 ((M.1 x0 2) - 1)).1 x0 1) + ((bm_sI M x0 2 ((M.1 x0 2) - 1)).1 x0 2)) 8) = true then ((M.2.2 a2 (bm_rem (((bm_sI M x0 2 ((M.1 x0 2) - 1)).1 x0 1) + ((bm_sI M x0 2 ((M.1 x0 2) - 1)).1 x0 2)) 8).toNatClampNeg).bind fun a5 => (if bm_io x1 8 then ((f_X8_copyFrom (bm_sI M x0 2 ((M.1 x0 2) - 1)) x1 a5).bind fun v8 => some ((v8.1 x0 2), v8)) else none)) else none))) else none)
set_option maxHeartbeats 4000000 in
set_option maxRecDepth 100000 in
theorem c_X4_bringBack {L : bm_L} {d n : Nat} {M : bm_M} {x0 : Nat} {x1 : Nat} {v : Int32 × bm_M} (hN : 181 ≤ n) (h : f_X4_bringBack M x0 x1 = some v) : bm_C L m_X4_bringBack (d + 2) n n [.ref x0, .ref x1] M (fun r M' => r = some (.int v.1) ∧ M' = v.2) := by
  refine bm_C.ofV (by decide) (Nat.le_of_ble_eq_true rfl) ?_
  show bm_V L m_X4_bringBack (d + 2) n n n 0 [(0, .ref x0), (1, .ref x1)] [] M _
  unfold f_X4_bringBack at h
  refine bv_aload_n dX4_bringBack_0 0 rfl ?_
  obtain ⟨q1, h⟩ := bu_io h
  refine bw_getI hN q1 dX4_bringBack_1 fl_4_24 rfl ?_
  refine bv_if_ne (tgt := 9) dX4_bringBack_4 (by decide) (fun cc => ?_) (fun cc => ?_)
  · replace h := bu_f h cc
    refine bv_aload_n dX4_bringBack_9 0 rfl ?_
    refine bv_dup dX4_bringBack_10 rfl ?_
    refine bw_getI hN q1 dX4_bringBack_11 fl_4_24 rfl ?_
    refine bv_iconst (v := 1) dX4_bringBack_14 (by decide) ?_
    refine bv_isub dX4_bringBack_15 ?_
    refine bw_putI hN q1 dX4_bringBack_16 fl_4_24 rfl ?_
    refine bv_aload_n dX4_bringBack_19 1 rfl ?_
    refine bv_aload_n dX4_bringBack_20 0 rfl ?_
    obtain ⟨a2, e3, h⟩ := bu_bd h
    refine bw_getA (a := a2) hN q1 e3 dX4_bringBack_21 fl_4_11 rfl ?_
    refine bv_aload_n dX4_bringBack_24 0 rfl ?_
    refine bw_getI hN q1 dX4_bringBack_25 fl_4_20 rfl ?_
    refine bv_aload_n dX4_bringBack_28 0 rfl ?_
    refine bw_getI hN q1 dX4_bringBack_29 fl_4_24 rfl ?_
    refine bv_iadd dX4_bringBack_32 ?_
    refine bv_bipush (v := 8) dX4_bringBack_33 (by decide) ?_
    refine bv_irem dX4_bringBack_35 (by decide) ?_
    obtain ⟨r4, h⟩ := bu_ia h
    refine bw_aald hN r4 (by decide) (by decide) dX4_bringBack_36 ?_
    obtain ⟨a5, e6, h⟩ := bu_bd h
    refine bw_some e6 ?_
    obtain ⟨q7, h⟩ := bu_io h
    obtain ⟨v8, p9, h⟩ := bu_bd h
    refine bw_callVv (As := [.ref a5]) hN q7 ⟨_, _, rfl⟩ dX4_bringBack_37 mc_4_27 (c_X8_copyFrom (d := d + 0) hN p9) rfl rfl (by decide) ?_
    refine bv_aload_n dX4_bringBack_40 0 rfl ?_
    refine bw_getI hN q1 dX4_bringBack_41 fl_4_24 rfl ?_
    obtain rfl := Option.some.inj h
    exact bv_iret (x := (v8.1 x0 2)) dX4_bringBack_44 rfl ⟨rfl, rfl⟩
  · replace h := bu_t h cc
    refine bv_iconst (v := (-1)) dX4_bringBack_7 (by decide) ?_
    obtain rfl := Option.some.inj h
    exact bv_iret (x := (-1)) dX4_bringBack_8 rfl ⟨rfl, rfl⟩
def f_X4_forget (M : bm_M) (x0 : Nat) : Option (bm_M) := (if bm_io x0 4 then some (bm_sI M x0 2 0) else none)
set_option maxHeartbeats 4000000 in
set_option maxRecDepth 100000 in
theorem c_X4_forget {L : bm_L} {d n : Nat} {M : bm_M} {x0 : Nat} {v : bm_M} (hN : 181 ≤ n) (h : f_X4_forget M x0 = some v) : bm_C L m_X4_forget d n n [.ref x0] M (fun r M' => r = none ∧ M' = v) := by
  refine bm_C.ofV (by decide) (Nat.le_of_ble_eq_true rfl) ?_
  show bm_V L m_X4_forget d n n n 0 [(0, .ref x0)] [] M _
  unfold f_X4_forget at h
  refine bv_aload_n dX4_forget_0 0 rfl ?_
  refine bv_iconst (v := 0) dX4_forget_1 (by decide) ?_
  obtain ⟨q1, h⟩ := bu_io h
  refine bw_putI hN q1 dX4_forget_2 fl_4_24 rfl ?_
  obtain rfl := Option.some.inj h
  exact bv_vret dX4_forget_5 rfl ⟨rfl, rfl⟩
def f_X5_begin (M : bm_M) (x0 : Nat) (x1 : Int32) : Option (bm_M) := (if bm_io x0 5 then ((f_X5_advance (bm_sI (bm_sI (bm_sI (bm_sI M x0 1 x1) x0 2 0) x0 9 0) x0 10 0) x0).bind fun v2 => some v2) else none)
set_option maxHeartbeats 4000000 in
set_option maxRecDepth 100000 in
theorem c_X5_begin {L : bm_L} {d n : Nat} {M : bm_M} {x0 : Nat} {x1 : Int32} {v : bm_M} (hN : 181 ≤ n) (h : f_X5_begin M x0 x1 = some v) : bm_C L m_X5_begin (d + 3) n n [.ref x0, .int x1] M (fun r M' => r = none ∧ M' = v) := by
  refine bm_C.ofV (by decide) (Nat.le_of_ble_eq_true rfl) ?_
  show bm_V L m_X5_begin (d + 3) n n n 0 [(0, .ref x0), (1, .int x1)] [] M _
  unfold f_X5_begin at h
  refine bv_aload_n dX5_begin_0 0 rfl ?_
  refine bv_iload_n dX5_begin_1 1 rfl ?_
  obtain ⟨q1, h⟩ := bu_io h
  refine bw_putI hN q1 dX5_begin_2 fl_5_15 rfl ?_
  refine bv_aload_n dX5_begin_5 0 rfl ?_
  refine bv_iconst (v := 0) dX5_begin_6 (by decide) ?_
  refine bw_putI hN q1 dX5_begin_7 fl_5_19 rfl ?_
  refine bv_aload_n dX5_begin_10 0 rfl ?_
  refine bv_iconst (v := 0) dX5_begin_11 (by decide) ?_
  refine bw_putI hN q1 dX5_begin_12 fl_5_22 rfl ?_
  refine bv_aload_n dX5_begin_15 0 rfl ?_
  refine bv_iconst (v := 0) dX5_begin_16 (by decide) ?_
  refine bw_putI hN q1 dX5_begin_17 fl_5_25 rfl ?_
  refine bv_aload_n dX5_begin_20 0 rfl ?_
  obtain ⟨v2, p3, h⟩ := bu_bd h
  refine bw_callVv (As := []) hN q1 ⟨_, _, rfl⟩ dX5_begin_21 mc_5_28 (c_X5_advance (d := d + 0) hN p3) rfl rfl (by decide) ?_
  obtain rfl := Option.some.inj h
  exact bv_vret dX5_begin_24 rfl ⟨rfl, rfl⟩
def f_X6_addByte (M : bm_M) (x0 : Nat) (x1 : Int32) : Option (bm_M) := (if bm_io x0 6 then (if 64 ≤ (M.1 x0 1) then some M else ((M.2.2 x0 0).bind fun a2 => (if bm_ia a2 0 (M.1 x0 1) = true then some (bm_sI (bm_sI M a2 (M.1 x0 1).toNatClampNeg x1) x0 1 (((bm_sI M a2 (M.1 x0 1).toNatClampNeg x1).1 x0 1) + 1)) else none))) else none)
set_option maxHeartbeats 4000000 in
set_option maxRecDepth 100000 in
theorem c_X6_addByte {L : bm_L} {d n : Nat} {M : bm_M} {x0 : Nat} {x1 : Int32} {v : bm_M} (hN : 181 ≤ n) (h : f_X6_addByte M x0 x1 = some v) : bm_C L m_X6_addByte d n n [.ref x0, .int x1] M (fun r M' => r = none ∧ M' = v) := by
  refine bm_C.ofV (by decide) (Nat.le_of_ble_eq_true rfl) ?_
  show bm_V L m_X6_addByte d n n n 0 [(0, .ref x0), (1, .int x1)] [] M _
  unfold f_X6_addByte at h
  refine bv_aload_n dX6_addByte_0 0 rfl ?_
  obtain ⟨q1, h⟩ := bu_io h
  refine bw_getI hN q1 dX6_addByte_1 fl_6_15 rfl ?_
  refine bv_bipush (v := 64) dX6_addByte_4 (by decide) ?_
  refine bv_icmp_ge (tgt := 29) dX6_addByte_6 (by decide) (fun cc => ?_) (fun cc => ?_)
  · replace h := bu_t h cc
    obtain rfl := Option.some.inj h
    exact bv_vret dX6_addByte_29 rfl ⟨rfl, rfl⟩
  · replace h := bu_f h cc
    refine bv_aload_n dX6_addByte_9 0 rfl ?_
    obtain ⟨a2, e3, h⟩ := bu_bd h
    refine bw_getA (a := a2) hN q1 e3 dX6_addByte_10 fl_6_9 rfl ?_
    refine bv_aload_n dX6_addByte_13 0 rfl ?_
    refine bw_getI hN q1 dX6_addByte_14 fl_6_15 rfl ?_
    refine bv_iload_n dX6_addByte_17 1 rfl ?_
    obtain ⟨r4, h⟩ := bu_ia h
    refine bw_iast hN r4 dX6_addByte_18 ?_
    refine bv_aload_n dX6_addByte_19 0 rfl ?_
    refine bv_dup dX6_addByte_20 rfl ?_
    refine bw_getI hN q1 dX6_addByte_21 fl_6_15 rfl ?_
    refine bv_iconst (v := 1) dX6_addByte_24 (by decide) ?_
    refine bv_iadd dX6_addByte_25 ?_
    refine bw_putI hN q1 dX6_addByte_26 fl_6_15 rfl ?_
    obtain rfl := Option.some.inj h
    exact bv_vret dX6_addByte_29 rfl ⟨rfl, rfl⟩
def f_X6_addName_l3 (x0 : Nat) (x1 : Int64) : Nat → Int32 → bm_M → Option (bm_M)
  | 0, _, _ => none
  | k + 1, x3, M => (if x3 < 0 then some M else (if ((bm_lshr x1 x3) &&& 31).toInt32 ≤ 0 then f_X6_addName_l3 x0 x1 k (x3 + (-5)) M else (if bm_io x0 6 then ((f_X6_addByte M x0 ((97 + (((bm_lshr x1 x3) &&& 31).toInt32)) - 1)).bind fun v2 => f_X6_addName_l3 x0 x1 k (x3 + (-5)) v2) else none)))
set_option maxHeartbeats 4000000 in
set_option maxRecDepth 100000 in
theorem v_X6_addName_l3 {L : bm_L} {d n : Nat} {Q : Option Value → bm_M → Prop} {x0 : Nat} {x1 : Int64} (hN : 181 ≤ n) : ∀ (k : Nat) (x3 : Int32) (M : bm_M) (r : bm_M), f_X6_addName_l3 x0 x1 k x3 M = some r → (∀ yy, yy = r → bm_V L m_X6_addName (d + 1) n n n 39 [] [] yy Q) → bm_V L m_X6_addName (d + 1) n n n 3 [(0, .ref x0), (1, .long x1), (3, .int x3)] [] M Q := by
  intro k
  induction k with
  | zero => intro x3 M r h; cases (show (none : Option (bm_M)) = some r from h)
  | succ k ih =>
    intro x3 M r h K0
    unfold f_X6_addName_l3 at h
    refine bv_iload_n dX6_addName_3 2 rfl ?_
    refine bv_if_lt (tgt := 39) dX6_addName_4 (by decide) (fun cc => ?_) (fun cc => ?_)
    · replace h := bu_t h cc
      refine bw_ls (ls1 := []) [] rfl ?_
      obtain rfl := Option.some.inj h
      exact K0 _ rfl
    · replace h := bu_f h cc
      refine bv_lload_n dX6_addName_7 1 rfl ?_
      refine bv_iload_n dX6_addName_8 2 rfl ?_
      refine bv_lshr dX6_addName_9 ?_
      refine bv_ldc2 (v := 31) dX6_addName_10 cst_6_96 ?_
      refine bv_land dX6_addName_13 ?_
      refine bv_l2i dX6_addName_14 ?_
      refine bv_istore (ls1 := [(0, .ref x0), (1, .long x1), (3, .int x3), (4, .int ((bm_lshr x1 x3) &&& 31).toInt32)]) dX6_addName_15 (by decide) rfl rfl ?_
      refine bv_iload dX6_addName_17 3 rfl ?_
      refine bv_if_le (tgt := 33) dX6_addName_19 (by decide) (fun cc => ?_) (fun cc => ?_)
      · replace h := bu_t h cc
        refine bv_iinc (j := 2) (v := (x3 + (-5))) (ls1 := [(0, .ref x0), (1, .long x1), (3, .int (x3 + (-5))), (4, .int ((bm_lshr x1 x3) &&& 31).toInt32)]) dX6_addName_33 rfl rfl (by decide) rfl rfl ?_
        refine bv_goto (tgt := 3) dX6_addName_36 (by decide) ?_
        refine bw_ls (ls1 := [(0, .ref x0), (1, .long x1), (3, .int (x3 + (-5)))]) [0, 1, 2] rfl ?_
        exact ih _ _ _ h K0
      · replace h := bu_f h cc
        refine bv_aload_n dX6_addName_22 0 rfl ?_
        refine bv_bipush (v := 97) dX6_addName_23 (by decide) ?_
        refine bv_iload dX6_addName_25 3 rfl ?_
        refine bv_iadd dX6_addName_27 ?_
        refine bv_iconst (v := 1) dX6_addName_28 (by decide) ?_
        refine bv_isub dX6_addName_29 ?_
        obtain ⟨q1, h⟩ := bu_io h
        obtain ⟨v2, p3, h⟩ := bu_bd h
        refine bw_callVv (As := [.int ((97 + (((bm_lshr x1 x3) &&& 31).toInt32)) - 1)]) hN q1 ⟨_, _, rfl⟩ dX6_addName_30 mc_6_92 (c_X6_addByte (d := d + 0) hN p3) rfl rfl (by decide) ?_
        refine bv_iinc (j := 2) (v := (x3 + (-5))) (ls1 := [(0, .ref x0), (1, .long x1), (3, .int (x3 + (-5))), (4, .int ((bm_lshr x1 x3) &&& 31).toInt32)]) dX6_addName_33 rfl rfl (by decide) rfl rfl ?_
        refine bv_goto (tgt := 3) dX6_addName_36 (by decide) ?_
        refine bw_ls (ls1 := [(0, .ref x0), (1, .long x1), (3, .int (x3 + (-5)))]) [0, 1, 2] rfl ?_
        exact ih _ _ _ h K0
def f_X6_addName (M : bm_M) (x0 : Nat) (x1 : Int64) : Option (bm_M) := ((f_X6_addName_l3 x0 x1 1000 30 M).bind fun y3 => some y3)
set_option maxHeartbeats 4000000 in
set_option maxRecDepth 100000 in
theorem c_X6_addName {L : bm_L} {d n : Nat} {M : bm_M} {x0 : Nat} {x1 : Int64} {v : bm_M} (hN : 181 ≤ n) (h : f_X6_addName M x0 x1 = some v) : bm_C L m_X6_addName (d + 1) n n [.ref x0, .long x1] M (fun r M' => r = none ∧ M' = v) := by
  refine bm_C.ofV (by decide) (Nat.le_of_ble_eq_true rfl) ?_
  show bm_V L m_X6_addName (d + 1) n n n 0 [(0, .ref x0), (1, .long x1)] [] M _
  unfold f_X6_addName at h
  refine bv_bipush (v := 30) dX6_addName_0 (by decide) ?_
  refine bv_istore_n (ls1 := [(0, .ref x0), (1, .long x1), (3, .int 30)]) dX6_addName_2 (by decide) rfl rfl ?_
  obtain ⟨r1, p2, h⟩ := bu_bd h
  refine v_X6_addName_l3 hN 1000 _ _ _ p2 (fun y3 hy => ?_)
  · subst hy
    obtain rfl := Option.some.inj h
    exact bv_vret dX6_addName_39 rfl ⟨rfl, rfl⟩
def f_X6_addText_l2 (x0 : Nat) (x1 : Nat) : Nat → Int32 → bm_M → Option (bm_M)
  | 0, _, _ => none
  | k + 1, x2, M => ((f_strlen M x1).bind fun v1 => (if v1 ≤ x2 then some M else ((f_strat M x1 x2).bind fun v3 => (if bm_io x0 6 then ((f_X6_addByte M x0 v3).bind fun v6 => f_X6_addText_l2 x0 x1 k (x2 + 1) v6) else none))))
set_option maxHeartbeats 4000000 in
set_option maxRecDepth 100000 in
theorem v_X6_addText_l2 {L : bm_L} {d n : Nat} {Q : Option Value → bm_M → Prop} {x0 : Nat} {x1 : Nat} (hN : 181 ≤ n) : ∀ (k : Nat) (x2 : Int32) (M : bm_M) (r : bm_M), f_X6_addText_l2 x0 x1 k x2 M = some r → (∀ yy, yy = r → bm_V L m_X6_addText (d + 5) n n n 25 [] [] yy Q) → bm_V L m_X6_addText (d + 5) n n n 2 [(0, .ref x0), (1, .ref x1), (2, .int x2)] [] M Q := by
  intro k
  induction k with
  | zero => intro x2 M r h; cases (show (none : Option (bm_M)) = some r from h)
  | succ k ih =>
    intro x2 M r h K0
    unfold f_X6_addText_l2 at h
    refine bv_iload_n dX6_addText_2 2 rfl ?_
    refine bv_aload_n dX6_addText_3 1 rfl ?_
    obtain ⟨v1, p2, h⟩ := bu_bd h
    refine bw_callX (C := "java/lang/String") (x := x1) (As := []) (bm_is_ol (c_strlen_is p2)) rfl dX6_addText_4 mc_6_83 (c_strlen (d := d + 0) hN p2) rfl rfl (Nat.le_of_ble_eq_true rfl) ?_
    refine bv_icmp_ge (tgt := 25) dX6_addText_7 (by decide) (fun cc => ?_) (fun cc => ?_)
    · replace h := bu_t h cc
      refine bw_ls (ls1 := []) [] rfl ?_
      obtain rfl := Option.some.inj h
      exact K0 _ rfl
    · replace h := bu_f h cc
      refine bv_aload_n dX6_addText_10 0 rfl ?_
      refine bv_aload_n dX6_addText_11 1 rfl ?_
      refine bv_iload_n dX6_addText_12 2 rfl ?_
      obtain ⟨v3, p4, h⟩ := bu_bd h
      refine bw_callX (C := "java/lang/String") (x := x1) (As := [.int x2]) (bm_is_ol (c_strat_is p4)) rfl dX6_addText_13 mc_6_88 (c_strat (d := d + 0) hN p4) rfl rfl (Nat.le_of_ble_eq_true rfl) ?_
      obtain ⟨q5, h⟩ := bu_io h
      obtain ⟨v6, p7, h⟩ := bu_bd h
      refine bw_callVv (As := [.int v3]) hN q5 ⟨_, _, rfl⟩ dX6_addText_16 mc_6_92 (c_X6_addByte (d := d + 4) hN p7) rfl rfl (by decide) ?_
      refine bv_iinc (j := 2) (v := (x2 + 1)) (ls1 := [(0, .ref x0), (1, .ref x1), (2, .int (x2 + 1))]) dX6_addText_19 rfl rfl (by decide) rfl rfl ?_
      refine bv_goto (tgt := 2) dX6_addText_22 (by decide) ?_
      exact ih _ _ _ h K0
def f_X6_addText (M : bm_M) (x0 : Nat) (x1 : Nat) : Option (bm_M) := ((f_X6_addText_l2 x0 x1 1000 0 M).bind fun y3 => some y3)
set_option maxHeartbeats 4000000 in
set_option maxRecDepth 100000 in
theorem c_X6_addText {L : bm_L} {d n : Nat} {M : bm_M} {x0 : Nat} {x1 : Nat} {v : bm_M} (hN : 181 ≤ n) (h : f_X6_addText M x0 x1 = some v) : bm_C L m_X6_addText (d + 5) n n [.ref x0, .ref x1] M (fun r M' => r = none ∧ M' = v) := by
  refine bm_C.ofV (by decide) (Nat.le_of_ble_eq_true rfl) ?_
  show bm_V L m_X6_addText (d + 5) n n n 0 [(0, .ref x0), (1, .ref x1)] [] M _
  unfold f_X6_addText at h
  refine bv_iconst (v := 0) dX6_addText_0 (by decide) ?_
  refine bv_istore_n (ls1 := [(0, .ref x0), (1, .ref x1), (2, .int 0)]) dX6_addText_1 (by decide) rfl rfl ?_
  obtain ⟨r1, p2, h⟩ := bu_bd h
  refine v_X6_addText_l2 hN 1000 _ _ _ p2 (fun y3 hy => ?_)
  · subst hy
    obtain rfl := Option.some.inj h
    exact bv_vret dX6_addText_25 rfl ⟨rfl, rfl⟩
def f_X6_liftText (M : bm_M) (x0 : Int32) : Option (Nat) := (if x0 = 1 then some ((1000 + 5) + 200) else (if x0 = 2 then some ((1000 + 6) + 200) else some ((1000 + 7) + 200)))
set_option maxHeartbeats 4000000 in
set_option maxRecDepth 100000 in
theorem c_X6_liftText {L : bm_L} {d n : Nat} {M : bm_M} {x0 : Int32} {v : Nat} (hN : 181 ≤ n) (h : f_X6_liftText M x0 = some v) : bm_C L m_X6_liftText d n n [.int x0] M (fun r M' => r = some (.ref v) ∧ M' = M) := by
  refine bm_C.ofV (by decide) (Nat.le_of_ble_eq_true rfl) ?_
  show bm_V L m_X6_liftText d n n n 0 [(0, .int x0)] [] M _
  unfold f_X6_liftText at h
  refine bv_iload_n dX6_liftText_0 0 rfl ?_
  refine bv_iconst (v := 1) dX6_liftText_1 (by decide) ?_
  refine bv_icmp_ne (tgt := 14) dX6_liftText_2 (by decide) (fun cc => ?_) (fun cc => ?_)
  · replace h := bu_f h cc
    refine bv_iload_n dX6_liftText_14 0 rfl ?_
    refine bv_iconst (v := 2) dX6_liftText_15 (by decide) ?_
    refine bv_icmp_ne (tgt := 28) dX6_liftText_16 (by decide) (fun cc => ?_) (fun cc => ?_)
    · replace h := bu_f h cc
      refine bw_getW (j := 7) dX6_liftText_28 fw_6_80 rfl ?_
      refine bw_wtx rfl dX6_liftText_31 fw_6_73 ?_
      obtain rfl := Option.some.inj h
      exact bv_aret (x := some ((1000 + 7) + 200)) dX6_liftText_34 rfl (Or.inl ⟨_, rfl⟩) ⟨rfl, rfl⟩
    · replace h := bu_t h cc
      refine bw_getW (j := 6) dX6_liftText_19 fw_6_77 rfl ?_
      refine bw_wtx rfl dX6_liftText_22 fw_6_73 ?_
      refine bv_goto (tgt := 34) dX6_liftText_25 (by decide) ?_
      obtain rfl := Option.some.inj h
      exact bv_aret (x := some ((1000 + 6) + 200)) dX6_liftText_34 rfl (Or.inl ⟨_, rfl⟩) ⟨rfl, rfl⟩
  · replace h := bu_t h cc
    refine bw_getW (j := 5) dX6_liftText_5 fw_6_67 rfl ?_
    refine bw_wtx rfl dX6_liftText_8 fw_6_73 ?_
    refine bv_goto (tgt := 34) dX6_liftText_11 (by decide) ?_
    obtain rfl := Option.some.inj h
    exact bv_aret (x := some ((1000 + 5) + 200)) dX6_liftText_34 rfl (Or.inl ⟨_, rfl⟩) ⟨rfl, rfl⟩
def f_X6_write (M : bm_M) (x0 : Nat) (x1 : Int32) (x2 : Nat) : Option (bm_M) := (if bm_io x0 6 then (if bm_io x2 8 then ((M.2.2 x2 0).bind fun a3 => (if bm_io a3 0 then ((M.2.2 a3 0).bind fun a6 => (if bm_ia a6 2 x1 = true then ((f_X6_addName (bm_sI M x0 1 0) x0 ((bm_sI M x0 1 0).2.1 a6 x1.toNatClampNeg)).bind fun v9 => ((v9.2.2 x2 4).bind fun a11 => (if bm_ia a11 0 x1 = true then (if (v9.1 a11 x1.toNatClampNeg) = (-1) then ((f_X6_addText v9 x0 1240).bind fun v40 => ((v40.2.2 x2 3).bind fun a42 => (if bm_ia a42 0 x1 = true then (if (v40.1 a42 x1.toNatClampNeg) = 0 then (if (f_X11_bit (v40.1 x2 7) x1) = 1 then ((f_X6_addText v40 x0 1243).bind fun v45 => some v45) else some v40) else ((f_X6_addText v40 x0 1242).bind fun v47 => ((v47.2.2 x2 3).bind fun a49 => (if bm_ia a49 0 x1 = true then ((f_X6_liftText v47 (v47.1 a49 x1.toNatClampNeg)).bind fun v52 => ((f_X6_addText v47 x0 v52).bind fun v54 => (if (f_X11_bit (v54.1 x2 7) x1) = 1 then ((f_X6_addText v54 x0 1243).bind fun v56 => some v56) else some v54))) else none)))) else none))) else ((f_X6_addText v9 x0 1241).bind fun v14 => ((v14.2.2 x2 0).bind fun a16 => (if bm_io a16 0 then ((v14.2.2 a16 5).bind fun a19 => (if bm_ia a19 2 (v9.1 a11 x1.toNatClampNeg) = true then ((f_X6_addName v14 x0 (v14.2.1 a19 (v9.1 a11 x1.toNatClampNeg).toNatClampNeg)).bind fun v22 => ((v22.2.2 x2 3).bind fun a24 => (if bm_ia a24 0 x1 = true then (if (v22.1 a24 x1.toNatClampNeg) = 0 then (if (f_X11_bit (v22.1 x2 7) x1) = 1 then ((f_X6_addText v22 x0 1243).bind fun v27 => some v27) else some v22) else ((f_X6_addText v22 x0 1242).bind fun v29 => ((v29.2.2 x2 3).bind fun a31 => (if bm_ia a31 0 x1 = true then ((f_X6_liftText v29 (v29.1 a31 x1.toNatClampNeg)).bind fun v34 => ((f_X6_addText v29 x0 v34).bind fun v36 => (if (f_X11_bit (v36.1 x2 7) x1) = 1 then ((f_X6_addText v36 x0 1243).bind fun v38 => some v38) else some v36))) else none)))) else none))) else none)) else none)))) else none))) else none)) else none)) else none) else none)
set_option maxHeartbeats 4000000 in
set_option maxRecDepth 100000 in
theorem c_X6_write {L : bm_L} {d n : Nat} {M : bm_M} {x0 : Nat} {x1 : Int32} {x2 : Nat} {v : bm_M} (hN : 181 ≤ n) (h : f_X6_write M x0 x1 x2 = some v) : bm_C L m_X6_write (d + 6) n n [.ref x0, .int x1, .ref x2] M (fun r M' => r = none ∧ M' = v) := by
  refine bm_C.ofV (by decide) (Nat.le_of_ble_eq_true rfl) ?_
  show bm_V L m_X6_write (d + 6) n n n 0 [(0, .ref x0), (1, .int x1), (2, .ref x2)] [] M _
  unfold f_X6_write at h
  refine bv_aload_n dX6_write_0 0 rfl ?_
  refine bv_iconst (v := 0) dX6_write_1 (by decide) ?_
  obtain ⟨q1, h⟩ := bu_io h
  refine bw_putI hN q1 dX6_write_2 fl_6_15 rfl ?_
  refine bv_aload_n dX6_write_5 0 rfl ?_
  refine bv_aload_n dX6_write_6 2 rfl ?_
  obtain ⟨q2, h⟩ := bu_io h
  obtain ⟨a3, e4, h⟩ := bu_bd h
  refine bw_getA (a := a3) hN q2 e4 dX6_write_7 fl_6_19 rfl ?_
  obtain ⟨q5, h⟩ := bu_io h
  obtain ⟨a6, e7, h⟩ := bu_bd h
  refine bw_getA (a := a6) hN q5 e7 dX6_write_10 fl_6_25 rfl ?_
  refine bv_iload_n dX6_write_13 1 rfl ?_
  obtain ⟨r8, h⟩ := bu_ia h
  refine bw_lald hN r8 dX6_write_14 ?_
  obtain ⟨v9, p10, h⟩ := bu_bd h
  refine bw_callVv (As := [.long ((bm_sI M x0 1 0).2.1 a6 x1.toNatClampNeg)]) hN q1 ⟨_, _, rfl⟩ dX6_write_15 mc_6_31 (c_X6_addName (d := d + 4) hN p10) rfl rfl (by decide) ?_
  refine bv_aload_n dX6_write_18 2 rfl ?_
  obtain ⟨a11, e12, h⟩ := bu_bd h
  refine bw_getA (a := a11) hN q2 e12 dX6_write_19 fl_6_35 rfl ?_
  refine bv_iload_n dX6_write_22 1 rfl ?_
  obtain ⟨r13, h⟩ := bu_ia h
  refine bw_iald hN r13 dX6_write_23 ?_
  refine bv_istore_n (ls1 := [(0, .ref x0), (1, .int x1), (2, .ref x2), (3, .int (v9.1 a11 x1.toNatClampNeg))]) dX6_write_24 (by decide) rfl rfl ?_
  refine bv_iload_n dX6_write_25 3 rfl ?_
  refine bv_iconst (v := (-1)) dX6_write_26 (by decide) ?_
  refine bv_icmp_ne (tgt := 39) dX6_write_27 (by decide) (fun cc => ?_) (fun cc => ?_)
  · replace h := bu_f h cc
    refine bv_aload_n dX6_write_39 0 rfl ?_
    refine bv_ldcS (x := 1241) dX6_write_40 (List.mem_of_getElem? (i := 1) rfl) (by decide) ?_
    obtain ⟨v14, p15, h⟩ := bu_bd h
    refine bw_callVv (As := [.ref 1241]) hN q1 ⟨_, _, rfl⟩ dX6_write_42 mc_6_40 (c_X6_addText (d := d + 0) hN p15) rfl rfl (by decide) ?_
    refine bv_aload_n dX6_write_45 0 rfl ?_
    refine bv_aload_n dX6_write_46 2 rfl ?_
    obtain ⟨a16, e17, h⟩ := bu_bd h
    refine bw_getA (a := a16) hN q2 e17 dX6_write_47 fl_6_19 rfl ?_
    obtain ⟨q18, h⟩ := bu_io h
    obtain ⟨a19, e20, h⟩ := bu_bd h
    refine bw_getA (a := a19) hN q18 e20 dX6_write_50 fl_6_46 rfl ?_
    refine bv_iload_n dX6_write_53 3 rfl ?_
    obtain ⟨r21, h⟩ := bu_ia h
    refine bw_lald hN r21 dX6_write_54 ?_
    obtain ⟨v22, p23, h⟩ := bu_bd h
    refine bw_callVv (As := [.long (v14.2.1 a19 (v9.1 a11 x1.toNatClampNeg).toNatClampNeg)]) hN q1 ⟨_, _, rfl⟩ dX6_write_55 mc_6_31 (c_X6_addName (d := d + 4) hN p23) rfl rfl (by decide) ?_
    refine bv_aload_n dX6_write_58 2 rfl ?_
    obtain ⟨a24, e25, h⟩ := bu_bd h
    refine bw_getA (a := a24) hN q2 e25 dX6_write_59 fl_6_49 rfl ?_
    refine bv_iload_n dX6_write_62 1 rfl ?_
    obtain ⟨r26, h⟩ := bu_ia h
    refine bw_iald hN r26 dX6_write_63 ?_
    refine bv_if_eq (tgt := 86) dX6_write_64 (by decide) (fun cc => ?_) (fun cc => ?_)
    · replace h := bu_t h cc
      refine bv_aload_n dX6_write_86 2 rfl ?_
      refine bw_getI hN q2 dX6_write_87 fl_6_58 rfl ?_
      refine bv_iload_n dX6_write_90 1 rfl ?_
      refine bw_callSN (As := [.int (v22.1 x2 7), .int x1]) dX6_write_91 mc_6_61 (c_X11_bit (d := d + 5) hN rfl) rfl rfl (by decide) ?_
      refine bv_iconst (v := 1) dX6_write_94 (by decide) ?_
      refine bv_icmp_ne (tgt := 104) dX6_write_95 (by decide) (fun cc => ?_) (fun cc => ?_)
      · replace h := bu_f h cc
        obtain rfl := Option.some.inj h
        exact bv_vret dX6_write_104 rfl ⟨rfl, rfl⟩
      · replace h := bu_t h cc
        refine bv_aload_n dX6_write_98 0 rfl ?_
        refine bv_ldcS (x := 1243) dX6_write_99 (List.mem_of_getElem? (i := 3) rfl) (by decide) ?_
        obtain ⟨v27, p28, h⟩ := bu_bd h
        refine bw_callVv (As := [.ref 1243]) hN q1 ⟨_, _, rfl⟩ dX6_write_101 mc_6_40 (c_X6_addText (d := d + 0) hN p28) rfl rfl (by decide) ?_
        obtain rfl := Option.some.inj h
        exact bv_vret dX6_write_104 rfl ⟨rfl, rfl⟩
    · replace h := bu_f h cc
      refine bv_aload_n dX6_write_67 0 rfl ?_
      refine bv_ldcS (x := 1242) dX6_write_68 (List.mem_of_getElem? (i := 2) rfl) (by decide) ?_
      obtain ⟨v29, p30, h⟩ := bu_bd h
      refine bw_callVv (As := [.ref 1242]) hN q1 ⟨_, _, rfl⟩ dX6_write_70 mc_6_40 (c_X6_addText (d := d + 0) hN p30) rfl rfl (by decide) ?_
      refine bv_aload_n dX6_write_73 0 rfl ?_
      refine bv_aload_n dX6_write_74 2 rfl ?_
      obtain ⟨a31, e32, h⟩ := bu_bd h
      refine bw_getA (a := a31) hN q2 e32 dX6_write_75 fl_6_49 rfl ?_
      refine bv_iload_n dX6_write_78 1 rfl ?_
      obtain ⟨r33, h⟩ := bu_ia h
      refine bw_iald hN r33 dX6_write_79 ?_
      obtain ⟨v34, p35, h⟩ := bu_bd h
      refine bw_callS (As := [.int (v29.1 a31 x1.toNatClampNeg)]) dX6_write_80 mc_6_54 (c_X6_liftText (d := d + 5) hN p35) rfl rfl (Nat.le_of_ble_eq_true rfl) ?_
      obtain ⟨v36, p37, h⟩ := bu_bd h
      refine bw_callVv (As := [.ref v34]) hN q1 ⟨_, _, rfl⟩ dX6_write_83 mc_6_40 (c_X6_addText (d := d + 0) hN p37) rfl rfl (by decide) ?_
      refine bv_aload_n dX6_write_86 2 rfl ?_
      refine bw_getI hN q2 dX6_write_87 fl_6_58 rfl ?_
      refine bv_iload_n dX6_write_90 1 rfl ?_
      refine bw_callSN (As := [.int (v36.1 x2 7), .int x1]) dX6_write_91 mc_6_61 (c_X11_bit (d := d + 5) hN rfl) rfl rfl (by decide) ?_
      refine bv_iconst (v := 1) dX6_write_94 (by decide) ?_
      refine bv_icmp_ne (tgt := 104) dX6_write_95 (by decide) (fun cc => ?_) (fun cc => ?_)
      · replace h := bu_f h cc
        obtain rfl := Option.some.inj h
        exact bv_vret dX6_write_104 rfl ⟨rfl, rfl⟩
      · replace h := bu_t h cc
        refine bv_aload_n dX6_write_98 0 rfl ?_
        refine bv_ldcS (x := 1243) dX6_write_99 (List.mem_of_getElem? (i := 3) rfl) (by decide) ?_
        obtain ⟨v38, p39, h⟩ := bu_bd h
        refine bw_callVv (As := [.ref 1243]) hN q1 ⟨_, _, rfl⟩ dX6_write_101 mc_6_40 (c_X6_addText (d := d + 0) hN p39) rfl rfl (by decide) ?_
        obtain rfl := Option.some.inj h
        exact bv_vret dX6_write_104 rfl ⟨rfl, rfl⟩
  · replace h := bu_t h cc
    refine bv_aload_n dX6_write_30 0 rfl ?_
    refine bv_ldcS (x := 1240) dX6_write_31 (List.mem_of_getElem? (i := 0) rfl) (by decide) ?_
    obtain ⟨v40, p41, h⟩ := bu_bd h
    refine bw_callVv (As := [.ref 1240]) hN q1 ⟨_, _, rfl⟩ dX6_write_33 mc_6_40 (c_X6_addText (d := d + 0) hN p41) rfl rfl (by decide) ?_
    refine bv_goto (tgt := 58) dX6_write_36 (by decide) ?_
    refine bv_aload_n dX6_write_58 2 rfl ?_
    obtain ⟨a42, e43, h⟩ := bu_bd h
    refine bw_getA (a := a42) hN q2 e43 dX6_write_59 fl_6_49 rfl ?_
    refine bv_iload_n dX6_write_62 1 rfl ?_
    obtain ⟨r44, h⟩ := bu_ia h
    refine bw_iald hN r44 dX6_write_63 ?_
    refine bv_if_eq (tgt := 86) dX6_write_64 (by decide) (fun cc => ?_) (fun cc => ?_)
    · replace h := bu_t h cc
      refine bv_aload_n dX6_write_86 2 rfl ?_
      refine bw_getI hN q2 dX6_write_87 fl_6_58 rfl ?_
      refine bv_iload_n dX6_write_90 1 rfl ?_
      refine bw_callSN (As := [.int (v40.1 x2 7), .int x1]) dX6_write_91 mc_6_61 (c_X11_bit (d := d + 5) hN rfl) rfl rfl (by decide) ?_
      refine bv_iconst (v := 1) dX6_write_94 (by decide) ?_
      refine bv_icmp_ne (tgt := 104) dX6_write_95 (by decide) (fun cc => ?_) (fun cc => ?_)
      · replace h := bu_f h cc
        obtain rfl := Option.some.inj h
        exact bv_vret dX6_write_104 rfl ⟨rfl, rfl⟩
      · replace h := bu_t h cc
        refine bv_aload_n dX6_write_98 0 rfl ?_
        refine bv_ldcS (x := 1243) dX6_write_99 (List.mem_of_getElem? (i := 3) rfl) (by decide) ?_
        obtain ⟨v45, p46, h⟩ := bu_bd h
        refine bw_callVv (As := [.ref 1243]) hN q1 ⟨_, _, rfl⟩ dX6_write_101 mc_6_40 (c_X6_addText (d := d + 0) hN p46) rfl rfl (by decide) ?_
        obtain rfl := Option.some.inj h
        exact bv_vret dX6_write_104 rfl ⟨rfl, rfl⟩
    · replace h := bu_f h cc
      refine bv_aload_n dX6_write_67 0 rfl ?_
      refine bv_ldcS (x := 1242) dX6_write_68 (List.mem_of_getElem? (i := 2) rfl) (by decide) ?_
      obtain ⟨v47, p48, h⟩ := bu_bd h
      refine bw_callVv (As := [.ref 1242]) hN q1 ⟨_, _, rfl⟩ dX6_write_70 mc_6_40 (c_X6_addText (d := d + 0) hN p48) rfl rfl (by decide) ?_
      refine bv_aload_n dX6_write_73 0 rfl ?_
      refine bv_aload_n dX6_write_74 2 rfl ?_
      obtain ⟨a49, e50, h⟩ := bu_bd h
      refine bw_getA (a := a49) hN q2 e50 dX6_write_75 fl_6_49 rfl ?_
      refine bv_iload_n dX6_write_78 1 rfl ?_
      obtain ⟨r51, h⟩ := bu_ia h
      refine bw_iald hN r51 dX6_write_79 ?_
      obtain ⟨v52, p53, h⟩ := bu_bd h
      refine bw_callS (As := [.int (v47.1 a49 x1.toNatClampNeg)]) dX6_write_80 mc_6_54 (c_X6_liftText (d := d + 5) hN p53) rfl rfl (Nat.le_of_ble_eq_true rfl) ?_
      obtain ⟨v54, p55, h⟩ := bu_bd h
      refine bw_callVv (As := [.ref v52]) hN q1 ⟨_, _, rfl⟩ dX6_write_83 mc_6_40 (c_X6_addText (d := d + 0) hN p55) rfl rfl (by decide) ?_
      refine bv_aload_n dX6_write_86 2 rfl ?_
      refine bw_getI hN q2 dX6_write_87 fl_6_58 rfl ?_
      refine bv_iload_n dX6_write_90 1 rfl ?_
      refine bw_callSN (As := [.int (v54.1 x2 7), .int x1]) dX6_write_91 mc_6_61 (c_X11_bit (d := d + 5) hN rfl) rfl rfl (by decide) ?_
      refine bv_iconst (v := 1) dX6_write_94 (by decide) ?_
      refine bv_icmp_ne (tgt := 104) dX6_write_95 (by decide) (fun cc => ?_) (fun cc => ?_)
      · replace h := bu_f h cc
        obtain rfl := Option.some.inj h
        exact bv_vret dX6_write_104 rfl ⟨rfl, rfl⟩
      · replace h := bu_t h cc
        refine bv_aload_n dX6_write_98 0 rfl ?_
        refine bv_ldcS (x := 1243) dX6_write_99 (List.mem_of_getElem? (i := 3) rfl) (by decide) ?_
        obtain ⟨v56, p57, h⟩ := bu_bd h
        refine bw_callVv (As := [.ref 1243]) hN q1 ⟨_, _, rfl⟩ dX6_write_101 mc_6_40 (c_X6_addText (d := d + 0) hN p57) rfl rfl (by decide) ?_
        obtain rfl := Option.some.inj h
        exact bv_vret dX6_write_104 rfl ⟨rfl, rfl⟩
def f_X7_forget (M : bm_M) (x0 : Nat) : Option (bm_M) := (if bm_io x0 7 then some (bm_sI (bm_sI M x0 5 0) x0 4 0) else none)
set_option maxHeartbeats 4000000 in
set_option maxRecDepth 100000 in
theorem c_X7_forget {L : bm_L} {d n : Nat} {M : bm_M} {x0 : Nat} {v : bm_M} (hN : 181 ≤ n) (h : f_X7_forget M x0 = some v) : bm_C L m_X7_forget d n n [.ref x0] M (fun r M' => r = none ∧ M' = v) := by
  refine bm_C.ofV (by decide) (Nat.le_of_ble_eq_true rfl) ?_
  show bm_V L m_X7_forget d n n n 0 [(0, .ref x0)] [] M _
  unfold f_X7_forget at h
  refine bv_aload_n dX7_forget_0 0 rfl ?_
  refine bv_iconst (v := 0) dX7_forget_1 (by decide) ?_
  obtain ⟨q1, h⟩ := bu_io h
  refine bw_putI hN q1 dX7_forget_2 fl_7_27 rfl ?_
  refine bv_aload_n dX7_forget_5 0 rfl ?_
  refine bv_iconst (v := 0) dX7_forget_6 (by decide) ?_
  refine bw_putI hN q1 dX7_forget_7 fl_7_31 rfl ?_
  obtain rfl := Option.some.inj h
  exact bv_vret dX7_forget_10 rfl ⟨rfl, rfl⟩
def f_X7_add (M : bm_M) (x0 : Nat) (x1 : Option Nat) (x2 : Int32) (x3 : Int32) : Option (bm_M) := (if bm_io x0 7 then (if 40 ≤ (M.1 x0 4) then some M else ((M.2.2 x0 0).bind fun a2 => (if bm_ia a2 4 (M.1 x0 4) = true then (if bm_iwq x1 = true then (((bm_sR M a2 (M.1 x0 4).toNatClampNeg x1).2.2 x0 1).bind fun a6 => (if bm_ia a6 0 ((bm_sR M a2 (M.1 x0 4).toNatClampNeg x1).1 x0 4) = true then (((bm_sR M a2 (M.1 x0 4).toNatClampNeg x1).2.2 x0 2).bind fun a9 => (if bm_ia a9 0 ((bm_sI (bm_sR M a2 (M.1 x0 4).toNatClampNeg x1) a6 ((bm_sR M a2 (M.1 x0 4).toNatClampNeg x1).1 x0 4).toNatClampNeg x2).1 x0 4) = true then some (bm_sI (bm_sI (bm_sI (bm_sR M a2 (M.1 x0 4).toNatClampNeg x1) a6 ((bm_sR M a2 (M.1 x0 4).toNatClampNeg x1).1 x0 4).toNatClampNeg x2) a9 ((bm_sI (bm_sR M a2 (M.1 x0 4).toNatClampNeg x1) a6 ((bm_sR M a2 (M.1 x0 4).toNatClampNeg x1).1 x0 4).toNatClampNeg x2).1 x0 4).toNatClampNeg x3) x0 4 (((bm_sI (bm_sI (bm_sR M a2 (M.1 x0 4).toNatClampNeg x1) a6 ((bm_sR M a2 (M.1 x0 4).toNatClampNeg x1).1 x0 4).toNatClampNeg x2) a9 ((bm_sI (bm_sR M a2 (M.1 x0 4).toNatClampNeg x1) a6 ((bm_sR M a2 (M.1 x0 4).toNatClampNeg x1).1 x0 4).toNatClampNeg x2).1 x0 4).toNatClampNeg x3).1 x0 4) + 1)) else none)) else none)) else none) else none))) else none)
set_option maxHeartbeats 4000000 in
set_option maxRecDepth 100000 in
theorem c_X7_add {L : bm_L} {d n : Nat} {M : bm_M} {x0 : Nat} {x1 : Option Nat} {x2 : Int32} {x3 : Int32} {v : bm_M} (hN : 181 ≤ n) (h : f_X7_add M x0 x1 x2 x3 = some v) : bm_C L m_X7_add d n n [.ref x0, va_rf x1, .int x2, .int x3] M (fun r M' => r = none ∧ M' = v) := by
  refine bm_C.ofV (by decide) (by cases x1 <;> exact Nat.le_of_ble_eq_true rfl) ?_
  rw [show bm_en 0 [.ref x0, va_rf x1, .int x2, .int x3] = [(0, .ref x0), (1, va_rf x1), (2, .int x2), (3, .int x3)] from by cases x1 <;> rfl]
  unfold f_X7_add at h
  refine bv_aload_n dX7_add_0 0 rfl ?_
  obtain ⟨q1, h⟩ := bu_io h
  refine bw_getI hN q1 dX7_add_1 fl_7_31 rfl ?_
  refine bv_bipush (v := 40) dX7_add_4 (by decide) ?_
  refine bv_icmp_ge (tgt := 49) dX7_add_6 (by decide) (fun cc => ?_) (fun cc => ?_)
  · replace h := bu_t h cc
    obtain rfl := Option.some.inj h
    exact bv_vret dX7_add_49 rfl ⟨rfl, rfl⟩
  · replace h := bu_f h cc
    refine bv_aload_n dX7_add_9 0 rfl ?_
    obtain ⟨a2, e3, h⟩ := bu_bd h
    refine bw_getA (a := a2) hN q1 e3 dX7_add_10 fl_7_11 rfl ?_
    refine bv_aload_n dX7_add_13 0 rfl ?_
    refine bw_getI hN q1 dX7_add_14 fl_7_31 rfl ?_
    refine bv_aloadq_n (x := x1) dX7_add_17 1 rfl ?_
    obtain ⟨r4, h⟩ := bu_ia h
    obtain ⟨w5, h⟩ := bu_g h
    refine bw_aastQ (v := x1) hN r4 w5 dX7_add_18 ?_
    refine bv_aload_n dX7_add_19 0 rfl ?_
    obtain ⟨a6, e7, h⟩ := bu_bd h
    refine bw_getA (a := a6) hN q1 e7 dX7_add_20 fl_7_17 rfl ?_
    refine bv_aload_n dX7_add_23 0 rfl ?_
    refine bw_getI hN q1 dX7_add_24 fl_7_31 rfl ?_
    refine bv_iload_n dX7_add_27 2 rfl ?_
    obtain ⟨r8, h⟩ := bu_ia h
    refine bw_iast hN r8 dX7_add_28 ?_
    refine bv_aload_n dX7_add_29 0 rfl ?_
    obtain ⟨a9, e10, h⟩ := bu_bd h
    refine bw_getA (a := a9) hN q1 e10 dX7_add_30 fl_7_21 rfl ?_
    refine bv_aload_n dX7_add_33 0 rfl ?_
    refine bw_getI hN q1 dX7_add_34 fl_7_31 rfl ?_
    refine bv_iload_n dX7_add_37 3 rfl ?_
    obtain ⟨r11, h⟩ := bu_ia h
    refine bw_iast hN r11 dX7_add_38 ?_
    refine bv_aload_n dX7_add_39 0 rfl ?_
    refine bv_dup dX7_add_40 rfl ?_
    refine bw_getI hN q1 dX7_add_41 fl_7_31 rfl ?_
    refine bv_iconst (v := 1) dX7_add_44 (by decide) ?_
    refine bv_iadd dX7_add_45 ?_
    refine bw_putI hN q1 dX7_add_46 fl_7_31 rfl ?_
    obtain rfl := Option.some.inj h
    exact bv_vret dX7_add_49 rfl ⟨rfl, rfl⟩
def f_X7_canBegin (M : bm_M) (x0 : Option Nat) : Option (Bool) := (if bm_iwq x0 = true then (if x0 = (some (1000 + 21)) then some true else (if x0 = none then some false else (x0.bind fun a2 => (if bm_iw a2 = true then (if (bm_wso a2) < 4 then some false else some true) else none)))) else none)
set_option maxHeartbeats 4000000 in
set_option maxRecDepth 100000 in
theorem c_X7_canBegin {L : bm_L} {d n : Nat} {M : bm_M} {x0 : Option Nat} {v : Bool} (hN : 181 ≤ n) (h : f_X7_canBegin M x0 = some v) : bm_C L m_X7_canBegin d n n [va_rf x0] M (fun r M' => r = some (.int (bm_bi v)) ∧ M' = M) := by
  refine bm_C.ofV (by decide) (by cases x0 <;> exact Nat.le_of_ble_eq_true rfl) ?_
  rw [show bm_en 0 [va_rf x0] = [(0, va_rf x0)] from by cases x0 <;> rfl]
  unfold f_X7_canBegin at h
  refine bv_aloadq_n (x := x0) dX7_canBegin_0 0 rfl ?_
  refine bw_getW (j := 21) dX7_canBegin_1 fw_7_76 rfl ?_
  obtain ⟨w1, h⟩ := bu_g h
  refine bv_acmp_eq (x := x0) (y := (some (1000 + 21))) (tgt := 19) dX7_canBegin_4 (by decide) (bm_wq_of w1) (bm_wq_of rfl) (fun cc => ?_) (fun cc => ?_)
  · replace h := bu_t h cc
    refine bv_iconst (v := 1) dX7_canBegin_19 (by decide) ?_
    refine bv_goto (tgt := 24) dX7_canBegin_20 (by decide) ?_
    obtain rfl := Option.some.inj h
    exact bw_bret (b := true) dX7_canBegin_24 rfl ⟨rfl, rfl⟩
  · replace h := bu_f h cc
    refine bv_aloadq_n (x := x0) dX7_canBegin_7 0 rfl ?_
    refine bv_ifnull (x := x0) (tgt := 23) dX7_canBegin_8 (by decide) (fun cc => ?_) (fun cc => ?_)
    · replace h := bu_t h cc
      refine bv_iconst (v := 0) dX7_canBegin_23 (by decide) ?_
      obtain rfl := Option.some.inj h
      exact bw_bret (b := false) dX7_canBegin_24 rfl ⟨rfl, rfl⟩
    · replace h := bu_f h cc
      refine bv_aloadq_n (x := x0) dX7_canBegin_11 0 rfl ?_
      obtain ⟨a2, e3, h⟩ := bu_bd h
      refine bw_some e3 ?_
      obtain ⟨w4, h⟩ := bu_g h
      refine bw_wso w4 dX7_canBegin_12 fw_7_83 ?_
      refine bv_iconst (v := 4) dX7_canBegin_15 (by decide) ?_
      refine bv_icmp_lt (tgt := 23) dX7_canBegin_16 (by decide) (fun cc => ?_) (fun cc => ?_)
      · replace h := bu_t h cc
        refine bv_iconst (v := 0) dX7_canBegin_23 (by decide) ?_
        obtain rfl := Option.some.inj h
        exact bw_bret (b := false) dX7_canBegin_24 rfl ⟨rfl, rfl⟩
      · replace h := bu_f h cc
        refine bv_iconst (v := 1) dX7_canBegin_19 (by decide) ?_
        refine bv_goto (tgt := 24) dX7_canBegin_20 (by decide) ?_
        obtain rfl := Option.some.inj h
        exact bw_bret (b := true) dX7_canBegin_24 rfl ⟨rfl, rfl⟩
def f_X7_readPlain (M : bm_M) (x0 : Nat) (x1 : Option Nat) (x2 : Nat) (x3 : Nat) : Option (Bool × bm_M) := (x1.bind fun a1 => (if bm_iw a1 = true then (if (bm_wso a1) = 5 then (if bm_io x2 5 then ((f_X5_manHere M x2 x3).bind fun v85 => (if v85.1 = (-1) then some (false, v85.2) else (x1.bind fun a87 => (if bm_iw a87 = true then (if (bm_wso a87) = 4 then (if bm_io x0 7 then ((f_X7_add v85.2 x0 x1 v85.1 0).bind fun v91 => some (true, v91)) else none) else ((f_X5_advance v85.2 x2).bind fun v93 => (if bm_io x0 7 then ((f_X7_add v93 x0 x1 v85.1 0).bind fun v96 => some (true, v96)) else none))) else none)))) else none) else (x1.bind fun a4 => (if bm_iw a4 = true then (if (bm_wso a4) = 6 then (if bm_io x2 5 then ((f_X5_orderHere M x2 x3).bind fun v71 => (if v71.1 = (-1) then some (false, v71.2) else (x1.bind fun a73 => (if bm_iw a73 = true then (if (bm_wso a73) = 4 then (if bm_io x0 7 then ((f_X7_add v71.2 x0 x1 v71.1 0).bind fun v77 => some (true, v77)) else none) else ((f_X5_advance v71.2 x2).bind fun v79 => (if bm_io x0 7 then ((f_X7_add v79 x0 x1 v71.1 0).bind fun v82 => some (true, v82)) else none))) else none)))) else none) else (x1.bind fun a7 => (if bm_iw a7 = true then (if (bm_wso a7) = 7 then (if bm_io x2 5 then (if (M.1 x2 6) = 60 then ((f_X5_advance M x2).bind fun v23 => ((f_X5_numberHere v23 x2 0 999).bind fun v25 => (if v25.1 = (-1) then some (false, v25.2) else (x1.bind fun a27 => (if bm_iw a27 = true then (if (bm_wso a27) = 4 then (if bm_io x0 7 then ((f_X7_add v25.2 x0 x1 v25.1 (M.1 x2 6)).bind fun v31 => some (true, v31)) else none) else ((f_X5_advance v25.2 x2).bind fun v33 => (if bm_io x0 7 then ((f_X7_add v33 x0 x1 v25.1 (M.1 x2 6)).bind fun v36 => some (true, v36)) else none))) else none))))) else (if (M.1 x2 6) = 61 then ((f_X5_advance M x2).bind fun v38 => ((f_X5_numberHere v38 x2 0 999).bind fun v40 => (if v40.1 = (-1) then some (false, v40.2) else (x1.bind fun a42 => (if bm_iw a42 = true then (if (bm_wso a42) = 4 then (if bm_io x0 7 then ((f_X7_add v40.2 x0 x1 v40.1 (M.1 x2 6)).bind fun v46 => some (true, v46)) else none) else ((f_X5_advance v40.2 x2).bind fun v48 => (if bm_io x0 7 then ((f_X7_add v48 x0 x1 v40.1 (M.1 x2 6)).bind fun v51 => some (true, v51)) else none))) else none))))) else (if (M.1 x2 6) = 62 then ((f_X5_advance M x2).bind fun v53 => ((f_X5_numberHere v53 x2 0 999).bind fun v55 => (if v55.1 = (-1) then some (false, v55.2) else (x1.bind fun a57 => (if bm_iw a57 = true then (if (bm_wso a57) = 4 then (if bm_io x0 7 then ((f_X7_add v55.2 x0 x1 v55.1 (M.1 x2 6)).bind fun v61 => some (true, v61)) else none) else ((f_X5_advance v55.2 x2).bind fun v63 => (if bm_io x0 7 then ((f_X7_add v63 x0 x1 v55.1 (M.1 x2 6)).bind fun v66 => some (true, v66)) else none))) else none))))) else ((f_X5_refuse M x2 1).bind fun v68 => some (v68.1, v68.2))))) else none) else (x1.bind fun a10 => (if bm_iw a10 = true then (if (bm_wso a10) = 4 then (if bm_io x0 7 then ((f_X7_add M x0 x1 0 0).bind fun v14 => some (true, v14)) else none) else (if bm_io x2 5 then ((f_X5_advance M x2).bind fun v17 => (if bm_io x0 7 then ((f_X7_add v17 x0 x1 0 0).bind fun v20 => some (true, v20)) else none)) else none)) else none))) else none))) else none))) else none))
set_option maxHeartbeats 4000000 in
set_option maxRecDepth 100000 in
theorem c_X7_readPlain {L : bm_L} {d n : Nat} {M : bm_M} {x0 : Nat} {x1 : Option Nat} {x2 : Nat} {x3 : Nat} {v : Bool × bm_M} (hN : 181 ≤ n) (h : f_X7_readPlain M x0 x1 x2 x3 = some v) : bm_C L m_X7_readPlain (d + 3) n n [.ref x0, va_rf x1, .ref x2, .ref x3] M (fun r M' => r = some (.int (bm_bi v.1)) ∧ M' = v.2) := by
  refine bm_C.ofV (by decide) (by cases x1 <;> exact Nat.le_of_ble_eq_true rfl) ?_
  rw [show bm_en 0 [.ref x0, va_rf x1, .ref x2, .ref x3] = [(0, .ref x0), (1, va_rf x1), (2, .ref x2), (3, .ref x3)] from by cases x1 <;> rfl]
  unfold f_X7_readPlain at h
  refine bv_iconst (v := 0) dX7_readPlain_0 (by decide) ?_
  refine bv_istore (ls1 := [(0, .ref x0), (1, va_rf x1), (2, .ref x2), (3, .ref x3), (4, .int 0)]) dX7_readPlain_1 (by decide) (by simp [bm_ok1, bm_rf_cat, Value.category]) rfl ?_
  refine bv_iconst (v := 0) dX7_readPlain_3 (by decide) ?_
  refine bv_istore (ls1 := [(0, .ref x0), (1, va_rf x1), (2, .ref x2), (3, .ref x3), (4, .int 0), (5, .int 0)]) dX7_readPlain_4 (by decide) (by simp [bm_ok1, bm_rf_cat, Value.category]) rfl ?_
  refine bv_aloadq_n (x := x1) dX7_readPlain_6 1 rfl ?_
  obtain ⟨a1, e2, h⟩ := bu_bd h
  refine bw_some e2 ?_
  obtain ⟨w3, h⟩ := bu_g h
  refine bw_wso w3 dX7_readPlain_7 fw_7_83 ?_
  refine bv_iconst (v := 5) dX7_readPlain_10 (by decide) ?_
  refine bv_icmp_ne (tgt := 24) dX7_readPlain_11 (by decide) (fun cc => ?_) (fun cc => ?_)
  · replace h := bu_f h cc
    refine bv_aloadq_n (x := x1) dX7_readPlain_24 1 rfl ?_
    obtain ⟨a4, e5, h⟩ := bu_bd h
    refine bw_some e5 ?_
    obtain ⟨w6, h⟩ := bu_g h
    refine bw_wso w6 dX7_readPlain_25 fw_7_83 ?_
    refine bv_bipush (v := 6) dX7_readPlain_28 (by decide) ?_
    refine bv_icmp_ne (tgt := 43) dX7_readPlain_30 (by decide) (fun cc => ?_) (fun cc => ?_)
    · replace h := bu_f h cc
      refine bv_aloadq_n (x := x1) dX7_readPlain_43 1 rfl ?_
      obtain ⟨a7, e8, h⟩ := bu_bd h
      refine bw_some e8 ?_
      obtain ⟨w9, h⟩ := bu_g h
      refine bw_wso w9 dX7_readPlain_44 fw_7_83 ?_
      refine bv_bipush (v := 7) dX7_readPlain_47 (by decide) ?_
      refine bv_icmp_ne (tgt := 99) dX7_readPlain_49 (by decide) (fun cc => ?_) (fun cc => ?_)
      · replace h := bu_f h cc
        refine bv_iload dX7_readPlain_99 4 rfl ?_
        refine bv_iconst (v := (-1)) dX7_readPlain_101 (by decide) ?_
        refine bv_icmp_ne (tgt := 107) dX7_readPlain_102 (by decide) (fun cc => ?_) (fun cc => ?_)
        rotate_left
        · exact absurd cc (by decide)
        refine bv_aloadq_n (x := x1) dX7_readPlain_107 1 rfl ?_
        obtain ⟨a10, e11, h⟩ := bu_bd h
        refine bw_some e11 ?_
        obtain ⟨w12, h⟩ := bu_g h
        refine bw_wso w12 dX7_readPlain_108 fw_7_83 ?_
        refine bv_iconst (v := 4) dX7_readPlain_111 (by decide) ?_
        refine bv_icmp_eq (tgt := 119) dX7_readPlain_112 (by decide) (fun cc => ?_) (fun cc => ?_)
        · replace h := bu_t h cc
          refine bv_aload_n dX7_readPlain_119 0 rfl ?_
          refine bv_aloadq_n (x := x1) dX7_readPlain_120 1 rfl ?_
          refine bv_iload dX7_readPlain_121 4 rfl ?_
          refine bv_iload dX7_readPlain_123 5 rfl ?_
          obtain ⟨q13, h⟩ := bu_io h
          obtain ⟨v14, p15, h⟩ := bu_bd h
          refine bw_callVv (As := [va_rf x1, .int 0, .int 0]) hN q13 ⟨_, _, rfl⟩ dX7_readPlain_125 mc_7_50 (c_X7_add (d := d + 2) hN p15) rfl rfl (by decide) ?_
          refine bv_iconst (v := 1) dX7_readPlain_128 (by decide) ?_
          obtain rfl := Option.some.inj h
          exact bw_bret (b := true) dX7_readPlain_129 rfl ⟨rfl, rfl⟩
        · replace h := bu_f h cc
          refine bv_aload_n dX7_readPlain_115 2 rfl ?_
          obtain ⟨q16, h⟩ := bu_io h
          obtain ⟨v17, p18, h⟩ := bu_bd h
          refine bw_callVv (As := []) hN q16 ⟨_, _, rfl⟩ dX7_readPlain_116 mc_7_47 (c_X5_advance (d := d + 0) hN p18) rfl rfl (by decide) ?_
          refine bv_aload_n dX7_readPlain_119 0 rfl ?_
          refine bv_aloadq_n (x := x1) dX7_readPlain_120 1 rfl ?_
          refine bv_iload dX7_readPlain_121 4 rfl ?_
          refine bv_iload dX7_readPlain_123 5 rfl ?_
          obtain ⟨q19, h⟩ := bu_io h
          obtain ⟨v20, p21, h⟩ := bu_bd h
          refine bw_callVv (As := [va_rf x1, .int 0, .int 0]) hN q19 ⟨_, _, rfl⟩ dX7_readPlain_125 mc_7_50 (c_X7_add (d := d + 2) hN p21) rfl rfl (by decide) ?_
          refine bv_iconst (v := 1) dX7_readPlain_128 (by decide) ?_
          obtain rfl := Option.some.inj h
          exact bw_bret (b := true) dX7_readPlain_129 rfl ⟨rfl, rfl⟩
      · replace h := bu_t h cc
        refine bv_aload_n dX7_readPlain_52 2 rfl ?_
        obtain ⟨q22, h⟩ := bu_io h
        refine bw_getI hN q22 dX7_readPlain_53 fl_7_60 rfl ?_
        refine bv_istore (ls1 := [(0, .ref x0), (1, va_rf x1), (2, .ref x2), (3, .ref x3), (4, .int 0), (5, .int (M.1 x2 6))]) dX7_readPlain_56 (by decide) (by simp [bm_ok1, bm_rf_cat, Value.category]) rfl ?_
        refine bv_iload dX7_readPlain_58 5 rfl ?_
        refine bv_bipush (v := 60) dX7_readPlain_60 (by decide) ?_
        refine bv_icmp_eq (tgt := 85) dX7_readPlain_62 (by decide) (fun cc => ?_) (fun cc => ?_)
        · replace h := bu_t h cc
          refine bv_aload_n dX7_readPlain_85 2 rfl ?_
          obtain ⟨v23, p24, h⟩ := bu_bd h
          refine bw_callVv (As := []) hN q22 ⟨_, _, rfl⟩ dX7_readPlain_86 mc_7_47 (c_X5_advance (d := d + 0) hN p24) rfl rfl (by decide) ?_
          refine bv_aload_n dX7_readPlain_89 2 rfl ?_
          refine bv_iconst (v := 0) dX7_readPlain_90 (by decide) ?_
          refine bv_sipush (v := 999) dX7_readPlain_91 (by decide) ?_
          obtain ⟨v25, p26, h⟩ := bu_bd h
          refine bw_callV (As := [.int 0, .int 999]) hN q22 ⟨_, _, rfl⟩ dX7_readPlain_94 mc_7_93 (c_X5_numberHere (d := d + 1) hN p26) rfl rfl (by decide) ?_
          refine bv_istore (ls1 := [(0, .ref x0), (1, va_rf x1), (2, .ref x2), (3, .ref x3), (4, .int v25.1), (5, .int (M.1 x2 6))]) dX7_readPlain_97 (by decide) (by simp [bm_ok1, bm_rf_cat, Value.category]) rfl ?_
          refine bv_iload dX7_readPlain_99 4 rfl ?_
          refine bv_iconst (v := (-1)) dX7_readPlain_101 (by decide) ?_
          refine bv_icmp_ne (tgt := 107) dX7_readPlain_102 (by decide) (fun cc => ?_) (fun cc => ?_)
          · replace h := bu_f h cc
            refine bv_aloadq_n (x := x1) dX7_readPlain_107 1 rfl ?_
            obtain ⟨a27, e28, h⟩ := bu_bd h
            refine bw_some e28 ?_
            obtain ⟨w29, h⟩ := bu_g h
            refine bw_wso w29 dX7_readPlain_108 fw_7_83 ?_
            refine bv_iconst (v := 4) dX7_readPlain_111 (by decide) ?_
            refine bv_icmp_eq (tgt := 119) dX7_readPlain_112 (by decide) (fun cc => ?_) (fun cc => ?_)
            · replace h := bu_t h cc
              refine bv_aload_n dX7_readPlain_119 0 rfl ?_
              refine bv_aloadq_n (x := x1) dX7_readPlain_120 1 rfl ?_
              refine bv_iload dX7_readPlain_121 4 rfl ?_
              refine bv_iload dX7_readPlain_123 5 rfl ?_
              obtain ⟨q30, h⟩ := bu_io h
              obtain ⟨v31, p32, h⟩ := bu_bd h
              refine bw_callVv (As := [va_rf x1, .int v25.1, .int (M.1 x2 6)]) hN q30 ⟨_, _, rfl⟩ dX7_readPlain_125 mc_7_50 (c_X7_add (d := d + 2) hN p32) rfl rfl (by decide) ?_
              refine bv_iconst (v := 1) dX7_readPlain_128 (by decide) ?_
              obtain rfl := Option.some.inj h
              exact bw_bret (b := true) dX7_readPlain_129 rfl ⟨rfl, rfl⟩
            · replace h := bu_f h cc
              refine bv_aload_n dX7_readPlain_115 2 rfl ?_
              obtain ⟨v33, p34, h⟩ := bu_bd h
              refine bw_callVv (As := []) hN q22 ⟨_, _, rfl⟩ dX7_readPlain_116 mc_7_47 (c_X5_advance (d := d + 0) hN p34) rfl rfl (by decide) ?_
              refine bv_aload_n dX7_readPlain_119 0 rfl ?_
              refine bv_aloadq_n (x := x1) dX7_readPlain_120 1 rfl ?_
              refine bv_iload dX7_readPlain_121 4 rfl ?_
              refine bv_iload dX7_readPlain_123 5 rfl ?_
              obtain ⟨q35, h⟩ := bu_io h
              obtain ⟨v36, p37, h⟩ := bu_bd h
              refine bw_callVv (As := [va_rf x1, .int v25.1, .int (M.1 x2 6)]) hN q35 ⟨_, _, rfl⟩ dX7_readPlain_125 mc_7_50 (c_X7_add (d := d + 2) hN p37) rfl rfl (by decide) ?_
              refine bv_iconst (v := 1) dX7_readPlain_128 (by decide) ?_
              obtain rfl := Option.some.inj h
              exact bw_bret (b := true) dX7_readPlain_129 rfl ⟨rfl, rfl⟩
          · replace h := bu_t h cc
            refine bv_iconst (v := 0) dX7_readPlain_105 (by decide) ?_
            obtain rfl := Option.some.inj h
            exact bw_bret (b := false) dX7_readPlain_106 rfl ⟨rfl, rfl⟩
        · replace h := bu_f h cc
          refine bv_iload dX7_readPlain_65 5 rfl ?_
          refine bv_bipush (v := 61) dX7_readPlain_67 (by decide) ?_
          refine bv_icmp_eq (tgt := 85) dX7_readPlain_69 (by decide) (fun cc => ?_) (fun cc => ?_)
          · replace h := bu_t h cc
            refine bv_aload_n dX7_readPlain_85 2 rfl ?_
            obtain ⟨v38, p39, h⟩ := bu_bd h
            refine bw_callVv (As := []) hN q22 ⟨_, _, rfl⟩ dX7_readPlain_86 mc_7_47 (c_X5_advance (d := d + 0) hN p39) rfl rfl (by decide) ?_
            refine bv_aload_n dX7_readPlain_89 2 rfl ?_
            refine bv_iconst (v := 0) dX7_readPlain_90 (by decide) ?_
            refine bv_sipush (v := 999) dX7_readPlain_91 (by decide) ?_
            obtain ⟨v40, p41, h⟩ := bu_bd h
            refine bw_callV (As := [.int 0, .int 999]) hN q22 ⟨_, _, rfl⟩ dX7_readPlain_94 mc_7_93 (c_X5_numberHere (d := d + 1) hN p41) rfl rfl (by decide) ?_
            refine bv_istore (ls1 := [(0, .ref x0), (1, va_rf x1), (2, .ref x2), (3, .ref x3), (4, .int v40.1), (5, .int (M.1 x2 6))]) dX7_readPlain_97 (by decide) (by simp [bm_ok1, bm_rf_cat, Value.category]) rfl ?_
            refine bv_iload dX7_readPlain_99 4 rfl ?_
            refine bv_iconst (v := (-1)) dX7_readPlain_101 (by decide) ?_
            refine bv_icmp_ne (tgt := 107) dX7_readPlain_102 (by decide) (fun cc => ?_) (fun cc => ?_)
            · replace h := bu_f h cc
              refine bv_aloadq_n (x := x1) dX7_readPlain_107 1 rfl ?_
              obtain ⟨a42, e43, h⟩ := bu_bd h
              refine bw_some e43 ?_
              obtain ⟨w44, h⟩ := bu_g h
              refine bw_wso w44 dX7_readPlain_108 fw_7_83 ?_
              refine bv_iconst (v := 4) dX7_readPlain_111 (by decide) ?_
              refine bv_icmp_eq (tgt := 119) dX7_readPlain_112 (by decide) (fun cc => ?_) (fun cc => ?_)
              · replace h := bu_t h cc
                refine bv_aload_n dX7_readPlain_119 0 rfl ?_
                refine bv_aloadq_n (x := x1) dX7_readPlain_120 1 rfl ?_
                refine bv_iload dX7_readPlain_121 4 rfl ?_
                refine bv_iload dX7_readPlain_123 5 rfl ?_
                obtain ⟨q45, h⟩ := bu_io h
                obtain ⟨v46, p47, h⟩ := bu_bd h
                refine bw_callVv (As := [va_rf x1, .int v40.1, .int (M.1 x2 6)]) hN q45 ⟨_, _, rfl⟩ dX7_readPlain_125 mc_7_50 (c_X7_add (d := d + 2) hN p47) rfl rfl (by decide) ?_
                refine bv_iconst (v := 1) dX7_readPlain_128 (by decide) ?_
                obtain rfl := Option.some.inj h
                exact bw_bret (b := true) dX7_readPlain_129 rfl ⟨rfl, rfl⟩
              · replace h := bu_f h cc
                refine bv_aload_n dX7_readPlain_115 2 rfl ?_
                obtain ⟨v48, p49, h⟩ := bu_bd h
                refine bw_callVv (As := []) hN q22 ⟨_, _, rfl⟩ dX7_readPlain_116 mc_7_47 (c_X5_advance (d := d + 0) hN p49) rfl rfl (by decide) ?_
                refine bv_aload_n dX7_readPlain_119 0 rfl ?_
                refine bv_aloadq_n (x := x1) dX7_readPlain_120 1 rfl ?_
                refine bv_iload dX7_readPlain_121 4 rfl ?_
                refine bv_iload dX7_readPlain_123 5 rfl ?_
                obtain ⟨q50, h⟩ := bu_io h
                obtain ⟨v51, p52, h⟩ := bu_bd h
                refine bw_callVv (As := [va_rf x1, .int v40.1, .int (M.1 x2 6)]) hN q50 ⟨_, _, rfl⟩ dX7_readPlain_125 mc_7_50 (c_X7_add (d := d + 2) hN p52) rfl rfl (by decide) ?_
                refine bv_iconst (v := 1) dX7_readPlain_128 (by decide) ?_
                obtain rfl := Option.some.inj h
                exact bw_bret (b := true) dX7_readPlain_129 rfl ⟨rfl, rfl⟩
            · replace h := bu_t h cc
              refine bv_iconst (v := 0) dX7_readPlain_105 (by decide) ?_
              obtain rfl := Option.some.inj h
              exact bw_bret (b := false) dX7_readPlain_106 rfl ⟨rfl, rfl⟩
          · replace h := bu_f h cc
            refine bv_iload dX7_readPlain_72 5 rfl ?_
            refine bv_bipush (v := 62) dX7_readPlain_74 (by decide) ?_
            refine bv_icmp_eq (tgt := 85) dX7_readPlain_76 (by decide) (fun cc => ?_) (fun cc => ?_)
            · replace h := bu_t h cc
              refine bv_aload_n dX7_readPlain_85 2 rfl ?_
              obtain ⟨v53, p54, h⟩ := bu_bd h
              refine bw_callVv (As := []) hN q22 ⟨_, _, rfl⟩ dX7_readPlain_86 mc_7_47 (c_X5_advance (d := d + 0) hN p54) rfl rfl (by decide) ?_
              refine bv_aload_n dX7_readPlain_89 2 rfl ?_
              refine bv_iconst (v := 0) dX7_readPlain_90 (by decide) ?_
              refine bv_sipush (v := 999) dX7_readPlain_91 (by decide) ?_
              obtain ⟨v55, p56, h⟩ := bu_bd h
              refine bw_callV (As := [.int 0, .int 999]) hN q22 ⟨_, _, rfl⟩ dX7_readPlain_94 mc_7_93 (c_X5_numberHere (d := d + 1) hN p56) rfl rfl (by decide) ?_
              refine bv_istore (ls1 := [(0, .ref x0), (1, va_rf x1), (2, .ref x2), (3, .ref x3), (4, .int v55.1), (5, .int (M.1 x2 6))]) dX7_readPlain_97 (by decide) (by simp [bm_ok1, bm_rf_cat, Value.category]) rfl ?_
              refine bv_iload dX7_readPlain_99 4 rfl ?_
              refine bv_iconst (v := (-1)) dX7_readPlain_101 (by decide) ?_
              refine bv_icmp_ne (tgt := 107) dX7_readPlain_102 (by decide) (fun cc => ?_) (fun cc => ?_)
              · replace h := bu_f h cc
                refine bv_aloadq_n (x := x1) dX7_readPlain_107 1 rfl ?_
                obtain ⟨a57, e58, h⟩ := bu_bd h
                refine bw_some e58 ?_
                obtain ⟨w59, h⟩ := bu_g h
                refine bw_wso w59 dX7_readPlain_108 fw_7_83 ?_
                refine bv_iconst (v := 4) dX7_readPlain_111 (by decide) ?_
                refine bv_icmp_eq (tgt := 119) dX7_readPlain_112 (by decide) (fun cc => ?_) (fun cc => ?_)
                · replace h := bu_t h cc
                  refine bv_aload_n dX7_readPlain_119 0 rfl ?_
                  refine bv_aloadq_n (x := x1) dX7_readPlain_120 1 rfl ?_
                  refine bv_iload dX7_readPlain_121 4 rfl ?_
                  refine bv_iload dX7_readPlain_123 5 rfl ?_
                  obtain ⟨q60, h⟩ := bu_io h
                  obtain ⟨v61, p62, h⟩ := bu_bd h
                  refine bw_callVv (As := [va_rf x1, .int v55.1, .int (M.1 x2 6)]) hN q60 ⟨_, _, rfl⟩ dX7_readPlain_125 mc_7_50 (c_X7_add (d := d + 2) hN p62) rfl rfl (by decide) ?_
                  refine bv_iconst (v := 1) dX7_readPlain_128 (by decide) ?_
                  obtain rfl := Option.some.inj h
                  exact bw_bret (b := true) dX7_readPlain_129 rfl ⟨rfl, rfl⟩
                · replace h := bu_f h cc
                  refine bv_aload_n dX7_readPlain_115 2 rfl ?_
                  obtain ⟨v63, p64, h⟩ := bu_bd h
                  refine bw_callVv (As := []) hN q22 ⟨_, _, rfl⟩ dX7_readPlain_116 mc_7_47 (c_X5_advance (d := d + 0) hN p64) rfl rfl (by decide) ?_
                  refine bv_aload_n dX7_readPlain_119 0 rfl ?_
                  refine bv_aloadq_n (x := x1) dX7_readPlain_120 1 rfl ?_
                  refine bv_iload dX7_readPlain_121 4 rfl ?_
                  refine bv_iload dX7_readPlain_123 5 rfl ?_
                  obtain ⟨q65, h⟩ := bu_io h
                  obtain ⟨v66, p67, h⟩ := bu_bd h
                  refine bw_callVv (As := [va_rf x1, .int v55.1, .int (M.1 x2 6)]) hN q65 ⟨_, _, rfl⟩ dX7_readPlain_125 mc_7_50 (c_X7_add (d := d + 2) hN p67) rfl rfl (by decide) ?_
                  refine bv_iconst (v := 1) dX7_readPlain_128 (by decide) ?_
                  obtain rfl := Option.some.inj h
                  exact bw_bret (b := true) dX7_readPlain_129 rfl ⟨rfl, rfl⟩
              · replace h := bu_t h cc
                refine bv_iconst (v := 0) dX7_readPlain_105 (by decide) ?_
                obtain rfl := Option.some.inj h
                exact bw_bret (b := false) dX7_readPlain_106 rfl ⟨rfl, rfl⟩
            · replace h := bu_f h cc
              refine bv_aload_n dX7_readPlain_79 2 rfl ?_
              refine bv_iconst (v := 1) dX7_readPlain_80 (by decide) ?_
              obtain ⟨v68, p69, h⟩ := bu_bd h
              refine bw_callV (As := [.int 1]) hN q22 ⟨_, _, rfl⟩ dX7_readPlain_81 mc_7_66 (c_X5_refuse (d := d + 2) hN p69) rfl rfl (by decide) ?_
              obtain rfl := Option.some.inj h
              exact bw_bret (b := v68.1) dX7_readPlain_84 rfl ⟨rfl, rfl⟩
    · replace h := bu_t h cc
      refine bv_aload_n dX7_readPlain_33 2 rfl ?_
      refine bv_aload_n dX7_readPlain_34 3 rfl ?_
      obtain ⟨q70, h⟩ := bu_io h
      obtain ⟨v71, p72, h⟩ := bu_bd h
      refine bw_callV (As := [.ref x3]) hN q70 ⟨_, _, rfl⟩ dX7_readPlain_35 mc_7_90 (c_X5_orderHere (d := d + 1) hN p72) rfl rfl (by decide) ?_
      refine bv_istore (ls1 := [(0, .ref x0), (1, va_rf x1), (2, .ref x2), (3, .ref x3), (4, .int v71.1), (5, .int 0)]) dX7_readPlain_38 (by decide) (by simp [bm_ok1, bm_rf_cat, Value.category]) rfl ?_
      refine bv_goto (tgt := 99) dX7_readPlain_40 (by decide) ?_
      refine bv_iload dX7_readPlain_99 4 rfl ?_
      refine bv_iconst (v := (-1)) dX7_readPlain_101 (by decide) ?_
      refine bv_icmp_ne (tgt := 107) dX7_readPlain_102 (by decide) (fun cc => ?_) (fun cc => ?_)
      · replace h := bu_f h cc
        refine bv_aloadq_n (x := x1) dX7_readPlain_107 1 rfl ?_
        obtain ⟨a73, e74, h⟩ := bu_bd h
        refine bw_some e74 ?_
        obtain ⟨w75, h⟩ := bu_g h
        refine bw_wso w75 dX7_readPlain_108 fw_7_83 ?_
        refine bv_iconst (v := 4) dX7_readPlain_111 (by decide) ?_
        refine bv_icmp_eq (tgt := 119) dX7_readPlain_112 (by decide) (fun cc => ?_) (fun cc => ?_)
        · replace h := bu_t h cc
          refine bv_aload_n dX7_readPlain_119 0 rfl ?_
          refine bv_aloadq_n (x := x1) dX7_readPlain_120 1 rfl ?_
          refine bv_iload dX7_readPlain_121 4 rfl ?_
          refine bv_iload dX7_readPlain_123 5 rfl ?_
          obtain ⟨q76, h⟩ := bu_io h
          obtain ⟨v77, p78, h⟩ := bu_bd h
          refine bw_callVv (As := [va_rf x1, .int v71.1, .int 0]) hN q76 ⟨_, _, rfl⟩ dX7_readPlain_125 mc_7_50 (c_X7_add (d := d + 2) hN p78) rfl rfl (by decide) ?_
          refine bv_iconst (v := 1) dX7_readPlain_128 (by decide) ?_
          obtain rfl := Option.some.inj h
          exact bw_bret (b := true) dX7_readPlain_129 rfl ⟨rfl, rfl⟩
        · replace h := bu_f h cc
          refine bv_aload_n dX7_readPlain_115 2 rfl ?_
          obtain ⟨v79, p80, h⟩ := bu_bd h
          refine bw_callVv (As := []) hN q70 ⟨_, _, rfl⟩ dX7_readPlain_116 mc_7_47 (c_X5_advance (d := d + 0) hN p80) rfl rfl (by decide) ?_
          refine bv_aload_n dX7_readPlain_119 0 rfl ?_
          refine bv_aloadq_n (x := x1) dX7_readPlain_120 1 rfl ?_
          refine bv_iload dX7_readPlain_121 4 rfl ?_
          refine bv_iload dX7_readPlain_123 5 rfl ?_
          obtain ⟨q81, h⟩ := bu_io h
          obtain ⟨v82, p83, h⟩ := bu_bd h
          refine bw_callVv (As := [va_rf x1, .int v71.1, .int 0]) hN q81 ⟨_, _, rfl⟩ dX7_readPlain_125 mc_7_50 (c_X7_add (d := d + 2) hN p83) rfl rfl (by decide) ?_
          refine bv_iconst (v := 1) dX7_readPlain_128 (by decide) ?_
          obtain rfl := Option.some.inj h
          exact bw_bret (b := true) dX7_readPlain_129 rfl ⟨rfl, rfl⟩
      · replace h := bu_t h cc
        refine bv_iconst (v := 0) dX7_readPlain_105 (by decide) ?_
        obtain rfl := Option.some.inj h
        exact bw_bret (b := false) dX7_readPlain_106 rfl ⟨rfl, rfl⟩
  · replace h := bu_t h cc
    refine bv_aload_n dX7_readPlain_14 2 rfl ?_
    refine bv_aload_n dX7_readPlain_15 3 rfl ?_
    obtain ⟨q84, h⟩ := bu_io h
    obtain ⟨v85, p86, h⟩ := bu_bd h
    refine bw_callV (As := [.ref x3]) hN q84 ⟨_, _, rfl⟩ dX7_readPlain_16 mc_7_86 (c_X5_manHere (d := d + 1) hN p86) rfl rfl (by decide) ?_
    refine bv_istore (ls1 := [(0, .ref x0), (1, va_rf x1), (2, .ref x2), (3, .ref x3), (4, .int v85.1), (5, .int 0)]) dX7_readPlain_19 (by decide) (by simp [bm_ok1, bm_rf_cat, Value.category]) rfl ?_
    refine bv_goto (tgt := 99) dX7_readPlain_21 (by decide) ?_
    refine bv_iload dX7_readPlain_99 4 rfl ?_
    refine bv_iconst (v := (-1)) dX7_readPlain_101 (by decide) ?_
    refine bv_icmp_ne (tgt := 107) dX7_readPlain_102 (by decide) (fun cc => ?_) (fun cc => ?_)
    · replace h := bu_f h cc
      refine bv_aloadq_n (x := x1) dX7_readPlain_107 1 rfl ?_
      obtain ⟨a87, e88, h⟩ := bu_bd h
      refine bw_some e88 ?_
      obtain ⟨w89, h⟩ := bu_g h
      refine bw_wso w89 dX7_readPlain_108 fw_7_83 ?_
      refine bv_iconst (v := 4) dX7_readPlain_111 (by decide) ?_
      refine bv_icmp_eq (tgt := 119) dX7_readPlain_112 (by decide) (fun cc => ?_) (fun cc => ?_)
      · replace h := bu_t h cc
        refine bv_aload_n dX7_readPlain_119 0 rfl ?_
        refine bv_aloadq_n (x := x1) dX7_readPlain_120 1 rfl ?_
        refine bv_iload dX7_readPlain_121 4 rfl ?_
        refine bv_iload dX7_readPlain_123 5 rfl ?_
        obtain ⟨q90, h⟩ := bu_io h
        obtain ⟨v91, p92, h⟩ := bu_bd h
        refine bw_callVv (As := [va_rf x1, .int v85.1, .int 0]) hN q90 ⟨_, _, rfl⟩ dX7_readPlain_125 mc_7_50 (c_X7_add (d := d + 2) hN p92) rfl rfl (by decide) ?_
        refine bv_iconst (v := 1) dX7_readPlain_128 (by decide) ?_
        obtain rfl := Option.some.inj h
        exact bw_bret (b := true) dX7_readPlain_129 rfl ⟨rfl, rfl⟩
      · replace h := bu_f h cc
        refine bv_aload_n dX7_readPlain_115 2 rfl ?_
        obtain ⟨v93, p94, h⟩ := bu_bd h
        refine bw_callVv (As := []) hN q84 ⟨_, _, rfl⟩ dX7_readPlain_116 mc_7_47 (c_X5_advance (d := d + 0) hN p94) rfl rfl (by decide) ?_
        refine bv_aload_n dX7_readPlain_119 0 rfl ?_
        refine bv_aloadq_n (x := x1) dX7_readPlain_120 1 rfl ?_
        refine bv_iload dX7_readPlain_121 4 rfl ?_
        refine bv_iload dX7_readPlain_123 5 rfl ?_
        obtain ⟨q95, h⟩ := bu_io h
        obtain ⟨v96, p97, h⟩ := bu_bd h
        refine bw_callVv (As := [va_rf x1, .int v85.1, .int 0]) hN q95 ⟨_, _, rfl⟩ dX7_readPlain_125 mc_7_50 (c_X7_add (d := d + 2) hN p97) rfl rfl (by decide) ?_
        refine bv_iconst (v := 1) dX7_readPlain_128 (by decide) ?_
        obtain rfl := Option.some.inj h
        exact bw_bret (b := true) dX7_readPlain_129 rfl ⟨rfl, rfl⟩
    · replace h := bu_t h cc
      refine bv_iconst (v := 0) dX7_readPlain_105 (by decide) ?_
      obtain rfl := Option.some.inj h
      exact bw_bret (b := false) dX7_readPlain_106 rfl ⟨rfl, rfl⟩
def m_grp (j : Nat) : bm_I := match j with
  | 0 => m_X7_readCondition
  | 1 => m_X7_readAll
  | _ => m_X7_readOne
def bm_rec (L : bm_L) (rec : Nat → bm_M → Nat → Nat → Nat → Int32 → Option (Bool × bm_M)) (D n : Nat) : Prop := ∀ (j : Nat) (M : bm_M) (x0 x1 x2 : Nat) (x3 : Int32) (v : Bool × bm_M), rec j M x0 x1 x2 x3 = some v → bm_C L (m_grp j) D n n [.ref x0, .ref x1, .ref x2, .int x3] M (fun r M' => r = some (.int (bm_bi v.1)) ∧ M' = v.2)
def f_X7_readOne_B (rec : Nat → bm_M → Nat → Nat → Nat → Int32 → Option (Bool × bm_M)) (M : bm_M) (x0 : Nat) (x1 : Nat) (x2 : Nat) (x3 : Int32) : Option (Bool × bm_M) := (if bm_io x1 5 then (if (M.1 x1 6) = 40 then (if bm_io x0 7 then (if 20 ≤ (M.1 x0 5) then ((f_X5_refuse M x1 4).bind fun v21 => some (v21.1, v21.2)) else (if x3 ≤ 8 then ((f_X5_advance (bm_sI M x0 5 ((M.1 x0 5) + 1)) x1).bind fun v23 => ((rec 0 v23 x0 x1 x2 (x3 + 1)).bind fun v25 => (if v25.1 = true then ((f_X5_takeSign v25.2 x1 41).bind fun v27 => (if v27.1 = true then some (true, v27.2) else some (false, v27.2))) else some (false, v25.2)))) else ((f_X5_refuse M x1 4).bind fun v29 => some (v29.1, v29.2)))) else none) else ((f_X7_canBegin M (M.2.2 x1 8)).bind fun v2 => (if v2 = true then (if bm_io x0 7 then (if 20 ≤ (M.1 x0 5) then ((f_X5_refuse M x1 4).bind fun v5 => some (v5.1, v5.2)) else (if x3 ≤ 8 then ((f_X5_advance (bm_sI M x0 5 ((M.1 x0 5) + 1)) x1).bind fun v7 => (if bm_iwq (M.2.2 x1 8) = true then (if (M.2.2 x1 8) = (some (1000 + 21)) then ((rec 2 v7 x0 x1 x2 (x3 + 1)).bind fun v12 => (if v12.1 = true then ((f_X7_add v12.2 x0 (some (1000 + 21)) 0 0).bind fun v14 => some (true, v14)) else some (false, v12.2))) else ((f_X7_readPlain v7 x0 (M.2.2 x1 8) x1 x2).bind fun v10 => some (v10.1, v10.2))) else none)) else ((f_X5_refuse M x1 4).bind fun v16 => some (v16.1, v16.2)))) else none) else ((f_X5_refuse M x1 1).bind fun v18 => some (v18.1, v18.2))))) else none)
set_option maxHeartbeats 4000000 in
set_option maxRecDepth 100000 in
theorem c_X7_readOne {L : bm_L} {d n : Nat} {M : bm_M} {x0 : Nat} {x1 : Nat} {x2 : Nat} {x3 : Int32} {v : Bool × bm_M} (hN : 181 ≤ n) {rec : Nat → bm_M → Nat → Nat → Nat → Int32 → Option (Bool × bm_M)} (hrec : bm_rec L rec (d + 3) n) (h : f_X7_readOne_B rec M x0 x1 x2 x3 = some v) : bm_C L m_X7_readOne (d + 4) n n [.ref x0, .ref x1, .ref x2, .int x3] M (fun r M' => r = some (.int (bm_bi v.1)) ∧ M' = v.2) := by
  refine bm_C.ofV (by decide) (Nat.le_of_ble_eq_true rfl) ?_
  show bm_V L m_X7_readOne (d + 4) n n n 0 [(0, .ref x0), (1, .ref x1), (2, .ref x2), (3, .int x3)] [] M _
  unfold f_X7_readOne_B at h
  refine bv_aload_n dX7_readOne_0 1 rfl ?_
  obtain ⟨q1, h⟩ := bu_io h
  refine bw_getI hN q1 dX7_readOne_1 fl_7_60 rfl ?_
  refine bv_bipush (v := 40) dX7_readOne_4 (by decide) ?_
  refine bv_icmp_ne (tgt := 13) dX7_readOne_6 (by decide) (fun cc => ?_) (fun cc => ?_)
  · replace h := bu_f h cc
    refine bv_iconst (v := 0) dX7_readOne_13 (by decide) ?_
    refine bv_istore (ls1 := [(0, .ref x0), (1, .ref x1), (2, .ref x2), (3, .int x3), (4, .int 0)]) dX7_readOne_14 (by decide) rfl rfl ?_
    refine bv_aload_n dX7_readOne_16 1 rfl ?_
    refine bw_getR hN q1 dX7_readOne_17 fl_7_38 rfl ?_
    refine bv_astoreq (x := (M.2.2 x1 8)) (ls1 := [(0, .ref x0), (1, .ref x1), (2, .ref x2), (3, .int x3), (4, .int 0), (5, va_rf (M.2.2 x1 8))]) dX7_readOne_20 (by decide) rfl rfl ?_
    refine bv_iload dX7_readOne_22 4 rfl ?_
    refine bv_if_ne (tgt := 41) dX7_readOne_24 (by decide) (fun cc => ?_) (fun cc => ?_)
    · exact absurd cc (by decide)
    refine bv_aloadq (x := (M.2.2 x1 8)) dX7_readOne_27 5 rfl ?_
    obtain ⟨v2, p3, h⟩ := bu_bd h
    refine bw_callS (As := [va_rf (M.2.2 x1 8)]) dX7_readOne_29 mc_7_62 (c_X7_canBegin (d := d + 3) hN p3) rfl rfl (by decide) ?_
    refine bw_ifB_ne (b := v2) (tgt := 41) dX7_readOne_32 (by decide) (fun cc => ?_) (fun cc => ?_)
    · replace h := bu_bt h cc
      refine bv_aload_n dX7_readOne_41 0 rfl ?_
      obtain ⟨q4, h⟩ := bu_io h
      refine bw_getI hN q4 dX7_readOne_42 fl_7_27 rfl ?_
      refine bv_bipush (v := 20) dX7_readOne_45 (by decide) ?_
      refine bv_icmp_ge (tgt := 56) dX7_readOne_47 (by decide) (fun cc => ?_) (fun cc => ?_)
      · replace h := bu_t h cc
        refine bv_aload_n dX7_readOne_56 1 rfl ?_
        refine bv_iconst (v := 4) dX7_readOne_57 (by decide) ?_
        obtain ⟨v5, p6, h⟩ := bu_bd h
        refine bw_callV (As := [.int 4]) hN q1 ⟨_, _, rfl⟩ dX7_readOne_58 mc_7_66 (c_X5_refuse (d := d + 3) hN p6) rfl rfl (by decide) ?_
        obtain rfl := Option.some.inj h
        exact bw_bret (b := v5.1) dX7_readOne_61 rfl ⟨rfl, rfl⟩
      · replace h := bu_f h cc
        refine bv_iload_n dX7_readOne_50 3 rfl ?_
        refine bv_bipush (v := 8) dX7_readOne_51 (by decide) ?_
        refine bv_icmp_le (tgt := 62) dX7_readOne_53 (by decide) (fun cc => ?_) (fun cc => ?_)
        · replace h := bu_t h cc
          refine bv_aload_n dX7_readOne_62 0 rfl ?_
          refine bv_dup dX7_readOne_63 rfl ?_
          refine bw_getI hN q4 dX7_readOne_64 fl_7_27 rfl ?_
          refine bv_iconst (v := 1) dX7_readOne_67 (by decide) ?_
          refine bv_iadd dX7_readOne_68 ?_
          refine bw_putI hN q4 dX7_readOne_69 fl_7_27 rfl ?_
          refine bv_aload_n dX7_readOne_72 1 rfl ?_
          obtain ⟨v7, p8, h⟩ := bu_bd h
          refine bw_callVv (As := []) hN q1 ⟨_, _, rfl⟩ dX7_readOne_73 mc_7_47 (c_X5_advance (d := d + 1) hN p8) rfl rfl (by decide) ?_
          refine bv_iload dX7_readOne_76 4 rfl ?_
          refine bv_if_eq (tgt := 108) dX7_readOne_78 (by decide) (fun cc => ?_) (fun cc => ?_)
          rotate_left
          · exact absurd cc (by decide)
          refine bv_aloadq (x := (M.2.2 x1 8)) dX7_readOne_108 5 rfl ?_
          refine bw_getW (j := 21) dX7_readOne_110 fw_7_76 rfl ?_
          obtain ⟨w9, h⟩ := bu_g h
          refine bv_acmp_ne (x := (M.2.2 x1 8)) (y := (some (1000 + 21))) (tgt := 141) dX7_readOne_113 (by decide) (bm_wq_of w9) (bm_wq_of rfl) (fun cc => ?_) (fun cc => ?_)
          · replace h := bu_f h cc
            refine bv_aload_n dX7_readOne_141 0 rfl ?_
            refine bv_aloadq (x := (M.2.2 x1 8)) dX7_readOne_142 5 rfl ?_
            refine bv_aload_n dX7_readOne_144 1 rfl ?_
            refine bv_aload_n dX7_readOne_145 2 rfl ?_
            obtain ⟨v10, p11, h⟩ := bu_bd h
            refine bw_callV (As := [va_rf (M.2.2 x1 8), .ref x1, .ref x2]) hN q4 ⟨_, _, rfl⟩ dX7_readOne_146 mc_7_79 (c_X7_readPlain (d := d + 0) hN p11) rfl rfl (by decide) ?_
            obtain rfl := Option.some.inj h
            exact bw_bret (b := v10.1) dX7_readOne_149 rfl ⟨rfl, rfl⟩
          · replace h := bu_t h cc
            refine bv_aload_n dX7_readOne_116 0 rfl ?_
            refine bv_aload_n dX7_readOne_117 1 rfl ?_
            refine bv_aload_n dX7_readOne_118 2 rfl ?_
            refine bv_iload_n dX7_readOne_119 3 rfl ?_
            refine bv_iconst (v := 1) dX7_readOne_120 (by decide) ?_
            refine bv_iadd dX7_readOne_121 ?_
            obtain ⟨v12, p13, h⟩ := bu_bd h
            refine bw_callV (As := [.ref x1, .ref x2, .int (x3 + 1)]) hN q4 ⟨_, _, rfl⟩ dX7_readOne_122 mc_7_54 (hrec 2 _ _ _ _ _ _ p13) rfl rfl (by decide) ?_
            refine bw_ifB_ne (b := v12.1) (tgt := 130) dX7_readOne_125 (by decide) (fun cc => ?_) (fun cc => ?_)
            · replace h := bu_bt h cc
              refine bv_aload_n dX7_readOne_130 0 rfl ?_
              refine bw_getW (j := 21) dX7_readOne_131 fw_7_76 rfl ?_
              refine bv_iconst (v := 0) dX7_readOne_134 (by decide) ?_
              refine bv_iconst (v := 0) dX7_readOne_135 (by decide) ?_
              obtain ⟨v14, p15, h⟩ := bu_bd h
              refine bw_callVv (As := [va_rf (some (1000 + 21)), .int 0, .int 0]) hN q4 ⟨_, _, rfl⟩ dX7_readOne_136 mc_7_50 (c_X7_add (d := d + 3) hN p15) rfl rfl (by decide) ?_
              refine bv_iconst (v := 1) dX7_readOne_139 (by decide) ?_
              obtain rfl := Option.some.inj h
              exact bw_bret (b := true) dX7_readOne_140 rfl ⟨rfl, rfl⟩
            · replace h := bu_bf h cc
              refine bv_iconst (v := 0) dX7_readOne_128 (by decide) ?_
              obtain rfl := Option.some.inj h
              exact bw_bret (b := false) dX7_readOne_129 rfl ⟨rfl, rfl⟩
        · replace h := bu_f h cc
          refine bv_aload_n dX7_readOne_56 1 rfl ?_
          refine bv_iconst (v := 4) dX7_readOne_57 (by decide) ?_
          obtain ⟨v16, p17, h⟩ := bu_bd h
          refine bw_callV (As := [.int 4]) hN q1 ⟨_, _, rfl⟩ dX7_readOne_58 mc_7_66 (c_X5_refuse (d := d + 3) hN p17) rfl rfl (by decide) ?_
          obtain rfl := Option.some.inj h
          exact bw_bret (b := v16.1) dX7_readOne_61 rfl ⟨rfl, rfl⟩
    · replace h := bu_bf h cc
      refine bv_aload_n dX7_readOne_35 1 rfl ?_
      refine bv_iconst (v := 1) dX7_readOne_36 (by decide) ?_
      obtain ⟨v18, p19, h⟩ := bu_bd h
      refine bw_callV (As := [.int 1]) hN q1 ⟨_, _, rfl⟩ dX7_readOne_37 mc_7_66 (c_X5_refuse (d := d + 3) hN p19) rfl rfl (by decide) ?_
      obtain rfl := Option.some.inj h
      exact bw_bret (b := v18.1) dX7_readOne_40 rfl ⟨rfl, rfl⟩
  · replace h := bu_t h cc
    refine bv_iconst (v := 1) dX7_readOne_9 (by decide) ?_
    refine bv_goto (tgt := 14) dX7_readOne_10 (by decide) ?_
    refine bv_istore (ls1 := [(0, .ref x0), (1, .ref x1), (2, .ref x2), (3, .int x3), (4, .int 1)]) dX7_readOne_14 (by decide) rfl rfl ?_
    refine bv_aload_n dX7_readOne_16 1 rfl ?_
    refine bw_getR hN q1 dX7_readOne_17 fl_7_38 rfl ?_
    refine bv_astoreq (x := (M.2.2 x1 8)) (ls1 := [(0, .ref x0), (1, .ref x1), (2, .ref x2), (3, .int x3), (4, .int 1), (5, va_rf (M.2.2 x1 8))]) dX7_readOne_20 (by decide) rfl rfl ?_
    refine bv_iload dX7_readOne_22 4 rfl ?_
    refine bv_if_ne (tgt := 41) dX7_readOne_24 (by decide) (fun cc => ?_) (fun cc => ?_)
    rotate_left
    · exact absurd cc (by decide)
    refine bv_aload_n dX7_readOne_41 0 rfl ?_
    obtain ⟨q20, h⟩ := bu_io h
    refine bw_getI hN q20 dX7_readOne_42 fl_7_27 rfl ?_
    refine bv_bipush (v := 20) dX7_readOne_45 (by decide) ?_
    refine bv_icmp_ge (tgt := 56) dX7_readOne_47 (by decide) (fun cc => ?_) (fun cc => ?_)
    · replace h := bu_t h cc
      refine bv_aload_n dX7_readOne_56 1 rfl ?_
      refine bv_iconst (v := 4) dX7_readOne_57 (by decide) ?_
      obtain ⟨v21, p22, h⟩ := bu_bd h
      refine bw_callV (As := [.int 4]) hN q1 ⟨_, _, rfl⟩ dX7_readOne_58 mc_7_66 (c_X5_refuse (d := d + 3) hN p22) rfl rfl (by decide) ?_
      obtain rfl := Option.some.inj h
      exact bw_bret (b := v21.1) dX7_readOne_61 rfl ⟨rfl, rfl⟩
    · replace h := bu_f h cc
      refine bv_iload_n dX7_readOne_50 3 rfl ?_
      refine bv_bipush (v := 8) dX7_readOne_51 (by decide) ?_
      refine bv_icmp_le (tgt := 62) dX7_readOne_53 (by decide) (fun cc => ?_) (fun cc => ?_)
      · replace h := bu_t h cc
        refine bv_aload_n dX7_readOne_62 0 rfl ?_
        refine bv_dup dX7_readOne_63 rfl ?_
        refine bw_getI hN q20 dX7_readOne_64 fl_7_27 rfl ?_
        refine bv_iconst (v := 1) dX7_readOne_67 (by decide) ?_
        refine bv_iadd dX7_readOne_68 ?_
        refine bw_putI hN q20 dX7_readOne_69 fl_7_27 rfl ?_
        refine bv_aload_n dX7_readOne_72 1 rfl ?_
        obtain ⟨v23, p24, h⟩ := bu_bd h
        refine bw_callVv (As := []) hN q1 ⟨_, _, rfl⟩ dX7_readOne_73 mc_7_47 (c_X5_advance (d := d + 1) hN p24) rfl rfl (by decide) ?_
        refine bv_iload dX7_readOne_76 4 rfl ?_
        refine bv_if_eq (tgt := 108) dX7_readOne_78 (by decide) (fun cc => ?_) (fun cc => ?_)
        · exact absurd cc (by decide)
        refine bv_aload_n dX7_readOne_81 0 rfl ?_
        refine bv_aload_n dX7_readOne_82 1 rfl ?_
        refine bv_aload_n dX7_readOne_83 2 rfl ?_
        refine bv_iload_n dX7_readOne_84 3 rfl ?_
        refine bv_iconst (v := 1) dX7_readOne_85 (by decide) ?_
        refine bv_iadd dX7_readOne_86 ?_
        obtain ⟨v25, p26, h⟩ := bu_bd h
        refine bw_callV (As := [.ref x1, .ref x2, .int (x3 + 1)]) hN q20 ⟨_, _, rfl⟩ dX7_readOne_87 mc_7_70 (hrec 0 _ _ _ _ _ _ p26) rfl rfl (by decide) ?_
        refine bw_ifB_eq (b := v25.1) (tgt := 106) dX7_readOne_90 (by decide) (fun cc => ?_) (fun cc => ?_)
        · replace h := bu_bf h cc
          refine bv_iconst (v := 0) dX7_readOne_106 (by decide) ?_
          obtain rfl := Option.some.inj h
          exact bw_bret (b := false) dX7_readOne_107 rfl ⟨rfl, rfl⟩
        · replace h := bu_bt h cc
          refine bv_aload_n dX7_readOne_93 1 rfl ?_
          refine bv_bipush (v := 41) dX7_readOne_94 (by decide) ?_
          obtain ⟨v27, p28, h⟩ := bu_bd h
          refine bw_callV (As := [.int 41]) hN q1 ⟨_, _, rfl⟩ dX7_readOne_96 mc_7_73 (c_X5_takeSign (d := d + 0) hN p28) rfl rfl (by decide) ?_
          refine bw_ifB_eq (b := v27.1) (tgt := 106) dX7_readOne_99 (by decide) (fun cc => ?_) (fun cc => ?_)
          · replace h := bu_bf h cc
            refine bv_iconst (v := 0) dX7_readOne_106 (by decide) ?_
            obtain rfl := Option.some.inj h
            exact bw_bret (b := false) dX7_readOne_107 rfl ⟨rfl, rfl⟩
          · replace h := bu_bt h cc
            refine bv_iconst (v := 1) dX7_readOne_102 (by decide) ?_
            refine bv_goto (tgt := 107) dX7_readOne_103 (by decide) ?_
            obtain rfl := Option.some.inj h
            exact bw_bret (b := true) dX7_readOne_107 rfl ⟨rfl, rfl⟩
      · replace h := bu_f h cc
        refine bv_aload_n dX7_readOne_56 1 rfl ?_
        refine bv_iconst (v := 4) dX7_readOne_57 (by decide) ?_
        obtain ⟨v29, p30, h⟩ := bu_bd h
        refine bw_callV (As := [.int 4]) hN q1 ⟨_, _, rfl⟩ dX7_readOne_58 mc_7_66 (c_X5_refuse (d := d + 3) hN p30) rfl rfl (by decide) ?_
        obtain rfl := Option.some.inj h
        exact bw_bret (b := v29.1) dX7_readOne_61 rfl ⟨rfl, rfl⟩
def f_X7_readAll_B_l15 (rec : Nat → bm_M → Nat → Nat → Nat → Int32 → Option (Bool × bm_M)) (x0 : Nat) (x1 : Nat) (x2 : Nat) (x3 : Int32) : Nat → Int32 → bm_M → Option (((bm_M) ⊕ (bm_M)))
  | 0, _, _ => none
  | k + 1, x4, M => (if 20 ≤ x4 then some (Sum.inr M) else (if bm_io x1 5 then (if bm_iwq (M.2.2 x1 8) = true then (if (M.2.2 x1 8) = (some (1000 + 20)) then ((f_X5_advance M x1).bind fun v3 => ((rec 2 v3 x0 x1 x2 x3).bind fun v5 => (if v5.1 = true then ((f_X7_add v5.2 x0 (some (1000 + 20)) 0 0).bind fun v7 => f_X7_readAll_B_l15 rec x0 x1 x2 x3 k (x4 + 1) v7) else some (Sum.inl v5.2)))) else some (Sum.inr M)) else none) else none))
set_option maxHeartbeats 4000000 in
set_option maxRecDepth 100000 in
theorem v_X7_readAll_l15 {L : bm_L} {d n : Nat} {Q : Option Value → bm_M → Prop} {x0 : Nat} {x1 : Nat} {x2 : Nat} {x3 : Int32} (hN : 181 ≤ n) {rec : Nat → bm_M → Nat → Nat → Nat → Int32 → Option (Bool × bm_M)} (hrec : bm_rec L rec (d + 3) n) (q_0 : bm_OK x0 7) : ∀ (k : Nat) (x4 : Int32) (M : bm_M) (r : ((bm_M) ⊕ (bm_M))), f_X7_readAll_B_l15 rec x0 x1 x2 x3 k x4 M = some r → (∀ yy, (Sum.inl yy) = r → bm_V L m_X7_readAll (d + 4) n n n 46 [] [] yy Q) → (∀ yy, (Sum.inr yy) = r → bm_V L m_X7_readAll (d + 4) n n n 63 [] [] yy Q) → bm_V L m_X7_readAll (d + 4) n n n 15 [(0, .ref x0), (1, .ref x1), (2, .ref x2), (3, .int x3), (4, .int x4)] [] M Q := by
  intro k
  induction k with
  | zero => intro x4 M r h; cases (show (none : Option (((bm_M) ⊕ (bm_M)))) = some r from h)
  | succ k ih =>
    intro x4 M r h K0 K1
    unfold f_X7_readAll_B_l15 at h
    refine bv_iload dX7_readAll_15 4 rfl ?_
    refine bv_bipush (v := 20) dX7_readAll_17 (by decide) ?_
    refine bv_icmp_ge (tgt := 63) dX7_readAll_19 (by decide) (fun cc => ?_) (fun cc => ?_)
    · replace h := bu_t h cc
      refine bw_ls (ls1 := []) [] rfl ?_
      obtain rfl := Option.some.inj h
      exact K1 _ rfl
    · replace h := bu_f h cc
      refine bv_aload_n dX7_readAll_22 1 rfl ?_
      obtain ⟨q1, h⟩ := bu_io h
      refine bw_getR hN q1 dX7_readAll_23 fl_7_38 rfl ?_
      refine bw_getW (j := 20) dX7_readAll_26 fw_7_57 rfl ?_
      obtain ⟨w2, h⟩ := bu_g h
      refine bv_acmp_ne (x := (M.2.2 x1 8)) (y := (some (1000 + 20))) (tgt := 63) dX7_readAll_29 (by decide) (bm_wq_of w2) (bm_wq_of rfl) (fun cc => ?_) (fun cc => ?_)
      · replace h := bu_f h cc
        refine bw_ls (ls1 := []) [] rfl ?_
        obtain rfl := Option.some.inj h
        exact K1 _ rfl
      · replace h := bu_t h cc
        refine bv_aload_n dX7_readAll_32 1 rfl ?_
        obtain ⟨v3, p4, h⟩ := bu_bd h
        refine bw_callVv (As := []) hN q1 ⟨_, _, rfl⟩ dX7_readAll_33 mc_7_47 (c_X5_advance (d := d + 1) hN p4) rfl rfl (by decide) ?_
        refine bv_aload_n dX7_readAll_36 0 rfl ?_
        refine bv_aload_n dX7_readAll_37 1 rfl ?_
        refine bv_aload_n dX7_readAll_38 2 rfl ?_
        refine bv_iload_n dX7_readAll_39 3 rfl ?_
        obtain ⟨v5, p6, h⟩ := bu_bd h
        refine bw_callV (As := [.ref x1, .ref x2, .int x3]) hN q_0 ⟨_, _, rfl⟩ dX7_readAll_40 mc_7_54 (hrec 2 _ _ _ _ _ _ p6) rfl rfl (by decide) ?_
        refine bw_ifB_ne (b := v5.1) (tgt := 48) dX7_readAll_43 (by decide) (fun cc => ?_) (fun cc => ?_)
        · replace h := bu_bt h cc
          refine bv_aload_n dX7_readAll_48 0 rfl ?_
          refine bw_getW (j := 20) dX7_readAll_49 fw_7_57 rfl ?_
          refine bv_iconst (v := 0) dX7_readAll_52 (by decide) ?_
          refine bv_iconst (v := 0) dX7_readAll_53 (by decide) ?_
          obtain ⟨v7, p8, h⟩ := bu_bd h
          refine bw_callVv (As := [va_rf (some (1000 + 20)), .int 0, .int 0]) hN q_0 ⟨_, _, rfl⟩ dX7_readAll_54 mc_7_50 (c_X7_add (d := d + 3) hN p8) rfl rfl (by decide) ?_
          refine bv_iinc (j := 4) (v := (x4 + 1)) (ls1 := [(0, .ref x0), (1, .ref x1), (2, .ref x2), (3, .int x3), (4, .int (x4 + 1))]) dX7_readAll_57 rfl rfl (by decide) rfl rfl ?_
          refine bv_goto (tgt := 15) dX7_readAll_60 (by decide) ?_
          exact ih _ _ _ h K0 K1
        · replace h := bu_bf h cc
          refine bw_ls (ls1 := []) [] rfl ?_
          obtain rfl := Option.some.inj h
          exact K0 _ rfl
def f_X7_readAll_B (rec : Nat → bm_M → Nat → Nat → Nat → Int32 → Option (Bool × bm_M)) (M : bm_M) (x0 : Nat) (x1 : Nat) (x2 : Nat) (x3 : Int32) : Option (Bool × bm_M) := (if bm_io x0 7 then ((rec 2 M x0 x1 x2 x3).bind fun v2 => (if v2.1 = true then ((f_X7_readAll_B_l15 rec x0 x1 x2 x3 1000 0 v2.2).bind fun rr => match rr with | (Sum.inl y6) => some (false, y6) | (Sum.inr y6) => some (true, y6)) else some (false, v2.2))) else none)
set_option maxHeartbeats 4000000 in
set_option maxRecDepth 100000 in
theorem c_X7_readAll {L : bm_L} {d n : Nat} {M : bm_M} {x0 : Nat} {x1 : Nat} {x2 : Nat} {x3 : Int32} {v : Bool × bm_M} (hN : 181 ≤ n) {rec : Nat → bm_M → Nat → Nat → Nat → Int32 → Option (Bool × bm_M)} (hrec : bm_rec L rec (d + 3) n) (h : f_X7_readAll_B rec M x0 x1 x2 x3 = some v) : bm_C L m_X7_readAll (d + 4) n n [.ref x0, .ref x1, .ref x2, .int x3] M (fun r M' => r = some (.int (bm_bi v.1)) ∧ M' = v.2) := by
  refine bm_C.ofV (by decide) (Nat.le_of_ble_eq_true rfl) ?_
  show bm_V L m_X7_readAll (d + 4) n n n 0 [(0, .ref x0), (1, .ref x1), (2, .ref x2), (3, .int x3)] [] M _
  unfold f_X7_readAll_B at h
  refine bv_aload_n dX7_readAll_0 0 rfl ?_
  refine bv_aload_n dX7_readAll_1 1 rfl ?_
  refine bv_aload_n dX7_readAll_2 2 rfl ?_
  refine bv_iload_n dX7_readAll_3 3 rfl ?_
  obtain ⟨q1, h⟩ := bu_io h
  obtain ⟨v2, p3, h⟩ := bu_bd h
  refine bw_callV (As := [.ref x1, .ref x2, .int x3]) hN q1 ⟨_, _, rfl⟩ dX7_readAll_4 mc_7_54 (hrec 2 _ _ _ _ _ _ p3) rfl rfl (by decide) ?_
  refine bw_ifB_ne (b := v2.1) (tgt := 12) dX7_readAll_7 (by decide) (fun cc => ?_) (fun cc => ?_)
  · replace h := bu_bt h cc
    refine bv_iconst (v := 0) dX7_readAll_12 (by decide) ?_
    refine bv_istore (ls1 := [(0, .ref x0), (1, .ref x1), (2, .ref x2), (3, .int x3), (4, .int 0)]) dX7_readAll_13 (by decide) rfl rfl ?_
    obtain ⟨r4, p5, h⟩ := bu_bd h
    refine v_X7_readAll_l15 hN hrec q1 1000 _ _ _ p5 (fun y6 hy => ?_) (fun y6 hy => ?_)
    · subst hy
      refine bv_iconst (v := 0) dX7_readAll_46 (by decide) ?_
      obtain rfl := Option.some.inj h
      exact bw_bret (b := false) dX7_readAll_47 rfl ⟨rfl, rfl⟩
    · subst hy
      refine bv_iconst (v := 1) dX7_readAll_63 (by decide) ?_
      obtain rfl := Option.some.inj h
      exact bw_bret (b := true) dX7_readAll_64 rfl ⟨rfl, rfl⟩
  · replace h := bu_bf h cc
    refine bv_iconst (v := 0) dX7_readAll_10 (by decide) ?_
    obtain rfl := Option.some.inj h
    exact bw_bret (b := false) dX7_readAll_11 rfl ⟨rfl, rfl⟩
def f_X7_readCondition_B_l15 (rec : Nat → bm_M → Nat → Nat → Nat → Int32 → Option (Bool × bm_M)) (x0 : Nat) (x1 : Nat) (x2 : Nat) (x3 : Int32) : Nat → Int32 → bm_M → Option (((bm_M) ⊕ (bm_M)))
  | 0, _, _ => none
  | k + 1, x4, M => (if 20 ≤ x4 then some (Sum.inr M) else (if bm_io x1 5 then (if bm_iwq (M.2.2 x1 8) = true then (if (M.2.2 x1 8) = (some (1000 + 19)) then ((f_X5_advance M x1).bind fun v3 => ((rec 1 v3 x0 x1 x2 x3).bind fun v5 => (if v5.1 = true then ((f_X7_add v5.2 x0 (some (1000 + 19)) 0 0).bind fun v7 => f_X7_readCondition_B_l15 rec x0 x1 x2 x3 k (x4 + 1) v7) else some (Sum.inl v5.2)))) else some (Sum.inr M)) else none) else none))
set_option maxHeartbeats 4000000 in
set_option maxRecDepth 100000 in
theorem v_X7_readCondition_l15 {L : bm_L} {d n : Nat} {Q : Option Value → bm_M → Prop} {x0 : Nat} {x1 : Nat} {x2 : Nat} {x3 : Int32} (hN : 181 ≤ n) {rec : Nat → bm_M → Nat → Nat → Nat → Int32 → Option (Bool × bm_M)} (hrec : bm_rec L rec (d + 3) n) (q_0 : bm_OK x0 7) : ∀ (k : Nat) (x4 : Int32) (M : bm_M) (r : ((bm_M) ⊕ (bm_M))), f_X7_readCondition_B_l15 rec x0 x1 x2 x3 k x4 M = some r → (∀ yy, (Sum.inl yy) = r → bm_V L m_X7_readCondition (d + 4) n n n 46 [] [] yy Q) → (∀ yy, (Sum.inr yy) = r → bm_V L m_X7_readCondition (d + 4) n n n 63 [] [] yy Q) → bm_V L m_X7_readCondition (d + 4) n n n 15 [(0, .ref x0), (1, .ref x1), (2, .ref x2), (3, .int x3), (4, .int x4)] [] M Q := by
  intro k
  induction k with
  | zero => intro x4 M r h; cases (show (none : Option (((bm_M) ⊕ (bm_M)))) = some r from h)
  | succ k ih =>
    intro x4 M r h K0 K1
    unfold f_X7_readCondition_B_l15 at h
    refine bv_iload dX7_readCondition_15 4 rfl ?_
    refine bv_bipush (v := 20) dX7_readCondition_17 (by decide) ?_
    refine bv_icmp_ge (tgt := 63) dX7_readCondition_19 (by decide) (fun cc => ?_) (fun cc => ?_)
    · replace h := bu_t h cc
      refine bw_ls (ls1 := []) [] rfl ?_
      obtain rfl := Option.some.inj h
      exact K1 _ rfl
    · replace h := bu_f h cc
      refine bv_aload_n dX7_readCondition_22 1 rfl ?_
      obtain ⟨q1, h⟩ := bu_io h
      refine bw_getR hN q1 dX7_readCondition_23 fl_7_38 rfl ?_
      refine bw_getW (j := 19) dX7_readCondition_26 fw_7_44 rfl ?_
      obtain ⟨w2, h⟩ := bu_g h
      refine bv_acmp_ne (x := (M.2.2 x1 8)) (y := (some (1000 + 19))) (tgt := 63) dX7_readCondition_29 (by decide) (bm_wq_of w2) (bm_wq_of rfl) (fun cc => ?_) (fun cc => ?_)
      · replace h := bu_f h cc
        refine bw_ls (ls1 := []) [] rfl ?_
        obtain rfl := Option.some.inj h
        exact K1 _ rfl
      · replace h := bu_t h cc
        refine bv_aload_n dX7_readCondition_32 1 rfl ?_
        obtain ⟨v3, p4, h⟩ := bu_bd h
        refine bw_callVv (As := []) hN q1 ⟨_, _, rfl⟩ dX7_readCondition_33 mc_7_47 (c_X5_advance (d := d + 1) hN p4) rfl rfl (by decide) ?_
        refine bv_aload_n dX7_readCondition_36 0 rfl ?_
        refine bv_aload_n dX7_readCondition_37 1 rfl ?_
        refine bv_aload_n dX7_readCondition_38 2 rfl ?_
        refine bv_iload_n dX7_readCondition_39 3 rfl ?_
        obtain ⟨v5, p6, h⟩ := bu_bd h
        refine bw_callV (As := [.ref x1, .ref x2, .int x3]) hN q_0 ⟨_, _, rfl⟩ dX7_readCondition_40 mc_7_34 (hrec 1 _ _ _ _ _ _ p6) rfl rfl (by decide) ?_
        refine bw_ifB_ne (b := v5.1) (tgt := 48) dX7_readCondition_43 (by decide) (fun cc => ?_) (fun cc => ?_)
        · replace h := bu_bt h cc
          refine bv_aload_n dX7_readCondition_48 0 rfl ?_
          refine bw_getW (j := 19) dX7_readCondition_49 fw_7_44 rfl ?_
          refine bv_iconst (v := 0) dX7_readCondition_52 (by decide) ?_
          refine bv_iconst (v := 0) dX7_readCondition_53 (by decide) ?_
          obtain ⟨v7, p8, h⟩ := bu_bd h
          refine bw_callVv (As := [va_rf (some (1000 + 19)), .int 0, .int 0]) hN q_0 ⟨_, _, rfl⟩ dX7_readCondition_54 mc_7_50 (c_X7_add (d := d + 3) hN p8) rfl rfl (by decide) ?_
          refine bv_iinc (j := 4) (v := (x4 + 1)) (ls1 := [(0, .ref x0), (1, .ref x1), (2, .ref x2), (3, .int x3), (4, .int (x4 + 1))]) dX7_readCondition_57 rfl rfl (by decide) rfl rfl ?_
          refine bv_goto (tgt := 15) dX7_readCondition_60 (by decide) ?_
          exact ih _ _ _ h K0 K1
        · replace h := bu_bf h cc
          refine bw_ls (ls1 := []) [] rfl ?_
          obtain rfl := Option.some.inj h
          exact K0 _ rfl
def f_X7_readCondition_B (rec : Nat → bm_M → Nat → Nat → Nat → Int32 → Option (Bool × bm_M)) (M : bm_M) (x0 : Nat) (x1 : Nat) (x2 : Nat) (x3 : Int32) : Option (Bool × bm_M) := (if bm_io x0 7 then ((rec 1 M x0 x1 x2 x3).bind fun v2 => (if v2.1 = true then ((f_X7_readCondition_B_l15 rec x0 x1 x2 x3 1000 0 v2.2).bind fun rr => match rr with | (Sum.inl y6) => some (false, y6) | (Sum.inr y6) => some (true, y6)) else some (false, v2.2))) else none)
set_option maxHeartbeats 4000000 in
set_option maxRecDepth 100000 in
theorem c_X7_readCondition {L : bm_L} {d n : Nat} {M : bm_M} {x0 : Nat} {x1 : Nat} {x2 : Nat} {x3 : Int32} {v : Bool × bm_M} (hN : 181 ≤ n) {rec : Nat → bm_M → Nat → Nat → Nat → Int32 → Option (Bool × bm_M)} (hrec : bm_rec L rec (d + 3) n) (h : f_X7_readCondition_B rec M x0 x1 x2 x3 = some v) : bm_C L m_X7_readCondition (d + 4) n n [.ref x0, .ref x1, .ref x2, .int x3] M (fun r M' => r = some (.int (bm_bi v.1)) ∧ M' = v.2) := by
  refine bm_C.ofV (by decide) (Nat.le_of_ble_eq_true rfl) ?_
  show bm_V L m_X7_readCondition (d + 4) n n n 0 [(0, .ref x0), (1, .ref x1), (2, .ref x2), (3, .int x3)] [] M _
  unfold f_X7_readCondition_B at h
  refine bv_aload_n dX7_readCondition_0 0 rfl ?_
  refine bv_aload_n dX7_readCondition_1 1 rfl ?_
  refine bv_aload_n dX7_readCondition_2 2 rfl ?_
  refine bv_iload_n dX7_readCondition_3 3 rfl ?_
  obtain ⟨q1, h⟩ := bu_io h
  obtain ⟨v2, p3, h⟩ := bu_bd h
  refine bw_callV (As := [.ref x1, .ref x2, .int x3]) hN q1 ⟨_, _, rfl⟩ dX7_readCondition_4 mc_7_34 (hrec 1 _ _ _ _ _ _ p3) rfl rfl (by decide) ?_
  refine bw_ifB_ne (b := v2.1) (tgt := 12) dX7_readCondition_7 (by decide) (fun cc => ?_) (fun cc => ?_)
  · replace h := bu_bt h cc
    refine bv_iconst (v := 0) dX7_readCondition_12 (by decide) ?_
    refine bv_istore (ls1 := [(0, .ref x0), (1, .ref x1), (2, .ref x2), (3, .int x3), (4, .int 0)]) dX7_readCondition_13 (by decide) rfl rfl ?_
    obtain ⟨r4, p5, h⟩ := bu_bd h
    refine v_X7_readCondition_l15 hN hrec q1 1000 _ _ _ p5 (fun y6 hy => ?_) (fun y6 hy => ?_)
    · subst hy
      refine bv_iconst (v := 0) dX7_readCondition_46 (by decide) ?_
      obtain rfl := Option.some.inj h
      exact bw_bret (b := false) dX7_readCondition_47 rfl ⟨rfl, rfl⟩
    · subst hy
      refine bv_iconst (v := 1) dX7_readCondition_63 (by decide) ?_
      obtain rfl := Option.some.inj h
      exact bw_bret (b := true) dX7_readCondition_64 rfl ⟨rfl, rfl⟩
  · replace h := bu_bf h cc
    refine bv_iconst (v := 0) dX7_readCondition_10 (by decide) ?_
    obtain rfl := Option.some.inj h
    exact bw_bret (b := false) dX7_readCondition_11 rfl ⟨rfl, rfl⟩
def f_grp : Nat → Nat → bm_M → Nat → Nat → Nat → Int32 → Option (Bool × bm_M)
  | 0, _, _, _, _, _, _ => none
  | k + 1, j, M, x0, x1, x2, x3 => match j with
    | 0 => f_X7_readCondition_B (f_grp k) M x0 x1 x2 x3
    | 1 => f_X7_readAll_B (f_grp k) M x0 x1 x2 x3
    | _ => f_X7_readOne_B (f_grp k) M x0 x1 x2 x3
theorem c_grp {L : bm_L} {n : Nat} (k : Nat) {d : Nat} (hN : 181 ≤ n) : ∀ (j : Nat) (M : bm_M) (x0 x1 x2 : Nat) (x3 : Int32) (v : Bool × bm_M), f_grp k j M x0 x1 x2 x3 = some v → bm_C L (m_grp j) (d + 3 + k) n n [.ref x0, .ref x1, .ref x2, .int x3] M (fun r M' => r = some (.int (bm_bi v.1)) ∧ M' = v.2) := by
  induction k generalizing d with
  | zero => intro j M x0 x1 x2 x3 v h; cases (show (none : Option (Bool × bm_M)) = some v from h)
  | succ k ih =>
    intro j M x0 x1 x2 x3 v h
    have hrec : bm_rec L (f_grp k) (d + k + 3) n := by
      have e : d + k + 3 = d + 3 + k := by omega
      rw [e]
      exact fun j M x0 x1 x2 x3 v h => ih j M x0 x1 x2 x3 v h
    have e2 : d + 3 + (k + 1) = d + k + 4 := by omega
    rw [e2]
    match j, h with
    | 0, h => exact c_X7_readCondition hN hrec h
    | 1, h => exact c_X7_readAll hN hrec h
    | j + 2, h => exact c_X7_readOne hN hrec h
def f_X8_browOf (M : bm_M) (x0 : Nat) (x1 : Int32) : Option (Int32) := (if bm_io x0 8 then ((M.2.2 x0 0).bind fun a2 => (if bm_io a2 0 then ((M.2.2 a2 3).bind fun a5 => (if bm_ia a5 0 x1 = true then some (bm_min 9 ((M.1 a5 x1.toNatClampNeg) + (3 * (f_X11_bit (M.1 x0 8) x1)))) else none)) else none)) else none)
set_option maxHeartbeats 4000000 in
set_option maxRecDepth 100000 in
theorem c_X8_browOf {L : bm_L} {d n : Nat} {M : bm_M} {x0 : Nat} {x1 : Int32} {v : Int32} (hN : 181 ≤ n) (h : f_X8_browOf M x0 x1 = some v) : bm_C L m_X8_browOf (d + 1) n n [.ref x0, .int x1] M (fun r M' => r = some (.int v) ∧ M' = M) := by
  refine bm_C.ofV (by decide) (Nat.le_of_ble_eq_true rfl) ?_
  show bm_V L m_X8_browOf (d + 1) n n n 0 [(0, .ref x0), (1, .int x1)] [] M _
  unfold f_X8_browOf at h
  refine bv_bipush (v := 9) dX8_browOf_0 (by decide) ?_
  refine bv_aload_n dX8_browOf_2 0 rfl ?_
  obtain ⟨q1, h⟩ := bu_io h
  obtain ⟨a2, e3, h⟩ := bu_bd h
  refine bw_getA (a := a2) hN q1 e3 dX8_browOf_3 fl_8_30 rfl ?_
  obtain ⟨q4, h⟩ := bu_io h
  obtain ⟨a5, e6, h⟩ := bu_bd h
  refine bw_getA (a := a5) hN q4 e6 dX8_browOf_6 fl_8_67 rfl ?_
  refine bv_iload_n dX8_browOf_9 1 rfl ?_
  obtain ⟨r7, h⟩ := bu_ia h
  refine bw_iald hN r7 dX8_browOf_10 ?_
  refine bv_iconst (v := 3) dX8_browOf_11 (by decide) ?_
  refine bv_aload_n dX8_browOf_12 0 rfl ?_
  refine bw_getI hN q1 dX8_browOf_13 fl_8_49 rfl ?_
  refine bv_iload_n dX8_browOf_16 1 rfl ?_
  refine bw_callSN (As := [.int (M.1 x0 8), .int x1]) dX8_browOf_17 mc_8_70 (c_X11_bit (d := d + 0) hN rfl) rfl rfl (Nat.le_of_ble_eq_true rfl) ?_
  refine bv_imul dX8_browOf_20 ?_
  refine bv_iadd dX8_browOf_21 ?_
  refine bv_mmin dX8_browOf_22 mw_8_74 (by decide) (Nat.le_refl n) ?_
  obtain rfl := Option.some.inj h
  exact bv_iret (x := (bm_min 9 ((M.1 a5 x1.toNatClampNeg) + (3 * (f_X11_bit (M.1 x0 8) x1))))) dX8_browOf_25 rfl ⟨rfl, rfl⟩
def f_X7_measure (M : bm_M) (x0 : Option Nat) (x1 : Int32) (x2 : Nat) : Option (Int32) := (if bm_iwq x0 = true then (if x0 = (some (1000 + 30)) then (if bm_io x2 8 then ((f_X8_browOf M x2 x1).bind fun v11 => some v11) else none) else (if x0 = (some (1000 + 31)) then (if bm_io x2 8 then ((M.2.2 x2 3).bind fun a7 => (if bm_ia a7 0 x1 = true then some (M.1 a7 x1.toNatClampNeg) else none)) else none) else (if x0 = (some (1000 + 32)) then (if bm_io x2 8 then ((M.2.2 x2 5).bind fun a3 => (if bm_ia a3 0 x1 = true then some (M.1 a3 x1.toNatClampNeg) else none)) else none) else some x1))) else none)
set_option maxHeartbeats 4000000 in
set_option maxRecDepth 100000 in
theorem c_X7_measure {L : bm_L} {d n : Nat} {M : bm_M} {x0 : Option Nat} {x1 : Int32} {x2 : Nat} {v : Int32} (hN : 181 ≤ n) (h : f_X7_measure M x0 x1 x2 = some v) : bm_C L m_X7_measure (d + 2) n n [va_rf x0, .int x1, .ref x2] M (fun r M' => r = some (.int v) ∧ M' = M) := by
  refine bm_C.ofV (by decide) (by cases x0 <;> exact Nat.le_of_ble_eq_true rfl) ?_
  rw [show bm_en 0 [va_rf x0, .int x1, .ref x2] = [(0, va_rf x0), (1, .int x1), (2, .ref x2)] from by cases x0 <;> rfl]
  unfold f_X7_measure at h
  refine bv_aloadq_n (x := x0) dX7_measure_0 0 rfl ?_
  refine bw_getW (j := 30) dX7_measure_1 fw_7_180 rfl ?_
  obtain ⟨w1, h⟩ := bu_g h
  refine bv_acmp_ne (x := x0) (y := (some (1000 + 30))) (tgt := 13) dX7_measure_4 (by decide) (bm_wq_of w1) (bm_wq_of rfl) (fun cc => ?_) (fun cc => ?_)
  · replace h := bu_f h cc
    refine bv_aloadq_n (x := x0) dX7_measure_13 0 rfl ?_
    refine bw_getW (j := 31) dX7_measure_14 fw_7_186 rfl ?_
    refine bv_acmp_ne (x := x0) (y := (some (1000 + 31))) (tgt := 27) dX7_measure_17 (by decide) (bm_wq_of w1) (bm_wq_of rfl) (fun cc => ?_) (fun cc => ?_)
    · replace h := bu_f h cc
      refine bv_aloadq_n (x := x0) dX7_measure_27 0 rfl ?_
      refine bw_getW (j := 32) dX7_measure_28 fw_7_192 rfl ?_
      refine bv_acmp_ne (x := x0) (y := (some (1000 + 32))) (tgt := 43) dX7_measure_31 (by decide) (bm_wq_of w1) (bm_wq_of rfl) (fun cc => ?_) (fun cc => ?_)
      · replace h := bu_f h cc
        refine bv_iload_n dX7_measure_43 1 rfl ?_
        obtain rfl := Option.some.inj h
        exact bv_iret (x := x1) dX7_measure_44 rfl ⟨rfl, rfl⟩
      · replace h := bu_t h cc
        refine bv_aload_n dX7_measure_34 2 rfl ?_
        obtain ⟨q2, h⟩ := bu_io h
        obtain ⟨a3, e4, h⟩ := bu_bd h
        refine bw_getA (a := a3) hN q2 e4 dX7_measure_35 fl_7_195 rfl ?_
        refine bv_iload_n dX7_measure_38 1 rfl ?_
        obtain ⟨r5, h⟩ := bu_ia h
        refine bw_iald hN r5 dX7_measure_39 ?_
        refine bv_goto (tgt := 44) dX7_measure_40 (by decide) ?_
        obtain rfl := Option.some.inj h
        exact bv_iret (x := (M.1 a3 x1.toNatClampNeg)) dX7_measure_44 rfl ⟨rfl, rfl⟩
    · replace h := bu_t h cc
      refine bv_aload_n dX7_measure_20 2 rfl ?_
      obtain ⟨q6, h⟩ := bu_io h
      obtain ⟨a7, e8, h⟩ := bu_bd h
      refine bw_getA (a := a7) hN q6 e8 dX7_measure_21 fl_7_189 rfl ?_
      refine bv_iload_n dX7_measure_24 1 rfl ?_
      obtain ⟨r9, h⟩ := bu_ia h
      refine bw_iald hN r9 dX7_measure_25 ?_
      obtain rfl := Option.some.inj h
      exact bv_iret (x := (M.1 a7 x1.toNatClampNeg)) dX7_measure_26 rfl ⟨rfl, rfl⟩
  · replace h := bu_t h cc
    refine bv_aload_n dX7_measure_7 2 rfl ?_
    refine bv_iload_n dX7_measure_8 1 rfl ?_
    obtain ⟨q10, h⟩ := bu_io h
    obtain ⟨v11, p12, h⟩ := bu_bd h
    refine bw_callV (As := [.int x1]) hN q10 ⟨_, _, rfl⟩ dX7_measure_9 mc_7_183 (c_X8_browOf (d := d + 0) hN p12) rfl rfl (by decide) ?_
    obtain rfl := Option.some.inj h
    exact bv_iret (x := v11) dX7_measure_12 rfl ⟨rfl, rfl⟩
def f_J6_compare_7cf53 (x0 : Int32) (x1 : Int32) : Int32 := (if x1 ≤ x0 then (if x0 = x1 then 0 else 1) else (-1))
set_option maxHeartbeats 4000000 in
set_option maxRecDepth 100000 in
theorem c_J6_compare_7cf53 {L : bm_L} {d n : Nat} {M : bm_M} {x0 : Int32} {x1 : Int32} {v : Int32} (hN : 181 ≤ n) (h : f_J6_compare_7cf53 x0 x1 = v) : bm_C L m_J6_compare_7cf53 d n n [.int x0, .int x1] M (fun r M' => r = some (.int v) ∧ M' = M) := by
  refine bm_C.ofV (by decide) (Nat.le_of_ble_eq_true rfl) ?_
  show bm_V L m_J6_compare_7cf53 d n n n 0 [(0, .int x0), (1, .int x1)] [] M _
  unfold f_J6_compare_7cf53 at h
  refine bv_iload_n dJ6_compare_7cf53_0 0 rfl ?_
  refine bv_iload_n dJ6_compare_7cf53_1 1 rfl ?_
  refine bv_icmp_ge (tgt := 9) dJ6_compare_7cf53_2 (by decide) (fun cc => ?_) (fun cc => ?_)
  · replace h := bu_t h cc
    refine bv_iload_n dJ6_compare_7cf53_9 0 rfl ?_
    refine bv_iload_n dJ6_compare_7cf53_10 1 rfl ?_
    refine bv_icmp_ne (tgt := 18) dJ6_compare_7cf53_11 (by decide) (fun cc => ?_) (fun cc => ?_)
    · replace h := bu_f h cc
      refine bv_iconst (v := 1) dJ6_compare_7cf53_18 (by decide) ?_
      subst h
      exact bv_iret (x := 1) dJ6_compare_7cf53_19 rfl ⟨rfl, rfl⟩
    · replace h := bu_t h cc
      refine bv_iconst (v := 0) dJ6_compare_7cf53_14 (by decide) ?_
      refine bv_goto (tgt := 19) dJ6_compare_7cf53_15 (by decide) ?_
      subst h
      exact bv_iret (x := 0) dJ6_compare_7cf53_19 rfl ⟨rfl, rfl⟩
  · replace h := bu_f h cc
    refine bv_iconst (v := (-1)) dJ6_compare_7cf53_5 (by decide) ?_
    refine bv_goto (tgt := 19) dJ6_compare_7cf53_6 (by decide) ?_
    subst h
    exact bv_iret (x := (-1)) dJ6_compare_7cf53_19 rfl ⟨rfl, rfl⟩
def f_X7_menByMeasure_l39 (M : bm_M) (x0 : Nat) (x1 : Option Nat) (x2 : Int32) (x3 : Nat) (x4 : Int32) : Nat → Int32 → Int32 → Option (Int32)
  | 0, _, _ => none
  | k + 1, x5, x6 => (if bm_io x3 8 then ((M.2.2 x3 0).bind fun a2 => (if bm_io a2 0 then (if (M.1 a2 10) ≤ x6 then some x5 else ((f_X7_measure M x1 x6 x3).bind fun v5 => ((M.2.2 x0 1).bind fun a7 => (if bm_ia a7 0 x2 = true then (if (f_J6_compare_7cf53 v5 (M.1 a7 x2.toNatClampNeg)) = x4 then f_X7_menByMeasure_l39 M x0 x1 x2 x3 x4 k (x5 ||| (bm_ishl 1 x6)) (x6 + 1) else f_X7_menByMeasure_l39 M x0 x1 x2 x3 x4 k x5 (x6 + 1)) else none)))) else none)) else none)
set_option maxHeartbeats 4000000 in
set_option maxRecDepth 100000 in
theorem v_X7_menByMeasure_l39 {L : bm_L} {d n : Nat} {Q : Option Value → bm_M → Prop} {M : bm_M} {x0 : Nat} {x1 : Option Nat} {x2 : Int32} {x3 : Nat} {x4 : Int32} (hN : 181 ≤ n) (q_0 : bm_OK x0 7) : ∀ (k : Nat) (x5 : Int32) (x6 : Int32) (r : Int32), f_X7_menByMeasure_l39 M x0 x1 x2 x3 x4 k x5 x6 = some r → (∀ yy, yy = r → bm_V L m_X7_menByMeasure (d + 3) n n n 87 [(5, .int yy)] [] M Q) → bm_V L m_X7_menByMeasure (d + 3) n n n 39 [(0, .ref x0), (1, va_rf x1), (2, .int x2), (3, .ref x3), (4, .int x4), (5, .int x5), (6, .int x6)] [] M Q := by
  intro k
  induction k with
  | zero => intro x5 x6 r h; cases (show (none : Option (Int32)) = some r from h)
  | succ k ih =>
    intro x5 x6 r h K0
    unfold f_X7_menByMeasure_l39 at h
    refine bv_iload dX7_menByMeasure_39 6 rfl ?_
    refine bv_aload_n dX7_menByMeasure_41 3 rfl ?_
    obtain ⟨q1, h⟩ := bu_io h
    obtain ⟨a2, e3, h⟩ := bu_bd h
    refine bw_getA (a := a2) hN q1 e3 dX7_menByMeasure_42 fl_7_97 rfl ?_
    obtain ⟨q4, h⟩ := bu_io h
    refine bw_getI hN q4 dX7_menByMeasure_45 fl_7_163 rfl ?_
    refine bv_icmp_ge (tgt := 87) dX7_menByMeasure_48 (by decide) (fun cc => ?_) (fun cc => ?_)
    · replace h := bu_t h cc
      refine bw_ls (ls1 := [(5, .int x5)]) [5] rfl ?_
      obtain rfl := Option.some.inj h
      exact K0 _ rfl
    · replace h := bu_f h cc
      refine bv_aloadq_n (x := x1) dX7_menByMeasure_51 1 rfl ?_
      refine bv_iload dX7_menByMeasure_52 6 rfl ?_
      refine bv_aload_n dX7_menByMeasure_54 3 rfl ?_
      obtain ⟨v5, p6, h⟩ := bu_bd h
      refine bw_callS (As := [va_rf x1, .int x6, .ref x3]) dX7_menByMeasure_55 mc_7_172 (c_X7_measure (d := d + 0) hN p6) rfl rfl (by decide) ?_
      refine bv_aload_n dX7_menByMeasure_58 0 rfl ?_
      obtain ⟨a7, e8, h⟩ := bu_bd h
      refine bw_getA (a := a7) hN q_0 e8 dX7_menByMeasure_59 fl_7_17 rfl ?_
      refine bv_iload_n dX7_menByMeasure_62 2 rfl ?_
      obtain ⟨r9, h⟩ := bu_ia h
      refine bw_iald hN r9 dX7_menByMeasure_63 ?_
      refine bw_callS (As := [.int v5, .int (M.1 a7 x2.toNatClampNeg)]) dX7_menByMeasure_64 mc_7_175 (c_J6_compare_7cf53 (d := d + 2) hN rfl) rfl rfl (by decide) ?_
      refine bv_iload dX7_menByMeasure_67 4 rfl ?_
      refine bv_icmp_ne (tgt := 81) dX7_menByMeasure_69 (by decide) (fun cc => ?_) (fun cc => ?_)
      · replace h := bu_f h cc
        refine bv_iinc (j := 6) (v := (x6 + 1)) (ls1 := [(0, .ref x0), (1, va_rf x1), (2, .int x2), (3, .ref x3), (4, .int x4), (5, .int x5), (6, .int (x6 + 1))]) dX7_menByMeasure_81 rfl rfl (by decide) (by simp [bm_ok1, bm_rf_cat, Value.category]) rfl ?_
        refine bv_goto (tgt := 39) dX7_menByMeasure_84 (by decide) ?_
        exact ih _ _ _ h K0
      · replace h := bu_t h cc
        refine bv_iload dX7_menByMeasure_72 5 rfl ?_
        refine bv_iconst (v := 1) dX7_menByMeasure_74 (by decide) ?_
        refine bv_iload dX7_menByMeasure_75 6 rfl ?_
        refine bv_ishl dX7_menByMeasure_77 ?_
        refine bv_ior dX7_menByMeasure_78 ?_
        refine bv_istore (ls1 := [(0, .ref x0), (1, va_rf x1), (2, .int x2), (3, .ref x3), (4, .int x4), (5, .int (x5 ||| (bm_ishl 1 x6))), (6, .int x6)]) dX7_menByMeasure_79 (by decide) (by simp [bm_ok1, bm_rf_cat, Value.category]) rfl ?_
        refine bv_iinc (j := 6) (v := (x6 + 1)) (ls1 := [(0, .ref x0), (1, va_rf x1), (2, .int x2), (3, .ref x3), (4, .int x4), (5, .int (x5 ||| (bm_ishl 1 x6))), (6, .int (x6 + 1))]) dX7_menByMeasure_81 rfl rfl (by decide) (by simp [bm_ok1, bm_rf_cat, Value.category]) rfl ?_
        refine bv_goto (tgt := 39) dX7_menByMeasure_84 (by decide) ?_
        exact ih _ _ _ h K0
def f_X7_menByMeasure (M : bm_M) (x0 : Nat) (x1 : Option Nat) (x2 : Int32) (x3 : Nat) : Option (Int32) := (if bm_io x0 7 then ((M.2.2 x0 2).bind fun a2 => (if bm_ia a2 0 x2 = true then (if (M.1 a2 x2.toNatClampNeg) = 60 then ((f_X7_menByMeasure_l39 M x0 x1 x2 x3 (-1) 1000 0 0).bind fun y13 => some y13) else (if (M.1 a2 x2.toNatClampNeg) = 62 then ((f_X7_menByMeasure_l39 M x0 x1 x2 x3 1 1000 0 0).bind fun y10 => some y10) else ((f_X7_menByMeasure_l39 M x0 x1 x2 x3 0 1000 0 0).bind fun y7 => some y7))) else none)) else none)
set_option maxHeartbeats 4000000 in
set_option maxRecDepth 100000 in
theorem c_X7_menByMeasure {L : bm_L} {d n : Nat} {M : bm_M} {x0 : Nat} {x1 : Option Nat} {x2 : Int32} {x3 : Nat} {v : Int32} (hN : 181 ≤ n) (h : f_X7_menByMeasure M x0 x1 x2 x3 = some v) : bm_C L m_X7_menByMeasure (d + 3) n n [.ref x0, va_rf x1, .int x2, .ref x3] M (fun r M' => r = some (.int v) ∧ M' = M) := by
  refine bm_C.ofV (by decide) (by cases x1 <;> exact Nat.le_of_ble_eq_true rfl) ?_
  rw [show bm_en 0 [.ref x0, va_rf x1, .int x2, .ref x3] = [(0, .ref x0), (1, va_rf x1), (2, .int x2), (3, .ref x3)] from by cases x1 <;> rfl]
  unfold f_X7_menByMeasure at h
  refine bv_aload_n dX7_menByMeasure_0 0 rfl ?_
  obtain ⟨q1, h⟩ := bu_io h
  obtain ⟨a2, e3, h⟩ := bu_bd h
  refine bw_getA (a := a2) hN q1 e3 dX7_menByMeasure_1 fl_7_21 rfl ?_
  refine bv_iload_n dX7_menByMeasure_4 2 rfl ?_
  obtain ⟨r4, h⟩ := bu_ia h
  refine bw_iald hN r4 dX7_menByMeasure_5 ?_
  refine bv_bipush (v := 60) dX7_menByMeasure_6 (by decide) ?_
  refine bv_icmp_ne (tgt := 15) dX7_menByMeasure_8 (by decide) (fun cc => ?_) (fun cc => ?_)
  · replace h := bu_f h cc
    refine bv_aload_n dX7_menByMeasure_15 0 rfl ?_
    refine bw_getA (a := a2) hN q1 e3 dX7_menByMeasure_16 fl_7_21 rfl ?_
    refine bv_iload_n dX7_menByMeasure_19 2 rfl ?_
    refine bw_iald hN r4 dX7_menByMeasure_20 ?_
    refine bv_bipush (v := 62) dX7_menByMeasure_21 (by decide) ?_
    refine bv_icmp_ne (tgt := 30) dX7_menByMeasure_23 (by decide) (fun cc => ?_) (fun cc => ?_)
    · replace h := bu_f h cc
      refine bv_iconst (v := 0) dX7_menByMeasure_30 (by decide) ?_
      refine bv_istore (ls1 := [(0, .ref x0), (1, va_rf x1), (2, .int x2), (3, .ref x3), (4, .int 0)]) dX7_menByMeasure_31 (by decide) (by simp [bm_ok1, bm_rf_cat, Value.category]) rfl ?_
      refine bv_iconst (v := 0) dX7_menByMeasure_33 (by decide) ?_
      refine bv_istore (ls1 := [(0, .ref x0), (1, va_rf x1), (2, .int x2), (3, .ref x3), (4, .int 0), (5, .int 0)]) dX7_menByMeasure_34 (by decide) (by simp [bm_ok1, bm_rf_cat, Value.category]) rfl ?_
      refine bv_iconst (v := 0) dX7_menByMeasure_36 (by decide) ?_
      refine bv_istore (ls1 := [(0, .ref x0), (1, va_rf x1), (2, .int x2), (3, .ref x3), (4, .int 0), (5, .int 0), (6, .int 0)]) dX7_menByMeasure_37 (by decide) (by simp [bm_ok1, bm_rf_cat, Value.category]) rfl ?_
      obtain ⟨r5, p6, h⟩ := bu_bd h
      refine v_X7_menByMeasure_l39 hN q1 1000 _ _ _ p6 (fun y7 hy => ?_)
      · subst hy
        refine bv_iload dX7_menByMeasure_87 0 rfl ?_
        obtain rfl := Option.some.inj h
        exact bv_iret (x := y7) dX7_menByMeasure_89 rfl ⟨rfl, rfl⟩
    · replace h := bu_t h cc
      refine bv_iconst (v := 1) dX7_menByMeasure_26 (by decide) ?_
      refine bv_goto (tgt := 31) dX7_menByMeasure_27 (by decide) ?_
      refine bv_istore (ls1 := [(0, .ref x0), (1, va_rf x1), (2, .int x2), (3, .ref x3), (4, .int 1)]) dX7_menByMeasure_31 (by decide) (by simp [bm_ok1, bm_rf_cat, Value.category]) rfl ?_
      refine bv_iconst (v := 0) dX7_menByMeasure_33 (by decide) ?_
      refine bv_istore (ls1 := [(0, .ref x0), (1, va_rf x1), (2, .int x2), (3, .ref x3), (4, .int 1), (5, .int 0)]) dX7_menByMeasure_34 (by decide) (by simp [bm_ok1, bm_rf_cat, Value.category]) rfl ?_
      refine bv_iconst (v := 0) dX7_menByMeasure_36 (by decide) ?_
      refine bv_istore (ls1 := [(0, .ref x0), (1, va_rf x1), (2, .int x2), (3, .ref x3), (4, .int 1), (5, .int 0), (6, .int 0)]) dX7_menByMeasure_37 (by decide) (by simp [bm_ok1, bm_rf_cat, Value.category]) rfl ?_
      obtain ⟨r8, p9, h⟩ := bu_bd h
      refine v_X7_menByMeasure_l39 hN q1 1000 _ _ _ p9 (fun y10 hy => ?_)
      · subst hy
        refine bv_iload dX7_menByMeasure_87 0 rfl ?_
        obtain rfl := Option.some.inj h
        exact bv_iret (x := y10) dX7_menByMeasure_89 rfl ⟨rfl, rfl⟩
  · replace h := bu_t h cc
    refine bv_iconst (v := (-1)) dX7_menByMeasure_11 (by decide) ?_
    refine bv_goto (tgt := 31) dX7_menByMeasure_12 (by decide) ?_
    refine bv_istore (ls1 := [(0, .ref x0), (1, va_rf x1), (2, .int x2), (3, .ref x3), (4, .int (-1))]) dX7_menByMeasure_31 (by decide) (by simp [bm_ok1, bm_rf_cat, Value.category]) rfl ?_
    refine bv_iconst (v := 0) dX7_menByMeasure_33 (by decide) ?_
    refine bv_istore (ls1 := [(0, .ref x0), (1, va_rf x1), (2, .int x2), (3, .ref x3), (4, .int (-1)), (5, .int 0)]) dX7_menByMeasure_34 (by decide) (by simp [bm_ok1, bm_rf_cat, Value.category]) rfl ?_
    refine bv_iconst (v := 0) dX7_menByMeasure_36 (by decide) ?_
    refine bv_istore (ls1 := [(0, .ref x0), (1, va_rf x1), (2, .int x2), (3, .ref x3), (4, .int (-1)), (5, .int 0), (6, .int 0)]) dX7_menByMeasure_37 (by decide) (by simp [bm_ok1, bm_rf_cat, Value.category]) rfl ?_
    obtain ⟨r11, p12, h⟩ := bu_bd h
    refine v_X7_menByMeasure_l39 hN q1 1000 _ _ _ p12 (fun y13 hy => ?_)
    · subst hy
      refine bv_iload dX7_menByMeasure_87 0 rfl ?_
      obtain rfl := Option.some.inj h
      exact bv_iret (x := y13) dX7_menByMeasure_89 rfl ⟨rfl, rfl⟩
def f_X11_far (x0 : Int32) (x1 : Int32) (x2 : Int32) (x3 : Int32) : Int32 := (if x2 ≤ x0 then (if x3 ≤ x1 then ((x0 - x2) + (x1 - x3)) else ((x0 - x2) + (x3 - x1))) else (if x3 ≤ x1 then ((x2 - x0) + (x1 - x3)) else ((x2 - x0) + (x3 - x1))))
set_option maxHeartbeats 4000000 in
set_option maxRecDepth 100000 in
theorem c_X11_far {L : bm_L} {d n : Nat} {M : bm_M} {x0 : Int32} {x1 : Int32} {x2 : Int32} {x3 : Int32} {v : Int32} (hN : 181 ≤ n) (h : f_X11_far x0 x1 x2 x3 = v) : bm_C L m_X11_far d n n [.int x0, .int x1, .int x2, .int x3] M (fun r M' => r = some (.int v) ∧ M' = M) := by
  refine bm_C.ofV (by decide) (Nat.le_of_ble_eq_true rfl) ?_
  show bm_V L m_X11_far d n n n 0 [(0, .int x0), (1, .int x1), (2, .int x2), (3, .int x3)] [] M _
  unfold f_X11_far at h
  refine bv_iload_n dX11_far_0 0 rfl ?_
  refine bv_iload_n dX11_far_1 2 rfl ?_
  refine bv_icmp_ge (tgt := 11) dX11_far_2 (by decide) (fun cc => ?_) (fun cc => ?_)
  · replace h := bu_t h cc
    refine bv_iload_n dX11_far_11 0 rfl ?_
    refine bv_iload_n dX11_far_12 2 rfl ?_
    refine bv_isub dX11_far_13 ?_
    refine bv_istore (ls1 := [(0, .int x0), (1, .int x1), (2, .int x2), (3, .int x3), (4, .int (x0 - x2))]) dX11_far_14 (by decide) rfl rfl ?_
    refine bv_iload_n dX11_far_16 1 rfl ?_
    refine bv_iload_n dX11_far_17 3 rfl ?_
    refine bv_icmp_ge (tgt := 27) dX11_far_18 (by decide) (fun cc => ?_) (fun cc => ?_)
    · replace h := bu_t h cc
      refine bv_iload_n dX11_far_27 1 rfl ?_
      refine bv_iload_n dX11_far_28 3 rfl ?_
      refine bv_isub dX11_far_29 ?_
      refine bv_istore (ls1 := [(0, .int x0), (1, .int x1), (2, .int x2), (3, .int x3), (4, .int (x0 - x2)), (5, .int (x1 - x3))]) dX11_far_30 (by decide) rfl rfl ?_
      refine bv_iload dX11_far_32 4 rfl ?_
      refine bv_iload dX11_far_34 5 rfl ?_
      refine bv_iadd dX11_far_36 ?_
      subst h
      exact bv_iret (x := ((x0 - x2) + (x1 - x3))) dX11_far_37 rfl ⟨rfl, rfl⟩
    · replace h := bu_f h cc
      refine bv_iload_n dX11_far_21 3 rfl ?_
      refine bv_iload_n dX11_far_22 1 rfl ?_
      refine bv_isub dX11_far_23 ?_
      refine bv_goto (tgt := 30) dX11_far_24 (by decide) ?_
      refine bv_istore (ls1 := [(0, .int x0), (1, .int x1), (2, .int x2), (3, .int x3), (4, .int (x0 - x2)), (5, .int (x3 - x1))]) dX11_far_30 (by decide) rfl rfl ?_
      refine bv_iload dX11_far_32 4 rfl ?_
      refine bv_iload dX11_far_34 5 rfl ?_
      refine bv_iadd dX11_far_36 ?_
      subst h
      exact bv_iret (x := ((x0 - x2) + (x3 - x1))) dX11_far_37 rfl ⟨rfl, rfl⟩
  · replace h := bu_f h cc
    refine bv_iload_n dX11_far_5 2 rfl ?_
    refine bv_iload_n dX11_far_6 0 rfl ?_
    refine bv_isub dX11_far_7 ?_
    refine bv_goto (tgt := 14) dX11_far_8 (by decide) ?_
    refine bv_istore (ls1 := [(0, .int x0), (1, .int x1), (2, .int x2), (3, .int x3), (4, .int (x2 - x0))]) dX11_far_14 (by decide) rfl rfl ?_
    refine bv_iload_n dX11_far_16 1 rfl ?_
    refine bv_iload_n dX11_far_17 3 rfl ?_
    refine bv_icmp_ge (tgt := 27) dX11_far_18 (by decide) (fun cc => ?_) (fun cc => ?_)
    · replace h := bu_t h cc
      refine bv_iload_n dX11_far_27 1 rfl ?_
      refine bv_iload_n dX11_far_28 3 rfl ?_
      refine bv_isub dX11_far_29 ?_
      refine bv_istore (ls1 := [(0, .int x0), (1, .int x1), (2, .int x2), (3, .int x3), (4, .int (x2 - x0)), (5, .int (x1 - x3))]) dX11_far_30 (by decide) rfl rfl ?_
      refine bv_iload dX11_far_32 4 rfl ?_
      refine bv_iload dX11_far_34 5 rfl ?_
      refine bv_iadd dX11_far_36 ?_
      subst h
      exact bv_iret (x := ((x2 - x0) + (x1 - x3))) dX11_far_37 rfl ⟨rfl, rfl⟩
    · replace h := bu_f h cc
      refine bv_iload_n dX11_far_21 3 rfl ?_
      refine bv_iload_n dX11_far_22 1 rfl ?_
      refine bv_isub dX11_far_23 ?_
      refine bv_goto (tgt := 30) dX11_far_24 (by decide) ?_
      refine bv_istore (ls1 := [(0, .int x0), (1, .int x1), (2, .int x2), (3, .int x3), (4, .int (x2 - x0)), (5, .int (x3 - x1))]) dX11_far_30 (by decide) rfl rfl ?_
      refine bv_iload dX11_far_32 4 rfl ?_
      refine bv_iload dX11_far_34 5 rfl ?_
      refine bv_iadd dX11_far_36 ?_
      subst h
      exact bv_iret (x := ((x2 - x0) + (x3 - x1))) dX11_far_37 rfl ⟨rfl, rfl⟩
def f_X8_rangeOf (M : bm_M) (x0 : Nat) (x1 : Int32) : Option (Int32) := (if bm_io x0 8 then ((f_X8_browOf M x0 x1).bind fun v2 => (if v2 = 0 then some (-1) else ((M.2.2 x0 0).bind fun a4 => (if bm_io a4 0 then some (v2 * (M.1 a4 15)) else none)))) else none)
set_option maxHeartbeats 4000000 in
set_option maxRecDepth 100000 in
theorem c_X8_rangeOf {L : bm_L} {d n : Nat} {M : bm_M} {x0 : Nat} {x1 : Int32} {v : Int32} (hN : 181 ≤ n) (h : f_X8_rangeOf M x0 x1 = some v) : bm_C L m_X8_rangeOf (d + 2) n n [.ref x0, .int x1] M (fun r M' => r = some (.int v) ∧ M' = M) := by
  refine bm_C.ofV (by decide) (Nat.le_of_ble_eq_true rfl) ?_
  show bm_V L m_X8_rangeOf (d + 2) n n n 0 [(0, .ref x0), (1, .int x1)] [] M _
  unfold f_X8_rangeOf at h
  refine bv_aload_n dX8_rangeOf_0 0 rfl ?_
  refine bv_iload_n dX8_rangeOf_1 1 rfl ?_
  obtain ⟨q1, h⟩ := bu_io h
  obtain ⟨v2, p3, h⟩ := bu_bd h
  refine bw_callV (As := [.int x1]) hN q1 ⟨_, _, rfl⟩ dX8_rangeOf_2 mc_8_79 (c_X8_browOf (d := d + 0) hN p3) rfl rfl (by decide) ?_
  refine bv_istore_n (ls1 := [(0, .ref x0), (1, .int x1), (2, .int v2)]) dX8_rangeOf_5 (by decide) rfl rfl ?_
  refine bv_iload_n dX8_rangeOf_6 2 rfl ?_
  refine bv_if_ne (tgt := 14) dX8_rangeOf_7 (by decide) (fun cc => ?_) (fun cc => ?_)
  · replace h := bu_f h cc
    refine bv_iload_n dX8_rangeOf_14 2 rfl ?_
    refine bv_aload_n dX8_rangeOf_15 0 rfl ?_
    obtain ⟨a4, e5, h⟩ := bu_bd h
    refine bw_getA (a := a4) hN q1 e5 dX8_rangeOf_16 fl_8_30 rfl ?_
    obtain ⟨q6, h⟩ := bu_io h
    refine bw_getI hN q6 dX8_rangeOf_19 fl_8_83 rfl ?_
    refine bv_imul dX8_rangeOf_22 ?_
    obtain rfl := Option.some.inj h
    exact bv_iret (x := (v2 * (M.1 a4 15))) dX8_rangeOf_23 rfl ⟨rfl, rfl⟩
  · replace h := bu_t h cc
    refine bv_iconst (v := (-1)) dX8_rangeOf_10 (by decide) ?_
    refine bv_goto (tgt := 23) dX8_rangeOf_11 (by decide) ?_
    obtain rfl := Option.some.inj h
    exact bv_iret (x := (-1)) dX8_rangeOf_23 rfl ⟨rfl, rfl⟩
def f_X8_seenBy_l4 (M : bm_M) (x0 : Nat) (x1 : Int32) : Nat → Int32 → Int32 → Option (Int32)
  | 0, _, _ => none
  | k + 1, x2, x3 => (if bm_io x0 8 then ((M.2.2 x0 0).bind fun a2 => (if bm_io a2 0 then (if (M.1 a2 10) ≤ x3 then some x2 else (if x3 = x1 then f_X8_seenBy_l4 M x0 x1 k x2 (x3 + 1) else ((M.2.2 x0 1).bind fun a5 => (if bm_ia a5 0 x1 = true then ((M.2.2 x0 2).bind fun a8 => (if bm_ia a8 0 x1 = true then (if bm_ia a5 0 x3 = true then (if bm_ia a8 0 x3 = true then ((f_X8_rangeOf M x0 x3).bind fun v13 => (if v13 < (f_X11_far (M.1 a5 x1.toNatClampNeg) (M.1 a8 x1.toNatClampNeg) (M.1 a5 x3.toNatClampNeg) (M.1 a8 x3.toNatClampNeg)) then f_X8_seenBy_l4 M x0 x1 k x2 (x3 + 1) else f_X8_seenBy_l4 M x0 x1 k (x2 ||| (bm_ishl 1 x3)) (x3 + 1))) else none) else none) else none)) else none)))) else none)) else none)
set_option maxHeartbeats 4000000 in
set_option maxRecDepth 100000 in
theorem v_X8_seenBy_l4 {L : bm_L} {d n : Nat} {Q : Option Value → bm_M → Prop} {M : bm_M} {x0 : Nat} {x1 : Int32} (hN : 181 ≤ n) : ∀ (k : Nat) (x2 : Int32) (x3 : Int32) (r : Int32), f_X8_seenBy_l4 M x0 x1 k x2 x3 = some r → (∀ yy, yy = r → bm_V L m_X8_seenBy (d + 3) n n n 67 [(0, .ref x0), (1, .int x1), (2, .int yy)] [] M Q) → bm_V L m_X8_seenBy (d + 3) n n n 4 [(0, .ref x0), (1, .int x1), (2, .int x2), (3, .int x3)] [] M Q := by
  intro k
  induction k with
  | zero => intro x2 x3 r h; cases (show (none : Option (Int32)) = some r from h)
  | succ k ih =>
    intro x2 x3 r h K0
    unfold f_X8_seenBy_l4 at h
    refine bv_iload_n dX8_seenBy_4 3 rfl ?_
    refine bv_aload_n dX8_seenBy_5 0 rfl ?_
    obtain ⟨q1, h⟩ := bu_io h
    obtain ⟨a2, e3, h⟩ := bu_bd h
    refine bw_getA (a := a2) hN q1 e3 dX8_seenBy_6 fl_8_30 rfl ?_
    obtain ⟨q4, h⟩ := bu_io h
    refine bw_getI hN q4 dX8_seenBy_9 fl_8_34 rfl ?_
    refine bv_icmp_ge (tgt := 67) dX8_seenBy_12 (by decide) (fun cc => ?_) (fun cc => ?_)
    · replace h := bu_t h cc
      refine bw_ls (ls1 := [(0, .ref x0), (1, .int x1), (2, .int x2)]) [0, 1, 2] rfl ?_
      obtain rfl := Option.some.inj h
      exact K0 _ rfl
    · replace h := bu_f h cc
      refine bv_iload_n dX8_seenBy_15 3 rfl ?_
      refine bv_iload_n dX8_seenBy_16 1 rfl ?_
      refine bv_icmp_eq (tgt := 61) dX8_seenBy_17 (by decide) (fun cc => ?_) (fun cc => ?_)
      · replace h := bu_t h cc
        refine bv_iinc (j := 3) (v := (x3 + 1)) (ls1 := [(0, .ref x0), (1, .int x1), (2, .int x2), (3, .int (x3 + 1))]) dX8_seenBy_61 rfl rfl (by decide) rfl rfl ?_
        refine bv_goto (tgt := 4) dX8_seenBy_64 (by decide) ?_
        exact ih _ _ _ h K0
      · replace h := bu_f h cc
        refine bv_aload_n dX8_seenBy_20 0 rfl ?_
        obtain ⟨a5, e6, h⟩ := bu_bd h
        refine bw_getA (a := a5) hN q1 e6 dX8_seenBy_21 fl_8_9 rfl ?_
        refine bv_iload_n dX8_seenBy_24 1 rfl ?_
        obtain ⟨r7, h⟩ := bu_ia h
        refine bw_iald hN r7 dX8_seenBy_25 ?_
        refine bv_aload_n dX8_seenBy_26 0 rfl ?_
        obtain ⟨a8, e9, h⟩ := bu_bd h
        refine bw_getA (a := a8) hN q1 e9 dX8_seenBy_27 fl_8_15 rfl ?_
        refine bv_iload_n dX8_seenBy_30 1 rfl ?_
        obtain ⟨r10, h⟩ := bu_ia h
        refine bw_iald hN r10 dX8_seenBy_31 ?_
        refine bv_aload_n dX8_seenBy_32 0 rfl ?_
        refine bw_getA (a := a5) hN q1 e6 dX8_seenBy_33 fl_8_9 rfl ?_
        refine bv_iload_n dX8_seenBy_36 3 rfl ?_
        obtain ⟨r11, h⟩ := bu_ia h
        refine bw_iald hN r11 dX8_seenBy_37 ?_
        refine bv_aload_n dX8_seenBy_38 0 rfl ?_
        refine bw_getA (a := a8) hN q1 e9 dX8_seenBy_39 fl_8_15 rfl ?_
        refine bv_iload_n dX8_seenBy_42 3 rfl ?_
        obtain ⟨r12, h⟩ := bu_ia h
        refine bw_iald hN r12 dX8_seenBy_43 ?_
        refine bw_callSN (As := [.int (M.1 a5 x1.toNatClampNeg), .int (M.1 a8 x1.toNatClampNeg), .int (M.1 a5 x3.toNatClampNeg), .int (M.1 a8 x3.toNatClampNeg)]) dX8_seenBy_44 mc_8_86 (c_X11_far (d := d + 2) hN rfl) rfl rfl (by decide) ?_
        refine bv_aload_n dX8_seenBy_47 0 rfl ?_
        refine bv_iload_n dX8_seenBy_48 3 rfl ?_
        obtain ⟨v13, p14, h⟩ := bu_bd h
        refine bw_callV (As := [.int x3]) hN q1 ⟨_, _, rfl⟩ dX8_seenBy_49 mc_8_90 (c_X8_rangeOf (d := d + 0) hN p14) rfl rfl (Nat.le_of_ble_eq_true rfl) ?_
        refine bv_icmp_gt (tgt := 61) dX8_seenBy_52 (by decide) (fun cc => ?_) (fun cc => ?_)
        · replace h := bu_t h cc
          refine bv_iinc (j := 3) (v := (x3 + 1)) (ls1 := [(0, .ref x0), (1, .int x1), (2, .int x2), (3, .int (x3 + 1))]) dX8_seenBy_61 rfl rfl (by decide) rfl rfl ?_
          refine bv_goto (tgt := 4) dX8_seenBy_64 (by decide) ?_
          exact ih _ _ _ h K0
        · replace h := bu_f h cc
          refine bv_iload_n dX8_seenBy_55 2 rfl ?_
          refine bv_iconst (v := 1) dX8_seenBy_56 (by decide) ?_
          refine bv_iload_n dX8_seenBy_57 3 rfl ?_
          refine bv_ishl dX8_seenBy_58 ?_
          refine bv_ior dX8_seenBy_59 ?_
          refine bv_istore_n (ls1 := [(0, .ref x0), (1, .int x1), (2, .int (x2 ||| (bm_ishl 1 x3))), (3, .int x3)]) dX8_seenBy_60 (by decide) rfl rfl ?_
          refine bv_iinc (j := 3) (v := (x3 + 1)) (ls1 := [(0, .ref x0), (1, .int x1), (2, .int (x2 ||| (bm_ishl 1 x3))), (3, .int (x3 + 1))]) dX8_seenBy_61 rfl rfl (by decide) rfl rfl ?_
          refine bv_goto (tgt := 4) dX8_seenBy_64 (by decide) ?_
          exact ih _ _ _ h K0
def f_X8_seenBy (M : bm_M) (x0 : Nat) (x1 : Int32) : Option (Int32) := ((f_X8_seenBy_l4 M x0 x1 1000 0 0).bind fun y3 => (if bm_io x0 8 then (if (f_X11_bit (M.1 x0 7) x1) = 1 then some 0 else some y3) else none))
set_option maxHeartbeats 4000000 in
set_option maxRecDepth 100000 in
theorem c_X8_seenBy {L : bm_L} {d n : Nat} {M : bm_M} {x0 : Nat} {x1 : Int32} {v : Int32} (hN : 181 ≤ n) (h : f_X8_seenBy M x0 x1 = some v) : bm_C L m_X8_seenBy (d + 3) n n [.ref x0, .int x1] M (fun r M' => r = some (.int v) ∧ M' = M) := by
  refine bm_C.ofV (by decide) (Nat.le_of_ble_eq_true rfl) ?_
  show bm_V L m_X8_seenBy (d + 3) n n n 0 [(0, .ref x0), (1, .int x1)] [] M _
  unfold f_X8_seenBy at h
  refine bv_iconst (v := 0) dX8_seenBy_0 (by decide) ?_
  refine bv_istore_n (ls1 := [(0, .ref x0), (1, .int x1), (2, .int 0)]) dX8_seenBy_1 (by decide) rfl rfl ?_
  refine bv_iconst (v := 0) dX8_seenBy_2 (by decide) ?_
  refine bv_istore_n (ls1 := [(0, .ref x0), (1, .int x1), (2, .int 0), (3, .int 0)]) dX8_seenBy_3 (by decide) rfl rfl ?_
  obtain ⟨r1, p2, h⟩ := bu_bd h
  refine v_X8_seenBy_l4 hN 1000 _ _ _ p2 (fun y3 hy => ?_)
  · subst hy
    refine bv_aload_n dX8_seenBy_67 0 rfl ?_
    obtain ⟨q4, h⟩ := bu_io h
    refine bw_getI hN q4 dX8_seenBy_68 fl_8_46 rfl ?_
    refine bv_iload_n dX8_seenBy_71 1 rfl ?_
    refine bw_callSN (As := [.int (M.1 x0 7), .int x1]) dX8_seenBy_72 mc_8_70 (c_X11_bit (d := d + 2) hN rfl) rfl rfl (by decide) ?_
    refine bv_iconst (v := 1) dX8_seenBy_75 (by decide) ?_
    refine bv_icmp_ne (tgt := 83) dX8_seenBy_76 (by decide) (fun cc => ?_) (fun cc => ?_)
    · replace h := bu_f h cc
      refine bv_iload_n dX8_seenBy_83 2 rfl ?_
      obtain rfl := Option.some.inj h
      exact bv_iret (x := y3) dX8_seenBy_84 rfl ⟨rfl, rfl⟩
    · replace h := bu_t h cc
      refine bv_iconst (v := 0) dX8_seenBy_79 (by decide) ?_
      refine bv_goto (tgt := 84) dX8_seenBy_80 (by decide) ?_
      obtain rfl := Option.some.inj h
      exact bv_iret (x := 0) dX8_seenBy_84 rfl ⟨rfl, rfl⟩
def f_X7_menSeeing_l4 (M : bm_M) (x0 : Int32) (x1 : Nat) : Nat → Int32 → Int32 → Option (Int32)
  | 0, _, _ => none
  | k + 1, x2, x3 => (if bm_io x1 8 then ((M.2.2 x1 0).bind fun a2 => (if bm_io a2 0 then (if (M.1 a2 10) ≤ x3 then some x2 else ((f_X8_seenBy M x1 x3).bind fun v5 => f_X7_menSeeing_l4 M x0 x1 k (x2 ||| (bm_ishl (f_X11_bit v5 x0) x3)) (x3 + 1))) else none)) else none)
set_option maxHeartbeats 4000000 in
set_option maxRecDepth 100000 in
theorem v_X7_menSeeing_l4 {L : bm_L} {d n : Nat} {Q : Option Value → bm_M → Prop} {M : bm_M} {x0 : Int32} {x1 : Nat} (hN : 181 ≤ n) : ∀ (k : Nat) (x2 : Int32) (x3 : Int32) (r : Int32), f_X7_menSeeing_l4 M x0 x1 k x2 x3 = some r → (∀ yy, yy = r → bm_V L m_X7_menSeeing (d + 4) n n n 35 [(2, .int yy)] [] M Q) → bm_V L m_X7_menSeeing (d + 4) n n n 4 [(0, .int x0), (1, .ref x1), (2, .int x2), (3, .int x3)] [] M Q := by
  intro k
  induction k with
  | zero => intro x2 x3 r h; cases (show (none : Option (Int32)) = some r from h)
  | succ k ih =>
    intro x2 x3 r h K0
    unfold f_X7_menSeeing_l4 at h
    refine bv_iload_n dX7_menSeeing_4 3 rfl ?_
    refine bv_aload_n dX7_menSeeing_5 1 rfl ?_
    obtain ⟨q1, h⟩ := bu_io h
    obtain ⟨a2, e3, h⟩ := bu_bd h
    refine bw_getA (a := a2) hN q1 e3 dX7_menSeeing_6 fl_7_97 rfl ?_
    obtain ⟨q4, h⟩ := bu_io h
    refine bw_getI hN q4 dX7_menSeeing_9 fl_7_163 rfl ?_
    refine bv_icmp_ge (tgt := 35) dX7_menSeeing_12 (by decide) (fun cc => ?_) (fun cc => ?_)
    · replace h := bu_t h cc
      refine bw_ls (ls1 := [(2, .int x2)]) [2] rfl ?_
      obtain rfl := Option.some.inj h
      exact K0 _ rfl
    · replace h := bu_f h cc
      refine bv_iload_n dX7_menSeeing_15 2 rfl ?_
      refine bv_aload_n dX7_menSeeing_16 1 rfl ?_
      refine bv_iload_n dX7_menSeeing_17 3 rfl ?_
      obtain ⟨v5, p6, h⟩ := bu_bd h
      refine bw_callV (As := [.int x3]) hN q1 ⟨_, _, rfl⟩ dX7_menSeeing_18 mc_7_166 (c_X8_seenBy (d := d + 0) hN p6) rfl rfl (Nat.le_of_ble_eq_true rfl) ?_
      refine bv_iload_n dX7_menSeeing_21 0 rfl ?_
      refine bw_callSN (As := [.int v5, .int x0]) dX7_menSeeing_22 mc_7_169 (c_X11_bit (d := d + 3) hN rfl) rfl rfl (Nat.le_of_ble_eq_true rfl) ?_
      refine bv_iload_n dX7_menSeeing_25 3 rfl ?_
      refine bv_ishl dX7_menSeeing_26 ?_
      refine bv_ior dX7_menSeeing_27 ?_
      refine bv_istore_n (ls1 := [(0, .int x0), (1, .ref x1), (2, .int (x2 ||| (bm_ishl (f_X11_bit v5 x0) x3))), (3, .int x3)]) dX7_menSeeing_28 (by decide) rfl rfl ?_
      refine bv_iinc (j := 3) (v := (x3 + 1)) (ls1 := [(0, .int x0), (1, .ref x1), (2, .int (x2 ||| (bm_ishl (f_X11_bit v5 x0) x3))), (3, .int (x3 + 1))]) dX7_menSeeing_29 rfl rfl (by decide) rfl rfl ?_
      refine bv_goto (tgt := 4) dX7_menSeeing_32 (by decide) ?_
      exact ih _ _ _ h K0
def f_X7_menSeeing (M : bm_M) (x0 : Int32) (x1 : Nat) : Option (Int32) := ((f_X7_menSeeing_l4 M x0 x1 1000 0 0).bind fun y3 => some y3)
set_option maxHeartbeats 4000000 in
set_option maxRecDepth 100000 in
theorem c_X7_menSeeing {L : bm_L} {d n : Nat} {M : bm_M} {x0 : Int32} {x1 : Nat} {v : Int32} (hN : 181 ≤ n) (h : f_X7_menSeeing M x0 x1 = some v) : bm_C L m_X7_menSeeing (d + 4) n n [.int x0, .ref x1] M (fun r M' => r = some (.int v) ∧ M' = M) := by
  refine bm_C.ofV (by decide) (Nat.le_of_ble_eq_true rfl) ?_
  show bm_V L m_X7_menSeeing (d + 4) n n n 0 [(0, .int x0), (1, .ref x1)] [] M _
  unfold f_X7_menSeeing at h
  refine bv_iconst (v := 0) dX7_menSeeing_0 (by decide) ?_
  refine bv_istore_n (ls1 := [(0, .int x0), (1, .ref x1), (2, .int 0)]) dX7_menSeeing_1 (by decide) rfl rfl ?_
  refine bv_iconst (v := 0) dX7_menSeeing_2 (by decide) ?_
  refine bv_istore_n (ls1 := [(0, .int x0), (1, .ref x1), (2, .int 0), (3, .int 0)]) dX7_menSeeing_3 (by decide) rfl rfl ?_
  obtain ⟨r1, p2, h⟩ := bu_bd h
  refine v_X7_menSeeing_l4 hN 1000 _ _ _ p2 (fun y3 hy => ?_)
  · subst hy
    refine bv_iload_n dX7_menSeeing_35 0 rfl ?_
    obtain rfl := Option.some.inj h
    exact bv_iret (x := y3) dX7_menSeeing_36 rfl ⟨rfl, rfl⟩
def f_X8_holdersOf_l4 (M : bm_M) (x0 : Nat) (x1 : Int32) : Nat → Int32 → Int32 → Option (Int32)
  | 0, _, _ => none
  | k + 1, x2, x3 => (if bm_io x0 8 then ((M.2.2 x0 0).bind fun a2 => (if bm_io a2 0 then (if (M.1 a2 10) ≤ x3 then some x2 else ((M.2.2 x0 4).bind fun a5 => (if bm_ia a5 0 x3 = true then (if (M.1 a5 x3.toNatClampNeg) = x1 then f_X8_holdersOf_l4 M x0 x1 k (x2 ||| (bm_ishl 1 x3)) (x3 + 1) else f_X8_holdersOf_l4 M x0 x1 k x2 (x3 + 1)) else none))) else none)) else none)
set_option maxHeartbeats 4000000 in
set_option maxRecDepth 100000 in
theorem v_X8_holdersOf_l4 {L : bm_L} {d n : Nat} {Q : Option Value → bm_M → Prop} {M : bm_M} {x0 : Nat} {x1 : Int32} (hN : 181 ≤ n) : ∀ (k : Nat) (x2 : Int32) (x3 : Int32) (r : Int32), f_X8_holdersOf_l4 M x0 x1 k x2 x3 = some r → (∀ yy, yy = r → bm_V L m_X8_holdersOf d n n n 37 [(2, .int yy)] [] M Q) → bm_V L m_X8_holdersOf d n n n 4 [(0, .ref x0), (1, .int x1), (2, .int x2), (3, .int x3)] [] M Q := by
  intro k
  induction k with
  | zero => intro x2 x3 r h; cases (show (none : Option (Int32)) = some r from h)
  | succ k ih =>
    intro x2 x3 r h K0
    unfold f_X8_holdersOf_l4 at h
    refine bv_iload_n dX8_holdersOf_4 3 rfl ?_
    refine bv_aload_n dX8_holdersOf_5 0 rfl ?_
    obtain ⟨q1, h⟩ := bu_io h
    obtain ⟨a2, e3, h⟩ := bu_bd h
    refine bw_getA (a := a2) hN q1 e3 dX8_holdersOf_6 fl_8_30 rfl ?_
    obtain ⟨q4, h⟩ := bu_io h
    refine bw_getI hN q4 dX8_holdersOf_9 fl_8_34 rfl ?_
    refine bv_icmp_ge (tgt := 37) dX8_holdersOf_12 (by decide) (fun cc => ?_) (fun cc => ?_)
    · replace h := bu_t h cc
      refine bw_ls (ls1 := [(2, .int x2)]) [2] rfl ?_
      obtain rfl := Option.some.inj h
      exact K0 _ rfl
    · replace h := bu_f h cc
      refine bv_aload_n dX8_holdersOf_15 0 rfl ?_
      obtain ⟨a5, e6, h⟩ := bu_bd h
      refine bw_getA (a := a5) hN q1 e6 dX8_holdersOf_16 fl_8_21 rfl ?_
      refine bv_iload_n dX8_holdersOf_19 3 rfl ?_
      obtain ⟨r7, h⟩ := bu_ia h
      refine bw_iald hN r7 dX8_holdersOf_20 ?_
      refine bv_iload_n dX8_holdersOf_21 1 rfl ?_
      refine bv_icmp_ne (tgt := 31) dX8_holdersOf_22 (by decide) (fun cc => ?_) (fun cc => ?_)
      · replace h := bu_f h cc
        refine bv_iinc (j := 3) (v := (x3 + 1)) (ls1 := [(0, .ref x0), (1, .int x1), (2, .int x2), (3, .int (x3 + 1))]) dX8_holdersOf_31 rfl rfl (by decide) rfl rfl ?_
        refine bv_goto (tgt := 4) dX8_holdersOf_34 (by decide) ?_
        exact ih _ _ _ h K0
      · replace h := bu_t h cc
        refine bv_iload_n dX8_holdersOf_25 2 rfl ?_
        refine bv_iconst (v := 1) dX8_holdersOf_26 (by decide) ?_
        refine bv_iload_n dX8_holdersOf_27 3 rfl ?_
        refine bv_ishl dX8_holdersOf_28 ?_
        refine bv_ior dX8_holdersOf_29 ?_
        refine bv_istore_n (ls1 := [(0, .ref x0), (1, .int x1), (2, .int (x2 ||| (bm_ishl 1 x3))), (3, .int x3)]) dX8_holdersOf_30 (by decide) rfl rfl ?_
        refine bv_iinc (j := 3) (v := (x3 + 1)) (ls1 := [(0, .ref x0), (1, .int x1), (2, .int (x2 ||| (bm_ishl 1 x3))), (3, .int (x3 + 1))]) dX8_holdersOf_31 rfl rfl (by decide) rfl rfl ?_
        refine bv_goto (tgt := 4) dX8_holdersOf_34 (by decide) ?_
        exact ih _ _ _ h K0
def f_X8_holdersOf (M : bm_M) (x0 : Nat) (x1 : Int32) : Option (Int32) := ((f_X8_holdersOf_l4 M x0 x1 1000 0 0).bind fun y3 => some y3)
set_option maxHeartbeats 4000000 in
set_option maxRecDepth 100000 in
theorem c_X8_holdersOf {L : bm_L} {d n : Nat} {M : bm_M} {x0 : Nat} {x1 : Int32} {v : Int32} (hN : 181 ≤ n) (h : f_X8_holdersOf M x0 x1 = some v) : bm_C L m_X8_holdersOf d n n [.ref x0, .int x1] M (fun r M' => r = some (.int v) ∧ M' = M) := by
  refine bm_C.ofV (by decide) (Nat.le_of_ble_eq_true rfl) ?_
  show bm_V L m_X8_holdersOf d n n n 0 [(0, .ref x0), (1, .int x1)] [] M _
  unfold f_X8_holdersOf at h
  refine bv_iconst (v := 0) dX8_holdersOf_0 (by decide) ?_
  refine bv_istore_n (ls1 := [(0, .ref x0), (1, .int x1), (2, .int 0)]) dX8_holdersOf_1 (by decide) rfl rfl ?_
  refine bv_iconst (v := 0) dX8_holdersOf_2 (by decide) ?_
  refine bv_istore_n (ls1 := [(0, .ref x0), (1, .int x1), (2, .int 0), (3, .int 0)]) dX8_holdersOf_3 (by decide) rfl rfl ?_
  obtain ⟨r1, p2, h⟩ := bu_bd h
  refine v_X8_holdersOf_l4 hN 1000 _ _ _ p2 (fun y3 hy => ?_)
  · subst hy
    refine bv_iload_n dX8_holdersOf_37 0 rfl ?_
    obtain rfl := Option.some.inj h
    exact bv_iret (x := y3) dX8_holdersOf_38 rfl ⟨rfl, rfl⟩
def f_X7_menOfPlain (M : bm_M) (x0 : Nat) (x1 : Option Nat) (x2 : Int32) (x3 : Nat) : Option (Int32) := (if bm_iwq x1 = true then (if x1 = (some (1000 + 22)) then (if bm_io x3 8 then some (M.1 x3 7) else none) else (if x1 = (some (1000 + 23)) then (if bm_io x3 8 then some (M.1 x3 8) else none) else (if x1 = (some (1000 + 24)) then (if bm_io x3 8 then ((M.2.2 x3 0).bind fun a36 => (if bm_io a36 0 then some (M.1 a36 11) else none)) else none) else (if x1 = (some (1000 + 25)) then (if bm_io x3 8 then ((M.2.2 x3 0).bind fun a32 => (if bm_io a32 0 then some (M.1 a32 12) else none)) else none) else (if x1 = (some (1000 + 26)) then (if bm_io x3 8 then ((f_X8_holdersOf M x3 (-1)).bind fun v29 => some v29) else none) else (if x1 = (some (1000 + 27)) then (if bm_io x3 8 then ((M.2.2 x3 0).bind fun a19 => (if bm_io x0 7 then ((M.2.2 x0 1).bind fun a22 => (if bm_ia a22 0 x2 = true then (if bm_io a19 0 then ((f_X0_straightUnder M a19 (M.1 a22 x2.toNatClampNeg)).bind fun v26 => some v26) else none) else none)) else none)) else none) else (if x1 = (some (1000 + 28)) then (if bm_io x0 7 then ((M.2.2 x0 1).bind fun a13 => (if bm_ia a13 0 x2 = true then ((f_X7_menSeeing M (M.1 a13 x2.toNatClampNeg) x3).bind fun v16 => some v16) else none)) else none) else (if x1 = (some (1000 + 29)) then (if bm_io x0 7 then ((M.2.2 x0 1).bind fun a6 => (if bm_ia a6 0 x2 = true then (if bm_io x3 8 then ((f_X8_holdersOf M x3 (M.1 a6 x2.toNatClampNeg)).bind fun v10 => some v10) else none) else none)) else none) else (if bm_io x0 7 then ((f_X7_menByMeasure M x0 x1 x2 x3).bind fun v3 => some v3) else none))))))))) else none)
set_option maxHeartbeats 4000000 in
set_option maxRecDepth 100000 in
theorem c_X7_menOfPlain {L : bm_L} {d n : Nat} {M : bm_M} {x0 : Nat} {x1 : Option Nat} {x2 : Int32} {x3 : Nat} {v : Int32} (hN : 181 ≤ n) (h : f_X7_menOfPlain M x0 x1 x2 x3 = some v) : bm_C L m_X7_menOfPlain (d + 5) n n [.ref x0, va_rf x1, .int x2, .ref x3] M (fun r M' => r = some (.int v) ∧ M' = M) := by
  refine bm_C.ofV (by decide) (by cases x1 <;> exact Nat.le_of_ble_eq_true rfl) ?_
  rw [show bm_en 0 [.ref x0, va_rf x1, .int x2, .ref x3] = [(0, .ref x0), (1, va_rf x1), (2, .int x2), (3, .ref x3)] from by cases x1 <;> rfl]
  unfold f_X7_menOfPlain at h
  refine bv_aloadq_n (x := x1) dX7_menOfPlain_0 1 rfl ?_
  refine bw_getW (j := 22) dX7_menOfPlain_1 fw_7_113 rfl ?_
  obtain ⟨w1, h⟩ := bu_g h
  refine bv_acmp_ne (x := x1) (y := (some (1000 + 22))) (tgt := 12) dX7_menOfPlain_4 (by decide) (bm_wq_of w1) (bm_wq_of rfl) (fun cc => ?_) (fun cc => ?_)
  · replace h := bu_f h cc
    refine bv_aloadq_n (x := x1) dX7_menOfPlain_12 1 rfl ?_
    refine bw_getW (j := 23) dX7_menOfPlain_13 fw_7_119 rfl ?_
    refine bv_acmp_ne (x := x1) (y := (some (1000 + 23))) (tgt := 24) dX7_menOfPlain_16 (by decide) (bm_wq_of w1) (bm_wq_of rfl) (fun cc => ?_) (fun cc => ?_)
    · replace h := bu_f h cc
      refine bv_aloadq_n (x := x1) dX7_menOfPlain_24 1 rfl ?_
      refine bw_getW (j := 24) dX7_menOfPlain_25 fw_7_125 rfl ?_
      refine bv_acmp_ne (x := x1) (y := (some (1000 + 24))) (tgt := 39) dX7_menOfPlain_28 (by decide) (bm_wq_of w1) (bm_wq_of rfl) (fun cc => ?_) (fun cc => ?_)
      · replace h := bu_f h cc
        refine bv_aloadq_n (x := x1) dX7_menOfPlain_39 1 rfl ?_
        refine bw_getW (j := 25) dX7_menOfPlain_40 fw_7_131 rfl ?_
        refine bv_acmp_ne (x := x1) (y := (some (1000 + 25))) (tgt := 54) dX7_menOfPlain_43 (by decide) (bm_wq_of w1) (bm_wq_of rfl) (fun cc => ?_) (fun cc => ?_)
        · replace h := bu_f h cc
          refine bv_aloadq_n (x := x1) dX7_menOfPlain_54 1 rfl ?_
          refine bw_getW (j := 26) dX7_menOfPlain_55 fw_7_137 rfl ?_
          refine bv_acmp_ne (x := x1) (y := (some (1000 + 26))) (tgt := 67) dX7_menOfPlain_58 (by decide) (bm_wq_of w1) (bm_wq_of rfl) (fun cc => ?_) (fun cc => ?_)
          · replace h := bu_f h cc
            refine bv_aloadq_n (x := x1) dX7_menOfPlain_67 1 rfl ?_
            refine bw_getW (j := 27) dX7_menOfPlain_68 fw_7_144 rfl ?_
            refine bv_acmp_ne (x := x1) (y := (some (1000 + 27))) (tgt := 88) dX7_menOfPlain_71 (by decide) (bm_wq_of w1) (bm_wq_of rfl) (fun cc => ?_) (fun cc => ?_)
            · replace h := bu_f h cc
              refine bv_aloadq_n (x := x1) dX7_menOfPlain_88 1 rfl ?_
              refine bw_getW (j := 28) dX7_menOfPlain_89 fw_7_150 rfl ?_
              refine bv_acmp_ne (x := x1) (y := (some (1000 + 28))) (tgt := 106) dX7_menOfPlain_92 (by decide) (bm_wq_of w1) (bm_wq_of rfl) (fun cc => ?_) (fun cc => ?_)
              · replace h := bu_f h cc
                refine bv_aloadq_n (x := x1) dX7_menOfPlain_106 1 rfl ?_
                refine bw_getW (j := 29) dX7_menOfPlain_107 fw_7_157 rfl ?_
                refine bv_acmp_ne (x := x1) (y := (some (1000 + 29))) (tgt := 124) dX7_menOfPlain_110 (by decide) (bm_wq_of w1) (bm_wq_of rfl) (fun cc => ?_) (fun cc => ?_)
                · replace h := bu_f h cc
                  refine bv_aload_n dX7_menOfPlain_124 0 rfl ?_
                  refine bv_aloadq_n (x := x1) dX7_menOfPlain_125 1 rfl ?_
                  refine bv_iload_n dX7_menOfPlain_126 2 rfl ?_
                  refine bv_aload_n dX7_menOfPlain_127 3 rfl ?_
                  obtain ⟨q2, h⟩ := bu_io h
                  obtain ⟨v3, p4, h⟩ := bu_bd h
                  refine bw_callV (As := [va_rf x1, .int x2, .ref x3]) hN q2 ⟨_, _, rfl⟩ dX7_menOfPlain_128 mc_7_160 (c_X7_menByMeasure (d := d + 1) hN p4) rfl rfl (by decide) ?_
                  obtain rfl := Option.some.inj h
                  exact bv_iret (x := v3) dX7_menOfPlain_131 rfl ⟨rfl, rfl⟩
                · replace h := bu_t h cc
                  refine bv_aload_n dX7_menOfPlain_113 3 rfl ?_
                  refine bv_aload_n dX7_menOfPlain_114 0 rfl ?_
                  obtain ⟨q5, h⟩ := bu_io h
                  obtain ⟨a6, e7, h⟩ := bu_bd h
                  refine bw_getA (a := a6) hN q5 e7 dX7_menOfPlain_115 fl_7_17 rfl ?_
                  refine bv_iload_n dX7_menOfPlain_118 2 rfl ?_
                  obtain ⟨r8, h⟩ := bu_ia h
                  refine bw_iald hN r8 dX7_menOfPlain_119 ?_
                  obtain ⟨q9, h⟩ := bu_io h
                  obtain ⟨v10, p11, h⟩ := bu_bd h
                  refine bw_callV (As := [.int (M.1 a6 x2.toNatClampNeg)]) hN q9 ⟨_, _, rfl⟩ dX7_menOfPlain_120 mc_7_140 (c_X8_holdersOf (d := d + 4) hN p11) rfl rfl (by decide) ?_
                  obtain rfl := Option.some.inj h
                  exact bv_iret (x := v10) dX7_menOfPlain_123 rfl ⟨rfl, rfl⟩
              · replace h := bu_t h cc
                refine bv_aload_n dX7_menOfPlain_95 0 rfl ?_
                obtain ⟨q12, h⟩ := bu_io h
                obtain ⟨a13, e14, h⟩ := bu_bd h
                refine bw_getA (a := a13) hN q12 e14 dX7_menOfPlain_96 fl_7_17 rfl ?_
                refine bv_iload_n dX7_menOfPlain_99 2 rfl ?_
                obtain ⟨r15, h⟩ := bu_ia h
                refine bw_iald hN r15 dX7_menOfPlain_100 ?_
                refine bv_aload_n dX7_menOfPlain_101 3 rfl ?_
                obtain ⟨v16, p17, h⟩ := bu_bd h
                refine bw_callS (As := [.int (M.1 a13 x2.toNatClampNeg), .ref x3]) dX7_menOfPlain_102 mc_7_153 (c_X7_menSeeing (d := d + 0) hN p17) rfl rfl (by decide) ?_
                obtain rfl := Option.some.inj h
                exact bv_iret (x := v16) dX7_menOfPlain_105 rfl ⟨rfl, rfl⟩
            · replace h := bu_t h cc
              refine bv_aload_n dX7_menOfPlain_74 3 rfl ?_
              obtain ⟨q18, h⟩ := bu_io h
              obtain ⟨a19, e20, h⟩ := bu_bd h
              refine bw_getA (a := a19) hN q18 e20 dX7_menOfPlain_75 fl_7_97 rfl ?_
              refine bv_aload_n dX7_menOfPlain_78 0 rfl ?_
              obtain ⟨q21, h⟩ := bu_io h
              obtain ⟨a22, e23, h⟩ := bu_bd h
              refine bw_getA (a := a22) hN q21 e23 dX7_menOfPlain_79 fl_7_17 rfl ?_
              refine bv_iload_n dX7_menOfPlain_82 2 rfl ?_
              obtain ⟨r24, h⟩ := bu_ia h
              refine bw_iald hN r24 dX7_menOfPlain_83 ?_
              obtain ⟨q25, h⟩ := bu_io h
              obtain ⟨v26, p27, h⟩ := bu_bd h
              refine bw_callV (As := [.int (M.1 a22 x2.toNatClampNeg)]) hN q25 ⟨_, _, rfl⟩ dX7_menOfPlain_84 mc_7_147 (c_X0_straightUnder (d := d + 4) hN p27) rfl rfl (by decide) ?_
              obtain rfl := Option.some.inj h
              exact bv_iret (x := v26) dX7_menOfPlain_87 rfl ⟨rfl, rfl⟩
          · replace h := bu_t h cc
            refine bv_aload_n dX7_menOfPlain_61 3 rfl ?_
            refine bv_iconst (v := (-1)) dX7_menOfPlain_62 (by decide) ?_
            obtain ⟨q28, h⟩ := bu_io h
            obtain ⟨v29, p30, h⟩ := bu_bd h
            refine bw_callV (As := [.int (-1)]) hN q28 ⟨_, _, rfl⟩ dX7_menOfPlain_63 mc_7_140 (c_X8_holdersOf (d := d + 4) hN p30) rfl rfl (by decide) ?_
            obtain rfl := Option.some.inj h
            exact bv_iret (x := v29) dX7_menOfPlain_66 rfl ⟨rfl, rfl⟩
        · replace h := bu_t h cc
          refine bv_aload_n dX7_menOfPlain_46 3 rfl ?_
          obtain ⟨q31, h⟩ := bu_io h
          obtain ⟨a32, e33, h⟩ := bu_bd h
          refine bw_getA (a := a32) hN q31 e33 dX7_menOfPlain_47 fl_7_97 rfl ?_
          obtain ⟨q34, h⟩ := bu_io h
          refine bw_getI hN q34 dX7_menOfPlain_50 fl_7_134 rfl ?_
          obtain rfl := Option.some.inj h
          exact bv_iret (x := (M.1 a32 12)) dX7_menOfPlain_53 rfl ⟨rfl, rfl⟩
      · replace h := bu_t h cc
        refine bv_aload_n dX7_menOfPlain_31 3 rfl ?_
        obtain ⟨q35, h⟩ := bu_io h
        obtain ⟨a36, e37, h⟩ := bu_bd h
        refine bw_getA (a := a36) hN q35 e37 dX7_menOfPlain_32 fl_7_97 rfl ?_
        obtain ⟨q38, h⟩ := bu_io h
        refine bw_getI hN q38 dX7_menOfPlain_35 fl_7_128 rfl ?_
        obtain rfl := Option.some.inj h
        exact bv_iret (x := (M.1 a36 11)) dX7_menOfPlain_38 rfl ⟨rfl, rfl⟩
    · replace h := bu_t h cc
      refine bv_aload_n dX7_menOfPlain_19 3 rfl ?_
      obtain ⟨q39, h⟩ := bu_io h
      refine bw_getI hN q39 dX7_menOfPlain_20 fl_7_122 rfl ?_
      obtain rfl := Option.some.inj h
      exact bv_iret (x := (M.1 x3 8)) dX7_menOfPlain_23 rfl ⟨rfl, rfl⟩
  · replace h := bu_t h cc
    refine bv_aload_n dX7_menOfPlain_7 3 rfl ?_
    obtain ⟨q40, h⟩ := bu_io h
    refine bw_getI hN q40 dX7_menOfPlain_8 fl_7_116 rfl ?_
    obtain rfl := Option.some.inj h
    exact bv_iret (x := (M.1 x3 7)) dX7_menOfPlain_11 rfl ⟨rfl, rfl⟩
def f_X7_menOf_l13 (x0 : Nat) (x1 : Nat) (x2 : Int32) : Nat → Int32 → Int32 → bm_M → Option (Int32 × bm_M)
  | 0, _, _, _ => none
  | k + 1, x3, x4, M => (if bm_io x0 7 then (if (M.1 x0 4) ≤ x4 then some (x3, M) else ((M.2.2 x0 0).bind fun a2 => (if bm_ia a2 4 x4 = true then (if bm_iwq (M.2.2 a2 x4.toNatClampNeg) = true then (if (M.2.2 a2 x4.toNatClampNeg) = (some (1000 + 21)) then (if x3 < 1 then (if (M.2.2 a2 x4.toNatClampNeg) = (some (1000 + 20)) then (if x3 < 2 then (if (M.2.2 a2 x4.toNatClampNeg) = (some (1000 + 19)) then (if x3 < 2 then ((M.2.2 x0 3).bind fun a57 => ((f_X7_menOfPlain M x0 (M.2.2 a2 x4.toNatClampNeg) x4 x1).bind fun v59 => (if bm_ia a57 0 x3 = true then f_X7_menOf_l13 x0 x1 x2 k (x3 + 1) (x4 + 1) (bm_sI M a57 x3.toNatClampNeg v59) else none))) else ((M.2.2 x0 3).bind fun a62 => (if bm_ia a62 0 ((x3 + (-1)) - 1) = true then (if bm_ia a62 0 (x3 + (-1)) = true then f_X7_menOf_l13 x0 x1 x2 k (x3 + (-1)) (x4 + 1) (bm_sI M a62 ((x3 + (-1)) - 1).toNatClampNeg ((M.1 a62 ((x3 + (-1)) - 1).toNatClampNeg) ||| (M.1 a62 (x3 + (-1)).toNatClampNeg))) else none) else none))) else ((M.2.2 x0 3).bind fun a52 => ((f_X7_menOfPlain M x0 (M.2.2 a2 x4.toNatClampNeg) x4 x1).bind fun v54 => (if bm_ia a52 0 x3 = true then f_X7_menOf_l13 x0 x1 x2 k (x3 + 1) (x4 + 1) (bm_sI M a52 x3.toNatClampNeg v54) else none)))) else ((M.2.2 x0 3).bind fun a66 => (if bm_ia a66 0 ((x3 + (-1)) - 1) = true then (if bm_ia a66 0 (x3 + (-1)) = true then f_X7_menOf_l13 x0 x1 x2 k (x3 + (-1)) (x4 + 1) (bm_sI M a66 ((x3 + (-1)) - 1).toNatClampNeg ((M.1 a66 ((x3 + (-1)) - 1).toNatClampNeg) &&& (M.1 a66 (x3 + (-1)).toNatClampNeg))) else none) else none))) else (if (M.2.2 a2 x4.toNatClampNeg) = (some (1000 + 19)) then (if x3 < 2 then ((M.2.2 x0 3).bind fun a43 => ((f_X7_menOfPlain M x0 (M.2.2 a2 x4.toNatClampNeg) x4 x1).bind fun v45 => (if bm_ia a43 0 x3 = true then f_X7_menOf_l13 x0 x1 x2 k (x3 + 1) (x4 + 1) (bm_sI M a43 x3.toNatClampNeg v45) else none))) else ((M.2.2 x0 3).bind fun a48 => (if bm_ia a48 0 ((x3 + (-1)) - 1) = true then (if bm_ia a48 0 (x3 + (-1)) = true then f_X7_menOf_l13 x0 x1 x2 k (x3 + (-1)) (x4 + 1) (bm_sI M a48 ((x3 + (-1)) - 1).toNatClampNeg ((M.1 a48 ((x3 + (-1)) - 1).toNatClampNeg) ||| (M.1 a48 (x3 + (-1)).toNatClampNeg))) else none) else none))) else ((M.2.2 x0 3).bind fun a38 => ((f_X7_menOfPlain M x0 (M.2.2 a2 x4.toNatClampNeg) x4 x1).bind fun v40 => (if bm_ia a38 0 x3 = true then f_X7_menOf_l13 x0 x1 x2 k (x3 + 1) (x4 + 1) (bm_sI M a38 x3.toNatClampNeg v40) else none))))) else ((M.2.2 x0 3).bind fun a70 => (if bm_ia a70 0 (x3 - 1) = true then f_X7_menOf_l13 x0 x1 x2 k x3 (x4 + 1) (bm_sI M a70 (x3 - 1).toNatClampNeg (x2 &&& ((M.1 a70 (x3 - 1).toNatClampNeg) ^^^ (-1)))) else none))) else (if (M.2.2 a2 x4.toNatClampNeg) = (some (1000 + 20)) then (if x3 < 2 then (if (M.2.2 a2 x4.toNatClampNeg) = (some (1000 + 19)) then (if x3 < 2 then ((M.2.2 x0 3).bind fun a25 => ((f_X7_menOfPlain M x0 (M.2.2 a2 x4.toNatClampNeg) x4 x1).bind fun v27 => (if bm_ia a25 0 x3 = true then f_X7_menOf_l13 x0 x1 x2 k (x3 + 1) (x4 + 1) (bm_sI M a25 x3.toNatClampNeg v27) else none))) else ((M.2.2 x0 3).bind fun a30 => (if bm_ia a30 0 ((x3 + (-1)) - 1) = true then (if bm_ia a30 0 (x3 + (-1)) = true then f_X7_menOf_l13 x0 x1 x2 k (x3 + (-1)) (x4 + 1) (bm_sI M a30 ((x3 + (-1)) - 1).toNatClampNeg ((M.1 a30 ((x3 + (-1)) - 1).toNatClampNeg) ||| (M.1 a30 (x3 + (-1)).toNatClampNeg))) else none) else none))) else ((M.2.2 x0 3).bind fun a20 => ((f_X7_menOfPlain M x0 (M.2.2 a2 x4.toNatClampNeg) x4 x1).bind fun v22 => (if bm_ia a20 0 x3 = true then f_X7_menOf_l13 x0 x1 x2 k (x3 + 1) (x4 + 1) (bm_sI M a20 x3.toNatClampNeg v22) else none)))) else ((M.2.2 x0 3).bind fun a34 => (if bm_ia a34 0 ((x3 + (-1)) - 1) = true then (if bm_ia a34 0 (x3 + (-1)) = true then f_X7_menOf_l13 x0 x1 x2 k (x3 + (-1)) (x4 + 1) (bm_sI M a34 ((x3 + (-1)) - 1).toNatClampNeg ((M.1 a34 ((x3 + (-1)) - 1).toNatClampNeg) &&& (M.1 a34 (x3 + (-1)).toNatClampNeg))) else none) else none))) else (if (M.2.2 a2 x4.toNatClampNeg) = (some (1000 + 19)) then (if x3 < 2 then ((M.2.2 x0 3).bind fun a11 => ((f_X7_menOfPlain M x0 (M.2.2 a2 x4.toNatClampNeg) x4 x1).bind fun v13 => (if bm_ia a11 0 x3 = true then f_X7_menOf_l13 x0 x1 x2 k (x3 + 1) (x4 + 1) (bm_sI M a11 x3.toNatClampNeg v13) else none))) else ((M.2.2 x0 3).bind fun a16 => (if bm_ia a16 0 ((x3 + (-1)) - 1) = true then (if bm_ia a16 0 (x3 + (-1)) = true then f_X7_menOf_l13 x0 x1 x2 k (x3 + (-1)) (x4 + 1) (bm_sI M a16 ((x3 + (-1)) - 1).toNatClampNeg ((M.1 a16 ((x3 + (-1)) - 1).toNatClampNeg) ||| (M.1 a16 (x3 + (-1)).toNatClampNeg))) else none) else none))) else ((M.2.2 x0 3).bind fun a6 => ((f_X7_menOfPlain M x0 (M.2.2 a2 x4.toNatClampNeg) x4 x1).bind fun v8 => (if bm_ia a6 0 x3 = true then f_X7_menOf_l13 x0 x1 x2 k (x3 + 1) (x4 + 1) (bm_sI M a6 x3.toNatClampNeg v8) else none)))))) else none) else none))) else none)
set_option maxHeartbeats 4000000 in
set_option maxRecDepth 100000 in
theorem v_X7_menOf_l13 {L : bm_L} {d n : Nat} {Q : Option Value → bm_M → Prop} {x0 : Nat} {x1 : Nat} {x2 : Int32} (hN : 181 ≤ n) (q_1 : bm_OK x1 8) : ∀ (k : Nat) (x3 : Int32) (x4 : Int32) (M : bm_M) (r : Int32 × bm_M), f_X7_menOf_l13 x0 x1 x2 k x3 x4 M = some r → (∀ yy, yy = r → bm_V L m_X7_menOf (d + 6) n n n 163 [(0, .ref x0), (3, .int yy.1)] [] yy.2 Q) → bm_V L m_X7_menOf (d + 6) n n n 13 [(0, .ref x0), (1, .ref x1), (2, .int x2), (3, .int x3), (4, .int x4)] [] M Q := by
  intro k
  induction k with
  | zero => intro x3 x4 M r h; cases (show (none : Option (Int32 × bm_M)) = some r from h)
  | succ k ih =>
    intro x3 x4 M r h K0
    unfold f_X7_menOf_l13 at h
    refine bv_iload dX7_menOf_13 4 rfl ?_
    refine bv_aload_n dX7_menOf_15 0 rfl ?_
    obtain ⟨q1, h⟩ := bu_io h
    refine bw_getI hN q1 dX7_menOf_16 fl_7_31 rfl ?_
    refine bv_icmp_ge (tgt := 163) dX7_menOf_19 (by decide) (fun cc => ?_) (fun cc => ?_)
    · replace h := bu_t h cc
      refine bw_ls (ls1 := [(0, .ref x0), (3, .int x3)]) [0, 3] rfl ?_
      obtain rfl := Option.some.inj h
      exact K0 _ rfl
    · replace h := bu_f h cc
      refine bv_aload_n dX7_menOf_22 0 rfl ?_
      obtain ⟨a2, e3, h⟩ := bu_bd h
      refine bw_getA (a := a2) hN q1 e3 dX7_menOf_23 fl_7_11 rfl ?_
      refine bv_iload dX7_menOf_26 4 rfl ?_
      obtain ⟨r4, h⟩ := bu_ia h
      refine bw_aald hN r4 (by decide) (by decide) dX7_menOf_28 ?_
      refine bv_astoreq (x := (M.2.2 a2 x4.toNatClampNeg)) (ls1 := [(0, .ref x0), (1, .ref x1), (2, .int x2), (3, .int x3), (4, .int x4), (5, va_rf (M.2.2 a2 x4.toNatClampNeg))]) dX7_menOf_29 (by decide) rfl rfl ?_
      refine bv_aloadq (x := (M.2.2 a2 x4.toNatClampNeg)) dX7_menOf_31 5 rfl ?_
      refine bw_getW (j := 21) dX7_menOf_33 fw_7_76 rfl ?_
      obtain ⟨w5, h⟩ := bu_g h
      refine bv_acmp_ne (x := (M.2.2 a2 x4.toNatClampNeg)) (y := (some (1000 + 21))) (tgt := 67) dX7_menOf_36 (by decide) (bm_wq_of w5) (bm_wq_of rfl) (fun cc => ?_) (fun cc => ?_)
      · replace h := bu_f h cc
        refine bv_aloadq (x := (M.2.2 a2 x4.toNatClampNeg)) dX7_menOf_67 5 rfl ?_
        refine bw_getW (j := 20) dX7_menOf_69 fw_7_57 rfl ?_
        refine bv_acmp_ne (x := (M.2.2 a2 x4.toNatClampNeg)) (y := (some (1000 + 20))) (tgt := 103) dX7_menOf_72 (by decide) (bm_wq_of w5) (bm_wq_of rfl) (fun cc => ?_) (fun cc => ?_)
        · replace h := bu_f h cc
          refine bv_aloadq (x := (M.2.2 a2 x4.toNatClampNeg)) dX7_menOf_103 5 rfl ?_
          refine bw_getW (j := 19) dX7_menOf_105 fw_7_44 rfl ?_
          refine bv_acmp_ne (x := (M.2.2 a2 x4.toNatClampNeg)) (y := (some (1000 + 19))) (tgt := 139) dX7_menOf_108 (by decide) (bm_wq_of w5) (bm_wq_of rfl) (fun cc => ?_) (fun cc => ?_)
          · replace h := bu_f h cc
            refine bv_aload_n dX7_menOf_139 0 rfl ?_
            obtain ⟨a6, e7, h⟩ := bu_bd h
            refine bw_getA (a := a6) hN q1 e7 dX7_menOf_140 fl_7_24 rfl ?_
            refine bv_iload_n dX7_menOf_143 3 rfl ?_
            refine bv_aload_n dX7_menOf_144 0 rfl ?_
            refine bv_aloadq (x := (M.2.2 a2 x4.toNatClampNeg)) dX7_menOf_145 5 rfl ?_
            refine bv_iload dX7_menOf_147 4 rfl ?_
            refine bv_aload_n dX7_menOf_149 1 rfl ?_
            obtain ⟨v8, p9, h⟩ := bu_bd h
            refine bw_callV (As := [va_rf (M.2.2 a2 x4.toNatClampNeg), .int x4, .ref x1]) hN q1 ⟨_, _, rfl⟩ dX7_menOf_150 mc_7_109 (c_X7_menOfPlain (d := d + 0) hN p9) rfl rfl (Nat.le_of_ble_eq_true rfl) ?_
            obtain ⟨r10, h⟩ := bu_ia h
            refine bw_iast hN r10 dX7_menOf_153 ?_
            refine bv_iinc (j := 3) (v := (x3 + 1)) (ls1 := [(0, .ref x0), (1, .ref x1), (2, .int x2), (3, .int (x3 + 1)), (4, .int x4), (5, va_rf (M.2.2 a2 x4.toNatClampNeg))]) dX7_menOf_154 rfl rfl (by decide) (by simp [bm_ok1, bm_rf_cat, Value.category]) rfl ?_
            refine bv_iinc (j := 4) (v := (x4 + 1)) (ls1 := [(0, .ref x0), (1, .ref x1), (2, .int x2), (3, .int (x3 + 1)), (4, .int (x4 + 1)), (5, va_rf (M.2.2 a2 x4.toNatClampNeg))]) dX7_menOf_157 rfl rfl (by decide) (by simp [bm_ok1, bm_rf_cat, Value.category]) rfl ?_
            refine bv_goto (tgt := 13) dX7_menOf_160 (by decide) ?_
            refine bw_ls (ls1 := [(0, .ref x0), (1, .ref x1), (2, .int x2), (3, .int (x3 + 1)), (4, .int (x4 + 1))]) [0, 1, 2, 3, 4] rfl ?_
            exact ih _ _ _ _ h K0
          · replace h := bu_t h cc
            refine bv_iload_n dX7_menOf_111 3 rfl ?_
            refine bv_iconst (v := 2) dX7_menOf_112 (by decide) ?_
            refine bv_icmp_lt (tgt := 139) dX7_menOf_113 (by decide) (fun cc => ?_) (fun cc => ?_)
            · replace h := bu_t h cc
              refine bv_aload_n dX7_menOf_139 0 rfl ?_
              obtain ⟨a11, e12, h⟩ := bu_bd h
              refine bw_getA (a := a11) hN q1 e12 dX7_menOf_140 fl_7_24 rfl ?_
              refine bv_iload_n dX7_menOf_143 3 rfl ?_
              refine bv_aload_n dX7_menOf_144 0 rfl ?_
              refine bv_aloadq (x := (M.2.2 a2 x4.toNatClampNeg)) dX7_menOf_145 5 rfl ?_
              refine bv_iload dX7_menOf_147 4 rfl ?_
              refine bv_aload_n dX7_menOf_149 1 rfl ?_
              obtain ⟨v13, p14, h⟩ := bu_bd h
              refine bw_callV (As := [va_rf (M.2.2 a2 x4.toNatClampNeg), .int x4, .ref x1]) hN q1 ⟨_, _, rfl⟩ dX7_menOf_150 mc_7_109 (c_X7_menOfPlain (d := d + 0) hN p14) rfl rfl (Nat.le_of_ble_eq_true rfl) ?_
              obtain ⟨r15, h⟩ := bu_ia h
              refine bw_iast hN r15 dX7_menOf_153 ?_
              refine bv_iinc (j := 3) (v := (x3 + 1)) (ls1 := [(0, .ref x0), (1, .ref x1), (2, .int x2), (3, .int (x3 + 1)), (4, .int x4), (5, va_rf (M.2.2 a2 x4.toNatClampNeg))]) dX7_menOf_154 rfl rfl (by decide) (by simp [bm_ok1, bm_rf_cat, Value.category]) rfl ?_
              refine bv_iinc (j := 4) (v := (x4 + 1)) (ls1 := [(0, .ref x0), (1, .ref x1), (2, .int x2), (3, .int (x3 + 1)), (4, .int (x4 + 1)), (5, va_rf (M.2.2 a2 x4.toNatClampNeg))]) dX7_menOf_157 rfl rfl (by decide) (by simp [bm_ok1, bm_rf_cat, Value.category]) rfl ?_
              refine bv_goto (tgt := 13) dX7_menOf_160 (by decide) ?_
              refine bw_ls (ls1 := [(0, .ref x0), (1, .ref x1), (2, .int x2), (3, .int (x3 + 1)), (4, .int (x4 + 1))]) [0, 1, 2, 3, 4] rfl ?_
              exact ih _ _ _ _ h K0
            · replace h := bu_f h cc
              refine bv_iinc (j := 3) (v := (x3 + (-1))) (ls1 := [(0, .ref x0), (1, .ref x1), (2, .int x2), (3, .int (x3 + (-1))), (4, .int x4), (5, va_rf (M.2.2 a2 x4.toNatClampNeg))]) dX7_menOf_116 rfl rfl (by decide) (by simp [bm_ok1, bm_rf_cat, Value.category]) rfl ?_
              refine bv_aload_n dX7_menOf_119 0 rfl ?_
              obtain ⟨a16, e17, h⟩ := bu_bd h
              refine bw_getA (a := a16) hN q1 e17 dX7_menOf_120 fl_7_24 rfl ?_
              refine bv_iload_n dX7_menOf_123 3 rfl ?_
              refine bv_iconst (v := 1) dX7_menOf_124 (by decide) ?_
              refine bv_isub dX7_menOf_125 ?_
              refine bv_dup2 dX7_menOf_126 rfl rfl ?_
              obtain ⟨r18, h⟩ := bu_ia h
              refine bw_iald hN r18 dX7_menOf_127 ?_
              refine bv_aload_n dX7_menOf_128 0 rfl ?_
              refine bw_getA (a := a16) hN q1 e17 dX7_menOf_129 fl_7_24 rfl ?_
              refine bv_iload_n dX7_menOf_132 3 rfl ?_
              obtain ⟨r19, h⟩ := bu_ia h
              refine bw_iald hN r19 dX7_menOf_133 ?_
              refine bv_ior dX7_menOf_134 ?_
              refine bw_iast hN r18 dX7_menOf_135 ?_
              refine bv_goto (tgt := 157) dX7_menOf_136 (by decide) ?_
              refine bv_iinc (j := 4) (v := (x4 + 1)) (ls1 := [(0, .ref x0), (1, .ref x1), (2, .int x2), (3, .int (x3 + (-1))), (4, .int (x4 + 1)), (5, va_rf (M.2.2 a2 x4.toNatClampNeg))]) dX7_menOf_157 rfl rfl (by decide) (by simp [bm_ok1, bm_rf_cat, Value.category]) rfl ?_
              refine bv_goto (tgt := 13) dX7_menOf_160 (by decide) ?_
              refine bw_ls (ls1 := [(0, .ref x0), (1, .ref x1), (2, .int x2), (3, .int (x3 + (-1))), (4, .int (x4 + 1))]) [0, 1, 2, 3, 4] rfl ?_
              exact ih _ _ _ _ h K0
        · replace h := bu_t h cc
          refine bv_iload_n dX7_menOf_75 3 rfl ?_
          refine bv_iconst (v := 2) dX7_menOf_76 (by decide) ?_
          refine bv_icmp_lt (tgt := 103) dX7_menOf_77 (by decide) (fun cc => ?_) (fun cc => ?_)
          · replace h := bu_t h cc
            refine bv_aloadq (x := (M.2.2 a2 x4.toNatClampNeg)) dX7_menOf_103 5 rfl ?_
            refine bw_getW (j := 19) dX7_menOf_105 fw_7_44 rfl ?_
            refine bv_acmp_ne (x := (M.2.2 a2 x4.toNatClampNeg)) (y := (some (1000 + 19))) (tgt := 139) dX7_menOf_108 (by decide) (bm_wq_of w5) (bm_wq_of rfl) (fun cc => ?_) (fun cc => ?_)
            · replace h := bu_f h cc
              refine bv_aload_n dX7_menOf_139 0 rfl ?_
              obtain ⟨a20, e21, h⟩ := bu_bd h
              refine bw_getA (a := a20) hN q1 e21 dX7_menOf_140 fl_7_24 rfl ?_
              refine bv_iload_n dX7_menOf_143 3 rfl ?_
              refine bv_aload_n dX7_menOf_144 0 rfl ?_
              refine bv_aloadq (x := (M.2.2 a2 x4.toNatClampNeg)) dX7_menOf_145 5 rfl ?_
              refine bv_iload dX7_menOf_147 4 rfl ?_
              refine bv_aload_n dX7_menOf_149 1 rfl ?_
              obtain ⟨v22, p23, h⟩ := bu_bd h
              refine bw_callV (As := [va_rf (M.2.2 a2 x4.toNatClampNeg), .int x4, .ref x1]) hN q1 ⟨_, _, rfl⟩ dX7_menOf_150 mc_7_109 (c_X7_menOfPlain (d := d + 0) hN p23) rfl rfl (Nat.le_of_ble_eq_true rfl) ?_
              obtain ⟨r24, h⟩ := bu_ia h
              refine bw_iast hN r24 dX7_menOf_153 ?_
              refine bv_iinc (j := 3) (v := (x3 + 1)) (ls1 := [(0, .ref x0), (1, .ref x1), (2, .int x2), (3, .int (x3 + 1)), (4, .int x4), (5, va_rf (M.2.2 a2 x4.toNatClampNeg))]) dX7_menOf_154 rfl rfl (by decide) (by simp [bm_ok1, bm_rf_cat, Value.category]) rfl ?_
              refine bv_iinc (j := 4) (v := (x4 + 1)) (ls1 := [(0, .ref x0), (1, .ref x1), (2, .int x2), (3, .int (x3 + 1)), (4, .int (x4 + 1)), (5, va_rf (M.2.2 a2 x4.toNatClampNeg))]) dX7_menOf_157 rfl rfl (by decide) (by simp [bm_ok1, bm_rf_cat, Value.category]) rfl ?_
              refine bv_goto (tgt := 13) dX7_menOf_160 (by decide) ?_
              refine bw_ls (ls1 := [(0, .ref x0), (1, .ref x1), (2, .int x2), (3, .int (x3 + 1)), (4, .int (x4 + 1))]) [0, 1, 2, 3, 4] rfl ?_
              exact ih _ _ _ _ h K0
            · replace h := bu_t h cc
              refine bv_iload_n dX7_menOf_111 3 rfl ?_
              refine bv_iconst (v := 2) dX7_menOf_112 (by decide) ?_
              refine bv_icmp_lt (tgt := 139) dX7_menOf_113 (by decide) (fun cc => ?_) (fun cc => ?_)
              · replace h := bu_t h cc
                refine bv_aload_n dX7_menOf_139 0 rfl ?_
                obtain ⟨a25, e26, h⟩ := bu_bd h
                refine bw_getA (a := a25) hN q1 e26 dX7_menOf_140 fl_7_24 rfl ?_
                refine bv_iload_n dX7_menOf_143 3 rfl ?_
                refine bv_aload_n dX7_menOf_144 0 rfl ?_
                refine bv_aloadq (x := (M.2.2 a2 x4.toNatClampNeg)) dX7_menOf_145 5 rfl ?_
                refine bv_iload dX7_menOf_147 4 rfl ?_
                refine bv_aload_n dX7_menOf_149 1 rfl ?_
                obtain ⟨v27, p28, h⟩ := bu_bd h
                refine bw_callV (As := [va_rf (M.2.2 a2 x4.toNatClampNeg), .int x4, .ref x1]) hN q1 ⟨_, _, rfl⟩ dX7_menOf_150 mc_7_109 (c_X7_menOfPlain (d := d + 0) hN p28) rfl rfl (Nat.le_of_ble_eq_true rfl) ?_
                obtain ⟨r29, h⟩ := bu_ia h
                refine bw_iast hN r29 dX7_menOf_153 ?_
                refine bv_iinc (j := 3) (v := (x3 + 1)) (ls1 := [(0, .ref x0), (1, .ref x1), (2, .int x2), (3, .int (x3 + 1)), (4, .int x4), (5, va_rf (M.2.2 a2 x4.toNatClampNeg))]) dX7_menOf_154 rfl rfl (by decide) (by simp [bm_ok1, bm_rf_cat, Value.category]) rfl ?_
                refine bv_iinc (j := 4) (v := (x4 + 1)) (ls1 := [(0, .ref x0), (1, .ref x1), (2, .int x2), (3, .int (x3 + 1)), (4, .int (x4 + 1)), (5, va_rf (M.2.2 a2 x4.toNatClampNeg))]) dX7_menOf_157 rfl rfl (by decide) (by simp [bm_ok1, bm_rf_cat, Value.category]) rfl ?_
                refine bv_goto (tgt := 13) dX7_menOf_160 (by decide) ?_
                refine bw_ls (ls1 := [(0, .ref x0), (1, .ref x1), (2, .int x2), (3, .int (x3 + 1)), (4, .int (x4 + 1))]) [0, 1, 2, 3, 4] rfl ?_
                exact ih _ _ _ _ h K0
              · replace h := bu_f h cc
                refine bv_iinc (j := 3) (v := (x3 + (-1))) (ls1 := [(0, .ref x0), (1, .ref x1), (2, .int x2), (3, .int (x3 + (-1))), (4, .int x4), (5, va_rf (M.2.2 a2 x4.toNatClampNeg))]) dX7_menOf_116 rfl rfl (by decide) (by simp [bm_ok1, bm_rf_cat, Value.category]) rfl ?_
                refine bv_aload_n dX7_menOf_119 0 rfl ?_
                obtain ⟨a30, e31, h⟩ := bu_bd h
                refine bw_getA (a := a30) hN q1 e31 dX7_menOf_120 fl_7_24 rfl ?_
                refine bv_iload_n dX7_menOf_123 3 rfl ?_
                refine bv_iconst (v := 1) dX7_menOf_124 (by decide) ?_
                refine bv_isub dX7_menOf_125 ?_
                refine bv_dup2 dX7_menOf_126 rfl rfl ?_
                obtain ⟨r32, h⟩ := bu_ia h
                refine bw_iald hN r32 dX7_menOf_127 ?_
                refine bv_aload_n dX7_menOf_128 0 rfl ?_
                refine bw_getA (a := a30) hN q1 e31 dX7_menOf_129 fl_7_24 rfl ?_
                refine bv_iload_n dX7_menOf_132 3 rfl ?_
                obtain ⟨r33, h⟩ := bu_ia h
                refine bw_iald hN r33 dX7_menOf_133 ?_
                refine bv_ior dX7_menOf_134 ?_
                refine bw_iast hN r32 dX7_menOf_135 ?_
                refine bv_goto (tgt := 157) dX7_menOf_136 (by decide) ?_
                refine bv_iinc (j := 4) (v := (x4 + 1)) (ls1 := [(0, .ref x0), (1, .ref x1), (2, .int x2), (3, .int (x3 + (-1))), (4, .int (x4 + 1)), (5, va_rf (M.2.2 a2 x4.toNatClampNeg))]) dX7_menOf_157 rfl rfl (by decide) (by simp [bm_ok1, bm_rf_cat, Value.category]) rfl ?_
                refine bv_goto (tgt := 13) dX7_menOf_160 (by decide) ?_
                refine bw_ls (ls1 := [(0, .ref x0), (1, .ref x1), (2, .int x2), (3, .int (x3 + (-1))), (4, .int (x4 + 1))]) [0, 1, 2, 3, 4] rfl ?_
                exact ih _ _ _ _ h K0
          · replace h := bu_f h cc
            refine bv_iinc (j := 3) (v := (x3 + (-1))) (ls1 := [(0, .ref x0), (1, .ref x1), (2, .int x2), (3, .int (x3 + (-1))), (4, .int x4), (5, va_rf (M.2.2 a2 x4.toNatClampNeg))]) dX7_menOf_80 rfl rfl (by decide) (by simp [bm_ok1, bm_rf_cat, Value.category]) rfl ?_
            refine bv_aload_n dX7_menOf_83 0 rfl ?_
            obtain ⟨a34, e35, h⟩ := bu_bd h
            refine bw_getA (a := a34) hN q1 e35 dX7_menOf_84 fl_7_24 rfl ?_
            refine bv_iload_n dX7_menOf_87 3 rfl ?_
            refine bv_iconst (v := 1) dX7_menOf_88 (by decide) ?_
            refine bv_isub dX7_menOf_89 ?_
            refine bv_dup2 dX7_menOf_90 rfl rfl ?_
            obtain ⟨r36, h⟩ := bu_ia h
            refine bw_iald hN r36 dX7_menOf_91 ?_
            refine bv_aload_n dX7_menOf_92 0 rfl ?_
            refine bw_getA (a := a34) hN q1 e35 dX7_menOf_93 fl_7_24 rfl ?_
            refine bv_iload_n dX7_menOf_96 3 rfl ?_
            obtain ⟨r37, h⟩ := bu_ia h
            refine bw_iald hN r37 dX7_menOf_97 ?_
            refine bv_iand dX7_menOf_98 ?_
            refine bw_iast hN r36 dX7_menOf_99 ?_
            refine bv_goto (tgt := 157) dX7_menOf_100 (by decide) ?_
            refine bv_iinc (j := 4) (v := (x4 + 1)) (ls1 := [(0, .ref x0), (1, .ref x1), (2, .int x2), (3, .int (x3 + (-1))), (4, .int (x4 + 1)), (5, va_rf (M.2.2 a2 x4.toNatClampNeg))]) dX7_menOf_157 rfl rfl (by decide) (by simp [bm_ok1, bm_rf_cat, Value.category]) rfl ?_
            refine bv_goto (tgt := 13) dX7_menOf_160 (by decide) ?_
            refine bw_ls (ls1 := [(0, .ref x0), (1, .ref x1), (2, .int x2), (3, .int (x3 + (-1))), (4, .int (x4 + 1))]) [0, 1, 2, 3, 4] rfl ?_
            exact ih _ _ _ _ h K0
      · replace h := bu_t h cc
        refine bv_iload_n dX7_menOf_39 3 rfl ?_
        refine bv_iconst (v := 1) dX7_menOf_40 (by decide) ?_
        refine bv_icmp_lt (tgt := 67) dX7_menOf_41 (by decide) (fun cc => ?_) (fun cc => ?_)
        · replace h := bu_t h cc
          refine bv_aloadq (x := (M.2.2 a2 x4.toNatClampNeg)) dX7_menOf_67 5 rfl ?_
          refine bw_getW (j := 20) dX7_menOf_69 fw_7_57 rfl ?_
          refine bv_acmp_ne (x := (M.2.2 a2 x4.toNatClampNeg)) (y := (some (1000 + 20))) (tgt := 103) dX7_menOf_72 (by decide) (bm_wq_of w5) (bm_wq_of rfl) (fun cc => ?_) (fun cc => ?_)
          · replace h := bu_f h cc
            refine bv_aloadq (x := (M.2.2 a2 x4.toNatClampNeg)) dX7_menOf_103 5 rfl ?_
            refine bw_getW (j := 19) dX7_menOf_105 fw_7_44 rfl ?_
            refine bv_acmp_ne (x := (M.2.2 a2 x4.toNatClampNeg)) (y := (some (1000 + 19))) (tgt := 139) dX7_menOf_108 (by decide) (bm_wq_of w5) (bm_wq_of rfl) (fun cc => ?_) (fun cc => ?_)
            · replace h := bu_f h cc
              refine bv_aload_n dX7_menOf_139 0 rfl ?_
              obtain ⟨a38, e39, h⟩ := bu_bd h
              refine bw_getA (a := a38) hN q1 e39 dX7_menOf_140 fl_7_24 rfl ?_
              refine bv_iload_n dX7_menOf_143 3 rfl ?_
              refine bv_aload_n dX7_menOf_144 0 rfl ?_
              refine bv_aloadq (x := (M.2.2 a2 x4.toNatClampNeg)) dX7_menOf_145 5 rfl ?_
              refine bv_iload dX7_menOf_147 4 rfl ?_
              refine bv_aload_n dX7_menOf_149 1 rfl ?_
              obtain ⟨v40, p41, h⟩ := bu_bd h
              refine bw_callV (As := [va_rf (M.2.2 a2 x4.toNatClampNeg), .int x4, .ref x1]) hN q1 ⟨_, _, rfl⟩ dX7_menOf_150 mc_7_109 (c_X7_menOfPlain (d := d + 0) hN p41) rfl rfl (Nat.le_of_ble_eq_true rfl) ?_
              obtain ⟨r42, h⟩ := bu_ia h
              refine bw_iast hN r42 dX7_menOf_153 ?_
              refine bv_iinc (j := 3) (v := (x3 + 1)) (ls1 := [(0, .ref x0), (1, .ref x1), (2, .int x2), (3, .int (x3 + 1)), (4, .int x4), (5, va_rf (M.2.2 a2 x4.toNatClampNeg))]) dX7_menOf_154 rfl rfl (by decide) (by simp [bm_ok1, bm_rf_cat, Value.category]) rfl ?_
              refine bv_iinc (j := 4) (v := (x4 + 1)) (ls1 := [(0, .ref x0), (1, .ref x1), (2, .int x2), (3, .int (x3 + 1)), (4, .int (x4 + 1)), (5, va_rf (M.2.2 a2 x4.toNatClampNeg))]) dX7_menOf_157 rfl rfl (by decide) (by simp [bm_ok1, bm_rf_cat, Value.category]) rfl ?_
              refine bv_goto (tgt := 13) dX7_menOf_160 (by decide) ?_
              refine bw_ls (ls1 := [(0, .ref x0), (1, .ref x1), (2, .int x2), (3, .int (x3 + 1)), (4, .int (x4 + 1))]) [0, 1, 2, 3, 4] rfl ?_
              exact ih _ _ _ _ h K0
            · replace h := bu_t h cc
              refine bv_iload_n dX7_menOf_111 3 rfl ?_
              refine bv_iconst (v := 2) dX7_menOf_112 (by decide) ?_
              refine bv_icmp_lt (tgt := 139) dX7_menOf_113 (by decide) (fun cc => ?_) (fun cc => ?_)
              · replace h := bu_t h cc
                refine bv_aload_n dX7_menOf_139 0 rfl ?_
                obtain ⟨a43, e44, h⟩ := bu_bd h
                refine bw_getA (a := a43) hN q1 e44 dX7_menOf_140 fl_7_24 rfl ?_
                refine bv_iload_n dX7_menOf_143 3 rfl ?_
                refine bv_aload_n dX7_menOf_144 0 rfl ?_
                refine bv_aloadq (x := (M.2.2 a2 x4.toNatClampNeg)) dX7_menOf_145 5 rfl ?_
                refine bv_iload dX7_menOf_147 4 rfl ?_
                refine bv_aload_n dX7_menOf_149 1 rfl ?_
                obtain ⟨v45, p46, h⟩ := bu_bd h
                refine bw_callV (As := [va_rf (M.2.2 a2 x4.toNatClampNeg), .int x4, .ref x1]) hN q1 ⟨_, _, rfl⟩ dX7_menOf_150 mc_7_109 (c_X7_menOfPlain (d := d + 0) hN p46) rfl rfl (Nat.le_of_ble_eq_true rfl) ?_
                obtain ⟨r47, h⟩ := bu_ia h
                refine bw_iast hN r47 dX7_menOf_153 ?_
                refine bv_iinc (j := 3) (v := (x3 + 1)) (ls1 := [(0, .ref x0), (1, .ref x1), (2, .int x2), (3, .int (x3 + 1)), (4, .int x4), (5, va_rf (M.2.2 a2 x4.toNatClampNeg))]) dX7_menOf_154 rfl rfl (by decide) (by simp [bm_ok1, bm_rf_cat, Value.category]) rfl ?_
                refine bv_iinc (j := 4) (v := (x4 + 1)) (ls1 := [(0, .ref x0), (1, .ref x1), (2, .int x2), (3, .int (x3 + 1)), (4, .int (x4 + 1)), (5, va_rf (M.2.2 a2 x4.toNatClampNeg))]) dX7_menOf_157 rfl rfl (by decide) (by simp [bm_ok1, bm_rf_cat, Value.category]) rfl ?_
                refine bv_goto (tgt := 13) dX7_menOf_160 (by decide) ?_
                refine bw_ls (ls1 := [(0, .ref x0), (1, .ref x1), (2, .int x2), (3, .int (x3 + 1)), (4, .int (x4 + 1))]) [0, 1, 2, 3, 4] rfl ?_
                exact ih _ _ _ _ h K0
              · replace h := bu_f h cc
                refine bv_iinc (j := 3) (v := (x3 + (-1))) (ls1 := [(0, .ref x0), (1, .ref x1), (2, .int x2), (3, .int (x3 + (-1))), (4, .int x4), (5, va_rf (M.2.2 a2 x4.toNatClampNeg))]) dX7_menOf_116 rfl rfl (by decide) (by simp [bm_ok1, bm_rf_cat, Value.category]) rfl ?_
                refine bv_aload_n dX7_menOf_119 0 rfl ?_
                obtain ⟨a48, e49, h⟩ := bu_bd h
                refine bw_getA (a := a48) hN q1 e49 dX7_menOf_120 fl_7_24 rfl ?_
                refine bv_iload_n dX7_menOf_123 3 rfl ?_
                refine bv_iconst (v := 1) dX7_menOf_124 (by decide) ?_
                refine bv_isub dX7_menOf_125 ?_
                refine bv_dup2 dX7_menOf_126 rfl rfl ?_
                obtain ⟨r50, h⟩ := bu_ia h
                refine bw_iald hN r50 dX7_menOf_127 ?_
                refine bv_aload_n dX7_menOf_128 0 rfl ?_
                refine bw_getA (a := a48) hN q1 e49 dX7_menOf_129 fl_7_24 rfl ?_
                refine bv_iload_n dX7_menOf_132 3 rfl ?_
                obtain ⟨r51, h⟩ := bu_ia h
                refine bw_iald hN r51 dX7_menOf_133 ?_
                refine bv_ior dX7_menOf_134 ?_
                refine bw_iast hN r50 dX7_menOf_135 ?_
                refine bv_goto (tgt := 157) dX7_menOf_136 (by decide) ?_
                refine bv_iinc (j := 4) (v := (x4 + 1)) (ls1 := [(0, .ref x0), (1, .ref x1), (2, .int x2), (3, .int (x3 + (-1))), (4, .int (x4 + 1)), (5, va_rf (M.2.2 a2 x4.toNatClampNeg))]) dX7_menOf_157 rfl rfl (by decide) (by simp [bm_ok1, bm_rf_cat, Value.category]) rfl ?_
                refine bv_goto (tgt := 13) dX7_menOf_160 (by decide) ?_
                refine bw_ls (ls1 := [(0, .ref x0), (1, .ref x1), (2, .int x2), (3, .int (x3 + (-1))), (4, .int (x4 + 1))]) [0, 1, 2, 3, 4] rfl ?_
                exact ih _ _ _ _ h K0
          · replace h := bu_t h cc
            refine bv_iload_n dX7_menOf_75 3 rfl ?_
            refine bv_iconst (v := 2) dX7_menOf_76 (by decide) ?_
            refine bv_icmp_lt (tgt := 103) dX7_menOf_77 (by decide) (fun cc => ?_) (fun cc => ?_)
            · replace h := bu_t h cc
              refine bv_aloadq (x := (M.2.2 a2 x4.toNatClampNeg)) dX7_menOf_103 5 rfl ?_
              refine bw_getW (j := 19) dX7_menOf_105 fw_7_44 rfl ?_
              refine bv_acmp_ne (x := (M.2.2 a2 x4.toNatClampNeg)) (y := (some (1000 + 19))) (tgt := 139) dX7_menOf_108 (by decide) (bm_wq_of w5) (bm_wq_of rfl) (fun cc => ?_) (fun cc => ?_)
              · replace h := bu_f h cc
                refine bv_aload_n dX7_menOf_139 0 rfl ?_
                obtain ⟨a52, e53, h⟩ := bu_bd h
                refine bw_getA (a := a52) hN q1 e53 dX7_menOf_140 fl_7_24 rfl ?_
                refine bv_iload_n dX7_menOf_143 3 rfl ?_
                refine bv_aload_n dX7_menOf_144 0 rfl ?_
                refine bv_aloadq (x := (M.2.2 a2 x4.toNatClampNeg)) dX7_menOf_145 5 rfl ?_
                refine bv_iload dX7_menOf_147 4 rfl ?_
                refine bv_aload_n dX7_menOf_149 1 rfl ?_
                obtain ⟨v54, p55, h⟩ := bu_bd h
                refine bw_callV (As := [va_rf (M.2.2 a2 x4.toNatClampNeg), .int x4, .ref x1]) hN q1 ⟨_, _, rfl⟩ dX7_menOf_150 mc_7_109 (c_X7_menOfPlain (d := d + 0) hN p55) rfl rfl (Nat.le_of_ble_eq_true rfl) ?_
                obtain ⟨r56, h⟩ := bu_ia h
                refine bw_iast hN r56 dX7_menOf_153 ?_
                refine bv_iinc (j := 3) (v := (x3 + 1)) (ls1 := [(0, .ref x0), (1, .ref x1), (2, .int x2), (3, .int (x3 + 1)), (4, .int x4), (5, va_rf (M.2.2 a2 x4.toNatClampNeg))]) dX7_menOf_154 rfl rfl (by decide) (by simp [bm_ok1, bm_rf_cat, Value.category]) rfl ?_
                refine bv_iinc (j := 4) (v := (x4 + 1)) (ls1 := [(0, .ref x0), (1, .ref x1), (2, .int x2), (3, .int (x3 + 1)), (4, .int (x4 + 1)), (5, va_rf (M.2.2 a2 x4.toNatClampNeg))]) dX7_menOf_157 rfl rfl (by decide) (by simp [bm_ok1, bm_rf_cat, Value.category]) rfl ?_
                refine bv_goto (tgt := 13) dX7_menOf_160 (by decide) ?_
                refine bw_ls (ls1 := [(0, .ref x0), (1, .ref x1), (2, .int x2), (3, .int (x3 + 1)), (4, .int (x4 + 1))]) [0, 1, 2, 3, 4] rfl ?_
                exact ih _ _ _ _ h K0
              · replace h := bu_t h cc
                refine bv_iload_n dX7_menOf_111 3 rfl ?_
                refine bv_iconst (v := 2) dX7_menOf_112 (by decide) ?_
                refine bv_icmp_lt (tgt := 139) dX7_menOf_113 (by decide) (fun cc => ?_) (fun cc => ?_)
                · replace h := bu_t h cc
                  refine bv_aload_n dX7_menOf_139 0 rfl ?_
                  obtain ⟨a57, e58, h⟩ := bu_bd h
                  refine bw_getA (a := a57) hN q1 e58 dX7_menOf_140 fl_7_24 rfl ?_
                  refine bv_iload_n dX7_menOf_143 3 rfl ?_
                  refine bv_aload_n dX7_menOf_144 0 rfl ?_
                  refine bv_aloadq (x := (M.2.2 a2 x4.toNatClampNeg)) dX7_menOf_145 5 rfl ?_
                  refine bv_iload dX7_menOf_147 4 rfl ?_
                  refine bv_aload_n dX7_menOf_149 1 rfl ?_
                  obtain ⟨v59, p60, h⟩ := bu_bd h
                  refine bw_callV (As := [va_rf (M.2.2 a2 x4.toNatClampNeg), .int x4, .ref x1]) hN q1 ⟨_, _, rfl⟩ dX7_menOf_150 mc_7_109 (c_X7_menOfPlain (d := d + 0) hN p60) rfl rfl (Nat.le_of_ble_eq_true rfl) ?_
                  obtain ⟨r61, h⟩ := bu_ia h
                  refine bw_iast hN r61 dX7_menOf_153 ?_
                  refine bv_iinc (j := 3) (v := (x3 + 1)) (ls1 := [(0, .ref x0), (1, .ref x1), (2, .int x2), (3, .int (x3 + 1)), (4, .int x4), (5, va_rf (M.2.2 a2 x4.toNatClampNeg))]) dX7_menOf_154 rfl rfl (by decide) (by simp [bm_ok1, bm_rf_cat, Value.category]) rfl ?_
                  refine bv_iinc (j := 4) (v := (x4 + 1)) (ls1 := [(0, .ref x0), (1, .ref x1), (2, .int x2), (3, .int (x3 + 1)), (4, .int (x4 + 1)), (5, va_rf (M.2.2 a2 x4.toNatClampNeg))]) dX7_menOf_157 rfl rfl (by decide) (by simp [bm_ok1, bm_rf_cat, Value.category]) rfl ?_
                  refine bv_goto (tgt := 13) dX7_menOf_160 (by decide) ?_
                  refine bw_ls (ls1 := [(0, .ref x0), (1, .ref x1), (2, .int x2), (3, .int (x3 + 1)), (4, .int (x4 + 1))]) [0, 1, 2, 3, 4] rfl ?_
                  exact ih _ _ _ _ h K0
                · replace h := bu_f h cc
                  refine bv_iinc (j := 3) (v := (x3 + (-1))) (ls1 := [(0, .ref x0), (1, .ref x1), (2, .int x2), (3, .int (x3 + (-1))), (4, .int x4), (5, va_rf (M.2.2 a2 x4.toNatClampNeg))]) dX7_menOf_116 rfl rfl (by decide) (by simp [bm_ok1, bm_rf_cat, Value.category]) rfl ?_
                  refine bv_aload_n dX7_menOf_119 0 rfl ?_
                  obtain ⟨a62, e63, h⟩ := bu_bd h
                  refine bw_getA (a := a62) hN q1 e63 dX7_menOf_120 fl_7_24 rfl ?_
                  refine bv_iload_n dX7_menOf_123 3 rfl ?_
                  refine bv_iconst (v := 1) dX7_menOf_124 (by decide) ?_
                  refine bv_isub dX7_menOf_125 ?_
                  refine bv_dup2 dX7_menOf_126 rfl rfl ?_
                  obtain ⟨r64, h⟩ := bu_ia h
                  refine bw_iald hN r64 dX7_menOf_127 ?_
                  refine bv_aload_n dX7_menOf_128 0 rfl ?_
                  refine bw_getA (a := a62) hN q1 e63 dX7_menOf_129 fl_7_24 rfl ?_
                  refine bv_iload_n dX7_menOf_132 3 rfl ?_
                  obtain ⟨r65, h⟩ := bu_ia h
                  refine bw_iald hN r65 dX7_menOf_133 ?_
                  refine bv_ior dX7_menOf_134 ?_
                  refine bw_iast hN r64 dX7_menOf_135 ?_
                  refine bv_goto (tgt := 157) dX7_menOf_136 (by decide) ?_
                  refine bv_iinc (j := 4) (v := (x4 + 1)) (ls1 := [(0, .ref x0), (1, .ref x1), (2, .int x2), (3, .int (x3 + (-1))), (4, .int (x4 + 1)), (5, va_rf (M.2.2 a2 x4.toNatClampNeg))]) dX7_menOf_157 rfl rfl (by decide) (by simp [bm_ok1, bm_rf_cat, Value.category]) rfl ?_
                  refine bv_goto (tgt := 13) dX7_menOf_160 (by decide) ?_
                  refine bw_ls (ls1 := [(0, .ref x0), (1, .ref x1), (2, .int x2), (3, .int (x3 + (-1))), (4, .int (x4 + 1))]) [0, 1, 2, 3, 4] rfl ?_
                  exact ih _ _ _ _ h K0
            · replace h := bu_f h cc
              refine bv_iinc (j := 3) (v := (x3 + (-1))) (ls1 := [(0, .ref x0), (1, .ref x1), (2, .int x2), (3, .int (x3 + (-1))), (4, .int x4), (5, va_rf (M.2.2 a2 x4.toNatClampNeg))]) dX7_menOf_80 rfl rfl (by decide) (by simp [bm_ok1, bm_rf_cat, Value.category]) rfl ?_
              refine bv_aload_n dX7_menOf_83 0 rfl ?_
              obtain ⟨a66, e67, h⟩ := bu_bd h
              refine bw_getA (a := a66) hN q1 e67 dX7_menOf_84 fl_7_24 rfl ?_
              refine bv_iload_n dX7_menOf_87 3 rfl ?_
              refine bv_iconst (v := 1) dX7_menOf_88 (by decide) ?_
              refine bv_isub dX7_menOf_89 ?_
              refine bv_dup2 dX7_menOf_90 rfl rfl ?_
              obtain ⟨r68, h⟩ := bu_ia h
              refine bw_iald hN r68 dX7_menOf_91 ?_
              refine bv_aload_n dX7_menOf_92 0 rfl ?_
              refine bw_getA (a := a66) hN q1 e67 dX7_menOf_93 fl_7_24 rfl ?_
              refine bv_iload_n dX7_menOf_96 3 rfl ?_
              obtain ⟨r69, h⟩ := bu_ia h
              refine bw_iald hN r69 dX7_menOf_97 ?_
              refine bv_iand dX7_menOf_98 ?_
              refine bw_iast hN r68 dX7_menOf_99 ?_
              refine bv_goto (tgt := 157) dX7_menOf_100 (by decide) ?_
              refine bv_iinc (j := 4) (v := (x4 + 1)) (ls1 := [(0, .ref x0), (1, .ref x1), (2, .int x2), (3, .int (x3 + (-1))), (4, .int (x4 + 1)), (5, va_rf (M.2.2 a2 x4.toNatClampNeg))]) dX7_menOf_157 rfl rfl (by decide) (by simp [bm_ok1, bm_rf_cat, Value.category]) rfl ?_
              refine bv_goto (tgt := 13) dX7_menOf_160 (by decide) ?_
              refine bw_ls (ls1 := [(0, .ref x0), (1, .ref x1), (2, .int x2), (3, .int (x3 + (-1))), (4, .int (x4 + 1))]) [0, 1, 2, 3, 4] rfl ?_
              exact ih _ _ _ _ h K0
        · replace h := bu_f h cc
          refine bv_aload_n dX7_menOf_44 0 rfl ?_
          obtain ⟨a70, e71, h⟩ := bu_bd h
          refine bw_getA (a := a70) hN q1 e71 dX7_menOf_45 fl_7_24 rfl ?_
          refine bv_iload_n dX7_menOf_48 3 rfl ?_
          refine bv_iconst (v := 1) dX7_menOf_49 (by decide) ?_
          refine bv_isub dX7_menOf_50 ?_
          refine bv_iload_n dX7_menOf_51 2 rfl ?_
          refine bv_aload_n dX7_menOf_52 0 rfl ?_
          refine bw_getA (a := a70) hN q1 e71 dX7_menOf_53 fl_7_24 rfl ?_
          refine bv_iload_n dX7_menOf_56 3 rfl ?_
          refine bv_iconst (v := 1) dX7_menOf_57 (by decide) ?_
          refine bv_isub dX7_menOf_58 ?_
          obtain ⟨r72, h⟩ := bu_ia h
          refine bw_iald hN r72 dX7_menOf_59 ?_
          refine bv_iconst (v := (-1)) dX7_menOf_60 (by decide) ?_
          refine bv_ixor dX7_menOf_61 ?_
          refine bv_iand dX7_menOf_62 ?_
          refine bw_iast hN r72 dX7_menOf_63 ?_
          refine bv_goto (tgt := 157) dX7_menOf_64 (by decide) ?_
          refine bv_iinc (j := 4) (v := (x4 + 1)) (ls1 := [(0, .ref x0), (1, .ref x1), (2, .int x2), (3, .int x3), (4, .int (x4 + 1)), (5, va_rf (M.2.2 a2 x4.toNatClampNeg))]) dX7_menOf_157 rfl rfl (by decide) (by simp [bm_ok1, bm_rf_cat, Value.category]) rfl ?_
          refine bv_goto (tgt := 13) dX7_menOf_160 (by decide) ?_
          refine bw_ls (ls1 := [(0, .ref x0), (1, .ref x1), (2, .int x2), (3, .int x3), (4, .int (x4 + 1))]) [0, 1, 2, 3, 4] rfl ?_
          exact ih _ _ _ _ h K0
def f_X7_menOf (M : bm_M) (x0 : Nat) (x1 : Nat) : Option (Int32 × bm_M) := (if bm_io x1 8 then ((M.2.2 x1 0).bind fun a2 => (if bm_io a2 0 then ((f_X0_allMen M a2).bind fun v5 => ((f_X7_menOf_l13 x0 x1 v5 1000 0 0 M).bind fun y9 => (if y9.1 ≤ 0 then some (0, y9.2) else (if bm_io x0 7 then ((y9.2.2.2 x0 3).bind fun a11 => (if bm_ia a11 0 0 = true then some ((y9.2.1 a11 (0 : Int32).toNatClampNeg), y9.2) else none)) else none)))) else none)) else none)
set_option maxHeartbeats 4000000 in
set_option maxRecDepth 100000 in
theorem c_X7_menOf {L : bm_L} {d n : Nat} {M : bm_M} {x0 : Nat} {x1 : Nat} {v : Int32 × bm_M} (hN : 181 ≤ n) (h : f_X7_menOf M x0 x1 = some v) : bm_C L m_X7_menOf (d + 6) n n [.ref x0, .ref x1] M (fun r M' => r = some (.int v.1) ∧ M' = v.2) := by
  refine bm_C.ofV (by decide) (Nat.le_of_ble_eq_true rfl) ?_
  show bm_V L m_X7_menOf (d + 6) n n n 0 [(0, .ref x0), (1, .ref x1)] [] M _
  unfold f_X7_menOf at h
  refine bv_aload_n dX7_menOf_0 1 rfl ?_
  obtain ⟨q1, h⟩ := bu_io h
  obtain ⟨a2, e3, h⟩ := bu_bd h
  refine bw_getA (a := a2) hN q1 e3 dX7_menOf_1 fl_7_97 rfl ?_
  obtain ⟨q4, h⟩ := bu_io h
  obtain ⟨v5, p6, h⟩ := bu_bd h
  refine bw_callV (As := []) hN q4 ⟨_, _, rfl⟩ dX7_menOf_4 mc_7_103 (c_X0_allMen (d := d + 5) hN p6) rfl rfl (by decide) ?_
  refine bv_istore_n (ls1 := [(0, .ref x0), (1, .ref x1), (2, .int v5)]) dX7_menOf_7 (by decide) rfl rfl ?_
  refine bv_iconst (v := 0) dX7_menOf_8 (by decide) ?_
  refine bv_istore_n (ls1 := [(0, .ref x0), (1, .ref x1), (2, .int v5), (3, .int 0)]) dX7_menOf_9 (by decide) rfl rfl ?_
  refine bv_iconst (v := 0) dX7_menOf_10 (by decide) ?_
  refine bv_istore (ls1 := [(0, .ref x0), (1, .ref x1), (2, .int v5), (3, .int 0), (4, .int 0)]) dX7_menOf_11 (by decide) rfl rfl ?_
  obtain ⟨r7, p8, h⟩ := bu_bd h
  refine v_X7_menOf_l13 hN q1 1000 _ _ _ _ p8 (fun y9 hy => ?_)
  · subst hy
    refine bv_iload_n dX7_menOf_163 1 rfl ?_
    refine bv_if_le (tgt := 176) dX7_menOf_164 (by decide) (fun cc => ?_) (fun cc => ?_)
    · replace h := bu_t h cc
      refine bv_iconst (v := 0) dX7_menOf_176 (by decide) ?_
      obtain rfl := Option.some.inj h
      exact bv_iret (x := 0) dX7_menOf_177 rfl ⟨rfl, rfl⟩
    · replace h := bu_f h cc
      refine bv_aload_n dX7_menOf_167 0 rfl ?_
      obtain ⟨q10, h⟩ := bu_io h
      obtain ⟨a11, e12, h⟩ := bu_bd h
      refine bw_getA (a := a11) hN q10 e12 dX7_menOf_168 fl_7_24 rfl ?_
      refine bv_iconst (v := 0) dX7_menOf_171 (by decide) ?_
      obtain ⟨r13, h⟩ := bu_ia h
      refine bw_iald hN r13 dX7_menOf_172 ?_
      refine bv_goto (tgt := 177) dX7_menOf_173 (by decide) ?_
      obtain rfl := Option.some.inj h
      exact bv_iret (x := (y9.2.1 a11 (0 : Int32).toNatClampNeg)) dX7_menOf_177 rfl ⟨rfl, rfl⟩
