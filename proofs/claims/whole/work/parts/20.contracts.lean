def f_X11_bit (x0 : Int32) (x1 : Int32) : Int32 := ((bm_ishr x0 x1) &&& 1)
set_option maxHeartbeats 4000000 in
set_option maxRecDepth 100000 in
theorem c_X11_bit {L : bm_L} {d n : Nat} {M : bm_M} {x0 : Int32} {x1 : Int32} {v : Int32} (hN : 181 ≤ n) (h : f_X11_bit x0 x1 = v) : bm_C L m_X11_bit d n n [.int x0, .int x1] M (fun r M' => r = some (.int v) ∧ M' = M) := by
  refine bm_C.ofV (by decide) (Nat.le_of_ble_eq_true rfl) ?_
  show bm_V L m_X11_bit d n n n 0 [(0, .int x0), (1, .int x1)] [] M _
  unfold f_X11_bit at h
  refine bv_iload_n dX11_bit_0 0 rfl ?_
  refine bv_iload_n dX11_bit_1 1 rfl ?_
  refine bv_ishr dX11_bit_2 ?_
  refine bv_iconst (v := 1) dX11_bit_3 (by decide) ?_
  refine bv_iand dX11_bit_4 ?_
  subst h
  exact bv_iret (x := ((bm_ishr x0 x1) &&& 1)) dX11_bit_5 rfl ⟨rfl, rfl⟩
def f_X8_browOf (M : bm_M) (x0 : Nat) (x1 : Int32) : Option (Int32) := (if bm_io x0 8 then ((M.2.2 x0 0).bind fun a2 => (if bm_io a2 0 then ((M.2.2 a2 3).bind fun a5 => (if bm_ia a5 0 x1 = true then some (bm_min 9 ((M.1 a5 x1.toNatClampNeg) + (3 * (f_X11_bit (M.1 x0 8) x1)))) else none)) else none)) else none)
set_option maxHeartbeats 4000000 in
set_option maxRecDepth 100000 in
theorem c_X8_browOf {L : bm_L} {d n : Nat} {M : bm_M} {x0 : Nat} {x1 : Int32} {v : Int32} (hN : 181 ≤ n) (h : f_X8_browOf M x0 x1 = some v) : bm_C L m_X8_browOf (d + 1) n n [.ref x0, .int x1] M (fun r M' => r = some (.int v) ∧ M' = M) := by
  refine bm_C.ofV (by decide) (Nat.le_of_ble_eq_true rfl) ?_
  show bm_V L m_X8_browOf (d + 1) n n n 0 [(0, .ref x0), (1, .int x1)] [] M _
  unfold f_X8_browOf at h
  refine bv_bipush (v := 9) dX8_browOf_0 (by decide) ?_
  refine bv_aload_n dX8_browOf_2 0 rfl ?_
  obtain ⟨q1, h⟩ := bu_io h
  obtain ⟨a2, e3, h⟩ := bu_bd h
  refine bw_getA (a := a2) hN q1 e3 dX8_browOf_3 fl_8_30 rfl ?_
  obtain ⟨q4, h⟩ := bu_io h
  obtain ⟨a5, e6, h⟩ := bu_bd h
  refine bw_getA (a := a5) hN q4 e6 dX8_browOf_6 fl_8_67 rfl ?_
  refine bv_iload_n dX8_browOf_9 1 rfl ?_
  obtain ⟨r7, h⟩ := bu_ia h
  refine bw_iald hN r7 dX8_browOf_10 ?_
  refine bv_iconst (v := 3) dX8_browOf_11 (by decide) ?_
  refine bv_aload_n dX8_browOf_12 0 rfl ?_
  refine bw_getI hN q1 dX8_browOf_13 fl_8_49 rfl ?_
  refine bv_iload_n dX8_browOf_16 1 rfl ?_
  refine bw_callSN (As := [.int (M.1 x0 8), .int x1]) dX8_browOf_17 mc_8_70 (c_X11_bit (d := d + 0) hN rfl) rfl rfl (Nat.le_of_ble_eq_true rfl) ?_
  refine bv_imul dX8_browOf_20 ?_
  refine bv_iadd dX8_browOf_21 ?_
  refine bv_mmin dX8_browOf_22 mw_8_74 (by decide) (Nat.le_refl n) ?_
  obtain rfl := Option.some.inj h
  exact bv_iret (x := (bm_min 9 ((M.1 a5 x1.toNatClampNeg) + (3 * (f_X11_bit (M.1 x0 8) x1))))) dX8_browOf_25 rfl ⟨rfl, rfl⟩
def f_J6_compare_7cf53 (x0 : Int32) (x1 : Int32) : Int32 := (if x1 ≤ x0 then (if x0 = x1 then 0 else 1) else (-1))
set_option maxHeartbeats 4000000 in
set_option maxRecDepth 100000 in
theorem c_J6_compare_7cf53 {L : bm_L} {d n : Nat} {M : bm_M} {x0 : Int32} {x1 : Int32} {v : Int32} (hN : 181 ≤ n) (h : f_J6_compare_7cf53 x0 x1 = v) : bm_C L m_J6_compare_7cf53 d n n [.int x0, .int x1] M (fun r M' => r = some (.int v) ∧ M' = M) := by
  refine bm_C.ofV (by decide) (Nat.le_of_ble_eq_true rfl) ?_
  show bm_V L m_J6_compare_7cf53 d n n n 0 [(0, .int x0), (1, .int x1)] [] M _
  unfold f_J6_compare_7cf53 at h
  refine bv_iload_n dJ6_compare_7cf53_0 0 rfl ?_
  refine bv_iload_n dJ6_compare_7cf53_1 1 rfl ?_
  refine bv_icmp_ge (tgt := 9) dJ6_compare_7cf53_2 (by decide) (fun cc => ?_) (fun cc => ?_)
  · replace h := bu_t h cc
    refine bv_iload_n dJ6_compare_7cf53_9 0 rfl ?_
    refine bv_iload_n dJ6_compare_7cf53_10 1 rfl ?_
    refine bv_icmp_ne (tgt := 18) dJ6_compare_7cf53_11 (by decide) (fun cc => ?_) (fun cc => ?_)
    · replace h := bu_f h cc
      refine bv_iconst (v := 1) dJ6_compare_7cf53_18 (by decide) ?_
      subst h
      exact bv_iret (x := 1) dJ6_compare_7cf53_19 rfl ⟨rfl, rfl⟩
    · replace h := bu_t h cc
      refine bv_iconst (v := 0) dJ6_compare_7cf53_14 (by decide) ?_
      refine bv_goto (tgt := 19) dJ6_compare_7cf53_15 (by decide) ?_
      subst h
      exact bv_iret (x := 0) dJ6_compare_7cf53_19 rfl ⟨rfl, rfl⟩
  · replace h := bu_f h cc
    refine bv_iconst (v := (-1)) dJ6_compare_7cf53_5 (by decide) ?_
    refine bv_goto (tgt := 19) dJ6_compare_7cf53_6 (by decide) ?_
    subst h
    exact bv_iret (x := (-1)) dJ6_compare_7cf53_19 rfl ⟨rfl, rfl⟩
def f_X11_far (x0 : Int32) (x1 : Int32) (x2 : Int32) (x3 : Int32) : Int32 := (if x2 ≤ x0 then (if x3 ≤ x1 then ((x0 - x2) + (x1 - x3)) else ((x0 - x2) + (x3 - x1))) else (if x3 ≤ x1 then ((x2 - x0) + (x1 - x3)) else ((x2 - x0) + (x3 - x1))))
set_option maxHeartbeats 4000000 in
set_option maxRecDepth 100000 in
theorem c_X11_far {L : bm_L} {d n : Nat} {M : bm_M} {x0 : Int32} {x1 : Int32} {x2 : Int32} {x3 : Int32} {v : Int32} (hN : 181 ≤ n) (h : f_X11_far x0 x1 x2 x3 = v) : bm_C L m_X11_far d n n [.int x0, .int x1, .int x2, .int x3] M (fun r M' => r = some (.int v) ∧ M' = M) := by
  refine bm_C.ofV (by decide) (Nat.le_of_ble_eq_true rfl) ?_
  show bm_V L m_X11_far d n n n 0 [(0, .int x0), (1, .int x1), (2, .int x2), (3, .int x3)] [] M _
  unfold f_X11_far at h
  refine bv_iload_n dX11_far_0 0 rfl ?_
  refine bv_iload_n dX11_far_1 2 rfl ?_
  refine bv_icmp_ge (tgt := 11) dX11_far_2 (by decide) (fun cc => ?_) (fun cc => ?_)
  · replace h := bu_t h cc
    refine bv_iload_n dX11_far_11 0 rfl ?_
    refine bv_iload_n dX11_far_12 2 rfl ?_
    refine bv_isub dX11_far_13 ?_
    refine bv_istore (ls1 := [(0, .int x0), (1, .int x1), (2, .int x2), (3, .int x3), (4, .int (x0 - x2))]) dX11_far_14 (by decide) rfl rfl ?_
    refine bv_iload_n dX11_far_16 1 rfl ?_
    refine bv_iload_n dX11_far_17 3 rfl ?_
    refine bv_icmp_ge (tgt := 27) dX11_far_18 (by decide) (fun cc => ?_) (fun cc => ?_)
    · replace h := bu_t h cc
      refine bv_iload_n dX11_far_27 1 rfl ?_
      refine bv_iload_n dX11_far_28 3 rfl ?_
      refine bv_isub dX11_far_29 ?_
      refine bv_istore (ls1 := [(0, .int x0), (1, .int x1), (2, .int x2), (3, .int x3), (4, .int (x0 - x2)), (5, .int (x1 - x3))]) dX11_far_30 (by decide) rfl rfl ?_
      refine bv_iload dX11_far_32 4 rfl ?_
      refine bv_iload dX11_far_34 5 rfl ?_
      refine bv_iadd dX11_far_36 ?_
      subst h
      exact bv_iret (x := ((x0 - x2) + (x1 - x3))) dX11_far_37 rfl ⟨rfl, rfl⟩
    · replace h := bu_f h cc
      refine bv_iload_n dX11_far_21 3 rfl ?_
      refine bv_iload_n dX11_far_22 1 rfl ?_
      refine bv_isub dX11_far_23 ?_
      refine bv_goto (tgt := 30) dX11_far_24 (by decide) ?_
      refine bv_istore (ls1 := [(0, .int x0), (1, .int x1), (2, .int x2), (3, .int x3), (4, .int (x0 - x2)), (5, .int (x3 - x1))]) dX11_far_30 (by decide) rfl rfl ?_
      refine bv_iload dX11_far_32 4 rfl ?_
      refine bv_iload dX11_far_34 5 rfl ?_
      refine bv_iadd dX11_far_36 ?_
      subst h
      exact bv_iret (x := ((x0 - x2) + (x3 - x1))) dX11_far_37 rfl ⟨rfl, rfl⟩
  · replace h := bu_f h cc
    refine bv_iload_n dX11_far_5 2 rfl ?_
    refine bv_iload_n dX11_far_6 0 rfl ?_
    refine bv_isub dX11_far_7 ?_
    refine bv_goto (tgt := 14) dX11_far_8 (by decide) ?_
    refine bv_istore (ls1 := [(0, .int x0), (1, .int x1), (2, .int x2), (3, .int x3), (4, .int (x2 - x0))]) dX11_far_14 (by decide) rfl rfl ?_
    refine bv_iload_n dX11_far_16 1 rfl ?_
    refine bv_iload_n dX11_far_17 3 rfl ?_
    refine bv_icmp_ge (tgt := 27) dX11_far_18 (by decide) (fun cc => ?_) (fun cc => ?_)
    · replace h := bu_t h cc
      refine bv_iload_n dX11_far_27 1 rfl ?_
      refine bv_iload_n dX11_far_28 3 rfl ?_
      refine bv_isub dX11_far_29 ?_
      refine bv_istore (ls1 := [(0, .int x0), (1, .int x1), (2, .int x2), (3, .int x3), (4, .int (x2 - x0)), (5, .int (x1 - x3))]) dX11_far_30 (by decide) rfl rfl ?_
      refine bv_iload dX11_far_32 4 rfl ?_
      refine bv_iload dX11_far_34 5 rfl ?_
      refine bv_iadd dX11_far_36 ?_
      subst h
      exact bv_iret (x := ((x2 - x0) + (x1 - x3))) dX11_far_37 rfl ⟨rfl, rfl⟩
    · replace h := bu_f h cc
      refine bv_iload_n dX11_far_21 3 rfl ?_
      refine bv_iload_n dX11_far_22 1 rfl ?_
      refine bv_isub dX11_far_23 ?_
      refine bv_goto (tgt := 30) dX11_far_24 (by decide) ?_
      refine bv_istore (ls1 := [(0, .int x0), (1, .int x1), (2, .int x2), (3, .int x3), (4, .int (x2 - x0)), (5, .int (x3 - x1))]) dX11_far_30 (by decide) rfl rfl ?_
      refine bv_iload dX11_far_32 4 rfl ?_
      refine bv_iload dX11_far_34 5 rfl ?_
      refine bv_iadd dX11_far_36 ?_
      subst h
      exact bv_iret (x := ((x2 - x0) + (x3 - x1))) dX11_far_37 rfl ⟨rfl, rfl⟩
def f_X8_rangeOf (M : bm_M) (x0 : Nat) (x1 : Int32) : Option (Int32) := (if bm_io x0 8 then ((f_X8_browOf M x0 x1).bind fun v2 => (if v2 = 0 then some (-1) else ((M.2.2 x0 0).bind fun a4 => (if bm_io a4 0 then some (v2 * (M.1 a4 15)) else none)))) else none)
set_option maxHeartbeats 4000000 in
set_option maxRecDepth 100000 in
theorem c_X8_rangeOf {L : bm_L} {d n : Nat} {M : bm_M} {x0 : Nat} {x1 : Int32} {v : Int32} (hN : 181 ≤ n) (h : f_X8_rangeOf M x0 x1 = some v) : bm_C L m_X8_rangeOf (d + 2) n n [.ref x0, .int x1] M (fun r M' => r = some (.int v) ∧ M' = M) := by
  refine bm_C.ofV (by decide) (Nat.le_of_ble_eq_true rfl) ?_
  show bm_V L m_X8_rangeOf (d + 2) n n n 0 [(0, .ref x0), (1, .int x1)] [] M _
  unfold f_X8_rangeOf at h
  refine bv_aload_n dX8_rangeOf_0 0 rfl ?_
  refine bv_iload_n dX8_rangeOf_1 1 rfl ?_
  obtain ⟨q1, h⟩ := bu_io h
  obtain ⟨v2, p3, h⟩ := bu_bd h
  refine bw_callV (As := [.int x1]) hN q1 ⟨_, _, rfl⟩ dX8_rangeOf_2 mc_8_79 (c_X8_browOf (d := d + 0) hN p3) rfl rfl (by decide) ?_
  refine bv_istore_n (ls1 := [(0, .ref x0), (1, .int x1), (2, .int v2)]) dX8_rangeOf_5 (by decide) rfl rfl ?_
  refine bv_iload_n dX8_rangeOf_6 2 rfl ?_
  refine bv_if_ne (tgt := 14) dX8_rangeOf_7 (by decide) (fun cc => ?_) (fun cc => ?_)
  · replace h := bu_f h cc
    refine bv_iload_n dX8_rangeOf_14 2 rfl ?_
    refine bv_aload_n dX8_rangeOf_15 0 rfl ?_
    obtain ⟨a4, e5, h⟩ := bu_bd h
    refine bw_getA (a := a4) hN q1 e5 dX8_rangeOf_16 fl_8_30 rfl ?_
    obtain ⟨q6, h⟩ := bu_io h
    refine bw_getI hN q6 dX8_rangeOf_19 fl_8_83 rfl ?_
    refine bv_imul dX8_rangeOf_22 ?_
    obtain rfl := Option.some.inj h
    exact bv_iret (x := (v2 * (M.1 a4 15))) dX8_rangeOf_23 rfl ⟨rfl, rfl⟩
  · replace h := bu_t h cc
    refine bv_iconst (v := (-1)) dX8_rangeOf_10 (by decide) ?_
    refine bv_goto (tgt := 23) dX8_rangeOf_11 (by decide) ?_
    obtain rfl := Option.some.inj h
    exact bv_iret (x := (-1)) dX8_rangeOf_23 rfl ⟨rfl, rfl⟩
def f_X8_seenBy_l4 (M : bm_M) (x0 : Nat) (x1 : Int32) : Nat → Int32 → Int32 → Option (Int32)
  | 0, _, _ => none
  | k + 1, x2, x3 => (if bm_io x0 8 then ((M.2.2 x0 0).bind fun a2 => (if bm_io a2 0 then (if (M.1 a2 10) ≤ x3 then some x2 else (if x3 = x1 then f_X8_seenBy_l4 M x0 x1 k x2 (x3 + 1) else ((M.2.2 x0 1).bind fun a5 => (if bm_ia a5 0 x1 = true then ((M.2.2 x0 2).bind fun a8 => (if bm_ia a8 0 x1 = true then (if bm_ia a5 0 x3 = true then (if bm_ia a8 0 x3 = true then ((f_X8_rangeOf M x0 x3).bind fun v13 => (if v13 < (f_X11_far (M.1 a5 x1.toNatClampNeg) (M.1 a8 x1.toNatClampNeg) (M.1 a5 x3.toNatClampNeg) (M.1 a8 x3.toNatClampNeg)) then f_X8_seenBy_l4 M x0 x1 k x2 (x3 + 1) else f_X8_seenBy_l4 M x0 x1 k (x2 ||| (bm_ishl 1 x3)) (x3 + 1))) else none) else none) else none)) else none)))) else none)) else none)
set_option maxHeartbeats 4000000 in
set_option maxRecDepth 100000 in
theorem v_X8_seenBy_l4 {L : bm_L} {d n : Nat} {Q : Option Value → bm_M → Prop} {M : bm_M} {x0 : Nat} {x1 : Int32} (hN : 181 ≤ n) : ∀ (k : Nat) (x2 : Int32) (x3 : Int32) (r : Int32), f_X8_seenBy_l4 M x0 x1 k x2 x3 = some r → (∀ yy, yy = r → bm_V L m_X8_seenBy (d + 3) n n n 67 [(0, .ref x0), (1, .int x1), (2, .int yy)] [] M Q) → bm_V L m_X8_seenBy (d + 3) n n n 4 [(0, .ref x0), (1, .int x1), (2, .int x2), (3, .int x3)] [] M Q := by
  intro k
  induction k with
  | zero => intro x2 x3 r h; cases (show (none : Option (Int32)) = some r from h)
  | succ k ih =>
    intro x2 x3 r h K0
    unfold f_X8_seenBy_l4 at h
    refine bv_iload_n dX8_seenBy_4 3 rfl ?_
    refine bv_aload_n dX8_seenBy_5 0 rfl ?_
    obtain ⟨q1, h⟩ := bu_io h
    obtain ⟨a2, e3, h⟩ := bu_bd h
    refine bw_getA (a := a2) hN q1 e3 dX8_seenBy_6 fl_8_30 rfl ?_
    obtain ⟨q4, h⟩ := bu_io h
    refine bw_getI hN q4 dX8_seenBy_9 fl_8_34 rfl ?_
    refine bv_icmp_ge (tgt := 67) dX8_seenBy_12 (by decide) (fun cc => ?_) (fun cc => ?_)
    · replace h := bu_t h cc
      refine bw_ls (ls1 := [(0, .ref x0), (1, .int x1), (2, .int x2)]) [0, 1, 2] rfl ?_
      obtain rfl := Option.some.inj h
      exact K0 _ rfl
    · replace h := bu_f h cc
      refine bv_iload_n dX8_seenBy_15 3 rfl ?_
      refine bv_iload_n dX8_seenBy_16 1 rfl ?_
      refine bv_icmp_eq (tgt := 61) dX8_seenBy_17 (by decide) (fun cc => ?_) (fun cc => ?_)
      · replace h := bu_t h cc
        refine bv_iinc (j := 3) (v := (x3 + 1)) (ls1 := [(0, .ref x0), (1, .int x1), (2, .int x2), (3, .int (x3 + 1))]) dX8_seenBy_61 rfl rfl (by decide) rfl rfl ?_
        refine bv_goto (tgt := 4) dX8_seenBy_64 (by decide) ?_
        exact ih _ _ _ h K0
      · replace h := bu_f h cc
        refine bv_aload_n dX8_seenBy_20 0 rfl ?_
        obtain ⟨a5, e6, h⟩ := bu_bd h
        refine bw_getA (a := a5) hN q1 e6 dX8_seenBy_21 fl_8_9 rfl ?_
        refine bv_iload_n dX8_seenBy_24 1 rfl ?_
        obtain ⟨r7, h⟩ := bu_ia h
        refine bw_iald hN r7 dX8_seenBy_25 ?_
        refine bv_aload_n dX8_seenBy_26 0 rfl ?_
        obtain ⟨a8, e9, h⟩ := bu_bd h
        refine bw_getA (a := a8) hN q1 e9 dX8_seenBy_27 fl_8_15 rfl ?_
        refine bv_iload_n dX8_seenBy_30 1 rfl ?_
        obtain ⟨r10, h⟩ := bu_ia h
        refine bw_iald hN r10 dX8_seenBy_31 ?_
        refine bv_aload_n dX8_seenBy_32 0 rfl ?_
        refine bw_getA (a := a5) hN q1 e6 dX8_seenBy_33 fl_8_9 rfl ?_
        refine bv_iload_n dX8_seenBy_36 3 rfl ?_
        obtain ⟨r11, h⟩ := bu_ia h
        refine bw_iald hN r11 dX8_seenBy_37 ?_
        refine bv_aload_n dX8_seenBy_38 0 rfl ?_
        refine bw_getA (a := a8) hN q1 e9 dX8_seenBy_39 fl_8_15 rfl ?_
        refine bv_iload_n dX8_seenBy_42 3 rfl ?_
        obtain ⟨r12, h⟩ := bu_ia h
        refine bw_iald hN r12 dX8_seenBy_43 ?_
        refine bw_callSN (As := [.int (M.1 a5 x1.toNatClampNeg), .int (M.1 a8 x1.toNatClampNeg), .int (M.1 a5 x3.toNatClampNeg), .int (M.1 a8 x3.toNatClampNeg)]) dX8_seenBy_44 mc_8_86 (c_X11_far (d := d + 2) hN rfl) rfl rfl (by decide) ?_
        refine bv_aload_n dX8_seenBy_47 0 rfl ?_
        refine bv_iload_n dX8_seenBy_48 3 rfl ?_
        obtain ⟨v13, p14, h⟩ := bu_bd h
        refine bw_callV (As := [.int x3]) hN q1 ⟨_, _, rfl⟩ dX8_seenBy_49 mc_8_90 (c_X8_rangeOf (d := d + 0) hN p14) rfl rfl (Nat.le_of_ble_eq_true rfl) ?_
        refine bv_icmp_gt (tgt := 61) dX8_seenBy_52 (by decide) (fun cc => ?_) (fun cc => ?_)
        · replace h := bu_t h cc
          refine bv_iinc (j := 3) (v := (x3 + 1)) (ls1 := [(0, .ref x0), (1, .int x1), (2, .int x2), (3, .int (x3 + 1))]) dX8_seenBy_61 rfl rfl (by decide) rfl rfl ?_
          refine bv_goto (tgt := 4) dX8_seenBy_64 (by decide) ?_
          exact ih _ _ _ h K0
        · replace h := bu_f h cc
          refine bv_iload_n dX8_seenBy_55 2 rfl ?_
          refine bv_iconst (v := 1) dX8_seenBy_56 (by decide) ?_
          refine bv_iload_n dX8_seenBy_57 3 rfl ?_
          refine bv_ishl dX8_seenBy_58 ?_
          refine bv_ior dX8_seenBy_59 ?_
          refine bv_istore_n (ls1 := [(0, .ref x0), (1, .int x1), (2, .int (x2 ||| (bm_ishl 1 x3))), (3, .int x3)]) dX8_seenBy_60 (by decide) rfl rfl ?_
          refine bv_iinc (j := 3) (v := (x3 + 1)) (ls1 := [(0, .ref x0), (1, .int x1), (2, .int (x2 ||| (bm_ishl 1 x3))), (3, .int (x3 + 1))]) dX8_seenBy_61 rfl rfl (by decide) rfl rfl ?_
          refine bv_goto (tgt := 4) dX8_seenBy_64 (by decide) ?_
          exact ih _ _ _ h K0
def f_X8_seenBy (M : bm_M) (x0 : Nat) (x1 : Int32) : Option (Int32) := ((f_X8_seenBy_l4 M x0 x1 1000 0 0).bind fun y3 => (if bm_io x0 8 then (if (f_X11_bit (M.1 x0 7) x1) = 1 then some 0 else some y3) else none))
set_option maxHeartbeats 4000000 in
set_option maxRecDepth 100000 in
theorem c_X8_seenBy {L : bm_L} {d n : Nat} {M : bm_M} {x0 : Nat} {x1 : Int32} {v : Int32} (hN : 181 ≤ n) (h : f_X8_seenBy M x0 x1 = some v) : bm_C L m_X8_seenBy (d + 3) n n [.ref x0, .int x1] M (fun r M' => r = some (.int v) ∧ M' = M) := by
  refine bm_C.ofV (by decide) (Nat.le_of_ble_eq_true rfl) ?_
  show bm_V L m_X8_seenBy (d + 3) n n n 0 [(0, .ref x0), (1, .int x1)] [] M _
  unfold f_X8_seenBy at h
  refine bv_iconst (v := 0) dX8_seenBy_0 (by decide) ?_
  refine bv_istore_n (ls1 := [(0, .ref x0), (1, .int x1), (2, .int 0)]) dX8_seenBy_1 (by decide) rfl rfl ?_
  refine bv_iconst (v := 0) dX8_seenBy_2 (by decide) ?_
  refine bv_istore_n (ls1 := [(0, .ref x0), (1, .int x1), (2, .int 0), (3, .int 0)]) dX8_seenBy_3 (by decide) rfl rfl ?_
  obtain ⟨r1, p2, h⟩ := bu_bd h
  refine v_X8_seenBy_l4 hN 1000 _ _ _ p2 (fun y3 hy => ?_)
  · subst hy
    refine bv_aload_n dX8_seenBy_67 0 rfl ?_
    obtain ⟨q4, h⟩ := bu_io h
    refine bw_getI hN q4 dX8_seenBy_68 fl_8_46 rfl ?_
    refine bv_iload_n dX8_seenBy_71 1 rfl ?_
    refine bw_callSN (As := [.int (M.1 x0 7), .int x1]) dX8_seenBy_72 mc_8_70 (c_X11_bit (d := d + 2) hN rfl) rfl rfl (by decide) ?_
    refine bv_iconst (v := 1) dX8_seenBy_75 (by decide) ?_
    refine bv_icmp_ne (tgt := 83) dX8_seenBy_76 (by decide) (fun cc => ?_) (fun cc => ?_)
    · replace h := bu_f h cc
      refine bv_iload_n dX8_seenBy_83 2 rfl ?_
      obtain rfl := Option.some.inj h
      exact bv_iret (x := y3) dX8_seenBy_84 rfl ⟨rfl, rfl⟩
    · replace h := bu_t h cc
      refine bv_iconst (v := 0) dX8_seenBy_79 (by decide) ?_
      refine bv_goto (tgt := 84) dX8_seenBy_80 (by decide) ?_
      obtain rfl := Option.some.inj h
      exact bv_iret (x := 0) dX8_seenBy_84 rfl ⟨rfl, rfl⟩
