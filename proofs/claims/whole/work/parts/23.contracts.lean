def f_X11_reachOf (M : bm_M) (x0 : Nat) (x1 : Int32) (x2 : Int32) : Option (Int32 × bm_M) := (if bm_io x0 10 then ((M.2.2 x0 5).bind fun a2 => ((M.2.2 x0 4).bind fun a4 => (if bm_io a2 8 then ((f_X8_copyFrom M a2 a4).bind fun v7 => ((v7.2.2 x0 5).bind fun a9 => (if bm_io a9 8 then ((f_X8_giveBy v7 a9 x1 x2).bind fun v12 => (if v12.1 = 0 then ((v12.2.2.2 x0 5).bind fun a14 => (if bm_io a14 8 then ((f_X8_passHours v12.2 a14 20).bind fun v17 => ((v17.2.2.2 x0 5).bind fun a19 => (if bm_io a19 8 then ((f_X8_holdersOf v17.2 a19 x2).bind fun v22 => some (v22, v17.2)) else none))) else none)) else some ((-1), v12.2))) else none))) else none))) else none)
set_option maxHeartbeats 4000000 in
set_option maxRecDepth 100000 in
theorem c_X11_reachOf {L : bm_L} {d n : Nat} {M : bm_M} {x0 : Nat} {x1 : Int32} {x2 : Int32} {v : Int32 × bm_M} (hN : 181 ≤ n) (h : f_X11_reachOf M x0 x1 x2 = some v) : bm_C L m_X11_reachOf (d + 5) n n [.ref x0, .int x1, .int x2] M (fun r M' => r = some (.int v.1) ∧ M' = v.2) := by
  refine bm_C.ofV (by decide) (Nat.le_of_ble_eq_true rfl) ?_
  show bm_V L m_X11_reachOf (d + 5) n n n 0 [(0, .ref x0), (1, .int x1), (2, .int x2)] [] M _
  unfold f_X11_reachOf at h
  refine bv_aload_n dX11_reachOf_0 0 rfl ?_
  obtain ⟨q1, h⟩ := bu_io h
  obtain ⟨a2, e3, h⟩ := bu_bd h
  refine bw_getA (a := a2) hN q1 e3 dX11_reachOf_1 fl_11_44 rfl ?_
  refine bv_aload_n dX11_reachOf_4 0 rfl ?_
  obtain ⟨a4, e5, h⟩ := bu_bd h
  refine bw_getA (a := a4) hN q1 e5 dX11_reachOf_5 fl_11_40 rfl ?_
  obtain ⟨q6, h⟩ := bu_io h
  obtain ⟨v7, p8, h⟩ := bu_bd h
  refine bw_callVv (As := [.ref a4]) hN q6 ⟨_, _, rfl⟩ dX11_reachOf_8 mc_11_226 (c_X8_copyFrom (d := d + 3) hN p8) rfl rfl (by decide) ?_
  refine bv_aload_n dX11_reachOf_11 0 rfl ?_
  obtain ⟨a9, e10, h⟩ := bu_bd h
  refine bw_getA (a := a9) hN q1 e10 dX11_reachOf_12 fl_11_44 rfl ?_
  refine bv_iload_n dX11_reachOf_15 1 rfl ?_
  refine bv_iload_n dX11_reachOf_16 2 rfl ?_
  obtain ⟨q11, h⟩ := bu_io h
  obtain ⟨v12, p13, h⟩ := bu_bd h
  refine bw_callV (As := [.int x1, .int x2]) hN q11 ⟨_, _, rfl⟩ dX11_reachOf_17 mc_11_254 (c_X8_giveBy (d := d + 1) hN p13) rfl rfl (by decide) ?_
  refine bv_if_eq (tgt := 25) dX11_reachOf_20 (by decide) (fun cc => ?_) (fun cc => ?_)
  · replace h := bu_t h cc
    refine bv_aload_n dX11_reachOf_25 0 rfl ?_
    obtain ⟨a14, e15, h⟩ := bu_bd h
    refine bw_getA (a := a14) hN q1 e15 dX11_reachOf_26 fl_11_44 rfl ?_
    refine bv_bipush (v := 20) dX11_reachOf_29 (by decide) ?_
    obtain ⟨q16, h⟩ := bu_io h
    obtain ⟨v17, p18, h⟩ := bu_bd h
    refine bw_callV (As := [.int 20]) hN q16 ⟨_, _, rfl⟩ dX11_reachOf_31 mc_11_229 (c_X8_passHours (d := d + 0) hN p18) rfl rfl (by decide) ?_
    refine bv_pop dX11_reachOf_34 rfl ?_
    refine bv_aload_n dX11_reachOf_35 0 rfl ?_
    obtain ⟨a19, e20, h⟩ := bu_bd h
    refine bw_getA (a := a19) hN q1 e20 dX11_reachOf_36 fl_11_44 rfl ?_
    refine bv_iload_n dX11_reachOf_39 2 rfl ?_
    obtain ⟨q21, h⟩ := bu_io h
    obtain ⟨v22, p23, h⟩ := bu_bd h
    refine bw_callV (As := [.int x2]) hN q21 ⟨_, _, rfl⟩ dX11_reachOf_40 mc_11_203 (c_X8_holdersOf (d := d + 4) hN p23) rfl rfl (by decide) ?_
    obtain rfl := Option.some.inj h
    exact bv_iret (x := v22) dX11_reachOf_43 rfl ⟨rfl, rfl⟩
  · replace h := bu_f h cc
    refine bv_iconst (v := (-1)) dX11_reachOf_23 (by decide) ?_
    obtain rfl := Option.some.inj h
    exact bv_iret (x := (-1)) dX11_reachOf_24 rfl ⟨rfl, rfl⟩
def f_X11_reach (M : bm_M) (x0 : Nat) (x1 : Int32) (x2 : Int32) : Option (Int32 × bm_M) := (if bm_io x0 10 then ((f_X11_isMan M x0 x1).bind fun v2 => (if v2 = true then ((f_X11_isOrder M x0 x2).bind fun v4 => (if v4 = true then ((f_X11_reachOf M x0 x1 x2).bind fun v6 => some (v6.1, v6.2)) else some ((-1), M))) else some ((-1), M))) else none)
set_option maxHeartbeats 4000000 in
set_option maxRecDepth 100000 in
theorem c_X11_reach {L : bm_L} {d n : Nat} {M : bm_M} {x0 : Nat} {x1 : Int32} {x2 : Int32} {v : Int32 × bm_M} (hN : 181 ≤ n) (h : f_X11_reach M x0 x1 x2 = some v) : bm_C L m_X11_reach (d + 6) n n [.ref x0, .int x1, .int x2] M (fun r M' => r = some (.int v.1) ∧ M' = v.2) := by
  refine bm_C.ofV (by decide) (Nat.le_of_ble_eq_true rfl) ?_
  show bm_V L m_X11_reach (d + 6) n n n 0 [(0, .ref x0), (1, .int x1), (2, .int x2)] [] M _
  unfold f_X11_reach at h
  refine bv_aload_n dX11_reach_0 0 rfl ?_
  refine bv_iload_n dX11_reach_1 1 rfl ?_
  obtain ⟨q1, h⟩ := bu_io h
  obtain ⟨v2, p3, h⟩ := bu_bd h
  refine bw_callV (As := [.int x1]) hN q1 ⟨_, _, rfl⟩ dX11_reach_2 mc_11_147 (c_X11_isMan (d := d + 5) hN p3) rfl rfl (by decide) ?_
  refine bw_ifB_eq (b := v2) (tgt := 25) dX11_reach_5 (by decide) (fun cc => ?_) (fun cc => ?_)
  · replace h := bu_bf h cc
    refine bv_iconst (v := (-1)) dX11_reach_25 (by decide) ?_
    obtain rfl := Option.some.inj h
    exact bv_iret (x := (-1)) dX11_reach_26 rfl ⟨rfl, rfl⟩
  · replace h := bu_bt h cc
    refine bv_aload_n dX11_reach_8 0 rfl ?_
    refine bv_iload_n dX11_reach_9 2 rfl ?_
    obtain ⟨v4, p5, h⟩ := bu_bd h
    refine bw_callV (As := [.int x2]) hN q1 ⟨_, _, rfl⟩ dX11_reach_10 mc_11_194 (c_X11_isOrder (d := d + 5) hN p5) rfl rfl (by decide) ?_
    refine bw_ifB_eq (b := v4) (tgt := 25) dX11_reach_13 (by decide) (fun cc => ?_) (fun cc => ?_)
    · replace h := bu_bf h cc
      refine bv_iconst (v := (-1)) dX11_reach_25 (by decide) ?_
      obtain rfl := Option.some.inj h
      exact bv_iret (x := (-1)) dX11_reach_26 rfl ⟨rfl, rfl⟩
    · replace h := bu_bt h cc
      refine bv_aload_n dX11_reach_16 0 rfl ?_
      refine bv_iload_n dX11_reach_17 1 rfl ?_
      refine bv_iload_n dX11_reach_18 2 rfl ?_
      obtain ⟨v6, p7, h⟩ := bu_bd h
      refine bw_callV (As := [.int x1, .int x2]) hN q1 ⟨_, _, rfl⟩ dX11_reach_19 mc_11_251 (c_X11_reachOf (d := d + 0) hN p7) rfl rfl (by decide) ?_
      refine bv_goto (tgt := 26) dX11_reach_22 (by decide) ?_
      obtain rfl := Option.some.inj h
      exact bv_iret (x := v6.1) dX11_reach_26 rfl ⟨rfl, rfl⟩
def f_X11_soon_l55 (x0 : Nat) (x2 : Int32) (x3 : Int32) : Nat → Int32 → bm_M → Option (((Int32 × bm_M) ⊕ (((bm_M) ⊕ (bm_M)))))
  | 0, _, _ => none
  | k + 1, x4, M => (if 20 < x4 then some (Sum.inr (Sum.inr M)) else ((M.2.2 x0 5).bind fun a1 => (if bm_io a1 8 then ((f_X8_holdersOf M a1 x2).bind fun v4 => (if (v4 &&& x3) = x3 then some (Sum.inl (x4, M)) else ((f_X8_passHours M a1 1).bind fun v6 => (if v6.1 = 0 then some (Sum.inr (Sum.inl v6.2)) else f_X11_soon_l55 x0 x2 x3 k (x4 + 1) v6.2)))) else none)))
set_option maxHeartbeats 4000000 in
set_option maxRecDepth 100000 in
theorem v_X11_soon_l55 {L : bm_L} {d n : Nat} {Q : Option Value → bm_M → Prop} {x0 : Nat} {x2 : Int32} {x3 : Int32} (hN : 181 ≤ n) (q_0 : bm_OK x0 10) : ∀ (k : Nat) (x4 : Int32) (M : bm_M) (r : ((Int32 × bm_M) ⊕ (((bm_M) ⊕ (bm_M))))), f_X11_soon_l55 x0 x2 x3 k x4 M = some r → (∀ yy, (Sum.inl yy) = r → bm_V L m_X11_soon (d + 5) n n n 76 [(4, .int yy.1)] [] yy.2 Q) → (∀ yy, (Sum.inr (Sum.inl yy)) = r → bm_V L m_X11_soon (d + 5) n n n 90 [] [] yy Q) → (∀ yy, (Sum.inr (Sum.inr yy)) = r → bm_V L m_X11_soon (d + 5) n n n 98 [] [] yy Q) → bm_V L m_X11_soon (d + 5) n n n 55 [(0, .ref x0), (2, .int x2), (3, .int x3), (4, .int x4)] [] M Q := by
  intro k
  induction k with
  | zero => intro x4 M r h; cases (show (none : Option (((Int32 × bm_M) ⊕ (((bm_M) ⊕ (bm_M)))))) = some r from h)
  | succ k ih =>
    intro x4 M r h K0 K1 K2
    unfold f_X11_soon_l55 at h
    refine bv_iload dX11_soon_55 3 rfl ?_
    refine bv_bipush (v := 20) dX11_soon_57 (by decide) ?_
    refine bv_icmp_gt (tgt := 98) dX11_soon_59 (by decide) (fun cc => ?_) (fun cc => ?_)
    · replace h := bu_t h cc
      refine bw_ls (ls1 := []) [] rfl ?_
      obtain rfl := Option.some.inj h
      exact K2 _ rfl
    · replace h := bu_f h cc
      refine bv_aload_n dX11_soon_62 0 rfl ?_
      obtain ⟨a1, e2, h⟩ := bu_bd h
      refine bw_getA (a := a1) hN q_0 e2 dX11_soon_63 fl_11_44 rfl ?_
      refine bv_iload_n dX11_soon_66 1 rfl ?_
      obtain ⟨q3, h⟩ := bu_io h
      obtain ⟨v4, p5, h⟩ := bu_bd h
      refine bw_callV (As := [.int x2]) hN q3 ⟨_, _, rfl⟩ dX11_soon_67 mc_11_203 (c_X8_holdersOf (d := d + 4) hN p5) rfl rfl (by decide) ?_
      refine bv_iload_n dX11_soon_70 2 rfl ?_
      refine bv_iand dX11_soon_71 ?_
      refine bv_iload_n dX11_soon_72 2 rfl ?_
      refine bv_icmp_ne (tgt := 79) dX11_soon_73 (by decide) (fun cc => ?_) (fun cc => ?_)
      · replace h := bu_f h cc
        refine bv_aload_n dX11_soon_79 0 rfl ?_
        refine bw_getA (a := a1) hN q_0 e2 dX11_soon_80 fl_11_44 rfl ?_
        refine bv_iconst (v := 1) dX11_soon_83 (by decide) ?_
        obtain ⟨v6, p7, h⟩ := bu_bd h
        refine bw_callV (As := [.int 1]) hN q3 ⟨_, _, rfl⟩ dX11_soon_84 mc_11_229 (c_X8_passHours (d := d + 0) hN p7) rfl rfl (by decide) ?_
        refine bv_if_ne (tgt := 92) dX11_soon_87 (by decide) (fun cc => ?_) (fun cc => ?_)
        · replace h := bu_f h cc
          refine bv_iinc (j := 3) (v := (x4 + 1)) (ls1 := [(0, .ref x0), (2, .int x2), (3, .int x3), (4, .int (x4 + 1))]) dX11_soon_92 rfl rfl (by decide) rfl rfl ?_
          refine bv_goto (tgt := 55) dX11_soon_95 (by decide) ?_
          exact ih _ _ _ h K0 K1 K2
        · replace h := bu_t h cc
          refine bw_ls (ls1 := []) [] rfl ?_
          obtain rfl := Option.some.inj h
          exact K1 _ rfl
      · replace h := bu_t h cc
        refine bw_ls (ls1 := [(4, .int x4)]) [3] rfl ?_
        obtain rfl := Option.some.inj h
        exact K0 _ rfl
def f_X11_soon (M : bm_M) (x0 : Nat) (x1 : Int32) (x2 : Int32) : Option (Int32 × bm_M) := (if bm_io x0 10 then ((f_X11_isMan M x0 x1).bind fun v2 => (if v2 = true then ((f_X11_isOrder M x0 x2).bind fun v4 => (if v4 = true then ((M.2.2 x0 5).bind fun a6 => ((M.2.2 x0 4).bind fun a8 => (if bm_io a6 8 then ((f_X8_copyFrom M a6 a8).bind fun v11 => ((v11.2.2 x0 5).bind fun a13 => (if bm_io a13 8 then ((f_X8_giveBy v11 a13 x1 x2).bind fun v16 => (if v16.1 = 0 then ((v16.2.2.2 x0 2).bind fun a18 => (if bm_io a18 0 then ((f_X0_allUnder v16.2 a18 x1).bind fun v21 => ((f_X11_soon_l55 x0 x2 v21 1000 0 v16.2).bind fun rr => match rr with | (Sum.inl y25) => some (y25.1, y25.2) | (Sum.inr (Sum.inl y25)) => some ((-1), y25) | (Sum.inr (Sum.inr y25)) => some ((-1), y25))) else none)) else some ((-1), v16.2))) else none))) else none))) else some ((-1), M))) else some ((-1), M))) else none)
set_option maxHeartbeats 4000000 in
set_option maxRecDepth 100000 in
theorem c_X11_soon {L : bm_L} {d n : Nat} {M : bm_M} {x0 : Nat} {x1 : Int32} {x2 : Int32} {v : Int32 × bm_M} (hN : 181 ≤ n) (h : f_X11_soon M x0 x1 x2 = some v) : bm_C L m_X11_soon (d + 5) n n [.ref x0, .int x1, .int x2] M (fun r M' => r = some (.int v.1) ∧ M' = v.2) := by
  refine bm_C.ofV (by decide) (Nat.le_of_ble_eq_true rfl) ?_
  show bm_V L m_X11_soon (d + 5) n n n 0 [(0, .ref x0), (1, .int x1), (2, .int x2)] [] M _
  unfold f_X11_soon at h
  refine bv_aload_n dX11_soon_0 0 rfl ?_
  refine bv_iload_n dX11_soon_1 1 rfl ?_
  obtain ⟨q1, h⟩ := bu_io h
  obtain ⟨v2, p3, h⟩ := bu_bd h
  refine bw_callV (As := [.int x1]) hN q1 ⟨_, _, rfl⟩ dX11_soon_2 mc_11_147 (c_X11_isMan (d := d + 4) hN p3) rfl rfl (by decide) ?_
  refine bw_ifB_eq (b := v2) (tgt := 16) dX11_soon_5 (by decide) (fun cc => ?_) (fun cc => ?_)
  · replace h := bu_bf h cc
    refine bv_iconst (v := (-1)) dX11_soon_16 (by decide) ?_
    obtain rfl := Option.some.inj h
    exact bv_iret (x := (-1)) dX11_soon_17 rfl ⟨rfl, rfl⟩
  · replace h := bu_bt h cc
    refine bv_aload_n dX11_soon_8 0 rfl ?_
    refine bv_iload_n dX11_soon_9 2 rfl ?_
    obtain ⟨v4, p5, h⟩ := bu_bd h
    refine bw_callV (As := [.int x2]) hN q1 ⟨_, _, rfl⟩ dX11_soon_10 mc_11_194 (c_X11_isOrder (d := d + 4) hN p5) rfl rfl (by decide) ?_
    refine bw_ifB_ne (b := v4) (tgt := 18) dX11_soon_13 (by decide) (fun cc => ?_) (fun cc => ?_)
    · replace h := bu_bt h cc
      refine bv_aload_n dX11_soon_18 0 rfl ?_
      obtain ⟨a6, e7, h⟩ := bu_bd h
      refine bw_getA (a := a6) hN q1 e7 dX11_soon_19 fl_11_44 rfl ?_
      refine bv_aload_n dX11_soon_22 0 rfl ?_
      obtain ⟨a8, e9, h⟩ := bu_bd h
      refine bw_getA (a := a8) hN q1 e9 dX11_soon_23 fl_11_40 rfl ?_
      obtain ⟨q10, h⟩ := bu_io h
      obtain ⟨v11, p12, h⟩ := bu_bd h
      refine bw_callVv (As := [.ref a8]) hN q10 ⟨_, _, rfl⟩ dX11_soon_26 mc_11_226 (c_X8_copyFrom (d := d + 3) hN p12) rfl rfl (by decide) ?_
      refine bv_aload_n dX11_soon_29 0 rfl ?_
      obtain ⟨a13, e14, h⟩ := bu_bd h
      refine bw_getA (a := a13) hN q1 e14 dX11_soon_30 fl_11_44 rfl ?_
      refine bv_iload_n dX11_soon_33 1 rfl ?_
      refine bv_iload_n dX11_soon_34 2 rfl ?_
      obtain ⟨q15, h⟩ := bu_io h
      obtain ⟨v16, p17, h⟩ := bu_bd h
      refine bw_callV (As := [.int x1, .int x2]) hN q15 ⟨_, _, rfl⟩ dX11_soon_35 mc_11_254 (c_X8_giveBy (d := d + 1) hN p17) rfl rfl (by decide) ?_
      refine bv_if_eq (tgt := 43) dX11_soon_38 (by decide) (fun cc => ?_) (fun cc => ?_)
      · replace h := bu_t h cc
        refine bv_aload_n dX11_soon_43 0 rfl ?_
        obtain ⟨a18, e19, h⟩ := bu_bd h
        refine bw_getA (a := a18) hN q1 e19 dX11_soon_44 fl_11_28 rfl ?_
        refine bv_iload_n dX11_soon_47 1 rfl ?_
        obtain ⟨q20, h⟩ := bu_io h
        obtain ⟨v21, p22, h⟩ := bu_bd h
        refine bw_callV (As := [.int x1]) hN q20 ⟨_, _, rfl⟩ dX11_soon_48 mc_11_257 (c_X0_allUnder (d := d + 3) hN p22) rfl rfl (by decide) ?_
        refine bv_istore_n (ls1 := [(0, .ref x0), (1, .int x1), (2, .int x2), (3, .int v21)]) dX11_soon_51 (by decide) rfl rfl ?_
        refine bv_iconst (v := 0) dX11_soon_52 (by decide) ?_
        refine bv_istore (ls1 := [(0, .ref x0), (1, .int x1), (2, .int x2), (3, .int v21), (4, .int 0)]) dX11_soon_53 (by decide) rfl rfl ?_
        refine bw_ls (ls1 := [(0, .ref x0), (2, .int x2), (3, .int v21), (4, .int 0)]) [0, 2, 3, 4] rfl ?_
        obtain ⟨r23, p24, h⟩ := bu_bd h
        refine v_X11_soon_l55 hN q1 1000 _ _ _ p24 (fun y25 hy => ?_) (fun y25 hy => ?_) (fun y25 hy => ?_)
        · subst hy
          refine bv_iload dX11_soon_76 0 rfl ?_
          obtain rfl := Option.some.inj h
          exact bv_iret (x := y25.1) dX11_soon_78 rfl ⟨rfl, rfl⟩
        · subst hy
          refine bv_iconst (v := (-1)) dX11_soon_90 (by decide) ?_
          obtain rfl := Option.some.inj h
          exact bv_iret (x := (-1)) dX11_soon_91 rfl ⟨rfl, rfl⟩
        · subst hy
          refine bv_iconst (v := (-1)) dX11_soon_98 (by decide) ?_
          obtain rfl := Option.some.inj h
          exact bv_iret (x := (-1)) dX11_soon_99 rfl ⟨rfl, rfl⟩
      · replace h := bu_f h cc
        refine bv_iconst (v := (-1)) dX11_soon_41 (by decide) ?_
        obtain rfl := Option.some.inj h
        exact bv_iret (x := (-1)) dX11_soon_42 rfl ⟨rfl, rfl⟩
    · replace h := bu_bf h cc
      refine bv_iconst (v := (-1)) dX11_soon_16 (by decide) ?_
      obtain rfl := Option.some.inj h
      exact bv_iret (x := (-1)) dX11_soon_17 rfl ⟨rfl, rfl⟩
def f_J6_bitCount_0f7a4 (x0 : Int32) : Int32 := ((((((((x0 - ((bm_iushr x0 1) &&& 1431655765)) &&& 858993459) + ((bm_iushr (x0 - ((bm_iushr x0 1) &&& 1431655765)) 2) &&& 858993459)) + (bm_iushr (((x0 - ((bm_iushr x0 1) &&& 1431655765)) &&& 858993459) + ((bm_iushr (x0 - ((bm_iushr x0 1) &&& 1431655765)) 2) &&& 858993459)) 4)) &&& 252645135) + (bm_iushr (((((x0 - ((bm_iushr x0 1) &&& 1431655765)) &&& 858993459) + ((bm_iushr (x0 - ((bm_iushr x0 1) &&& 1431655765)) 2) &&& 858993459)) + (bm_iushr (((x0 - ((bm_iushr x0 1) &&& 1431655765)) &&& 858993459) + ((bm_iushr (x0 - ((bm_iushr x0 1) &&& 1431655765)) 2) &&& 858993459)) 4)) &&& 252645135) 8)) + (bm_iushr ((((((x0 - ((bm_iushr x0 1) &&& 1431655765)) &&& 858993459) + ((bm_iushr (x0 - ((bm_iushr x0 1) &&& 1431655765)) 2) &&& 858993459)) + (bm_iushr (((x0 - ((bm_iushr x0 1) &&& 1431655765)) &&& 858993459) + ((bm_iushr (x0 - ((bm_iushr x0 1) &&& 1431655765)) 2) &&& 858993459)) 4)) &&& 252645135) + (bm_iushr (((((x0 - ((bm_iushr x0 1) &&& 1431655765)) &&& 858993459) + ((bm_iushr (x0 - ((bm_iushr x0 1) &&& 1431655765)) 2) &&& 858993459)) + (bm_iushr (((x0 - ((bm_iushr x0 1) &&& 1431655765)) &&& 858993459) + ((bm_iushr (x0 - ((bm_iushr x0 1) &&& 1431655765)) 2) &&& 858993459)) 4)) &&& 252645135) 8)) 16)) &&& 63)
set_option maxHeartbeats 4000000 in
set_option maxRecDepth 100000 in
theorem c_J6_bitCount_0f7a4 {L : bm_L} {d n : Nat} {M : bm_M} {x0 : Int32} {v : Int32} (hN : 181 ≤ n) (h : f_J6_bitCount_0f7a4 x0 = v) : bm_C L m_J6_bitCount_0f7a4 d n n [.int x0] M (fun r M' => r = some (.int v) ∧ M' = M) := by
  refine bm_C.ofV (by decide) (Nat.le_of_ble_eq_true rfl) ?_
  show bm_V L m_J6_bitCount_0f7a4 d n n n 0 [(0, .int x0)] [] M _
  unfold f_J6_bitCount_0f7a4 at h
  refine bv_iload_n dJ6_bitCount_0f7a4_0 0 rfl ?_
  refine bv_iload_n dJ6_bitCount_0f7a4_1 0 rfl ?_
  refine bv_iconst (v := 1) dJ6_bitCount_0f7a4_2 (by decide) ?_
  refine bv_iushr dJ6_bitCount_0f7a4_3 ?_
  refine bv_ldcw (v := 1431655765) dJ6_bitCount_0f7a4_4 cst_J6_265 ?_
  refine bv_iand dJ6_bitCount_0f7a4_7 ?_
  refine bv_isub dJ6_bitCount_0f7a4_8 ?_
  refine bv_istore_n (ls1 := [(0, .int (x0 - ((bm_iushr x0 1) &&& 1431655765)))]) dJ6_bitCount_0f7a4_9 (by decide) rfl rfl ?_
  refine bv_iload_n dJ6_bitCount_0f7a4_10 0 rfl ?_
  refine bv_ldcw (v := 858993459) dJ6_bitCount_0f7a4_11 cst_J6_266 ?_
  refine bv_iand dJ6_bitCount_0f7a4_14 ?_
  refine bv_iload_n dJ6_bitCount_0f7a4_15 0 rfl ?_
  refine bv_iconst (v := 2) dJ6_bitCount_0f7a4_16 (by decide) ?_
  refine bv_iushr dJ6_bitCount_0f7a4_17 ?_
  refine bv_ldcw (v := 858993459) dJ6_bitCount_0f7a4_18 cst_J6_266 ?_
  refine bv_iand dJ6_bitCount_0f7a4_21 ?_
  refine bv_iadd dJ6_bitCount_0f7a4_22 ?_
  refine bv_istore_n (ls1 := [(0, .int (((x0 - ((bm_iushr x0 1) &&& 1431655765)) &&& 858993459) + ((bm_iushr (x0 - ((bm_iushr x0 1) &&& 1431655765)) 2) &&& 858993459)))]) dJ6_bitCount_0f7a4_23 (by decide) rfl rfl ?_
  refine bv_iload_n dJ6_bitCount_0f7a4_24 0 rfl ?_
  refine bv_iload_n dJ6_bitCount_0f7a4_25 0 rfl ?_
  refine bv_iconst (v := 4) dJ6_bitCount_0f7a4_26 (by decide) ?_
  refine bv_iushr dJ6_bitCount_0f7a4_27 ?_
  refine bv_iadd dJ6_bitCount_0f7a4_28 ?_
  refine bv_ldcw (v := 252645135) dJ6_bitCount_0f7a4_29 cst_J6_267 ?_
  refine bv_iand dJ6_bitCount_0f7a4_32 ?_
  refine bv_istore_n (ls1 := [(0, .int (((((x0 - ((bm_iushr x0 1) &&& 1431655765)) &&& 858993459) + ((bm_iushr (x0 - ((bm_iushr x0 1) &&& 1431655765)) 2) &&& 858993459)) + (bm_iushr (((x0 - ((bm_iushr x0 1) &&& 1431655765)) &&& 858993459) + ((bm_iushr (x0 - ((bm_iushr x0 1) &&& 1431655765)) 2) &&& 858993459)) 4)) &&& 252645135))]) dJ6_bitCount_0f7a4_33 (by decide) rfl rfl ?_
  refine bv_iload_n dJ6_bitCount_0f7a4_34 0 rfl ?_
  refine bv_iload_n dJ6_bitCount_0f7a4_35 0 rfl ?_
  refine bv_bipush (v := 8) dJ6_bitCount_0f7a4_36 (by decide) ?_
  refine bv_iushr dJ6_bitCount_0f7a4_38 ?_
  refine bv_iadd dJ6_bitCount_0f7a4_39 ?_
  refine bv_istore_n (ls1 := [(0, .int ((((((x0 - ((bm_iushr x0 1) &&& 1431655765)) &&& 858993459) + ((bm_iushr (x0 - ((bm_iushr x0 1) &&& 1431655765)) 2) &&& 858993459)) + (bm_iushr (((x0 - ((bm_iushr x0 1) &&& 1431655765)) &&& 858993459) + ((bm_iushr (x0 - ((bm_iushr x0 1) &&& 1431655765)) 2) &&& 858993459)) 4)) &&& 252645135) + (bm_iushr (((((x0 - ((bm_iushr x0 1) &&& 1431655765)) &&& 858993459) + ((bm_iushr (x0 - ((bm_iushr x0 1) &&& 1431655765)) 2) &&& 858993459)) + (bm_iushr (((x0 - ((bm_iushr x0 1) &&& 1431655765)) &&& 858993459) + ((bm_iushr (x0 - ((bm_iushr x0 1) &&& 1431655765)) 2) &&& 858993459)) 4)) &&& 252645135) 8)))]) dJ6_bitCount_0f7a4_40 (by decide) rfl rfl ?_
  refine bv_iload_n dJ6_bitCount_0f7a4_41 0 rfl ?_
  refine bv_iload_n dJ6_bitCount_0f7a4_42 0 rfl ?_
  refine bv_bipush (v := 16) dJ6_bitCount_0f7a4_43 (by decide) ?_
  refine bv_iushr dJ6_bitCount_0f7a4_45 ?_
  refine bv_iadd dJ6_bitCount_0f7a4_46 ?_
  refine bv_istore_n (ls1 := [(0, .int (((((((x0 - ((bm_iushr x0 1) &&& 1431655765)) &&& 858993459) + ((bm_iushr (x0 - ((bm_iushr x0 1) &&& 1431655765)) 2) &&& 858993459)) + (bm_iushr (((x0 - ((bm_iushr x0 1) &&& 1431655765)) &&& 858993459) + ((bm_iushr (x0 - ((bm_iushr x0 1) &&& 1431655765)) 2) &&& 858993459)) 4)) &&& 252645135) + (bm_iushr (((((x0 - ((bm_iushr x0 1) &&& 1431655765)) &&& 858993459) + ((bm_iushr (x0 - ((bm_iushr x0 1) &&& 1431655765)) 2) &&& 858993459)) + (bm_iushr (((x0 - ((bm_iushr x0 1) &&& 1431655765)) &&& 858993459) + ((bm_iushr (x0 - ((bm_iushr x0 1) &&& 1431655765)) 2) &&& 858993459)) 4)) &&& 252645135) 8)) + (bm_iushr ((((((x0 - ((bm_iushr x0 1) &&& 1431655765)) &&& 858993459) + ((bm_iushr (x0 - ((bm_iushr x0 1) &&& 1431655765)) 2) &&& 858993459)) + (bm_iushr (((x0 - ((bm_iushr x0 1) &&& 1431655765)) &&& 858993459) + ((bm_iushr (x0 - ((bm_iushr x0 1) &&& 1431655765)) 2) &&& 858993459)) 4)) &&& 252645135) + (bm_iushr (((((x0 - ((bm_iushr x0 1) &&& 1431655765)) &&& 858993459) + ((bm_iushr (x0 - ((bm_iushr x0 1) &&& 1431655765)) 2) &&& 858993459)) + (bm_iushr (((x0 - ((bm_iushr x0 1) &&& 1431655765)) &&& 858993459) + ((bm_iushr (x0 - ((bm_iushr x0 1) &&& 1431655765)) 2) &&& 858993459)) 4)) &&& 252645135) 8)) 16)))]) dJ6_bitCount_0f7a4_47 (by decide) rfl rfl ?_
  refine bv_iload_n dJ6_bitCount_0f7a4_48 0 rfl ?_
  refine bv_bipush (v := 63) dJ6_bitCount_0f7a4_49 (by decide) ?_
  refine bv_iand dJ6_bitCount_0f7a4_51 ?_
  subst h
  exact bv_iret (x := ((((((((x0 - ((bm_iushr x0 1) &&& 1431655765)) &&& 858993459) + ((bm_iushr (x0 - ((bm_iushr x0 1) &&& 1431655765)) 2) &&& 858993459)) + (bm_iushr (((x0 - ((bm_iushr x0 1) &&& 1431655765)) &&& 858993459) + ((bm_iushr (x0 - ((bm_iushr x0 1) &&& 1431655765)) 2) &&& 858993459)) 4)) &&& 252645135) + (bm_iushr (((((x0 - ((bm_iushr x0 1) &&& 1431655765)) &&& 858993459) + ((bm_iushr (x0 - ((bm_iushr x0 1) &&& 1431655765)) 2) &&& 858993459)) + (bm_iushr (((x0 - ((bm_iushr x0 1) &&& 1431655765)) &&& 858993459) + ((bm_iushr (x0 - ((bm_iushr x0 1) &&& 1431655765)) 2) &&& 858993459)) 4)) &&& 252645135) 8)) + (bm_iushr ((((((x0 - ((bm_iushr x0 1) &&& 1431655765)) &&& 858993459) + ((bm_iushr (x0 - ((bm_iushr x0 1) &&& 1431655765)) 2) &&& 858993459)) + (bm_iushr (((x0 - ((bm_iushr x0 1) &&& 1431655765)) &&& 858993459) + ((bm_iushr (x0 - ((bm_iushr x0 1) &&& 1431655765)) 2) &&& 858993459)) 4)) &&& 252645135) + (bm_iushr (((((x0 - ((bm_iushr x0 1) &&& 1431655765)) &&& 858993459) + ((bm_iushr (x0 - ((bm_iushr x0 1) &&& 1431655765)) 2) &&& 858993459)) + (bm_iushr (((x0 - ((bm_iushr x0 1) &&& 1431655765)) &&& 858993459) + ((bm_iushr (x0 - ((bm_iushr x0 1) &&& 1431655765)) 2) &&& 858993459)) 4)) &&& 252645135) 8)) 16)) &&& 63)) dJ6_bitCount_0f7a4_52 rfl ⟨rfl, rfl⟩
def f_X11_best_l17 (x0 : Nat) (x1 : Int32) : Nat → Int32 → Int32 → Int32 → bm_M → Option (Int32 × bm_M)
  | 0, _, _, _, _ => none
  | k + 1, x2, x3, x4, M => ((M.2.2 x0 2).bind fun a1 => (if bm_io a1 0 then (if (M.1 a1 10) ≤ x4 then some (x2, M) else ((f_X11_reachOf M x0 x4 x1).bind fun v4 => (if v4.1 = (-1) then f_X11_best_l17 x0 x1 k x2 x3 (x4 + 1) v4.2 else (if (f_J6_bitCount_0f7a4 v4.1) ≤ x3 then f_X11_best_l17 x0 x1 k x2 x3 (x4 + 1) v4.2 else f_X11_best_l17 x0 x1 k x4 (f_J6_bitCount_0f7a4 v4.1) (x4 + 1) v4.2)))) else none))
set_option maxHeartbeats 4000000 in
set_option maxRecDepth 100000 in
theorem v_X11_best_l17 {L : bm_L} {d n : Nat} {Q : Option Value → bm_M → Prop} {x0 : Nat} {x1 : Int32} (hN : 181 ≤ n) (q_0 : bm_OK x0 10) : ∀ (k : Nat) (x2 : Int32) (x3 : Int32) (x4 : Int32) (M : bm_M) (r : Int32 × bm_M), f_X11_best_l17 x0 x1 k x2 x3 x4 M = some r → (∀ yy, yy = r → bm_V L m_X11_best (d + 6) n n n 68 [(2, .int yy.1)] [] yy.2 Q) → bm_V L m_X11_best (d + 6) n n n 17 [(0, .ref x0), (1, .int x1), (2, .int x2), (3, .int x3), (4, .int x4)] [] M Q := by
  intro k
  induction k with
  | zero => intro x2 x3 x4 M r h; cases (show (none : Option (Int32 × bm_M)) = some r from h)
  | succ k ih =>
    intro x2 x3 x4 M r h K0
    unfold f_X11_best_l17 at h
    refine bv_iload dX11_best_17 4 rfl ?_
    refine bv_aload_n dX11_best_19 0 rfl ?_
    obtain ⟨a1, e2, h⟩ := bu_bd h
    refine bw_getA (a := a1) hN q_0 e2 dX11_best_20 fl_11_28 rfl ?_
    obtain ⟨q3, h⟩ := bu_io h
    refine bw_getI hN q3 dX11_best_23 fl_11_132 rfl ?_
    refine bv_icmp_ge (tgt := 68) dX11_best_26 (by decide) (fun cc => ?_) (fun cc => ?_)
    · replace h := bu_t h cc
      refine bw_ls (ls1 := [(2, .int x2)]) [2] rfl ?_
      obtain rfl := Option.some.inj h
      exact K0 _ rfl
    · replace h := bu_f h cc
      refine bv_aload_n dX11_best_29 0 rfl ?_
      refine bv_iload dX11_best_30 4 rfl ?_
      refine bv_iload_n dX11_best_32 1 rfl ?_
      obtain ⟨v4, p5, h⟩ := bu_bd h
      refine bw_callV (As := [.int x4, .int x1]) hN q_0 ⟨_, _, rfl⟩ dX11_best_33 mc_11_251 (c_X11_reachOf (d := d + 0) hN p5) rfl rfl (by decide) ?_
      refine bv_istore (ls1 := [(0, .ref x0), (1, .int x1), (2, .int x2), (3, .int x3), (4, .int x4), (5, .int v4.1)]) dX11_best_36 (by decide) rfl rfl ?_
      refine bv_iload dX11_best_38 5 rfl ?_
      refine bv_iconst (v := (-1)) dX11_best_40 (by decide) ?_
      refine bv_icmp_eq (tgt := 62) dX11_best_41 (by decide) (fun cc => ?_) (fun cc => ?_)
      · replace h := bu_t h cc
        refine bv_iinc (j := 4) (v := (x4 + 1)) (ls1 := [(0, .ref x0), (1, .int x1), (2, .int x2), (3, .int x3), (4, .int (x4 + 1)), (5, .int v4.1)]) dX11_best_62 rfl rfl (by decide) rfl rfl ?_
        refine bv_goto (tgt := 17) dX11_best_65 (by decide) ?_
        refine bw_ls (ls1 := [(0, .ref x0), (1, .int x1), (2, .int x2), (3, .int x3), (4, .int (x4 + 1))]) [0, 1, 2, 3, 4] rfl ?_
        exact ih _ _ _ _ _ h K0
      · replace h := bu_f h cc
        refine bv_iload dX11_best_44 5 rfl ?_
        refine bw_callS (As := [.int v4.1]) dX11_best_46 mc_11_260 (c_J6_bitCount_0f7a4 (d := d + 5) hN rfl) rfl rfl (by decide) ?_
        refine bv_iload_n dX11_best_49 3 rfl ?_
        refine bv_icmp_le (tgt := 62) dX11_best_50 (by decide) (fun cc => ?_) (fun cc => ?_)
        · replace h := bu_t h cc
          refine bv_iinc (j := 4) (v := (x4 + 1)) (ls1 := [(0, .ref x0), (1, .int x1), (2, .int x2), (3, .int x3), (4, .int (x4 + 1)), (5, .int v4.1)]) dX11_best_62 rfl rfl (by decide) rfl rfl ?_
          refine bv_goto (tgt := 17) dX11_best_65 (by decide) ?_
          refine bw_ls (ls1 := [(0, .ref x0), (1, .int x1), (2, .int x2), (3, .int x3), (4, .int (x4 + 1))]) [0, 1, 2, 3, 4] rfl ?_
          exact ih _ _ _ _ _ h K0
        · replace h := bu_f h cc
          refine bv_iload dX11_best_53 4 rfl ?_
          refine bv_istore_n (ls1 := [(0, .ref x0), (1, .int x1), (2, .int x4), (3, .int x3), (4, .int x4), (5, .int v4.1)]) dX11_best_55 (by decide) rfl rfl ?_
          refine bv_iload dX11_best_56 5 rfl ?_
          refine bw_callS (As := [.int v4.1]) dX11_best_58 mc_11_260 (c_J6_bitCount_0f7a4 (d := d + 5) hN rfl) rfl rfl (by decide) ?_
          refine bv_istore_n (ls1 := [(0, .ref x0), (1, .int x1), (2, .int x4), (3, .int (f_J6_bitCount_0f7a4 v4.1)), (4, .int x4), (5, .int v4.1)]) dX11_best_61 (by decide) rfl rfl ?_
          refine bv_iinc (j := 4) (v := (x4 + 1)) (ls1 := [(0, .ref x0), (1, .int x1), (2, .int x4), (3, .int (f_J6_bitCount_0f7a4 v4.1)), (4, .int (x4 + 1)), (5, .int v4.1)]) dX11_best_62 rfl rfl (by decide) rfl rfl ?_
          refine bv_goto (tgt := 17) dX11_best_65 (by decide) ?_
          refine bw_ls (ls1 := [(0, .ref x0), (1, .int x1), (2, .int x4), (3, .int (f_J6_bitCount_0f7a4 v4.1)), (4, .int (x4 + 1))]) [0, 1, 2, 3, 4] rfl ?_
          exact ih _ _ _ _ _ h K0
def f_X11_best (M : bm_M) (x0 : Nat) (x1 : Int32) : Option (Int32 × bm_M) := (if bm_io x0 10 then ((f_X11_isOrder M x0 x1).bind fun v2 => (if v2 = true then ((f_X11_best_l17 x0 x1 1000 (-1) (-1) 0 M).bind fun y6 => some (y6.1, y6.2)) else some ((-1), M))) else none)
set_option maxHeartbeats 4000000 in
set_option maxRecDepth 100000 in
theorem c_X11_best {L : bm_L} {d n : Nat} {M : bm_M} {x0 : Nat} {x1 : Int32} {v : Int32 × bm_M} (hN : 181 ≤ n) (h : f_X11_best M x0 x1 = some v) : bm_C L m_X11_best (d + 6) n n [.ref x0, .int x1] M (fun r M' => r = some (.int v.1) ∧ M' = v.2) := by
  refine bm_C.ofV (by decide) (Nat.le_of_ble_eq_true rfl) ?_
  show bm_V L m_X11_best (d + 6) n n n 0 [(0, .ref x0), (1, .int x1)] [] M _
  unfold f_X11_best at h
  refine bv_aload_n dX11_best_0 0 rfl ?_
  refine bv_iload_n dX11_best_1 1 rfl ?_
  obtain ⟨q1, h⟩ := bu_io h
  obtain ⟨v2, p3, h⟩ := bu_bd h
  refine bw_callV (As := [.int x1]) hN q1 ⟨_, _, rfl⟩ dX11_best_2 mc_11_194 (c_X11_isOrder (d := d + 5) hN p3) rfl rfl (by decide) ?_
  refine bw_ifB_ne (b := v2) (tgt := 10) dX11_best_5 (by decide) (fun cc => ?_) (fun cc => ?_)
  · replace h := bu_bt h cc
    refine bv_iconst (v := (-1)) dX11_best_10 (by decide) ?_
    refine bv_istore_n (ls1 := [(0, .ref x0), (1, .int x1), (2, .int (-1))]) dX11_best_11 (by decide) rfl rfl ?_
    refine bv_iconst (v := (-1)) dX11_best_12 (by decide) ?_
    refine bv_istore_n (ls1 := [(0, .ref x0), (1, .int x1), (2, .int (-1)), (3, .int (-1))]) dX11_best_13 (by decide) rfl rfl ?_
    refine bv_iconst (v := 0) dX11_best_14 (by decide) ?_
    refine bv_istore (ls1 := [(0, .ref x0), (1, .int x1), (2, .int (-1)), (3, .int (-1)), (4, .int 0)]) dX11_best_15 (by decide) rfl rfl ?_
    obtain ⟨r4, p5, h⟩ := bu_bd h
    refine v_X11_best_l17 hN q1 1000 _ _ _ _ _ p5 (fun y6 hy => ?_)
    · subst hy
      refine bv_iload_n dX11_best_68 0 rfl ?_
      obtain rfl := Option.some.inj h
      exact bv_iret (x := y6.1) dX11_best_69 rfl ⟨rfl, rfl⟩
  · replace h := bu_bf h cc
    refine bv_iconst (v := (-1)) dX11_best_8 (by decide) ?_
    obtain rfl := Option.some.inj h
    exact bv_iret (x := (-1)) dX11_best_9 rfl ⟨rfl, rfl⟩
def f_X11_stand_l27 (x0 : Nat) (x1 : Int32) (x4 : Int32) : Nat → Int32 → Int32 → Int32 → bm_M → Option (Int32 × Int32 × bm_M)
  | 0, _, _, _, _ => none
  | k + 1, x2, x3, x5, M => (if 30 < x5 then some (x2, x3, M) else ((M.2.2 x0 4).bind fun a1 => (if bm_io a1 8 then ((f_X8_underSeeing M a1 x1 x5 x4).bind fun v4 => ((M.2.2 a1 1).bind fun a6 => (if bm_ia a6 0 x1 = true then ((M.2.2 a1 2).bind fun a9 => (if bm_ia a9 0 x1 = true then (if x2 < v4 then f_X11_stand_l27 x0 x1 x4 k v4 (f_X11_far x5 x4 (M.1 a6 x1.toNatClampNeg) (M.1 a9 x1.toNatClampNeg)) (x5 + 1) (bm_sI (bm_sI M x0 14 x5) x0 15 x4) else (if v4 = x2 then (if x3 ≤ (f_X11_far x5 x4 (M.1 a6 x1.toNatClampNeg) (M.1 a9 x1.toNatClampNeg)) then f_X11_stand_l27 x0 x1 x4 k x2 x3 (x5 + 1) M else f_X11_stand_l27 x0 x1 x4 k v4 (f_X11_far x5 x4 (M.1 a6 x1.toNatClampNeg) (M.1 a9 x1.toNatClampNeg)) (x5 + 1) (bm_sI (bm_sI M x0 14 x5) x0 15 x4)) else f_X11_stand_l27 x0 x1 x4 k x2 x3 (x5 + 1) M)) else none)) else none))) else none)))
set_option maxHeartbeats 4000000 in
set_option maxRecDepth 100000 in
theorem v_X11_stand_l27 {L : bm_L} {d n : Nat} {Q : Option Value → bm_M → Prop} {x0 : Nat} {x1 : Int32} {x4 : Int32} (hN : 181 ≤ n) (q_0 : bm_OK x0 10) : ∀ (k : Nat) (x2 : Int32) (x3 : Int32) (x5 : Int32) (M : bm_M) (r : Int32 × Int32 × bm_M), f_X11_stand_l27 x0 x1 x4 k x2 x3 x5 M = some r → (∀ yy, yy = r → bm_V L m_X11_stand (d + 4) n n n 117 [(0, .ref x0), (1, .int x1), (2, .int yy.1), (3, .int yy.2.1), (4, .int x4)] [] yy.2.2 Q) → bm_V L m_X11_stand (d + 4) n n n 27 [(0, .ref x0), (1, .int x1), (2, .int x2), (3, .int x3), (4, .int x4), (5, .int x5)] [] M Q := by
  intro k
  induction k with
  | zero => intro x2 x3 x5 M r h; cases (show (none : Option (Int32 × Int32 × bm_M)) = some r from h)
  | succ k ih =>
    intro x2 x3 x5 M r h K0
    unfold f_X11_stand_l27 at h
    refine bv_iload dX11_stand_27 5 rfl ?_
    refine bv_bipush (v := 30) dX11_stand_29 (by decide) ?_
    refine bv_icmp_gt (tgt := 117) dX11_stand_31 (by decide) (fun cc => ?_) (fun cc => ?_)
    · replace h := bu_t h cc
      refine bw_ls (ls1 := [(0, .ref x0), (1, .int x1), (2, .int x2), (3, .int x3), (4, .int x4)]) [0, 1, 2, 3, 4] rfl ?_
      obtain rfl := Option.some.inj h
      exact K0 _ rfl
    · replace h := bu_f h cc
      refine bv_aload_n dX11_stand_34 0 rfl ?_
      obtain ⟨a1, e2, h⟩ := bu_bd h
      refine bw_getA (a := a1) hN q_0 e2 dX11_stand_35 fl_11_40 rfl ?_
      refine bv_iload_n dX11_stand_38 1 rfl ?_
      refine bv_iload dX11_stand_39 5 rfl ?_
      refine bv_iload dX11_stand_41 4 rfl ?_
      obtain ⟨q3, h⟩ := bu_io h
      obtain ⟨v4, p5, h⟩ := bu_bd h
      refine bw_callV (As := [.int x1, .int x5, .int x4]) hN q3 ⟨_, _, rfl⟩ dX11_stand_43 mc_11_265 (c_X8_underSeeing (d := d + 0) hN p5) rfl rfl (by decide) ?_
      refine bv_istore (ls1 := [(0, .ref x0), (1, .int x1), (2, .int x2), (3, .int x3), (4, .int x4), (5, .int x5), (6, .int v4)]) dX11_stand_46 (by decide) rfl rfl ?_
      refine bv_iload dX11_stand_48 5 rfl ?_
      refine bv_iload dX11_stand_50 4 rfl ?_
      refine bv_aload_n dX11_stand_52 0 rfl ?_
      refine bw_getA (a := a1) hN q_0 e2 dX11_stand_53 fl_11_40 rfl ?_
      obtain ⟨a6, e7, h⟩ := bu_bd h
      refine bw_getA (a := a6) hN q3 e7 dX11_stand_56 fl_11_158 rfl ?_
      refine bv_iload_n dX11_stand_59 1 rfl ?_
      obtain ⟨r8, h⟩ := bu_ia h
      refine bw_iald hN r8 dX11_stand_60 ?_
      refine bv_aload_n dX11_stand_61 0 rfl ?_
      refine bw_getA (a := a1) hN q_0 e2 dX11_stand_62 fl_11_40 rfl ?_
      obtain ⟨a9, e10, h⟩ := bu_bd h
      refine bw_getA (a := a9) hN q3 e10 dX11_stand_65 fl_11_162 rfl ?_
      refine bv_iload_n dX11_stand_68 1 rfl ?_
      obtain ⟨r11, h⟩ := bu_ia h
      refine bw_iald hN r11 dX11_stand_69 ?_
      refine bw_callS (As := [.int x5, .int x4, .int (M.1 a6 x1.toNatClampNeg), .int (M.1 a9 x1.toNatClampNeg)]) dX11_stand_70 mc_11_268 (c_X11_far (d := d + 3) hN rfl) rfl rfl (by decide) ?_
      refine bv_istore (ls1 := [(0, .ref x0), (1, .int x1), (2, .int x2), (3, .int x3), (4, .int x4), (5, .int x5), (6, .int v4), (7, .int (f_X11_far x5 x4 (M.1 a6 x1.toNatClampNeg) (M.1 a9 x1.toNatClampNeg)))]) dX11_stand_73 (by decide) rfl rfl ?_
      refine bv_iload dX11_stand_75 6 rfl ?_
      refine bv_iload_n dX11_stand_77 2 rfl ?_
      refine bv_icmp_gt (tgt := 93) dX11_stand_78 (by decide) (fun cc => ?_) (fun cc => ?_)
      · replace h := bu_t h cc
        refine bv_iload dX11_stand_93 6 rfl ?_
        refine bv_istore_n (ls1 := [(0, .ref x0), (1, .int x1), (2, .int v4), (3, .int x3), (4, .int x4), (5, .int x5), (6, .int v4), (7, .int (f_X11_far x5 x4 (M.1 a6 x1.toNatClampNeg) (M.1 a9 x1.toNatClampNeg)))]) dX11_stand_95 (by decide) rfl rfl ?_
        refine bv_iload dX11_stand_96 7 rfl ?_
        refine bv_istore_n (ls1 := [(0, .ref x0), (1, .int x1), (2, .int v4), (3, .int (f_X11_far x5 x4 (M.1 a6 x1.toNatClampNeg) (M.1 a9 x1.toNatClampNeg))), (4, .int x4), (5, .int x5), (6, .int v4), (7, .int (f_X11_far x5 x4 (M.1 a6 x1.toNatClampNeg) (M.1 a9 x1.toNatClampNeg)))]) dX11_stand_98 (by decide) rfl rfl ?_
        refine bv_aload_n dX11_stand_99 0 rfl ?_
        refine bv_iload dX11_stand_100 5 rfl ?_
        refine bw_putI hN q_0 dX11_stand_102 fl_11_92 rfl ?_
        refine bv_aload_n dX11_stand_105 0 rfl ?_
        refine bv_iload dX11_stand_106 4 rfl ?_
        refine bw_putI hN q_0 dX11_stand_108 fl_11_96 rfl ?_
        refine bv_iinc (j := 5) (v := (x5 + 1)) (ls1 := [(0, .ref x0), (1, .int x1), (2, .int v4), (3, .int (f_X11_far x5 x4 (M.1 a6 x1.toNatClampNeg) (M.1 a9 x1.toNatClampNeg))), (4, .int x4), (5, .int (x5 + 1)), (6, .int v4), (7, .int (f_X11_far x5 x4 (M.1 a6 x1.toNatClampNeg) (M.1 a9 x1.toNatClampNeg)))]) dX11_stand_111 rfl rfl (by decide) rfl rfl ?_
        refine bv_goto (tgt := 27) dX11_stand_114 (by decide) ?_
        refine bw_ls (ls1 := [(0, .ref x0), (1, .int x1), (2, .int v4), (3, .int (f_X11_far x5 x4 (M.1 a6 x1.toNatClampNeg) (M.1 a9 x1.toNatClampNeg))), (4, .int x4), (5, .int (x5 + 1))]) [0, 1, 2, 3, 4, 5] rfl ?_
        exact ih _ _ _ _ _ h K0
      · replace h := bu_f h cc
        refine bv_iload dX11_stand_81 6 rfl ?_
        refine bv_iload_n dX11_stand_83 2 rfl ?_
        refine bv_icmp_ne (tgt := 111) dX11_stand_84 (by decide) (fun cc => ?_) (fun cc => ?_)
        · replace h := bu_f h cc
          refine bv_iinc (j := 5) (v := (x5 + 1)) (ls1 := [(0, .ref x0), (1, .int x1), (2, .int x2), (3, .int x3), (4, .int x4), (5, .int (x5 + 1)), (6, .int v4), (7, .int (f_X11_far x5 x4 (M.1 a6 x1.toNatClampNeg) (M.1 a9 x1.toNatClampNeg)))]) dX11_stand_111 rfl rfl (by decide) rfl rfl ?_
          refine bv_goto (tgt := 27) dX11_stand_114 (by decide) ?_
          refine bw_ls (ls1 := [(0, .ref x0), (1, .int x1), (2, .int x2), (3, .int x3), (4, .int x4), (5, .int (x5 + 1))]) [0, 1, 2, 3, 4, 5] rfl ?_
          exact ih _ _ _ _ _ h K0
        · replace h := bu_t h cc
          refine bv_iload dX11_stand_87 7 rfl ?_
          refine bv_iload_n dX11_stand_89 3 rfl ?_
          refine bv_icmp_ge (tgt := 111) dX11_stand_90 (by decide) (fun cc => ?_) (fun cc => ?_)
          · replace h := bu_t h cc
            refine bv_iinc (j := 5) (v := (x5 + 1)) (ls1 := [(0, .ref x0), (1, .int x1), (2, .int x2), (3, .int x3), (4, .int x4), (5, .int (x5 + 1)), (6, .int v4), (7, .int (f_X11_far x5 x4 (M.1 a6 x1.toNatClampNeg) (M.1 a9 x1.toNatClampNeg)))]) dX11_stand_111 rfl rfl (by decide) rfl rfl ?_
            refine bv_goto (tgt := 27) dX11_stand_114 (by decide) ?_
            refine bw_ls (ls1 := [(0, .ref x0), (1, .int x1), (2, .int x2), (3, .int x3), (4, .int x4), (5, .int (x5 + 1))]) [0, 1, 2, 3, 4, 5] rfl ?_
            exact ih _ _ _ _ _ h K0
          · replace h := bu_f h cc
            refine bv_iload dX11_stand_93 6 rfl ?_
            refine bv_istore_n (ls1 := [(0, .ref x0), (1, .int x1), (2, .int v4), (3, .int x3), (4, .int x4), (5, .int x5), (6, .int v4), (7, .int (f_X11_far x5 x4 (M.1 a6 x1.toNatClampNeg) (M.1 a9 x1.toNatClampNeg)))]) dX11_stand_95 (by decide) rfl rfl ?_
            refine bv_iload dX11_stand_96 7 rfl ?_
            refine bv_istore_n (ls1 := [(0, .ref x0), (1, .int x1), (2, .int v4), (3, .int (f_X11_far x5 x4 (M.1 a6 x1.toNatClampNeg) (M.1 a9 x1.toNatClampNeg))), (4, .int x4), (5, .int x5), (6, .int v4), (7, .int (f_X11_far x5 x4 (M.1 a6 x1.toNatClampNeg) (M.1 a9 x1.toNatClampNeg)))]) dX11_stand_98 (by decide) rfl rfl ?_
            refine bv_aload_n dX11_stand_99 0 rfl ?_
            refine bv_iload dX11_stand_100 5 rfl ?_
            refine bw_putI hN q_0 dX11_stand_102 fl_11_92 rfl ?_
            refine bv_aload_n dX11_stand_105 0 rfl ?_
            refine bv_iload dX11_stand_106 4 rfl ?_
            refine bw_putI hN q_0 dX11_stand_108 fl_11_96 rfl ?_
            refine bv_iinc (j := 5) (v := (x5 + 1)) (ls1 := [(0, .ref x0), (1, .int x1), (2, .int v4), (3, .int (f_X11_far x5 x4 (M.1 a6 x1.toNatClampNeg) (M.1 a9 x1.toNatClampNeg))), (4, .int x4), (5, .int (x5 + 1)), (6, .int v4), (7, .int (f_X11_far x5 x4 (M.1 a6 x1.toNatClampNeg) (M.1 a9 x1.toNatClampNeg)))]) dX11_stand_111 rfl rfl (by decide) rfl rfl ?_
            refine bv_goto (tgt := 27) dX11_stand_114 (by decide) ?_
            refine bw_ls (ls1 := [(0, .ref x0), (1, .int x1), (2, .int v4), (3, .int (f_X11_far x5 x4 (M.1 a6 x1.toNatClampNeg) (M.1 a9 x1.toNatClampNeg))), (4, .int x4), (5, .int (x5 + 1))]) [0, 1, 2, 3, 4, 5] rfl ?_
            exact ih _ _ _ _ _ h K0
def f_X11_stand_l17 (x0 : Nat) (x1 : Int32) : Nat → Int32 → Int32 → Int32 → bm_M → Option (Int32 × bm_M)
  | 0, _, _, _, _ => none
  | k + 1, x2, x3, x4, M => (if 30 < x4 then some (x2, M) else ((f_X11_stand_l27 x0 x1 x4 1000 x2 x3 0 M).bind fun y3 => f_X11_stand_l17 x0 x1 k y3.1 y3.2.1 (x4 + 1) y3.2.2))
set_option maxHeartbeats 4000000 in
set_option maxRecDepth 100000 in
theorem v_X11_stand_l17 {L : bm_L} {d n : Nat} {Q : Option Value → bm_M → Prop} {x0 : Nat} {x1 : Int32} (hN : 181 ≤ n) (q_0 : bm_OK x0 10) : ∀ (k : Nat) (x2 : Int32) (x3 : Int32) (x4 : Int32) (M : bm_M) (r : Int32 × bm_M), f_X11_stand_l17 x0 x1 k x2 x3 x4 M = some r → (∀ yy, yy = r → bm_V L m_X11_stand (d + 4) n n n 123 [(2, .int yy.1)] [] yy.2 Q) → bm_V L m_X11_stand (d + 4) n n n 17 [(0, .ref x0), (1, .int x1), (2, .int x2), (3, .int x3), (4, .int x4)] [] M Q := by
  intro k
  induction k with
  | zero => intro x2 x3 x4 M r h; cases (show (none : Option (Int32 × bm_M)) = some r from h)
  | succ k ih =>
    intro x2 x3 x4 M r h K0
    unfold f_X11_stand_l17 at h
    refine bv_iload dX11_stand_17 4 rfl ?_
    refine bv_bipush (v := 30) dX11_stand_19 (by decide) ?_
    refine bv_icmp_gt (tgt := 123) dX11_stand_21 (by decide) (fun cc => ?_) (fun cc => ?_)
    · replace h := bu_t h cc
      refine bw_ls (ls1 := [(2, .int x2)]) [2] rfl ?_
      obtain rfl := Option.some.inj h
      exact K0 _ rfl
    · replace h := bu_f h cc
      refine bv_iconst (v := 0) dX11_stand_24 (by decide) ?_
      refine bv_istore (ls1 := [(0, .ref x0), (1, .int x1), (2, .int x2), (3, .int x3), (4, .int x4), (5, .int 0)]) dX11_stand_25 (by decide) rfl rfl ?_
      obtain ⟨r1, p2, h⟩ := bu_bd h
      refine v_X11_stand_l27 hN q_0 1000 _ _ _ _ _ p2 (fun y3 hy => ?_)
      · subst hy
        refine bv_iinc (j := 4) (v := (x4 + 1)) (ls1 := [(0, .ref x0), (1, .int x1), (2, .int y3.1), (3, .int y3.2.1), (4, .int (x4 + 1))]) dX11_stand_117 rfl rfl (by decide) rfl rfl ?_
        refine bv_goto (tgt := 17) dX11_stand_120 (by decide) ?_
        exact ih _ _ _ _ _ h K0
def f_X11_stand (M : bm_M) (x0 : Nat) (x1 : Int32) : Option (Int32 × bm_M) := (if bm_io x0 10 then ((f_X11_isMan M x0 x1).bind fun v2 => (if v2 = true then ((f_X11_stand_l17 x0 x1 1000 (-1) 0 0 M).bind fun y6 => some (y6.1, y6.2)) else some ((-1), M))) else none)
set_option maxHeartbeats 4000000 in
set_option maxRecDepth 100000 in
theorem c_X11_stand {L : bm_L} {d n : Nat} {M : bm_M} {x0 : Nat} {x1 : Int32} {v : Int32 × bm_M} (hN : 181 ≤ n) (h : f_X11_stand M x0 x1 = some v) : bm_C L m_X11_stand (d + 4) n n [.ref x0, .int x1] M (fun r M' => r = some (.int v.1) ∧ M' = v.2) := by
  refine bm_C.ofV (by decide) (Nat.le_of_ble_eq_true rfl) ?_
  show bm_V L m_X11_stand (d + 4) n n n 0 [(0, .ref x0), (1, .int x1)] [] M _
  unfold f_X11_stand at h
  refine bv_aload_n dX11_stand_0 0 rfl ?_
  refine bv_iload_n dX11_stand_1 1 rfl ?_
  obtain ⟨q1, h⟩ := bu_io h
  obtain ⟨v2, p3, h⟩ := bu_bd h
  refine bw_callV (As := [.int x1]) hN q1 ⟨_, _, rfl⟩ dX11_stand_2 mc_11_147 (c_X11_isMan (d := d + 3) hN p3) rfl rfl (by decide) ?_
  refine bw_ifB_ne (b := v2) (tgt := 10) dX11_stand_5 (by decide) (fun cc => ?_) (fun cc => ?_)
  · replace h := bu_bt h cc
    refine bv_iconst (v := (-1)) dX11_stand_10 (by decide) ?_
    refine bv_istore_n (ls1 := [(0, .ref x0), (1, .int x1), (2, .int (-1))]) dX11_stand_11 (by decide) rfl rfl ?_
    refine bv_iconst (v := 0) dX11_stand_12 (by decide) ?_
    refine bv_istore_n (ls1 := [(0, .ref x0), (1, .int x1), (2, .int (-1)), (3, .int 0)]) dX11_stand_13 (by decide) rfl rfl ?_
    refine bv_iconst (v := 0) dX11_stand_14 (by decide) ?_
    refine bv_istore (ls1 := [(0, .ref x0), (1, .int x1), (2, .int (-1)), (3, .int 0), (4, .int 0)]) dX11_stand_15 (by decide) rfl rfl ?_
    obtain ⟨r4, p5, h⟩ := bu_bd h
    refine v_X11_stand_l17 hN q1 1000 _ _ _ _ _ p5 (fun y6 hy => ?_)
    · subst hy
      refine bv_iload_n dX11_stand_123 0 rfl ?_
      obtain rfl := Option.some.inj h
      exact bv_iret (x := y6.1) dX11_stand_124 rfl ⟨rfl, rfl⟩
  · replace h := bu_bf h cc
    refine bv_iconst (v := (-1)) dX11_stand_8 (by decide) ?_
    obtain rfl := Option.some.inj h
    exact bv_iret (x := (-1)) dX11_stand_9 rfl ⟨rfl, rfl⟩
def f_X11_hide_l23 (x0 : Nat) (x1 : Int32) (x3 : Int32) : Nat → Int32 → Int32 → bm_M → Option (Int32 × bm_M)
  | 0, _, _, _ => none
  | k + 1, x2, x4, M => (if 30 < x4 then some (x2, M) else ((M.2.2 x0 4).bind fun a1 => (if bm_io a1 8 then ((M.2.2 a1 1).bind fun a4 => (if bm_ia a4 0 x1 = true then ((M.2.2 a1 2).bind fun a7 => (if bm_ia a7 0 x1 = true then (if x2 = (-1) then ((f_X8_foesSeeing M a1 x1 x4 x3).bind fun v10 => (if v10 = 0 then ((f_X8_underSeeing M a1 x1 x4 x3).bind fun v12 => (if v12 ≤ 0 then f_X11_hide_l23 x0 x1 x3 k x2 (x4 + 1) M else f_X11_hide_l23 x0 x1 x3 k (f_X11_far x4 x3 (M.1 a4 x1.toNatClampNeg) (M.1 a7 x1.toNatClampNeg)) (x4 + 1) (bm_sI (bm_sI M x0 14 x4) x0 15 x3))) else f_X11_hide_l23 x0 x1 x3 k x2 (x4 + 1) M)) else (if x2 ≤ (f_X11_far x4 x3 (M.1 a4 x1.toNatClampNeg) (M.1 a7 x1.toNatClampNeg)) then f_X11_hide_l23 x0 x1 x3 k x2 (x4 + 1) M else ((f_X8_foesSeeing M a1 x1 x4 x3).bind fun v14 => (if v14 = 0 then ((f_X8_underSeeing M a1 x1 x4 x3).bind fun v16 => (if v16 ≤ 0 then f_X11_hide_l23 x0 x1 x3 k x2 (x4 + 1) M else f_X11_hide_l23 x0 x1 x3 k (f_X11_far x4 x3 (M.1 a4 x1.toNatClampNeg) (M.1 a7 x1.toNatClampNeg)) (x4 + 1) (bm_sI (bm_sI M x0 14 x4) x0 15 x3))) else f_X11_hide_l23 x0 x1 x3 k x2 (x4 + 1) M)))) else none)) else none)) else none)))
set_option maxHeartbeats 4000000 in
set_option maxRecDepth 100000 in
theorem v_X11_hide_l23 {L : bm_L} {d n : Nat} {Q : Option Value → bm_M → Prop} {x0 : Nat} {x1 : Int32} {x3 : Int32} (hN : 181 ≤ n) (q_0 : bm_OK x0 10) : ∀ (k : Nat) (x2 : Int32) (x4 : Int32) (M : bm_M) (r : Int32 × bm_M), f_X11_hide_l23 x0 x1 x3 k x2 x4 M = some r → (∀ yy, yy = r → bm_V L m_X11_hide (d + 4) n n n 127 [(0, .ref x0), (1, .int x1), (2, .int yy.1), (3, .int x3)] [] yy.2 Q) → bm_V L m_X11_hide (d + 4) n n n 23 [(0, .ref x0), (1, .int x1), (2, .int x2), (3, .int x3), (4, .int x4)] [] M Q := by
  intro k
  induction k with
  | zero => intro x2 x4 M r h; cases (show (none : Option (Int32 × bm_M)) = some r from h)
  | succ k ih =>
    intro x2 x4 M r h K0
    unfold f_X11_hide_l23 at h
    refine bv_iload dX11_hide_23 4 rfl ?_
    refine bv_bipush (v := 30) dX11_hide_25 (by decide) ?_
    refine bv_icmp_gt (tgt := 127) dX11_hide_27 (by decide) (fun cc => ?_) (fun cc => ?_)
    · replace h := bu_t h cc
      refine bw_ls (ls1 := [(0, .ref x0), (1, .int x1), (2, .int x2), (3, .int x3)]) [0, 1, 2, 3] rfl ?_
      obtain rfl := Option.some.inj h
      exact K0 _ rfl
    · replace h := bu_f h cc
      refine bv_iload dX11_hide_30 4 rfl ?_
      refine bv_iload_n dX11_hide_32 3 rfl ?_
      refine bv_aload_n dX11_hide_33 0 rfl ?_
      obtain ⟨a1, e2, h⟩ := bu_bd h
      refine bw_getA (a := a1) hN q_0 e2 dX11_hide_34 fl_11_40 rfl ?_
      obtain ⟨q3, h⟩ := bu_io h
      obtain ⟨a4, e5, h⟩ := bu_bd h
      refine bw_getA (a := a4) hN q3 e5 dX11_hide_37 fl_11_158 rfl ?_
      refine bv_iload_n dX11_hide_40 1 rfl ?_
      obtain ⟨r6, h⟩ := bu_ia h
      refine bw_iald hN r6 dX11_hide_41 ?_
      refine bv_aload_n dX11_hide_42 0 rfl ?_
      refine bw_getA (a := a1) hN q_0 e2 dX11_hide_43 fl_11_40 rfl ?_
      obtain ⟨a7, e8, h⟩ := bu_bd h
      refine bw_getA (a := a7) hN q3 e8 dX11_hide_46 fl_11_162 rfl ?_
      refine bv_iload_n dX11_hide_49 1 rfl ?_
      obtain ⟨r9, h⟩ := bu_ia h
      refine bw_iald hN r9 dX11_hide_50 ?_
      refine bw_callS (As := [.int x4, .int x3, .int (M.1 a4 x1.toNatClampNeg), .int (M.1 a7 x1.toNatClampNeg)]) dX11_hide_51 mc_11_268 (c_X11_far (d := d + 3) hN rfl) rfl rfl (by decide) ?_
      refine bv_istore (ls1 := [(0, .ref x0), (1, .int x1), (2, .int x2), (3, .int x3), (4, .int x4), (5, .int (f_X11_far x4 x3 (M.1 a4 x1.toNatClampNeg) (M.1 a7 x1.toNatClampNeg)))]) dX11_hide_54 (by decide) rfl rfl ?_
      refine bv_iload_n dX11_hide_56 2 rfl ?_
      refine bv_iconst (v := (-1)) dX11_hide_57 (by decide) ?_
      refine bv_icmp_eq (tgt := 67) dX11_hide_58 (by decide) (fun cc => ?_) (fun cc => ?_)
      · replace h := bu_t h cc
        refine bv_iconst (v := 1) dX11_hide_67 (by decide) ?_
        refine bv_goto (tgt := 72) dX11_hide_68 (by decide) ?_
        refine bv_istore (ls1 := [(0, .ref x0), (1, .int x1), (2, .int x2), (3, .int x3), (4, .int x4), (5, .int (f_X11_far x4 x3 (M.1 a4 x1.toNatClampNeg) (M.1 a7 x1.toNatClampNeg))), (6, .int 1)]) dX11_hide_72 (by decide) rfl rfl ?_
        refine bv_iload dX11_hide_74 6 rfl ?_
        refine bv_if_eq (tgt := 121) dX11_hide_76 (by decide) (fun cc => ?_) (fun cc => ?_)
        · exact absurd cc (by decide)
        refine bv_aload_n dX11_hide_79 0 rfl ?_
        refine bw_getA (a := a1) hN q_0 e2 dX11_hide_80 fl_11_40 rfl ?_
        refine bv_iload_n dX11_hide_83 1 rfl ?_
        refine bv_iload dX11_hide_84 4 rfl ?_
        refine bv_iload_n dX11_hide_86 3 rfl ?_
        obtain ⟨v10, p11, h⟩ := bu_bd h
        refine bw_callV (As := [.int x1, .int x4, .int x3]) hN q3 ⟨_, _, rfl⟩ dX11_hide_87 mc_11_248 (c_X8_foesSeeing (d := d + 0) hN p11) rfl rfl (by decide) ?_
        refine bv_if_ne (tgt := 121) dX11_hide_90 (by decide) (fun cc => ?_) (fun cc => ?_)
        · replace h := bu_f h cc
          refine bv_iinc (j := 4) (v := (x4 + 1)) (ls1 := [(0, .ref x0), (1, .int x1), (2, .int x2), (3, .int x3), (4, .int (x4 + 1)), (5, .int (f_X11_far x4 x3 (M.1 a4 x1.toNatClampNeg) (M.1 a7 x1.toNatClampNeg))), (6, .int 1)]) dX11_hide_121 rfl rfl (by decide) rfl rfl ?_
          refine bv_goto (tgt := 23) dX11_hide_124 (by decide) ?_
          refine bw_ls (ls1 := [(0, .ref x0), (1, .int x1), (2, .int x2), (3, .int x3), (4, .int (x4 + 1))]) [0, 1, 2, 3, 4] rfl ?_
          exact ih _ _ _ _ h K0
        · replace h := bu_t h cc
          refine bv_aload_n dX11_hide_93 0 rfl ?_
          refine bw_getA (a := a1) hN q_0 e2 dX11_hide_94 fl_11_40 rfl ?_
          refine bv_iload_n dX11_hide_97 1 rfl ?_
          refine bv_iload dX11_hide_98 4 rfl ?_
          refine bv_iload_n dX11_hide_100 3 rfl ?_
          obtain ⟨v12, p13, h⟩ := bu_bd h
          refine bw_callV (As := [.int x1, .int x4, .int x3]) hN q3 ⟨_, _, rfl⟩ dX11_hide_101 mc_11_265 (c_X8_underSeeing (d := d + 0) hN p13) rfl rfl (by decide) ?_
          refine bv_if_le (tgt := 121) dX11_hide_104 (by decide) (fun cc => ?_) (fun cc => ?_)
          · replace h := bu_t h cc
            refine bv_iinc (j := 4) (v := (x4 + 1)) (ls1 := [(0, .ref x0), (1, .int x1), (2, .int x2), (3, .int x3), (4, .int (x4 + 1)), (5, .int (f_X11_far x4 x3 (M.1 a4 x1.toNatClampNeg) (M.1 a7 x1.toNatClampNeg))), (6, .int 1)]) dX11_hide_121 rfl rfl (by decide) rfl rfl ?_
            refine bv_goto (tgt := 23) dX11_hide_124 (by decide) ?_
            refine bw_ls (ls1 := [(0, .ref x0), (1, .int x1), (2, .int x2), (3, .int x3), (4, .int (x4 + 1))]) [0, 1, 2, 3, 4] rfl ?_
            exact ih _ _ _ _ h K0
          · replace h := bu_f h cc
            refine bv_iload dX11_hide_107 5 rfl ?_
            refine bv_istore_n (ls1 := [(0, .ref x0), (1, .int x1), (2, .int (f_X11_far x4 x3 (M.1 a4 x1.toNatClampNeg) (M.1 a7 x1.toNatClampNeg))), (3, .int x3), (4, .int x4), (5, .int (f_X11_far x4 x3 (M.1 a4 x1.toNatClampNeg) (M.1 a7 x1.toNatClampNeg))), (6, .int 1)]) dX11_hide_109 (by decide) rfl rfl ?_
            refine bv_aload_n dX11_hide_110 0 rfl ?_
            refine bv_iload dX11_hide_111 4 rfl ?_
            refine bw_putI hN q_0 dX11_hide_113 fl_11_92 rfl ?_
            refine bv_aload_n dX11_hide_116 0 rfl ?_
            refine bv_iload_n dX11_hide_117 3 rfl ?_
            refine bw_putI hN q_0 dX11_hide_118 fl_11_96 rfl ?_
            refine bv_iinc (j := 4) (v := (x4 + 1)) (ls1 := [(0, .ref x0), (1, .int x1), (2, .int (f_X11_far x4 x3 (M.1 a4 x1.toNatClampNeg) (M.1 a7 x1.toNatClampNeg))), (3, .int x3), (4, .int (x4 + 1)), (5, .int (f_X11_far x4 x3 (M.1 a4 x1.toNatClampNeg) (M.1 a7 x1.toNatClampNeg))), (6, .int 1)]) dX11_hide_121 rfl rfl (by decide) rfl rfl ?_
            refine bv_goto (tgt := 23) dX11_hide_124 (by decide) ?_
            refine bw_ls (ls1 := [(0, .ref x0), (1, .int x1), (2, .int (f_X11_far x4 x3 (M.1 a4 x1.toNatClampNeg) (M.1 a7 x1.toNatClampNeg))), (3, .int x3), (4, .int (x4 + 1))]) [0, 1, 2, 3, 4] rfl ?_
            exact ih _ _ _ _ h K0
      · replace h := bu_f h cc
        refine bv_iload dX11_hide_61 5 rfl ?_
        refine bv_iload_n dX11_hide_63 2 rfl ?_
        refine bv_icmp_ge (tgt := 71) dX11_hide_64 (by decide) (fun cc => ?_) (fun cc => ?_)
        · replace h := bu_t h cc
          refine bv_iconst (v := 0) dX11_hide_71 (by decide) ?_
          refine bv_istore (ls1 := [(0, .ref x0), (1, .int x1), (2, .int x2), (3, .int x3), (4, .int x4), (5, .int (f_X11_far x4 x3 (M.1 a4 x1.toNatClampNeg) (M.1 a7 x1.toNatClampNeg))), (6, .int 0)]) dX11_hide_72 (by decide) rfl rfl ?_
          refine bv_iload dX11_hide_74 6 rfl ?_
          refine bv_if_eq (tgt := 121) dX11_hide_76 (by decide) (fun cc => ?_) (fun cc => ?_)
          rotate_left
          · exact absurd cc (by decide)
          refine bv_iinc (j := 4) (v := (x4 + 1)) (ls1 := [(0, .ref x0), (1, .int x1), (2, .int x2), (3, .int x3), (4, .int (x4 + 1)), (5, .int (f_X11_far x4 x3 (M.1 a4 x1.toNatClampNeg) (M.1 a7 x1.toNatClampNeg))), (6, .int 0)]) dX11_hide_121 rfl rfl (by decide) rfl rfl ?_
          refine bv_goto (tgt := 23) dX11_hide_124 (by decide) ?_
          refine bw_ls (ls1 := [(0, .ref x0), (1, .int x1), (2, .int x2), (3, .int x3), (4, .int (x4 + 1))]) [0, 1, 2, 3, 4] rfl ?_
          exact ih _ _ _ _ h K0
        · replace h := bu_f h cc
          refine bv_iconst (v := 1) dX11_hide_67 (by decide) ?_
          refine bv_goto (tgt := 72) dX11_hide_68 (by decide) ?_
          refine bv_istore (ls1 := [(0, .ref x0), (1, .int x1), (2, .int x2), (3, .int x3), (4, .int x4), (5, .int (f_X11_far x4 x3 (M.1 a4 x1.toNatClampNeg) (M.1 a7 x1.toNatClampNeg))), (6, .int 1)]) dX11_hide_72 (by decide) rfl rfl ?_
          refine bv_iload dX11_hide_74 6 rfl ?_
          refine bv_if_eq (tgt := 121) dX11_hide_76 (by decide) (fun cc => ?_) (fun cc => ?_)
          · exact absurd cc (by decide)
          refine bv_aload_n dX11_hide_79 0 rfl ?_
          refine bw_getA (a := a1) hN q_0 e2 dX11_hide_80 fl_11_40 rfl ?_
          refine bv_iload_n dX11_hide_83 1 rfl ?_
          refine bv_iload dX11_hide_84 4 rfl ?_
          refine bv_iload_n dX11_hide_86 3 rfl ?_
          obtain ⟨v14, p15, h⟩ := bu_bd h
          refine bw_callV (As := [.int x1, .int x4, .int x3]) hN q3 ⟨_, _, rfl⟩ dX11_hide_87 mc_11_248 (c_X8_foesSeeing (d := d + 0) hN p15) rfl rfl (by decide) ?_
          refine bv_if_ne (tgt := 121) dX11_hide_90 (by decide) (fun cc => ?_) (fun cc => ?_)
          · replace h := bu_f h cc
            refine bv_iinc (j := 4) (v := (x4 + 1)) (ls1 := [(0, .ref x0), (1, .int x1), (2, .int x2), (3, .int x3), (4, .int (x4 + 1)), (5, .int (f_X11_far x4 x3 (M.1 a4 x1.toNatClampNeg) (M.1 a7 x1.toNatClampNeg))), (6, .int 1)]) dX11_hide_121 rfl rfl (by decide) rfl rfl ?_
            refine bv_goto (tgt := 23) dX11_hide_124 (by decide) ?_
            refine bw_ls (ls1 := [(0, .ref x0), (1, .int x1), (2, .int x2), (3, .int x3), (4, .int (x4 + 1))]) [0, 1, 2, 3, 4] rfl ?_
            exact ih _ _ _ _ h K0
          · replace h := bu_t h cc
            refine bv_aload_n dX11_hide_93 0 rfl ?_
            refine bw_getA (a := a1) hN q_0 e2 dX11_hide_94 fl_11_40 rfl ?_
            refine bv_iload_n dX11_hide_97 1 rfl ?_
            refine bv_iload dX11_hide_98 4 rfl ?_
            refine bv_iload_n dX11_hide_100 3 rfl ?_
            obtain ⟨v16, p17, h⟩ := bu_bd h
            refine bw_callV (As := [.int x1, .int x4, .int x3]) hN q3 ⟨_, _, rfl⟩ dX11_hide_101 mc_11_265 (c_X8_underSeeing (d := d + 0) hN p17) rfl rfl (by decide) ?_
            refine bv_if_le (tgt := 121) dX11_hide_104 (by decide) (fun cc => ?_) (fun cc => ?_)
            · replace h := bu_t h cc
              refine bv_iinc (j := 4) (v := (x4 + 1)) (ls1 := [(0, .ref x0), (1, .int x1), (2, .int x2), (3, .int x3), (4, .int (x4 + 1)), (5, .int (f_X11_far x4 x3 (M.1 a4 x1.toNatClampNeg) (M.1 a7 x1.toNatClampNeg))), (6, .int 1)]) dX11_hide_121 rfl rfl (by decide) rfl rfl ?_
              refine bv_goto (tgt := 23) dX11_hide_124 (by decide) ?_
              refine bw_ls (ls1 := [(0, .ref x0), (1, .int x1), (2, .int x2), (3, .int x3), (4, .int (x4 + 1))]) [0, 1, 2, 3, 4] rfl ?_
              exact ih _ _ _ _ h K0
            · replace h := bu_f h cc
              refine bv_iload dX11_hide_107 5 rfl ?_
              refine bv_istore_n (ls1 := [(0, .ref x0), (1, .int x1), (2, .int (f_X11_far x4 x3 (M.1 a4 x1.toNatClampNeg) (M.1 a7 x1.toNatClampNeg))), (3, .int x3), (4, .int x4), (5, .int (f_X11_far x4 x3 (M.1 a4 x1.toNatClampNeg) (M.1 a7 x1.toNatClampNeg))), (6, .int 1)]) dX11_hide_109 (by decide) rfl rfl ?_
              refine bv_aload_n dX11_hide_110 0 rfl ?_
              refine bv_iload dX11_hide_111 4 rfl ?_
              refine bw_putI hN q_0 dX11_hide_113 fl_11_92 rfl ?_
              refine bv_aload_n dX11_hide_116 0 rfl ?_
              refine bv_iload_n dX11_hide_117 3 rfl ?_
              refine bw_putI hN q_0 dX11_hide_118 fl_11_96 rfl ?_
              refine bv_iinc (j := 4) (v := (x4 + 1)) (ls1 := [(0, .ref x0), (1, .int x1), (2, .int (f_X11_far x4 x3 (M.1 a4 x1.toNatClampNeg) (M.1 a7 x1.toNatClampNeg))), (3, .int x3), (4, .int (x4 + 1)), (5, .int (f_X11_far x4 x3 (M.1 a4 x1.toNatClampNeg) (M.1 a7 x1.toNatClampNeg))), (6, .int 1)]) dX11_hide_121 rfl rfl (by decide) rfl rfl ?_
              refine bv_goto (tgt := 23) dX11_hide_124 (by decide) ?_
              refine bw_ls (ls1 := [(0, .ref x0), (1, .int x1), (2, .int (f_X11_far x4 x3 (M.1 a4 x1.toNatClampNeg) (M.1 a7 x1.toNatClampNeg))), (3, .int x3), (4, .int (x4 + 1))]) [0, 1, 2, 3, 4] rfl ?_
              exact ih _ _ _ _ h K0
def f_X11_hide_l14 (x0 : Nat) (x1 : Int32) : Nat → Int32 → Int32 → bm_M → Option (Int32 × bm_M)
  | 0, _, _, _ => none
  | k + 1, x2, x3, M => (if 30 < x3 then some (x2, M) else ((f_X11_hide_l23 x0 x1 x3 1000 x2 0 M).bind fun y3 => f_X11_hide_l14 x0 x1 k y3.1 (x3 + 1) y3.2))
set_option maxHeartbeats 4000000 in
set_option maxRecDepth 100000 in
theorem v_X11_hide_l14 {L : bm_L} {d n : Nat} {Q : Option Value → bm_M → Prop} {x0 : Nat} {x1 : Int32} (hN : 181 ≤ n) (q_0 : bm_OK x0 10) : ∀ (k : Nat) (x2 : Int32) (x3 : Int32) (M : bm_M) (r : Int32 × bm_M), f_X11_hide_l14 x0 x1 k x2 x3 M = some r → (∀ yy, yy = r → bm_V L m_X11_hide (d + 4) n n n 133 [(2, .int yy.1)] [] yy.2 Q) → bm_V L m_X11_hide (d + 4) n n n 14 [(0, .ref x0), (1, .int x1), (2, .int x2), (3, .int x3)] [] M Q := by
  intro k
  induction k with
  | zero => intro x2 x3 M r h; cases (show (none : Option (Int32 × bm_M)) = some r from h)
  | succ k ih =>
    intro x2 x3 M r h K0
    unfold f_X11_hide_l14 at h
    refine bv_iload_n dX11_hide_14 3 rfl ?_
    refine bv_bipush (v := 30) dX11_hide_15 (by decide) ?_
    refine bv_icmp_gt (tgt := 133) dX11_hide_17 (by decide) (fun cc => ?_) (fun cc => ?_)
    · replace h := bu_t h cc
      refine bw_ls (ls1 := [(2, .int x2)]) [2] rfl ?_
      obtain rfl := Option.some.inj h
      exact K0 _ rfl
    · replace h := bu_f h cc
      refine bv_iconst (v := 0) dX11_hide_20 (by decide) ?_
      refine bv_istore (ls1 := [(0, .ref x0), (1, .int x1), (2, .int x2), (3, .int x3), (4, .int 0)]) dX11_hide_21 (by decide) rfl rfl ?_
      obtain ⟨r1, p2, h⟩ := bu_bd h
      refine v_X11_hide_l23 hN q_0 1000 _ _ _ _ p2 (fun y3 hy => ?_)
      · subst hy
        refine bv_iinc (j := 3) (v := (x3 + 1)) (ls1 := [(0, .ref x0), (1, .int x1), (2, .int y3.1), (3, .int (x3 + 1))]) dX11_hide_127 rfl rfl (by decide) rfl rfl ?_
        refine bv_goto (tgt := 14) dX11_hide_130 (by decide) ?_
        exact ih _ _ _ _ h K0
def f_X11_hide (M : bm_M) (x0 : Nat) (x1 : Int32) : Option (Int32 × bm_M) := (if bm_io x0 10 then ((f_X11_isMan M x0 x1).bind fun v2 => (if v2 = true then ((f_X11_hide_l14 x0 x1 1000 (-1) 0 M).bind fun y6 => some (y6.1, y6.2)) else some ((-1), M))) else none)
set_option maxHeartbeats 4000000 in
set_option maxRecDepth 100000 in
theorem c_X11_hide {L : bm_L} {d n : Nat} {M : bm_M} {x0 : Nat} {x1 : Int32} {v : Int32 × bm_M} (hN : 181 ≤ n) (h : f_X11_hide M x0 x1 = some v) : bm_C L m_X11_hide (d + 4) n n [.ref x0, .int x1] M (fun r M' => r = some (.int v.1) ∧ M' = v.2) := by
  refine bm_C.ofV (by decide) (Nat.le_of_ble_eq_true rfl) ?_
  show bm_V L m_X11_hide (d + 4) n n n 0 [(0, .ref x0), (1, .int x1)] [] M _
  unfold f_X11_hide at h
  refine bv_aload_n dX11_hide_0 0 rfl ?_
  refine bv_iload_n dX11_hide_1 1 rfl ?_
  obtain ⟨q1, h⟩ := bu_io h
  obtain ⟨v2, p3, h⟩ := bu_bd h
  refine bw_callV (As := [.int x1]) hN q1 ⟨_, _, rfl⟩ dX11_hide_2 mc_11_147 (c_X11_isMan (d := d + 3) hN p3) rfl rfl (by decide) ?_
  refine bw_ifB_ne (b := v2) (tgt := 10) dX11_hide_5 (by decide) (fun cc => ?_) (fun cc => ?_)
  · replace h := bu_bt h cc
    refine bv_iconst (v := (-1)) dX11_hide_10 (by decide) ?_
    refine bv_istore_n (ls1 := [(0, .ref x0), (1, .int x1), (2, .int (-1))]) dX11_hide_11 (by decide) rfl rfl ?_
    refine bv_iconst (v := 0) dX11_hide_12 (by decide) ?_
    refine bv_istore_n (ls1 := [(0, .ref x0), (1, .int x1), (2, .int (-1)), (3, .int 0)]) dX11_hide_13 (by decide) rfl rfl ?_
    obtain ⟨r4, p5, h⟩ := bu_bd h
    refine v_X11_hide_l14 hN q1 1000 _ _ _ _ p5 (fun y6 hy => ?_)
    · subst hy
      refine bv_iload_n dX11_hide_133 0 rfl ?_
      obtain rfl := Option.some.inj h
      exact bv_iret (x := y6.1) dX11_hide_134 rfl ⟨rfl, rfl⟩
  · replace h := bu_bf h cc
    refine bv_iconst (v := (-1)) dX11_hide_8 (by decide) ?_
    obtain rfl := Option.some.inj h
    exact bv_iret (x := (-1)) dX11_hide_9 rfl ⟨rfl, rfl⟩
theorem bm_lk2 {x : Int32} {a b dd : Int} (h0 : ¬ x = 0) (h1 : ¬ x = 1) : Op.lookupswitch.offset [(0, a), (1, b)] dd x.toInt = dd := by
  have k0 : ¬ (0 : Int) = x.toInt := fun q => h0 (Int32.toInt_inj.mp q.symm)
  have k1 : ¬ (1 : Int) = x.toInt := fun q => h1 (Int32.toInt_inj.mp q.symm)
  simp [Op.lookupswitch.offset, k0, k1]
def f_X11_cell (M : bm_M) (x0 : Nat) (x1 : Int32) : Option (Int32) := (if x1 = 0 then (if bm_io x0 10 then some (M.1 x0 14) else none) else (if x1 = 1 then (if bm_io x0 10 then some (M.1 x0 15) else none) else some (-1)))
set_option maxHeartbeats 4000000 in
set_option maxRecDepth 100000 in
theorem c_X11_cell {L : bm_L} {d n : Nat} {M : bm_M} {x0 : Nat} {x1 : Int32} {v : Int32} (hN : 181 ≤ n) (h : f_X11_cell M x0 x1 = some v) : bm_C L m_X11_cell d n n [.ref x0, .int x1] M (fun r M' => r = some (.int v) ∧ M' = M) := by
  refine bm_C.ofV (by decide) (Nat.le_of_ble_eq_true rfl) ?_
  show bm_V L m_X11_cell d n n n 0 [(0, .ref x0), (1, .int x1)] [] M _
  unfold f_X11_cell at h
  refine bv_iload_n dX11_cell_0 1 rfl ?_
  by_cases c1 : x1 = 0
  · replace h := bu_t h c1
    refine bv_lookup (tgt := 28) dX11_cell_1 (by decide) (by rw [c1]) (by decide) ?_
    refine bv_aload_n dX11_cell_28 0 rfl ?_
    obtain ⟨q2, h⟩ := bu_io h
    refine bw_getI hN q2 dX11_cell_29 fl_11_92 rfl ?_
    obtain rfl := Option.some.inj h
    exact bv_iret (x := (M.1 x0 14)) dX11_cell_32 rfl ⟨rfl, rfl⟩
  · replace h := bu_f h c1
    by_cases c3 : x1 = 1
    · replace h := bu_t h c3
      refine bv_lookup (tgt := 33) dX11_cell_1 (by decide) (by rw [c3]) (by decide) ?_
      refine bv_aload_n dX11_cell_33 0 rfl ?_
      obtain ⟨q4, h⟩ := bu_io h
      refine bw_getI hN q4 dX11_cell_34 fl_11_96 rfl ?_
      obtain rfl := Option.some.inj h
      exact bv_iret (x := (M.1 x0 15)) dX11_cell_37 rfl ⟨rfl, rfl⟩
    · replace h := bu_f h c3
      refine bv_lookup (off := 37) (tgt := 38) dX11_cell_1 (by decide) (bm_lk2 c1 c3) (by decide) ?_
      refine bv_iconst (v := (-1)) dX11_cell_38 (by decide) ?_
      obtain rfl := Option.some.inj h
      exact bv_iret (x := (-1)) dX11_cell_39 rfl ⟨rfl, rfl⟩
def f_X11_meant (M : bm_M) (x0 : Nat) : Option (Int32 × bm_M) := (if bm_io x0 10 then ((M.2.2 x0 11).bind fun a2 => ((M.2.2 x0 0).bind fun a4 => ((M.2.2 x0 2).bind fun a6 => (if bm_io a2 2 then ((f_X2_weigh M a2 a4 a6).bind fun v9 => ((v9.2.2.2 x0 0).bind fun a11 => (if bm_io a11 9 then some (v9.1, (bm_sI v9.2 a11 1 0)) else none))) else none)))) else none)
set_option maxHeartbeats 4000000 in
set_option maxRecDepth 100000 in
theorem c_X11_meant {L : bm_L} {d n : Nat} {M : bm_M} {x0 : Nat} {v : Int32 × bm_M} (hN : 181 ≤ n) (h : f_X11_meant M x0 = some v) : bm_C L m_X11_meant (d + 3) n n [.ref x0] M (fun r M' => r = some (.int v.1) ∧ M' = v.2) := by
  refine bm_C.ofV (by decide) (Nat.le_of_ble_eq_true rfl) ?_
  show bm_V L m_X11_meant (d + 3) n n n 0 [(0, .ref x0)] [] M _
  unfold f_X11_meant at h
  refine bv_aload_n dX11_meant_0 0 rfl ?_
  obtain ⟨q1, h⟩ := bu_io h
  obtain ⟨a2, e3, h⟩ := bu_bd h
  refine bw_getA (a := a2) hN q1 e3 dX11_meant_1 fl_11_81 rfl ?_
  refine bv_aload_n dX11_meant_4 0 rfl ?_
  obtain ⟨a4, e5, h⟩ := bu_bd h
  refine bw_getA (a := a4) hN q1 e5 dX11_meant_5 fl_11_12 rfl ?_
  refine bv_aload_n dX11_meant_8 0 rfl ?_
  obtain ⟨a6, e7, h⟩ := bu_bd h
  refine bw_getA (a := a6) hN q1 e7 dX11_meant_9 fl_11_28 rfl ?_
  obtain ⟨q8, h⟩ := bu_io h
  obtain ⟨v9, p10, h⟩ := bu_bd h
  refine bw_callV (As := [.ref a4, .ref a6]) hN q8 ⟨_, _, rfl⟩ dX11_meant_12 mc_11_272 (c_X2_weigh (d := d + 0) hN p10) rfl rfl (by decide) ?_
  refine bv_istore_n (ls1 := [(0, .ref x0), (1, .int v9.1)]) dX11_meant_15 (by decide) rfl rfl ?_
  refine bv_aload_n dX11_meant_16 0 rfl ?_
  obtain ⟨a11, e12, h⟩ := bu_bd h
  refine bw_getA (a := a11) hN q1 e12 dX11_meant_17 fl_11_12 rfl ?_
  refine bv_iconst (v := 0) dX11_meant_20 (by decide) ?_
  obtain ⟨q13, h⟩ := bu_io h
  refine bw_putI hN q13 dX11_meant_21 fl_11_102 rfl ?_
  refine bv_iload_n dX11_meant_24 1 rfl ?_
  obtain rfl := Option.some.inj h
  exact bv_iret (x := v9.1) dX11_meant_25 rfl ⟨rfl, rfl⟩
def f_X11_wrong (M : bm_M) (x0 : Nat) : Option (Int32) := (if bm_io x0 10 then ((M.2.2 x0 11).bind fun a2 => (if bm_io a2 2 then some (M.1 a2 0) else none)) else none)
set_option maxHeartbeats 4000000 in
set_option maxRecDepth 100000 in
theorem c_X11_wrong {L : bm_L} {d n : Nat} {M : bm_M} {x0 : Nat} {v : Int32} (hN : 181 ≤ n) (h : f_X11_wrong M x0 = some v) : bm_C L m_X11_wrong d n n [.ref x0] M (fun r M' => r = some (.int v) ∧ M' = M) := by
  refine bm_C.ofV (by decide) (Nat.le_of_ble_eq_true rfl) ?_
  show bm_V L m_X11_wrong d n n n 0 [(0, .ref x0)] [] M _
  unfold f_X11_wrong at h
  refine bv_aload_n dX11_wrong_0 0 rfl ?_
  obtain ⟨q1, h⟩ := bu_io h
  obtain ⟨a2, e3, h⟩ := bu_bd h
  refine bw_getA (a := a2) hN q1 e3 dX11_wrong_1 fl_11_81 rfl ?_
  obtain ⟨q4, h⟩ := bu_io h
  refine bw_getI hN q4 dX11_wrong_4 fl_11_276 rfl ?_
  obtain rfl := Option.some.inj h
  exact bv_iret (x := (M.1 a2 0)) dX11_wrong_7 rfl ⟨rfl, rfl⟩
def f_X11_look (M : bm_M) (x0 : Nat) : Option (Int32) := (if bm_io x0 10 then ((M.2.2 x0 11).bind fun a2 => (if bm_io a2 2 then some (M.1 a2 1) else none)) else none)
set_option maxHeartbeats 4000000 in
set_option maxRecDepth 100000 in
theorem c_X11_look {L : bm_L} {d n : Nat} {M : bm_M} {x0 : Nat} {v : Int32} (hN : 181 ≤ n) (h : f_X11_look M x0 = some v) : bm_C L m_X11_look d n n [.ref x0] M (fun r M' => r = some (.int v) ∧ M' = M) := by
  refine bm_C.ofV (by decide) (Nat.le_of_ble_eq_true rfl) ?_
  show bm_V L m_X11_look d n n n 0 [(0, .ref x0)] [] M _
  unfold f_X11_look at h
  refine bv_aload_n dX11_look_0 0 rfl ?_
  obtain ⟨q1, h⟩ := bu_io h
  obtain ⟨a2, e3, h⟩ := bu_bd h
  refine bw_getA (a := a2) hN q1 e3 dX11_look_1 fl_11_81 rfl ?_
  obtain ⟨q4, h⟩ := bu_io h
  refine bw_getI hN q4 dX11_look_4 fl_11_279 rfl ?_
  obtain rfl := Option.some.inj h
  exact bv_iret (x := (M.1 a2 1)) dX11_look_7 rfl ⟨rfl, rfl⟩
def f_X11_code (M : bm_M) (x0 : Nat) : Option (Int32) := (if bm_io x0 10 then ((M.2.2 x0 2).bind fun a2 => (if bm_io a2 0 then ((f_X0_newLifts M a2).bind fun v5 => some v5) else none)) else none)
set_option maxHeartbeats 4000000 in
set_option maxRecDepth 100000 in
theorem c_X11_code {L : bm_L} {d n : Nat} {M : bm_M} {x0 : Nat} {v : Int32} (hN : 181 ≤ n) (h : f_X11_code M x0 = some v) : bm_C L m_X11_code (d + 3) n n [.ref x0] M (fun r M' => r = some (.int v) ∧ M' = M) := by
  refine bm_C.ofV (by decide) (Nat.le_of_ble_eq_true rfl) ?_
  show bm_V L m_X11_code (d + 3) n n n 0 [(0, .ref x0)] [] M _
  unfold f_X11_code at h
  refine bv_aload_n dX11_code_0 0 rfl ?_
  obtain ⟨q1, h⟩ := bu_io h
  obtain ⟨a2, e3, h⟩ := bu_bd h
  refine bw_getA (a := a2) hN q1 e3 dX11_code_1 fl_11_28 rfl ?_
  obtain ⟨q4, h⟩ := bu_io h
  obtain ⟨v5, p6, h⟩ := bu_bd h
  refine bw_callV (As := []) hN q4 ⟨_, _, rfl⟩ dX11_code_4 mc_11_282 (c_X0_newLifts (d := d + 0) hN p6) rfl rfl (by decide) ?_
  obtain rfl := Option.some.inj h
  exact bv_iret (x := v5) dX11_code_7 rfl ⟨rfl, rfl⟩
def f_X11_faceToAsk_l28 (M : bm_M) (x0 : Nat) (x1 : Int32) (x2 : Int32) (x3 : Int32) (x4 : Int32) : Nat → Int32 → Int32 → Int32 → Option (Int32 × Int32)
  | 0, _, _, _ => none
  | k + 1, x5, x6, x7 => ((M.2.2 x0 2).bind fun a1 => (if bm_io a1 0 then (if (M.1 a1 10) ≤ x7 then some (x5, x6) else (if (f_X11_bit x1 x7) = 1 then ((M.2.2 x0 4).bind fun a4 => (if bm_io a4 8 then ((f_X8_rangeOf M a4 x7).bind fun v7 => ((f_X8_readersOf M a4 x7 v7).bind fun v9 => f_X11_faceToAsk_l28 M x0 x1 x2 x3 x4 k (x5 + (f_X11_bit v9 x4)) (x6 + (1 - (f_X11_bit v9 x4))) (x7 + 1))) else none)) else f_X11_faceToAsk_l28 M x0 x1 x2 x3 x4 k x5 x6 (x7 + 1))) else none))
set_option maxHeartbeats 4000000 in
set_option maxRecDepth 100000 in
theorem v_X11_faceToAsk_l28 {L : bm_L} {d n : Nat} {Q : Option Value → bm_M → Prop} {M : bm_M} {x0 : Nat} {x1 : Int32} {x2 : Int32} {x3 : Int32} {x4 : Int32} (hN : 181 ≤ n) (q_0 : bm_OK x0 10) : ∀ (k : Nat) (x5 : Int32) (x6 : Int32) (x7 : Int32) (r : Int32 × Int32), f_X11_faceToAsk_l28 M x0 x1 x2 x3 x4 k x5 x6 x7 = some r → (∀ yy, yy = r → bm_V L m_X11_faceToAsk (d + 3) n n n 97 [(0, .ref x0), (1, .int x1), (2, .int x2), (3, .int x3), (4, .int x4), (5, .int yy.1), (6, .int yy.2)] [] M Q) → bm_V L m_X11_faceToAsk (d + 3) n n n 28 [(0, .ref x0), (1, .int x1), (2, .int x2), (3, .int x3), (4, .int x4), (5, .int x5), (6, .int x6), (7, .int x7)] [] M Q := by
  intro k
  induction k with
  | zero => intro x5 x6 x7 r h; cases (show (none : Option (Int32 × Int32)) = some r from h)
  | succ k ih =>
    intro x5 x6 x7 r h K0
    unfold f_X11_faceToAsk_l28 at h
    refine bv_iload dX11_faceToAsk_28 7 rfl ?_
    refine bv_aload_n dX11_faceToAsk_30 0 rfl ?_
    obtain ⟨a1, e2, h⟩ := bu_bd h
    refine bw_getA (a := a1) hN q_0 e2 dX11_faceToAsk_31 fl_11_28 rfl ?_
    obtain ⟨q3, h⟩ := bu_io h
    refine bw_getI hN q3 dX11_faceToAsk_34 fl_11_132 rfl ?_
    refine bv_icmp_ge (tgt := 97) dX11_faceToAsk_37 (by decide) (fun cc => ?_) (fun cc => ?_)
    · replace h := bu_t h cc
      refine bw_ls (ls1 := [(0, .ref x0), (1, .int x1), (2, .int x2), (3, .int x3), (4, .int x4), (5, .int x5), (6, .int x6)]) [0, 1, 2, 3, 4, 5, 6] rfl ?_
      obtain rfl := Option.some.inj h
      exact K0 _ rfl
    · replace h := bu_f h cc
      refine bv_iload_n dX11_faceToAsk_40 1 rfl ?_
      refine bv_iload dX11_faceToAsk_41 7 rfl ?_
      refine bw_callS (As := [.int x1, .int x7]) dX11_faceToAsk_43 mc_11_172 (c_X11_bit (d := d + 2) hN rfl) rfl rfl (by decide) ?_
      refine bv_iconst (v := 1) dX11_faceToAsk_46 (by decide) ?_
      refine bv_icmp_ne (tgt := 91) dX11_faceToAsk_47 (by decide) (fun cc => ?_) (fun cc => ?_)
      · replace h := bu_f h cc
        refine bv_iinc (j := 7) (v := (x7 + 1)) (ls1 := [(0, .ref x0), (1, .int x1), (2, .int x2), (3, .int x3), (4, .int x4), (5, .int x5), (6, .int x6), (7, .int (x7 + 1))]) dX11_faceToAsk_91 rfl rfl (by decide) rfl rfl ?_
        refine bv_goto (tgt := 28) dX11_faceToAsk_94 (by decide) ?_
        exact ih _ _ _ _ h K0
      · replace h := bu_t h cc
        refine bv_aload_n dX11_faceToAsk_50 0 rfl ?_
        obtain ⟨a4, e5, h⟩ := bu_bd h
        refine bw_getA (a := a4) hN q_0 e5 dX11_faceToAsk_51 fl_11_40 rfl ?_
        refine bv_iload dX11_faceToAsk_54 7 rfl ?_
        refine bv_aload_n dX11_faceToAsk_56 0 rfl ?_
        refine bw_getA (a := a4) hN q_0 e5 dX11_faceToAsk_57 fl_11_40 rfl ?_
        refine bv_iload dX11_faceToAsk_60 7 rfl ?_
        obtain ⟨q6, h⟩ := bu_io h
        obtain ⟨v7, p8, h⟩ := bu_bd h
        refine bw_callV (As := [.int x7]) hN q6 ⟨_, _, rfl⟩ dX11_faceToAsk_62 mc_11_242 (c_X8_rangeOf (d := d + 0) hN p8) rfl rfl (Nat.le_of_ble_eq_true rfl) ?_
        obtain ⟨v9, p10, h⟩ := bu_bd h
        refine bw_callV (As := [.int x7, .int v7]) hN q6 ⟨_, _, rfl⟩ dX11_faceToAsk_65 mc_11_245 (c_X8_readersOf (d := d + 1) hN p10) rfl rfl (by decide) ?_
        refine bv_iload dX11_faceToAsk_68 4 rfl ?_
        refine bw_callS (As := [.int v9, .int x4]) dX11_faceToAsk_70 mc_11_172 (c_X11_bit (d := d + 2) hN rfl) rfl rfl (by decide) ?_
        refine bv_istore (ls1 := [(0, .ref x0), (1, .int x1), (2, .int x2), (3, .int x3), (4, .int x4), (5, .int x5), (6, .int x6), (7, .int x7), (8, .int (f_X11_bit v9 x4))]) dX11_faceToAsk_73 (by decide) rfl rfl ?_
        refine bv_iload dX11_faceToAsk_75 5 rfl ?_
        refine bv_iload dX11_faceToAsk_77 8 rfl ?_
        refine bv_iadd dX11_faceToAsk_79 ?_
        refine bv_istore (ls1 := [(0, .ref x0), (1, .int x1), (2, .int x2), (3, .int x3), (4, .int x4), (5, .int (x5 + (f_X11_bit v9 x4))), (6, .int x6), (7, .int x7), (8, .int (f_X11_bit v9 x4))]) dX11_faceToAsk_80 (by decide) rfl rfl ?_
        refine bv_iload dX11_faceToAsk_82 6 rfl ?_
        refine bv_iconst (v := 1) dX11_faceToAsk_84 (by decide) ?_
        refine bv_iload dX11_faceToAsk_85 8 rfl ?_
        refine bv_isub dX11_faceToAsk_87 ?_
        refine bv_iadd dX11_faceToAsk_88 ?_
        refine bv_istore (ls1 := [(0, .ref x0), (1, .int x1), (2, .int x2), (3, .int x3), (4, .int x4), (5, .int (x5 + (f_X11_bit v9 x4))), (6, .int (x6 + (1 - (f_X11_bit v9 x4)))), (7, .int x7), (8, .int (f_X11_bit v9 x4))]) dX11_faceToAsk_89 (by decide) rfl rfl ?_
        refine bv_iinc (j := 7) (v := (x7 + 1)) (ls1 := [(0, .ref x0), (1, .int x1), (2, .int x2), (3, .int x3), (4, .int x4), (5, .int (x5 + (f_X11_bit v9 x4))), (6, .int (x6 + (1 - (f_X11_bit v9 x4)))), (7, .int (x7 + 1)), (8, .int (f_X11_bit v9 x4))]) dX11_faceToAsk_91 rfl rfl (by decide) rfl rfl ?_
        refine bv_goto (tgt := 28) dX11_faceToAsk_94 (by decide) ?_
        refine bw_ls (ls1 := [(0, .ref x0), (1, .int x1), (2, .int x2), (3, .int x3), (4, .int x4), (5, .int (x5 + (f_X11_bit v9 x4))), (6, .int (x6 + (1 - (f_X11_bit v9 x4)))), (7, .int (x7 + 1))]) [0, 1, 2, 3, 4, 5, 6, 7] rfl ?_
        exact ih _ _ _ _ h K0
def f_X11_faceToAsk_l7 (M : bm_M) (x0 : Nat) (x1 : Int32) : Nat → Int32 → Int32 → Int32 → Option (Int32)
  | 0, _, _, _ => none
  | k + 1, x2, x3, x4 => (if bm_io x0 10 then ((M.2.2 x0 2).bind fun a2 => (if bm_io a2 0 then (if (M.1 a2 10) ≤ x4 then some x2 else ((f_X11_faceToAsk_l28 M x0 x1 x2 x3 x4 1000 0 0 0).bind fun y7 => (if x2 = (-1) then f_X11_faceToAsk_l7 M x0 x1 k x4 (bm_abs (y7.1 - y7.2)) (x4 + 1) else (if x3 ≤ (bm_abs (y7.1 - y7.2)) then f_X11_faceToAsk_l7 M x0 x1 k x2 x3 (x4 + 1) else f_X11_faceToAsk_l7 M x0 x1 k x4 (bm_abs (y7.1 - y7.2)) (x4 + 1))))) else none)) else none)
set_option maxHeartbeats 4000000 in
set_option maxRecDepth 100000 in
theorem v_X11_faceToAsk_l7 {L : bm_L} {d n : Nat} {Q : Option Value → bm_M → Prop} {M : bm_M} {x0 : Nat} {x1 : Int32} (hN : 181 ≤ n) : ∀ (k : Nat) (x2 : Int32) (x3 : Int32) (x4 : Int32) (r : Int32), f_X11_faceToAsk_l7 M x0 x1 k x2 x3 x4 = some r → (∀ yy, yy = r → bm_V L m_X11_faceToAsk (d + 3) n n n 130 [(2, .int yy)] [] M Q) → bm_V L m_X11_faceToAsk (d + 3) n n n 7 [(0, .ref x0), (1, .int x1), (2, .int x2), (3, .int x3), (4, .int x4)] [] M Q := by
  intro k
  induction k with
  | zero => intro x2 x3 x4 r h; cases (show (none : Option (Int32)) = some r from h)
  | succ k ih =>
    intro x2 x3 x4 r h K0
    unfold f_X11_faceToAsk_l7 at h
    refine bv_iload dX11_faceToAsk_7 4 rfl ?_
    refine bv_aload_n dX11_faceToAsk_9 0 rfl ?_
    obtain ⟨q1, h⟩ := bu_io h
    obtain ⟨a2, e3, h⟩ := bu_bd h
    refine bw_getA (a := a2) hN q1 e3 dX11_faceToAsk_10 fl_11_28 rfl ?_
    obtain ⟨q4, h⟩ := bu_io h
    refine bw_getI hN q4 dX11_faceToAsk_13 fl_11_132 rfl ?_
    refine bv_icmp_ge (tgt := 130) dX11_faceToAsk_16 (by decide) (fun cc => ?_) (fun cc => ?_)
    · replace h := bu_t h cc
      refine bw_ls (ls1 := [(2, .int x2)]) [2] rfl ?_
      obtain rfl := Option.some.inj h
      exact K0 _ rfl
    · replace h := bu_f h cc
      refine bv_iconst (v := 0) dX11_faceToAsk_19 (by decide) ?_
      refine bv_istore (ls1 := [(0, .ref x0), (1, .int x1), (2, .int x2), (3, .int x3), (4, .int x4), (5, .int 0)]) dX11_faceToAsk_20 (by decide) rfl rfl ?_
      refine bv_iconst (v := 0) dX11_faceToAsk_22 (by decide) ?_
      refine bv_istore (ls1 := [(0, .ref x0), (1, .int x1), (2, .int x2), (3, .int x3), (4, .int x4), (5, .int 0), (6, .int 0)]) dX11_faceToAsk_23 (by decide) rfl rfl ?_
      refine bv_iconst (v := 0) dX11_faceToAsk_25 (by decide) ?_
      refine bv_istore (ls1 := [(0, .ref x0), (1, .int x1), (2, .int x2), (3, .int x3), (4, .int x4), (5, .int 0), (6, .int 0), (7, .int 0)]) dX11_faceToAsk_26 (by decide) rfl rfl ?_
      obtain ⟨r5, p6, h⟩ := bu_bd h
      refine v_X11_faceToAsk_l28 hN q1 1000 _ _ _ _ p6 (fun y7 hy => ?_)
      · subst hy
        refine bv_iload dX11_faceToAsk_97 5 rfl ?_
        refine bv_iload dX11_faceToAsk_99 6 rfl ?_
        refine bv_isub dX11_faceToAsk_101 ?_
        refine bv_mabs dX11_faceToAsk_102 mw_11_377 (by decide) (Nat.le_refl n) ?_
        refine bv_istore (ls1 := [(0, .ref x0), (1, .int x1), (2, .int x2), (3, .int x3), (4, .int x4), (5, .int y7.1), (6, .int y7.2), (7, .int (bm_abs (y7.1 - y7.2)))]) dX11_faceToAsk_105 (by decide) rfl rfl ?_
        refine bv_iload_n dX11_faceToAsk_107 2 rfl ?_
        refine bv_iconst (v := (-1)) dX11_faceToAsk_108 (by decide) ?_
        refine bv_icmp_eq (tgt := 118) dX11_faceToAsk_109 (by decide) (fun cc => ?_) (fun cc => ?_)
        · replace h := bu_t h cc
          refine bv_iload dX11_faceToAsk_118 4 rfl ?_
          refine bv_istore_n (ls1 := [(0, .ref x0), (1, .int x1), (2, .int x4), (3, .int x3), (4, .int x4), (5, .int y7.1), (6, .int y7.2), (7, .int (bm_abs (y7.1 - y7.2)))]) dX11_faceToAsk_120 (by decide) rfl rfl ?_
          refine bv_iload dX11_faceToAsk_121 7 rfl ?_
          refine bv_istore_n (ls1 := [(0, .ref x0), (1, .int x1), (2, .int x4), (3, .int (bm_abs (y7.1 - y7.2))), (4, .int x4), (5, .int y7.1), (6, .int y7.2), (7, .int (bm_abs (y7.1 - y7.2)))]) dX11_faceToAsk_123 (by decide) rfl rfl ?_
          refine bv_iinc (j := 4) (v := (x4 + 1)) (ls1 := [(0, .ref x0), (1, .int x1), (2, .int x4), (3, .int (bm_abs (y7.1 - y7.2))), (4, .int (x4 + 1)), (5, .int y7.1), (6, .int y7.2), (7, .int (bm_abs (y7.1 - y7.2)))]) dX11_faceToAsk_124 rfl rfl (by decide) rfl rfl ?_
          refine bv_goto (tgt := 7) dX11_faceToAsk_127 (by decide) ?_
          refine bw_ls (ls1 := [(0, .ref x0), (1, .int x1), (2, .int x4), (3, .int (bm_abs (y7.1 - y7.2))), (4, .int (x4 + 1))]) [0, 1, 2, 3, 4] rfl ?_
          exact ih _ _ _ _ h K0
        · replace h := bu_f h cc
          refine bv_iload dX11_faceToAsk_112 7 rfl ?_
          refine bv_iload_n dX11_faceToAsk_114 3 rfl ?_
          refine bv_icmp_ge (tgt := 124) dX11_faceToAsk_115 (by decide) (fun cc => ?_) (fun cc => ?_)
          · replace h := bu_t h cc
            refine bv_iinc (j := 4) (v := (x4 + 1)) (ls1 := [(0, .ref x0), (1, .int x1), (2, .int x2), (3, .int x3), (4, .int (x4 + 1)), (5, .int y7.1), (6, .int y7.2), (7, .int (bm_abs (y7.1 - y7.2)))]) dX11_faceToAsk_124 rfl rfl (by decide) rfl rfl ?_
            refine bv_goto (tgt := 7) dX11_faceToAsk_127 (by decide) ?_
            refine bw_ls (ls1 := [(0, .ref x0), (1, .int x1), (2, .int x2), (3, .int x3), (4, .int (x4 + 1))]) [0, 1, 2, 3, 4] rfl ?_
            exact ih _ _ _ _ h K0
          · replace h := bu_f h cc
            refine bv_iload dX11_faceToAsk_118 4 rfl ?_
            refine bv_istore_n (ls1 := [(0, .ref x0), (1, .int x1), (2, .int x4), (3, .int x3), (4, .int x4), (5, .int y7.1), (6, .int y7.2), (7, .int (bm_abs (y7.1 - y7.2)))]) dX11_faceToAsk_120 (by decide) rfl rfl ?_
            refine bv_iload dX11_faceToAsk_121 7 rfl ?_
            refine bv_istore_n (ls1 := [(0, .ref x0), (1, .int x1), (2, .int x4), (3, .int (bm_abs (y7.1 - y7.2))), (4, .int x4), (5, .int y7.1), (6, .int y7.2), (7, .int (bm_abs (y7.1 - y7.2)))]) dX11_faceToAsk_123 (by decide) rfl rfl ?_
            refine bv_iinc (j := 4) (v := (x4 + 1)) (ls1 := [(0, .ref x0), (1, .int x1), (2, .int x4), (3, .int (bm_abs (y7.1 - y7.2))), (4, .int (x4 + 1)), (5, .int y7.1), (6, .int y7.2), (7, .int (bm_abs (y7.1 - y7.2)))]) dX11_faceToAsk_124 rfl rfl (by decide) rfl rfl ?_
            refine bv_goto (tgt := 7) dX11_faceToAsk_127 (by decide) ?_
            refine bw_ls (ls1 := [(0, .ref x0), (1, .int x1), (2, .int x4), (3, .int (bm_abs (y7.1 - y7.2))), (4, .int (x4 + 1))]) [0, 1, 2, 3, 4] rfl ?_
            exact ih _ _ _ _ h K0
def f_X11_faceToAsk (M : bm_M) (x0 : Nat) (x1 : Int32) : Option (Int32) := ((f_X11_faceToAsk_l7 M x0 x1 1000 (-1) 0 0).bind fun y3 => some y3)
set_option maxHeartbeats 4000000 in
set_option maxRecDepth 100000 in
theorem c_X11_faceToAsk {L : bm_L} {d n : Nat} {M : bm_M} {x0 : Nat} {x1 : Int32} {v : Int32} (hN : 181 ≤ n) (h : f_X11_faceToAsk M x0 x1 = some v) : bm_C L m_X11_faceToAsk (d + 3) n n [.ref x0, .int x1] M (fun r M' => r = some (.int v) ∧ M' = M) := by
  refine bm_C.ofV (by decide) (Nat.le_of_ble_eq_true rfl) ?_
  show bm_V L m_X11_faceToAsk (d + 3) n n n 0 [(0, .ref x0), (1, .int x1)] [] M _
  unfold f_X11_faceToAsk at h
  refine bv_iconst (v := (-1)) dX11_faceToAsk_0 (by decide) ?_
  refine bv_istore_n (ls1 := [(0, .ref x0), (1, .int x1), (2, .int (-1))]) dX11_faceToAsk_1 (by decide) rfl rfl ?_
  refine bv_iconst (v := 0) dX11_faceToAsk_2 (by decide) ?_
  refine bv_istore_n (ls1 := [(0, .ref x0), (1, .int x1), (2, .int (-1)), (3, .int 0)]) dX11_faceToAsk_3 (by decide) rfl rfl ?_
  refine bv_iconst (v := 0) dX11_faceToAsk_4 (by decide) ?_
  refine bv_istore (ls1 := [(0, .ref x0), (1, .int x1), (2, .int (-1)), (3, .int 0), (4, .int 0)]) dX11_faceToAsk_5 (by decide) rfl rfl ?_
  obtain ⟨r1, p2, h⟩ := bu_bd h
  refine v_X11_faceToAsk_l7 hN 1000 _ _ _ _ p2 (fun y3 hy => ?_)
  · subst hy
    refine bv_iload_n dX11_faceToAsk_130 0 rfl ?_
    obtain rfl := Option.some.inj h
    exact bv_iret (x := y3) dX11_faceToAsk_131 rfl ⟨rfl, rfl⟩
def f_X11_isScratchTape_l16 (M : bm_M) (x0 : Nat) : Nat → Int32 → Option (((Unit) ⊕ (Unit)))
  | 0, _ => none
  | k + 1, x1 => ((M.2.2 x0 0).bind fun a1 => (if bm_io a1 9 then (if (M.1 a1 1) ≤ (x1 + 1) then some (Sum.inr ()) else ((M.2.2 a1 0).bind fun a4 => (if bm_ia a4 0 x1 = true then ((M.2.2 x0 2).bind fun a7 => (if bm_io a7 0 then (if (M.1 a7 10) ≤ (M.1 a4 x1.toNatClampNeg) then some (Sum.inl ()) else (if bm_ia a4 0 (x1 + 1) = true then (if (M.1 a4 (x1 + 1).toNatClampNeg) ≤ 1 then f_X11_isScratchTape_l16 M x0 k (x1 + 2) else some (Sum.inl ())) else none)) else none)) else none))) else none))
set_option maxHeartbeats 4000000 in
set_option maxRecDepth 100000 in
theorem v_X11_isScratchTape_l16 {L : bm_L} {d n : Nat} {Q : Option Value → bm_M → Prop} {M : bm_M} {x0 : Nat} (hN : 181 ≤ n) (q_0 : bm_OK x0 10) : ∀ (k : Nat) (x1 : Int32) (r : ((Unit) ⊕ (Unit))), f_X11_isScratchTape_l16 M x0 k x1 = some r → (∀ yy, (Sum.inl yy) = r → bm_V L m_X11_isScratchTape (d + 1) n n n 63 [] [] M Q) → (∀ yy, (Sum.inr yy) = r → bm_V L m_X11_isScratchTape (d + 1) n n n 71 [] [] M Q) → bm_V L m_X11_isScratchTape (d + 1) n n n 16 [(0, .ref x0), (1, .int x1)] [] M Q := by
  intro k
  induction k with
  | zero => intro x1 r h; cases (show (none : Option (((Unit) ⊕ (Unit)))) = some r from h)
  | succ k ih =>
    intro x1 r h K0 K1
    unfold f_X11_isScratchTape_l16 at h
    refine bv_iload_n dX11_isScratchTape_16 1 rfl ?_
    refine bv_iconst (v := 1) dX11_isScratchTape_17 (by decide) ?_
    refine bv_iadd dX11_isScratchTape_18 ?_
    refine bv_aload_n dX11_isScratchTape_19 0 rfl ?_
    obtain ⟨a1, e2, h⟩ := bu_bd h
    refine bw_getA (a := a1) hN q_0 e2 dX11_isScratchTape_20 fl_11_12 rfl ?_
    obtain ⟨q3, h⟩ := bu_io h
    refine bw_getI hN q3 dX11_isScratchTape_23 fl_11_102 rfl ?_
    refine bv_icmp_ge (tgt := 71) dX11_isScratchTape_26 (by decide) (fun cc => ?_) (fun cc => ?_)
    · replace h := bu_t h cc
      refine bw_ls (ls1 := []) [] rfl ?_
      obtain rfl := Option.some.inj h
      exact K1 _ rfl
    · replace h := bu_f h cc
      refine bv_aload_n dX11_isScratchTape_29 0 rfl ?_
      refine bw_getA (a := a1) hN q_0 e2 dX11_isScratchTape_30 fl_11_12 rfl ?_
      obtain ⟨a4, e5, h⟩ := bu_bd h
      refine bw_getA (a := a4) hN q3 e5 dX11_isScratchTape_33 fl_11_376 rfl ?_
      refine bv_iload_n dX11_isScratchTape_36 1 rfl ?_
      obtain ⟨r6, h⟩ := bu_ia h
      refine bw_iald hN r6 dX11_isScratchTape_37 ?_
      refine bv_aload_n dX11_isScratchTape_38 0 rfl ?_
      obtain ⟨a7, e8, h⟩ := bu_bd h
      refine bw_getA (a := a7) hN q_0 e8 dX11_isScratchTape_39 fl_11_28 rfl ?_
      obtain ⟨q9, h⟩ := bu_io h
      refine bw_getI hN q9 dX11_isScratchTape_42 fl_11_132 rfl ?_
      refine bv_icmp_ge (tgt := 63) dX11_isScratchTape_45 (by decide) (fun cc => ?_) (fun cc => ?_)
      · replace h := bu_t h cc
        refine bw_ls (ls1 := []) [] rfl ?_
        obtain rfl := Option.some.inj h
        exact K0 _ rfl
      · replace h := bu_f h cc
        refine bv_aload_n dX11_isScratchTape_48 0 rfl ?_
        refine bw_getA (a := a1) hN q_0 e2 dX11_isScratchTape_49 fl_11_12 rfl ?_
        refine bw_getA (a := a4) hN q3 e5 dX11_isScratchTape_52 fl_11_376 rfl ?_
        refine bv_iload_n dX11_isScratchTape_55 1 rfl ?_
        refine bv_iconst (v := 1) dX11_isScratchTape_56 (by decide) ?_
        refine bv_iadd dX11_isScratchTape_57 ?_
        obtain ⟨r10, h⟩ := bu_ia h
        refine bw_iald hN r10 dX11_isScratchTape_58 ?_
        refine bv_iconst (v := 1) dX11_isScratchTape_59 (by decide) ?_
        refine bv_icmp_le (tgt := 65) dX11_isScratchTape_60 (by decide) (fun cc => ?_) (fun cc => ?_)
        · replace h := bu_t h cc
          refine bv_iinc (j := 1) (v := (x1 + 2)) (ls1 := [(0, .ref x0), (1, .int (x1 + 2))]) dX11_isScratchTape_65 rfl rfl (by decide) rfl rfl ?_
          refine bv_goto (tgt := 16) dX11_isScratchTape_68 (by decide) ?_
          exact ih _ _ h K0 K1
        · replace h := bu_f h cc
          refine bw_ls (ls1 := []) [] rfl ?_
          obtain rfl := Option.some.inj h
          exact K0 _ rfl
def f_X11_isScratchTape (M : bm_M) (x0 : Nat) : Option (Bool) := (if bm_io x0 10 then ((M.2.2 x0 0).bind fun a2 => (if bm_io a2 9 then ((f_X9_isPairs M a2 8).bind fun v5 => (if v5 = true then ((f_X11_isScratchTape_l16 M x0 1000 0).bind fun rr => match rr with | (Sum.inl y9) => some false | (Sum.inr y9) => some true) else some false)) else none)) else none)
set_option maxHeartbeats 4000000 in
set_option maxRecDepth 100000 in
theorem c_X11_isScratchTape {L : bm_L} {d n : Nat} {M : bm_M} {x0 : Nat} {v : Bool} (hN : 181 ≤ n) (h : f_X11_isScratchTape M x0 = some v) : bm_C L m_X11_isScratchTape (d + 1) n n [.ref x0] M (fun r M' => r = some (.int (bm_bi v)) ∧ M' = M) := by
  refine bm_C.ofV (by decide) (Nat.le_of_ble_eq_true rfl) ?_
  show bm_V L m_X11_isScratchTape (d + 1) n n n 0 [(0, .ref x0)] [] M _
  unfold f_X11_isScratchTape at h
  refine bv_aload_n dX11_isScratchTape_0 0 rfl ?_
  obtain ⟨q1, h⟩ := bu_io h
  obtain ⟨a2, e3, h⟩ := bu_bd h
  refine bw_getA (a := a2) hN q1 e3 dX11_isScratchTape_1 fl_11_12 rfl ?_
  refine bv_bipush (v := 8) dX11_isScratchTape_4 (by decide) ?_
  obtain ⟨q4, h⟩ := bu_io h
  obtain ⟨v5, p6, h⟩ := bu_bd h
  refine bw_callV (As := [.int 8]) hN q4 ⟨_, _, rfl⟩ dX11_isScratchTape_6 mc_11_373 (c_X9_isPairs (d := d + 0) hN p6) rfl rfl (by decide) ?_
  refine bw_ifB_ne (b := v5) (tgt := 14) dX11_isScratchTape_9 (by decide) (fun cc => ?_) (fun cc => ?_)
  · replace h := bu_bt h cc
    refine bv_iconst (v := 0) dX11_isScratchTape_14 (by decide) ?_
    refine bv_istore_n (ls1 := [(0, .ref x0), (1, .int 0)]) dX11_isScratchTape_15 (by decide) rfl rfl ?_
    obtain ⟨r7, p8, h⟩ := bu_bd h
    refine v_X11_isScratchTape_l16 hN q1 1000 _ _ p8 (fun y9 hy => ?_) (fun y9 hy => ?_)
    · subst hy
      refine bv_iconst (v := 0) dX11_isScratchTape_63 (by decide) ?_
      obtain rfl := Option.some.inj h
      exact bw_bret (b := false) dX11_isScratchTape_64 rfl ⟨rfl, rfl⟩
    · subst hy
      refine bv_iconst (v := 1) dX11_isScratchTape_71 (by decide) ?_
      obtain rfl := Option.some.inj h
      exact bw_bret (b := true) dX11_isScratchTape_72 rfl ⟨rfl, rfl⟩
  · replace h := bu_bf h cc
    refine bv_iconst (v := 0) dX11_isScratchTape_12 (by decide) ?_
    obtain rfl := Option.some.inj h
    exact bw_bret (b := false) dX11_isScratchTape_13 rfl ⟨rfl, rfl⟩
def f_X11_scratchers_l38 (M : bm_M) (x0 : Nat) (x1 : Int32) (x2 : Int32) (x3 : Int32) : Nat → Bool → Int32 → Option (Bool)
  | 0, _, _ => none
  | k + 1, x4, x5 => ((M.2.2 x0 0).bind fun a1 => (if bm_io a1 9 then (if (M.1 a1 1) ≤ (x5 + 1) then some x4 else (if x4 = true then ((M.2.2 a1 0).bind fun a4 => (if bm_ia a4 0 x5 = true then (if bm_ia a4 0 (x5 + 1) = true then (if (f_X11_bit x3 (M.1 a4 x5.toNatClampNeg)) = (M.1 a4 (x5 + 1).toNatClampNeg) then f_X11_scratchers_l38 M x0 x1 x2 x3 k true (x5 + 2) else f_X11_scratchers_l38 M x0 x1 x2 x3 k false (x5 + 2)) else none) else none)) else f_X11_scratchers_l38 M x0 x1 x2 x3 k false (x5 + 2))) else none))
set_option maxHeartbeats 4000000 in
set_option maxRecDepth 100000 in
theorem v_X11_scratchers_l38 {L : bm_L} {d n : Nat} {Q : Option Value → bm_M → Prop} {M : bm_M} {x0 : Nat} {x1 : Int32} {x2 : Int32} {x3 : Int32} (hN : 181 ≤ n) (q_0 : bm_OK x0 10) : ∀ (k : Nat) (x4 : Bool) (x5 : Int32) (r : Bool), f_X11_scratchers_l38 M x0 x1 x2 x3 k x4 x5 = some r → (∀ yy, yy = r → bm_V L m_X11_scratchers (d + 3) n n n 99 [(0, .ref x0), (1, .int x1), (2, .int x2), (4, .int (bm_bi yy))] [] M Q) → bm_V L m_X11_scratchers (d + 3) n n n 38 [(0, .ref x0), (1, .int x1), (2, .int x2), (3, .int x3), (4, .int (bm_bi x4)), (5, .int x5)] [] M Q := by
  intro k
  induction k with
  | zero => intro x4 x5 r h; cases (show (none : Option (Bool)) = some r from h)
  | succ k ih =>
    intro x4 x5 r h K0
    unfold f_X11_scratchers_l38 at h
    refine bv_iload dX11_scratchers_38 5 rfl ?_
    refine bv_iconst (v := 1) dX11_scratchers_40 (by decide) ?_
    refine bv_iadd dX11_scratchers_41 ?_
    refine bv_aload_n dX11_scratchers_42 0 rfl ?_
    obtain ⟨a1, e2, h⟩ := bu_bd h
    refine bw_getA (a := a1) hN q_0 e2 dX11_scratchers_43 fl_11_12 rfl ?_
    obtain ⟨q3, h⟩ := bu_io h
    refine bw_getI hN q3 dX11_scratchers_46 fl_11_102 rfl ?_
    refine bv_icmp_ge (tgt := 99) dX11_scratchers_49 (by decide) (fun cc => ?_) (fun cc => ?_)
    · replace h := bu_t h cc
      refine bw_ls (ls1 := [(0, .ref x0), (1, .int x1), (2, .int x2), (4, .int (bm_bi x4))]) [0, 1, 2, 4] rfl ?_
      obtain rfl := Option.some.inj h
      exact K0 _ rfl
    · replace h := bu_f h cc
      refine bv_iload dX11_scratchers_52 4 rfl ?_
      refine bw_ifB_eq (b := x4) (tgt := 90) dX11_scratchers_54 (by decide) (fun cc => ?_) (fun cc => ?_)
      · replace h := bu_bf h cc
        refine bv_iconst (v := 0) dX11_scratchers_90 (by decide) ?_
        refine bv_istore (ls1 := [(0, .ref x0), (1, .int x1), (2, .int x2), (3, .int x3), (4, .int 0), (5, .int x5)]) dX11_scratchers_91 (by decide) rfl rfl ?_
        refine bv_iinc (j := 5) (v := (x5 + 2)) (ls1 := [(0, .ref x0), (1, .int x1), (2, .int x2), (3, .int x3), (4, .int 0), (5, .int (x5 + 2))]) dX11_scratchers_93 rfl rfl (by decide) rfl rfl ?_
        refine bv_goto (tgt := 38) dX11_scratchers_96 (by decide) ?_
        exact ih _ _ _ h K0
      · replace h := bu_bt h cc
        refine bv_iload_n dX11_scratchers_57 3 rfl ?_
        refine bv_aload_n dX11_scratchers_58 0 rfl ?_
        refine bw_getA (a := a1) hN q_0 e2 dX11_scratchers_59 fl_11_12 rfl ?_
        obtain ⟨a4, e5, h⟩ := bu_bd h
        refine bw_getA (a := a4) hN q3 e5 dX11_scratchers_62 fl_11_376 rfl ?_
        refine bv_iload dX11_scratchers_65 5 rfl ?_
        obtain ⟨r6, h⟩ := bu_ia h
        refine bw_iald hN r6 dX11_scratchers_67 ?_
        refine bw_callS (As := [.int x3, .int (M.1 a4 x5.toNatClampNeg)]) dX11_scratchers_68 mc_11_172 (c_X11_bit (d := d + 2) hN rfl) rfl rfl (by decide) ?_
        refine bv_aload_n dX11_scratchers_71 0 rfl ?_
        refine bw_getA (a := a1) hN q_0 e2 dX11_scratchers_72 fl_11_12 rfl ?_
        refine bw_getA (a := a4) hN q3 e5 dX11_scratchers_75 fl_11_376 rfl ?_
        refine bv_iload dX11_scratchers_78 5 rfl ?_
        refine bv_iconst (v := 1) dX11_scratchers_80 (by decide) ?_
        refine bv_iadd dX11_scratchers_81 ?_
        obtain ⟨r7, h⟩ := bu_ia h
        refine bw_iald hN r7 dX11_scratchers_82 ?_
        refine bv_icmp_ne (tgt := 90) dX11_scratchers_83 (by decide) (fun cc => ?_) (fun cc => ?_)
        · replace h := bu_f h cc
          refine bv_iconst (v := 0) dX11_scratchers_90 (by decide) ?_
          refine bv_istore (ls1 := [(0, .ref x0), (1, .int x1), (2, .int x2), (3, .int x3), (4, .int 0), (5, .int x5)]) dX11_scratchers_91 (by decide) rfl rfl ?_
          refine bv_iinc (j := 5) (v := (x5 + 2)) (ls1 := [(0, .ref x0), (1, .int x1), (2, .int x2), (3, .int x3), (4, .int 0), (5, .int (x5 + 2))]) dX11_scratchers_93 rfl rfl (by decide) rfl rfl ?_
          refine bv_goto (tgt := 38) dX11_scratchers_96 (by decide) ?_
          exact ih _ _ _ h K0
        · replace h := bu_t h cc
          refine bv_iconst (v := 1) dX11_scratchers_86 (by decide) ?_
          refine bv_goto (tgt := 91) dX11_scratchers_87 (by decide) ?_
          refine bv_istore (ls1 := [(0, .ref x0), (1, .int x1), (2, .int x2), (3, .int x3), (4, .int 1), (5, .int x5)]) dX11_scratchers_91 (by decide) rfl rfl ?_
          refine bv_iinc (j := 5) (v := (x5 + 2)) (ls1 := [(0, .ref x0), (1, .int x1), (2, .int x2), (3, .int x3), (4, .int 1), (5, .int (x5 + 2))]) dX11_scratchers_93 rfl rfl (by decide) rfl rfl ?_
          refine bv_goto (tgt := 38) dX11_scratchers_96 (by decide) ?_
          exact ih _ _ _ h K0
def f_X11_scratchers_l4 (M : bm_M) (x0 : Nat) : Nat → Int32 → Int32 → Option (Int32)
  | 0, _, _ => none
  | k + 1, x1, x2 => (if bm_io x0 10 then ((M.2.2 x0 2).bind fun a2 => (if bm_io a2 0 then (if (M.1 a2 10) ≤ x2 then some x1 else ((M.2.2 x0 4).bind fun a5 => (if bm_io a5 8 then ((f_X8_rangeOf M a5 x2).bind fun v8 => ((f_X8_readersOf M a5 x2 v8).bind fun v10 => ((f_X11_scratchers_l38 M x0 x1 x2 v10 1000 true 0).bind fun y14 => (if y14 = true then f_X11_scratchers_l4 M x0 k (x1 ||| (bm_ishl 1 x2)) (x2 + 1) else f_X11_scratchers_l4 M x0 k x1 (x2 + 1))))) else none))) else none)) else none)
set_option maxHeartbeats 4000000 in
set_option maxRecDepth 100000 in
theorem v_X11_scratchers_l4 {L : bm_L} {d n : Nat} {Q : Option Value → bm_M → Prop} {M : bm_M} {x0 : Nat} (hN : 181 ≤ n) : ∀ (k : Nat) (x1 : Int32) (x2 : Int32) (r : Int32), f_X11_scratchers_l4 M x0 k x1 x2 = some r → (∀ yy, yy = r → bm_V L m_X11_scratchers (d + 3) n n n 116 [(1, .int yy)] [] M Q) → bm_V L m_X11_scratchers (d + 3) n n n 4 [(0, .ref x0), (1, .int x1), (2, .int x2)] [] M Q := by
  intro k
  induction k with
  | zero => intro x1 x2 r h; cases (show (none : Option (Int32)) = some r from h)
  | succ k ih =>
    intro x1 x2 r h K0
    unfold f_X11_scratchers_l4 at h
    refine bv_iload_n dX11_scratchers_4 2 rfl ?_
    refine bv_aload_n dX11_scratchers_5 0 rfl ?_
    obtain ⟨q1, h⟩ := bu_io h
    obtain ⟨a2, e3, h⟩ := bu_bd h
    refine bw_getA (a := a2) hN q1 e3 dX11_scratchers_6 fl_11_28 rfl ?_
    obtain ⟨q4, h⟩ := bu_io h
    refine bw_getI hN q4 dX11_scratchers_9 fl_11_132 rfl ?_
    refine bv_icmp_ge (tgt := 116) dX11_scratchers_12 (by decide) (fun cc => ?_) (fun cc => ?_)
    · replace h := bu_t h cc
      refine bw_ls (ls1 := [(1, .int x1)]) [1] rfl ?_
      obtain rfl := Option.some.inj h
      exact K0 _ rfl
    · replace h := bu_f h cc
      refine bv_aload_n dX11_scratchers_15 0 rfl ?_
      obtain ⟨a5, e6, h⟩ := bu_bd h
      refine bw_getA (a := a5) hN q1 e6 dX11_scratchers_16 fl_11_40 rfl ?_
      refine bv_iload_n dX11_scratchers_19 2 rfl ?_
      refine bv_aload_n dX11_scratchers_20 0 rfl ?_
      refine bw_getA (a := a5) hN q1 e6 dX11_scratchers_21 fl_11_40 rfl ?_
      refine bv_iload_n dX11_scratchers_24 2 rfl ?_
      obtain ⟨q7, h⟩ := bu_io h
      obtain ⟨v8, p9, h⟩ := bu_bd h
      refine bw_callV (As := [.int x2]) hN q7 ⟨_, _, rfl⟩ dX11_scratchers_25 mc_11_242 (c_X8_rangeOf (d := d + 0) hN p9) rfl rfl (Nat.le_of_ble_eq_true rfl) ?_
      obtain ⟨v10, p11, h⟩ := bu_bd h
      refine bw_callV (As := [.int x2, .int v8]) hN q7 ⟨_, _, rfl⟩ dX11_scratchers_28 mc_11_245 (c_X8_readersOf (d := d + 1) hN p11) rfl rfl (by decide) ?_
      refine bv_istore_n (ls1 := [(0, .ref x0), (1, .int x1), (2, .int x2), (3, .int v10)]) dX11_scratchers_31 (by decide) rfl rfl ?_
      refine bv_iconst (v := 1) dX11_scratchers_32 (by decide) ?_
      refine bv_istore (ls1 := [(0, .ref x0), (1, .int x1), (2, .int x2), (3, .int v10), (4, .int 1)]) dX11_scratchers_33 (by decide) rfl rfl ?_
      refine bv_iconst (v := 0) dX11_scratchers_35 (by decide) ?_
      refine bv_istore (ls1 := [(0, .ref x0), (1, .int x1), (2, .int x2), (3, .int v10), (4, .int 1), (5, .int 0)]) dX11_scratchers_36 (by decide) rfl rfl ?_
      obtain ⟨r12, p13, h⟩ := bu_bd h
      refine v_X11_scratchers_l38 hN q1 1000 _ _ _ p13 (fun y14 hy => ?_)
      · subst hy
        refine bv_iload dX11_scratchers_99 3 rfl ?_
        refine bw_ifB_eq (b := y14) (tgt := 110) dX11_scratchers_101 (by decide) (fun cc => ?_) (fun cc => ?_)
        · replace h := bu_bf h cc
          refine bv_iinc (j := 2) (v := (x2 + 1)) (ls1 := [(0, .ref x0), (1, .int x1), (2, .int (x2 + 1)), (4, .int (bm_bi y14))]) dX11_scratchers_110 rfl rfl (by decide) rfl rfl ?_
          refine bv_goto (tgt := 4) dX11_scratchers_113 (by decide) ?_
          refine bw_ls (ls1 := [(0, .ref x0), (1, .int x1), (2, .int (x2 + 1))]) [0, 1, 2] rfl ?_
          exact ih _ _ _ h K0
        · replace h := bu_bt h cc
          refine bv_iload_n dX11_scratchers_104 1 rfl ?_
          refine bv_iconst (v := 1) dX11_scratchers_105 (by decide) ?_
          refine bv_iload_n dX11_scratchers_106 2 rfl ?_
          refine bv_ishl dX11_scratchers_107 ?_
          refine bv_ior dX11_scratchers_108 ?_
          refine bv_istore_n (ls1 := [(0, .ref x0), (1, .int (x1 ||| (bm_ishl 1 x2))), (2, .int x2), (4, .int (bm_bi y14))]) dX11_scratchers_109 (by decide) rfl rfl ?_
          refine bv_iinc (j := 2) (v := (x2 + 1)) (ls1 := [(0, .ref x0), (1, .int (x1 ||| (bm_ishl 1 x2))), (2, .int (x2 + 1)), (4, .int (bm_bi y14))]) dX11_scratchers_110 rfl rfl (by decide) rfl rfl ?_
          refine bv_goto (tgt := 4) dX11_scratchers_113 (by decide) ?_
          refine bw_ls (ls1 := [(0, .ref x0), (1, .int (x1 ||| (bm_ishl 1 x2))), (2, .int (x2 + 1))]) [0, 1, 2] rfl ?_
          exact ih _ _ _ h K0
def f_X11_scratchers (M : bm_M) (x0 : Nat) : Option (Int32) := ((f_X11_scratchers_l4 M x0 1000 0 0).bind fun y3 => some y3)
set_option maxHeartbeats 4000000 in
set_option maxRecDepth 100000 in
theorem c_X11_scratchers {L : bm_L} {d n : Nat} {M : bm_M} {x0 : Nat} {v : Int32} (hN : 181 ≤ n) (h : f_X11_scratchers M x0 = some v) : bm_C L m_X11_scratchers (d + 3) n n [.ref x0] M (fun r M' => r = some (.int v) ∧ M' = M) := by
  refine bm_C.ofV (by decide) (Nat.le_of_ble_eq_true rfl) ?_
  show bm_V L m_X11_scratchers (d + 3) n n n 0 [(0, .ref x0)] [] M _
  unfold f_X11_scratchers at h
  refine bv_iconst (v := 0) dX11_scratchers_0 (by decide) ?_
  refine bv_istore_n (ls1 := [(0, .ref x0), (1, .int 0)]) dX11_scratchers_1 (by decide) rfl rfl ?_
  refine bv_iconst (v := 0) dX11_scratchers_2 (by decide) ?_
  refine bv_istore_n (ls1 := [(0, .ref x0), (1, .int 0), (2, .int 0)]) dX11_scratchers_3 (by decide) rfl rfl ?_
  obtain ⟨r1, p2, h⟩ := bu_bd h
  refine v_X11_scratchers_l4 hN 1000 _ _ _ p2 (fun y3 hy => ?_)
  · subst hy
    refine bv_iload_n dX11_scratchers_116 0 rfl ?_
    obtain rfl := Option.some.inj h
    exact bv_iret (x := y3) dX11_scratchers_117 rfl ⟨rfl, rfl⟩
def f_X11_scratch (M : bm_M) (x0 : Nat) : Option (Int32 × bm_M) := (if bm_io x0 10 then ((f_X11_isScratchTape M x0).bind fun v2 => (if v2 = true then ((f_X11_scratchers M x0).bind fun v7 => ((M.2.2 x0 0).bind fun a9 => (if bm_io a9 9 then (if v7 ≤ 0 then some (v7, (bm_sI M a9 1 0)) else ((f_X11_faceToAsk (bm_sI M a9 1 0) x0 v7).bind fun v12 => some (v7, (bm_sI (bm_sI M a9 1 0) x0 16 v12)))) else none))) else ((M.2.2 x0 0).bind fun a4 => (if bm_io a4 9 then some ((-1), (bm_sI M a4 1 0)) else none)))) else none)
set_option maxHeartbeats 4000000 in
set_option maxRecDepth 100000 in
theorem c_X11_scratch {L : bm_L} {d n : Nat} {M : bm_M} {x0 : Nat} {v : Int32 × bm_M} (hN : 181 ≤ n) (h : f_X11_scratch M x0 = some v) : bm_C L m_X11_scratch (d + 4) n n [.ref x0] M (fun r M' => r = some (.int v.1) ∧ M' = v.2) := by
  refine bm_C.ofV (by decide) (Nat.le_of_ble_eq_true rfl) ?_
  show bm_V L m_X11_scratch (d + 4) n n n 0 [(0, .ref x0)] [] M _
  unfold f_X11_scratch at h
  refine bv_aload_n dX11_scratch_0 0 rfl ?_
  obtain ⟨q1, h⟩ := bu_io h
  obtain ⟨v2, p3, h⟩ := bu_bd h
  refine bw_callV (As := []) hN q1 ⟨_, _, rfl⟩ dX11_scratch_1 mc_11_285 (c_X11_isScratchTape (d := d + 2) hN p3) rfl rfl (by decide) ?_
  refine bw_ifB_eq (b := v2) (tgt := 14) dX11_scratch_4 (by decide) (fun cc => ?_) (fun cc => ?_)
  · replace h := bu_bf h cc
    refine bv_iconst (v := (-1)) dX11_scratch_14 (by decide) ?_
    refine bv_istore_n (ls1 := [(0, .ref x0), (1, .int (-1))]) dX11_scratch_15 (by decide) rfl rfl ?_
    refine bv_aload_n dX11_scratch_16 0 rfl ?_
    obtain ⟨a4, e5, h⟩ := bu_bd h
    refine bw_getA (a := a4) hN q1 e5 dX11_scratch_17 fl_11_12 rfl ?_
    refine bv_iconst (v := 0) dX11_scratch_20 (by decide) ?_
    obtain ⟨q6, h⟩ := bu_io h
    refine bw_putI hN q6 dX11_scratch_21 fl_11_102 rfl ?_
    refine bv_iload_n dX11_scratch_24 1 rfl ?_
    refine bv_if_le (tgt := 37) dX11_scratch_25 (by decide) (fun cc => ?_) (fun cc => ?_)
    rotate_left
    · exact absurd cc (by decide)
    refine bv_iload_n dX11_scratch_37 1 rfl ?_
    obtain rfl := Option.some.inj h
    exact bv_iret (x := (-1)) dX11_scratch_38 rfl ⟨rfl, rfl⟩
  · replace h := bu_bt h cc
    refine bv_aload_n dX11_scratch_7 0 rfl ?_
    obtain ⟨v7, p8, h⟩ := bu_bd h
    refine bw_callV (As := []) hN q1 ⟨_, _, rfl⟩ dX11_scratch_8 mc_11_289 (c_X11_scratchers (d := d + 0) hN p8) rfl rfl (by decide) ?_
    refine bv_goto (tgt := 15) dX11_scratch_11 (by decide) ?_
    refine bv_istore_n (ls1 := [(0, .ref x0), (1, .int v7)]) dX11_scratch_15 (by decide) rfl rfl ?_
    refine bv_aload_n dX11_scratch_16 0 rfl ?_
    obtain ⟨a9, e10, h⟩ := bu_bd h
    refine bw_getA (a := a9) hN q1 e10 dX11_scratch_17 fl_11_12 rfl ?_
    refine bv_iconst (v := 0) dX11_scratch_20 (by decide) ?_
    obtain ⟨q11, h⟩ := bu_io h
    refine bw_putI hN q11 dX11_scratch_21 fl_11_102 rfl ?_
    refine bv_iload_n dX11_scratch_24 1 rfl ?_
    refine bv_if_le (tgt := 37) dX11_scratch_25 (by decide) (fun cc => ?_) (fun cc => ?_)
    · replace h := bu_t h cc
      refine bv_iload_n dX11_scratch_37 1 rfl ?_
      obtain rfl := Option.some.inj h
      exact bv_iret (x := v7) dX11_scratch_38 rfl ⟨rfl, rfl⟩
    · replace h := bu_f h cc
      refine bv_aload_n dX11_scratch_28 0 rfl ?_
      refine bv_aload_n dX11_scratch_29 0 rfl ?_
      refine bv_iload_n dX11_scratch_30 1 rfl ?_
      obtain ⟨v12, p13, h⟩ := bu_bd h
      refine bw_callV (As := [.int v7]) hN q1 ⟨_, _, rfl⟩ dX11_scratch_31 mc_11_292 (c_X11_faceToAsk (d := d + 0) hN p13) rfl rfl (Nat.le_of_ble_eq_true rfl) ?_
      refine bw_putI hN q1 dX11_scratch_34 fl_11_99 rfl ?_
      refine bv_iload_n dX11_scratch_37 1 rfl ?_
      obtain rfl := Option.some.inj h
      exact bv_iret (x := v7) dX11_scratch_38 rfl ⟨rfl, rfl⟩
def f_X11_ask (M : bm_M) (x0 : Nat) : Option (Int32) := (if bm_io x0 10 then some (M.1 x0 16) else none)
set_option maxHeartbeats 4000000 in
set_option maxRecDepth 100000 in
theorem c_X11_ask {L : bm_L} {d n : Nat} {M : bm_M} {x0 : Nat} {v : Int32} (hN : 181 ≤ n) (h : f_X11_ask M x0 = some v) : bm_C L m_X11_ask d n n [.ref x0] M (fun r M' => r = some (.int v) ∧ M' = M) := by
  refine bm_C.ofV (by decide) (Nat.le_of_ble_eq_true rfl) ?_
  show bm_V L m_X11_ask d n n n 0 [(0, .ref x0)] [] M _
  unfold f_X11_ask at h
  refine bv_aload_n dX11_ask_0 0 rfl ?_
  obtain ⟨q1, h⟩ := bu_io h
  refine bw_getI hN q1 dX11_ask_1 fl_11_99 rfl ?_
  obtain rfl := Option.some.inj h
  exact bv_iret (x := (M.1 x0 16)) dX11_ask_4 rfl ⟨rfl, rfl⟩
def f_X11_unrest_l4 (M : bm_M) (x0 : Nat) : Nat → Int32 → Int32 → Option (Int32)
  | 0, _, _ => none
  | k + 1, x1, x2 => (if bm_io x0 10 then ((M.2.2 x0 2).bind fun a2 => (if bm_io a2 0 then (if (M.1 a2 10) ≤ x2 then some x1 else ((M.2.2 a2 4).bind fun a5 => (if bm_ia a5 0 x2 = true then (if (M.1 a5 x2.toNatClampNeg) = (-1) then f_X11_unrest_l4 M x0 k x1 (x2 + 1) else ((M.2.2 x0 4).bind fun a8 => (if bm_io a8 8 then ((f_X8_browOf M a8 x2).bind fun v11 => ((f_X8_browOf M a8 (M.1 a5 x2.toNatClampNeg)).bind fun v13 => (if v11 ≤ v13 then f_X11_unrest_l4 M x0 k x1 (x2 + 1) else f_X11_unrest_l4 M x0 k (x1 ||| (bm_ishl 1 x2)) (x2 + 1)))) else none))) else none))) else none)) else none)
set_option maxHeartbeats 4000000 in
set_option maxRecDepth 100000 in
theorem v_X11_unrest_l4 {L : bm_L} {d n : Nat} {Q : Option Value → bm_M → Prop} {M : bm_M} {x0 : Nat} (hN : 181 ≤ n) : ∀ (k : Nat) (x1 : Int32) (x2 : Int32) (r : Int32), f_X11_unrest_l4 M x0 k x1 x2 = some r → (∀ yy, yy = r → bm_V L m_X11_unrest (d + 2) n n n 61 [(1, .int yy)] [] M Q) → bm_V L m_X11_unrest (d + 2) n n n 4 [(0, .ref x0), (1, .int x1), (2, .int x2)] [] M Q := by
  intro k
  induction k with
  | zero => intro x1 x2 r h; cases (show (none : Option (Int32)) = some r from h)
  | succ k ih =>
    intro x1 x2 r h K0
    unfold f_X11_unrest_l4 at h
    refine bv_iload_n dX11_unrest_4 2 rfl ?_
    refine bv_aload_n dX11_unrest_5 0 rfl ?_
    obtain ⟨q1, h⟩ := bu_io h
    obtain ⟨a2, e3, h⟩ := bu_bd h
    refine bw_getA (a := a2) hN q1 e3 dX11_unrest_6 fl_11_28 rfl ?_
    obtain ⟨q4, h⟩ := bu_io h
    refine bw_getI hN q4 dX11_unrest_9 fl_11_132 rfl ?_
    refine bv_icmp_ge (tgt := 61) dX11_unrest_12 (by decide) (fun cc => ?_) (fun cc => ?_)
    · replace h := bu_t h cc
      refine bw_ls (ls1 := [(1, .int x1)]) [1] rfl ?_
      obtain rfl := Option.some.inj h
      exact K0 _ rfl
    · replace h := bu_f h cc
      refine bv_aload_n dX11_unrest_15 0 rfl ?_
      refine bw_getA (a := a2) hN q1 e3 dX11_unrest_16 fl_11_28 rfl ?_
      obtain ⟨a5, e6, h⟩ := bu_bd h
      refine bw_getA (a := a5) hN q4 e6 dX11_unrest_19 fl_11_191 rfl ?_
      refine bv_iload_n dX11_unrest_22 2 rfl ?_
      obtain ⟨r7, h⟩ := bu_ia h
      refine bw_iald hN r7 dX11_unrest_23 ?_
      refine bv_istore_n (ls1 := [(0, .ref x0), (1, .int x1), (2, .int x2), (3, .int (M.1 a5 x2.toNatClampNeg))]) dX11_unrest_24 (by decide) rfl rfl ?_
      refine bv_iload_n dX11_unrest_25 3 rfl ?_
      refine bv_iconst (v := (-1)) dX11_unrest_26 (by decide) ?_
      refine bv_icmp_eq (tgt := 55) dX11_unrest_27 (by decide) (fun cc => ?_) (fun cc => ?_)
      · replace h := bu_t h cc
        refine bv_iinc (j := 2) (v := (x2 + 1)) (ls1 := [(0, .ref x0), (1, .int x1), (2, .int (x2 + 1)), (3, .int (M.1 a5 x2.toNatClampNeg))]) dX11_unrest_55 rfl rfl (by decide) rfl rfl ?_
        refine bv_goto (tgt := 4) dX11_unrest_58 (by decide) ?_
        refine bw_ls (ls1 := [(0, .ref x0), (1, .int x1), (2, .int (x2 + 1))]) [0, 1, 2] rfl ?_
        exact ih _ _ _ h K0
      · replace h := bu_f h cc
        refine bv_aload_n dX11_unrest_30 0 rfl ?_
        obtain ⟨a8, e9, h⟩ := bu_bd h
        refine bw_getA (a := a8) hN q1 e9 dX11_unrest_31 fl_11_40 rfl ?_
        refine bv_iload_n dX11_unrest_34 2 rfl ?_
        obtain ⟨q10, h⟩ := bu_io h
        obtain ⟨v11, p12, h⟩ := bu_bd h
        refine bw_callV (As := [.int x2]) hN q10 ⟨_, _, rfl⟩ dX11_unrest_35 mc_11_165 (c_X8_browOf (d := d + 0) hN p12) rfl rfl (by decide) ?_
        refine bv_aload_n dX11_unrest_38 0 rfl ?_
        refine bw_getA (a := a8) hN q1 e9 dX11_unrest_39 fl_11_40 rfl ?_
        refine bv_iload_n dX11_unrest_42 3 rfl ?_
        obtain ⟨v13, p14, h⟩ := bu_bd h
        refine bw_callV (As := [.int (M.1 a5 x2.toNatClampNeg)]) hN q10 ⟨_, _, rfl⟩ dX11_unrest_43 mc_11_165 (c_X8_browOf (d := d + 0) hN p14) rfl rfl (Nat.le_of_ble_eq_true rfl) ?_
        refine bv_icmp_le (tgt := 55) dX11_unrest_46 (by decide) (fun cc => ?_) (fun cc => ?_)
        · replace h := bu_t h cc
          refine bv_iinc (j := 2) (v := (x2 + 1)) (ls1 := [(0, .ref x0), (1, .int x1), (2, .int (x2 + 1)), (3, .int (M.1 a5 x2.toNatClampNeg))]) dX11_unrest_55 rfl rfl (by decide) rfl rfl ?_
          refine bv_goto (tgt := 4) dX11_unrest_58 (by decide) ?_
          refine bw_ls (ls1 := [(0, .ref x0), (1, .int x1), (2, .int (x2 + 1))]) [0, 1, 2] rfl ?_
          exact ih _ _ _ h K0
        · replace h := bu_f h cc
          refine bv_iload_n dX11_unrest_49 1 rfl ?_
          refine bv_iconst (v := 1) dX11_unrest_50 (by decide) ?_
          refine bv_iload_n dX11_unrest_51 2 rfl ?_
          refine bv_ishl dX11_unrest_52 ?_
          refine bv_ior dX11_unrest_53 ?_
          refine bv_istore_n (ls1 := [(0, .ref x0), (1, .int (x1 ||| (bm_ishl 1 x2))), (2, .int x2), (3, .int (M.1 a5 x2.toNatClampNeg))]) dX11_unrest_54 (by decide) rfl rfl ?_
          refine bv_iinc (j := 2) (v := (x2 + 1)) (ls1 := [(0, .ref x0), (1, .int (x1 ||| (bm_ishl 1 x2))), (2, .int (x2 + 1)), (3, .int (M.1 a5 x2.toNatClampNeg))]) dX11_unrest_55 rfl rfl (by decide) rfl rfl ?_
          refine bv_goto (tgt := 4) dX11_unrest_58 (by decide) ?_
          refine bw_ls (ls1 := [(0, .ref x0), (1, .int (x1 ||| (bm_ishl 1 x2))), (2, .int (x2 + 1))]) [0, 1, 2] rfl ?_
          exact ih _ _ _ h K0
def f_X11_unrest (M : bm_M) (x0 : Nat) : Option (Int32) := ((f_X11_unrest_l4 M x0 1000 0 0).bind fun y3 => some y3)
set_option maxHeartbeats 4000000 in
set_option maxRecDepth 100000 in
theorem c_X11_unrest {L : bm_L} {d n : Nat} {M : bm_M} {x0 : Nat} {v : Int32} (hN : 181 ≤ n) (h : f_X11_unrest M x0 = some v) : bm_C L m_X11_unrest (d + 2) n n [.ref x0] M (fun r M' => r = some (.int v) ∧ M' = M) := by
  refine bm_C.ofV (by decide) (Nat.le_of_ble_eq_true rfl) ?_
  show bm_V L m_X11_unrest (d + 2) n n n 0 [(0, .ref x0)] [] M _
  unfold f_X11_unrest at h
  refine bv_iconst (v := 0) dX11_unrest_0 (by decide) ?_
  refine bv_istore_n (ls1 := [(0, .ref x0), (1, .int 0)]) dX11_unrest_1 (by decide) rfl rfl ?_
  refine bv_iconst (v := 0) dX11_unrest_2 (by decide) ?_
  refine bv_istore_n (ls1 := [(0, .ref x0), (1, .int 0), (2, .int 0)]) dX11_unrest_3 (by decide) rfl rfl ?_
  obtain ⟨r1, p2, h⟩ := bu_bd h
  refine v_X11_unrest_l4 hN 1000 _ _ _ p2 (fun y3 hy => ?_)
  · subst hy
    refine bv_iload_n dX11_unrest_61 0 rfl ?_
    obtain rfl := Option.some.inj h
    exact bv_iret (x := y3) dX11_unrest_62 rfl ⟨rfl, rfl⟩
def f_X11_report (M : bm_M) (x0 : Nat) (x1 : Int32) : Option (Int32 × bm_M) := (if bm_io x0 10 then ((f_X11_isMan M x0 x1).bind fun v2 => (if v2 = true then ((M.2.2 x0 12).bind fun a4 => ((M.2.2 x0 4).bind fun a6 => (if bm_io a4 6 then ((f_X6_write M a4 x1 a6).bind fun v9 => ((v9.2.2 x0 12).bind fun a11 => (if bm_io a11 6 then some ((v9.1 a11 1), v9) else none))) else none))) else some ((-1), M))) else none)
set_option maxHeartbeats 4000000 in
set_option maxRecDepth 100000 in
theorem c_X11_report {L : bm_L} {d n : Nat} {M : bm_M} {x0 : Nat} {x1 : Int32} {v : Int32 × bm_M} (hN : 181 ≤ n) (h : f_X11_report M x0 x1 = some v) : bm_C L m_X11_report (d + 7) n n [.ref x0, .int x1] M (fun r M' => r = some (.int v.1) ∧ M' = v.2) := by
  refine bm_C.ofV (by decide) (Nat.le_of_ble_eq_true rfl) ?_
  show bm_V L m_X11_report (d + 7) n n n 0 [(0, .ref x0), (1, .int x1)] [] M _
  unfold f_X11_report at h
  refine bv_aload_n dX11_report_0 0 rfl ?_
  refine bv_iload_n dX11_report_1 1 rfl ?_
  obtain ⟨q1, h⟩ := bu_io h
  obtain ⟨v2, p3, h⟩ := bu_bd h
  refine bw_callV (As := [.int x1]) hN q1 ⟨_, _, rfl⟩ dX11_report_2 mc_11_147 (c_X11_isMan (d := d + 6) hN p3) rfl rfl (by decide) ?_
  refine bw_ifB_ne (b := v2) (tgt := 10) dX11_report_5 (by decide) (fun cc => ?_) (fun cc => ?_)
  · replace h := bu_bt h cc
    refine bv_aload_n dX11_report_10 0 rfl ?_
    obtain ⟨a4, e5, h⟩ := bu_bd h
    refine bw_getA (a := a4) hN q1 e5 dX11_report_11 fl_11_88 rfl ?_
    refine bv_iload_n dX11_report_14 1 rfl ?_
    refine bv_aload_n dX11_report_15 0 rfl ?_
    obtain ⟨a6, e7, h⟩ := bu_bd h
    refine bw_getA (a := a6) hN q1 e7 dX11_report_16 fl_11_40 rfl ?_
    obtain ⟨q8, h⟩ := bu_io h
    obtain ⟨v9, p10, h⟩ := bu_bd h
    refine bw_callVv (As := [.int x1, .ref a6]) hN q8 ⟨_, _, rfl⟩ dX11_report_19 mc_11_295 (c_X6_write (d := d + 0) hN p10) rfl rfl (by decide) ?_
    refine bv_aload_n dX11_report_22 0 rfl ?_
    obtain ⟨a11, e12, h⟩ := bu_bd h
    refine bw_getA (a := a11) hN q1 e12 dX11_report_23 fl_11_88 rfl ?_
    obtain ⟨q13, h⟩ := bu_io h
    refine bw_getI hN q13 dX11_report_26 fl_11_299 rfl ?_
    obtain rfl := Option.some.inj h
    exact bv_iret (x := (v9.1 a11 1)) dX11_report_29 rfl ⟨rfl, rfl⟩
  · replace h := bu_bf h cc
    refine bv_iconst (v := (-1)) dX11_report_8 (by decide) ?_
    obtain rfl := Option.some.inj h
    exact bv_iret (x := (-1)) dX11_report_9 rfl ⟨rfl, rfl⟩
def f_X11_byteAt (M : bm_M) (x0 : Nat) (x1 : Int32) : Option (Int32) := (if x1 < 0 then some (-1) else (if bm_io x0 10 then ((M.2.2 x0 12).bind fun a2 => (if bm_io a2 6 then (if (M.1 a2 1) ≤ x1 then some (-1) else ((M.2.2 a2 0).bind fun a5 => (if bm_ia a5 0 x1 = true then some (M.1 a5 x1.toNatClampNeg) else none))) else none)) else none))
set_option maxHeartbeats 4000000 in
set_option maxRecDepth 100000 in
theorem c_X11_byteAt {L : bm_L} {d n : Nat} {M : bm_M} {x0 : Nat} {x1 : Int32} {v : Int32} (hN : 181 ≤ n) (h : f_X11_byteAt M x0 x1 = some v) : bm_C L m_X11_byteAt d n n [.ref x0, .int x1] M (fun r M' => r = some (.int v) ∧ M' = M) := by
  refine bm_C.ofV (by decide) (Nat.le_of_ble_eq_true rfl) ?_
  show bm_V L m_X11_byteAt d n n n 0 [(0, .ref x0), (1, .int x1)] [] M _
  unfold f_X11_byteAt at h
  refine bv_iload_n dX11_byteAt_0 1 rfl ?_
  refine bv_if_lt (tgt := 27) dX11_byteAt_1 (by decide) (fun cc => ?_) (fun cc => ?_)
  · replace h := bu_t h cc
    refine bv_iconst (v := (-1)) dX11_byteAt_27 (by decide) ?_
    obtain rfl := Option.some.inj h
    exact bv_iret (x := (-1)) dX11_byteAt_28 rfl ⟨rfl, rfl⟩
  · replace h := bu_f h cc
    refine bv_iload_n dX11_byteAt_4 1 rfl ?_
    refine bv_aload_n dX11_byteAt_5 0 rfl ?_
    obtain ⟨q1, h⟩ := bu_io h
    obtain ⟨a2, e3, h⟩ := bu_bd h
    refine bw_getA (a := a2) hN q1 e3 dX11_byteAt_6 fl_11_88 rfl ?_
    obtain ⟨q4, h⟩ := bu_io h
    refine bw_getI hN q4 dX11_byteAt_9 fl_11_299 rfl ?_
    refine bv_icmp_ge (tgt := 27) dX11_byteAt_12 (by decide) (fun cc => ?_) (fun cc => ?_)
    · replace h := bu_t h cc
      refine bv_iconst (v := (-1)) dX11_byteAt_27 (by decide) ?_
      obtain rfl := Option.some.inj h
      exact bv_iret (x := (-1)) dX11_byteAt_28 rfl ⟨rfl, rfl⟩
    · replace h := bu_f h cc
      refine bv_aload_n dX11_byteAt_15 0 rfl ?_
      refine bw_getA (a := a2) hN q1 e3 dX11_byteAt_16 fl_11_88 rfl ?_
      obtain ⟨a5, e6, h⟩ := bu_bd h
      refine bw_getA (a := a5) hN q4 e6 dX11_byteAt_19 fl_11_300 rfl ?_
      refine bv_iload_n dX11_byteAt_22 1 rfl ?_
      obtain ⟨r7, h⟩ := bu_ia h
      refine bw_iald hN r7 dX11_byteAt_23 ?_
      refine bv_goto (tgt := 28) dX11_byteAt_24 (by decide) ?_
      obtain rfl := Option.some.inj h
      exact bv_iret (x := (M.1 a5 x1.toNatClampNeg)) dX11_byteAt_28 rfl ⟨rfl, rfl⟩
def f_X11_drawn (M : bm_M) (x0 : Nat) (x1 : Int32) (x2 : Int32) : Option (Int32 × bm_M) := (if x1 < 1 then some ((-1), M) else (if x1 ≤ 60 then (if bm_io x0 10 then ((M.2.2 x0 5).bind fun a2 => ((M.2.2 x0 4).bind fun a4 => (if bm_io a2 8 then ((f_X8_copyFrom M a2 a4).bind fun v7 => ((v7.2.2 x0 5).bind fun a9 => (if bm_io a9 8 then ((f_X8_drawHours v7 a9 x1 x2).bind fun v12 => (if v12.1 ≤ 0 then some (v12.1, v12.2) else ((f_X11_settleTrial v12.2 x0).bind fun v14 => some (v12.1, v14)))) else none))) else none))) else none) else some ((-1), M)))
set_option maxHeartbeats 4000000 in
set_option maxRecDepth 100000 in
theorem c_X11_drawn {L : bm_L} {d n : Nat} {M : bm_M} {x0 : Nat} {x1 : Int32} {x2 : Int32} {v : Int32 × bm_M} (hN : 181 ≤ n) (h : f_X11_drawn M x0 x1 x2 = some v) : bm_C L m_X11_drawn (d + 7) n n [.ref x0, .int x1, .int x2] M (fun r M' => r = some (.int v.1) ∧ M' = v.2) := by
  refine bm_C.ofV (by decide) (Nat.le_of_ble_eq_true rfl) ?_
  show bm_V L m_X11_drawn (d + 7) n n n 0 [(0, .ref x0), (1, .int x1), (2, .int x2)] [] M _
  unfold f_X11_drawn at h
  refine bv_iload_n dX11_drawn_0 1 rfl ?_
  refine bv_iconst (v := 1) dX11_drawn_1 (by decide) ?_
  refine bv_icmp_lt (tgt := 11) dX11_drawn_2 (by decide) (fun cc => ?_) (fun cc => ?_)
  · replace h := bu_t h cc
    refine bv_iconst (v := (-1)) dX11_drawn_11 (by decide) ?_
    obtain rfl := Option.some.inj h
    exact bv_iret (x := (-1)) dX11_drawn_12 rfl ⟨rfl, rfl⟩
  · replace h := bu_f h cc
    refine bv_iload_n dX11_drawn_5 1 rfl ?_
    refine bv_bipush (v := 60) dX11_drawn_6 (by decide) ?_
    refine bv_icmp_le (tgt := 13) dX11_drawn_8 (by decide) (fun cc => ?_) (fun cc => ?_)
    · replace h := bu_t h cc
      refine bv_aload_n dX11_drawn_13 0 rfl ?_
      obtain ⟨q1, h⟩ := bu_io h
      obtain ⟨a2, e3, h⟩ := bu_bd h
      refine bw_getA (a := a2) hN q1 e3 dX11_drawn_14 fl_11_44 rfl ?_
      refine bv_aload_n dX11_drawn_17 0 rfl ?_
      obtain ⟨a4, e5, h⟩ := bu_bd h
      refine bw_getA (a := a4) hN q1 e5 dX11_drawn_18 fl_11_40 rfl ?_
      obtain ⟨q6, h⟩ := bu_io h
      obtain ⟨v7, p8, h⟩ := bu_bd h
      refine bw_callVv (As := [.ref a4]) hN q6 ⟨_, _, rfl⟩ dX11_drawn_21 mc_11_226 (c_X8_copyFrom (d := d + 5) hN p8) rfl rfl (by decide) ?_
      refine bv_aload_n dX11_drawn_24 0 rfl ?_
      obtain ⟨a9, e10, h⟩ := bu_bd h
      refine bw_getA (a := a9) hN q1 e10 dX11_drawn_25 fl_11_44 rfl ?_
      refine bv_iload_n dX11_drawn_28 1 rfl ?_
      refine bv_iload_n dX11_drawn_29 2 rfl ?_
      obtain ⟨q11, h⟩ := bu_io h
      obtain ⟨v12, p13, h⟩ := bu_bd h
      refine bw_callV (As := [.int x1, .int x2]) hN q11 ⟨_, _, rfl⟩ dX11_drawn_30 mc_11_303 (c_X8_drawHours (d := d + 0) hN p13) rfl rfl (by decide) ?_
      refine bv_istore_n (ls1 := [(0, .ref x0), (1, .int x1), (2, .int x2), (3, .int v12.1)]) dX11_drawn_33 (by decide) rfl rfl ?_
      refine bv_iload_n dX11_drawn_34 3 rfl ?_
      refine bv_if_le (tgt := 42) dX11_drawn_35 (by decide) (fun cc => ?_) (fun cc => ?_)
      · replace h := bu_t h cc
        refine bv_iload_n dX11_drawn_42 3 rfl ?_
        obtain rfl := Option.some.inj h
        exact bv_iret (x := v12.1) dX11_drawn_43 rfl ⟨rfl, rfl⟩
      · replace h := bu_f h cc
        refine bv_aload_n dX11_drawn_38 0 rfl ?_
        obtain ⟨v14, p15, h⟩ := bu_bd h
        refine bw_callVv (As := []) hN q1 ⟨_, _, rfl⟩ dX11_drawn_39 mc_11_232 (c_X11_settleTrial (d := d + 3) hN p15) rfl rfl (by decide) ?_
        refine bv_iload_n dX11_drawn_42 3 rfl ?_
        obtain rfl := Option.some.inj h
        exact bv_iret (x := v12.1) dX11_drawn_43 rfl ⟨rfl, rfl⟩
    · replace h := bu_f h cc
      refine bv_iconst (v := (-1)) dX11_drawn_11 (by decide) ?_
      obtain rfl := Option.some.inj h
      exact bv_iret (x := (-1)) dX11_drawn_12 rfl ⟨rfl, rfl⟩
def f_X11_odds_l27 (x0 : Nat) (x1 : Int32) (x2 : Int32) (x3 : Int32) : Nat → Int32 → Int32 → bm_M → Option (Int32 × bm_M)
  | 0, _, _, _ => none
  | k + 1, x4, x5, M => (if x2 ≤ x5 then some (x4, M) else ((M.2.2 x0 5).bind fun a1 => ((M.2.2 x0 4).bind fun a3 => (if bm_io a1 8 then ((f_X8_copyFrom M a1 a3).bind fun v6 => ((v6.2.2 x0 5).bind fun a8 => (if bm_io a8 8 then ((f_X8_drawHours v6 a8 20 (x3 + x5)).bind fun v11 => ((v11.2.2.2 x0 5).bind fun a13 => (if bm_io a13 8 then ((v11.2.2.2 a13 4).bind fun a16 => (if bm_ia a16 0 x1 = true then (if (v11.2.1 a16 x1.toNatClampNeg) = (-1) then f_X11_odds_l27 x0 x1 x2 x3 k x4 (x5 + 1) v11.2 else f_X11_odds_l27 x0 x1 x2 x3 k (x4 + 1) (x5 + 1) v11.2) else none)) else none))) else none))) else none))))
set_option maxHeartbeats 4000000 in
set_option maxRecDepth 100000 in
theorem v_X11_odds_l27 {L : bm_L} {d n : Nat} {Q : Option Value → bm_M → Prop} {x0 : Nat} {x1 : Int32} {x2 : Int32} {x3 : Int32} (hN : 181 ≤ n) (q_0 : bm_OK x0 10) : ∀ (k : Nat) (x4 : Int32) (x5 : Int32) (M : bm_M) (r : Int32 × bm_M), f_X11_odds_l27 x0 x1 x2 x3 k x4 x5 M = some r → (∀ yy, yy = r → bm_V L m_X11_odds (d + 7) n n n 80 [(4, .int yy.1)] [] yy.2 Q) → bm_V L m_X11_odds (d + 7) n n n 27 [(0, .ref x0), (1, .int x1), (2, .int x2), (3, .int x3), (4, .int x4), (5, .int x5)] [] M Q := by
  intro k
  induction k with
  | zero => intro x4 x5 M r h; cases (show (none : Option (Int32 × bm_M)) = some r from h)
  | succ k ih =>
    intro x4 x5 M r h K0
    unfold f_X11_odds_l27 at h
    refine bv_iload dX11_odds_27 5 rfl ?_
    refine bv_iload_n dX11_odds_29 2 rfl ?_
    refine bv_icmp_ge (tgt := 80) dX11_odds_30 (by decide) (fun cc => ?_) (fun cc => ?_)
    · replace h := bu_t h cc
      refine bw_ls (ls1 := [(4, .int x4)]) [4] rfl ?_
      obtain rfl := Option.some.inj h
      exact K0 _ rfl
    · replace h := bu_f h cc
      refine bv_aload_n dX11_odds_33 0 rfl ?_
      obtain ⟨a1, e2, h⟩ := bu_bd h
      refine bw_getA (a := a1) hN q_0 e2 dX11_odds_34 fl_11_44 rfl ?_
      refine bv_aload_n dX11_odds_37 0 rfl ?_
      obtain ⟨a3, e4, h⟩ := bu_bd h
      refine bw_getA (a := a3) hN q_0 e4 dX11_odds_38 fl_11_40 rfl ?_
      obtain ⟨q5, h⟩ := bu_io h
      obtain ⟨v6, p7, h⟩ := bu_bd h
      refine bw_callVv (As := [.ref a3]) hN q5 ⟨_, _, rfl⟩ dX11_odds_41 mc_11_226 (c_X8_copyFrom (d := d + 5) hN p7) rfl rfl (by decide) ?_
      refine bv_aload_n dX11_odds_44 0 rfl ?_
      obtain ⟨a8, e9, h⟩ := bu_bd h
      refine bw_getA (a := a8) hN q_0 e9 dX11_odds_45 fl_11_44 rfl ?_
      refine bv_bipush (v := 20) dX11_odds_48 (by decide) ?_
      refine bv_iload_n dX11_odds_50 3 rfl ?_
      refine bv_iload dX11_odds_51 5 rfl ?_
      refine bv_iadd dX11_odds_53 ?_
      obtain ⟨q10, h⟩ := bu_io h
      obtain ⟨v11, p12, h⟩ := bu_bd h
      refine bw_callV (As := [.int 20, .int (x3 + x5)]) hN q10 ⟨_, _, rfl⟩ dX11_odds_54 mc_11_303 (c_X8_drawHours (d := d + 0) hN p12) rfl rfl (by decide) ?_
      refine bv_pop dX11_odds_57 rfl ?_
      refine bv_aload_n dX11_odds_58 0 rfl ?_
      obtain ⟨a13, e14, h⟩ := bu_bd h
      refine bw_getA (a := a13) hN q_0 e14 dX11_odds_59 fl_11_44 rfl ?_
      obtain ⟨q15, h⟩ := bu_io h
      obtain ⟨a16, e17, h⟩ := bu_bd h
      refine bw_getA (a := a16) hN q15 e17 dX11_odds_62 fl_11_182 rfl ?_
      refine bv_iload_n dX11_odds_65 1 rfl ?_
      obtain ⟨r18, h⟩ := bu_ia h
      refine bw_iald hN r18 dX11_odds_66 ?_
      refine bv_iconst (v := (-1)) dX11_odds_67 (by decide) ?_
      refine bv_icmp_eq (tgt := 74) dX11_odds_68 (by decide) (fun cc => ?_) (fun cc => ?_)
      · replace h := bu_t h cc
        refine bv_iinc (j := 5) (v := (x5 + 1)) (ls1 := [(0, .ref x0), (1, .int x1), (2, .int x2), (3, .int x3), (4, .int x4), (5, .int (x5 + 1))]) dX11_odds_74 rfl rfl (by decide) rfl rfl ?_
        refine bv_goto (tgt := 27) dX11_odds_77 (by decide) ?_
        exact ih _ _ _ _ h K0
      · replace h := bu_f h cc
        refine bv_iinc (j := 4) (v := (x4 + 1)) (ls1 := [(0, .ref x0), (1, .int x1), (2, .int x2), (3, .int x3), (4, .int (x4 + 1)), (5, .int x5)]) dX11_odds_71 rfl rfl (by decide) rfl rfl ?_
        refine bv_iinc (j := 5) (v := (x5 + 1)) (ls1 := [(0, .ref x0), (1, .int x1), (2, .int x2), (3, .int x3), (4, .int (x4 + 1)), (5, .int (x5 + 1))]) dX11_odds_74 rfl rfl (by decide) rfl rfl ?_
        refine bv_goto (tgt := 27) dX11_odds_77 (by decide) ?_
        exact ih _ _ _ _ h K0
def f_X11_odds (M : bm_M) (x0 : Nat) (x1 : Int32) (x2 : Int32) (x3 : Int32) : Option (Int32 × bm_M) := (if bm_io x0 10 then ((f_X11_isMan M x0 x1).bind fun v2 => (if v2 = true then (if x2 < 1 then some ((-1), M) else (if x2 ≤ 30 then ((f_X11_odds_l27 x0 x1 x2 x3 1000 0 0 M).bind fun y6 => some (y6.1, y6.2)) else some ((-1), M))) else some ((-1), M))) else none)
set_option maxHeartbeats 4000000 in
set_option maxRecDepth 100000 in
theorem c_X11_odds {L : bm_L} {d n : Nat} {M : bm_M} {x0 : Nat} {x1 : Int32} {x2 : Int32} {x3 : Int32} {v : Int32 × bm_M} (hN : 181 ≤ n) (h : f_X11_odds M x0 x1 x2 x3 = some v) : bm_C L m_X11_odds (d + 7) n n [.ref x0, .int x1, .int x2, .int x3] M (fun r M' => r = some (.int v.1) ∧ M' = v.2) := by
  refine bm_C.ofV (by decide) (Nat.le_of_ble_eq_true rfl) ?_
  show bm_V L m_X11_odds (d + 7) n n n 0 [(0, .ref x0), (1, .int x1), (2, .int x2), (3, .int x3)] [] M _
  unfold f_X11_odds at h
  refine bv_aload_n dX11_odds_0 0 rfl ?_
  refine bv_iload_n dX11_odds_1 1 rfl ?_
  obtain ⟨q1, h⟩ := bu_io h
  obtain ⟨v2, p3, h⟩ := bu_bd h
  refine bw_callV (As := [.int x1]) hN q1 ⟨_, _, rfl⟩ dX11_odds_2 mc_11_147 (c_X11_isMan (d := d + 6) hN p3) rfl rfl (by decide) ?_
  refine bw_ifB_eq (b := v2) (tgt := 19) dX11_odds_5 (by decide) (fun cc => ?_) (fun cc => ?_)
  · replace h := bu_bf h cc
    refine bv_iconst (v := (-1)) dX11_odds_19 (by decide) ?_
    obtain rfl := Option.some.inj h
    exact bv_iret (x := (-1)) dX11_odds_20 rfl ⟨rfl, rfl⟩
  · replace h := bu_bt h cc
    refine bv_iload_n dX11_odds_8 2 rfl ?_
    refine bv_iconst (v := 1) dX11_odds_9 (by decide) ?_
    refine bv_icmp_lt (tgt := 19) dX11_odds_10 (by decide) (fun cc => ?_) (fun cc => ?_)
    · replace h := bu_t h cc
      refine bv_iconst (v := (-1)) dX11_odds_19 (by decide) ?_
      obtain rfl := Option.some.inj h
      exact bv_iret (x := (-1)) dX11_odds_20 rfl ⟨rfl, rfl⟩
    · replace h := bu_f h cc
      refine bv_iload_n dX11_odds_13 2 rfl ?_
      refine bv_bipush (v := 30) dX11_odds_14 (by decide) ?_
      refine bv_icmp_le (tgt := 21) dX11_odds_16 (by decide) (fun cc => ?_) (fun cc => ?_)
      · replace h := bu_t h cc
        refine bv_iconst (v := 0) dX11_odds_21 (by decide) ?_
        refine bv_istore (ls1 := [(0, .ref x0), (1, .int x1), (2, .int x2), (3, .int x3), (4, .int 0)]) dX11_odds_22 (by decide) rfl rfl ?_
        refine bv_iconst (v := 0) dX11_odds_24 (by decide) ?_
        refine bv_istore (ls1 := [(0, .ref x0), (1, .int x1), (2, .int x2), (3, .int x3), (4, .int 0), (5, .int 0)]) dX11_odds_25 (by decide) rfl rfl ?_
        obtain ⟨r4, p5, h⟩ := bu_bd h
        refine v_X11_odds_l27 hN q1 1000 _ _ _ _ p5 (fun y6 hy => ?_)
        · subst hy
          refine bv_iload dX11_odds_80 0 rfl ?_
          obtain rfl := Option.some.inj h
          exact bv_iret (x := y6.1) dX11_odds_82 rfl ⟨rfl, rfl⟩
      · replace h := bu_f h cc
        refine bv_iconst (v := (-1)) dX11_odds_19 (by decide) ?_
        obtain rfl := Option.some.inj h
        exact bv_iret (x := (-1)) dX11_odds_20 rfl ⟨rfl, rfl⟩
def f_X11_tryBook_l29 (x0 : Nat) : Nat → Int32 → bm_M → Option (bm_M)
  | 0, _, _ => none
  | k + 1, x1, M => ((M.2.2 x0 8).bind fun a1 => (if bm_io a1 1 then (if (M.1 a1 3) ≤ x1 then some M else (if (M.1 a1 4) = 0 then ((M.2.2 x0 5).bind fun a4 => ((M.2.2 a1 0).bind fun a6 => (if bm_ia a6 0 x1 = true then ((M.2.2 a1 1).bind fun a9 => (if bm_ia a9 0 x1 = true then ((M.2.2 a1 2).bind fun a12 => (if bm_ia a12 0 x1 = true then (if bm_io a4 8 then ((f_X8_live M a4 (M.1 a6 x1.toNatClampNeg) (M.1 a9 x1.toNatClampNeg) (M.1 a12 x1.toNatClampNeg)).bind fun v16 => (if v16.1 = 0 then ((v16.2.2.2 x0 8).bind fun a24 => (if bm_io a24 1 then f_X11_tryBook_l29 x0 k (x1 + 1) (bm_sI v16.2 a24 5 ((v16.2.1 a24 5) + 1)) else none)) else ((v16.2.2.2 x0 8).bind fun a18 => (if bm_io a18 1 then ((v16.2.2.2 a18 0).bind fun a21 => (if bm_ia a21 0 x1 = true then f_X11_tryBook_l29 x0 k (x1 + 1) (bm_sI v16.2 a18 4 ((10 * (v16.2.1 a21 x1.toNatClampNeg)) + v16.1)) else none)) else none)))) else none) else none)) else none)) else none))) else some M)) else none))
set_option maxHeartbeats 4000000 in
set_option maxRecDepth 100000 in
theorem v_X11_tryBook_l29 {L : bm_L} {d n : Nat} {Q : Option Value → bm_M → Prop} {x0 : Nat} (hN : 181 ≤ n) (q_0 : bm_OK x0 10) : ∀ (k : Nat) (x1 : Int32) (M : bm_M) (r : bm_M), f_X11_tryBook_l29 x0 k x1 M = some r → (∀ yy, yy = r → bm_V L m_X11_tryBook (d + 6) n n n 132 [(0, .ref x0)] [] yy Q) → bm_V L m_X11_tryBook (d + 6) n n n 29 [(0, .ref x0), (1, .int x1)] [] M Q := by
  intro k
  induction k with
  | zero => intro x1 M r h; cases (show (none : Option (bm_M)) = some r from h)
  | succ k ih =>
    intro x1 M r h K0
    unfold f_X11_tryBook_l29 at h
    refine bv_iload_n dX11_tryBook_29 1 rfl ?_
    refine bv_aload_n dX11_tryBook_30 0 rfl ?_
    obtain ⟨a1, e2, h⟩ := bu_bd h
    refine bw_getA (a := a1) hN q_0 e2 dX11_tryBook_31 fl_11_64 rfl ?_
    obtain ⟨q3, h⟩ := bu_io h
    refine bw_getI hN q3 dX11_tryBook_34 fl_11_361 rfl ?_
    refine bv_icmp_ge (tgt := 132) dX11_tryBook_37 (by decide) (fun cc => ?_) (fun cc => ?_)
    · replace h := bu_t h cc
      refine bw_ls (ls1 := [(0, .ref x0)]) [0] rfl ?_
      obtain rfl := Option.some.inj h
      exact K0 _ rfl
    · replace h := bu_f h cc
      refine bv_aload_n dX11_tryBook_40 0 rfl ?_
      refine bw_getA (a := a1) hN q_0 e2 dX11_tryBook_41 fl_11_64 rfl ?_
      refine bw_getI hN q3 dX11_tryBook_44 fl_11_315 rfl ?_
      refine bv_if_ne (tgt := 132) dX11_tryBook_47 (by decide) (fun cc => ?_) (fun cc => ?_)
      · replace h := bu_f h cc
        refine bw_ls (ls1 := [(0, .ref x0)]) [0] rfl ?_
        obtain rfl := Option.some.inj h
        exact K0 _ rfl
      · replace h := bu_t h cc
        refine bv_aload_n dX11_tryBook_50 0 rfl ?_
        obtain ⟨a4, e5, h⟩ := bu_bd h
        refine bw_getA (a := a4) hN q_0 e5 dX11_tryBook_51 fl_11_44 rfl ?_
        refine bv_aload_n dX11_tryBook_54 0 rfl ?_
        refine bw_getA (a := a1) hN q_0 e2 dX11_tryBook_55 fl_11_64 rfl ?_
        obtain ⟨a6, e7, h⟩ := bu_bd h
        refine bw_getA (a := a6) hN q3 e7 dX11_tryBook_58 fl_11_364 rfl ?_
        refine bv_iload_n dX11_tryBook_61 1 rfl ?_
        obtain ⟨r8, h⟩ := bu_ia h
        refine bw_iald hN r8 dX11_tryBook_62 ?_
        refine bv_aload_n dX11_tryBook_63 0 rfl ?_
        refine bw_getA (a := a1) hN q_0 e2 dX11_tryBook_64 fl_11_64 rfl ?_
        obtain ⟨a9, e10, h⟩ := bu_bd h
        refine bw_getA (a := a9) hN q3 e10 dX11_tryBook_67 fl_11_367 rfl ?_
        refine bv_iload_n dX11_tryBook_70 1 rfl ?_
        obtain ⟨r11, h⟩ := bu_ia h
        refine bw_iald hN r11 dX11_tryBook_71 ?_
        refine bv_aload_n dX11_tryBook_72 0 rfl ?_
        refine bw_getA (a := a1) hN q_0 e2 dX11_tryBook_73 fl_11_64 rfl ?_
        obtain ⟨a12, e13, h⟩ := bu_bd h
        refine bw_getA (a := a12) hN q3 e13 dX11_tryBook_76 fl_11_370 rfl ?_
        refine bv_iload_n dX11_tryBook_79 1 rfl ?_
        obtain ⟨r14, h⟩ := bu_ia h
        refine bw_iald hN r14 dX11_tryBook_80 ?_
        obtain ⟨q15, h⟩ := bu_io h
        obtain ⟨v16, p17, h⟩ := bu_bd h
        refine bw_callV (As := [.int (M.1 a6 x1.toNatClampNeg), .int (M.1 a9 x1.toNatClampNeg), .int (M.1 a12 x1.toNatClampNeg)]) hN q15 ⟨_, _, rfl⟩ dX11_tryBook_81 mc_11_356 (c_X8_live (d := d + 0) hN p17) rfl rfl (by decide) ?_
        refine bv_istore_n (ls1 := [(0, .ref x0), (1, .int x1), (2, .int v16.1)]) dX11_tryBook_84 (by decide) rfl rfl ?_
        refine bv_iload_n dX11_tryBook_85 2 rfl ?_
        refine bv_if_ne (tgt := 105) dX11_tryBook_86 (by decide) (fun cc => ?_) (fun cc => ?_)
        · replace h := bu_f h cc
          refine bv_aload_n dX11_tryBook_105 0 rfl ?_
          obtain ⟨a18, e19, h⟩ := bu_bd h
          refine bw_getA (a := a18) hN q_0 e19 dX11_tryBook_106 fl_11_64 rfl ?_
          refine bv_bipush (v := 10) dX11_tryBook_109 (by decide) ?_
          refine bv_aload_n dX11_tryBook_111 0 rfl ?_
          refine bw_getA (a := a18) hN q_0 e19 dX11_tryBook_112 fl_11_64 rfl ?_
          obtain ⟨q20, h⟩ := bu_io h
          obtain ⟨a21, e22, h⟩ := bu_bd h
          refine bw_getA (a := a21) hN q20 e22 dX11_tryBook_115 fl_11_364 rfl ?_
          refine bv_iload_n dX11_tryBook_118 1 rfl ?_
          obtain ⟨r23, h⟩ := bu_ia h
          refine bw_iald hN r23 dX11_tryBook_119 ?_
          refine bv_imul dX11_tryBook_120 ?_
          refine bv_iload_n dX11_tryBook_121 2 rfl ?_
          refine bv_iadd dX11_tryBook_122 ?_
          refine bw_putI hN q20 dX11_tryBook_123 fl_11_315 rfl ?_
          refine bv_iinc (j := 1) (v := (x1 + 1)) (ls1 := [(0, .ref x0), (1, .int (x1 + 1)), (2, .int v16.1)]) dX11_tryBook_126 rfl rfl (by decide) rfl rfl ?_
          refine bv_goto (tgt := 29) dX11_tryBook_129 (by decide) ?_
          refine bw_ls (ls1 := [(0, .ref x0), (1, .int (x1 + 1))]) [0, 1] rfl ?_
          exact ih _ _ _ h K0
        · replace h := bu_t h cc
          refine bv_aload_n dX11_tryBook_89 0 rfl ?_
          obtain ⟨a24, e25, h⟩ := bu_bd h
          refine bw_getA (a := a24) hN q_0 e25 dX11_tryBook_90 fl_11_64 rfl ?_
          refine bv_dup dX11_tryBook_93 rfl ?_
          obtain ⟨q26, h⟩ := bu_io h
          refine bw_getI hN q26 dX11_tryBook_94 fl_11_312 rfl ?_
          refine bv_iconst (v := 1) dX11_tryBook_97 (by decide) ?_
          refine bv_iadd dX11_tryBook_98 ?_
          refine bw_putI hN q26 dX11_tryBook_99 fl_11_312 rfl ?_
          refine bv_goto (tgt := 126) dX11_tryBook_102 (by decide) ?_
          refine bv_iinc (j := 1) (v := (x1 + 1)) (ls1 := [(0, .ref x0), (1, .int (x1 + 1)), (2, .int v16.1)]) dX11_tryBook_126 rfl rfl (by decide) rfl rfl ?_
          refine bv_goto (tgt := 29) dX11_tryBook_129 (by decide) ?_
          refine bw_ls (ls1 := [(0, .ref x0), (1, .int (x1 + 1))]) [0, 1] rfl ?_
          exact ih _ _ _ h K0
def f_X11_tryBook (M : bm_M) (x0 : Nat) : Option (Int32 × bm_M) := (if bm_io x0 10 then ((M.2.2 x0 5).bind fun a2 => ((M.2.2 x0 4).bind fun a4 => (if bm_io a2 8 then ((f_X8_copyFrom M a2 a4).bind fun v7 => ((v7.2.2 x0 8).bind fun a9 => (if bm_io a9 1 then ((f_X11_tryBook_l29 x0 1000 0 (bm_sI (bm_sI v7 a9 4 0) a9 5 0)).bind fun y14 => ((y14.2.2 x0 8).bind fun a15 => ((y14.2.2 x0 5).bind fun a17 => (if bm_io a17 8 then (if bm_io a15 1 then ((f_X8_holders (bm_sI y14 a15 6 (y14.1 a17 10)) a17).bind fun v21 => (if ((bm_sI (bm_sI y14 a15 6 (y14.1 a17 10)) a15 7 v21).1 a15 4) = 0 then some ((-1), (bm_sI (bm_sI y14 a15 6 (y14.1 a17 10)) a15 7 v21)) else some (((bm_sI (bm_sI y14 a15 6 (y14.1 a17 10)) a15 7 v21).1 a15 5), (bm_sI (bm_sI y14 a15 6 (y14.1 a17 10)) a15 7 v21)))) else none) else none)))) else none))) else none))) else none)
set_option maxHeartbeats 4000000 in
set_option maxRecDepth 100000 in
theorem c_X11_tryBook {L : bm_L} {d n : Nat} {M : bm_M} {x0 : Nat} {v : Int32 × bm_M} (hN : 181 ≤ n) (h : f_X11_tryBook M x0 = some v) : bm_C L m_X11_tryBook (d + 6) n n [.ref x0] M (fun r M' => r = some (.int v.1) ∧ M' = v.2) := by
  refine bm_C.ofV (by decide) (Nat.le_of_ble_eq_true rfl) ?_
  show bm_V L m_X11_tryBook (d + 6) n n n 0 [(0, .ref x0)] [] M _
  unfold f_X11_tryBook at h
  refine bv_aload_n dX11_tryBook_0 0 rfl ?_
  obtain ⟨q1, h⟩ := bu_io h
  obtain ⟨a2, e3, h⟩ := bu_bd h
  refine bw_getA (a := a2) hN q1 e3 dX11_tryBook_1 fl_11_44 rfl ?_
  refine bv_aload_n dX11_tryBook_4 0 rfl ?_
  obtain ⟨a4, e5, h⟩ := bu_bd h
  refine bw_getA (a := a4) hN q1 e5 dX11_tryBook_5 fl_11_40 rfl ?_
  obtain ⟨q6, h⟩ := bu_io h
  obtain ⟨v7, p8, h⟩ := bu_bd h
  refine bw_callVv (As := [.ref a4]) hN q6 ⟨_, _, rfl⟩ dX11_tryBook_8 mc_11_226 (c_X8_copyFrom (d := d + 4) hN p8) rfl rfl (by decide) ?_
  refine bv_aload_n dX11_tryBook_11 0 rfl ?_
  obtain ⟨a9, e10, h⟩ := bu_bd h
  refine bw_getA (a := a9) hN q1 e10 dX11_tryBook_12 fl_11_64 rfl ?_
  refine bv_iconst (v := 0) dX11_tryBook_15 (by decide) ?_
  obtain ⟨q11, h⟩ := bu_io h
  refine bw_putI hN q11 dX11_tryBook_16 fl_11_315 rfl ?_
  refine bv_aload_n dX11_tryBook_19 0 rfl ?_
  refine bw_getA (a := a9) hN q1 e10 dX11_tryBook_20 fl_11_64 rfl ?_
  refine bv_iconst (v := 0) dX11_tryBook_23 (by decide) ?_
  refine bw_putI hN q11 dX11_tryBook_24 fl_11_312 rfl ?_
  refine bv_iconst (v := 0) dX11_tryBook_27 (by decide) ?_
  refine bv_istore_n (ls1 := [(0, .ref x0), (1, .int 0)]) dX11_tryBook_28 (by decide) rfl rfl ?_
  obtain ⟨r12, p13, h⟩ := bu_bd h
  refine v_X11_tryBook_l29 hN q1 1000 _ _ _ p13 (fun y14 hy => ?_)
  · subst hy
    refine bv_aload_n dX11_tryBook_132 0 rfl ?_
    obtain ⟨a15, e16, h⟩ := bu_bd h
    refine bw_getA (a := a15) hN q1 e16 dX11_tryBook_133 fl_11_64 rfl ?_
    refine bv_aload_n dX11_tryBook_136 0 rfl ?_
    obtain ⟨a17, e18, h⟩ := bu_bd h
    refine bw_getA (a := a17) hN q1 e18 dX11_tryBook_137 fl_11_44 rfl ?_
    obtain ⟨q19, h⟩ := bu_io h
    refine bw_getI hN q19 dX11_tryBook_140 fl_11_206 rfl ?_
    obtain ⟨q20, h⟩ := bu_io h
    refine bw_putI hN q20 dX11_tryBook_143 fl_11_318 rfl ?_
    refine bv_aload_n dX11_tryBook_146 0 rfl ?_
    refine bw_getA (a := a15) hN q1 e16 dX11_tryBook_147 fl_11_64 rfl ?_
    refine bv_aload_n dX11_tryBook_150 0 rfl ?_
    refine bw_getA (a := a17) hN q1 e18 dX11_tryBook_151 fl_11_44 rfl ?_
    obtain ⟨v21, p22, h⟩ := bu_bd h
    refine bw_callV (As := []) hN q19 ⟨_, _, rfl⟩ dX11_tryBook_154 mc_11_209 (c_X8_holders (d := d + 4) hN p22) rfl rfl (Nat.le_of_ble_eq_true rfl) ?_
    refine bw_putI hN q20 dX11_tryBook_157 fl_11_319 rfl ?_
    refine bv_aload_n dX11_tryBook_160 0 rfl ?_
    refine bw_getA (a := a15) hN q1 e16 dX11_tryBook_161 fl_11_64 rfl ?_
    refine bw_getI hN q20 dX11_tryBook_164 fl_11_315 rfl ?_
    refine bv_if_ne (tgt := 174) dX11_tryBook_167 (by decide) (fun cc => ?_) (fun cc => ?_)
    · replace h := bu_f h cc
      refine bv_aload_n dX11_tryBook_174 0 rfl ?_
      refine bw_getA (a := a15) hN q1 e16 dX11_tryBook_175 fl_11_64 rfl ?_
      refine bw_getI hN q20 dX11_tryBook_178 fl_11_312 rfl ?_
      obtain rfl := Option.some.inj h
      exact bv_iret (x := ((bm_sI (bm_sI y14 a15 6 (y14.1 a17 10)) a15 7 v21).1 a15 5)) dX11_tryBook_181 rfl ⟨rfl, rfl⟩
    · replace h := bu_t h cc
      refine bv_iconst (v := (-1)) dX11_tryBook_170 (by decide) ?_
      refine bv_goto (tgt := 181) dX11_tryBook_171 (by decide) ?_
      obtain rfl := Option.some.inj h
      exact bv_iret (x := (-1)) dX11_tryBook_181 rfl ⟨rfl, rfl⟩
def f_X11_book (M : bm_M) (x0 : Nat) (x1 : Int32) : Option (Int32 × bm_M) := (if x1 = 0 then (if bm_io x0 10 then ((M.2.2 x0 1).bind fun a2 => (if bm_io a2 5 then ((f_X5_begin M a2 400).bind fun v5 => ((v5.2.2 x0 8).bind fun a7 => ((v5.2.2 x0 1).bind fun a9 => ((v5.2.2 x0 2).bind fun a11 => (if bm_io a7 1 then ((f_X1_readFrom v5 a7 a9 a11).bind fun v14 => ((v14.2.2 x0 0).bind fun a16 => (if bm_io a16 9 then ((v14.2.2 x0 1).bind fun a19 => (if bm_io a19 5 then (if ((bm_sI (bm_sI v14 a16 1 0) x0 13 ((bm_sI v14 a16 1 0).1 a19 9)).1 x0 13) = 0 then ((f_X11_tryBook (bm_sI (bm_sI v14 a16 1 0) x0 13 ((bm_sI v14 a16 1 0).1 a19 9)) x0).bind fun v22 => (if x1 = 1 then ((v22.2.2.2 x0 8).bind fun a24 => (if bm_io a24 1 then (if (v22.2.1 a24 5) ≤ 0 then some (v22.1, v22.2) else ((f_X11_settleTrial v22.2 x0).bind fun v27 => some (v22.1, v27))) else none)) else some (v22.1, v22.2))) else some (((-2) - ((bm_sI (bm_sI v14 a16 1 0) x0 13 ((bm_sI v14 a16 1 0).1 a19 9)).1 a19 10)), (bm_sI (bm_sI v14 a16 1 0) x0 13 ((bm_sI v14 a16 1 0).1 a19 9)))) else none)) else none))) else none))))) else none)) else none) else (if x1 = 1 then (if bm_io x0 10 then ((M.2.2 x0 1).bind fun a30 => (if bm_io a30 5 then ((f_X5_begin M a30 400).bind fun v33 => ((v33.2.2 x0 8).bind fun a35 => ((v33.2.2 x0 1).bind fun a37 => ((v33.2.2 x0 2).bind fun a39 => (if bm_io a35 1 then ((f_X1_readFrom v33 a35 a37 a39).bind fun v42 => ((v42.2.2 x0 0).bind fun a44 => (if bm_io a44 9 then ((v42.2.2 x0 1).bind fun a47 => (if bm_io a47 5 then (if ((bm_sI (bm_sI v42 a44 1 0) x0 13 ((bm_sI v42 a44 1 0).1 a47 9)).1 x0 13) = 0 then ((f_X11_tryBook (bm_sI (bm_sI v42 a44 1 0) x0 13 ((bm_sI v42 a44 1 0).1 a47 9)) x0).bind fun v50 => (if x1 = 1 then ((v50.2.2.2 x0 8).bind fun a52 => (if bm_io a52 1 then (if (v50.2.1 a52 5) ≤ 0 then some (v50.1, v50.2) else ((f_X11_settleTrial v50.2 x0).bind fun v55 => some (v50.1, v55))) else none)) else some (v50.1, v50.2))) else some (((-2) - ((bm_sI (bm_sI v42 a44 1 0) x0 13 ((bm_sI v42 a44 1 0).1 a47 9)).1 a47 10)), (bm_sI (bm_sI v42 a44 1 0) x0 13 ((bm_sI v42 a44 1 0).1 a47 9)))) else none)) else none))) else none))))) else none)) else none) else some ((-1000), M)))
set_option maxHeartbeats 4000000 in
set_option maxRecDepth 100000 in
theorem c_X11_book {L : bm_L} {d n : Nat} {M : bm_M} {x0 : Nat} {x1 : Int32} {v : Int32 × bm_M} (hN : 181 ≤ n) (h : f_X11_book M x0 x1 = some v) : bm_C L m_X11_book (d + 7) n n [.ref x0, .int x1] M (fun r M' => r = some (.int v.1) ∧ M' = v.2) := by
  refine bm_C.ofV (by decide) (Nat.le_of_ble_eq_true rfl) ?_
  show bm_V L m_X11_book (d + 7) n n n 0 [(0, .ref x0), (1, .int x1)] [] M _
  unfold f_X11_book at h
  refine bv_iload_n dX11_book_0 1 rfl ?_
  refine bv_if_eq (tgt := 13) dX11_book_1 (by decide) (fun cc => ?_) (fun cc => ?_)
  · replace h := bu_t h cc
    refine bv_aload_n dX11_book_13 0 rfl ?_
    obtain ⟨q1, h⟩ := bu_io h
    obtain ⟨a2, e3, h⟩ := bu_bd h
    refine bw_getA (a := a2) hN q1 e3 dX11_book_14 fl_11_21 rfl ?_
    refine bv_sipush (v := 400) dX11_book_17 (by decide) ?_
    obtain ⟨q4, h⟩ := bu_io h
    obtain ⟨v5, p6, h⟩ := bu_bd h
    refine bw_callVv (As := [.int 400]) hN q4 ⟨_, _, rfl⟩ dX11_book_20 mc_11_109 (c_X5_begin (d := d + 3) hN p6) rfl rfl (by decide) ?_
    refine bv_aload_n dX11_book_23 0 rfl ?_
    obtain ⟨a7, e8, h⟩ := bu_bd h
    refine bw_getA (a := a7) hN q1 e8 dX11_book_24 fl_11_64 rfl ?_
    refine bv_aload_n dX11_book_27 0 rfl ?_
    obtain ⟨a9, e10, h⟩ := bu_bd h
    refine bw_getA (a := a9) hN q1 e10 dX11_book_28 fl_11_21 rfl ?_
    refine bv_aload_n dX11_book_31 0 rfl ?_
    obtain ⟨a11, e12, h⟩ := bu_bd h
    refine bw_getA (a := a11) hN q1 e12 dX11_book_32 fl_11_28 rfl ?_
    obtain ⟨q13, h⟩ := bu_io h
    obtain ⟨v14, p15, h⟩ := bu_bd h
    refine bw_callVv (As := [.ref a9, .ref a11]) hN q13 ⟨_, _, rfl⟩ dX11_book_35 mc_11_306 (c_X1_readFrom (d := d + 0) hN p15) rfl rfl (by decide) ?_
    refine bv_aload_n dX11_book_38 0 rfl ?_
    obtain ⟨a16, e17, h⟩ := bu_bd h
    refine bw_getA (a := a16) hN q1 e17 dX11_book_39 fl_11_12 rfl ?_
    refine bv_iconst (v := 0) dX11_book_42 (by decide) ?_
    obtain ⟨q18, h⟩ := bu_io h
    refine bw_putI hN q18 dX11_book_43 fl_11_102 rfl ?_
    refine bv_aload_n dX11_book_46 0 rfl ?_
    refine bv_aload_n dX11_book_47 0 rfl ?_
    obtain ⟨a19, e20, h⟩ := bu_bd h
    refine bw_getA (a := a19) hN q1 e20 dX11_book_48 fl_11_21 rfl ?_
    obtain ⟨q21, h⟩ := bu_io h
    refine bw_getI hN q21 dX11_book_51 fl_11_116 rfl ?_
    refine bw_putI hN q1 dX11_book_54 fl_11_119 rfl ?_
    refine bv_aload_n dX11_book_57 0 rfl ?_
    refine bw_getI hN q1 dX11_book_58 fl_11_119 rfl ?_
    refine bv_if_eq (tgt := 75) dX11_book_61 (by decide) (fun cc => ?_) (fun cc => ?_)
    · replace h := bu_t h cc
      refine bv_aload_n dX11_book_75 0 rfl ?_
      obtain ⟨v22, p23, h⟩ := bu_bd h
      refine bw_callV (As := []) hN q1 ⟨_, _, rfl⟩ dX11_book_76 mc_11_309 (c_X11_tryBook (d := d + 0) hN p23) rfl rfl (by decide) ?_
      refine bv_istore_n (ls1 := [(0, .ref x0), (1, .int x1), (2, .int v22.1)]) dX11_book_79 (by decide) rfl rfl ?_
      refine bv_iload_n dX11_book_80 1 rfl ?_
      refine bv_iconst (v := 1) dX11_book_81 (by decide) ?_
      refine bv_icmp_ne (tgt := 99) dX11_book_82 (by decide) (fun cc => ?_) (fun cc => ?_)
      · replace h := bu_f h cc
        refine bv_iload_n dX11_book_99 2 rfl ?_
        obtain rfl := Option.some.inj h
        exact bv_iret (x := v22.1) dX11_book_100 rfl ⟨rfl, rfl⟩
      · replace h := bu_t h cc
        refine bv_aload_n dX11_book_85 0 rfl ?_
        obtain ⟨a24, e25, h⟩ := bu_bd h
        refine bw_getA (a := a24) hN q1 e25 dX11_book_86 fl_11_64 rfl ?_
        obtain ⟨q26, h⟩ := bu_io h
        refine bw_getI hN q26 dX11_book_89 fl_11_312 rfl ?_
        refine bv_if_le (tgt := 99) dX11_book_92 (by decide) (fun cc => ?_) (fun cc => ?_)
        · replace h := bu_t h cc
          refine bv_iload_n dX11_book_99 2 rfl ?_
          obtain rfl := Option.some.inj h
          exact bv_iret (x := v22.1) dX11_book_100 rfl ⟨rfl, rfl⟩
        · replace h := bu_f h cc
          refine bv_aload_n dX11_book_95 0 rfl ?_
          obtain ⟨v27, p28, h⟩ := bu_bd h
          refine bw_callVv (As := []) hN q1 ⟨_, _, rfl⟩ dX11_book_96 mc_11_232 (c_X11_settleTrial (d := d + 3) hN p28) rfl rfl (by decide) ?_
          refine bv_iload_n dX11_book_99 2 rfl ?_
          obtain rfl := Option.some.inj h
          exact bv_iret (x := v22.1) dX11_book_100 rfl ⟨rfl, rfl⟩
    · replace h := bu_f h cc
      refine bv_bipush (v := (-2)) dX11_book_64 (by decide) ?_
      refine bv_aload_n dX11_book_66 0 rfl ?_
      refine bw_getA (a := a19) hN q1 e20 dX11_book_67 fl_11_21 rfl ?_
      refine bw_getI hN q21 dX11_book_70 fl_11_120 rfl ?_
      refine bv_isub dX11_book_73 ?_
      obtain rfl := Option.some.inj h
      exact bv_iret (x := ((-2) - ((bm_sI (bm_sI v14 a16 1 0) x0 13 ((bm_sI v14 a16 1 0).1 a19 9)).1 a19 10))) dX11_book_74 rfl ⟨rfl, rfl⟩
  · replace h := bu_f h cc
    refine bv_iload_n dX11_book_4 1 rfl ?_
    refine bv_iconst (v := 1) dX11_book_5 (by decide) ?_
    refine bv_icmp_eq (tgt := 13) dX11_book_6 (by decide) (fun cc => ?_) (fun cc => ?_)
    · replace h := bu_t h cc
      refine bv_aload_n dX11_book_13 0 rfl ?_
      obtain ⟨q29, h⟩ := bu_io h
      obtain ⟨a30, e31, h⟩ := bu_bd h
      refine bw_getA (a := a30) hN q29 e31 dX11_book_14 fl_11_21 rfl ?_
      refine bv_sipush (v := 400) dX11_book_17 (by decide) ?_
      obtain ⟨q32, h⟩ := bu_io h
      obtain ⟨v33, p34, h⟩ := bu_bd h
      refine bw_callVv (As := [.int 400]) hN q32 ⟨_, _, rfl⟩ dX11_book_20 mc_11_109 (c_X5_begin (d := d + 3) hN p34) rfl rfl (by decide) ?_
      refine bv_aload_n dX11_book_23 0 rfl ?_
      obtain ⟨a35, e36, h⟩ := bu_bd h
      refine bw_getA (a := a35) hN q29 e36 dX11_book_24 fl_11_64 rfl ?_
      refine bv_aload_n dX11_book_27 0 rfl ?_
      obtain ⟨a37, e38, h⟩ := bu_bd h
      refine bw_getA (a := a37) hN q29 e38 dX11_book_28 fl_11_21 rfl ?_
      refine bv_aload_n dX11_book_31 0 rfl ?_
      obtain ⟨a39, e40, h⟩ := bu_bd h
      refine bw_getA (a := a39) hN q29 e40 dX11_book_32 fl_11_28 rfl ?_
      obtain ⟨q41, h⟩ := bu_io h
      obtain ⟨v42, p43, h⟩ := bu_bd h
      refine bw_callVv (As := [.ref a37, .ref a39]) hN q41 ⟨_, _, rfl⟩ dX11_book_35 mc_11_306 (c_X1_readFrom (d := d + 0) hN p43) rfl rfl (by decide) ?_
      refine bv_aload_n dX11_book_38 0 rfl ?_
      obtain ⟨a44, e45, h⟩ := bu_bd h
      refine bw_getA (a := a44) hN q29 e45 dX11_book_39 fl_11_12 rfl ?_
      refine bv_iconst (v := 0) dX11_book_42 (by decide) ?_
      obtain ⟨q46, h⟩ := bu_io h
      refine bw_putI hN q46 dX11_book_43 fl_11_102 rfl ?_
      refine bv_aload_n dX11_book_46 0 rfl ?_
      refine bv_aload_n dX11_book_47 0 rfl ?_
      obtain ⟨a47, e48, h⟩ := bu_bd h
      refine bw_getA (a := a47) hN q29 e48 dX11_book_48 fl_11_21 rfl ?_
      obtain ⟨q49, h⟩ := bu_io h
      refine bw_getI hN q49 dX11_book_51 fl_11_116 rfl ?_
      refine bw_putI hN q29 dX11_book_54 fl_11_119 rfl ?_
      refine bv_aload_n dX11_book_57 0 rfl ?_
      refine bw_getI hN q29 dX11_book_58 fl_11_119 rfl ?_
      refine bv_if_eq (tgt := 75) dX11_book_61 (by decide) (fun cc => ?_) (fun cc => ?_)
      · replace h := bu_t h cc
        refine bv_aload_n dX11_book_75 0 rfl ?_
        obtain ⟨v50, p51, h⟩ := bu_bd h
        refine bw_callV (As := []) hN q29 ⟨_, _, rfl⟩ dX11_book_76 mc_11_309 (c_X11_tryBook (d := d + 0) hN p51) rfl rfl (by decide) ?_
        refine bv_istore_n (ls1 := [(0, .ref x0), (1, .int x1), (2, .int v50.1)]) dX11_book_79 (by decide) rfl rfl ?_
        refine bv_iload_n dX11_book_80 1 rfl ?_
        refine bv_iconst (v := 1) dX11_book_81 (by decide) ?_
        refine bv_icmp_ne (tgt := 99) dX11_book_82 (by decide) (fun cc => ?_) (fun cc => ?_)
        · replace h := bu_f h cc
          refine bv_iload_n dX11_book_99 2 rfl ?_
          obtain rfl := Option.some.inj h
          exact bv_iret (x := v50.1) dX11_book_100 rfl ⟨rfl, rfl⟩
        · replace h := bu_t h cc
          refine bv_aload_n dX11_book_85 0 rfl ?_
          obtain ⟨a52, e53, h⟩ := bu_bd h
          refine bw_getA (a := a52) hN q29 e53 dX11_book_86 fl_11_64 rfl ?_
          obtain ⟨q54, h⟩ := bu_io h
          refine bw_getI hN q54 dX11_book_89 fl_11_312 rfl ?_
          refine bv_if_le (tgt := 99) dX11_book_92 (by decide) (fun cc => ?_) (fun cc => ?_)
          · replace h := bu_t h cc
            refine bv_iload_n dX11_book_99 2 rfl ?_
            obtain rfl := Option.some.inj h
            exact bv_iret (x := v50.1) dX11_book_100 rfl ⟨rfl, rfl⟩
          · replace h := bu_f h cc
            refine bv_aload_n dX11_book_95 0 rfl ?_
            obtain ⟨v55, p56, h⟩ := bu_bd h
            refine bw_callVv (As := []) hN q29 ⟨_, _, rfl⟩ dX11_book_96 mc_11_232 (c_X11_settleTrial (d := d + 3) hN p56) rfl rfl (by decide) ?_
            refine bv_iload_n dX11_book_99 2 rfl ?_
            obtain rfl := Option.some.inj h
            exact bv_iret (x := v50.1) dX11_book_100 rfl ⟨rfl, rfl⟩
      · replace h := bu_f h cc
        refine bv_bipush (v := (-2)) dX11_book_64 (by decide) ?_
        refine bv_aload_n dX11_book_66 0 rfl ?_
        refine bw_getA (a := a47) hN q29 e48 dX11_book_67 fl_11_21 rfl ?_
        refine bw_getI hN q49 dX11_book_70 fl_11_120 rfl ?_
        refine bv_isub dX11_book_73 ?_
        obtain rfl := Option.some.inj h
        exact bv_iret (x := ((-2) - ((bm_sI (bm_sI v42 a44 1 0) x0 13 ((bm_sI v42 a44 1 0).1 a47 9)).1 a47 10))) dX11_book_74 rfl ⟨rfl, rfl⟩
    · replace h := bu_f h cc
      refine bv_sipush (v := (-1000)) dX11_book_9 (by decide) ?_
      obtain rfl := Option.some.inj h
      exact bv_iret (x := (-1000)) dX11_book_12 rfl ⟨rfl, rfl⟩
def f_X11_told (M : bm_M) (x0 : Nat) (x1 : Int32) : Option (Int32) := (if x1 = 0 then (if bm_io x0 10 then ((M.2.2 x0 8).bind fun a3 => (if bm_io a3 1 then some (M.1 a3 4) else none)) else none) else (if x1 = 1 then (if bm_io x0 10 then ((M.2.2 x0 8).bind fun a8 => (if bm_io a8 1 then some (M.1 a8 5) else none)) else none) else (if x1 = 2 then (if bm_io x0 10 then ((M.2.2 x0 8).bind fun a13 => (if bm_io a13 1 then some (M.1 a13 6) else none)) else none) else (if x1 = 3 then (if bm_io x0 10 then ((M.2.2 x0 8).bind fun a18 => (if bm_io a18 1 then some (M.1 a18 7) else none)) else none) else some (-1)))))
set_option maxHeartbeats 4000000 in
set_option maxRecDepth 100000 in
theorem c_X11_told {L : bm_L} {d n : Nat} {M : bm_M} {x0 : Nat} {x1 : Int32} {v : Int32} (hN : 181 ≤ n) (h : f_X11_told M x0 x1 = some v) : bm_C L m_X11_told d n n [.ref x0, .int x1] M (fun r M' => r = some (.int v) ∧ M' = M) := by
  refine bm_C.ofV (by decide) (Nat.le_of_ble_eq_true rfl) ?_
  show bm_V L m_X11_told d n n n 0 [(0, .ref x0), (1, .int x1)] [] M _
  unfold f_X11_told at h
  refine bv_iload_n dX11_told_0 1 rfl ?_
  by_cases c1 : x1 = 0
  · replace h := bu_t h c1
    refine bv_tableIn (tgt := 32) dX11_told_1 (by rw [c1]; decide) (by rw [c1]; decide) (by rw [c1]; rfl) (by decide) ?_
    refine bv_aload_n dX11_told_32 0 rfl ?_
    obtain ⟨q2, h⟩ := bu_io h
    obtain ⟨a3, e4, h⟩ := bu_bd h
    refine bw_getA (a := a3) hN q2 e4 dX11_told_33 fl_11_64 rfl ?_
    obtain ⟨q5, h⟩ := bu_io h
    refine bw_getI hN q5 dX11_told_36 fl_11_315 rfl ?_
    obtain rfl := Option.some.inj h
    exact bv_iret (x := (M.1 a3 4)) dX11_told_39 rfl ⟨rfl, rfl⟩
  · replace h := bu_f h c1
    by_cases c6 : x1 = 1
    · replace h := bu_t h c6
      refine bv_tableIn (tgt := 40) dX11_told_1 (by rw [c6]; decide) (by rw [c6]; decide) (by rw [c6]; rfl) (by decide) ?_
      refine bv_aload_n dX11_told_40 0 rfl ?_
      obtain ⟨q7, h⟩ := bu_io h
      obtain ⟨a8, e9, h⟩ := bu_bd h
      refine bw_getA (a := a8) hN q7 e9 dX11_told_41 fl_11_64 rfl ?_
      obtain ⟨q10, h⟩ := bu_io h
      refine bw_getI hN q10 dX11_told_44 fl_11_312 rfl ?_
      obtain rfl := Option.some.inj h
      exact bv_iret (x := (M.1 a8 5)) dX11_told_47 rfl ⟨rfl, rfl⟩
    · replace h := bu_f h c6
      by_cases c11 : x1 = 2
      · replace h := bu_t h c11
        refine bv_tableIn (tgt := 48) dX11_told_1 (by rw [c11]; decide) (by rw [c11]; decide) (by rw [c11]; rfl) (by decide) ?_
        refine bv_aload_n dX11_told_48 0 rfl ?_
        obtain ⟨q12, h⟩ := bu_io h
        obtain ⟨a13, e14, h⟩ := bu_bd h
        refine bw_getA (a := a13) hN q12 e14 dX11_told_49 fl_11_64 rfl ?_
        obtain ⟨q15, h⟩ := bu_io h
        refine bw_getI hN q15 dX11_told_52 fl_11_318 rfl ?_
        obtain rfl := Option.some.inj h
        exact bv_iret (x := (M.1 a13 6)) dX11_told_55 rfl ⟨rfl, rfl⟩
      · replace h := bu_f h c11
        by_cases c16 : x1 = 3
        · replace h := bu_t h c16
          refine bv_tableIn (tgt := 56) dX11_told_1 (by rw [c16]; decide) (by rw [c16]; decide) (by rw [c16]; rfl) (by decide) ?_
          refine bv_aload_n dX11_told_56 0 rfl ?_
          obtain ⟨q17, h⟩ := bu_io h
          obtain ⟨a18, e19, h⟩ := bu_bd h
          refine bw_getA (a := a18) hN q17 e19 dX11_told_57 fl_11_64 rfl ?_
          obtain ⟨q20, h⟩ := bu_io h
          refine bw_getI hN q20 dX11_told_60 fl_11_319 rfl ?_
          obtain rfl := Option.some.inj h
          exact bv_iret (x := (M.1 a18 7)) dX11_told_63 rfl ⟨rfl, rfl⟩
        · replace h := bu_f h c16
          refine bv_tableOut (tgt := 64) dX11_told_1 (bm_sw (k := 4) (by decide) (fun j hj => by match j, hj with | 0, _ => exact c1 | 1, _ => exact c6 | 2, _ => exact c11 | 3, _ => exact c16)) (by decide) ?_
          refine bv_iconst (v := (-1)) dX11_told_64 (by decide) ?_
          obtain rfl := Option.some.inj h
          exact bv_iret (x := (-1)) dX11_told_65 rfl ⟨rfl, rfl⟩
def f_X11_sentence (M : bm_M) (x0 : Nat) : Option (Int32 × bm_M) := (if bm_io x0 10 then ((M.2.2 x0 1).bind fun a2 => (if bm_io a2 5 then ((f_X5_begin M a2 200).bind fun v5 => ((v5.2.2 x0 10).bind fun a7 => (if bm_io a7 7 then ((f_X7_forget v5 a7).bind fun v10 => ((v10.2.2 x0 10).bind fun a12 => ((v10.2.2 x0 1).bind fun a14 => ((v10.2.2 x0 2).bind fun a16 => (if bm_io a12 7 then ((f_grp 60 0 v10 a12 a14 a16 1).bind fun v19 => (if v19.1 = true then ((v19.2.2.2 x0 1).bind fun a37 => (if bm_io a37 5 then (if (v19.2.1 a37 3) = 0 then ((v19.2.2.2 x0 0).bind fun a40 => (if bm_io a40 9 then (if ((bm_sI (bm_sI v19.2 a40 1 0) x0 13 ((bm_sI v19.2 a40 1 0).1 a37 9)).1 x0 13) = 0 then ((v19.2.2.2 x0 9).bind fun a43 => ((v19.2.2.2 x0 10).bind fun a45 => (if bm_io a43 7 then ((f_X7_copyFrom (bm_sI (bm_sI v19.2 a40 1 0) x0 13 ((bm_sI v19.2 a40 1 0).1 a37 9)) a43 a45).bind fun v48 => ((v48.2.2 x0 9).bind fun a50 => (if bm_io a50 7 then some ((v48.1 a50 5), v48) else none))) else none))) else some (((-1) - ((bm_sI (bm_sI v19.2 a40 1 0) x0 13 ((bm_sI v19.2 a40 1 0).1 a37 9)).1 a37 10)), (bm_sI (bm_sI v19.2 a40 1 0) x0 13 ((bm_sI v19.2 a40 1 0).1 a37 9)))) else none)) else ((f_X5_refuse v19.2 a37 1).bind fun v53 => ((v53.2.2.2 x0 0).bind fun a55 => (if bm_io a55 9 then ((v53.2.2.2 x0 1).bind fun a58 => (if bm_io a58 5 then (if ((bm_sI (bm_sI v53.2 a55 1 0) x0 13 ((bm_sI v53.2 a55 1 0).1 a58 9)).1 x0 13) = 0 then ((v53.2.2.2 x0 9).bind fun a61 => ((v53.2.2.2 x0 10).bind fun a63 => (if bm_io a61 7 then ((f_X7_copyFrom (bm_sI (bm_sI v53.2 a55 1 0) x0 13 ((bm_sI v53.2 a55 1 0).1 a58 9)) a61 a63).bind fun v66 => ((v66.2.2 x0 9).bind fun a68 => (if bm_io a68 7 then some ((v66.1 a68 5), v66) else none))) else none))) else some (((-1) - ((bm_sI (bm_sI v53.2 a55 1 0) x0 13 ((bm_sI v53.2 a55 1 0).1 a58 9)).1 a58 10)), (bm_sI (bm_sI v53.2 a55 1 0) x0 13 ((bm_sI v53.2 a55 1 0).1 a58 9)))) else none)) else none)))) else none)) else ((v19.2.2.2 x0 0).bind fun a21 => (if bm_io a21 9 then ((v19.2.2.2 x0 1).bind fun a24 => (if bm_io a24 5 then (if ((bm_sI (bm_sI v19.2 a21 1 0) x0 13 ((bm_sI v19.2 a21 1 0).1 a24 9)).1 x0 13) = 0 then ((v19.2.2.2 x0 9).bind fun a27 => ((v19.2.2.2 x0 10).bind fun a29 => (if bm_io a27 7 then ((f_X7_copyFrom (bm_sI (bm_sI v19.2 a21 1 0) x0 13 ((bm_sI v19.2 a21 1 0).1 a24 9)) a27 a29).bind fun v32 => ((v32.2.2 x0 9).bind fun a34 => (if bm_io a34 7 then some ((v32.1 a34 5), v32) else none))) else none))) else some (((-1) - ((bm_sI (bm_sI v19.2 a21 1 0) x0 13 ((bm_sI v19.2 a21 1 0).1 a24 9)).1 a24 10)), (bm_sI (bm_sI v19.2 a21 1 0) x0 13 ((bm_sI v19.2 a21 1 0).1 a24 9)))) else none)) else none)))) else none))))) else none))) else none)) else none)
set_option maxHeartbeats 4000000 in
set_option maxRecDepth 100000 in
theorem c_X11_sentence {L : bm_L} {d n : Nat} {M : bm_M} {x0 : Nat} {v : Int32 × bm_M} (hN : 181 ≤ n) (h : f_X11_sentence M x0 = some v) : bm_C L m_X11_sentence (d + 64) n n [.ref x0] M (fun r M' => r = some (.int v.1) ∧ M' = v.2) := by
  refine bm_C.ofV (by decide) (Nat.le_of_ble_eq_true rfl) ?_
  show bm_V L m_X11_sentence (d + 64) n n n 0 [(0, .ref x0)] [] M _
  unfold f_X11_sentence at h
  refine bv_aload_n dX11_sentence_0 0 rfl ?_
  obtain ⟨q1, h⟩ := bu_io h
  obtain ⟨a2, e3, h⟩ := bu_bd h
  refine bw_getA (a := a2) hN q1 e3 dX11_sentence_1 fl_11_21 rfl ?_
  refine bv_sipush (v := 200) dX11_sentence_4 (by decide) ?_
  obtain ⟨q4, h⟩ := bu_io h
  obtain ⟨v5, p6, h⟩ := bu_bd h
  refine bw_callVv (As := [.int 200]) hN q4 ⟨_, _, rfl⟩ dX11_sentence_7 mc_11_109 (c_X5_begin (d := d + 60) hN p6) rfl rfl (by decide) ?_
  refine bv_aload_n dX11_sentence_10 0 rfl ?_
  obtain ⟨a7, e8, h⟩ := bu_bd h
  refine bw_getA (a := a7) hN q1 e8 dX11_sentence_11 fl_11_75 rfl ?_
  obtain ⟨q9, h⟩ := bu_io h
  obtain ⟨v10, p11, h⟩ := bu_bd h
  refine bw_callVv (As := []) hN q9 ⟨_, _, rfl⟩ dX11_sentence_14 mc_11_128 (c_X7_forget (d := d + 63) hN p11) rfl rfl (by decide) ?_
  refine bv_aload_n dX11_sentence_17 0 rfl ?_
  obtain ⟨a12, e13, h⟩ := bu_bd h
  refine bw_getA (a := a12) hN q1 e13 dX11_sentence_18 fl_11_75 rfl ?_
  refine bv_aload_n dX11_sentence_21 0 rfl ?_
  obtain ⟨a14, e15, h⟩ := bu_bd h
  refine bw_getA (a := a14) hN q1 e15 dX11_sentence_22 fl_11_21 rfl ?_
  refine bv_aload_n dX11_sentence_25 0 rfl ?_
  obtain ⟨a16, e17, h⟩ := bu_bd h
  refine bw_getA (a := a16) hN q1 e17 dX11_sentence_26 fl_11_28 rfl ?_
  refine bv_iconst (v := 1) dX11_sentence_29 (by decide) ?_
  obtain ⟨q18, h⟩ := bu_io h
  obtain ⟨v19, p20, h⟩ := bu_bd h
  refine bw_callV (As := [.ref a14, .ref a16, .int 1]) hN q18 ⟨_, _, rfl⟩ dX11_sentence_30 mc_11_321 (c_grp 60 (d := d) hN 0 _ _ _ _ _ _ p20) rfl rfl (by decide) ?_
  refine bw_ifB_eq (b := v19.1) (tgt := 55) dX11_sentence_33 (by decide) (fun cc => ?_) (fun cc => ?_)
  · replace h := bu_bf h cc
    refine bv_aload_n dX11_sentence_55 0 rfl ?_
    obtain ⟨a21, e22, h⟩ := bu_bd h
    refine bw_getA (a := a21) hN q1 e22 dX11_sentence_56 fl_11_12 rfl ?_
    refine bv_iconst (v := 0) dX11_sentence_59 (by decide) ?_
    obtain ⟨q23, h⟩ := bu_io h
    refine bw_putI hN q23 dX11_sentence_60 fl_11_102 rfl ?_
    refine bv_aload_n dX11_sentence_63 0 rfl ?_
    refine bv_aload_n dX11_sentence_64 0 rfl ?_
    obtain ⟨a24, e25, h⟩ := bu_bd h
    refine bw_getA (a := a24) hN q1 e25 dX11_sentence_65 fl_11_21 rfl ?_
    obtain ⟨q26, h⟩ := bu_io h
    refine bw_getI hN q26 dX11_sentence_68 fl_11_116 rfl ?_
    refine bw_putI hN q1 dX11_sentence_71 fl_11_119 rfl ?_
    refine bv_aload_n dX11_sentence_74 0 rfl ?_
    refine bw_getI hN q1 dX11_sentence_75 fl_11_119 rfl ?_
    refine bv_if_eq (tgt := 91) dX11_sentence_78 (by decide) (fun cc => ?_) (fun cc => ?_)
    · replace h := bu_t h cc
      refine bv_aload_n dX11_sentence_91 0 rfl ?_
      obtain ⟨a27, e28, h⟩ := bu_bd h
      refine bw_getA (a := a27) hN q1 e28 dX11_sentence_92 fl_11_71 rfl ?_
      refine bv_aload_n dX11_sentence_95 0 rfl ?_
      obtain ⟨a29, e30, h⟩ := bu_bd h
      refine bw_getA (a := a29) hN q1 e30 dX11_sentence_96 fl_11_75 rfl ?_
      obtain ⟨q31, h⟩ := bu_io h
      obtain ⟨v32, p33, h⟩ := bu_bd h
      refine bw_callVv (As := [.ref a29]) hN q31 ⟨_, _, rfl⟩ dX11_sentence_99 mc_11_331 (c_X7_copyFrom (d := d + 63) hN p33) rfl rfl (by decide) ?_
      refine bv_aload_n dX11_sentence_102 0 rfl ?_
      obtain ⟨a34, e35, h⟩ := bu_bd h
      refine bw_getA (a := a34) hN q1 e35 dX11_sentence_103 fl_11_71 rfl ?_
      obtain ⟨q36, h⟩ := bu_io h
      refine bw_getI hN q36 dX11_sentence_106 fl_11_334 rfl ?_
      obtain rfl := Option.some.inj h
      exact bv_iret (x := (v32.1 a34 5)) dX11_sentence_109 rfl ⟨rfl, rfl⟩
    · replace h := bu_f h cc
      refine bv_iconst (v := (-1)) dX11_sentence_81 (by decide) ?_
      refine bv_aload_n dX11_sentence_82 0 rfl ?_
      refine bw_getA (a := a24) hN q1 e25 dX11_sentence_83 fl_11_21 rfl ?_
      refine bw_getI hN q26 dX11_sentence_86 fl_11_120 rfl ?_
      refine bv_isub dX11_sentence_89 ?_
      obtain rfl := Option.some.inj h
      exact bv_iret (x := ((-1) - ((bm_sI (bm_sI v19.2 a21 1 0) x0 13 ((bm_sI v19.2 a21 1 0).1 a24 9)).1 a24 10))) dX11_sentence_90 rfl ⟨rfl, rfl⟩
  · replace h := bu_bt h cc
    refine bv_aload_n dX11_sentence_36 0 rfl ?_
    obtain ⟨a37, e38, h⟩ := bu_bd h
    refine bw_getA (a := a37) hN q1 e38 dX11_sentence_37 fl_11_21 rfl ?_
    obtain ⟨q39, h⟩ := bu_io h
    refine bw_getI hN q39 dX11_sentence_40 fl_11_325 rfl ?_
    refine bv_if_eq (tgt := 55) dX11_sentence_43 (by decide) (fun cc => ?_) (fun cc => ?_)
    · replace h := bu_t h cc
      refine bv_aload_n dX11_sentence_55 0 rfl ?_
      obtain ⟨a40, e41, h⟩ := bu_bd h
      refine bw_getA (a := a40) hN q1 e41 dX11_sentence_56 fl_11_12 rfl ?_
      refine bv_iconst (v := 0) dX11_sentence_59 (by decide) ?_
      obtain ⟨q42, h⟩ := bu_io h
      refine bw_putI hN q42 dX11_sentence_60 fl_11_102 rfl ?_
      refine bv_aload_n dX11_sentence_63 0 rfl ?_
      refine bv_aload_n dX11_sentence_64 0 rfl ?_
      refine bw_getA (a := a37) hN q1 e38 dX11_sentence_65 fl_11_21 rfl ?_
      refine bw_getI hN q39 dX11_sentence_68 fl_11_116 rfl ?_
      refine bw_putI hN q1 dX11_sentence_71 fl_11_119 rfl ?_
      refine bv_aload_n dX11_sentence_74 0 rfl ?_
      refine bw_getI hN q1 dX11_sentence_75 fl_11_119 rfl ?_
      refine bv_if_eq (tgt := 91) dX11_sentence_78 (by decide) (fun cc => ?_) (fun cc => ?_)
      · replace h := bu_t h cc
        refine bv_aload_n dX11_sentence_91 0 rfl ?_
        obtain ⟨a43, e44, h⟩ := bu_bd h
        refine bw_getA (a := a43) hN q1 e44 dX11_sentence_92 fl_11_71 rfl ?_
        refine bv_aload_n dX11_sentence_95 0 rfl ?_
        obtain ⟨a45, e46, h⟩ := bu_bd h
        refine bw_getA (a := a45) hN q1 e46 dX11_sentence_96 fl_11_75 rfl ?_
        obtain ⟨q47, h⟩ := bu_io h
        obtain ⟨v48, p49, h⟩ := bu_bd h
        refine bw_callVv (As := [.ref a45]) hN q47 ⟨_, _, rfl⟩ dX11_sentence_99 mc_11_331 (c_X7_copyFrom (d := d + 63) hN p49) rfl rfl (by decide) ?_
        refine bv_aload_n dX11_sentence_102 0 rfl ?_
        obtain ⟨a50, e51, h⟩ := bu_bd h
        refine bw_getA (a := a50) hN q1 e51 dX11_sentence_103 fl_11_71 rfl ?_
        obtain ⟨q52, h⟩ := bu_io h
        refine bw_getI hN q52 dX11_sentence_106 fl_11_334 rfl ?_
        obtain rfl := Option.some.inj h
        exact bv_iret (x := (v48.1 a50 5)) dX11_sentence_109 rfl ⟨rfl, rfl⟩
      · replace h := bu_f h cc
        refine bv_iconst (v := (-1)) dX11_sentence_81 (by decide) ?_
        refine bv_aload_n dX11_sentence_82 0 rfl ?_
        refine bw_getA (a := a37) hN q1 e38 dX11_sentence_83 fl_11_21 rfl ?_
        refine bw_getI hN q39 dX11_sentence_86 fl_11_120 rfl ?_
        refine bv_isub dX11_sentence_89 ?_
        obtain rfl := Option.some.inj h
        exact bv_iret (x := ((-1) - ((bm_sI (bm_sI v19.2 a40 1 0) x0 13 ((bm_sI v19.2 a40 1 0).1 a37 9)).1 a37 10))) dX11_sentence_90 rfl ⟨rfl, rfl⟩
    · replace h := bu_f h cc
      refine bv_aload_n dX11_sentence_46 0 rfl ?_
      refine bw_getA (a := a37) hN q1 e38 dX11_sentence_47 fl_11_21 rfl ?_
      refine bv_iconst (v := 1) dX11_sentence_50 (by decide) ?_
      obtain ⟨v53, p54, h⟩ := bu_bd h
      refine bw_callV (As := [.int 1]) hN q39 ⟨_, _, rfl⟩ dX11_sentence_51 mc_11_328 (c_X5_refuse (d := d + 63) hN p54) rfl rfl (by decide) ?_
      refine bv_pop dX11_sentence_54 rfl ?_
      refine bv_aload_n dX11_sentence_55 0 rfl ?_
      obtain ⟨a55, e56, h⟩ := bu_bd h
      refine bw_getA (a := a55) hN q1 e56 dX11_sentence_56 fl_11_12 rfl ?_
      refine bv_iconst (v := 0) dX11_sentence_59 (by decide) ?_
      obtain ⟨q57, h⟩ := bu_io h
      refine bw_putI hN q57 dX11_sentence_60 fl_11_102 rfl ?_
      refine bv_aload_n dX11_sentence_63 0 rfl ?_
      refine bv_aload_n dX11_sentence_64 0 rfl ?_
      obtain ⟨a58, e59, h⟩ := bu_bd h
      refine bw_getA (a := a58) hN q1 e59 dX11_sentence_65 fl_11_21 rfl ?_
      obtain ⟨q60, h⟩ := bu_io h
      refine bw_getI hN q60 dX11_sentence_68 fl_11_116 rfl ?_
      refine bw_putI hN q1 dX11_sentence_71 fl_11_119 rfl ?_
      refine bv_aload_n dX11_sentence_74 0 rfl ?_
      refine bw_getI hN q1 dX11_sentence_75 fl_11_119 rfl ?_
      refine bv_if_eq (tgt := 91) dX11_sentence_78 (by decide) (fun cc => ?_) (fun cc => ?_)
      · replace h := bu_t h cc
        refine bv_aload_n dX11_sentence_91 0 rfl ?_
        obtain ⟨a61, e62, h⟩ := bu_bd h
        refine bw_getA (a := a61) hN q1 e62 dX11_sentence_92 fl_11_71 rfl ?_
        refine bv_aload_n dX11_sentence_95 0 rfl ?_
        obtain ⟨a63, e64, h⟩ := bu_bd h
        refine bw_getA (a := a63) hN q1 e64 dX11_sentence_96 fl_11_75 rfl ?_
        obtain ⟨q65, h⟩ := bu_io h
        obtain ⟨v66, p67, h⟩ := bu_bd h
        refine bw_callVv (As := [.ref a63]) hN q65 ⟨_, _, rfl⟩ dX11_sentence_99 mc_11_331 (c_X7_copyFrom (d := d + 63) hN p67) rfl rfl (by decide) ?_
        refine bv_aload_n dX11_sentence_102 0 rfl ?_
        obtain ⟨a68, e69, h⟩ := bu_bd h
        refine bw_getA (a := a68) hN q1 e69 dX11_sentence_103 fl_11_71 rfl ?_
        obtain ⟨q70, h⟩ := bu_io h
        refine bw_getI hN q70 dX11_sentence_106 fl_11_334 rfl ?_
        obtain rfl := Option.some.inj h
        exact bv_iret (x := (v66.1 a68 5)) dX11_sentence_109 rfl ⟨rfl, rfl⟩
      · replace h := bu_f h cc
        refine bv_iconst (v := (-1)) dX11_sentence_81 (by decide) ?_
        refine bv_aload_n dX11_sentence_82 0 rfl ?_
        refine bw_getA (a := a58) hN q1 e59 dX11_sentence_83 fl_11_21 rfl ?_
        refine bw_getI hN q60 dX11_sentence_86 fl_11_120 rfl ?_
        refine bv_isub dX11_sentence_89 ?_
        obtain rfl := Option.some.inj h
        exact bv_iret (x := ((-1) - ((bm_sI (bm_sI v53.2 a55 1 0) x0 13 ((bm_sI v53.2 a55 1 0).1 a58 9)).1 a58 10))) dX11_sentence_90 rfl ⟨rfl, rfl⟩
def f_X11_bitNumber_l4 (M : bm_M) (x0 : Int32) (x1 : Int32) : Nat → Int32 → Int32 → Option (((Int32) ⊕ (Unit)))
  | 0, _, _ => none
  | k + 1, x2, x3 => (if 8 ≤ x3 then some (Sum.inr ()) else (if (f_X11_bit x0 x3) = 1 then (if x2 = x1 then some (Sum.inl x3) else f_X11_bitNumber_l4 M x0 x1 k (x2 + 1) (x3 + 1)) else f_X11_bitNumber_l4 M x0 x1 k x2 (x3 + 1)))
set_option maxHeartbeats 4000000 in
set_option maxRecDepth 100000 in
theorem v_X11_bitNumber_l4 {L : bm_L} {d n : Nat} {Q : Option Value → bm_M → Prop} {M : bm_M} {x0 : Int32} {x1 : Int32} (hN : 181 ≤ n) : ∀ (k : Nat) (x2 : Int32) (x3 : Int32) (r : ((Int32) ⊕ (Unit))), f_X11_bitNumber_l4 M x0 x1 k x2 x3 = some r → (∀ yy, (Sum.inl yy) = r → bm_V L m_X11_bitNumber (d + 1) n n n 24 [(3, .int yy)] [] M Q) → (∀ yy, (Sum.inr yy) = r → bm_V L m_X11_bitNumber (d + 1) n n n 35 [] [] M Q) → bm_V L m_X11_bitNumber (d + 1) n n n 4 [(0, .int x0), (1, .int x1), (2, .int x2), (3, .int x3)] [] M Q := by
  intro k
  induction k with
  | zero => intro x2 x3 r h; cases (show (none : Option (((Int32) ⊕ (Unit)))) = some r from h)
  | succ k ih =>
    intro x2 x3 r h K0 K1
    unfold f_X11_bitNumber_l4 at h
    refine bv_iload_n dX11_bitNumber_4 3 rfl ?_
    refine bv_bipush (v := 8) dX11_bitNumber_5 (by decide) ?_
    refine bv_icmp_ge (tgt := 35) dX11_bitNumber_7 (by decide) (fun cc => ?_) (fun cc => ?_)
    · replace h := bu_t h cc
      refine bw_ls (ls1 := []) [] rfl ?_
      obtain rfl := Option.some.inj h
      exact K1 _ rfl
    · replace h := bu_f h cc
      refine bv_iload_n dX11_bitNumber_10 0 rfl ?_
      refine bv_iload_n dX11_bitNumber_11 3 rfl ?_
      refine bw_callS (As := [.int x0, .int x3]) dX11_bitNumber_12 mc_11_172 (c_X11_bit (d := d + 0) hN rfl) rfl rfl (by decide) ?_
      refine bv_iconst (v := 1) dX11_bitNumber_15 (by decide) ?_
      refine bv_icmp_ne (tgt := 29) dX11_bitNumber_16 (by decide) (fun cc => ?_) (fun cc => ?_)
      · replace h := bu_f h cc
        refine bv_iinc (j := 3) (v := (x3 + 1)) (ls1 := [(0, .int x0), (1, .int x1), (2, .int x2), (3, .int (x3 + 1))]) dX11_bitNumber_29 rfl rfl (by decide) rfl rfl ?_
        refine bv_goto (tgt := 4) dX11_bitNumber_32 (by decide) ?_
        exact ih _ _ _ h K0 K1
      · replace h := bu_t h cc
        refine bv_iload_n dX11_bitNumber_19 2 rfl ?_
        refine bv_iload_n dX11_bitNumber_20 1 rfl ?_
        refine bv_icmp_ne (tgt := 26) dX11_bitNumber_21 (by decide) (fun cc => ?_) (fun cc => ?_)
        · replace h := bu_f h cc
          refine bv_iinc (j := 2) (v := (x2 + 1)) (ls1 := [(0, .int x0), (1, .int x1), (2, .int (x2 + 1)), (3, .int x3)]) dX11_bitNumber_26 rfl rfl (by decide) rfl rfl ?_
          refine bv_iinc (j := 3) (v := (x3 + 1)) (ls1 := [(0, .int x0), (1, .int x1), (2, .int (x2 + 1)), (3, .int (x3 + 1))]) dX11_bitNumber_29 rfl rfl (by decide) rfl rfl ?_
          refine bv_goto (tgt := 4) dX11_bitNumber_32 (by decide) ?_
          exact ih _ _ _ h K0 K1
        · replace h := bu_t h cc
          refine bw_ls (ls1 := [(3, .int x3)]) [3] rfl ?_
          obtain rfl := Option.some.inj h
          exact K0 _ rfl
def f_X11_bitNumber (M : bm_M) (x0 : Int32) (x1 : Int32) : Option (Int32) := ((f_X11_bitNumber_l4 M x0 x1 1000 0 0).bind fun rr => match rr with | (Sum.inl y3) => some y3 | (Sum.inr y3) => some (-1))
set_option maxHeartbeats 4000000 in
set_option maxRecDepth 100000 in
theorem c_X11_bitNumber {L : bm_L} {d n : Nat} {M : bm_M} {x0 : Int32} {x1 : Int32} {v : Int32} (hN : 181 ≤ n) (h : f_X11_bitNumber M x0 x1 = some v) : bm_C L m_X11_bitNumber (d + 1) n n [.int x0, .int x1] M (fun r M' => r = some (.int v) ∧ M' = M) := by
  refine bm_C.ofV (by decide) (Nat.le_of_ble_eq_true rfl) ?_
  show bm_V L m_X11_bitNumber (d + 1) n n n 0 [(0, .int x0), (1, .int x1)] [] M _
  unfold f_X11_bitNumber at h
  refine bv_iconst (v := 0) dX11_bitNumber_0 (by decide) ?_
  refine bv_istore_n (ls1 := [(0, .int x0), (1, .int x1), (2, .int 0)]) dX11_bitNumber_1 (by decide) rfl rfl ?_
  refine bv_iconst (v := 0) dX11_bitNumber_2 (by decide) ?_
  refine bv_istore_n (ls1 := [(0, .int x0), (1, .int x1), (2, .int 0), (3, .int 0)]) dX11_bitNumber_3 (by decide) rfl rfl ?_
  obtain ⟨r1, p2, h⟩ := bu_bd h
  refine v_X11_bitNumber_l4 hN 1000 _ _ _ p2 (fun y3 hy => ?_) (fun y3 hy => ?_)
  · subst hy
    refine bv_iload_n dX11_bitNumber_24 0 rfl ?_
    obtain rfl := Option.some.inj h
    exact bv_iret (x := y3) dX11_bitNumber_25 rfl ⟨rfl, rfl⟩
  · subst hy
    refine bv_iconst (v := (-1)) dX11_bitNumber_35 (by decide) ?_
    obtain rfl := Option.some.inj h
    exact bv_iret (x := (-1)) dX11_bitNumber_36 rfl ⟨rfl, rfl⟩
def f_X11_said (M : bm_M) (x0 : Nat) (x1 : Int32) : Option (Int32 × bm_M) := (if bm_io x0 10 then ((M.2.2 x0 9).bind fun a2 => (if bm_io a2 7 then (if (M.1 a2 5) = 0 then some ((-1), M) else (if (-1) ≤ x1 then ((M.2.2 x0 4).bind fun a5 => ((f_X7_menOf M a2 a5).bind fun v7 => (if x1 = (-1) then some ((f_J6_bitCount_0f7a4 v7.1), v7.2) else ((f_X11_bitNumber v7.2 v7.1 x1).bind fun v9 => some (v9, v7.2))))) else some ((-1), M))) else none)) else none)
set_option maxHeartbeats 4000000 in
set_option maxRecDepth 100000 in
theorem c_X11_said {L : bm_L} {d n : Nat} {M : bm_M} {x0 : Nat} {x1 : Int32} {v : Int32 × bm_M} (hN : 181 ≤ n) (h : f_X11_said M x0 x1 = some v) : bm_C L m_X11_said (d + 7) n n [.ref x0, .int x1] M (fun r M' => r = some (.int v.1) ∧ M' = v.2) := by
  refine bm_C.ofV (by decide) (Nat.le_of_ble_eq_true rfl) ?_
  show bm_V L m_X11_said (d + 7) n n n 0 [(0, .ref x0), (1, .int x1)] [] M _
  unfold f_X11_said at h
  refine bv_aload_n dX11_said_0 0 rfl ?_
  obtain ⟨q1, h⟩ := bu_io h
  obtain ⟨a2, e3, h⟩ := bu_bd h
  refine bw_getA (a := a2) hN q1 e3 dX11_said_1 fl_11_71 rfl ?_
  obtain ⟨q4, h⟩ := bu_io h
  refine bw_getI hN q4 dX11_said_4 fl_11_334 rfl ?_
  refine bv_if_eq (tgt := 15) dX11_said_7 (by decide) (fun cc => ?_) (fun cc => ?_)
  · replace h := bu_t h cc
    refine bv_iconst (v := (-1)) dX11_said_15 (by decide) ?_
    obtain rfl := Option.some.inj h
    exact bv_iret (x := (-1)) dX11_said_16 rfl ⟨rfl, rfl⟩
  · replace h := bu_f h cc
    refine bv_iload_n dX11_said_10 1 rfl ?_
    refine bv_iconst (v := (-1)) dX11_said_11 (by decide) ?_
    refine bv_icmp_ge (tgt := 17) dX11_said_12 (by decide) (fun cc => ?_) (fun cc => ?_)
    · replace h := bu_t h cc
      refine bv_aload_n dX11_said_17 0 rfl ?_
      refine bw_getA (a := a2) hN q1 e3 dX11_said_18 fl_11_71 rfl ?_
      refine bv_aload_n dX11_said_21 0 rfl ?_
      obtain ⟨a5, e6, h⟩ := bu_bd h
      refine bw_getA (a := a5) hN q1 e6 dX11_said_22 fl_11_40 rfl ?_
      obtain ⟨v7, p8, h⟩ := bu_bd h
      refine bw_callV (As := [.ref a5]) hN q4 ⟨_, _, rfl⟩ dX11_said_25 mc_11_337 (c_X7_menOf (d := d + 0) hN p8) rfl rfl (by decide) ?_
      refine bv_istore_n (ls1 := [(0, .ref x0), (1, .int x1), (2, .int v7.1)]) dX11_said_28 (by decide) rfl rfl ?_
      refine bv_iload_n dX11_said_29 1 rfl ?_
      refine bv_iconst (v := (-1)) dX11_said_30 (by decide) ?_
      refine bv_icmp_ne (tgt := 41) dX11_said_31 (by decide) (fun cc => ?_) (fun cc => ?_)
      · replace h := bu_f h cc
        refine bv_iload_n dX11_said_41 2 rfl ?_
        refine bv_iload_n dX11_said_42 1 rfl ?_
        obtain ⟨v9, p10, h⟩ := bu_bd h
        refine bw_callS (As := [.int v7.1, .int x1]) dX11_said_43 mc_11_340 (c_X11_bitNumber (d := d + 5) hN p10) rfl rfl (by decide) ?_
        obtain rfl := Option.some.inj h
        exact bv_iret (x := v9) dX11_said_46 rfl ⟨rfl, rfl⟩
      · replace h := bu_t h cc
        refine bv_iload_n dX11_said_34 2 rfl ?_
        refine bw_callS (As := [.int v7.1]) dX11_said_35 mc_11_260 (c_J6_bitCount_0f7a4 (d := d + 6) hN rfl) rfl rfl (by decide) ?_
        refine bv_goto (tgt := 46) dX11_said_38 (by decide) ?_
        obtain rfl := Option.some.inj h
        exact bv_iret (x := (f_J6_bitCount_0f7a4 v7.1)) dX11_said_46 rfl ⟨rfl, rfl⟩
    · replace h := bu_f h cc
      refine bv_iconst (v := (-1)) dX11_said_15 (by decide) ?_
      obtain rfl := Option.some.inj h
      exact bv_iret (x := (-1)) dX11_said_16 rfl ⟨rfl, rfl⟩
def f_X11_image (M : bm_M) (x0 : Nat) (x1 : Int32) : Option (Bool × bm_M) := (if x1 < 0 then some (false, M) else (if x1 < 2 then (if bm_io x0 10 then ((M.2.2 x0 7).bind fun a2 => (if bm_ia a2 6 x1 = true then ((M.2.2 a2 x1.toNatClampNeg).bind fun a5 => ((M.2.2 x0 2).bind fun a7 => ((M.2.2 x0 4).bind fun a9 => ((M.2.2 x0 9).bind fun a11 => (if bm_io a5 3 then ((f_X3_keep M a5 a7 a9 a11).bind fun v14 => some (true, v14)) else none))))) else none)) else none) else some (false, M)))
set_option maxHeartbeats 4000000 in
set_option maxRecDepth 100000 in
theorem c_X11_image {L : bm_L} {d n : Nat} {M : bm_M} {x0 : Nat} {x1 : Int32} {v : Bool × bm_M} (hN : 181 ≤ n) (h : f_X11_image M x0 x1 = some v) : bm_C L m_X11_image (d + 3) n n [.ref x0, .int x1] M (fun r M' => r = some (.int (bm_bi v.1)) ∧ M' = v.2) := by
  refine bm_C.ofV (by decide) (Nat.le_of_ble_eq_true rfl) ?_
  show bm_V L m_X11_image (d + 3) n n n 0 [(0, .ref x0), (1, .int x1)] [] M _
  unfold f_X11_image at h
  refine bv_iload_n dX11_image_0 1 rfl ?_
  refine bv_if_lt (tgt := 9) dX11_image_1 (by decide) (fun cc => ?_) (fun cc => ?_)
  · replace h := bu_t h cc
    refine bv_iconst (v := 0) dX11_image_9 (by decide) ?_
    obtain rfl := Option.some.inj h
    exact bw_bret (b := false) dX11_image_10 rfl ⟨rfl, rfl⟩
  · replace h := bu_f h cc
    refine bv_iload_n dX11_image_4 1 rfl ?_
    refine bv_iconst (v := 2) dX11_image_5 (by decide) ?_
    refine bv_icmp_lt (tgt := 11) dX11_image_6 (by decide) (fun cc => ?_) (fun cc => ?_)
    · replace h := bu_t h cc
      refine bv_aload_n dX11_image_11 0 rfl ?_
      obtain ⟨q1, h⟩ := bu_io h
      obtain ⟨a2, e3, h⟩ := bu_bd h
      refine bw_getA (a := a2) hN q1 e3 dX11_image_12 fl_11_56 rfl ?_
      refine bv_iload_n dX11_image_15 1 rfl ?_
      obtain ⟨r4, h⟩ := bu_ia h
      refine bw_aald hN r4 (by decide) (by decide) dX11_image_16 ?_
      obtain ⟨a5, e6, h⟩ := bu_bd h
      refine bw_some e6 ?_
      refine bv_aload_n dX11_image_17 0 rfl ?_
      obtain ⟨a7, e8, h⟩ := bu_bd h
      refine bw_getA (a := a7) hN q1 e8 dX11_image_18 fl_11_28 rfl ?_
      refine bv_aload_n dX11_image_21 0 rfl ?_
      obtain ⟨a9, e10, h⟩ := bu_bd h
      refine bw_getA (a := a9) hN q1 e10 dX11_image_22 fl_11_40 rfl ?_
      refine bv_aload_n dX11_image_25 0 rfl ?_
      obtain ⟨a11, e12, h⟩ := bu_bd h
      refine bw_getA (a := a11) hN q1 e12 dX11_image_26 fl_11_71 rfl ?_
      obtain ⟨q13, h⟩ := bu_io h
      obtain ⟨v14, p15, h⟩ := bu_bd h
      refine bw_callVv (As := [.ref a7, .ref a9, .ref a11]) hN q13 ⟨_, _, rfl⟩ dX11_image_29 mc_11_343 (c_X3_keep (d := d + 0) hN p15) rfl rfl (by decide) ?_
      refine bv_iconst (v := 1) dX11_image_32 (by decide) ?_
      obtain rfl := Option.some.inj h
      exact bw_bret (b := true) dX11_image_33 rfl ⟨rfl, rfl⟩
    · replace h := bu_f h cc
      refine bv_iconst (v := 0) dX11_image_9 (by decide) ?_
      obtain rfl := Option.some.inj h
      exact bw_bret (b := false) dX11_image_10 rfl ⟨rfl, rfl⟩
def f_X11_restore (M : bm_M) (x0 : Nat) (x1 : Int32) : Option (Bool × bm_M) := (if x1 < 0 then some (false, M) else (if 2 ≤ x1 then some (false, M) else (if bm_io x0 10 then ((M.2.2 x0 7).bind fun a2 => (if bm_ia a2 6 x1 = true then ((M.2.2 a2 x1.toNatClampNeg).bind fun a5 => (if bm_io a5 3 then (if (M.1 a5 3) = 0 then some (false, M) else ((M.2.2 x0 2).bind fun a8 => ((M.2.2 a2 x1.toNatClampNeg).bind fun a10 => (if bm_io a10 3 then ((M.2.2 a10 0).bind fun a13 => (if bm_io a8 0 then ((f_X0_copyFrom M a8 a13).bind fun v16 => ((v16.2.2 x0 4).bind fun a18 => ((v16.2.2 x0 7).bind fun a20 => (if bm_ia a20 6 x1 = true then ((v16.2.2 a20 x1.toNatClampNeg).bind fun a23 => (if bm_io a23 3 then ((v16.2.2 a23 1).bind fun a26 => (if bm_io a18 8 then ((f_X8_copyFrom v16 a18 a26).bind fun v29 => ((v29.2.2 x0 9).bind fun a31 => ((v29.2.2 x0 7).bind fun a33 => (if bm_ia a33 6 x1 = true then ((v29.2.2 a33 x1.toNatClampNeg).bind fun a36 => (if bm_io a36 3 then ((v29.2.2 a36 2).bind fun a39 => (if bm_io a31 7 then ((f_X7_copyFrom v29 a31 a39).bind fun v42 => ((v42.2.2 x0 6).bind fun a44 => (if bm_io a44 4 then ((f_X4_forget v42 a44).bind fun v47 => some (true, v47)) else none))) else none)) else none)) else none)))) else none)) else none)) else none)))) else none)) else none)))) else none)) else none)) else none)))
set_option maxHeartbeats 4000000 in
set_option maxRecDepth 100000 in
theorem c_X11_restore {L : bm_L} {d n : Nat} {M : bm_M} {x0 : Nat} {x1 : Int32} {v : Bool × bm_M} (hN : 181 ≤ n) (h : f_X11_restore M x0 x1 = some v) : bm_C L m_X11_restore (d + 2) n n [.ref x0, .int x1] M (fun r M' => r = some (.int (bm_bi v.1)) ∧ M' = v.2) := by
  refine bm_C.ofV (by decide) (Nat.le_of_ble_eq_true rfl) ?_
  show bm_V L m_X11_restore (d + 2) n n n 0 [(0, .ref x0), (1, .int x1)] [] M _
  unfold f_X11_restore at h
  refine bv_iload_n dX11_restore_0 1 rfl ?_
  refine bv_if_lt (tgt := 21) dX11_restore_1 (by decide) (fun cc => ?_) (fun cc => ?_)
  · replace h := bu_t h cc
    refine bv_iconst (v := 0) dX11_restore_21 (by decide) ?_
    obtain rfl := Option.some.inj h
    exact bw_bret (b := false) dX11_restore_22 rfl ⟨rfl, rfl⟩
  · replace h := bu_f h cc
    refine bv_iload_n dX11_restore_4 1 rfl ?_
    refine bv_iconst (v := 2) dX11_restore_5 (by decide) ?_
    refine bv_icmp_ge (tgt := 21) dX11_restore_6 (by decide) (fun cc => ?_) (fun cc => ?_)
    · replace h := bu_t h cc
      refine bv_iconst (v := 0) dX11_restore_21 (by decide) ?_
      obtain rfl := Option.some.inj h
      exact bw_bret (b := false) dX11_restore_22 rfl ⟨rfl, rfl⟩
    · replace h := bu_f h cc
      refine bv_aload_n dX11_restore_9 0 rfl ?_
      obtain ⟨q1, h⟩ := bu_io h
      obtain ⟨a2, e3, h⟩ := bu_bd h
      refine bw_getA (a := a2) hN q1 e3 dX11_restore_10 fl_11_56 rfl ?_
      refine bv_iload_n dX11_restore_13 1 rfl ?_
      obtain ⟨r4, h⟩ := bu_ia h
      refine bw_aald hN r4 (by decide) (by decide) dX11_restore_14 ?_
      obtain ⟨a5, e6, h⟩ := bu_bd h
      refine bw_some e6 ?_
      obtain ⟨q7, h⟩ := bu_io h
      refine bw_getI hN q7 dX11_restore_15 fl_11_347 rfl ?_
      refine bv_if_ne (tgt := 23) dX11_restore_18 (by decide) (fun cc => ?_) (fun cc => ?_)
      · replace h := bu_f h cc
        refine bv_aload_n dX11_restore_23 0 rfl ?_
        obtain ⟨a8, e9, h⟩ := bu_bd h
        refine bw_getA (a := a8) hN q1 e9 dX11_restore_24 fl_11_28 rfl ?_
        refine bv_aload_n dX11_restore_27 0 rfl ?_
        refine bw_getA (a := a2) hN q1 e3 dX11_restore_28 fl_11_56 rfl ?_
        refine bv_iload_n dX11_restore_31 1 rfl ?_
        refine bw_aald hN r4 (by decide) (by decide) dX11_restore_32 ?_
        obtain ⟨a10, e11, h⟩ := bu_bd h
        refine bw_some e11 ?_
        obtain ⟨q12, h⟩ := bu_io h
        obtain ⟨a13, e14, h⟩ := bu_bd h
        refine bw_getA (a := a13) hN q12 e14 dX11_restore_33 fl_11_351 rfl ?_
        obtain ⟨q15, h⟩ := bu_io h
        obtain ⟨v16, p17, h⟩ := bu_bd h
        refine bw_callVv (As := [.ref a13]) hN q15 ⟨_, _, rfl⟩ dX11_restore_36 mc_11_123 (c_X0_copyFrom (d := d + 0) hN p17) rfl rfl (by decide) ?_
        refine bv_aload_n dX11_restore_39 0 rfl ?_
        obtain ⟨a18, e19, h⟩ := bu_bd h
        refine bw_getA (a := a18) hN q1 e19 dX11_restore_40 fl_11_40 rfl ?_
        refine bv_aload_n dX11_restore_43 0 rfl ?_
        obtain ⟨a20, e21, h⟩ := bu_bd h
        refine bw_getA (a := a20) hN q1 e21 dX11_restore_44 fl_11_56 rfl ?_
        refine bv_iload_n dX11_restore_47 1 rfl ?_
        obtain ⟨r22, h⟩ := bu_ia h
        refine bw_aald hN r22 (by decide) (by decide) dX11_restore_48 ?_
        obtain ⟨a23, e24, h⟩ := bu_bd h
        refine bw_some e24 ?_
        obtain ⟨q25, h⟩ := bu_io h
        obtain ⟨a26, e27, h⟩ := bu_bd h
        refine bw_getA (a := a26) hN q25 e27 dX11_restore_49 fl_11_352 rfl ?_
        obtain ⟨q28, h⟩ := bu_io h
        obtain ⟨v29, p30, h⟩ := bu_bd h
        refine bw_callVv (As := [.ref a26]) hN q28 ⟨_, _, rfl⟩ dX11_restore_52 mc_11_226 (c_X8_copyFrom (d := d + 0) hN p30) rfl rfl (by decide) ?_
        refine bv_aload_n dX11_restore_55 0 rfl ?_
        obtain ⟨a31, e32, h⟩ := bu_bd h
        refine bw_getA (a := a31) hN q1 e32 dX11_restore_56 fl_11_71 rfl ?_
        refine bv_aload_n dX11_restore_59 0 rfl ?_
        obtain ⟨a33, e34, h⟩ := bu_bd h
        refine bw_getA (a := a33) hN q1 e34 dX11_restore_60 fl_11_56 rfl ?_
        refine bv_iload_n dX11_restore_63 1 rfl ?_
        obtain ⟨r35, h⟩ := bu_ia h
        refine bw_aald hN r35 (by decide) (by decide) dX11_restore_64 ?_
        obtain ⟨a36, e37, h⟩ := bu_bd h
        refine bw_some e37 ?_
        obtain ⟨q38, h⟩ := bu_io h
        obtain ⟨a39, e40, h⟩ := bu_bd h
        refine bw_getA (a := a39) hN q38 e40 dX11_restore_65 fl_11_355 rfl ?_
        obtain ⟨q41, h⟩ := bu_io h
        obtain ⟨v42, p43, h⟩ := bu_bd h
        refine bw_callVv (As := [.ref a39]) hN q41 ⟨_, _, rfl⟩ dX11_restore_68 mc_11_331 (c_X7_copyFrom (d := d + 1) hN p43) rfl rfl (by decide) ?_
        refine bv_aload_n dX11_restore_71 0 rfl ?_
        obtain ⟨a44, e45, h⟩ := bu_bd h
        refine bw_getA (a := a44) hN q1 e45 dX11_restore_72 fl_11_50 rfl ?_
        obtain ⟨q46, h⟩ := bu_io h
        obtain ⟨v47, p48, h⟩ := bu_bd h
        refine bw_callVv (As := []) hN q46 ⟨_, _, rfl⟩ dX11_restore_75 mc_11_131 (c_X4_forget (d := d + 1) hN p48) rfl rfl (by decide) ?_
        refine bv_iconst (v := 1) dX11_restore_78 (by decide) ?_
        obtain rfl := Option.some.inj h
        exact bw_bret (b := true) dX11_restore_79 rfl ⟨rfl, rfl⟩
      · replace h := bu_t h cc
        refine bv_iconst (v := 0) dX11_restore_21 (by decide) ?_
        obtain rfl := Option.some.inj h
        exact bw_bret (b := false) dX11_restore_22 rfl ⟨rfl, rfl⟩
def f_X12_thrown (M : bm_M) (x0 : Nat) : Option (Int32) := (if bm_io x0 11 then some (M.1 x0 0) else none)
set_option maxHeartbeats 4000000 in
set_option maxRecDepth 100000 in
theorem c_X12_thrown {L : bm_L} {d n : Nat} {M : bm_M} {x0 : Nat} {v : Int32} (hN : 181 ≤ n) (h : f_X12_thrown M x0 = some v) : bm_C L m_X12_thrown d n n [.ref x0] M (fun r M' => r = some (.int v) ∧ M' = M) := by
  refine bm_C.ofV (by decide) (Nat.le_of_ble_eq_true rfl) ?_
  show bm_V L m_X12_thrown d n n n 0 [(0, .ref x0)] [] M _
  unfold f_X12_thrown at h
  refine bv_aload_n dX12_thrown_0 0 rfl ?_
  obtain ⟨q1, h⟩ := bu_io h
  refine bw_getI hN q1 dX12_thrown_1 fl_12_1 rfl ?_
  obtain rfl := Option.some.inj h
  exact bv_iret (x := (M.1 x0 0)) dX12_thrown_4 rfl ⟨rfl, rfl⟩
def f_X12_throwsIf (M : bm_M) (x0 : Nat) (x1 : Bool) : Option (Bool × bm_M) := (if x1 = true then (if bm_io x0 11 then some (x1, (bm_sI M x0 0 1)) else none) else (if bm_io x0 11 then some (x1, (bm_sI M x0 0 0)) else none))
set_option maxHeartbeats 4000000 in
set_option maxRecDepth 100000 in
theorem c_X12_throwsIf {L : bm_L} {d n : Nat} {M : bm_M} {x0 : Nat} {x1 : Bool} {v : Bool × bm_M} (hN : 181 ≤ n) (h : f_X12_throwsIf M x0 x1 = some v) : bm_C L m_X12_throwsIf d n n [.ref x0, .int (bm_bi x1)] M (fun r M' => r = some (.int (bm_bi v.1)) ∧ M' = v.2) := by
  refine bm_C.ofV (by decide) (Nat.le_of_ble_eq_true rfl) ?_
  show bm_V L m_X12_throwsIf d n n n 0 [(0, .ref x0), (1, .int (bm_bi x1))] [] M _
  unfold f_X12_throwsIf at h
  refine bv_aload_n dX12_throwsIf_0 0 rfl ?_
  refine bv_iload_n dX12_throwsIf_1 1 rfl ?_
  refine bw_ifB_eq (b := x1) (tgt := 9) dX12_throwsIf_2 (by decide) (fun cc => ?_) (fun cc => ?_)
  · replace h := bu_bf h cc
    refine bv_iconst (v := 0) dX12_throwsIf_9 (by decide) ?_
    obtain ⟨q1, h⟩ := bu_io h
    refine bw_putI hN q1 dX12_throwsIf_10 fl_12_1 rfl ?_
    refine bv_iload_n dX12_throwsIf_13 1 rfl ?_
    obtain rfl := Option.some.inj h
    exact bw_bret (b := x1) dX12_throwsIf_14 rfl ⟨rfl, rfl⟩
  · replace h := bu_bt h cc
    refine bv_iconst (v := 1) dX12_throwsIf_5 (by decide) ?_
    refine bv_goto (tgt := 10) dX12_throwsIf_6 (by decide) ?_
    obtain ⟨q2, h⟩ := bu_io h
    refine bw_putI hN q2 dX12_throwsIf_10 fl_12_1 rfl ?_
    refine bv_iload_n dX12_throwsIf_13 1 rfl ?_
    obtain rfl := Option.some.inj h
    exact bw_bret (b := x1) dX12_throwsIf_14 rfl ⟨rfl, rfl⟩
def f_X12_four_l3 (x0 : Nat) (x1 : Int32) : Nat → Int32 → bm_M → Option (bm_M)
  | 0, _, _ => none
  | k + 1, x2, M => (if x2 < 0 then some M else (if bm_io x0 11 then ((M.2.2 x0 1).bind fun a2 => (if bm_ia a2 1 (M.1 x0 2) = true then f_X12_four_l3 x0 x1 k (x2 + (-8)) (bm_sI (bm_sI M a2 (M.1 x0 2).toNatClampNeg (vp_nar .byte ((bm_ishr x1 x2).toInt8.toInt32))) x0 2 (((bm_sI M a2 (M.1 x0 2).toNatClampNeg (vp_nar .byte ((bm_ishr x1 x2).toInt8.toInt32))).1 x0 2) + 1)) else none)) else none))
set_option maxHeartbeats 4000000 in
set_option maxRecDepth 100000 in
theorem v_X12_four_l3 {L : bm_L} {d n : Nat} {Q : Option Value → bm_M → Prop} {x0 : Nat} {x1 : Int32} (hN : 181 ≤ n) : ∀ (k : Nat) (x2 : Int32) (M : bm_M) (r : bm_M), f_X12_four_l3 x0 x1 k x2 M = some r → (∀ yy, yy = r → bm_V L m_X12_four d n n n 36 [] [] yy Q) → bm_V L m_X12_four d n n n 3 [(0, .ref x0), (1, .int x1), (2, .int x2)] [] M Q := by
  intro k
  induction k with
  | zero => intro x2 M r h; cases (show (none : Option (bm_M)) = some r from h)
  | succ k ih =>
    intro x2 M r h K0
    unfold f_X12_four_l3 at h
    refine bv_iload_n dX12_four_3 2 rfl ?_
    refine bv_if_lt (tgt := 36) dX12_four_4 (by decide) (fun cc => ?_) (fun cc => ?_)
    · replace h := bu_t h cc
      refine bw_ls (ls1 := []) [] rfl ?_
      obtain rfl := Option.some.inj h
      exact K0 _ rfl
    · replace h := bu_f h cc
      refine bv_aload_n dX12_four_7 0 rfl ?_
      obtain ⟨q1, h⟩ := bu_io h
      obtain ⟨a2, e3, h⟩ := bu_bd h
      refine bw_getA (a := a2) hN q1 e3 dX12_four_8 fl_12_14 rfl ?_
      refine bv_aload_n dX12_four_11 0 rfl ?_
      refine bw_getI hN q1 dX12_four_12 fl_12_7 rfl ?_
      refine bv_iload_n dX12_four_15 1 rfl ?_
      refine bv_iload_n dX12_four_16 2 rfl ?_
      refine bv_ishr dX12_four_17 ?_
      refine bv_i2b dX12_four_18 ?_
      obtain ⟨r4, h⟩ := bu_ia h
      refine bw_bast hN r4 dX12_four_19 ?_
      refine bv_aload_n dX12_four_20 0 rfl ?_
      refine bv_dup dX12_four_21 rfl ?_
      refine bw_getI hN q1 dX12_four_22 fl_12_7 rfl ?_
      refine bv_iconst (v := 1) dX12_four_25 (by decide) ?_
      refine bv_iadd dX12_four_26 ?_
      refine bw_putI hN q1 dX12_four_27 fl_12_7 rfl ?_
      refine bv_iinc (j := 2) (v := (x2 + (-8))) (ls1 := [(0, .ref x0), (1, .int x1), (2, .int (x2 + (-8)))]) dX12_four_30 rfl rfl (by decide) rfl rfl ?_
      refine bv_goto (tgt := 3) dX12_four_33 (by decide) ?_
      exact ih _ _ _ h K0
def f_X12_four (M : bm_M) (x0 : Nat) (x1 : Int32) : Option (bm_M) := ((f_X12_four_l3 x0 x1 1000 24 M).bind fun y3 => some y3)
set_option maxHeartbeats 4000000 in
set_option maxRecDepth 100000 in
theorem c_X12_four {L : bm_L} {d n : Nat} {M : bm_M} {x0 : Nat} {x1 : Int32} {v : bm_M} (hN : 181 ≤ n) (h : f_X12_four M x0 x1 = some v) : bm_C L m_X12_four d n n [.ref x0, .int x1] M (fun r M' => r = none ∧ M' = v) := by
  refine bm_C.ofV (by decide) (Nat.le_of_ble_eq_true rfl) ?_
  show bm_V L m_X12_four d n n n 0 [(0, .ref x0), (1, .int x1)] [] M _
  unfold f_X12_four at h
  refine bv_bipush (v := 24) dX12_four_0 (by decide) ?_
  refine bv_istore_n (ls1 := [(0, .ref x0), (1, .int x1), (2, .int 24)]) dX12_four_2 (by decide) rfl rfl ?_
  obtain ⟨r1, p2, h⟩ := bu_bd h
  refine v_X12_four_l3 hN 1000 _ _ _ p2 (fun y3 hy => ?_)
  · subst hy
    obtain rfl := Option.some.inj h
    exact bv_vret dX12_four_36 rfl ⟨rfl, rfl⟩
def f_X12_feed (M : bm_M) (x0 : Nat) (x1 : Int32) (x2 : Int32) (x3 : Int32) (x4 : Int32) (x5 : Int32) : Option (Int32 × bm_M) := (if bm_io x0 11 then (if (((bm_sI M x0 0 0).1 x0 2) + 20) ≤ 940 then ((f_X12_four (bm_sI M x0 0 0) x0 x1).bind fun v2 => ((f_X12_four v2 x0 x2).bind fun v4 => ((f_X12_four v4 x0 x3).bind fun v6 => ((f_X12_four v6 x0 x4).bind fun v8 => ((f_X12_four v8 x0 x5).bind fun v10 => some ((v10.1 x0 2), v10)))))) else some ((-1), (bm_sI M x0 0 0))) else none)
set_option maxHeartbeats 4000000 in
set_option maxRecDepth 100000 in
theorem c_X12_feed {L : bm_L} {d n : Nat} {M : bm_M} {x0 : Nat} {x1 : Int32} {x2 : Int32} {x3 : Int32} {x4 : Int32} {x5 : Int32} {v : Int32 × bm_M} (hN : 181 ≤ n) (h : f_X12_feed M x0 x1 x2 x3 x4 x5 = some v) : bm_C L m_X12_feed (d + 1) n n [.ref x0, .int x1, .int x2, .int x3, .int x4, .int x5] M (fun r M' => r = some (.int v.1) ∧ M' = v.2) := by
  refine bm_C.ofV (by decide) (Nat.le_of_ble_eq_true rfl) ?_
  show bm_V L m_X12_feed (d + 1) n n n 0 [(0, .ref x0), (1, .int x1), (2, .int x2), (3, .int x3), (4, .int x4), (5, .int x5)] [] M _
  unfold f_X12_feed at h
  refine bv_aload_n dX12_feed_0 0 rfl ?_
  refine bv_iconst (v := 0) dX12_feed_1 (by decide) ?_
  obtain ⟨q1, h⟩ := bu_io h
  refine bw_putI hN q1 dX12_feed_2 fl_12_1 rfl ?_
  refine bv_aload_n dX12_feed_5 0 rfl ?_
  refine bw_getI hN q1 dX12_feed_6 fl_12_7 rfl ?_
  refine bv_bipush (v := 20) dX12_feed_9 (by decide) ?_
  refine bv_iadd dX12_feed_11 ?_
  refine bv_sipush (v := 940) dX12_feed_12 (by decide) ?_
  refine bv_icmp_le (tgt := 20) dX12_feed_15 (by decide) (fun cc => ?_) (fun cc => ?_)
  · replace h := bu_t h cc
    refine bv_aload_n dX12_feed_20 0 rfl ?_
    refine bv_iload_n dX12_feed_21 1 rfl ?_
    obtain ⟨v2, p3, h⟩ := bu_bd h
    refine bw_callVv (As := [.int x1]) hN q1 ⟨_, _, rfl⟩ dX12_feed_22 mc_12_10 (c_X12_four (d := d + 0) hN p3) rfl rfl (by decide) ?_
    refine bv_aload_n dX12_feed_25 0 rfl ?_
    refine bv_iload_n dX12_feed_26 2 rfl ?_
    obtain ⟨v4, p5, h⟩ := bu_bd h
    refine bw_callVv (As := [.int x2]) hN q1 ⟨_, _, rfl⟩ dX12_feed_27 mc_12_10 (c_X12_four (d := d + 0) hN p5) rfl rfl (by decide) ?_
    refine bv_aload_n dX12_feed_30 0 rfl ?_
    refine bv_iload_n dX12_feed_31 3 rfl ?_
    obtain ⟨v6, p7, h⟩ := bu_bd h
    refine bw_callVv (As := [.int x3]) hN q1 ⟨_, _, rfl⟩ dX12_feed_32 mc_12_10 (c_X12_four (d := d + 0) hN p7) rfl rfl (by decide) ?_
    refine bv_aload_n dX12_feed_35 0 rfl ?_
    refine bv_iload dX12_feed_36 4 rfl ?_
    obtain ⟨v8, p9, h⟩ := bu_bd h
    refine bw_callVv (As := [.int x4]) hN q1 ⟨_, _, rfl⟩ dX12_feed_38 mc_12_10 (c_X12_four (d := d + 0) hN p9) rfl rfl (by decide) ?_
    refine bv_aload_n dX12_feed_41 0 rfl ?_
    refine bv_iload dX12_feed_42 5 rfl ?_
    obtain ⟨v10, p11, h⟩ := bu_bd h
    refine bw_callVv (As := [.int x5]) hN q1 ⟨_, _, rfl⟩ dX12_feed_44 mc_12_10 (c_X12_four (d := d + 0) hN p11) rfl rfl (by decide) ?_
    refine bv_aload_n dX12_feed_47 0 rfl ?_
    refine bw_getI hN q1 dX12_feed_48 fl_12_7 rfl ?_
    obtain rfl := Option.some.inj h
    exact bv_iret (x := (v10.1 x0 2)) dX12_feed_51 rfl ⟨rfl, rfl⟩
  · replace h := bu_f h cc
    refine bv_iconst (v := (-1)) dX12_feed_18 (by decide) ?_
    obtain rfl := Option.some.inj h
    exact bv_iret (x := (-1)) dX12_feed_19 rfl ⟨rfl, rfl⟩
def f_X12_end (M : bm_M) (x0 : Nat) (x1 : Int32) : Option (Bool × bm_M) := (if bm_io x0 11 then (if x1 < 0 then some (false, (bm_sI M x0 0 0)) else (if x1 ≤ ((bm_sI M x0 0 0).1 x0 2) then some (true, (bm_sI (bm_sI M x0 0 0) x0 2 x1)) else some (false, (bm_sI M x0 0 0)))) else none)
set_option maxHeartbeats 4000000 in
set_option maxRecDepth 100000 in
theorem c_X12_end {L : bm_L} {d n : Nat} {M : bm_M} {x0 : Nat} {x1 : Int32} {v : Bool × bm_M} (hN : 181 ≤ n) (h : f_X12_end M x0 x1 = some v) : bm_C L m_X12_end d n n [.ref x0, .int x1] M (fun r M' => r = some (.int (bm_bi v.1)) ∧ M' = v.2) := by
  refine bm_C.ofV (by decide) (Nat.le_of_ble_eq_true rfl) ?_
  show bm_V L m_X12_end d n n n 0 [(0, .ref x0), (1, .int x1)] [] M _
  unfold f_X12_end at h
  refine bv_aload_n dX12_end_0 0 rfl ?_
  refine bv_iconst (v := 0) dX12_end_1 (by decide) ?_
  obtain ⟨q1, h⟩ := bu_io h
  refine bw_putI hN q1 dX12_end_2 fl_12_1 rfl ?_
  refine bv_iload_n dX12_end_5 1 rfl ?_
  refine bv_if_lt (tgt := 17) dX12_end_6 (by decide) (fun cc => ?_) (fun cc => ?_)
  · replace h := bu_t h cc
    refine bv_iconst (v := 0) dX12_end_17 (by decide) ?_
    obtain rfl := Option.some.inj h
    exact bw_bret (b := false) dX12_end_18 rfl ⟨rfl, rfl⟩
  · replace h := bu_f h cc
    refine bv_iload_n dX12_end_9 1 rfl ?_
    refine bv_aload_n dX12_end_10 0 rfl ?_
    refine bw_getI hN q1 dX12_end_11 fl_12_7 rfl ?_
    refine bv_icmp_le (tgt := 19) dX12_end_14 (by decide) (fun cc => ?_) (fun cc => ?_)
    · replace h := bu_t h cc
      refine bv_aload_n dX12_end_19 0 rfl ?_
      refine bv_iload_n dX12_end_20 1 rfl ?_
      refine bw_putI hN q1 dX12_end_21 fl_12_7 rfl ?_
      refine bv_iconst (v := 1) dX12_end_24 (by decide) ?_
      obtain rfl := Option.some.inj h
      exact bw_bret (b := true) dX12_end_25 rfl ⟨rfl, rfl⟩
    · replace h := bu_f h cc
      refine bv_iconst (v := 0) dX12_end_17 (by decide) ?_
      obtain rfl := Option.some.inj h
      exact bw_bret (b := false) dX12_end_18 rfl ⟨rfl, rfl⟩
def f_X12_taken (M : bm_M) (x0 : Nat) (x1 : Int32) : Option (bm_M) := (if bm_io x0 11 then some (bm_sI (bm_sI (bm_sI (bm_sI M x0 3 (M.1 x0 2)) x0 2 0) x0 4 0) x0 5 x1) else none)
set_option maxHeartbeats 4000000 in
set_option maxRecDepth 100000 in
theorem c_X12_taken {L : bm_L} {d n : Nat} {M : bm_M} {x0 : Nat} {x1 : Int32} {v : bm_M} (hN : 181 ≤ n) (h : f_X12_taken M x0 x1 = some v) : bm_C L m_X12_taken d n n [.ref x0, .int x1] M (fun r M' => r = none ∧ M' = v) := by
  refine bm_C.ofV (by decide) (Nat.le_of_ble_eq_true rfl) ?_
  show bm_V L m_X12_taken d n n n 0 [(0, .ref x0), (1, .int x1)] [] M _
  unfold f_X12_taken at h
  refine bv_aload_n dX12_taken_0 0 rfl ?_
  refine bv_aload_n dX12_taken_1 0 rfl ?_
  obtain ⟨q1, h⟩ := bu_io h
  refine bw_getI hN q1 dX12_taken_2 fl_12_7 rfl ?_
  refine bw_putI hN q1 dX12_taken_5 fl_12_18 rfl ?_
  refine bv_aload_n dX12_taken_8 0 rfl ?_
  refine bv_iconst (v := 0) dX12_taken_9 (by decide) ?_
  refine bw_putI hN q1 dX12_taken_10 fl_12_7 rfl ?_
  refine bv_aload_n dX12_taken_13 0 rfl ?_
  refine bv_iconst (v := 0) dX12_taken_14 (by decide) ?_
  refine bw_putI hN q1 dX12_taken_15 fl_12_21 rfl ?_
  refine bv_aload_n dX12_taken_18 0 rfl ?_
  refine bv_iload_n dX12_taken_19 1 rfl ?_
  refine bw_putI hN q1 dX12_taken_20 fl_12_24 rfl ?_
  obtain rfl := Option.some.inj h
  exact bv_vret dX12_taken_23 rfl ⟨rfl, rfl⟩
def f_X12_isIn (x0 : Int32) (x1 : Int32) (x2 : Int32) : Bool := (if x0 < x1 then false else (if x2 < x0 then false else true))
set_option maxHeartbeats 4000000 in
set_option maxRecDepth 100000 in
theorem c_X12_isIn {L : bm_L} {d n : Nat} {M : bm_M} {x0 : Int32} {x1 : Int32} {x2 : Int32} {v : Bool} (hN : 181 ≤ n) (h : f_X12_isIn x0 x1 x2 = v) : bm_C L m_X12_isIn d n n [.int x0, .int x1, .int x2] M (fun r M' => r = some (.int (bm_bi v)) ∧ M' = M) := by
  refine bm_C.ofV (by decide) (Nat.le_of_ble_eq_true rfl) ?_
  show bm_V L m_X12_isIn d n n n 0 [(0, .int x0), (1, .int x1), (2, .int x2)] [] M _
  unfold f_X12_isIn at h
  refine bv_iload_n dX12_isIn_0 0 rfl ?_
  refine bv_iload_n dX12_isIn_1 1 rfl ?_
  refine bv_icmp_lt (tgt := 14) dX12_isIn_2 (by decide) (fun cc => ?_) (fun cc => ?_)
  · replace h := bu_t h cc
    refine bv_iconst (v := 0) dX12_isIn_14 (by decide) ?_
    subst h
    exact bw_bret (b := false) dX12_isIn_15 rfl ⟨rfl, rfl⟩
  · replace h := bu_f h cc
    refine bv_iload_n dX12_isIn_5 0 rfl ?_
    refine bv_iload_n dX12_isIn_6 2 rfl ?_
    refine bv_icmp_gt (tgt := 14) dX12_isIn_7 (by decide) (fun cc => ?_) (fun cc => ?_)
    · replace h := bu_t h cc
      refine bv_iconst (v := 0) dX12_isIn_14 (by decide) ?_
      subst h
      exact bw_bret (b := false) dX12_isIn_15 rfl ⟨rfl, rfl⟩
    · replace h := bu_f h cc
      refine bv_iconst (v := 1) dX12_isIn_10 (by decide) ?_
      refine bv_goto (tgt := 15) dX12_isIn_11 (by decide) ?_
      subst h
      exact bw_bret (b := true) dX12_isIn_15 rfl ⟨rfl, rfl⟩
def f_X12_bitOf (x0 : Int32) (x1 : Int32) : Bool := (if ((bm_ishr x0 x1) &&& 1) = 1 then true else false)
set_option maxHeartbeats 4000000 in
set_option maxRecDepth 100000 in
theorem c_X12_bitOf {L : bm_L} {d n : Nat} {M : bm_M} {x0 : Int32} {x1 : Int32} {v : Bool} (hN : 181 ≤ n) (h : f_X12_bitOf x0 x1 = v) : bm_C L m_X12_bitOf d n n [.int x0, .int x1] M (fun r M' => r = some (.int (bm_bi v)) ∧ M' = M) := by
  refine bm_C.ofV (by decide) (Nat.le_of_ble_eq_true rfl) ?_
  show bm_V L m_X12_bitOf d n n n 0 [(0, .int x0), (1, .int x1)] [] M _
  unfold f_X12_bitOf at h
  refine bv_iload_n dX12_bitOf_0 0 rfl ?_
  refine bv_iload_n dX12_bitOf_1 1 rfl ?_
  refine bv_ishr dX12_bitOf_2 ?_
  refine bv_iconst (v := 1) dX12_bitOf_3 (by decide) ?_
  refine bv_iand dX12_bitOf_4 ?_
  refine bv_iconst (v := 1) dX12_bitOf_5 (by decide) ?_
  refine bv_icmp_ne (tgt := 13) dX12_bitOf_6 (by decide) (fun cc => ?_) (fun cc => ?_)
  · replace h := bu_f h cc
    refine bv_iconst (v := 0) dX12_bitOf_13 (by decide) ?_
    subst h
    exact bw_bret (b := false) dX12_bitOf_14 rfl ⟨rfl, rfl⟩
  · replace h := bu_t h cc
    refine bv_iconst (v := 1) dX12_bitOf_9 (by decide) ?_
    refine bv_goto (tgt := 14) dX12_bitOf_10 (by decide) ?_
    subst h
    exact bw_bret (b := true) dX12_bitOf_14 rfl ⟨rfl, rfl⟩
def f_X12_lesser (x0 : Int32) (x1 : Int32) : Int32 := (if x1 ≤ x0 then x1 else x0)
set_option maxHeartbeats 4000000 in
set_option maxRecDepth 100000 in
theorem c_X12_lesser {L : bm_L} {d n : Nat} {M : bm_M} {x0 : Int32} {x1 : Int32} {v : Int32} (hN : 181 ≤ n) (h : f_X12_lesser x0 x1 = v) : bm_C L m_X12_lesser d n n [.int x0, .int x1] M (fun r M' => r = some (.int v) ∧ M' = M) := by
  refine bm_C.ofV (by decide) (Nat.le_of_ble_eq_true rfl) ?_
  show bm_V L m_X12_lesser d n n n 0 [(0, .int x0), (1, .int x1)] [] M _
  unfold f_X12_lesser at h
  refine bv_iload_n dX12_lesser_0 0 rfl ?_
  refine bv_iload_n dX12_lesser_1 1 rfl ?_
  refine bv_icmp_ge (tgt := 9) dX12_lesser_2 (by decide) (fun cc => ?_) (fun cc => ?_)
  · replace h := bu_t h cc
    refine bv_iload_n dX12_lesser_9 1 rfl ?_
    subst h
    exact bv_iret (x := x1) dX12_lesser_10 rfl ⟨rfl, rfl⟩
  · replace h := bu_f h cc
    refine bv_iload_n dX12_lesser_5 0 rfl ?_
    refine bv_goto (tgt := 10) dX12_lesser_6 (by decide) ?_
    subst h
    exact bv_iret (x := x0) dX12_lesser_10 rfl ⟨rfl, rfl⟩
def f_X12_greater (x0 : Int32) (x1 : Int32) : Int32 := (if x0 ≤ x1 then x1 else x0)
set_option maxHeartbeats 4000000 in
set_option maxRecDepth 100000 in
theorem c_X12_greater {L : bm_L} {d n : Nat} {M : bm_M} {x0 : Int32} {x1 : Int32} {v : Int32} (hN : 181 ≤ n) (h : f_X12_greater x0 x1 = v) : bm_C L m_X12_greater d n n [.int x0, .int x1] M (fun r M' => r = some (.int v) ∧ M' = M) := by
  refine bm_C.ofV (by decide) (Nat.le_of_ble_eq_true rfl) ?_
  show bm_V L m_X12_greater d n n n 0 [(0, .int x0), (1, .int x1)] [] M _
  unfold f_X12_greater at h
  refine bv_iload_n dX12_greater_0 0 rfl ?_
  refine bv_iload_n dX12_greater_1 1 rfl ?_
  refine bv_icmp_le (tgt := 9) dX12_greater_2 (by decide) (fun cc => ?_) (fun cc => ?_)
  · replace h := bu_t h cc
    refine bv_iload_n dX12_greater_9 1 rfl ?_
    subst h
    exact bv_iret (x := x1) dX12_greater_10 rfl ⟨rfl, rfl⟩
  · replace h := bu_f h cc
    refine bv_iload_n dX12_greater_5 0 rfl ?_
    refine bv_goto (tgt := 10) dX12_greater_6 (by decide) ?_
    subst h
    exact bv_iret (x := x0) dX12_greater_10 rfl ⟨rfl, rfl⟩
def f_X12_absolute (x0 : Int32) : Int32 := (if 0 ≤ x0 then x0 else (-x0))
set_option maxHeartbeats 4000000 in
set_option maxRecDepth 100000 in
theorem c_X12_absolute {L : bm_L} {d n : Nat} {M : bm_M} {x0 : Int32} {v : Int32} (hN : 181 ≤ n) (h : f_X12_absolute x0 = v) : bm_C L m_X12_absolute d n n [.int x0] M (fun r M' => r = some (.int v) ∧ M' = M) := by
  refine bm_C.ofV (by decide) (Nat.le_of_ble_eq_true rfl) ?_
  show bm_V L m_X12_absolute d n n n 0 [(0, .int x0)] [] M _
  unfold f_X12_absolute at h
  refine bv_iload_n dX12_absolute_0 0 rfl ?_
  refine bv_if_ge (tgt := 9) dX12_absolute_1 (by decide) (fun cc => ?_) (fun cc => ?_)
  · replace h := bu_t h cc
    refine bv_iload_n dX12_absolute_9 0 rfl ?_
    subst h
    exact bv_iret (x := x0) dX12_absolute_10 rfl ⟨rfl, rfl⟩
  · replace h := bu_f h cc
    refine bv_iload_n dX12_absolute_4 0 rfl ?_
    refine bv_ineg dX12_absolute_5 ?_
    refine bv_goto (tgt := 10) dX12_absolute_6 (by decide) ?_
    subst h
    exact bv_iret (x := (-x0)) dX12_absolute_10 rfl ⟨rfl, rfl⟩
def f_X12_bits_l4 (M : bm_M) : Nat → Int32 → Int32 → Option (Int32)
  | 0, _, _ => none
  | k + 1, x1, x2 => (if x2 = 0 then some x1 else f_X12_bits_l4 M k (x1 + 1) (x2 &&& (x2 - 1)))
set_option maxHeartbeats 4000000 in
set_option maxRecDepth 100000 in
theorem v_X12_bits_l4 {L : bm_L} {d n : Nat} {Q : Option Value → bm_M → Prop} {M : bm_M} (hN : 181 ≤ n) : ∀ (k : Nat) (x1 : Int32) (x2 : Int32) (r : Int32), f_X12_bits_l4 M k x1 x2 = some r → (∀ yy, yy = r → bm_V L m_X12_bits d n n n 20 [(1, .int yy)] [] M Q) → bm_V L m_X12_bits d n n n 4 [(1, .int x1), (2, .int x2)] [] M Q := by
  intro k
  induction k with
  | zero => intro x1 x2 r h; cases (show (none : Option (Int32)) = some r from h)
  | succ k ih =>
    intro x1 x2 r h K0
    unfold f_X12_bits_l4 at h
    refine bv_iload_n dX12_bits_4 1 rfl ?_
    refine bv_if_eq (tgt := 20) dX12_bits_5 (by decide) (fun cc => ?_) (fun cc => ?_)
    · replace h := bu_t h cc
      refine bw_ls (ls1 := [(1, .int x1)]) [0] rfl ?_
      obtain rfl := Option.some.inj h
      exact K0 _ rfl
    · replace h := bu_f h cc
      refine bv_iinc (j := 0) (v := (x1 + 1)) (ls1 := [(1, .int (x1 + 1)), (2, .int x2)]) dX12_bits_8 rfl rfl (by decide) rfl rfl ?_
      refine bv_iload_n dX12_bits_11 1 rfl ?_
      refine bv_iload_n dX12_bits_12 1 rfl ?_
      refine bv_iconst (v := 1) dX12_bits_13 (by decide) ?_
      refine bv_isub dX12_bits_14 ?_
      refine bv_iand dX12_bits_15 ?_
      refine bv_istore_n (ls1 := [(1, .int (x1 + 1)), (2, .int (x2 &&& (x2 - 1)))]) dX12_bits_16 (by decide) rfl rfl ?_
      refine bv_goto (tgt := 4) dX12_bits_17 (by decide) ?_
      exact ih _ _ _ h K0
def f_X12_bits (M : bm_M) (x0 : Int32) : Option (Int32) := ((f_X12_bits_l4 M 1000 0 x0).bind fun y3 => some y3)
set_option maxHeartbeats 4000000 in
set_option maxRecDepth 100000 in
theorem c_X12_bits {L : bm_L} {d n : Nat} {M : bm_M} {x0 : Int32} {v : Int32} (hN : 181 ≤ n) (h : f_X12_bits M x0 = some v) : bm_C L m_X12_bits d n n [.int x0] M (fun r M' => r = some (.int v) ∧ M' = M) := by
  refine bm_C.ofV (by decide) (Nat.le_of_ble_eq_true rfl) ?_
  show bm_V L m_X12_bits d n n n 0 [(0, .int x0)] [] M _
  unfold f_X12_bits at h
  refine bv_iconst (v := 0) dX12_bits_0 (by decide) ?_
  refine bv_istore_n (ls1 := [(0, .int x0), (1, .int 0)]) dX12_bits_1 (by decide) rfl rfl ?_
  refine bv_iload_n dX12_bits_2 0 rfl ?_
  refine bv_istore_n (ls1 := [(0, .int x0), (1, .int 0), (2, .int x0)]) dX12_bits_3 (by decide) rfl rfl ?_
  refine bw_ls (ls1 := [(1, .int 0), (2, .int x0)]) [1, 2] rfl ?_
  obtain ⟨r1, p2, h⟩ := bu_bd h
  refine v_X12_bits_l4 hN 1000 _ _ _ p2 (fun y3 hy => ?_)
  · subst hy
    refine bv_iload_n dX12_bits_20 0 rfl ?_
    obtain rfl := Option.some.inj h
    exact bv_iret (x := y3) dX12_bits_21 rfl ⟨rfl, rfl⟩
def f_X12_octet (M : bm_M) (x0 : Nat) (x1 : Int32) : Option (Int32) := (if bm_io x0 11 then ((M.2.2 x0 1).bind fun a2 => (if bm_ia a2 1 x1 = true then some ((M.1 a2 x1.toNatClampNeg) &&& 255) else none)) else none)
set_option maxHeartbeats 4000000 in
set_option maxRecDepth 100000 in
theorem c_X12_octet {L : bm_L} {d n : Nat} {M : bm_M} {x0 : Nat} {x1 : Int32} {v : Int32} (hN : 181 ≤ n) (h : f_X12_octet M x0 x1 = some v) : bm_C L m_X12_octet d n n [.ref x0, .int x1] M (fun r M' => r = some (.int v) ∧ M' = M) := by
  refine bm_C.ofV (by decide) (Nat.le_of_ble_eq_true rfl) ?_
  show bm_V L m_X12_octet d n n n 0 [(0, .ref x0), (1, .int x1)] [] M _
  unfold f_X12_octet at h
  refine bv_aload_n dX12_octet_0 0 rfl ?_
  obtain ⟨q1, h⟩ := bu_io h
  obtain ⟨a2, e3, h⟩ := bu_bd h
  refine bw_getA (a := a2) hN q1 e3 dX12_octet_1 fl_12_14 rfl ?_
  refine bv_iload_n dX12_octet_4 1 rfl ?_
  obtain ⟨r4, h⟩ := bu_ia h
  refine bw_bald hN r4 dX12_octet_5 ?_
  refine bv_sipush (v := 255) dX12_octet_6 (by decide) ?_
  refine bv_iand dX12_octet_9 ?_
  obtain rfl := Option.some.inj h
  exact bv_iret (x := ((M.1 a2 x1.toNatClampNeg) &&& 255)) dX12_octet_10 rfl ⟨rfl, rfl⟩
def f_X12_clears_l2 (x0 : Nat) : Nat → Int32 → bm_M → Option (bm_M)
  | 0, _, _ => none
  | k + 1, x1, M => (if 61 ≤ x1 then some M else (if bm_io x0 11 then ((M.2.2 x0 7).bind fun a2 => (if bm_ia a2 0 x1 = true then f_X12_clears_l2 x0 k (x1 + 1) (bm_sI M a2 x1.toNatClampNeg 0) else none)) else none))
set_option maxHeartbeats 4000000 in
set_option maxRecDepth 100000 in
theorem v_X12_clears_l2 {L : bm_L} {d n : Nat} {Q : Option Value → bm_M → Prop} {x0 : Nat} (hN : 181 ≤ n) : ∀ (k : Nat) (x1 : Int32) (M : bm_M) (r : bm_M), f_X12_clears_l2 x0 k x1 M = some r → (∀ yy, yy = r → bm_V L m_X12_clears d n n n 21 [(0, .ref x0)] [] yy Q) → bm_V L m_X12_clears d n n n 2 [(0, .ref x0), (1, .int x1)] [] M Q := by
  intro k
  induction k with
  | zero => intro x1 M r h; cases (show (none : Option (bm_M)) = some r from h)
  | succ k ih =>
    intro x1 M r h K0
    unfold f_X12_clears_l2 at h
    refine bv_iload_n dX12_clears_2 1 rfl ?_
    refine bv_bipush (v := 61) dX12_clears_3 (by decide) ?_
    refine bv_icmp_ge (tgt := 21) dX12_clears_5 (by decide) (fun cc => ?_) (fun cc => ?_)
    · replace h := bu_t h cc
      refine bw_ls (ls1 := [(0, .ref x0)]) [0] rfl ?_
      obtain rfl := Option.some.inj h
      exact K0 _ rfl
    · replace h := bu_f h cc
      refine bv_aload_n dX12_clears_8 0 rfl ?_
      obtain ⟨q1, h⟩ := bu_io h
      obtain ⟨a2, e3, h⟩ := bu_bd h
      refine bw_getA (a := a2) hN q1 e3 dX12_clears_9 fl_12_37 rfl ?_
      refine bv_iload_n dX12_clears_12 1 rfl ?_
      refine bv_iconst (v := 0) dX12_clears_13 (by decide) ?_
      obtain ⟨r4, h⟩ := bu_ia h
      refine bw_iast hN r4 dX12_clears_14 ?_
      refine bv_iinc (j := 1) (v := (x1 + 1)) (ls1 := [(0, .ref x0), (1, .int (x1 + 1))]) dX12_clears_15 rfl rfl (by decide) rfl rfl ?_
      refine bv_goto (tgt := 2) dX12_clears_18 (by decide) ?_
      exact ih _ _ _ h K0
def f_X12_clears (M : bm_M) (x0 : Nat) : Option (bm_M) := ((f_X12_clears_l2 x0 1000 0 M).bind fun y3 => (if bm_io x0 11 then ((y3.2.2 x0 7).bind fun a5 => (if bm_ia a5 0 3 = true then (if bm_ia a5 0 4 = true then some (bm_sI (bm_sI y3 a5 (3 : Int32).toNatClampNeg 2) a5 (4 : Int32).toNatClampNeg 6) else none) else none)) else none))
set_option maxHeartbeats 4000000 in
set_option maxRecDepth 100000 in
theorem c_X12_clears {L : bm_L} {d n : Nat} {M : bm_M} {x0 : Nat} {v : bm_M} (hN : 181 ≤ n) (h : f_X12_clears M x0 = some v) : bm_C L m_X12_clears d n n [.ref x0] M (fun r M' => r = none ∧ M' = v) := by
  refine bm_C.ofV (by decide) (Nat.le_of_ble_eq_true rfl) ?_
  show bm_V L m_X12_clears d n n n 0 [(0, .ref x0)] [] M _
  unfold f_X12_clears at h
  refine bv_iconst (v := 0) dX12_clears_0 (by decide) ?_
  refine bv_istore_n (ls1 := [(0, .ref x0), (1, .int 0)]) dX12_clears_1 (by decide) rfl rfl ?_
  obtain ⟨r1, p2, h⟩ := bu_bd h
  refine v_X12_clears_l2 hN 1000 _ _ _ p2 (fun y3 hy => ?_)
  · subst hy
    refine bv_aload_n dX12_clears_21 0 rfl ?_
    obtain ⟨q4, h⟩ := bu_io h
    obtain ⟨a5, e6, h⟩ := bu_bd h
    refine bw_getA (a := a5) hN q4 e6 dX12_clears_22 fl_12_37 rfl ?_
    refine bv_iconst (v := 3) dX12_clears_25 (by decide) ?_
    refine bv_iconst (v := 2) dX12_clears_26 (by decide) ?_
    obtain ⟨r7, h⟩ := bu_ia h
    refine bw_iast hN r7 dX12_clears_27 ?_
    refine bv_aload_n dX12_clears_28 0 rfl ?_
    refine bw_getA (a := a5) hN q4 e6 dX12_clears_29 fl_12_37 rfl ?_
    refine bv_iconst (v := 4) dX12_clears_32 (by decide) ?_
    refine bv_bipush (v := 6) dX12_clears_33 (by decide) ?_
    obtain ⟨r8, h⟩ := bu_ia h
    refine bw_iast hN r8 dX12_clears_35 ?_
    obtain rfl := Option.some.inj h
    exact bv_vret dX12_clears_36 rfl ⟨rfl, rfl⟩
def f_X12_peek (M : bm_M) (x0 : Nat) : Option (Int32) := (if bm_io x0 11 then (if (M.1 x0 3) ≤ (M.1 x0 4) then some (-1) else ((M.2.2 x0 1).bind fun a2 => (if bm_ia a2 1 (M.1 x0 4) = true then some ((M.1 a2 (M.1 x0 4).toNatClampNeg) &&& 255) else none))) else none)
set_option maxHeartbeats 4000000 in
set_option maxRecDepth 100000 in
theorem c_X12_peek {L : bm_L} {d n : Nat} {M : bm_M} {x0 : Nat} {v : Int32} (hN : 181 ≤ n) (h : f_X12_peek M x0 = some v) : bm_C L m_X12_peek d n n [.ref x0] M (fun r M' => r = some (.int v) ∧ M' = M) := by
  refine bm_C.ofV (by decide) (Nat.le_of_ble_eq_true rfl) ?_
  show bm_V L m_X12_peek d n n n 0 [(0, .ref x0)] [] M _
  unfold f_X12_peek at h
  refine bv_aload_n dX12_peek_0 0 rfl ?_
  obtain ⟨q1, h⟩ := bu_io h
  refine bw_getI hN q1 dX12_peek_1 fl_12_21 rfl ?_
  refine bv_aload_n dX12_peek_4 0 rfl ?_
  refine bw_getI hN q1 dX12_peek_5 fl_12_18 rfl ?_
  refine bv_icmp_ge (tgt := 27) dX12_peek_8 (by decide) (fun cc => ?_) (fun cc => ?_)
  · replace h := bu_t h cc
    refine bv_iconst (v := (-1)) dX12_peek_27 (by decide) ?_
    obtain rfl := Option.some.inj h
    exact bv_iret (x := (-1)) dX12_peek_28 rfl ⟨rfl, rfl⟩
  · replace h := bu_f h cc
    refine bv_aload_n dX12_peek_11 0 rfl ?_
    obtain ⟨a2, e3, h⟩ := bu_bd h
    refine bw_getA (a := a2) hN q1 e3 dX12_peek_12 fl_12_14 rfl ?_
    refine bv_aload_n dX12_peek_15 0 rfl ?_
    refine bw_getI hN q1 dX12_peek_16 fl_12_21 rfl ?_
    obtain ⟨r4, h⟩ := bu_ia h
    refine bw_bald hN r4 dX12_peek_19 ?_
    refine bv_sipush (v := 255) dX12_peek_20 (by decide) ?_
    refine bv_iand dX12_peek_23 ?_
    refine bv_goto (tgt := 28) dX12_peek_24 (by decide) ?_
    obtain rfl := Option.some.inj h
    exact bv_iret (x := ((M.1 a2 (M.1 x0 4).toNatClampNeg) &&& 255)) dX12_peek_28 rfl ⟨rfl, rfl⟩
def f_X12_isSmall (x0 : Int32) : Bool := (if x0 < 97 then false else (if 122 < x0 then false else true))
set_option maxHeartbeats 4000000 in
set_option maxRecDepth 100000 in
theorem c_X12_isSmall {L : bm_L} {d n : Nat} {M : bm_M} {x0 : Int32} {v : Bool} (hN : 181 ≤ n) (h : f_X12_isSmall x0 = v) : bm_C L m_X12_isSmall d n n [.int x0] M (fun r M' => r = some (.int (bm_bi v)) ∧ M' = M) := by
  refine bm_C.ofV (by decide) (Nat.le_of_ble_eq_true rfl) ?_
  show bm_V L m_X12_isSmall d n n n 0 [(0, .int x0)] [] M _
  unfold f_X12_isSmall at h
  refine bv_iload_n dX12_isSmall_0 0 rfl ?_
  refine bv_bipush (v := 97) dX12_isSmall_1 (by decide) ?_
  refine bv_icmp_lt (tgt := 16) dX12_isSmall_3 (by decide) (fun cc => ?_) (fun cc => ?_)
  · replace h := bu_t h cc
    refine bv_iconst (v := 0) dX12_isSmall_16 (by decide) ?_
    subst h
    exact bw_bret (b := false) dX12_isSmall_17 rfl ⟨rfl, rfl⟩
  · replace h := bu_f h cc
    refine bv_iload_n dX12_isSmall_6 0 rfl ?_
    refine bv_bipush (v := 122) dX12_isSmall_7 (by decide) ?_
    refine bv_icmp_gt (tgt := 16) dX12_isSmall_9 (by decide) (fun cc => ?_) (fun cc => ?_)
    · replace h := bu_t h cc
      refine bv_iconst (v := 0) dX12_isSmall_16 (by decide) ?_
      subst h
      exact bw_bret (b := false) dX12_isSmall_17 rfl ⟨rfl, rfl⟩
    · replace h := bu_f h cc
      refine bv_iconst (v := 1) dX12_isSmall_12 (by decide) ?_
      refine bv_goto (tgt := 17) dX12_isSmall_13 (by decide) ?_
      subst h
      exact bw_bret (b := true) dX12_isSmall_17 rfl ⟨rfl, rfl⟩
def f_X12_isDigit (x0 : Int32) : Bool := (if x0 < 48 then false else (if 57 < x0 then false else true))
set_option maxHeartbeats 4000000 in
set_option maxRecDepth 100000 in
theorem c_X12_isDigit {L : bm_L} {d n : Nat} {M : bm_M} {x0 : Int32} {v : Bool} (hN : 181 ≤ n) (h : f_X12_isDigit x0 = v) : bm_C L m_X12_isDigit d n n [.int x0] M (fun r M' => r = some (.int (bm_bi v)) ∧ M' = M) := by
  refine bm_C.ofV (by decide) (Nat.le_of_ble_eq_true rfl) ?_
  show bm_V L m_X12_isDigit d n n n 0 [(0, .int x0)] [] M _
  unfold f_X12_isDigit at h
  refine bv_iload_n dX12_isDigit_0 0 rfl ?_
  refine bv_bipush (v := 48) dX12_isDigit_1 (by decide) ?_
  refine bv_icmp_lt (tgt := 16) dX12_isDigit_3 (by decide) (fun cc => ?_) (fun cc => ?_)
  · replace h := bu_t h cc
    refine bv_iconst (v := 0) dX12_isDigit_16 (by decide) ?_
    subst h
    exact bw_bret (b := false) dX12_isDigit_17 rfl ⟨rfl, rfl⟩
  · replace h := bu_f h cc
    refine bv_iload_n dX12_isDigit_6 0 rfl ?_
    refine bv_bipush (v := 57) dX12_isDigit_7 (by decide) ?_
    refine bv_icmp_gt (tgt := 16) dX12_isDigit_9 (by decide) (fun cc => ?_) (fun cc => ?_)
    · replace h := bu_t h cc
      refine bv_iconst (v := 0) dX12_isDigit_16 (by decide) ?_
      subst h
      exact bw_bret (b := false) dX12_isDigit_17 rfl ⟨rfl, rfl⟩
    · replace h := bu_f h cc
      refine bv_iconst (v := 1) dX12_isDigit_12 (by decide) ?_
      refine bv_goto (tgt := 17) dX12_isDigit_13 (by decide) ?_
      subst h
      exact bw_bret (b := true) dX12_isDigit_17 rfl ⟨rfl, rfl⟩
def f_X12_next_l0 (x0 : Nat) : Nat → bm_M → Option (bm_M)
  | 0, _ => none
  | k + 1, M => (if bm_io x0 11 then ((f_X12_peek M x0).bind fun v2 => (if v2 = 32 then f_X12_next_l0 x0 k (bm_sI M x0 4 ((M.1 x0 4) + 1)) else ((f_X12_peek M x0).bind fun v4 => (if v4 = 10 then f_X12_next_l0 x0 k (bm_sI M x0 4 ((M.1 x0 4) + 1)) else some M)))) else none)
set_option maxHeartbeats 4000000 in
set_option maxRecDepth 100000 in
theorem v_X12_next_l0 {L : bm_L} {d n : Nat} {Q : Option Value → bm_M → Prop} {x0 : Nat} (hN : 181 ≤ n) : ∀ (k : Nat) (M : bm_M) (r : bm_M), f_X12_next_l0 x0 k M = some r → (∀ yy, yy = r → bm_V L m_X12_next (d + 1) n n n 31 [(0, .ref x0)] [] yy Q) → bm_V L m_X12_next (d + 1) n n n 0 [(0, .ref x0)] [] M Q := by
  intro k
  induction k with
  | zero => intro M r h; cases (show (none : Option (bm_M)) = some r from h)
  | succ k ih =>
    intro M r h K0
    unfold f_X12_next_l0 at h
    refine bv_aload_n dX12_next_0 0 rfl ?_
    obtain ⟨q1, h⟩ := bu_io h
    obtain ⟨v2, p3, h⟩ := bu_bd h
    refine bw_callV (As := []) hN q1 ⟨_, _, rfl⟩ dX12_next_1 mc_12_164 (c_X12_peek (d := d + 0) hN p3) rfl rfl (by decide) ?_
    refine bv_bipush (v := 32) dX12_next_4 (by decide) ?_
    refine bv_icmp_eq (tgt := 18) dX12_next_6 (by decide) (fun cc => ?_) (fun cc => ?_)
    · replace h := bu_t h cc
      refine bv_aload_n dX12_next_18 0 rfl ?_
      refine bv_dup dX12_next_19 rfl ?_
      refine bw_getI hN q1 dX12_next_20 fl_12_21 rfl ?_
      refine bv_iconst (v := 1) dX12_next_23 (by decide) ?_
      refine bv_iadd dX12_next_24 ?_
      refine bw_putI hN q1 dX12_next_25 fl_12_21 rfl ?_
      refine bv_goto (tgt := 0) dX12_next_28 (by decide) ?_
      exact ih _ _ h K0
    · replace h := bu_f h cc
      refine bv_aload_n dX12_next_9 0 rfl ?_
      obtain ⟨v4, p5, h⟩ := bu_bd h
      refine bw_callV (As := []) hN q1 ⟨_, _, rfl⟩ dX12_next_10 mc_12_164 (c_X12_peek (d := d + 0) hN p5) rfl rfl (by decide) ?_
      refine bv_bipush (v := 10) dX12_next_13 (by decide) ?_
      refine bv_icmp_ne (tgt := 31) dX12_next_15 (by decide) (fun cc => ?_) (fun cc => ?_)
      · replace h := bu_f h cc
        obtain rfl := Option.some.inj h
        exact K0 _ rfl
      · replace h := bu_t h cc
        refine bv_aload_n dX12_next_18 0 rfl ?_
        refine bv_dup dX12_next_19 rfl ?_
        refine bw_getI hN q1 dX12_next_20 fl_12_21 rfl ?_
        refine bv_iconst (v := 1) dX12_next_23 (by decide) ?_
        refine bv_iadd dX12_next_24 ?_
        refine bw_putI hN q1 dX12_next_25 fl_12_21 rfl ?_
        refine bv_goto (tgt := 0) dX12_next_28 (by decide) ?_
        exact ih _ _ h K0
def f_X12_next_l181 (x0 : Nat) (x2 : Bool) : Nat → Bool → bm_M → Option (Bool × bm_M)
  | 0, _, _ => none
  | k + 1, x3, M => ((f_X12_peek M x0).bind fun v1 => (if (f_X12_isSmall v1) = true then (if x3 = true then ((f_X12_peek M x0).bind fun v9 => (if (bm_bi (f_X12_isSmall v9)) = (bm_bi x2) then (if 7 ≤ (M.1 x0 13) then (if 3 ≤ (M.1 x0 13) then f_X12_next_l181 x0 x2 k true (bm_sI (bm_sI M x0 13 ((M.1 x0 13) + 1)) x0 4 (((bm_sI M x0 13 ((M.1 x0 13) + 1)).1 x0 4) + 1)) else ((f_X12_peek M x0).bind fun v17 => f_X12_next_l181 x0 x2 k true (bm_sI (bm_sI (bm_sI M x0 14 (((10 * (M.1 x0 14)) + v17) - 48)) x0 13 (((bm_sI M x0 14 (((10 * (M.1 x0 14)) + v17) - 48)).1 x0 13) + 1)) x0 4 (((bm_sI (bm_sI M x0 14 (((10 * (M.1 x0 14)) + v17) - 48)) x0 13 (((bm_sI M x0 14 (((10 * (M.1 x0 14)) + v17) - 48)).1 x0 13) + 1)).1 x0 4) + 1)))) else ((f_X12_peek M x0).bind fun v19 => (if 3 ≤ ((bm_sL M x0 17 ((bm_lshl (M.2.1 x0 17) 8) ||| v19.toInt64)).1 x0 13) then f_X12_next_l181 x0 x2 k true (bm_sI (bm_sI (bm_sL M x0 17 ((bm_lshl (M.2.1 x0 17) 8) ||| v19.toInt64)) x0 13 (((bm_sL M x0 17 ((bm_lshl (M.2.1 x0 17) 8) ||| v19.toInt64)).1 x0 13) + 1)) x0 4 (((bm_sI (bm_sL M x0 17 ((bm_lshl (M.2.1 x0 17) 8) ||| v19.toInt64)) x0 13 (((bm_sL M x0 17 ((bm_lshl (M.2.1 x0 17) 8) ||| v19.toInt64)).1 x0 13) + 1)).1 x0 4) + 1)) else ((f_X12_peek (bm_sL M x0 17 ((bm_lshl (M.2.1 x0 17) 8) ||| v19.toInt64)) x0).bind fun v21 => f_X12_next_l181 x0 x2 k true (bm_sI (bm_sI (bm_sI (bm_sL M x0 17 ((bm_lshl (M.2.1 x0 17) 8) ||| v19.toInt64)) x0 14 (((10 * ((bm_sL M x0 17 ((bm_lshl (M.2.1 x0 17) 8) ||| v19.toInt64)).1 x0 14)) + v21) - 48)) x0 13 (((bm_sI (bm_sL M x0 17 ((bm_lshl (M.2.1 x0 17) 8) ||| v19.toInt64)) x0 14 (((10 * ((bm_sL M x0 17 ((bm_lshl (M.2.1 x0 17) 8) ||| v19.toInt64)).1 x0 14)) + v21) - 48)).1 x0 13) + 1)) x0 4 (((bm_sI (bm_sI (bm_sL M x0 17 ((bm_lshl (M.2.1 x0 17) 8) ||| v19.toInt64)) x0 14 (((10 * ((bm_sL M x0 17 ((bm_lshl (M.2.1 x0 17) 8) ||| v19.toInt64)).1 x0 14)) + v21) - 48)) x0 13 (((bm_sI (bm_sL M x0 17 ((bm_lshl (M.2.1 x0 17) 8) ||| v19.toInt64)) x0 14 (((10 * ((bm_sL M x0 17 ((bm_lshl (M.2.1 x0 17) 8) ||| v19.toInt64)).1 x0 14)) + v21) - 48)).1 x0 13) + 1)).1 x0 4) + 1)))))) else (if 7 ≤ (M.1 x0 13) then (if 3 ≤ (M.1 x0 13) then f_X12_next_l181 x0 x2 k false (bm_sI (bm_sI M x0 13 ((M.1 x0 13) + 1)) x0 4 (((bm_sI M x0 13 ((M.1 x0 13) + 1)).1 x0 4) + 1)) else ((f_X12_peek M x0).bind fun v11 => f_X12_next_l181 x0 x2 k false (bm_sI (bm_sI (bm_sI M x0 14 (((10 * (M.1 x0 14)) + v11) - 48)) x0 13 (((bm_sI M x0 14 (((10 * (M.1 x0 14)) + v11) - 48)).1 x0 13) + 1)) x0 4 (((bm_sI (bm_sI M x0 14 (((10 * (M.1 x0 14)) + v11) - 48)) x0 13 (((bm_sI M x0 14 (((10 * (M.1 x0 14)) + v11) - 48)).1 x0 13) + 1)).1 x0 4) + 1)))) else ((f_X12_peek M x0).bind fun v13 => (if 3 ≤ ((bm_sL M x0 17 ((bm_lshl (M.2.1 x0 17) 8) ||| v13.toInt64)).1 x0 13) then f_X12_next_l181 x0 x2 k false (bm_sI (bm_sI (bm_sL M x0 17 ((bm_lshl (M.2.1 x0 17) 8) ||| v13.toInt64)) x0 13 (((bm_sL M x0 17 ((bm_lshl (M.2.1 x0 17) 8) ||| v13.toInt64)).1 x0 13) + 1)) x0 4 (((bm_sI (bm_sL M x0 17 ((bm_lshl (M.2.1 x0 17) 8) ||| v13.toInt64)) x0 13 (((bm_sL M x0 17 ((bm_lshl (M.2.1 x0 17) 8) ||| v13.toInt64)).1 x0 13) + 1)).1 x0 4) + 1)) else ((f_X12_peek (bm_sL M x0 17 ((bm_lshl (M.2.1 x0 17) 8) ||| v13.toInt64)) x0).bind fun v15 => f_X12_next_l181 x0 x2 k false (bm_sI (bm_sI (bm_sI (bm_sL M x0 17 ((bm_lshl (M.2.1 x0 17) 8) ||| v13.toInt64)) x0 14 (((10 * ((bm_sL M x0 17 ((bm_lshl (M.2.1 x0 17) 8) ||| v13.toInt64)).1 x0 14)) + v15) - 48)) x0 13 (((bm_sI (bm_sL M x0 17 ((bm_lshl (M.2.1 x0 17) 8) ||| v13.toInt64)) x0 14 (((10 * ((bm_sL M x0 17 ((bm_lshl (M.2.1 x0 17) 8) ||| v13.toInt64)).1 x0 14)) + v15) - 48)).1 x0 13) + 1)) x0 4 (((bm_sI (bm_sI (bm_sL M x0 17 ((bm_lshl (M.2.1 x0 17) 8) ||| v13.toInt64)) x0 14 (((10 * ((bm_sL M x0 17 ((bm_lshl (M.2.1 x0 17) 8) ||| v13.toInt64)).1 x0 14)) + v15) - 48)) x0 13 (((bm_sI (bm_sL M x0 17 ((bm_lshl (M.2.1 x0 17) 8) ||| v13.toInt64)) x0 14 (((10 * ((bm_sL M x0 17 ((bm_lshl (M.2.1 x0 17) 8) ||| v13.toInt64)).1 x0 14)) + v15) - 48)).1 x0 13) + 1)).1 x0 4) + 1)))))))) else (if 7 ≤ (M.1 x0 13) then (if 3 ≤ (M.1 x0 13) then f_X12_next_l181 x0 x2 k false (bm_sI (bm_sI M x0 13 ((M.1 x0 13) + 1)) x0 4 (((bm_sI M x0 13 ((M.1 x0 13) + 1)).1 x0 4) + 1)) else ((f_X12_peek M x0).bind fun v3 => f_X12_next_l181 x0 x2 k false (bm_sI (bm_sI (bm_sI M x0 14 (((10 * (M.1 x0 14)) + v3) - 48)) x0 13 (((bm_sI M x0 14 (((10 * (M.1 x0 14)) + v3) - 48)).1 x0 13) + 1)) x0 4 (((bm_sI (bm_sI M x0 14 (((10 * (M.1 x0 14)) + v3) - 48)) x0 13 (((bm_sI M x0 14 (((10 * (M.1 x0 14)) + v3) - 48)).1 x0 13) + 1)).1 x0 4) + 1)))) else ((f_X12_peek M x0).bind fun v5 => (if 3 ≤ ((bm_sL M x0 17 ((bm_lshl (M.2.1 x0 17) 8) ||| v5.toInt64)).1 x0 13) then f_X12_next_l181 x0 x2 k false (bm_sI (bm_sI (bm_sL M x0 17 ((bm_lshl (M.2.1 x0 17) 8) ||| v5.toInt64)) x0 13 (((bm_sL M x0 17 ((bm_lshl (M.2.1 x0 17) 8) ||| v5.toInt64)).1 x0 13) + 1)) x0 4 (((bm_sI (bm_sL M x0 17 ((bm_lshl (M.2.1 x0 17) 8) ||| v5.toInt64)) x0 13 (((bm_sL M x0 17 ((bm_lshl (M.2.1 x0 17) 8) ||| v5.toInt64)).1 x0 13) + 1)).1 x0 4) + 1)) else ((f_X12_peek (bm_sL M x0 17 ((bm_lshl (M.2.1 x0 17) 8) ||| v5.toInt64)) x0).bind fun v7 => f_X12_next_l181 x0 x2 k false (bm_sI (bm_sI (bm_sI (bm_sL M x0 17 ((bm_lshl (M.2.1 x0 17) 8) ||| v5.toInt64)) x0 14 (((10 * ((bm_sL M x0 17 ((bm_lshl (M.2.1 x0 17) 8) ||| v5.toInt64)).1 x0 14)) + v7) - 48)) x0 13 (((bm_sI (bm_sL M x0 17 ((bm_lshl (M.2.1 x0 17) 8) ||| v5.toInt64)) x0 14 (((10 * ((bm_sL M x0 17 ((bm_lshl (M.2.1 x0 17) 8) ||| v5.toInt64)).1 x0 14)) + v7) - 48)).1 x0 13) + 1)) x0 4 (((bm_sI (bm_sI (bm_sL M x0 17 ((bm_lshl (M.2.1 x0 17) 8) ||| v5.toInt64)) x0 14 (((10 * ((bm_sL M x0 17 ((bm_lshl (M.2.1 x0 17) 8) ||| v5.toInt64)).1 x0 14)) + v7) - 48)) x0 13 (((bm_sI (bm_sL M x0 17 ((bm_lshl (M.2.1 x0 17) 8) ||| v5.toInt64)) x0 14 (((10 * ((bm_sL M x0 17 ((bm_lshl (M.2.1 x0 17) 8) ||| v5.toInt64)).1 x0 14)) + v7) - 48)).1 x0 13) + 1)).1 x0 4) + 1))))))) else ((f_X12_peek M x0).bind fun v23 => (if (f_X12_isDigit v23) = true then (if x3 = true then ((f_X12_peek M x0).bind fun v31 => (if (bm_bi (f_X12_isSmall v31)) = (bm_bi x2) then (if 7 ≤ (M.1 x0 13) then (if 3 ≤ (M.1 x0 13) then f_X12_next_l181 x0 x2 k true (bm_sI (bm_sI M x0 13 ((M.1 x0 13) + 1)) x0 4 (((bm_sI M x0 13 ((M.1 x0 13) + 1)).1 x0 4) + 1)) else ((f_X12_peek M x0).bind fun v39 => f_X12_next_l181 x0 x2 k true (bm_sI (bm_sI (bm_sI M x0 14 (((10 * (M.1 x0 14)) + v39) - 48)) x0 13 (((bm_sI M x0 14 (((10 * (M.1 x0 14)) + v39) - 48)).1 x0 13) + 1)) x0 4 (((bm_sI (bm_sI M x0 14 (((10 * (M.1 x0 14)) + v39) - 48)) x0 13 (((bm_sI M x0 14 (((10 * (M.1 x0 14)) + v39) - 48)).1 x0 13) + 1)).1 x0 4) + 1)))) else ((f_X12_peek M x0).bind fun v41 => (if 3 ≤ ((bm_sL M x0 17 ((bm_lshl (M.2.1 x0 17) 8) ||| v41.toInt64)).1 x0 13) then f_X12_next_l181 x0 x2 k true (bm_sI (bm_sI (bm_sL M x0 17 ((bm_lshl (M.2.1 x0 17) 8) ||| v41.toInt64)) x0 13 (((bm_sL M x0 17 ((bm_lshl (M.2.1 x0 17) 8) ||| v41.toInt64)).1 x0 13) + 1)) x0 4 (((bm_sI (bm_sL M x0 17 ((bm_lshl (M.2.1 x0 17) 8) ||| v41.toInt64)) x0 13 (((bm_sL M x0 17 ((bm_lshl (M.2.1 x0 17) 8) ||| v41.toInt64)).1 x0 13) + 1)).1 x0 4) + 1)) else ((f_X12_peek (bm_sL M x0 17 ((bm_lshl (M.2.1 x0 17) 8) ||| v41.toInt64)) x0).bind fun v43 => f_X12_next_l181 x0 x2 k true (bm_sI (bm_sI (bm_sI (bm_sL M x0 17 ((bm_lshl (M.2.1 x0 17) 8) ||| v41.toInt64)) x0 14 (((10 * ((bm_sL M x0 17 ((bm_lshl (M.2.1 x0 17) 8) ||| v41.toInt64)).1 x0 14)) + v43) - 48)) x0 13 (((bm_sI (bm_sL M x0 17 ((bm_lshl (M.2.1 x0 17) 8) ||| v41.toInt64)) x0 14 (((10 * ((bm_sL M x0 17 ((bm_lshl (M.2.1 x0 17) 8) ||| v41.toInt64)).1 x0 14)) + v43) - 48)).1 x0 13) + 1)) x0 4 (((bm_sI (bm_sI (bm_sL M x0 17 ((bm_lshl (M.2.1 x0 17) 8) ||| v41.toInt64)) x0 14 (((10 * ((bm_sL M x0 17 ((bm_lshl (M.2.1 x0 17) 8) ||| v41.toInt64)).1 x0 14)) + v43) - 48)) x0 13 (((bm_sI (bm_sL M x0 17 ((bm_lshl (M.2.1 x0 17) 8) ||| v41.toInt64)) x0 14 (((10 * ((bm_sL M x0 17 ((bm_lshl (M.2.1 x0 17) 8) ||| v41.toInt64)).1 x0 14)) + v43) - 48)).1 x0 13) + 1)).1 x0 4) + 1)))))) else (if 7 ≤ (M.1 x0 13) then (if 3 ≤ (M.1 x0 13) then f_X12_next_l181 x0 x2 k false (bm_sI (bm_sI M x0 13 ((M.1 x0 13) + 1)) x0 4 (((bm_sI M x0 13 ((M.1 x0 13) + 1)).1 x0 4) + 1)) else ((f_X12_peek M x0).bind fun v33 => f_X12_next_l181 x0 x2 k false (bm_sI (bm_sI (bm_sI M x0 14 (((10 * (M.1 x0 14)) + v33) - 48)) x0 13 (((bm_sI M x0 14 (((10 * (M.1 x0 14)) + v33) - 48)).1 x0 13) + 1)) x0 4 (((bm_sI (bm_sI M x0 14 (((10 * (M.1 x0 14)) + v33) - 48)) x0 13 (((bm_sI M x0 14 (((10 * (M.1 x0 14)) + v33) - 48)).1 x0 13) + 1)).1 x0 4) + 1)))) else ((f_X12_peek M x0).bind fun v35 => (if 3 ≤ ((bm_sL M x0 17 ((bm_lshl (M.2.1 x0 17) 8) ||| v35.toInt64)).1 x0 13) then f_X12_next_l181 x0 x2 k false (bm_sI (bm_sI (bm_sL M x0 17 ((bm_lshl (M.2.1 x0 17) 8) ||| v35.toInt64)) x0 13 (((bm_sL M x0 17 ((bm_lshl (M.2.1 x0 17) 8) ||| v35.toInt64)).1 x0 13) + 1)) x0 4 (((bm_sI (bm_sL M x0 17 ((bm_lshl (M.2.1 x0 17) 8) ||| v35.toInt64)) x0 13 (((bm_sL M x0 17 ((bm_lshl (M.2.1 x0 17) 8) ||| v35.toInt64)).1 x0 13) + 1)).1 x0 4) + 1)) else ((f_X12_peek (bm_sL M x0 17 ((bm_lshl (M.2.1 x0 17) 8) ||| v35.toInt64)) x0).bind fun v37 => f_X12_next_l181 x0 x2 k false (bm_sI (bm_sI (bm_sI (bm_sL M x0 17 ((bm_lshl (M.2.1 x0 17) 8) ||| v35.toInt64)) x0 14 (((10 * ((bm_sL M x0 17 ((bm_lshl (M.2.1 x0 17) 8) ||| v35.toInt64)).1 x0 14)) + v37) - 48)) x0 13 (((bm_sI (bm_sL M x0 17 ((bm_lshl (M.2.1 x0 17) 8) ||| v35.toInt64)) x0 14 (((10 * ((bm_sL M x0 17 ((bm_lshl (M.2.1 x0 17) 8) ||| v35.toInt64)).1 x0 14)) + v37) - 48)).1 x0 13) + 1)) x0 4 (((bm_sI (bm_sI (bm_sL M x0 17 ((bm_lshl (M.2.1 x0 17) 8) ||| v35.toInt64)) x0 14 (((10 * ((bm_sL M x0 17 ((bm_lshl (M.2.1 x0 17) 8) ||| v35.toInt64)).1 x0 14)) + v37) - 48)) x0 13 (((bm_sI (bm_sL M x0 17 ((bm_lshl (M.2.1 x0 17) 8) ||| v35.toInt64)) x0 14 (((10 * ((bm_sL M x0 17 ((bm_lshl (M.2.1 x0 17) 8) ||| v35.toInt64)).1 x0 14)) + v37) - 48)).1 x0 13) + 1)).1 x0 4) + 1)))))))) else (if 7 ≤ (M.1 x0 13) then (if 3 ≤ (M.1 x0 13) then f_X12_next_l181 x0 x2 k false (bm_sI (bm_sI M x0 13 ((M.1 x0 13) + 1)) x0 4 (((bm_sI M x0 13 ((M.1 x0 13) + 1)).1 x0 4) + 1)) else ((f_X12_peek M x0).bind fun v25 => f_X12_next_l181 x0 x2 k false (bm_sI (bm_sI (bm_sI M x0 14 (((10 * (M.1 x0 14)) + v25) - 48)) x0 13 (((bm_sI M x0 14 (((10 * (M.1 x0 14)) + v25) - 48)).1 x0 13) + 1)) x0 4 (((bm_sI (bm_sI M x0 14 (((10 * (M.1 x0 14)) + v25) - 48)) x0 13 (((bm_sI M x0 14 (((10 * (M.1 x0 14)) + v25) - 48)).1 x0 13) + 1)).1 x0 4) + 1)))) else ((f_X12_peek M x0).bind fun v27 => (if 3 ≤ ((bm_sL M x0 17 ((bm_lshl (M.2.1 x0 17) 8) ||| v27.toInt64)).1 x0 13) then f_X12_next_l181 x0 x2 k false (bm_sI (bm_sI (bm_sL M x0 17 ((bm_lshl (M.2.1 x0 17) 8) ||| v27.toInt64)) x0 13 (((bm_sL M x0 17 ((bm_lshl (M.2.1 x0 17) 8) ||| v27.toInt64)).1 x0 13) + 1)) x0 4 (((bm_sI (bm_sL M x0 17 ((bm_lshl (M.2.1 x0 17) 8) ||| v27.toInt64)) x0 13 (((bm_sL M x0 17 ((bm_lshl (M.2.1 x0 17) 8) ||| v27.toInt64)).1 x0 13) + 1)).1 x0 4) + 1)) else ((f_X12_peek (bm_sL M x0 17 ((bm_lshl (M.2.1 x0 17) 8) ||| v27.toInt64)) x0).bind fun v29 => f_X12_next_l181 x0 x2 k false (bm_sI (bm_sI (bm_sI (bm_sL M x0 17 ((bm_lshl (M.2.1 x0 17) 8) ||| v27.toInt64)) x0 14 (((10 * ((bm_sL M x0 17 ((bm_lshl (M.2.1 x0 17) 8) ||| v27.toInt64)).1 x0 14)) + v29) - 48)) x0 13 (((bm_sI (bm_sL M x0 17 ((bm_lshl (M.2.1 x0 17) 8) ||| v27.toInt64)) x0 14 (((10 * ((bm_sL M x0 17 ((bm_lshl (M.2.1 x0 17) 8) ||| v27.toInt64)).1 x0 14)) + v29) - 48)).1 x0 13) + 1)) x0 4 (((bm_sI (bm_sI (bm_sL M x0 17 ((bm_lshl (M.2.1 x0 17) 8) ||| v27.toInt64)) x0 14 (((10 * ((bm_sL M x0 17 ((bm_lshl (M.2.1 x0 17) 8) ||| v27.toInt64)).1 x0 14)) + v29) - 48)) x0 13 (((bm_sI (bm_sL M x0 17 ((bm_lshl (M.2.1 x0 17) 8) ||| v27.toInt64)) x0 14 (((10 * ((bm_sL M x0 17 ((bm_lshl (M.2.1 x0 17) 8) ||| v27.toInt64)).1 x0 14)) + v29) - 48)).1 x0 13) + 1)).1 x0 4) + 1))))))) else some (x3, M)))))
set_option maxHeartbeats 4000000 in
set_option maxRecDepth 100000 in
theorem v_X12_next_l181 {L : bm_L} {d n : Nat} {Q : Option Value → bm_M → Prop} {x0 : Nat} {x2 : Bool} (hN : 181 ≤ n) (q_0 : bm_OK x0 11) : ∀ (k : Nat) (x3 : Bool) (M : bm_M) (r : Bool × bm_M), f_X12_next_l181 x0 x2 k x3 M = some r → (∀ yy, yy = r → bm_V L m_X12_next (d + 1) n n n 298 [(0, .ref x0), (2, .int (bm_bi x2)), (3, .int (bm_bi yy.1))] [] yy.2 Q) → bm_V L m_X12_next (d + 1) n n n 181 [(0, .ref x0), (2, .int (bm_bi x2)), (3, .int (bm_bi x3))] [] M Q := by
  intro k
  induction k with
  | zero => intro x3 M r h; cases (show (none : Option (Bool × bm_M)) = some r from h)
  | succ k ih =>
    intro x3 M r h K0
    unfold f_X12_next_l181 at h
    refine bv_aload_n dX12_next_181 0 rfl ?_
    obtain ⟨v1, p2, h⟩ := bu_bd h
    refine bw_callV (As := []) hN q_0 ⟨_, _, rfl⟩ dX12_next_182 mc_12_164 (c_X12_peek (d := d + 0) hN p2) rfl rfl (by decide) ?_
    refine bw_callS (As := [.int v1]) dX12_next_185 mc_12_177 (c_X12_isSmall (d := d + 0) hN rfl) rfl rfl (by decide) ?_
    refine bw_ifB_ne (b := (f_X12_isSmall v1)) (tgt := 201) dX12_next_188 (by decide) (fun cc => ?_) (fun cc => ?_)
    · replace h := bu_bt h cc
      refine bv_iload_n dX12_next_201 2 rfl ?_
      refine bw_ifB_eq (b := x3) (tgt := 220) dX12_next_202 (by decide) (fun cc => ?_) (fun cc => ?_)
      · replace h := bu_bf h cc
        refine bv_iconst (v := 0) dX12_next_220 (by decide) ?_
        refine bv_istore_n (ls1 := [(0, .ref x0), (2, .int (bm_bi x2)), (3, .int 0)]) dX12_next_221 (by decide) rfl rfl ?_
        refine bv_aload_n dX12_next_222 0 rfl ?_
        refine bw_getI hN q_0 dX12_next_223 fl_12_171 rfl ?_
        refine bv_bipush (v := 7) dX12_next_226 (by decide) ?_
        refine bv_icmp_ge (tgt := 248) dX12_next_228 (by decide) (fun cc => ?_) (fun cc => ?_)
        · replace h := bu_t h cc
          refine bv_aload_n dX12_next_248 0 rfl ?_
          refine bw_getI hN q_0 dX12_next_249 fl_12_171 rfl ?_
          refine bv_iconst (v := 3) dX12_next_252 (by decide) ?_
          refine bv_icmp_ge (tgt := 275) dX12_next_253 (by decide) (fun cc => ?_) (fun cc => ?_)
          · replace h := bu_t h cc
            refine bv_aload_n dX12_next_275 0 rfl ?_
            refine bv_dup dX12_next_276 rfl ?_
            refine bw_getI hN q_0 dX12_next_277 fl_12_171 rfl ?_
            refine bv_iconst (v := 1) dX12_next_280 (by decide) ?_
            refine bv_iadd dX12_next_281 ?_
            refine bw_putI hN q_0 dX12_next_282 fl_12_171 rfl ?_
            refine bv_aload_n dX12_next_285 0 rfl ?_
            refine bv_dup dX12_next_286 rfl ?_
            refine bw_getI hN q_0 dX12_next_287 fl_12_21 rfl ?_
            refine bv_iconst (v := 1) dX12_next_290 (by decide) ?_
            refine bv_iadd dX12_next_291 ?_
            refine bw_putI hN q_0 dX12_next_292 fl_12_21 rfl ?_
            refine bv_goto (tgt := 181) dX12_next_295 (by decide) ?_
            exact ih _ _ _ h K0
          · replace h := bu_f h cc
            refine bv_aload_n dX12_next_256 0 rfl ?_
            refine bv_bipush (v := 10) dX12_next_257 (by decide) ?_
            refine bv_aload_n dX12_next_259 0 rfl ?_
            refine bw_getI hN q_0 dX12_next_260 fl_12_184 rfl ?_
            refine bv_imul dX12_next_263 ?_
            refine bv_aload_n dX12_next_264 0 rfl ?_
            obtain ⟨v3, p4, h⟩ := bu_bd h
            refine bw_callV (As := []) hN q_0 ⟨_, _, rfl⟩ dX12_next_265 mc_12_164 (c_X12_peek (d := d + 0) hN p4) rfl rfl (Nat.le_of_ble_eq_true rfl) ?_
            refine bv_iadd dX12_next_268 ?_
            refine bv_bipush (v := 48) dX12_next_269 (by decide) ?_
            refine bv_isub dX12_next_271 ?_
            refine bw_putI hN q_0 dX12_next_272 fl_12_184 rfl ?_
            refine bv_aload_n dX12_next_275 0 rfl ?_
            refine bv_dup dX12_next_276 rfl ?_
            refine bw_getI hN q_0 dX12_next_277 fl_12_171 rfl ?_
            refine bv_iconst (v := 1) dX12_next_280 (by decide) ?_
            refine bv_iadd dX12_next_281 ?_
            refine bw_putI hN q_0 dX12_next_282 fl_12_171 rfl ?_
            refine bv_aload_n dX12_next_285 0 rfl ?_
            refine bv_dup dX12_next_286 rfl ?_
            refine bw_getI hN q_0 dX12_next_287 fl_12_21 rfl ?_
            refine bv_iconst (v := 1) dX12_next_290 (by decide) ?_
            refine bv_iadd dX12_next_291 ?_
            refine bw_putI hN q_0 dX12_next_292 fl_12_21 rfl ?_
            refine bv_goto (tgt := 181) dX12_next_295 (by decide) ?_
            exact ih _ _ _ h K0
        · replace h := bu_f h cc
          refine bv_aload_n dX12_next_231 0 rfl ?_
          refine bv_aload_n dX12_next_232 0 rfl ?_
          refine bw_getL hN q_0 dX12_next_233 fl_12_187 rfl ?_
          refine bv_bipush (v := 8) dX12_next_236 (by decide) ?_
          refine bv_lshl dX12_next_238 ?_
          refine bv_aload_n dX12_next_239 0 rfl ?_
          obtain ⟨v5, p6, h⟩ := bu_bd h
          refine bw_callV (As := []) hN q_0 ⟨_, _, rfl⟩ dX12_next_240 mc_12_164 (c_X12_peek (d := d + 0) hN p6) rfl rfl (Nat.le_of_ble_eq_true rfl) ?_
          refine bv_i2l dX12_next_243 ?_
          refine bv_lor dX12_next_244 ?_
          refine bw_putL hN q_0 dX12_next_245 fl_12_187 rfl ?_
          refine bv_aload_n dX12_next_248 0 rfl ?_
          refine bw_getI hN q_0 dX12_next_249 fl_12_171 rfl ?_
          refine bv_iconst (v := 3) dX12_next_252 (by decide) ?_
          refine bv_icmp_ge (tgt := 275) dX12_next_253 (by decide) (fun cc => ?_) (fun cc => ?_)
          · replace h := bu_t h cc
            refine bv_aload_n dX12_next_275 0 rfl ?_
            refine bv_dup dX12_next_276 rfl ?_
            refine bw_getI hN q_0 dX12_next_277 fl_12_171 rfl ?_
            refine bv_iconst (v := 1) dX12_next_280 (by decide) ?_
            refine bv_iadd dX12_next_281 ?_
            refine bw_putI hN q_0 dX12_next_282 fl_12_171 rfl ?_
            refine bv_aload_n dX12_next_285 0 rfl ?_
            refine bv_dup dX12_next_286 rfl ?_
            refine bw_getI hN q_0 dX12_next_287 fl_12_21 rfl ?_
            refine bv_iconst (v := 1) dX12_next_290 (by decide) ?_
            refine bv_iadd dX12_next_291 ?_
            refine bw_putI hN q_0 dX12_next_292 fl_12_21 rfl ?_
            refine bv_goto (tgt := 181) dX12_next_295 (by decide) ?_
            exact ih _ _ _ h K0
          · replace h := bu_f h cc
            refine bv_aload_n dX12_next_256 0 rfl ?_
            refine bv_bipush (v := 10) dX12_next_257 (by decide) ?_
            refine bv_aload_n dX12_next_259 0 rfl ?_
            refine bw_getI hN q_0 dX12_next_260 fl_12_184 rfl ?_
            refine bv_imul dX12_next_263 ?_
            refine bv_aload_n dX12_next_264 0 rfl ?_
            obtain ⟨v7, p8, h⟩ := bu_bd h
            refine bw_callV (As := []) hN q_0 ⟨_, _, rfl⟩ dX12_next_265 mc_12_164 (c_X12_peek (d := d + 0) hN p8) rfl rfl (Nat.le_of_ble_eq_true rfl) ?_
            refine bv_iadd dX12_next_268 ?_
            refine bv_bipush (v := 48) dX12_next_269 (by decide) ?_
            refine bv_isub dX12_next_271 ?_
            refine bw_putI hN q_0 dX12_next_272 fl_12_184 rfl ?_
            refine bv_aload_n dX12_next_275 0 rfl ?_
            refine bv_dup dX12_next_276 rfl ?_
            refine bw_getI hN q_0 dX12_next_277 fl_12_171 rfl ?_
            refine bv_iconst (v := 1) dX12_next_280 (by decide) ?_
            refine bv_iadd dX12_next_281 ?_
            refine bw_putI hN q_0 dX12_next_282 fl_12_171 rfl ?_
            refine bv_aload_n dX12_next_285 0 rfl ?_
            refine bv_dup dX12_next_286 rfl ?_
            refine bw_getI hN q_0 dX12_next_287 fl_12_21 rfl ?_
            refine bv_iconst (v := 1) dX12_next_290 (by decide) ?_
            refine bv_iadd dX12_next_291 ?_
            refine bw_putI hN q_0 dX12_next_292 fl_12_21 rfl ?_
            refine bv_goto (tgt := 181) dX12_next_295 (by decide) ?_
            exact ih _ _ _ h K0
      · replace h := bu_bt h cc
        refine bv_aload_n dX12_next_205 0 rfl ?_
        obtain ⟨v9, p10, h⟩ := bu_bd h
        refine bw_callV (As := []) hN q_0 ⟨_, _, rfl⟩ dX12_next_206 mc_12_164 (c_X12_peek (d := d + 0) hN p10) rfl rfl (by decide) ?_
        refine bw_callS (As := [.int v9]) dX12_next_209 mc_12_177 (c_X12_isSmall (d := d + 0) hN rfl) rfl rfl (by decide) ?_
        refine bv_iload_n dX12_next_212 1 rfl ?_
        refine bv_icmp_ne (tgt := 220) dX12_next_213 (by decide) (fun cc => ?_) (fun cc => ?_)
        · replace h := bu_f h cc
          refine bv_iconst (v := 0) dX12_next_220 (by decide) ?_
          refine bv_istore_n (ls1 := [(0, .ref x0), (2, .int (bm_bi x2)), (3, .int 0)]) dX12_next_221 (by decide) rfl rfl ?_
          refine bv_aload_n dX12_next_222 0 rfl ?_
          refine bw_getI hN q_0 dX12_next_223 fl_12_171 rfl ?_
          refine bv_bipush (v := 7) dX12_next_226 (by decide) ?_
          refine bv_icmp_ge (tgt := 248) dX12_next_228 (by decide) (fun cc => ?_) (fun cc => ?_)
          · replace h := bu_t h cc
            refine bv_aload_n dX12_next_248 0 rfl ?_
            refine bw_getI hN q_0 dX12_next_249 fl_12_171 rfl ?_
            refine bv_iconst (v := 3) dX12_next_252 (by decide) ?_
            refine bv_icmp_ge (tgt := 275) dX12_next_253 (by decide) (fun cc => ?_) (fun cc => ?_)
            · replace h := bu_t h cc
              refine bv_aload_n dX12_next_275 0 rfl ?_
              refine bv_dup dX12_next_276 rfl ?_
              refine bw_getI hN q_0 dX12_next_277 fl_12_171 rfl ?_
              refine bv_iconst (v := 1) dX12_next_280 (by decide) ?_
              refine bv_iadd dX12_next_281 ?_
              refine bw_putI hN q_0 dX12_next_282 fl_12_171 rfl ?_
              refine bv_aload_n dX12_next_285 0 rfl ?_
              refine bv_dup dX12_next_286 rfl ?_
              refine bw_getI hN q_0 dX12_next_287 fl_12_21 rfl ?_
              refine bv_iconst (v := 1) dX12_next_290 (by decide) ?_
              refine bv_iadd dX12_next_291 ?_
              refine bw_putI hN q_0 dX12_next_292 fl_12_21 rfl ?_
              refine bv_goto (tgt := 181) dX12_next_295 (by decide) ?_
              exact ih _ _ _ h K0
            · replace h := bu_f h cc
              refine bv_aload_n dX12_next_256 0 rfl ?_
              refine bv_bipush (v := 10) dX12_next_257 (by decide) ?_
              refine bv_aload_n dX12_next_259 0 rfl ?_
              refine bw_getI hN q_0 dX12_next_260 fl_12_184 rfl ?_
              refine bv_imul dX12_next_263 ?_
              refine bv_aload_n dX12_next_264 0 rfl ?_
              obtain ⟨v11, p12, h⟩ := bu_bd h
              refine bw_callV (As := []) hN q_0 ⟨_, _, rfl⟩ dX12_next_265 mc_12_164 (c_X12_peek (d := d + 0) hN p12) rfl rfl (Nat.le_of_ble_eq_true rfl) ?_
              refine bv_iadd dX12_next_268 ?_
              refine bv_bipush (v := 48) dX12_next_269 (by decide) ?_
              refine bv_isub dX12_next_271 ?_
              refine bw_putI hN q_0 dX12_next_272 fl_12_184 rfl ?_
              refine bv_aload_n dX12_next_275 0 rfl ?_
              refine bv_dup dX12_next_276 rfl ?_
              refine bw_getI hN q_0 dX12_next_277 fl_12_171 rfl ?_
              refine bv_iconst (v := 1) dX12_next_280 (by decide) ?_
              refine bv_iadd dX12_next_281 ?_
              refine bw_putI hN q_0 dX12_next_282 fl_12_171 rfl ?_
              refine bv_aload_n dX12_next_285 0 rfl ?_
              refine bv_dup dX12_next_286 rfl ?_
              refine bw_getI hN q_0 dX12_next_287 fl_12_21 rfl ?_
              refine bv_iconst (v := 1) dX12_next_290 (by decide) ?_
              refine bv_iadd dX12_next_291 ?_
              refine bw_putI hN q_0 dX12_next_292 fl_12_21 rfl ?_
              refine bv_goto (tgt := 181) dX12_next_295 (by decide) ?_
              exact ih _ _ _ h K0
          · replace h := bu_f h cc
            refine bv_aload_n dX12_next_231 0 rfl ?_
            refine bv_aload_n dX12_next_232 0 rfl ?_
            refine bw_getL hN q_0 dX12_next_233 fl_12_187 rfl ?_
            refine bv_bipush (v := 8) dX12_next_236 (by decide) ?_
            refine bv_lshl dX12_next_238 ?_
            refine bv_aload_n dX12_next_239 0 rfl ?_
            obtain ⟨v13, p14, h⟩ := bu_bd h
            refine bw_callV (As := []) hN q_0 ⟨_, _, rfl⟩ dX12_next_240 mc_12_164 (c_X12_peek (d := d + 0) hN p14) rfl rfl (Nat.le_of_ble_eq_true rfl) ?_
            refine bv_i2l dX12_next_243 ?_
            refine bv_lor dX12_next_244 ?_
            refine bw_putL hN q_0 dX12_next_245 fl_12_187 rfl ?_
            refine bv_aload_n dX12_next_248 0 rfl ?_
            refine bw_getI hN q_0 dX12_next_249 fl_12_171 rfl ?_
            refine bv_iconst (v := 3) dX12_next_252 (by decide) ?_
            refine bv_icmp_ge (tgt := 275) dX12_next_253 (by decide) (fun cc => ?_) (fun cc => ?_)
            · replace h := bu_t h cc
              refine bv_aload_n dX12_next_275 0 rfl ?_
              refine bv_dup dX12_next_276 rfl ?_
              refine bw_getI hN q_0 dX12_next_277 fl_12_171 rfl ?_
              refine bv_iconst (v := 1) dX12_next_280 (by decide) ?_
              refine bv_iadd dX12_next_281 ?_
              refine bw_putI hN q_0 dX12_next_282 fl_12_171 rfl ?_
              refine bv_aload_n dX12_next_285 0 rfl ?_
              refine bv_dup dX12_next_286 rfl ?_
              refine bw_getI hN q_0 dX12_next_287 fl_12_21 rfl ?_
              refine bv_iconst (v := 1) dX12_next_290 (by decide) ?_
              refine bv_iadd dX12_next_291 ?_
              refine bw_putI hN q_0 dX12_next_292 fl_12_21 rfl ?_
              refine bv_goto (tgt := 181) dX12_next_295 (by decide) ?_
              exact ih _ _ _ h K0
            · replace h := bu_f h cc
              refine bv_aload_n dX12_next_256 0 rfl ?_
              refine bv_bipush (v := 10) dX12_next_257 (by decide) ?_
              refine bv_aload_n dX12_next_259 0 rfl ?_
              refine bw_getI hN q_0 dX12_next_260 fl_12_184 rfl ?_
              refine bv_imul dX12_next_263 ?_
              refine bv_aload_n dX12_next_264 0 rfl ?_
              obtain ⟨v15, p16, h⟩ := bu_bd h
              refine bw_callV (As := []) hN q_0 ⟨_, _, rfl⟩ dX12_next_265 mc_12_164 (c_X12_peek (d := d + 0) hN p16) rfl rfl (Nat.le_of_ble_eq_true rfl) ?_
              refine bv_iadd dX12_next_268 ?_
              refine bv_bipush (v := 48) dX12_next_269 (by decide) ?_
              refine bv_isub dX12_next_271 ?_
              refine bw_putI hN q_0 dX12_next_272 fl_12_184 rfl ?_
              refine bv_aload_n dX12_next_275 0 rfl ?_
              refine bv_dup dX12_next_276 rfl ?_
              refine bw_getI hN q_0 dX12_next_277 fl_12_171 rfl ?_
              refine bv_iconst (v := 1) dX12_next_280 (by decide) ?_
              refine bv_iadd dX12_next_281 ?_
              refine bw_putI hN q_0 dX12_next_282 fl_12_171 rfl ?_
              refine bv_aload_n dX12_next_285 0 rfl ?_
              refine bv_dup dX12_next_286 rfl ?_
              refine bw_getI hN q_0 dX12_next_287 fl_12_21 rfl ?_
              refine bv_iconst (v := 1) dX12_next_290 (by decide) ?_
              refine bv_iadd dX12_next_291 ?_
              refine bw_putI hN q_0 dX12_next_292 fl_12_21 rfl ?_
              refine bv_goto (tgt := 181) dX12_next_295 (by decide) ?_
              exact ih _ _ _ h K0
        · replace h := bu_t h cc
          refine bv_iconst (v := 1) dX12_next_216 (by decide) ?_
          refine bv_goto (tgt := 221) dX12_next_217 (by decide) ?_
          refine bv_istore_n (ls1 := [(0, .ref x0), (2, .int (bm_bi x2)), (3, .int 1)]) dX12_next_221 (by decide) rfl rfl ?_
          refine bv_aload_n dX12_next_222 0 rfl ?_
          refine bw_getI hN q_0 dX12_next_223 fl_12_171 rfl ?_
          refine bv_bipush (v := 7) dX12_next_226 (by decide) ?_
          refine bv_icmp_ge (tgt := 248) dX12_next_228 (by decide) (fun cc => ?_) (fun cc => ?_)
          · replace h := bu_t h cc
            refine bv_aload_n dX12_next_248 0 rfl ?_
            refine bw_getI hN q_0 dX12_next_249 fl_12_171 rfl ?_
            refine bv_iconst (v := 3) dX12_next_252 (by decide) ?_
            refine bv_icmp_ge (tgt := 275) dX12_next_253 (by decide) (fun cc => ?_) (fun cc => ?_)
            · replace h := bu_t h cc
              refine bv_aload_n dX12_next_275 0 rfl ?_
              refine bv_dup dX12_next_276 rfl ?_
              refine bw_getI hN q_0 dX12_next_277 fl_12_171 rfl ?_
              refine bv_iconst (v := 1) dX12_next_280 (by decide) ?_
              refine bv_iadd dX12_next_281 ?_
              refine bw_putI hN q_0 dX12_next_282 fl_12_171 rfl ?_
              refine bv_aload_n dX12_next_285 0 rfl ?_
              refine bv_dup dX12_next_286 rfl ?_
              refine bw_getI hN q_0 dX12_next_287 fl_12_21 rfl ?_
              refine bv_iconst (v := 1) dX12_next_290 (by decide) ?_
              refine bv_iadd dX12_next_291 ?_
              refine bw_putI hN q_0 dX12_next_292 fl_12_21 rfl ?_
              refine bv_goto (tgt := 181) dX12_next_295 (by decide) ?_
              exact ih _ _ _ h K0
            · replace h := bu_f h cc
              refine bv_aload_n dX12_next_256 0 rfl ?_
              refine bv_bipush (v := 10) dX12_next_257 (by decide) ?_
              refine bv_aload_n dX12_next_259 0 rfl ?_
              refine bw_getI hN q_0 dX12_next_260 fl_12_184 rfl ?_
              refine bv_imul dX12_next_263 ?_
              refine bv_aload_n dX12_next_264 0 rfl ?_
              obtain ⟨v17, p18, h⟩ := bu_bd h
              refine bw_callV (As := []) hN q_0 ⟨_, _, rfl⟩ dX12_next_265 mc_12_164 (c_X12_peek (d := d + 0) hN p18) rfl rfl (Nat.le_of_ble_eq_true rfl) ?_
              refine bv_iadd dX12_next_268 ?_
              refine bv_bipush (v := 48) dX12_next_269 (by decide) ?_
              refine bv_isub dX12_next_271 ?_
              refine bw_putI hN q_0 dX12_next_272 fl_12_184 rfl ?_
              refine bv_aload_n dX12_next_275 0 rfl ?_
              refine bv_dup dX12_next_276 rfl ?_
              refine bw_getI hN q_0 dX12_next_277 fl_12_171 rfl ?_
              refine bv_iconst (v := 1) dX12_next_280 (by decide) ?_
              refine bv_iadd dX12_next_281 ?_
              refine bw_putI hN q_0 dX12_next_282 fl_12_171 rfl ?_
              refine bv_aload_n dX12_next_285 0 rfl ?_
              refine bv_dup dX12_next_286 rfl ?_
              refine bw_getI hN q_0 dX12_next_287 fl_12_21 rfl ?_
              refine bv_iconst (v := 1) dX12_next_290 (by decide) ?_
              refine bv_iadd dX12_next_291 ?_
              refine bw_putI hN q_0 dX12_next_292 fl_12_21 rfl ?_
              refine bv_goto (tgt := 181) dX12_next_295 (by decide) ?_
              exact ih _ _ _ h K0
          · replace h := bu_f h cc
            refine bv_aload_n dX12_next_231 0 rfl ?_
            refine bv_aload_n dX12_next_232 0 rfl ?_
            refine bw_getL hN q_0 dX12_next_233 fl_12_187 rfl ?_
            refine bv_bipush (v := 8) dX12_next_236 (by decide) ?_
            refine bv_lshl dX12_next_238 ?_
            refine bv_aload_n dX12_next_239 0 rfl ?_
            obtain ⟨v19, p20, h⟩ := bu_bd h
            refine bw_callV (As := []) hN q_0 ⟨_, _, rfl⟩ dX12_next_240 mc_12_164 (c_X12_peek (d := d + 0) hN p20) rfl rfl (Nat.le_of_ble_eq_true rfl) ?_
            refine bv_i2l dX12_next_243 ?_
            refine bv_lor dX12_next_244 ?_
            refine bw_putL hN q_0 dX12_next_245 fl_12_187 rfl ?_
            refine bv_aload_n dX12_next_248 0 rfl ?_
            refine bw_getI hN q_0 dX12_next_249 fl_12_171 rfl ?_
            refine bv_iconst (v := 3) dX12_next_252 (by decide) ?_
            refine bv_icmp_ge (tgt := 275) dX12_next_253 (by decide) (fun cc => ?_) (fun cc => ?_)
            · replace h := bu_t h cc
              refine bv_aload_n dX12_next_275 0 rfl ?_
              refine bv_dup dX12_next_276 rfl ?_
              refine bw_getI hN q_0 dX12_next_277 fl_12_171 rfl ?_
              refine bv_iconst (v := 1) dX12_next_280 (by decide) ?_
              refine bv_iadd dX12_next_281 ?_
              refine bw_putI hN q_0 dX12_next_282 fl_12_171 rfl ?_
              refine bv_aload_n dX12_next_285 0 rfl ?_
              refine bv_dup dX12_next_286 rfl ?_
              refine bw_getI hN q_0 dX12_next_287 fl_12_21 rfl ?_
              refine bv_iconst (v := 1) dX12_next_290 (by decide) ?_
              refine bv_iadd dX12_next_291 ?_
              refine bw_putI hN q_0 dX12_next_292 fl_12_21 rfl ?_
              refine bv_goto (tgt := 181) dX12_next_295 (by decide) ?_
              exact ih _ _ _ h K0
            · replace h := bu_f h cc
              refine bv_aload_n dX12_next_256 0 rfl ?_
              refine bv_bipush (v := 10) dX12_next_257 (by decide) ?_
              refine bv_aload_n dX12_next_259 0 rfl ?_
              refine bw_getI hN q_0 dX12_next_260 fl_12_184 rfl ?_
              refine bv_imul dX12_next_263 ?_
              refine bv_aload_n dX12_next_264 0 rfl ?_
              obtain ⟨v21, p22, h⟩ := bu_bd h
              refine bw_callV (As := []) hN q_0 ⟨_, _, rfl⟩ dX12_next_265 mc_12_164 (c_X12_peek (d := d + 0) hN p22) rfl rfl (Nat.le_of_ble_eq_true rfl) ?_
              refine bv_iadd dX12_next_268 ?_
              refine bv_bipush (v := 48) dX12_next_269 (by decide) ?_
              refine bv_isub dX12_next_271 ?_
              refine bw_putI hN q_0 dX12_next_272 fl_12_184 rfl ?_
              refine bv_aload_n dX12_next_275 0 rfl ?_
              refine bv_dup dX12_next_276 rfl ?_
              refine bw_getI hN q_0 dX12_next_277 fl_12_171 rfl ?_
              refine bv_iconst (v := 1) dX12_next_280 (by decide) ?_
              refine bv_iadd dX12_next_281 ?_
              refine bw_putI hN q_0 dX12_next_282 fl_12_171 rfl ?_
              refine bv_aload_n dX12_next_285 0 rfl ?_
              refine bv_dup dX12_next_286 rfl ?_
              refine bw_getI hN q_0 dX12_next_287 fl_12_21 rfl ?_
              refine bv_iconst (v := 1) dX12_next_290 (by decide) ?_
              refine bv_iadd dX12_next_291 ?_
              refine bw_putI hN q_0 dX12_next_292 fl_12_21 rfl ?_
              refine bv_goto (tgt := 181) dX12_next_295 (by decide) ?_
              exact ih _ _ _ h K0
    · replace h := bu_bf h cc
      refine bv_aload_n dX12_next_191 0 rfl ?_
      obtain ⟨v23, p24, h⟩ := bu_bd h
      refine bw_callV (As := []) hN q_0 ⟨_, _, rfl⟩ dX12_next_192 mc_12_164 (c_X12_peek (d := d + 0) hN p24) rfl rfl (by decide) ?_
      refine bw_callS (As := [.int v23]) dX12_next_195 mc_12_181 (c_X12_isDigit (d := d + 0) hN rfl) rfl rfl (by decide) ?_
      refine bw_ifB_eq (b := (f_X12_isDigit v23)) (tgt := 298) dX12_next_198 (by decide) (fun cc => ?_) (fun cc => ?_)
      · replace h := bu_bf h cc
        obtain rfl := Option.some.inj h
        exact K0 _ rfl
      · replace h := bu_bt h cc
        refine bv_iload_n dX12_next_201 2 rfl ?_
        refine bw_ifB_eq (b := x3) (tgt := 220) dX12_next_202 (by decide) (fun cc => ?_) (fun cc => ?_)
        · replace h := bu_bf h cc
          refine bv_iconst (v := 0) dX12_next_220 (by decide) ?_
          refine bv_istore_n (ls1 := [(0, .ref x0), (2, .int (bm_bi x2)), (3, .int 0)]) dX12_next_221 (by decide) rfl rfl ?_
          refine bv_aload_n dX12_next_222 0 rfl ?_
          refine bw_getI hN q_0 dX12_next_223 fl_12_171 rfl ?_
          refine bv_bipush (v := 7) dX12_next_226 (by decide) ?_
          refine bv_icmp_ge (tgt := 248) dX12_next_228 (by decide) (fun cc => ?_) (fun cc => ?_)
          · replace h := bu_t h cc
            refine bv_aload_n dX12_next_248 0 rfl ?_
            refine bw_getI hN q_0 dX12_next_249 fl_12_171 rfl ?_
            refine bv_iconst (v := 3) dX12_next_252 (by decide) ?_
            refine bv_icmp_ge (tgt := 275) dX12_next_253 (by decide) (fun cc => ?_) (fun cc => ?_)
            · replace h := bu_t h cc
              refine bv_aload_n dX12_next_275 0 rfl ?_
              refine bv_dup dX12_next_276 rfl ?_
              refine bw_getI hN q_0 dX12_next_277 fl_12_171 rfl ?_
              refine bv_iconst (v := 1) dX12_next_280 (by decide) ?_
              refine bv_iadd dX12_next_281 ?_
              refine bw_putI hN q_0 dX12_next_282 fl_12_171 rfl ?_
              refine bv_aload_n dX12_next_285 0 rfl ?_
              refine bv_dup dX12_next_286 rfl ?_
              refine bw_getI hN q_0 dX12_next_287 fl_12_21 rfl ?_
              refine bv_iconst (v := 1) dX12_next_290 (by decide) ?_
              refine bv_iadd dX12_next_291 ?_
              refine bw_putI hN q_0 dX12_next_292 fl_12_21 rfl ?_
              refine bv_goto (tgt := 181) dX12_next_295 (by decide) ?_
              exact ih _ _ _ h K0
            · replace h := bu_f h cc
              refine bv_aload_n dX12_next_256 0 rfl ?_
              refine bv_bipush (v := 10) dX12_next_257 (by decide) ?_
              refine bv_aload_n dX12_next_259 0 rfl ?_
              refine bw_getI hN q_0 dX12_next_260 fl_12_184 rfl ?_
              refine bv_imul dX12_next_263 ?_
              refine bv_aload_n dX12_next_264 0 rfl ?_
              obtain ⟨v25, p26, h⟩ := bu_bd h
              refine bw_callV (As := []) hN q_0 ⟨_, _, rfl⟩ dX12_next_265 mc_12_164 (c_X12_peek (d := d + 0) hN p26) rfl rfl (Nat.le_of_ble_eq_true rfl) ?_
              refine bv_iadd dX12_next_268 ?_
              refine bv_bipush (v := 48) dX12_next_269 (by decide) ?_
              refine bv_isub dX12_next_271 ?_
              refine bw_putI hN q_0 dX12_next_272 fl_12_184 rfl ?_
              refine bv_aload_n dX12_next_275 0 rfl ?_
              refine bv_dup dX12_next_276 rfl ?_
              refine bw_getI hN q_0 dX12_next_277 fl_12_171 rfl ?_
              refine bv_iconst (v := 1) dX12_next_280 (by decide) ?_
              refine bv_iadd dX12_next_281 ?_
              refine bw_putI hN q_0 dX12_next_282 fl_12_171 rfl ?_
              refine bv_aload_n dX12_next_285 0 rfl ?_
              refine bv_dup dX12_next_286 rfl ?_
              refine bw_getI hN q_0 dX12_next_287 fl_12_21 rfl ?_
              refine bv_iconst (v := 1) dX12_next_290 (by decide) ?_
              refine bv_iadd dX12_next_291 ?_
              refine bw_putI hN q_0 dX12_next_292 fl_12_21 rfl ?_
              refine bv_goto (tgt := 181) dX12_next_295 (by decide) ?_
              exact ih _ _ _ h K0
          · replace h := bu_f h cc
            refine bv_aload_n dX12_next_231 0 rfl ?_
            refine bv_aload_n dX12_next_232 0 rfl ?_
            refine bw_getL hN q_0 dX12_next_233 fl_12_187 rfl ?_
            refine bv_bipush (v := 8) dX12_next_236 (by decide) ?_
            refine bv_lshl dX12_next_238 ?_
            refine bv_aload_n dX12_next_239 0 rfl ?_
            obtain ⟨v27, p28, h⟩ := bu_bd h
            refine bw_callV (As := []) hN q_0 ⟨_, _, rfl⟩ dX12_next_240 mc_12_164 (c_X12_peek (d := d + 0) hN p28) rfl rfl (Nat.le_of_ble_eq_true rfl) ?_
            refine bv_i2l dX12_next_243 ?_
            refine bv_lor dX12_next_244 ?_
            refine bw_putL hN q_0 dX12_next_245 fl_12_187 rfl ?_
            refine bv_aload_n dX12_next_248 0 rfl ?_
            refine bw_getI hN q_0 dX12_next_249 fl_12_171 rfl ?_
            refine bv_iconst (v := 3) dX12_next_252 (by decide) ?_
            refine bv_icmp_ge (tgt := 275) dX12_next_253 (by decide) (fun cc => ?_) (fun cc => ?_)
            · replace h := bu_t h cc
              refine bv_aload_n dX12_next_275 0 rfl ?_
              refine bv_dup dX12_next_276 rfl ?_
              refine bw_getI hN q_0 dX12_next_277 fl_12_171 rfl ?_
              refine bv_iconst (v := 1) dX12_next_280 (by decide) ?_
              refine bv_iadd dX12_next_281 ?_
              refine bw_putI hN q_0 dX12_next_282 fl_12_171 rfl ?_
              refine bv_aload_n dX12_next_285 0 rfl ?_
              refine bv_dup dX12_next_286 rfl ?_
              refine bw_getI hN q_0 dX12_next_287 fl_12_21 rfl ?_
              refine bv_iconst (v := 1) dX12_next_290 (by decide) ?_
              refine bv_iadd dX12_next_291 ?_
              refine bw_putI hN q_0 dX12_next_292 fl_12_21 rfl ?_
              refine bv_goto (tgt := 181) dX12_next_295 (by decide) ?_
              exact ih _ _ _ h K0
            · replace h := bu_f h cc
              refine bv_aload_n dX12_next_256 0 rfl ?_
              refine bv_bipush (v := 10) dX12_next_257 (by decide) ?_
              refine bv_aload_n dX12_next_259 0 rfl ?_
              refine bw_getI hN q_0 dX12_next_260 fl_12_184 rfl ?_
              refine bv_imul dX12_next_263 ?_
              refine bv_aload_n dX12_next_264 0 rfl ?_
              obtain ⟨v29, p30, h⟩ := bu_bd h
              refine bw_callV (As := []) hN q_0 ⟨_, _, rfl⟩ dX12_next_265 mc_12_164 (c_X12_peek (d := d + 0) hN p30) rfl rfl (Nat.le_of_ble_eq_true rfl) ?_
              refine bv_iadd dX12_next_268 ?_
              refine bv_bipush (v := 48) dX12_next_269 (by decide) ?_
              refine bv_isub dX12_next_271 ?_
              refine bw_putI hN q_0 dX12_next_272 fl_12_184 rfl ?_
              refine bv_aload_n dX12_next_275 0 rfl ?_
              refine bv_dup dX12_next_276 rfl ?_
              refine bw_getI hN q_0 dX12_next_277 fl_12_171 rfl ?_
              refine bv_iconst (v := 1) dX12_next_280 (by decide) ?_
              refine bv_iadd dX12_next_281 ?_
              refine bw_putI hN q_0 dX12_next_282 fl_12_171 rfl ?_
              refine bv_aload_n dX12_next_285 0 rfl ?_
              refine bv_dup dX12_next_286 rfl ?_
              refine bw_getI hN q_0 dX12_next_287 fl_12_21 rfl ?_
              refine bv_iconst (v := 1) dX12_next_290 (by decide) ?_
              refine bv_iadd dX12_next_291 ?_
              refine bw_putI hN q_0 dX12_next_292 fl_12_21 rfl ?_
              refine bv_goto (tgt := 181) dX12_next_295 (by decide) ?_
              exact ih _ _ _ h K0
        · replace h := bu_bt h cc
          refine bv_aload_n dX12_next_205 0 rfl ?_
          obtain ⟨v31, p32, h⟩ := bu_bd h
          refine bw_callV (As := []) hN q_0 ⟨_, _, rfl⟩ dX12_next_206 mc_12_164 (c_X12_peek (d := d + 0) hN p32) rfl rfl (by decide) ?_
          refine bw_callS (As := [.int v31]) dX12_next_209 mc_12_177 (c_X12_isSmall (d := d + 0) hN rfl) rfl rfl (by decide) ?_
          refine bv_iload_n dX12_next_212 1 rfl ?_
          refine bv_icmp_ne (tgt := 220) dX12_next_213 (by decide) (fun cc => ?_) (fun cc => ?_)
          · replace h := bu_f h cc
            refine bv_iconst (v := 0) dX12_next_220 (by decide) ?_
            refine bv_istore_n (ls1 := [(0, .ref x0), (2, .int (bm_bi x2)), (3, .int 0)]) dX12_next_221 (by decide) rfl rfl ?_
            refine bv_aload_n dX12_next_222 0 rfl ?_
            refine bw_getI hN q_0 dX12_next_223 fl_12_171 rfl ?_
            refine bv_bipush (v := 7) dX12_next_226 (by decide) ?_
            refine bv_icmp_ge (tgt := 248) dX12_next_228 (by decide) (fun cc => ?_) (fun cc => ?_)
            · replace h := bu_t h cc
              refine bv_aload_n dX12_next_248 0 rfl ?_
              refine bw_getI hN q_0 dX12_next_249 fl_12_171 rfl ?_
              refine bv_iconst (v := 3) dX12_next_252 (by decide) ?_
              refine bv_icmp_ge (tgt := 275) dX12_next_253 (by decide) (fun cc => ?_) (fun cc => ?_)
              · replace h := bu_t h cc
                refine bv_aload_n dX12_next_275 0 rfl ?_
                refine bv_dup dX12_next_276 rfl ?_
                refine bw_getI hN q_0 dX12_next_277 fl_12_171 rfl ?_
                refine bv_iconst (v := 1) dX12_next_280 (by decide) ?_
                refine bv_iadd dX12_next_281 ?_
                refine bw_putI hN q_0 dX12_next_282 fl_12_171 rfl ?_
                refine bv_aload_n dX12_next_285 0 rfl ?_
                refine bv_dup dX12_next_286 rfl ?_
                refine bw_getI hN q_0 dX12_next_287 fl_12_21 rfl ?_
                refine bv_iconst (v := 1) dX12_next_290 (by decide) ?_
                refine bv_iadd dX12_next_291 ?_
                refine bw_putI hN q_0 dX12_next_292 fl_12_21 rfl ?_
                refine bv_goto (tgt := 181) dX12_next_295 (by decide) ?_
                exact ih _ _ _ h K0
              · replace h := bu_f h cc
                refine bv_aload_n dX12_next_256 0 rfl ?_
                refine bv_bipush (v := 10) dX12_next_257 (by decide) ?_
                refine bv_aload_n dX12_next_259 0 rfl ?_
                refine bw_getI hN q_0 dX12_next_260 fl_12_184 rfl ?_
                refine bv_imul dX12_next_263 ?_
                refine bv_aload_n dX12_next_264 0 rfl ?_
                obtain ⟨v33, p34, h⟩ := bu_bd h
                refine bw_callV (As := []) hN q_0 ⟨_, _, rfl⟩ dX12_next_265 mc_12_164 (c_X12_peek (d := d + 0) hN p34) rfl rfl (Nat.le_of_ble_eq_true rfl) ?_
                refine bv_iadd dX12_next_268 ?_
                refine bv_bipush (v := 48) dX12_next_269 (by decide) ?_
                refine bv_isub dX12_next_271 ?_
                refine bw_putI hN q_0 dX12_next_272 fl_12_184 rfl ?_
                refine bv_aload_n dX12_next_275 0 rfl ?_
                refine bv_dup dX12_next_276 rfl ?_
                refine bw_getI hN q_0 dX12_next_277 fl_12_171 rfl ?_
                refine bv_iconst (v := 1) dX12_next_280 (by decide) ?_
                refine bv_iadd dX12_next_281 ?_
                refine bw_putI hN q_0 dX12_next_282 fl_12_171 rfl ?_
                refine bv_aload_n dX12_next_285 0 rfl ?_
                refine bv_dup dX12_next_286 rfl ?_
                refine bw_getI hN q_0 dX12_next_287 fl_12_21 rfl ?_
                refine bv_iconst (v := 1) dX12_next_290 (by decide) ?_
                refine bv_iadd dX12_next_291 ?_
                refine bw_putI hN q_0 dX12_next_292 fl_12_21 rfl ?_
                refine bv_goto (tgt := 181) dX12_next_295 (by decide) ?_
                exact ih _ _ _ h K0
            · replace h := bu_f h cc
              refine bv_aload_n dX12_next_231 0 rfl ?_
              refine bv_aload_n dX12_next_232 0 rfl ?_
              refine bw_getL hN q_0 dX12_next_233 fl_12_187 rfl ?_
              refine bv_bipush (v := 8) dX12_next_236 (by decide) ?_
              refine bv_lshl dX12_next_238 ?_
              refine bv_aload_n dX12_next_239 0 rfl ?_
              obtain ⟨v35, p36, h⟩ := bu_bd h
              refine bw_callV (As := []) hN q_0 ⟨_, _, rfl⟩ dX12_next_240 mc_12_164 (c_X12_peek (d := d + 0) hN p36) rfl rfl (Nat.le_of_ble_eq_true rfl) ?_
              refine bv_i2l dX12_next_243 ?_
              refine bv_lor dX12_next_244 ?_
              refine bw_putL hN q_0 dX12_next_245 fl_12_187 rfl ?_
              refine bv_aload_n dX12_next_248 0 rfl ?_
              refine bw_getI hN q_0 dX12_next_249 fl_12_171 rfl ?_
              refine bv_iconst (v := 3) dX12_next_252 (by decide) ?_
              refine bv_icmp_ge (tgt := 275) dX12_next_253 (by decide) (fun cc => ?_) (fun cc => ?_)
              · replace h := bu_t h cc
                refine bv_aload_n dX12_next_275 0 rfl ?_
                refine bv_dup dX12_next_276 rfl ?_
                refine bw_getI hN q_0 dX12_next_277 fl_12_171 rfl ?_
                refine bv_iconst (v := 1) dX12_next_280 (by decide) ?_
                refine bv_iadd dX12_next_281 ?_
                refine bw_putI hN q_0 dX12_next_282 fl_12_171 rfl ?_
                refine bv_aload_n dX12_next_285 0 rfl ?_
                refine bv_dup dX12_next_286 rfl ?_
                refine bw_getI hN q_0 dX12_next_287 fl_12_21 rfl ?_
                refine bv_iconst (v := 1) dX12_next_290 (by decide) ?_
                refine bv_iadd dX12_next_291 ?_
                refine bw_putI hN q_0 dX12_next_292 fl_12_21 rfl ?_
                refine bv_goto (tgt := 181) dX12_next_295 (by decide) ?_
                exact ih _ _ _ h K0
              · replace h := bu_f h cc
                refine bv_aload_n dX12_next_256 0 rfl ?_
                refine bv_bipush (v := 10) dX12_next_257 (by decide) ?_
                refine bv_aload_n dX12_next_259 0 rfl ?_
                refine bw_getI hN q_0 dX12_next_260 fl_12_184 rfl ?_
                refine bv_imul dX12_next_263 ?_
                refine bv_aload_n dX12_next_264 0 rfl ?_
                obtain ⟨v37, p38, h⟩ := bu_bd h
                refine bw_callV (As := []) hN q_0 ⟨_, _, rfl⟩ dX12_next_265 mc_12_164 (c_X12_peek (d := d + 0) hN p38) rfl rfl (Nat.le_of_ble_eq_true rfl) ?_
                refine bv_iadd dX12_next_268 ?_
                refine bv_bipush (v := 48) dX12_next_269 (by decide) ?_
                refine bv_isub dX12_next_271 ?_
                refine bw_putI hN q_0 dX12_next_272 fl_12_184 rfl ?_
                refine bv_aload_n dX12_next_275 0 rfl ?_
                refine bv_dup dX12_next_276 rfl ?_
                refine bw_getI hN q_0 dX12_next_277 fl_12_171 rfl ?_
                refine bv_iconst (v := 1) dX12_next_280 (by decide) ?_
                refine bv_iadd dX12_next_281 ?_
                refine bw_putI hN q_0 dX12_next_282 fl_12_171 rfl ?_
                refine bv_aload_n dX12_next_285 0 rfl ?_
                refine bv_dup dX12_next_286 rfl ?_
                refine bw_getI hN q_0 dX12_next_287 fl_12_21 rfl ?_
                refine bv_iconst (v := 1) dX12_next_290 (by decide) ?_
                refine bv_iadd dX12_next_291 ?_
                refine bw_putI hN q_0 dX12_next_292 fl_12_21 rfl ?_
                refine bv_goto (tgt := 181) dX12_next_295 (by decide) ?_
                exact ih _ _ _ h K0
          · replace h := bu_t h cc
            refine bv_iconst (v := 1) dX12_next_216 (by decide) ?_
            refine bv_goto (tgt := 221) dX12_next_217 (by decide) ?_
            refine bv_istore_n (ls1 := [(0, .ref x0), (2, .int (bm_bi x2)), (3, .int 1)]) dX12_next_221 (by decide) rfl rfl ?_
            refine bv_aload_n dX12_next_222 0 rfl ?_
            refine bw_getI hN q_0 dX12_next_223 fl_12_171 rfl ?_
            refine bv_bipush (v := 7) dX12_next_226 (by decide) ?_
            refine bv_icmp_ge (tgt := 248) dX12_next_228 (by decide) (fun cc => ?_) (fun cc => ?_)
            · replace h := bu_t h cc
              refine bv_aload_n dX12_next_248 0 rfl ?_
              refine bw_getI hN q_0 dX12_next_249 fl_12_171 rfl ?_
              refine bv_iconst (v := 3) dX12_next_252 (by decide) ?_
              refine bv_icmp_ge (tgt := 275) dX12_next_253 (by decide) (fun cc => ?_) (fun cc => ?_)
              · replace h := bu_t h cc
                refine bv_aload_n dX12_next_275 0 rfl ?_
                refine bv_dup dX12_next_276 rfl ?_
                refine bw_getI hN q_0 dX12_next_277 fl_12_171 rfl ?_
                refine bv_iconst (v := 1) dX12_next_280 (by decide) ?_
                refine bv_iadd dX12_next_281 ?_
                refine bw_putI hN q_0 dX12_next_282 fl_12_171 rfl ?_
                refine bv_aload_n dX12_next_285 0 rfl ?_
                refine bv_dup dX12_next_286 rfl ?_
                refine bw_getI hN q_0 dX12_next_287 fl_12_21 rfl ?_
                refine bv_iconst (v := 1) dX12_next_290 (by decide) ?_
                refine bv_iadd dX12_next_291 ?_
                refine bw_putI hN q_0 dX12_next_292 fl_12_21 rfl ?_
                refine bv_goto (tgt := 181) dX12_next_295 (by decide) ?_
                exact ih _ _ _ h K0
              · replace h := bu_f h cc
                refine bv_aload_n dX12_next_256 0 rfl ?_
                refine bv_bipush (v := 10) dX12_next_257 (by decide) ?_
                refine bv_aload_n dX12_next_259 0 rfl ?_
                refine bw_getI hN q_0 dX12_next_260 fl_12_184 rfl ?_
                refine bv_imul dX12_next_263 ?_
                refine bv_aload_n dX12_next_264 0 rfl ?_
                obtain ⟨v39, p40, h⟩ := bu_bd h
                refine bw_callV (As := []) hN q_0 ⟨_, _, rfl⟩ dX12_next_265 mc_12_164 (c_X12_peek (d := d + 0) hN p40) rfl rfl (Nat.le_of_ble_eq_true rfl) ?_
                refine bv_iadd dX12_next_268 ?_
                refine bv_bipush (v := 48) dX12_next_269 (by decide) ?_
                refine bv_isub dX12_next_271 ?_
                refine bw_putI hN q_0 dX12_next_272 fl_12_184 rfl ?_
                refine bv_aload_n dX12_next_275 0 rfl ?_
                refine bv_dup dX12_next_276 rfl ?_
                refine bw_getI hN q_0 dX12_next_277 fl_12_171 rfl ?_
                refine bv_iconst (v := 1) dX12_next_280 (by decide) ?_
                refine bv_iadd dX12_next_281 ?_
                refine bw_putI hN q_0 dX12_next_282 fl_12_171 rfl ?_
                refine bv_aload_n dX12_next_285 0 rfl ?_
                refine bv_dup dX12_next_286 rfl ?_
                refine bw_getI hN q_0 dX12_next_287 fl_12_21 rfl ?_
                refine bv_iconst (v := 1) dX12_next_290 (by decide) ?_
                refine bv_iadd dX12_next_291 ?_
                refine bw_putI hN q_0 dX12_next_292 fl_12_21 rfl ?_
                refine bv_goto (tgt := 181) dX12_next_295 (by decide) ?_
                exact ih _ _ _ h K0
            · replace h := bu_f h cc
              refine bv_aload_n dX12_next_231 0 rfl ?_
              refine bv_aload_n dX12_next_232 0 rfl ?_
              refine bw_getL hN q_0 dX12_next_233 fl_12_187 rfl ?_
              refine bv_bipush (v := 8) dX12_next_236 (by decide) ?_
              refine bv_lshl dX12_next_238 ?_
              refine bv_aload_n dX12_next_239 0 rfl ?_
              obtain ⟨v41, p42, h⟩ := bu_bd h
              refine bw_callV (As := []) hN q_0 ⟨_, _, rfl⟩ dX12_next_240 mc_12_164 (c_X12_peek (d := d + 0) hN p42) rfl rfl (Nat.le_of_ble_eq_true rfl) ?_
              refine bv_i2l dX12_next_243 ?_
              refine bv_lor dX12_next_244 ?_
              refine bw_putL hN q_0 dX12_next_245 fl_12_187 rfl ?_
              refine bv_aload_n dX12_next_248 0 rfl ?_
              refine bw_getI hN q_0 dX12_next_249 fl_12_171 rfl ?_
              refine bv_iconst (v := 3) dX12_next_252 (by decide) ?_
              refine bv_icmp_ge (tgt := 275) dX12_next_253 (by decide) (fun cc => ?_) (fun cc => ?_)
              · replace h := bu_t h cc
                refine bv_aload_n dX12_next_275 0 rfl ?_
                refine bv_dup dX12_next_276 rfl ?_
                refine bw_getI hN q_0 dX12_next_277 fl_12_171 rfl ?_
                refine bv_iconst (v := 1) dX12_next_280 (by decide) ?_
                refine bv_iadd dX12_next_281 ?_
                refine bw_putI hN q_0 dX12_next_282 fl_12_171 rfl ?_
                refine bv_aload_n dX12_next_285 0 rfl ?_
                refine bv_dup dX12_next_286 rfl ?_
                refine bw_getI hN q_0 dX12_next_287 fl_12_21 rfl ?_
                refine bv_iconst (v := 1) dX12_next_290 (by decide) ?_
                refine bv_iadd dX12_next_291 ?_
                refine bw_putI hN q_0 dX12_next_292 fl_12_21 rfl ?_
                refine bv_goto (tgt := 181) dX12_next_295 (by decide) ?_
                exact ih _ _ _ h K0
              · replace h := bu_f h cc
                refine bv_aload_n dX12_next_256 0 rfl ?_
                refine bv_bipush (v := 10) dX12_next_257 (by decide) ?_
                refine bv_aload_n dX12_next_259 0 rfl ?_
                refine bw_getI hN q_0 dX12_next_260 fl_12_184 rfl ?_
                refine bv_imul dX12_next_263 ?_
                refine bv_aload_n dX12_next_264 0 rfl ?_
                obtain ⟨v43, p44, h⟩ := bu_bd h
                refine bw_callV (As := []) hN q_0 ⟨_, _, rfl⟩ dX12_next_265 mc_12_164 (c_X12_peek (d := d + 0) hN p44) rfl rfl (Nat.le_of_ble_eq_true rfl) ?_
                refine bv_iadd dX12_next_268 ?_
                refine bv_bipush (v := 48) dX12_next_269 (by decide) ?_
                refine bv_isub dX12_next_271 ?_
                refine bw_putI hN q_0 dX12_next_272 fl_12_184 rfl ?_
                refine bv_aload_n dX12_next_275 0 rfl ?_
                refine bv_dup dX12_next_276 rfl ?_
                refine bw_getI hN q_0 dX12_next_277 fl_12_171 rfl ?_
                refine bv_iconst (v := 1) dX12_next_280 (by decide) ?_
                refine bv_iadd dX12_next_281 ?_
                refine bw_putI hN q_0 dX12_next_282 fl_12_171 rfl ?_
                refine bv_aload_n dX12_next_285 0 rfl ?_
                refine bv_dup dX12_next_286 rfl ?_
                refine bw_getI hN q_0 dX12_next_287 fl_12_21 rfl ?_
                refine bv_iconst (v := 1) dX12_next_290 (by decide) ?_
                refine bv_iadd dX12_next_291 ?_
                refine bw_putI hN q_0 dX12_next_292 fl_12_21 rfl ?_
                refine bv_goto (tgt := 181) dX12_next_295 (by decide) ?_
                exact ih _ _ _ h K0
def f_X12_next (M : bm_M) (x0 : Nat) : Option (bm_M) := ((f_X12_next_l0 x0 1000 M).bind fun y3 => (if bm_io x0 11 then (if ((bm_sI (bm_sI y3 x0 12 (y3.1 x0 4)) x0 13 0).1 x0 3) ≤ ((bm_sI (bm_sI y3 x0 12 (y3.1 x0 4)) x0 13 0).1 x0 5) then ((f_X12_peek (bm_sI (bm_sI y3 x0 12 (y3.1 x0 4)) x0 13 0) x0).bind fun v5 => (if 0 ≤ v5 then (if (f_X12_isSmall v5) = true then ((f_X12_next_l181 x0 (f_X12_isSmall v5) 1000 true (bm_sI (bm_sL (bm_sI (bm_sI y3 x0 12 (y3.1 x0 4)) x0 13 0) x0 17 0) x0 14 0)).bind fun y9 => (if y9.1 = true then (if (f_X12_isSmall v5) = true then (if (y9.2.1 x0 13) ≤ 7 then (if (f_X12_isSmall v5) = true then some (bm_sI y9.2 x0 11 1) else some (bm_sI y9.2 x0 11 2)) else some (bm_sI y9.2 x0 11 4)) else (if (y9.2.1 x0 13) ≤ 3 then (if (f_X12_isSmall v5) = true then some (bm_sI y9.2 x0 11 1) else some (bm_sI y9.2 x0 11 2)) else some (bm_sI y9.2 x0 11 4))) else some (bm_sI y9.2 x0 11 4))) else (if (f_X12_isDigit v5) = true then ((f_X12_next_l181 x0 (f_X12_isSmall v5) 1000 true (bm_sI (bm_sL (bm_sI (bm_sI y3 x0 12 (y3.1 x0 4)) x0 13 0) x0 17 0) x0 14 0)).bind fun y12 => (if y12.1 = true then (if (f_X12_isSmall v5) = true then (if (y12.2.1 x0 13) ≤ 7 then (if (f_X12_isSmall v5) = true then some (bm_sI y12.2 x0 11 1) else some (bm_sI y12.2 x0 11 2)) else some (bm_sI y12.2 x0 11 4)) else (if (y12.2.1 x0 13) ≤ 3 then (if (f_X12_isSmall v5) = true then some (bm_sI y12.2 x0 11 1) else some (bm_sI y12.2 x0 11 2)) else some (bm_sI y12.2 x0 11 4))) else some (bm_sI y12.2 x0 11 4))) else (if v5 = 59 then some (bm_sI (bm_sI (bm_sI (bm_sI (bm_sI y3 x0 12 (y3.1 x0 4)) x0 13 0) x0 11 3) x0 14 v5) x0 4 (((bm_sI (bm_sI (bm_sI (bm_sI y3 x0 12 (y3.1 x0 4)) x0 13 0) x0 11 3) x0 14 v5).1 x0 4) + 1)) else (if v5 = 40 then some (bm_sI (bm_sI (bm_sI (bm_sI (bm_sI y3 x0 12 (y3.1 x0 4)) x0 13 0) x0 11 3) x0 14 v5) x0 4 (((bm_sI (bm_sI (bm_sI (bm_sI y3 x0 12 (y3.1 x0 4)) x0 13 0) x0 11 3) x0 14 v5).1 x0 4) + 1)) else (if v5 = 41 then some (bm_sI (bm_sI (bm_sI (bm_sI (bm_sI y3 x0 12 (y3.1 x0 4)) x0 13 0) x0 11 3) x0 14 v5) x0 4 (((bm_sI (bm_sI (bm_sI (bm_sI y3 x0 12 (y3.1 x0 4)) x0 13 0) x0 11 3) x0 14 v5).1 x0 4) + 1)) else (if v5 < 60 then some (bm_sI (bm_sI (bm_sI (bm_sI (bm_sI y3 x0 12 (y3.1 x0 4)) x0 13 0) x0 11 4) x0 14 v5) x0 4 (((bm_sI (bm_sI (bm_sI (bm_sI y3 x0 12 (y3.1 x0 4)) x0 13 0) x0 11 4) x0 14 v5).1 x0 4) + 1)) else (if 62 < v5 then some (bm_sI (bm_sI (bm_sI (bm_sI (bm_sI y3 x0 12 (y3.1 x0 4)) x0 13 0) x0 11 4) x0 14 v5) x0 4 (((bm_sI (bm_sI (bm_sI (bm_sI y3 x0 12 (y3.1 x0 4)) x0 13 0) x0 11 4) x0 14 v5).1 x0 4) + 1)) else some (bm_sI (bm_sI (bm_sI (bm_sI (bm_sI y3 x0 12 (y3.1 x0 4)) x0 13 0) x0 11 3) x0 14 v5) x0 4 (((bm_sI (bm_sI (bm_sI (bm_sI y3 x0 12 (y3.1 x0 4)) x0 13 0) x0 11 3) x0 14 v5).1 x0 4) + 1))))))))) else some (bm_sI (bm_sI (bm_sI y3 x0 12 (y3.1 x0 4)) x0 13 0) x0 11 0))) else (if ((bm_sI (bm_sI y3 x0 12 (y3.1 x0 4)) x0 13 0).1 x0 4) < ((bm_sI (bm_sI y3 x0 12 (y3.1 x0 4)) x0 13 0).1 x0 5) then ((f_X12_peek (bm_sI (bm_sI y3 x0 12 (y3.1 x0 4)) x0 13 0) x0).bind fun v13 => (if 0 ≤ v13 then (if (f_X12_isSmall v13) = true then ((f_X12_next_l181 x0 (f_X12_isSmall v13) 1000 true (bm_sI (bm_sL (bm_sI (bm_sI y3 x0 12 (y3.1 x0 4)) x0 13 0) x0 17 0) x0 14 0)).bind fun y17 => (if y17.1 = true then (if (f_X12_isSmall v13) = true then (if (y17.2.1 x0 13) ≤ 7 then (if (f_X12_isSmall v13) = true then some (bm_sI y17.2 x0 11 1) else some (bm_sI y17.2 x0 11 2)) else some (bm_sI y17.2 x0 11 4)) else (if (y17.2.1 x0 13) ≤ 3 then (if (f_X12_isSmall v13) = true then some (bm_sI y17.2 x0 11 1) else some (bm_sI y17.2 x0 11 2)) else some (bm_sI y17.2 x0 11 4))) else some (bm_sI y17.2 x0 11 4))) else (if (f_X12_isDigit v13) = true then ((f_X12_next_l181 x0 (f_X12_isSmall v13) 1000 true (bm_sI (bm_sL (bm_sI (bm_sI y3 x0 12 (y3.1 x0 4)) x0 13 0) x0 17 0) x0 14 0)).bind fun y20 => (if y20.1 = true then (if (f_X12_isSmall v13) = true then (if (y20.2.1 x0 13) ≤ 7 then (if (f_X12_isSmall v13) = true then some (bm_sI y20.2 x0 11 1) else some (bm_sI y20.2 x0 11 2)) else some (bm_sI y20.2 x0 11 4)) else (if (y20.2.1 x0 13) ≤ 3 then (if (f_X12_isSmall v13) = true then some (bm_sI y20.2 x0 11 1) else some (bm_sI y20.2 x0 11 2)) else some (bm_sI y20.2 x0 11 4))) else some (bm_sI y20.2 x0 11 4))) else (if v13 = 59 then some (bm_sI (bm_sI (bm_sI (bm_sI (bm_sI y3 x0 12 (y3.1 x0 4)) x0 13 0) x0 11 3) x0 14 v13) x0 4 (((bm_sI (bm_sI (bm_sI (bm_sI y3 x0 12 (y3.1 x0 4)) x0 13 0) x0 11 3) x0 14 v13).1 x0 4) + 1)) else (if v13 = 40 then some (bm_sI (bm_sI (bm_sI (bm_sI (bm_sI y3 x0 12 (y3.1 x0 4)) x0 13 0) x0 11 3) x0 14 v13) x0 4 (((bm_sI (bm_sI (bm_sI (bm_sI y3 x0 12 (y3.1 x0 4)) x0 13 0) x0 11 3) x0 14 v13).1 x0 4) + 1)) else (if v13 = 41 then some (bm_sI (bm_sI (bm_sI (bm_sI (bm_sI y3 x0 12 (y3.1 x0 4)) x0 13 0) x0 11 3) x0 14 v13) x0 4 (((bm_sI (bm_sI (bm_sI (bm_sI y3 x0 12 (y3.1 x0 4)) x0 13 0) x0 11 3) x0 14 v13).1 x0 4) + 1)) else (if v13 < 60 then some (bm_sI (bm_sI (bm_sI (bm_sI (bm_sI y3 x0 12 (y3.1 x0 4)) x0 13 0) x0 11 4) x0 14 v13) x0 4 (((bm_sI (bm_sI (bm_sI (bm_sI y3 x0 12 (y3.1 x0 4)) x0 13 0) x0 11 4) x0 14 v13).1 x0 4) + 1)) else (if 62 < v13 then some (bm_sI (bm_sI (bm_sI (bm_sI (bm_sI y3 x0 12 (y3.1 x0 4)) x0 13 0) x0 11 4) x0 14 v13) x0 4 (((bm_sI (bm_sI (bm_sI (bm_sI y3 x0 12 (y3.1 x0 4)) x0 13 0) x0 11 4) x0 14 v13).1 x0 4) + 1)) else some (bm_sI (bm_sI (bm_sI (bm_sI (bm_sI y3 x0 12 (y3.1 x0 4)) x0 13 0) x0 11 3) x0 14 v13) x0 4 (((bm_sI (bm_sI (bm_sI (bm_sI y3 x0 12 (y3.1 x0 4)) x0 13 0) x0 11 3) x0 14 v13).1 x0 4) + 1))))))))) else some (bm_sI (bm_sI (bm_sI y3 x0 12 (y3.1 x0 4)) x0 13 0) x0 11 0))) else some (bm_sI (bm_sI (bm_sI (bm_sI y3 x0 12 (y3.1 x0 4)) x0 13 0) x0 12 ((bm_sI (bm_sI y3 x0 12 (y3.1 x0 4)) x0 13 0).1 x0 5)) x0 11 4))) else none))
set_option maxHeartbeats 4000000 in
set_option maxRecDepth 100000 in
theorem c_X12_next {L : bm_L} {d n : Nat} {M : bm_M} {x0 : Nat} {v : bm_M} (hN : 181 ≤ n) (h : f_X12_next M x0 = some v) : bm_C L m_X12_next (d + 1) n n [.ref x0] M (fun r M' => r = none ∧ M' = v) := by
  refine bm_C.ofV (by decide) (Nat.le_of_ble_eq_true rfl) ?_
  show bm_V L m_X12_next (d + 1) n n n 0 [(0, .ref x0)] [] M _
  unfold f_X12_next at h
  obtain ⟨r1, p2, h⟩ := bu_bd h
  refine v_X12_next_l0 hN 1000 _ _ p2 (fun y3 hy => ?_)
  · subst hy
    refine bv_aload_n dX12_next_31 0 rfl ?_
    refine bv_aload_n dX12_next_32 0 rfl ?_
    obtain ⟨q4, h⟩ := bu_io h
    refine bw_getI hN q4 dX12_next_33 fl_12_21 rfl ?_
    refine bw_putI hN q4 dX12_next_36 fl_12_168 rfl ?_
    refine bv_aload_n dX12_next_39 0 rfl ?_
    refine bv_iconst (v := 0) dX12_next_40 (by decide) ?_
    refine bw_putI hN q4 dX12_next_41 fl_12_171 rfl ?_
    refine bv_aload_n dX12_next_44 0 rfl ?_
    refine bw_getI hN q4 dX12_next_45 fl_12_18 rfl ?_
    refine bv_aload_n dX12_next_48 0 rfl ?_
    refine bw_getI hN q4 dX12_next_49 fl_12_24 rfl ?_
    refine bv_icmp_le (tgt := 80) dX12_next_52 (by decide) (fun cc => ?_) (fun cc => ?_)
    · replace h := bu_t h cc
      refine bv_aload_n dX12_next_80 0 rfl ?_
      obtain ⟨v5, p6, h⟩ := bu_bd h
      refine bw_callV (As := []) hN q4 ⟨_, _, rfl⟩ dX12_next_81 mc_12_164 (c_X12_peek (d := d + 0) hN p6) rfl rfl (by decide) ?_
      refine bv_istore_n (ls1 := [(0, .ref x0), (1, .int v5)]) dX12_next_84 (by decide) rfl rfl ?_
      refine bv_iload_n dX12_next_85 1 rfl ?_
      refine bv_if_ge (tgt := 95) dX12_next_86 (by decide) (fun cc => ?_) (fun cc => ?_)
      · replace h := bu_t h cc
        refine bv_iload_n dX12_next_95 1 rfl ?_
        refine bw_callS (As := [.int v5]) dX12_next_96 mc_12_177 (c_X12_isSmall (d := d + 0) hN rfl) rfl rfl (by decide) ?_
        refine bw_ifB_ne (b := (f_X12_isSmall v5)) (tgt := 164) dX12_next_99 (by decide) (fun cc => ?_) (fun cc => ?_)
        · replace h := bu_bt h cc
          refine bv_iload_n dX12_next_164 1 rfl ?_
          refine bw_callS (As := [.int v5]) dX12_next_165 mc_12_177 (c_X12_isSmall (d := d + 0) hN rfl) rfl rfl (by decide) ?_
          refine bv_istore_n (ls1 := [(0, .ref x0), (1, .int v5), (2, .int (bm_bi (f_X12_isSmall v5)))]) dX12_next_168 (by decide) rfl rfl ?_
          refine bv_iconst (v := 1) dX12_next_169 (by decide) ?_
          refine bv_istore_n (ls1 := [(0, .ref x0), (1, .int v5), (2, .int (bm_bi (f_X12_isSmall v5))), (3, .int 1)]) dX12_next_170 (by decide) rfl rfl ?_
          refine bv_aload_n dX12_next_171 0 rfl ?_
          refine bv_lconst (v := 0) dX12_next_172 (by decide) ?_
          refine bw_putL hN q4 dX12_next_173 fl_12_187 rfl ?_
          refine bv_aload_n dX12_next_176 0 rfl ?_
          refine bv_iconst (v := 0) dX12_next_177 (by decide) ?_
          refine bw_putI hN q4 dX12_next_178 fl_12_184 rfl ?_
          refine bw_ls (ls1 := [(0, .ref x0), (2, .int (bm_bi (f_X12_isSmall v5))), (3, .int 1)]) [0, 2, 3] rfl ?_
          obtain ⟨r7, p8, h⟩ := bu_bd h
          refine v_X12_next_l181 hN q4 1000 _ _ _ p8 (fun y9 hy => ?_)
          · subst hy
            refine bv_aload_n dX12_next_298 0 rfl ?_
            refine bv_iload_n dX12_next_299 2 rfl ?_
            refine bw_ifB_eq (b := y9.1) (tgt := 320) dX12_next_300 (by decide) (fun cc => ?_) (fun cc => ?_)
            · replace h := bu_bf h cc
              refine bv_iconst (v := 4) dX12_next_320 (by decide) ?_
              refine bv_goto (tgt := 333) dX12_next_321 (by decide) ?_
              refine bw_putI hN q4 dX12_next_333 fl_12_174 rfl ?_
              obtain rfl := Option.some.inj h
              exact bv_vret dX12_next_336 rfl ⟨rfl, rfl⟩
            · replace h := bu_bt h cc
              refine bv_aload_n dX12_next_303 0 rfl ?_
              refine bw_getI hN q4 dX12_next_304 fl_12_171 rfl ?_
              refine bv_iload_n dX12_next_307 1 rfl ?_
              refine bw_ifB_eq (b := (f_X12_isSmall v5)) (tgt := 316) dX12_next_308 (by decide) (fun cc => ?_) (fun cc => ?_)
              · replace h := bu_bf h cc
                refine bv_iconst (v := 3) dX12_next_316 (by decide) ?_
                refine bv_icmp_le (tgt := 324) dX12_next_317 (by decide) (fun cc => ?_) (fun cc => ?_)
                · replace h := bu_t h cc
                  refine bv_iload_n dX12_next_324 1 rfl ?_
                  refine bw_ifB_eq (b := (f_X12_isSmall v5)) (tgt := 332) dX12_next_325 (by decide) (fun cc => ?_) (fun cc => ?_)
                  · replace h := bu_bf h cc
                    refine bv_iconst (v := 2) dX12_next_332 (by decide) ?_
                    refine bw_putI hN q4 dX12_next_333 fl_12_174 rfl ?_
                    obtain rfl := Option.some.inj h
                    exact bv_vret dX12_next_336 rfl ⟨rfl, rfl⟩
                  · replace h := bu_bt h cc
                    refine bv_iconst (v := 1) dX12_next_328 (by decide) ?_
                    refine bv_goto (tgt := 333) dX12_next_329 (by decide) ?_
                    refine bw_putI hN q4 dX12_next_333 fl_12_174 rfl ?_
                    obtain rfl := Option.some.inj h
                    exact bv_vret dX12_next_336 rfl ⟨rfl, rfl⟩
                · replace h := bu_f h cc
                  refine bv_iconst (v := 4) dX12_next_320 (by decide) ?_
                  refine bv_goto (tgt := 333) dX12_next_321 (by decide) ?_
                  refine bw_putI hN q4 dX12_next_333 fl_12_174 rfl ?_
                  obtain rfl := Option.some.inj h
                  exact bv_vret dX12_next_336 rfl ⟨rfl, rfl⟩
              · replace h := bu_bt h cc
                refine bv_bipush (v := 7) dX12_next_311 (by decide) ?_
                refine bv_goto (tgt := 317) dX12_next_313 (by decide) ?_
                refine bv_icmp_le (tgt := 324) dX12_next_317 (by decide) (fun cc => ?_) (fun cc => ?_)
                · replace h := bu_t h cc
                  refine bv_iload_n dX12_next_324 1 rfl ?_
                  refine bw_ifB_eq (b := (f_X12_isSmall v5)) (tgt := 332) dX12_next_325 (by decide) (fun cc => ?_) (fun cc => ?_)
                  · replace h := bu_bf h cc
                    refine bv_iconst (v := 2) dX12_next_332 (by decide) ?_
                    refine bw_putI hN q4 dX12_next_333 fl_12_174 rfl ?_
                    obtain rfl := Option.some.inj h
                    exact bv_vret dX12_next_336 rfl ⟨rfl, rfl⟩
                  · replace h := bu_bt h cc
                    refine bv_iconst (v := 1) dX12_next_328 (by decide) ?_
                    refine bv_goto (tgt := 333) dX12_next_329 (by decide) ?_
                    refine bw_putI hN q4 dX12_next_333 fl_12_174 rfl ?_
                    obtain rfl := Option.some.inj h
                    exact bv_vret dX12_next_336 rfl ⟨rfl, rfl⟩
                · replace h := bu_f h cc
                  refine bv_iconst (v := 4) dX12_next_320 (by decide) ?_
                  refine bv_goto (tgt := 333) dX12_next_321 (by decide) ?_
                  refine bw_putI hN q4 dX12_next_333 fl_12_174 rfl ?_
                  obtain rfl := Option.some.inj h
                  exact bv_vret dX12_next_336 rfl ⟨rfl, rfl⟩
        · replace h := bu_bf h cc
          refine bv_iload_n dX12_next_102 1 rfl ?_
          refine bw_callS (As := [.int v5]) dX12_next_103 mc_12_181 (c_X12_isDigit (d := d + 0) hN rfl) rfl rfl (by decide) ?_
          refine bw_ifB_ne (b := (f_X12_isDigit v5)) (tgt := 164) dX12_next_106 (by decide) (fun cc => ?_) (fun cc => ?_)
          · replace h := bu_bt h cc
            refine bv_iload_n dX12_next_164 1 rfl ?_
            refine bw_callS (As := [.int v5]) dX12_next_165 mc_12_177 (c_X12_isSmall (d := d + 0) hN rfl) rfl rfl (by decide) ?_
            refine bv_istore_n (ls1 := [(0, .ref x0), (1, .int v5), (2, .int (bm_bi (f_X12_isSmall v5)))]) dX12_next_168 (by decide) rfl rfl ?_
            refine bv_iconst (v := 1) dX12_next_169 (by decide) ?_
            refine bv_istore_n (ls1 := [(0, .ref x0), (1, .int v5), (2, .int (bm_bi (f_X12_isSmall v5))), (3, .int 1)]) dX12_next_170 (by decide) rfl rfl ?_
            refine bv_aload_n dX12_next_171 0 rfl ?_
            refine bv_lconst (v := 0) dX12_next_172 (by decide) ?_
            refine bw_putL hN q4 dX12_next_173 fl_12_187 rfl ?_
            refine bv_aload_n dX12_next_176 0 rfl ?_
            refine bv_iconst (v := 0) dX12_next_177 (by decide) ?_
            refine bw_putI hN q4 dX12_next_178 fl_12_184 rfl ?_
            refine bw_ls (ls1 := [(0, .ref x0), (2, .int (bm_bi (f_X12_isSmall v5))), (3, .int 1)]) [0, 2, 3] rfl ?_
            obtain ⟨r10, p11, h⟩ := bu_bd h
            refine v_X12_next_l181 hN q4 1000 _ _ _ p11 (fun y12 hy => ?_)
            · subst hy
              refine bv_aload_n dX12_next_298 0 rfl ?_
              refine bv_iload_n dX12_next_299 2 rfl ?_
              refine bw_ifB_eq (b := y12.1) (tgt := 320) dX12_next_300 (by decide) (fun cc => ?_) (fun cc => ?_)
              · replace h := bu_bf h cc
                refine bv_iconst (v := 4) dX12_next_320 (by decide) ?_
                refine bv_goto (tgt := 333) dX12_next_321 (by decide) ?_
                refine bw_putI hN q4 dX12_next_333 fl_12_174 rfl ?_
                obtain rfl := Option.some.inj h
                exact bv_vret dX12_next_336 rfl ⟨rfl, rfl⟩
              · replace h := bu_bt h cc
                refine bv_aload_n dX12_next_303 0 rfl ?_
                refine bw_getI hN q4 dX12_next_304 fl_12_171 rfl ?_
                refine bv_iload_n dX12_next_307 1 rfl ?_
                refine bw_ifB_eq (b := (f_X12_isSmall v5)) (tgt := 316) dX12_next_308 (by decide) (fun cc => ?_) (fun cc => ?_)
                · replace h := bu_bf h cc
                  refine bv_iconst (v := 3) dX12_next_316 (by decide) ?_
                  refine bv_icmp_le (tgt := 324) dX12_next_317 (by decide) (fun cc => ?_) (fun cc => ?_)
                  · replace h := bu_t h cc
                    refine bv_iload_n dX12_next_324 1 rfl ?_
                    refine bw_ifB_eq (b := (f_X12_isSmall v5)) (tgt := 332) dX12_next_325 (by decide) (fun cc => ?_) (fun cc => ?_)
                    · replace h := bu_bf h cc
                      refine bv_iconst (v := 2) dX12_next_332 (by decide) ?_
                      refine bw_putI hN q4 dX12_next_333 fl_12_174 rfl ?_
                      obtain rfl := Option.some.inj h
                      exact bv_vret dX12_next_336 rfl ⟨rfl, rfl⟩
                    · replace h := bu_bt h cc
                      refine bv_iconst (v := 1) dX12_next_328 (by decide) ?_
                      refine bv_goto (tgt := 333) dX12_next_329 (by decide) ?_
                      refine bw_putI hN q4 dX12_next_333 fl_12_174 rfl ?_
                      obtain rfl := Option.some.inj h
                      exact bv_vret dX12_next_336 rfl ⟨rfl, rfl⟩
                  · replace h := bu_f h cc
                    refine bv_iconst (v := 4) dX12_next_320 (by decide) ?_
                    refine bv_goto (tgt := 333) dX12_next_321 (by decide) ?_
                    refine bw_putI hN q4 dX12_next_333 fl_12_174 rfl ?_
                    obtain rfl := Option.some.inj h
                    exact bv_vret dX12_next_336 rfl ⟨rfl, rfl⟩
                · replace h := bu_bt h cc
                  refine bv_bipush (v := 7) dX12_next_311 (by decide) ?_
                  refine bv_goto (tgt := 317) dX12_next_313 (by decide) ?_
                  refine bv_icmp_le (tgt := 324) dX12_next_317 (by decide) (fun cc => ?_) (fun cc => ?_)
                  · replace h := bu_t h cc
                    refine bv_iload_n dX12_next_324 1 rfl ?_
                    refine bw_ifB_eq (b := (f_X12_isSmall v5)) (tgt := 332) dX12_next_325 (by decide) (fun cc => ?_) (fun cc => ?_)
                    · replace h := bu_bf h cc
                      refine bv_iconst (v := 2) dX12_next_332 (by decide) ?_
                      refine bw_putI hN q4 dX12_next_333 fl_12_174 rfl ?_
                      obtain rfl := Option.some.inj h
                      exact bv_vret dX12_next_336 rfl ⟨rfl, rfl⟩
                    · replace h := bu_bt h cc
                      refine bv_iconst (v := 1) dX12_next_328 (by decide) ?_
                      refine bv_goto (tgt := 333) dX12_next_329 (by decide) ?_
                      refine bw_putI hN q4 dX12_next_333 fl_12_174 rfl ?_
                      obtain rfl := Option.some.inj h
                      exact bv_vret dX12_next_336 rfl ⟨rfl, rfl⟩
                  · replace h := bu_f h cc
                    refine bv_iconst (v := 4) dX12_next_320 (by decide) ?_
                    refine bv_goto (tgt := 333) dX12_next_321 (by decide) ?_
                    refine bw_putI hN q4 dX12_next_333 fl_12_174 rfl ?_
                    obtain rfl := Option.some.inj h
                    exact bv_vret dX12_next_336 rfl ⟨rfl, rfl⟩
          · replace h := bu_bf h cc
            refine bv_aload_n dX12_next_109 0 rfl ?_
            refine bv_iload_n dX12_next_110 1 rfl ?_
            refine bv_bipush (v := 59) dX12_next_111 (by decide) ?_
            refine bv_icmp_eq (tgt := 140) dX12_next_113 (by decide) (fun cc => ?_) (fun cc => ?_)
            · replace h := bu_t h cc
              refine bv_iconst (v := 3) dX12_next_140 (by decide) ?_
              refine bv_goto (tgt := 145) dX12_next_141 (by decide) ?_
              refine bw_putI hN q4 dX12_next_145 fl_12_174 rfl ?_
              refine bv_aload_n dX12_next_148 0 rfl ?_
              refine bv_iload_n dX12_next_149 1 rfl ?_
              refine bw_putI hN q4 dX12_next_150 fl_12_184 rfl ?_
              refine bv_aload_n dX12_next_153 0 rfl ?_
              refine bv_dup dX12_next_154 rfl ?_
              refine bw_getI hN q4 dX12_next_155 fl_12_21 rfl ?_
              refine bv_iconst (v := 1) dX12_next_158 (by decide) ?_
              refine bv_iadd dX12_next_159 ?_
              refine bw_putI hN q4 dX12_next_160 fl_12_21 rfl ?_
              obtain rfl := Option.some.inj h
              exact bv_vret dX12_next_163 rfl ⟨rfl, rfl⟩
            · replace h := bu_f h cc
              refine bv_iload_n dX12_next_116 1 rfl ?_
              refine bv_bipush (v := 40) dX12_next_117 (by decide) ?_
              refine bv_icmp_eq (tgt := 140) dX12_next_119 (by decide) (fun cc => ?_) (fun cc => ?_)
              · replace h := bu_t h cc
                refine bv_iconst (v := 3) dX12_next_140 (by decide) ?_
                refine bv_goto (tgt := 145) dX12_next_141 (by decide) ?_
                refine bw_putI hN q4 dX12_next_145 fl_12_174 rfl ?_
                refine bv_aload_n dX12_next_148 0 rfl ?_
                refine bv_iload_n dX12_next_149 1 rfl ?_
                refine bw_putI hN q4 dX12_next_150 fl_12_184 rfl ?_
                refine bv_aload_n dX12_next_153 0 rfl ?_
                refine bv_dup dX12_next_154 rfl ?_
                refine bw_getI hN q4 dX12_next_155 fl_12_21 rfl ?_
                refine bv_iconst (v := 1) dX12_next_158 (by decide) ?_
                refine bv_iadd dX12_next_159 ?_
                refine bw_putI hN q4 dX12_next_160 fl_12_21 rfl ?_
                obtain rfl := Option.some.inj h
                exact bv_vret dX12_next_163 rfl ⟨rfl, rfl⟩
              · replace h := bu_f h cc
                refine bv_iload_n dX12_next_122 1 rfl ?_
                refine bv_bipush (v := 41) dX12_next_123 (by decide) ?_
                refine bv_icmp_eq (tgt := 140) dX12_next_125 (by decide) (fun cc => ?_) (fun cc => ?_)
                · replace h := bu_t h cc
                  refine bv_iconst (v := 3) dX12_next_140 (by decide) ?_
                  refine bv_goto (tgt := 145) dX12_next_141 (by decide) ?_
                  refine bw_putI hN q4 dX12_next_145 fl_12_174 rfl ?_
                  refine bv_aload_n dX12_next_148 0 rfl ?_
                  refine bv_iload_n dX12_next_149 1 rfl ?_
                  refine bw_putI hN q4 dX12_next_150 fl_12_184 rfl ?_
                  refine bv_aload_n dX12_next_153 0 rfl ?_
                  refine bv_dup dX12_next_154 rfl ?_
                  refine bw_getI hN q4 dX12_next_155 fl_12_21 rfl ?_
                  refine bv_iconst (v := 1) dX12_next_158 (by decide) ?_
                  refine bv_iadd dX12_next_159 ?_
                  refine bw_putI hN q4 dX12_next_160 fl_12_21 rfl ?_
                  obtain rfl := Option.some.inj h
                  exact bv_vret dX12_next_163 rfl ⟨rfl, rfl⟩
                · replace h := bu_f h cc
                  refine bv_iload_n dX12_next_128 1 rfl ?_
                  refine bv_bipush (v := 60) dX12_next_129 (by decide) ?_
                  refine bv_icmp_lt (tgt := 144) dX12_next_131 (by decide) (fun cc => ?_) (fun cc => ?_)
                  · replace h := bu_t h cc
                    refine bv_iconst (v := 4) dX12_next_144 (by decide) ?_
                    refine bw_putI hN q4 dX12_next_145 fl_12_174 rfl ?_
                    refine bv_aload_n dX12_next_148 0 rfl ?_
                    refine bv_iload_n dX12_next_149 1 rfl ?_
                    refine bw_putI hN q4 dX12_next_150 fl_12_184 rfl ?_
                    refine bv_aload_n dX12_next_153 0 rfl ?_
                    refine bv_dup dX12_next_154 rfl ?_
                    refine bw_getI hN q4 dX12_next_155 fl_12_21 rfl ?_
                    refine bv_iconst (v := 1) dX12_next_158 (by decide) ?_
                    refine bv_iadd dX12_next_159 ?_
                    refine bw_putI hN q4 dX12_next_160 fl_12_21 rfl ?_
                    obtain rfl := Option.some.inj h
                    exact bv_vret dX12_next_163 rfl ⟨rfl, rfl⟩
                  · replace h := bu_f h cc
                    refine bv_iload_n dX12_next_134 1 rfl ?_
                    refine bv_bipush (v := 62) dX12_next_135 (by decide) ?_
                    refine bv_icmp_gt (tgt := 144) dX12_next_137 (by decide) (fun cc => ?_) (fun cc => ?_)
                    · replace h := bu_t h cc
                      refine bv_iconst (v := 4) dX12_next_144 (by decide) ?_
                      refine bw_putI hN q4 dX12_next_145 fl_12_174 rfl ?_
                      refine bv_aload_n dX12_next_148 0 rfl ?_
                      refine bv_iload_n dX12_next_149 1 rfl ?_
                      refine bw_putI hN q4 dX12_next_150 fl_12_184 rfl ?_
                      refine bv_aload_n dX12_next_153 0 rfl ?_
                      refine bv_dup dX12_next_154 rfl ?_
                      refine bw_getI hN q4 dX12_next_155 fl_12_21 rfl ?_
                      refine bv_iconst (v := 1) dX12_next_158 (by decide) ?_
                      refine bv_iadd dX12_next_159 ?_
                      refine bw_putI hN q4 dX12_next_160 fl_12_21 rfl ?_
                      obtain rfl := Option.some.inj h
                      exact bv_vret dX12_next_163 rfl ⟨rfl, rfl⟩
                    · replace h := bu_f h cc
                      refine bv_iconst (v := 3) dX12_next_140 (by decide) ?_
                      refine bv_goto (tgt := 145) dX12_next_141 (by decide) ?_
                      refine bw_putI hN q4 dX12_next_145 fl_12_174 rfl ?_
                      refine bv_aload_n dX12_next_148 0 rfl ?_
                      refine bv_iload_n dX12_next_149 1 rfl ?_
                      refine bw_putI hN q4 dX12_next_150 fl_12_184 rfl ?_
                      refine bv_aload_n dX12_next_153 0 rfl ?_
                      refine bv_dup dX12_next_154 rfl ?_
                      refine bw_getI hN q4 dX12_next_155 fl_12_21 rfl ?_
                      refine bv_iconst (v := 1) dX12_next_158 (by decide) ?_
                      refine bv_iadd dX12_next_159 ?_
                      refine bw_putI hN q4 dX12_next_160 fl_12_21 rfl ?_
                      obtain rfl := Option.some.inj h
                      exact bv_vret dX12_next_163 rfl ⟨rfl, rfl⟩
      · replace h := bu_f h cc
        refine bv_aload_n dX12_next_89 0 rfl ?_
        refine bv_iconst (v := 0) dX12_next_90 (by decide) ?_
        refine bw_putI hN q4 dX12_next_91 fl_12_174 rfl ?_
        obtain rfl := Option.some.inj h
        exact bv_vret dX12_next_94 rfl ⟨rfl, rfl⟩
    · replace h := bu_f h cc
      refine bv_aload_n dX12_next_55 0 rfl ?_
      refine bw_getI hN q4 dX12_next_56 fl_12_21 rfl ?_
      refine bv_aload_n dX12_next_59 0 rfl ?_
      refine bw_getI hN q4 dX12_next_60 fl_12_24 rfl ?_
      refine bv_icmp_lt (tgt := 80) dX12_next_63 (by decide) (fun cc => ?_) (fun cc => ?_)
      · replace h := bu_t h cc
        refine bv_aload_n dX12_next_80 0 rfl ?_
        obtain ⟨v13, p14, h⟩ := bu_bd h
        refine bw_callV (As := []) hN q4 ⟨_, _, rfl⟩ dX12_next_81 mc_12_164 (c_X12_peek (d := d + 0) hN p14) rfl rfl (by decide) ?_
        refine bv_istore_n (ls1 := [(0, .ref x0), (1, .int v13)]) dX12_next_84 (by decide) rfl rfl ?_
        refine bv_iload_n dX12_next_85 1 rfl ?_
        refine bv_if_ge (tgt := 95) dX12_next_86 (by decide) (fun cc => ?_) (fun cc => ?_)
        · replace h := bu_t h cc
          refine bv_iload_n dX12_next_95 1 rfl ?_
          refine bw_callS (As := [.int v13]) dX12_next_96 mc_12_177 (c_X12_isSmall (d := d + 0) hN rfl) rfl rfl (by decide) ?_
          refine bw_ifB_ne (b := (f_X12_isSmall v13)) (tgt := 164) dX12_next_99 (by decide) (fun cc => ?_) (fun cc => ?_)
          · replace h := bu_bt h cc
            refine bv_iload_n dX12_next_164 1 rfl ?_
            refine bw_callS (As := [.int v13]) dX12_next_165 mc_12_177 (c_X12_isSmall (d := d + 0) hN rfl) rfl rfl (by decide) ?_
            refine bv_istore_n (ls1 := [(0, .ref x0), (1, .int v13), (2, .int (bm_bi (f_X12_isSmall v13)))]) dX12_next_168 (by decide) rfl rfl ?_
            refine bv_iconst (v := 1) dX12_next_169 (by decide) ?_
            refine bv_istore_n (ls1 := [(0, .ref x0), (1, .int v13), (2, .int (bm_bi (f_X12_isSmall v13))), (3, .int 1)]) dX12_next_170 (by decide) rfl rfl ?_
            refine bv_aload_n dX12_next_171 0 rfl ?_
            refine bv_lconst (v := 0) dX12_next_172 (by decide) ?_
            refine bw_putL hN q4 dX12_next_173 fl_12_187 rfl ?_
            refine bv_aload_n dX12_next_176 0 rfl ?_
            refine bv_iconst (v := 0) dX12_next_177 (by decide) ?_
            refine bw_putI hN q4 dX12_next_178 fl_12_184 rfl ?_
            refine bw_ls (ls1 := [(0, .ref x0), (2, .int (bm_bi (f_X12_isSmall v13))), (3, .int 1)]) [0, 2, 3] rfl ?_
            obtain ⟨r15, p16, h⟩ := bu_bd h
            refine v_X12_next_l181 hN q4 1000 _ _ _ p16 (fun y17 hy => ?_)
            · subst hy
              refine bv_aload_n dX12_next_298 0 rfl ?_
              refine bv_iload_n dX12_next_299 2 rfl ?_
              refine bw_ifB_eq (b := y17.1) (tgt := 320) dX12_next_300 (by decide) (fun cc => ?_) (fun cc => ?_)
              · replace h := bu_bf h cc
                refine bv_iconst (v := 4) dX12_next_320 (by decide) ?_
                refine bv_goto (tgt := 333) dX12_next_321 (by decide) ?_
                refine bw_putI hN q4 dX12_next_333 fl_12_174 rfl ?_
                obtain rfl := Option.some.inj h
                exact bv_vret dX12_next_336 rfl ⟨rfl, rfl⟩
              · replace h := bu_bt h cc
                refine bv_aload_n dX12_next_303 0 rfl ?_
                refine bw_getI hN q4 dX12_next_304 fl_12_171 rfl ?_
                refine bv_iload_n dX12_next_307 1 rfl ?_
                refine bw_ifB_eq (b := (f_X12_isSmall v13)) (tgt := 316) dX12_next_308 (by decide) (fun cc => ?_) (fun cc => ?_)
                · replace h := bu_bf h cc
                  refine bv_iconst (v := 3) dX12_next_316 (by decide) ?_
                  refine bv_icmp_le (tgt := 324) dX12_next_317 (by decide) (fun cc => ?_) (fun cc => ?_)
                  · replace h := bu_t h cc
                    refine bv_iload_n dX12_next_324 1 rfl ?_
                    refine bw_ifB_eq (b := (f_X12_isSmall v13)) (tgt := 332) dX12_next_325 (by decide) (fun cc => ?_) (fun cc => ?_)
                    · replace h := bu_bf h cc
                      refine bv_iconst (v := 2) dX12_next_332 (by decide) ?_
                      refine bw_putI hN q4 dX12_next_333 fl_12_174 rfl ?_
                      obtain rfl := Option.some.inj h
                      exact bv_vret dX12_next_336 rfl ⟨rfl, rfl⟩
                    · replace h := bu_bt h cc
                      refine bv_iconst (v := 1) dX12_next_328 (by decide) ?_
                      refine bv_goto (tgt := 333) dX12_next_329 (by decide) ?_
                      refine bw_putI hN q4 dX12_next_333 fl_12_174 rfl ?_
                      obtain rfl := Option.some.inj h
                      exact bv_vret dX12_next_336 rfl ⟨rfl, rfl⟩
                  · replace h := bu_f h cc
                    refine bv_iconst (v := 4) dX12_next_320 (by decide) ?_
                    refine bv_goto (tgt := 333) dX12_next_321 (by decide) ?_
                    refine bw_putI hN q4 dX12_next_333 fl_12_174 rfl ?_
                    obtain rfl := Option.some.inj h
                    exact bv_vret dX12_next_336 rfl ⟨rfl, rfl⟩
                · replace h := bu_bt h cc
                  refine bv_bipush (v := 7) dX12_next_311 (by decide) ?_
                  refine bv_goto (tgt := 317) dX12_next_313 (by decide) ?_
                  refine bv_icmp_le (tgt := 324) dX12_next_317 (by decide) (fun cc => ?_) (fun cc => ?_)
                  · replace h := bu_t h cc
                    refine bv_iload_n dX12_next_324 1 rfl ?_
                    refine bw_ifB_eq (b := (f_X12_isSmall v13)) (tgt := 332) dX12_next_325 (by decide) (fun cc => ?_) (fun cc => ?_)
                    · replace h := bu_bf h cc
                      refine bv_iconst (v := 2) dX12_next_332 (by decide) ?_
                      refine bw_putI hN q4 dX12_next_333 fl_12_174 rfl ?_
                      obtain rfl := Option.some.inj h
                      exact bv_vret dX12_next_336 rfl ⟨rfl, rfl⟩
                    · replace h := bu_bt h cc
                      refine bv_iconst (v := 1) dX12_next_328 (by decide) ?_
                      refine bv_goto (tgt := 333) dX12_next_329 (by decide) ?_
                      refine bw_putI hN q4 dX12_next_333 fl_12_174 rfl ?_
                      obtain rfl := Option.some.inj h
                      exact bv_vret dX12_next_336 rfl ⟨rfl, rfl⟩
                  · replace h := bu_f h cc
                    refine bv_iconst (v := 4) dX12_next_320 (by decide) ?_
                    refine bv_goto (tgt := 333) dX12_next_321 (by decide) ?_
                    refine bw_putI hN q4 dX12_next_333 fl_12_174 rfl ?_
                    obtain rfl := Option.some.inj h
                    exact bv_vret dX12_next_336 rfl ⟨rfl, rfl⟩
          · replace h := bu_bf h cc
            refine bv_iload_n dX12_next_102 1 rfl ?_
            refine bw_callS (As := [.int v13]) dX12_next_103 mc_12_181 (c_X12_isDigit (d := d + 0) hN rfl) rfl rfl (by decide) ?_
            refine bw_ifB_ne (b := (f_X12_isDigit v13)) (tgt := 164) dX12_next_106 (by decide) (fun cc => ?_) (fun cc => ?_)
            · replace h := bu_bt h cc
              refine bv_iload_n dX12_next_164 1 rfl ?_
              refine bw_callS (As := [.int v13]) dX12_next_165 mc_12_177 (c_X12_isSmall (d := d + 0) hN rfl) rfl rfl (by decide) ?_
              refine bv_istore_n (ls1 := [(0, .ref x0), (1, .int v13), (2, .int (bm_bi (f_X12_isSmall v13)))]) dX12_next_168 (by decide) rfl rfl ?_
              refine bv_iconst (v := 1) dX12_next_169 (by decide) ?_
              refine bv_istore_n (ls1 := [(0, .ref x0), (1, .int v13), (2, .int (bm_bi (f_X12_isSmall v13))), (3, .int 1)]) dX12_next_170 (by decide) rfl rfl ?_
              refine bv_aload_n dX12_next_171 0 rfl ?_
              refine bv_lconst (v := 0) dX12_next_172 (by decide) ?_
              refine bw_putL hN q4 dX12_next_173 fl_12_187 rfl ?_
              refine bv_aload_n dX12_next_176 0 rfl ?_
              refine bv_iconst (v := 0) dX12_next_177 (by decide) ?_
              refine bw_putI hN q4 dX12_next_178 fl_12_184 rfl ?_
              refine bw_ls (ls1 := [(0, .ref x0), (2, .int (bm_bi (f_X12_isSmall v13))), (3, .int 1)]) [0, 2, 3] rfl ?_
              obtain ⟨r18, p19, h⟩ := bu_bd h
              refine v_X12_next_l181 hN q4 1000 _ _ _ p19 (fun y20 hy => ?_)
              · subst hy
                refine bv_aload_n dX12_next_298 0 rfl ?_
                refine bv_iload_n dX12_next_299 2 rfl ?_
                refine bw_ifB_eq (b := y20.1) (tgt := 320) dX12_next_300 (by decide) (fun cc => ?_) (fun cc => ?_)
                · replace h := bu_bf h cc
                  refine bv_iconst (v := 4) dX12_next_320 (by decide) ?_
                  refine bv_goto (tgt := 333) dX12_next_321 (by decide) ?_
                  refine bw_putI hN q4 dX12_next_333 fl_12_174 rfl ?_
                  obtain rfl := Option.some.inj h
                  exact bv_vret dX12_next_336 rfl ⟨rfl, rfl⟩
                · replace h := bu_bt h cc
                  refine bv_aload_n dX12_next_303 0 rfl ?_
                  refine bw_getI hN q4 dX12_next_304 fl_12_171 rfl ?_
                  refine bv_iload_n dX12_next_307 1 rfl ?_
                  refine bw_ifB_eq (b := (f_X12_isSmall v13)) (tgt := 316) dX12_next_308 (by decide) (fun cc => ?_) (fun cc => ?_)
                  · replace h := bu_bf h cc
                    refine bv_iconst (v := 3) dX12_next_316 (by decide) ?_
                    refine bv_icmp_le (tgt := 324) dX12_next_317 (by decide) (fun cc => ?_) (fun cc => ?_)
                    · replace h := bu_t h cc
                      refine bv_iload_n dX12_next_324 1 rfl ?_
                      refine bw_ifB_eq (b := (f_X12_isSmall v13)) (tgt := 332) dX12_next_325 (by decide) (fun cc => ?_) (fun cc => ?_)
                      · replace h := bu_bf h cc
                        refine bv_iconst (v := 2) dX12_next_332 (by decide) ?_
                        refine bw_putI hN q4 dX12_next_333 fl_12_174 rfl ?_
                        obtain rfl := Option.some.inj h
                        exact bv_vret dX12_next_336 rfl ⟨rfl, rfl⟩
                      · replace h := bu_bt h cc
                        refine bv_iconst (v := 1) dX12_next_328 (by decide) ?_
                        refine bv_goto (tgt := 333) dX12_next_329 (by decide) ?_
                        refine bw_putI hN q4 dX12_next_333 fl_12_174 rfl ?_
                        obtain rfl := Option.some.inj h
                        exact bv_vret dX12_next_336 rfl ⟨rfl, rfl⟩
                    · replace h := bu_f h cc
                      refine bv_iconst (v := 4) dX12_next_320 (by decide) ?_
                      refine bv_goto (tgt := 333) dX12_next_321 (by decide) ?_
                      refine bw_putI hN q4 dX12_next_333 fl_12_174 rfl ?_
                      obtain rfl := Option.some.inj h
                      exact bv_vret dX12_next_336 rfl ⟨rfl, rfl⟩
                  · replace h := bu_bt h cc
                    refine bv_bipush (v := 7) dX12_next_311 (by decide) ?_
                    refine bv_goto (tgt := 317) dX12_next_313 (by decide) ?_
                    refine bv_icmp_le (tgt := 324) dX12_next_317 (by decide) (fun cc => ?_) (fun cc => ?_)
                    · replace h := bu_t h cc
                      refine bv_iload_n dX12_next_324 1 rfl ?_
                      refine bw_ifB_eq (b := (f_X12_isSmall v13)) (tgt := 332) dX12_next_325 (by decide) (fun cc => ?_) (fun cc => ?_)
                      · replace h := bu_bf h cc
                        refine bv_iconst (v := 2) dX12_next_332 (by decide) ?_
                        refine bw_putI hN q4 dX12_next_333 fl_12_174 rfl ?_
                        obtain rfl := Option.some.inj h
                        exact bv_vret dX12_next_336 rfl ⟨rfl, rfl⟩
                      · replace h := bu_bt h cc
                        refine bv_iconst (v := 1) dX12_next_328 (by decide) ?_
                        refine bv_goto (tgt := 333) dX12_next_329 (by decide) ?_
                        refine bw_putI hN q4 dX12_next_333 fl_12_174 rfl ?_
                        obtain rfl := Option.some.inj h
                        exact bv_vret dX12_next_336 rfl ⟨rfl, rfl⟩
                    · replace h := bu_f h cc
                      refine bv_iconst (v := 4) dX12_next_320 (by decide) ?_
                      refine bv_goto (tgt := 333) dX12_next_321 (by decide) ?_
                      refine bw_putI hN q4 dX12_next_333 fl_12_174 rfl ?_
                      obtain rfl := Option.some.inj h
                      exact bv_vret dX12_next_336 rfl ⟨rfl, rfl⟩
            · replace h := bu_bf h cc
              refine bv_aload_n dX12_next_109 0 rfl ?_
              refine bv_iload_n dX12_next_110 1 rfl ?_
              refine bv_bipush (v := 59) dX12_next_111 (by decide) ?_
              refine bv_icmp_eq (tgt := 140) dX12_next_113 (by decide) (fun cc => ?_) (fun cc => ?_)
              · replace h := bu_t h cc
                refine bv_iconst (v := 3) dX12_next_140 (by decide) ?_
                refine bv_goto (tgt := 145) dX12_next_141 (by decide) ?_
                refine bw_putI hN q4 dX12_next_145 fl_12_174 rfl ?_
                refine bv_aload_n dX12_next_148 0 rfl ?_
                refine bv_iload_n dX12_next_149 1 rfl ?_
                refine bw_putI hN q4 dX12_next_150 fl_12_184 rfl ?_
                refine bv_aload_n dX12_next_153 0 rfl ?_
                refine bv_dup dX12_next_154 rfl ?_
                refine bw_getI hN q4 dX12_next_155 fl_12_21 rfl ?_
                refine bv_iconst (v := 1) dX12_next_158 (by decide) ?_
                refine bv_iadd dX12_next_159 ?_
                refine bw_putI hN q4 dX12_next_160 fl_12_21 rfl ?_
                obtain rfl := Option.some.inj h
                exact bv_vret dX12_next_163 rfl ⟨rfl, rfl⟩
              · replace h := bu_f h cc
                refine bv_iload_n dX12_next_116 1 rfl ?_
                refine bv_bipush (v := 40) dX12_next_117 (by decide) ?_
                refine bv_icmp_eq (tgt := 140) dX12_next_119 (by decide) (fun cc => ?_) (fun cc => ?_)
                · replace h := bu_t h cc
                  refine bv_iconst (v := 3) dX12_next_140 (by decide) ?_
                  refine bv_goto (tgt := 145) dX12_next_141 (by decide) ?_
                  refine bw_putI hN q4 dX12_next_145 fl_12_174 rfl ?_
                  refine bv_aload_n dX12_next_148 0 rfl ?_
                  refine bv_iload_n dX12_next_149 1 rfl ?_
                  refine bw_putI hN q4 dX12_next_150 fl_12_184 rfl ?_
                  refine bv_aload_n dX12_next_153 0 rfl ?_
                  refine bv_dup dX12_next_154 rfl ?_
                  refine bw_getI hN q4 dX12_next_155 fl_12_21 rfl ?_
                  refine bv_iconst (v := 1) dX12_next_158 (by decide) ?_
                  refine bv_iadd dX12_next_159 ?_
                  refine bw_putI hN q4 dX12_next_160 fl_12_21 rfl ?_
                  obtain rfl := Option.some.inj h
                  exact bv_vret dX12_next_163 rfl ⟨rfl, rfl⟩
                · replace h := bu_f h cc
                  refine bv_iload_n dX12_next_122 1 rfl ?_
                  refine bv_bipush (v := 41) dX12_next_123 (by decide) ?_
                  refine bv_icmp_eq (tgt := 140) dX12_next_125 (by decide) (fun cc => ?_) (fun cc => ?_)
                  · replace h := bu_t h cc
                    refine bv_iconst (v := 3) dX12_next_140 (by decide) ?_
                    refine bv_goto (tgt := 145) dX12_next_141 (by decide) ?_
                    refine bw_putI hN q4 dX12_next_145 fl_12_174 rfl ?_
                    refine bv_aload_n dX12_next_148 0 rfl ?_
                    refine bv_iload_n dX12_next_149 1 rfl ?_
                    refine bw_putI hN q4 dX12_next_150 fl_12_184 rfl ?_
                    refine bv_aload_n dX12_next_153 0 rfl ?_
                    refine bv_dup dX12_next_154 rfl ?_
                    refine bw_getI hN q4 dX12_next_155 fl_12_21 rfl ?_
                    refine bv_iconst (v := 1) dX12_next_158 (by decide) ?_
                    refine bv_iadd dX12_next_159 ?_
                    refine bw_putI hN q4 dX12_next_160 fl_12_21 rfl ?_
                    obtain rfl := Option.some.inj h
                    exact bv_vret dX12_next_163 rfl ⟨rfl, rfl⟩
                  · replace h := bu_f h cc
                    refine bv_iload_n dX12_next_128 1 rfl ?_
                    refine bv_bipush (v := 60) dX12_next_129 (by decide) ?_
                    refine bv_icmp_lt (tgt := 144) dX12_next_131 (by decide) (fun cc => ?_) (fun cc => ?_)
                    · replace h := bu_t h cc
                      refine bv_iconst (v := 4) dX12_next_144 (by decide) ?_
                      refine bw_putI hN q4 dX12_next_145 fl_12_174 rfl ?_
                      refine bv_aload_n dX12_next_148 0 rfl ?_
                      refine bv_iload_n dX12_next_149 1 rfl ?_
                      refine bw_putI hN q4 dX12_next_150 fl_12_184 rfl ?_
                      refine bv_aload_n dX12_next_153 0 rfl ?_
                      refine bv_dup dX12_next_154 rfl ?_
                      refine bw_getI hN q4 dX12_next_155 fl_12_21 rfl ?_
                      refine bv_iconst (v := 1) dX12_next_158 (by decide) ?_
                      refine bv_iadd dX12_next_159 ?_
                      refine bw_putI hN q4 dX12_next_160 fl_12_21 rfl ?_
                      obtain rfl := Option.some.inj h
                      exact bv_vret dX12_next_163 rfl ⟨rfl, rfl⟩
                    · replace h := bu_f h cc
                      refine bv_iload_n dX12_next_134 1 rfl ?_
                      refine bv_bipush (v := 62) dX12_next_135 (by decide) ?_
                      refine bv_icmp_gt (tgt := 144) dX12_next_137 (by decide) (fun cc => ?_) (fun cc => ?_)
                      · replace h := bu_t h cc
                        refine bv_iconst (v := 4) dX12_next_144 (by decide) ?_
                        refine bw_putI hN q4 dX12_next_145 fl_12_174 rfl ?_
                        refine bv_aload_n dX12_next_148 0 rfl ?_
                        refine bv_iload_n dX12_next_149 1 rfl ?_
                        refine bw_putI hN q4 dX12_next_150 fl_12_184 rfl ?_
                        refine bv_aload_n dX12_next_153 0 rfl ?_
                        refine bv_dup dX12_next_154 rfl ?_
                        refine bw_getI hN q4 dX12_next_155 fl_12_21 rfl ?_
                        refine bv_iconst (v := 1) dX12_next_158 (by decide) ?_
                        refine bv_iadd dX12_next_159 ?_
                        refine bw_putI hN q4 dX12_next_160 fl_12_21 rfl ?_
                        obtain rfl := Option.some.inj h
                        exact bv_vret dX12_next_163 rfl ⟨rfl, rfl⟩
                      · replace h := bu_f h cc
                        refine bv_iconst (v := 3) dX12_next_140 (by decide) ?_
                        refine bv_goto (tgt := 145) dX12_next_141 (by decide) ?_
                        refine bw_putI hN q4 dX12_next_145 fl_12_174 rfl ?_
                        refine bv_aload_n dX12_next_148 0 rfl ?_
                        refine bv_iload_n dX12_next_149 1 rfl ?_
                        refine bw_putI hN q4 dX12_next_150 fl_12_184 rfl ?_
                        refine bv_aload_n dX12_next_153 0 rfl ?_
                        refine bv_dup dX12_next_154 rfl ?_
                        refine bw_getI hN q4 dX12_next_155 fl_12_21 rfl ?_
                        refine bv_iconst (v := 1) dX12_next_158 (by decide) ?_
                        refine bv_iadd dX12_next_159 ?_
                        refine bw_putI hN q4 dX12_next_160 fl_12_21 rfl ?_
                        obtain rfl := Option.some.inj h
                        exact bv_vret dX12_next_163 rfl ⟨rfl, rfl⟩
        · replace h := bu_f h cc
          refine bv_aload_n dX12_next_89 0 rfl ?_
          refine bv_iconst (v := 0) dX12_next_90 (by decide) ?_
          refine bw_putI hN q4 dX12_next_91 fl_12_174 rfl ?_
          obtain rfl := Option.some.inj h
          exact bv_vret dX12_next_94 rfl ⟨rfl, rfl⟩
      · replace h := bu_f h cc
        refine bv_aload_n dX12_next_66 0 rfl ?_
        refine bv_aload_n dX12_next_67 0 rfl ?_
        refine bw_getI hN q4 dX12_next_68 fl_12_24 rfl ?_
        refine bw_putI hN q4 dX12_next_71 fl_12_168 rfl ?_
        refine bv_aload_n dX12_next_74 0 rfl ?_
        refine bv_iconst (v := 4) dX12_next_75 (by decide) ?_
        refine bw_putI hN q4 dX12_next_76 fl_12_174 rfl ?_
        obtain rfl := Option.some.inj h
        exact bv_vret dX12_next_79 rfl ⟨rfl, rfl⟩
