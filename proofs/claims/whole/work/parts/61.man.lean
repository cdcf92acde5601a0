/-! the law's case of man -/
theorem bl_wid {L : bm_L} {n pc cx cy cx2 cy2 : Nat} {ls : List (Nat × Value)} {st : List Value} {M : bm_M} (h1 : cx ≤ cx2) (h2 : cy ≤ cy2) (k : bm_VL L n pc ls st M cx2 cy2) : bm_VL L n pc ls st M cx cy :=
  fun p e s m args below meth c D cA A ζ hF hab hAA α H locs lsA a2 hP hD hS hl => W.widen h1 h2 (k p e s m args below meth c D cA A ζ hF hab hAA α H locs lsA a2 hP hD hS hl)
theorem bl_callM {L : bm_L} {pc cx cy mc ms : Nat} {rm : Room} {ls : List (Nat × Value)} {st stk as : List Value} {M M1 : bm_M} {w : Value} (hM : L.1.stackTraces = false → ∀ (D : va_G) (cA : Nat → ClassId) (ζ α : Nat → Nat) (sz : Nat), (∀ k, 1000 ≤ k → α k = ζ k) → Met L.1 yL_man bx_wL rm (bx_P L D cA ζ α sz as M) (bm_Q D cA (va_A (bm_ws cA α 182 M) sz) ζ α 182 182 (fun r M' => r = some w ∧ M' = M1)) mc ms (va_A (bm_ws cA α 182 M) sz)) (hrc : rm.cells = mc) (hrs : rm.slots = ms) (hrf : rm.frames + 1 ≤ 2048) (hrl : 8 + (5 + 11) + rm.locals ≤ 84000) (hd : decode m_law.2.1 pc = .ok (.invokestatic 38, 3)) (hst : stk = as.reverse ++ st) (hna : as.length = 4) (hwt : (st.map fun v => v.category).sum ≤ 8) (hcx : cx + mc ≤ 601024) (hcy : cy + ms ≤ 7293034) (k : bm_VL L 182 (pc + 3) ls (w :: st) M1 (cx + mc) (cy + ms)) : bm_VL L 182 pc ls stk M cx cy := by
  subst hst
  intro p e s m args below meth c D cA A ζ hF hab hAA α H locs lsA a2 hP hD hS hl
  have ⟨hx, hb, hml, hown, hts, hr, hlk, hnm, hK, hA, hG⟩ := hF
  have hX : bx_X A s s.heap := by rw [hAA]; exact bx_of hab
  rw [bm_stk]
  refine bm_call (n1 := 182) (n2 := 182) (M1 := M) (A := A) (vx_runSW (bytes := cL_man) (maxL := 5) (ret := some .int) (hh := bx_hh) (As := as.map (bm_re α)) (rest := st.map (bm_re α)) (own := RL) (n := 4) ⟨hx, hb, hml, hown, hts⟩ (hM hab.2.1 D cA ζ α H.size a2) (vx_cwSW 4 hts bx_good rfl hrc hrs ⟨by decide +kernel, by decide +kernel, by decide +kernel⟩ ⟨hrf, hrl⟩) ⟨bx_blind, bx_pre as hP hD hS hA hK hG hX⟩ rfl (by rw [List.length_map]; exact hna) hl.1 rfl (lv_room (bm_wt hwt)) hd ⟨hcx, hcy⟩) hS (bm_AA (D := D) hD hS hA) (fun α2 r M2 H1 locs1 b1 b2 hq hP1 hD1 hS1 => ?_)
  have hα : α2 = α := by funext q; exact b1 q (by omega)
  subst hα
  obtain ⟨rfl, rfl⟩ := hq
  exact k p e s m args below meth c D cA A ζ hF hab hAA α2 H1 locs1 lsA a2 hP1 hD1 hS1 hl
/-- behind the law's man -/
theorem lc_man2 {L : bm_L} {I I2 : bm_TI} {J : bm_TJ} {R W : bm_TR} {t cx cy : Nat} {kk v : Int32} (hR : bm_RR R) (hLN : L.2.1 < 2 ^ 31) (ht : t + 6 ≤ L.2.1) (hcx : cx ≤ 601024) (hcy : cy ≤ 7293034) (h2 : f_X12_man I (L.2.2 (nI t + 1).toNatClampNeg) (L.2.2 (nI t + 2).toNatClampNeg) = some (v, I2)) (h3 : I2 164 0 = kk) (h0 : kk = 0 → J 181 0 = v.toInt64) (K : bm_VL L 182 1341 [(0, .ref 1400), (1, .ref 0), (2, .ref 164), (3, .ref 181), (4, .int (nI t))] [] (I2, J, R, W) cx cy) : bm_VL L 182 365 [(0, .ref 1400), (1, .ref 0), (2, .ref 164), (3, .ref 181), (4, .int (nI t))] [.int kk] (I, J, R, W) cx cy := by
  refine bl_istore (ls1 := [(0, .ref 1400), (1, .ref 0), (2, .ref 164), (3, .ref 181), (4, .int (nI t)), (5, .int kk)]) dL_law_365 (by decide) rfl rfl ?_
  refine bl_aload_n dL_law_367 2 rfl ?_
  refine bl_aload_n dL_law_368 0 rfl ?_
  refine bl_iload dL_law_369 4 rfl ?_
  refine bl_iconst (v := 1) dL_law_371 (by decide) ?_
  refine bl_iadd dL_law_372 ?_
  refine bl_sald dL_law_373 (sc_in (k := 1) (by omega) hLN) ?_
  refine bl_aload_n dL_law_374 0 rfl ?_
  refine bl_iload dL_law_375 4 rfl ?_
  refine bl_iconst (v := 2) dL_law_377 (by decide) ?_
  refine bl_iadd dL_law_378 ?_
  refine bl_sald dL_law_379 (sc_in (k := 2) (by omega) hLN) ?_
  refine bl_callV (d := 0 + 2) (b := 164) (ci := 11) (As := [.int (L.2.2 (nI t + 1).toNatClampNeg), .int (L.2.2 (nI t + 2).toNatClampNeg)]) (by decide) (by decide) rfl ⟨_, _, rfl⟩ dL_law_380 mcl_43 (c_X12_man (d := 0) (by decide) hR h2) rfl rfl (Nat.le_of_ble_eq_true rfl) hcx hcy ?_
  refine bl_istore (ls1 := [(0, .ref 1400), (1, .ref 0), (2, .ref 164), (3, .ref 181), (4, .int (nI t)), (5, .int kk), (6, .int v)]) dL_law_383 (by decide) rfl rfl ?_
  refine bl_aload_n dL_law_385 2 rfl ?_
  refine bl_callV (d := 0) (b := 164) (ci := 11) (As := []) (by decide) (by decide) rfl ⟨_, _, rfl⟩ dL_law_386 mcl_44 (c_X12_thrown (d := 0) (by decide) hR (show f_X12_thrown I2 = some kk by rw [← h3]; rfl)) rfl rfl (Nat.le_of_ble_eq_true rfl) hcx hcy ?_
  refine bl_iload dL_law_389 5 rfl ?_
  refine bl_icmp_eq (tgt := 396) dL_law_391 (by decide) (fun _ => ?_) (fun cc => absurd rfl cc)
  refine bl_iload dL_law_396 5 rfl ?_
  have fin : bm_VL L 182 413 [(0, .ref 1400), (1, .ref 0), (2, .ref 164), (3, .ref 181), (4, .int (nI t)), (5, .int kk), (6, .int v)] [] (I2, J, R, W) cx cy := by
    refine bl_goto (tgt := 1341) dL_law_413 (by decide) ?_
    exact bl_ls (ls1 := [(0, .ref 1400), (1, .ref 0), (2, .ref 164), (3, .ref 181), (4, .int (nI t))]) [0, 1, 2, 3, 4] rfl K
  refine bl_if_ne (tgt := 413) dL_law_398 (by decide) (fun _ => fin) (fun c0 => ?_)
  refine bl_aload_n dL_law_401 3 rfl ?_
  refine bl_iconst (v := 0) dL_law_402 (by decide) ?_
  refine bl_lald (ob := 181) (len := 1) dL_law_403 rfl (by decide) (vp_in_nI (n := 0) (by decide) (by decide)) ?_
  refine bl_iload dL_law_404 6 rfl ?_
  refine bl_i2l dL_law_406 ?_
  refine bl_lcmp dL_law_407 ?_
  have e0 : (I2, J, R, W).2.1 181 (0 : Int32).toNatClampNeg = v.toInt64 := h0 c0
  rw [e0]
  exact bl_if_eq (tgt := 413) dL_law_408 (by decide) (fun _ => fin) (fun q => absurd (by rw [pn_lgcmp]) q)
set_option maxHeartbeats 4000000 in
set_option maxRecDepth 100000 in
theorem lc_man {L : bm_L} {I : bm_TI} {J : bm_TJ} {R W : bm_TR} {t cx cy : Nat} (hR : bm_RR R) (hI : bm_Inv I J W) (hLN : L.2.1 < 2 ^ 31) (ht : t + 6 ≤ L.2.1) (hcx : cx + 1 ≤ 601024) (hcy : cy + 6 ≤ 7293034) (K : ∀ I2 J2 W2, bm_Inv I2 J2 W2 → bm_VL L 182 1341 [(0, .ref 1400), (1, .ref 0), (2, .ref 164), (3, .ref 181), (4, .int (nI t))] [] (I2, J2, R, W2) (cx + 1) (cy + 6)) : bm_VL L 182 348 [(0, .ref 1400), (1, .ref 0), (2, .ref 164), (3, .ref 181), (4, .int (nI t))] [] (I, J, R, W) cx cy := by
  refine bl_aload_n dL_law_348 1 rfl ?_
  refine bl_aload_n dL_law_349 0 rfl ?_
  refine bl_iload dL_law_350 4 rfl ?_
  refine bl_iconst (v := 1) dL_law_352 (by decide) ?_
  refine bl_iadd dL_law_353 ?_
  refine bl_sald dL_law_354 (sc_in (k := 1) (by omega) hLN) ?_
  refine bl_aload_n dL_law_355 0 rfl ?_
  refine bl_iload dL_law_356 4 rfl ?_
  refine bl_iconst (v := 2) dL_law_358 (by decide) ?_
  refine bl_iadd dL_law_359 ?_
  refine bl_sald dL_law_360 (sc_in (k := 2) (by omega) hLN) ?_
  refine bl_aload_n dL_law_361 3 rfl ?_
  rcases e_man hI (L.2.2 (nI t + 1).toNatClampNeg) (L.2.2 (nI t + 2).toNatClampNeg) with ⟨v, I2, h1, h2, h3, h4⟩ | ⟨hx, w, I2, h2, h3, h4⟩
  · refine bl_callM (as := [.ref 0, .int (L.2.2 (nI t + 1).toNatClampNeg), .int (L.2.2 (nI t + 2).toNatClampNeg), .ref 181]) (st := []) (mc := 0) (ms := 0) (fun _ D cA ζ α sz hζ => bx_lmanN hR h1 D cA ζ α sz hζ) rfl (Nat.sub_self _) (Nat.le_of_ble_eq_true rfl) (Nat.le_of_ble_eq_true rfl) dL_law_362 rfl rfl (Nat.zero_le _) (by omega) (by omega) ?_
    exact lc_man2 hR hLN ht (by omega) (by omega) h2 h3 (fun _ => pn_uJ_hit rfl) (bl_wid (by omega) (by omega) (K I2 _ W (iv_181 h4)))
  · refine bl_callM (as := [.ref 0, .int (L.2.2 (nI t + 1).toNatClampNeg), .int (L.2.2 (nI t + 2).toNatClampNeg), .ref 181]) (st := []) (mc := 1) (ms := 6) (fun hst D cA ζ α sz hζ => bx_lmanT hst hR hx D cA ζ α sz hζ) rfl rfl (Nat.le_of_ble_eq_true rfl) (Nat.le_of_ble_eq_true rfl) dL_law_362 rfl rfl (Nat.zero_le _) hcx hcy ?_
    exact lc_man2 hR hLN ht hcx hcy h2 h3 (fun q => absurd q (by decide)) (K I2 J W h4)
