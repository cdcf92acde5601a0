theorem sc_in {t k N : Nat} (h : t + k < N) (hN : N < 2 ^ 31) : vp_in (nI t + nI k) N := by
  rw [nI_add]
  exact vp_in_nI h hN
theorem bm_swc (X : Int32) : (∃ j : Nat, j < 42 ∧ X = Int32.ofNat j) ∨ (X.toInt < 0 ∨ ((42 : Nat) : Int) - 1 < X.toInt) := by
  by_cases h : ∀ j : Nat, j < 42 → ¬ X = Int32.ofNat j
  · exact Or.inr (bm_sw (by decide) h)
  · refine Or.inl ?_
    apply Classical.byContradiction
    intro h2
    exact h (fun j hj hX => h2 ⟨j, hj, hX⟩)
theorem bm_lend {N t : Nat} (hN : N < 2 ^ 31) (ht : t < 2 ^ 31) (h : ¬ nI N - 6 < nI t) : t + 6 ≤ N := by
  rw [Int32.lt_iff_toInt_lt] at h
  have e : (nI N - 6).toInt = (N : Int) - 6 := by
    rw [Int32.toInt_sub, nI_toInt hN]
    have : (6 : Int32).toInt = 6 := rfl
    rw [this]
    exact Int.bmod_eq_of_le (by omega) (by omega)
  rw [e, nI_toInt ht] at h
  omega
set_option maxHeartbeats 4000000 in
set_option maxRecDepth 100000 in
theorem lc_feed {L : bm_L} {I : bm_TI} {J : bm_TJ} {R W : bm_TR} {t cx cy : Nat} (hR : bm_RR R) (hI : bm_Inv I J W) (hLN : L.2.1 < 2 ^ 31) (ht : t + 6 ≤ L.2.1) (hcx : cx ≤ 601024) (hcy : cy ≤ 7293034) (K : ∀ I2 J2 W2, bm_Inv I2 J2 W2 → bm_VL L 182 1341 [(0, .ref 1400), (1, .ref 0), (2, .ref 164), (3, .ref 181), (4, .int (nI t))] [] (I2, J2, R, W2) cx cy) : bm_VL L 182 224 [(0, .ref 1400), (1, .ref 0), (2, .ref 164), (3, .ref 181), (4, .int (nI t))] [] (I, J, R, W) cx cy := by
  obtain ⟨v, I1, I2, h1, h2, hI2⟩ := e_feed hI (L.2.2 (nI t + 1).toNatClampNeg) (L.2.2 (nI t + 2).toNatClampNeg) (L.2.2 (nI t + 3).toNatClampNeg) (L.2.2 (nI t + 4).toNatClampNeg) (L.2.2 (nI t + 5).toNatClampNeg)
  refine bl_aload_n dL_law_224 1 rfl ?_
  refine bl_aload_n dL_law_225 0 rfl ?_
  refine bl_iload dL_law_226 4 rfl ?_
  refine bl_iconst (v := 1) dL_law_228 (by decide) ?_
  refine bl_iadd dL_law_229 ?_
  refine bl_sald dL_law_230 (sc_in (k := 1) (by omega) hLN) ?_
  refine bl_aload_n dL_law_231 0 rfl ?_
  refine bl_iload dL_law_232 4 rfl ?_
  refine bl_iconst (v := 2) dL_law_234 (by decide) ?_
  refine bl_iadd dL_law_235 ?_
  refine bl_sald dL_law_236 (sc_in (k := 2) (by omega) hLN) ?_
  refine bl_aload_n dL_law_237 0 rfl ?_
  refine bl_iload dL_law_238 4 rfl ?_
  refine bl_iconst (v := 3) dL_law_240 (by decide) ?_
  refine bl_iadd dL_law_241 ?_
  refine bl_sald dL_law_242 (sc_in (k := 3) (by omega) hLN) ?_
  refine bl_aload_n dL_law_243 0 rfl ?_
  refine bl_iload dL_law_244 4 rfl ?_
  refine bl_iconst (v := 4) dL_law_246 (by decide) ?_
  refine bl_iadd dL_law_247 ?_
  refine bl_sald dL_law_248 (sc_in (k := 4) (by omega) hLN) ?_
  refine bl_aload_n dL_law_249 0 rfl ?_
  refine bl_iload dL_law_250 4 rfl ?_
  refine bl_iconst (v := 5) dL_law_252 (by decide) ?_
  refine bl_iadd dL_law_253 ?_
  refine bl_sald dL_law_254 (sc_in (k := 5) (by omega) hLN) ?_
  refine bl_callV (d := 0 + 1) (b := 0) (ci := 10) (As := [.int (L.2.2 (nI t + 1).toNatClampNeg), .int (L.2.2 (nI t + 2).toNatClampNeg), .int (L.2.2 (nI t + 3).toNatClampNeg), .int (L.2.2 (nI t + 4).toNatClampNeg), .int (L.2.2 (nI t + 5).toNatClampNeg)]) (by decide) (by decide) rfl ⟨_, _, rfl⟩ dL_law_255 mcl_19 (c_X11_feed (d := 0) (by decide) hR h1) rfl rfl (by decide) hcx hcy ?_
  refine bl_aload_n dL_law_258 2 rfl ?_
  refine bl_aload_n dL_law_259 0 rfl ?_
  refine bl_iload dL_law_260 4 rfl ?_
  refine bl_iconst (v := 1) dL_law_262 (by decide) ?_
  refine bl_iadd dL_law_263 ?_
  refine bl_sald dL_law_264 (sc_in (k := 1) (by omega) hLN) ?_
  refine bl_aload_n dL_law_265 0 rfl ?_
  refine bl_iload dL_law_266 4 rfl ?_
  refine bl_iconst (v := 2) dL_law_268 (by decide) ?_
  refine bl_iadd dL_law_269 ?_
  refine bl_sald dL_law_270 (sc_in (k := 2) (by omega) hLN) ?_
  refine bl_aload_n dL_law_271 0 rfl ?_
  refine bl_iload dL_law_272 4 rfl ?_
  refine bl_iconst (v := 3) dL_law_274 (by decide) ?_
  refine bl_iadd dL_law_275 ?_
  refine bl_sald dL_law_276 (sc_in (k := 3) (by omega) hLN) ?_
  refine bl_aload_n dL_law_277 0 rfl ?_
  refine bl_iload dL_law_278 4 rfl ?_
  refine bl_iconst (v := 4) dL_law_280 (by decide) ?_
  refine bl_iadd dL_law_281 ?_
  refine bl_sald dL_law_282 (sc_in (k := 4) (by omega) hLN) ?_
  refine bl_aload_n dL_law_283 0 rfl ?_
  refine bl_iload dL_law_284 4 rfl ?_
  refine bl_iconst (v := 5) dL_law_286 (by decide) ?_
  refine bl_iadd dL_law_287 ?_
  refine bl_sald dL_law_288 (sc_in (k := 5) (by omega) hLN) ?_
  refine bl_callV (d := 0 + 1) (b := 164) (ci := 11) (As := [.int (L.2.2 (nI t + 1).toNatClampNeg), .int (L.2.2 (nI t + 2).toNatClampNeg), .int (L.2.2 (nI t + 3).toNatClampNeg), .int (L.2.2 (nI t + 4).toNatClampNeg), .int (L.2.2 (nI t + 5).toNatClampNeg)]) (by decide) (by decide) rfl ⟨_, _, rfl⟩ dL_law_289 mcl_23 (c_X12_feed (d := 0) (by decide) hR h2) rfl rfl (Nat.le_of_ble_eq_true rfl) hcx hcy ?_
  exact bl_icmp_eq (tgt := 1341) dL_law_292 (by decide) (fun _ => K _ _ _ hI2) (fun cc => absurd rfl cc)
set_option maxHeartbeats 4000000 in
set_option maxRecDepth 100000 in
theorem lc_end {L : bm_L} {I : bm_TI} {J : bm_TJ} {R W : bm_TR} {t cx cy : Nat} (hR : bm_RR R) (hI : bm_Inv I J W) (hLN : L.2.1 < 2 ^ 31) (ht : t + 6 ≤ L.2.1) (hcx : cx ≤ 601024) (hcy : cy ≤ 7293034) (K : ∀ I2 J2 W2, bm_Inv I2 J2 W2 → bm_VL L 182 1341 [(0, .ref 1400), (1, .ref 0), (2, .ref 164), (3, .ref 181), (4, .int (nI t))] [] (I2, J2, R, W2) cx cy) : bm_VL L 182 297 [(0, .ref 1400), (1, .ref 0), (2, .ref 164), (3, .ref 181), (4, .int (nI t))] [] (I, J, R, W) cx cy := by
  obtain ⟨v, I1, I2, h1, h2, hI2⟩ := e_end hI (L.2.2 (nI t + 1).toNatClampNeg)
  refine bl_aload_n dL_law_297 1 rfl ?_
  refine bl_aload_n dL_law_298 0 rfl ?_
  refine bl_iload dL_law_299 4 rfl ?_
  refine bl_iconst (v := 1) dL_law_301 (by decide) ?_
  refine bl_iadd dL_law_302 ?_
  refine bl_sald dL_law_303 (sc_in (k := 1) (by omega) hLN) ?_
  refine bl_callV (d := 0) (b := 0) (ci := 10) (As := [.int (L.2.2 (nI t + 1).toNatClampNeg)]) (by decide) (by decide) rfl ⟨_, _, rfl⟩ dL_law_304 mcl_24 (c_X11_end (d := 0) (by decide) hR h1) rfl rfl (by decide) hcx hcy ?_
  refine bl_aload_n dL_law_307 2 rfl ?_
  refine bl_aload_n dL_law_308 0 rfl ?_
  refine bl_iload dL_law_309 4 rfl ?_
  refine bl_iconst (v := 1) dL_law_311 (by decide) ?_
  refine bl_iadd dL_law_312 ?_
  refine bl_sald dL_law_313 (sc_in (k := 1) (by omega) hLN) ?_
  refine bl_callV (d := 0) (b := 164) (ci := 11) (As := [.int (L.2.2 (nI t + 1).toNatClampNeg)]) (by decide) (by decide) rfl ⟨_, _, rfl⟩ dL_law_314 mcl_28 (c_X12_end (d := 0) (by decide) hR h2) rfl rfl (Nat.le_of_ble_eq_true rfl) hcx hcy ?_
  exact bl_icmp_eq (tgt := 1341) dL_law_317 (by decide) (fun _ => K _ _ _ hI2) (fun cc => absurd rfl cc)
set_option maxHeartbeats 4000000 in
set_option maxRecDepth 100000 in
theorem lc_army {L : bm_L} {I : bm_TI} {J : bm_TJ} {R W : bm_TR} {t cx cy : Nat} (hR : bm_RR R) (hI : bm_Inv I J W) (hLN : L.2.1 < 2 ^ 31) (ht : t + 6 ≤ L.2.1) (hcx : cx ≤ 601024) (hcy : cy ≤ 7293034) (K : ∀ I2 J2 W2, bm_Inv I2 J2 W2 → bm_VL L 182 1341 [(0, .ref 1400), (1, .ref 0), (2, .ref 164), (3, .ref 181), (4, .int (nI t))] [] (I2, J2, R, W2) cx cy) : bm_VL L 182 322 [(0, .ref 1400), (1, .ref 0), (2, .ref 164), (3, .ref 181), (4, .int (nI t))] [] (I, J, R, W) cx cy := by
  obtain ⟨v, I1, J1, W1, I2, J2, h1, h2, hI2⟩ := e_army hI
  refine bl_aload_n dL_law_322 1 rfl ?_
  refine bl_callV (d := 0 + 7) (b := 0) (ci := 10) (As := []) (by decide) (by decide) rfl ⟨_, _, rfl⟩ dL_law_323 mcl_29 (c_X11_army (d := 0) (by decide) hR h1) rfl rfl (by decide) hcx hcy ?_
  refine bl_aload_n dL_law_326 2 rfl ?_
  refine bl_callV (d := 0 + 6) (b := 164) (ci := 11) (As := []) (by decide) (by decide) rfl ⟨_, _, rfl⟩ dL_law_327 mcl_33 (c_X12_army (d := 0) (by decide) hR h2) rfl rfl (Nat.le_of_ble_eq_true rfl) hcx hcy ?_
  exact bl_icmp_eq (tgt := 1341) dL_law_330 (by decide) (fun _ => K _ _ _ hI2) (fun cc => absurd rfl cc)
set_option maxHeartbeats 4000000 in
set_option maxRecDepth 100000 in
theorem lc_fault {L : bm_L} {I : bm_TI} {J : bm_TJ} {R W : bm_TR} {t cx cy : Nat} (hR : bm_RR R) (hI : bm_Inv I J W) (hLN : L.2.1 < 2 ^ 31) (ht : t + 6 ≤ L.2.1) (hcx : cx ≤ 601024) (hcy : cy ≤ 7293034) (K : ∀ I2 J2 W2, bm_Inv I2 J2 W2 → bm_VL L 182 1341 [(0, .ref 1400), (1, .ref 0), (2, .ref 164), (3, .ref 181), (4, .int (nI t))] [] (I2, J2, R, W2) cx cy) : bm_VL L 182 335 [(0, .ref 1400), (1, .ref 0), (2, .ref 164), (3, .ref 181), (4, .int (nI t))] [] (I, J, R, W) cx cy := by
  obtain ⟨v, I2, h1, h2, hI2⟩ := e_fault hI
  refine bl_aload_n dL_law_335 1 rfl ?_
  refine bl_callV (d := 0) (b := 0) (ci := 10) (As := []) (by decide) (by decide) rfl ⟨_, _, rfl⟩ dL_law_336 mcl_34 (c_X11_fault (d := 0) (by decide) hR h1) rfl rfl (by decide) hcx hcy ?_
  refine bl_aload_n dL_law_339 2 rfl ?_
  refine bl_callV (d := 0) (b := 164) (ci := 11) (As := []) (by decide) (by decide) rfl ⟨_, _, rfl⟩ dL_law_340 mcl_37 (c_X12_fault (d := 0) (by decide) hR h2) rfl rfl (Nat.le_of_ble_eq_true rfl) hcx hcy ?_
  exact bl_icmp_eq (tgt := 1341) dL_law_343 (by decide) (fun _ => K _ _ _ hI2) (fun cc => absurd rfl cc)
set_option maxHeartbeats 4000000 in
set_option maxRecDepth 100000 in
theorem lc_order {L : bm_L} {I : bm_TI} {J : bm_TJ} {R W : bm_TR} {t cx cy : Nat} (hR : bm_RR R) (hI : bm_Inv I J W) (hLN : L.2.1 < 2 ^ 31) (ht : t + 6 ≤ L.2.1) (hcx : cx ≤ 601024) (hcy : cy ≤ 7293034) (K : ∀ I2 J2 W2, bm_Inv I2 J2 W2 → bm_VL L 182 1341 [(0, .ref 1400), (1, .ref 0), (2, .ref 164), (3, .ref 181), (4, .int (nI t))] [] (I2, J2, R, W2) cx cy) : bm_VL L 182 416 [(0, .ref 1400), (1, .ref 0), (2, .ref 164), (3, .ref 181), (4, .int (nI t))] [] (I, J, R, W) cx cy := by
  obtain ⟨v, I2, h1, h2, hI2⟩ := e_order hI (L.2.2 (nI t + 1).toNatClampNeg) (L.2.2 (nI t + 2).toNatClampNeg)
  refine bl_aload_n dL_law_416 1 rfl ?_
  refine bl_aload_n dL_law_417 0 rfl ?_
  refine bl_iload dL_law_418 4 rfl ?_
  refine bl_iconst (v := 1) dL_law_420 (by decide) ?_
  refine bl_iadd dL_law_421 ?_
  refine bl_sald dL_law_422 (sc_in (k := 1) (by omega) hLN) ?_
  refine bl_aload_n dL_law_423 0 rfl ?_
  refine bl_iload dL_law_424 4 rfl ?_
  refine bl_iconst (v := 2) dL_law_426 (by decide) ?_
  refine bl_iadd dL_law_427 ?_
  refine bl_sald dL_law_428 (sc_in (k := 2) (by omega) hLN) ?_
  refine bl_callV (d := 0 + 1) (b := 0) (ci := 10) (As := [.int (L.2.2 (nI t + 1).toNatClampNeg), .int (L.2.2 (nI t + 2).toNatClampNeg)]) (by decide) (by decide) rfl ⟨_, _, rfl⟩ dL_law_429 mcl_47 (c_X11_order (d := 0) (by decide) hR h1) rfl rfl (by decide) hcx hcy ?_
  refine bl_aload_n dL_law_432 2 rfl ?_
  refine bl_aload_n dL_law_433 0 rfl ?_
  refine bl_iload dL_law_434 4 rfl ?_
  refine bl_iconst (v := 1) dL_law_436 (by decide) ?_
  refine bl_iadd dL_law_437 ?_
  refine bl_sald dL_law_438 (sc_in (k := 1) (by omega) hLN) ?_
  refine bl_aload_n dL_law_439 0 rfl ?_
  refine bl_iload dL_law_440 4 rfl ?_
  refine bl_iconst (v := 2) dL_law_442 (by decide) ?_
  refine bl_iadd dL_law_443 ?_
  refine bl_sald dL_law_444 (sc_in (k := 2) (by omega) hLN) ?_
  refine bl_callV (d := 0 + 2) (b := 164) (ci := 11) (As := [.int (L.2.2 (nI t + 1).toNatClampNeg), .int (L.2.2 (nI t + 2).toNatClampNeg)]) (by decide) (by decide) rfl ⟨_, _, rfl⟩ dL_law_445 mcl_50 (c_X12_order (d := 0) (by decide) hR h2) rfl rfl (Nat.le_of_ble_eq_true rfl) hcx hcy ?_
  exact bl_icmp_eq (tgt := 1341) dL_law_448 (by decide) (fun _ => K _ _ _ hI2) (fun cc => absurd rfl cc)
set_option maxHeartbeats 4000000 in
set_option maxRecDepth 100000 in
theorem lc_now {L : bm_L} {I : bm_TI} {J : bm_TJ} {R W : bm_TR} {t cx cy : Nat} (hR : bm_RR R) (hI : bm_Inv I J W) (hLN : L.2.1 < 2 ^ 31) (ht : t + 6 ≤ L.2.1) (hcx : cx ≤ 601024) (hcy : cy ≤ 7293034) (K : ∀ I2 J2 W2, bm_Inv I2 J2 W2 → bm_VL L 182 1341 [(0, .ref 1400), (1, .ref 0), (2, .ref 164), (3, .ref 181), (4, .int (nI t))] [] (I2, J2, R, W2) cx cy) : bm_VL L 182 453 [(0, .ref 1400), (1, .ref 0), (2, .ref 164), (3, .ref 181), (4, .int (nI t))] [] (I, J, R, W) cx cy := by
  obtain ⟨v, I2, h1, h2, hI2⟩ := e_now hI (L.2.2 (nI t + 1).toNatClampNeg)
  refine bl_aload_n dL_law_453 1 rfl ?_
  refine bl_aload_n dL_law_454 0 rfl ?_
  refine bl_iload dL_law_455 4 rfl ?_
  refine bl_iconst (v := 1) dL_law_457 (by decide) ?_
  refine bl_iadd dL_law_458 ?_
  refine bl_sald dL_law_459 (sc_in (k := 1) (by omega) hLN) ?_
  refine bl_callV (d := 0 + 2) (b := 0) (ci := 10) (As := [.int (L.2.2 (nI t + 1).toNatClampNeg)]) (by decide) (by decide) rfl ⟨_, _, rfl⟩ dL_law_460 mcl_51 (c_X11_now (d := 0) (by decide) hR h1) rfl rfl (by decide) hcx hcy ?_
  refine bl_aload_n dL_law_463 2 rfl ?_
  refine bl_aload_n dL_law_464 0 rfl ?_
  refine bl_iload dL_law_465 4 rfl ?_
  refine bl_iconst (v := 1) dL_law_467 (by decide) ?_
  refine bl_iadd dL_law_468 ?_
  refine bl_sald dL_law_469 (sc_in (k := 1) (by omega) hLN) ?_
  refine bl_callV (d := 0 + 1) (b := 164) (ci := 11) (As := [.int (L.2.2 (nI t + 1).toNatClampNeg)]) (by decide) (by decide) rfl ⟨_, _, rfl⟩ dL_law_470 mcl_55 (c_X12_now (d := 0) (by decide) hR h2) rfl rfl (Nat.le_of_ble_eq_true rfl) hcx hcy ?_
  exact bl_icmp_eq (tgt := 1341) dL_law_473 (by decide) (fun _ => K _ _ _ hI2) (fun cc => absurd rfl cc)
set_option maxHeartbeats 4000000 in
set_option maxRecDepth 100000 in
theorem lc_lift {L : bm_L} {I : bm_TI} {J : bm_TJ} {R W : bm_TR} {t cx cy : Nat} (hR : bm_RR R) (hI : bm_Inv I J W) (hLN : L.2.1 < 2 ^ 31) (ht : t + 6 ≤ L.2.1) (hcx : cx ≤ 601024) (hcy : cy ≤ 7293034) (K : ∀ I2 J2 W2, bm_Inv I2 J2 W2 → bm_VL L 182 1341 [(0, .ref 1400), (1, .ref 0), (2, .ref 164), (3, .ref 181), (4, .int (nI t))] [] (I2, J2, R, W2) cx cy) : bm_VL L 182 478 [(0, .ref 1400), (1, .ref 0), (2, .ref 164), (3, .ref 181), (4, .int (nI t))] [] (I, J, R, W) cx cy := by
  obtain ⟨v, I1, I2, h1, h2, hI2⟩ := e_lift hI (L.2.2 (nI t + 1).toNatClampNeg) (L.2.2 (nI t + 2).toNatClampNeg)
  refine bl_aload_n dL_law_478 1 rfl ?_
  refine bl_aload_n dL_law_479 0 rfl ?_
  refine bl_iload dL_law_480 4 rfl ?_
  refine bl_iconst (v := 1) dL_law_482 (by decide) ?_
  refine bl_iadd dL_law_483 ?_
  refine bl_sald dL_law_484 (sc_in (k := 1) (by omega) hLN) ?_
  refine bl_aload_n dL_law_485 0 rfl ?_
  refine bl_iload dL_law_486 4 rfl ?_
  refine bl_iconst (v := 2) dL_law_488 (by decide) ?_
  refine bl_iadd dL_law_489 ?_
  refine bl_sald dL_law_490 (sc_in (k := 2) (by omega) hLN) ?_
  refine bl_callV (d := 0 + 7) (b := 0) (ci := 10) (As := [.int (L.2.2 (nI t + 1).toNatClampNeg), .int (L.2.2 (nI t + 2).toNatClampNeg)]) (by decide) (by decide) rfl ⟨_, _, rfl⟩ dL_law_491 mcl_56 (c_X11_lift (d := 0) (by decide) hR h1) rfl rfl (by decide) hcx hcy ?_
  refine bl_aload_n dL_law_494 2 rfl ?_
  refine bl_aload_n dL_law_495 0 rfl ?_
  refine bl_iload dL_law_496 4 rfl ?_
  refine bl_iconst (v := 1) dL_law_498 (by decide) ?_
  refine bl_iadd dL_law_499 ?_
  refine bl_sald dL_law_500 (sc_in (k := 1) (by omega) hLN) ?_
  refine bl_aload_n dL_law_501 0 rfl ?_
  refine bl_iload dL_law_502 4 rfl ?_
  refine bl_iconst (v := 2) dL_law_504 (by decide) ?_
  refine bl_iadd dL_law_505 ?_
  refine bl_sald dL_law_506 (sc_in (k := 2) (by omega) hLN) ?_
  refine bl_callV (d := 0 + 7) (b := 164) (ci := 11) (As := [.int (L.2.2 (nI t + 1).toNatClampNeg), .int (L.2.2 (nI t + 2).toNatClampNeg)]) (by decide) (by decide) rfl ⟨_, _, rfl⟩ dL_law_507 mcl_59 (c_X12_lift (d := 0) (by decide) hR h2) rfl rfl (Nat.le_of_ble_eq_true rfl) hcx hcy ?_
  exact bl_icmp_eq (tgt := 1341) dL_law_510 (by decide) (fun _ => K _ _ _ hI2) (fun cc => absurd rfl cc)
set_option maxHeartbeats 4000000 in
set_option maxRecDepth 100000 in
theorem lc_give {L : bm_L} {I : bm_TI} {J : bm_TJ} {R W : bm_TR} {t cx cy : Nat} (hR : bm_RR R) (hI : bm_Inv I J W) (hLN : L.2.1 < 2 ^ 31) (ht : t + 6 ≤ L.2.1) (hcx : cx ≤ 601024) (hcy : cy ≤ 7293034) (K : ∀ I2 J2 W2, bm_Inv I2 J2 W2 → bm_VL L 182 1341 [(0, .ref 1400), (1, .ref 0), (2, .ref 164), (3, .ref 181), (4, .int (nI t))] [] (I2, J2, R, W2) cx cy) : bm_VL L 182 515 [(0, .ref 1400), (1, .ref 0), (2, .ref 164), (3, .ref 181), (4, .int (nI t))] [] (I, J, R, W) cx cy := by
  obtain ⟨v, I1, I2, h1, h2, hI2⟩ := e_give hI (L.2.2 (nI t + 1).toNatClampNeg) (L.2.2 (nI t + 2).toNatClampNeg)
  refine bl_aload_n dL_law_515 1 rfl ?_
  refine bl_aload_n dL_law_516 0 rfl ?_
  refine bl_iload dL_law_517 4 rfl ?_
  refine bl_iconst (v := 1) dL_law_519 (by decide) ?_
  refine bl_iadd dL_law_520 ?_
  refine bl_sald dL_law_521 (sc_in (k := 1) (by omega) hLN) ?_
  refine bl_aload_n dL_law_522 0 rfl ?_
  refine bl_iload dL_law_523 4 rfl ?_
  refine bl_iconst (v := 2) dL_law_525 (by decide) ?_
  refine bl_iadd dL_law_526 ?_
  refine bl_sald dL_law_527 (sc_in (k := 2) (by omega) hLN) ?_
  refine bl_callV (d := 0 + 7) (b := 0) (ci := 10) (As := [.int (L.2.2 (nI t + 1).toNatClampNeg), .int (L.2.2 (nI t + 2).toNatClampNeg)]) (by decide) (by decide) rfl ⟨_, _, rfl⟩ dL_law_528 mcl_60 (c_X11_give (d := 0) (by decide) hR h1) rfl rfl (by decide) hcx hcy ?_
  refine bl_aload_n dL_law_531 2 rfl ?_
  refine bl_aload_n dL_law_532 0 rfl ?_
  refine bl_iload dL_law_533 4 rfl ?_
  refine bl_iconst (v := 1) dL_law_535 (by decide) ?_
  refine bl_iadd dL_law_536 ?_
  refine bl_sald dL_law_537 (sc_in (k := 1) (by omega) hLN) ?_
  refine bl_aload_n dL_law_538 0 rfl ?_
  refine bl_iload dL_law_539 4 rfl ?_
  refine bl_iconst (v := 2) dL_law_541 (by decide) ?_
  refine bl_iadd dL_law_542 ?_
  refine bl_sald dL_law_543 (sc_in (k := 2) (by omega) hLN) ?_
  refine bl_callV (d := 0 + 8) (b := 164) (ci := 11) (As := [.int (L.2.2 (nI t + 1).toNatClampNeg), .int (L.2.2 (nI t + 2).toNatClampNeg)]) (by decide) (by decide) rfl ⟨_, _, rfl⟩ dL_law_544 mcl_63 (c_X12_give (d := 0) (by decide) hR h2) rfl rfl (Nat.le_of_ble_eq_true rfl) hcx hcy ?_
  exact bl_icmp_eq (tgt := 1341) dL_law_547 (by decide) (fun _ => K _ _ _ hI2) (fun cc => absurd rfl cc)
set_option maxHeartbeats 4000000 in
set_option maxRecDepth 100000 in
theorem lc_sleep {L : bm_L} {I : bm_TI} {J : bm_TJ} {R W : bm_TR} {t cx cy : Nat} (hR : bm_RR R) (hI : bm_Inv I J W) (hLN : L.2.1 < 2 ^ 31) (ht : t + 6 ≤ L.2.1) (hcx : cx ≤ 601024) (hcy : cy ≤ 7293034) (K : ∀ I2 J2 W2, bm_Inv I2 J2 W2 → bm_VL L 182 1341 [(0, .ref 1400), (1, .ref 0), (2, .ref 164), (3, .ref 181), (4, .int (nI t))] [] (I2, J2, R, W2) cx cy) : bm_VL L 182 552 [(0, .ref 1400), (1, .ref 0), (2, .ref 164), (3, .ref 181), (4, .int (nI t))] [] (I, J, R, W) cx cy := by
  obtain ⟨v, I1, I2, h1, h2, hI2⟩ := e_sleep hI (L.2.2 (nI t + 1).toNatClampNeg)
  refine bl_aload_n dL_law_552 1 rfl ?_
  refine bl_aload_n dL_law_553 0 rfl ?_
  refine bl_iload dL_law_554 4 rfl ?_
  refine bl_iconst (v := 1) dL_law_556 (by decide) ?_
  refine bl_iadd dL_law_557 ?_
  refine bl_sald dL_law_558 (sc_in (k := 1) (by omega) hLN) ?_
  refine bl_callV (d := 0 + 7) (b := 0) (ci := 10) (As := [.int (L.2.2 (nI t + 1).toNatClampNeg)]) (by decide) (by decide) rfl ⟨_, _, rfl⟩ dL_law_559 mcl_64 (c_X11_sleep (d := 0) (by decide) hR h1) rfl rfl (by decide) hcx hcy ?_
  refine bl_aload_n dL_law_562 2 rfl ?_
  refine bl_aload_n dL_law_563 0 rfl ?_
  refine bl_iload dL_law_564 4 rfl ?_
  refine bl_iconst (v := 1) dL_law_566 (by decide) ?_
  refine bl_iadd dL_law_567 ?_
  refine bl_sald dL_law_568 (sc_in (k := 1) (by omega) hLN) ?_
  refine bl_callV (d := 0 + 3) (b := 164) (ci := 11) (As := [.int (L.2.2 (nI t + 1).toNatClampNeg)]) (by decide) (by decide) rfl ⟨_, _, rfl⟩ dL_law_569 mcl_67 (c_X12_sleep (d := 0) (by decide) hR h2) rfl rfl (Nat.le_of_ble_eq_true rfl) hcx hcy ?_
  exact bl_icmp_eq (tgt := 1341) dL_law_572 (by decide) (fun _ => K _ _ _ hI2) (fun cc => absurd rfl cc)
set_option maxHeartbeats 4000000 in
set_option maxRecDepth 100000 in
theorem lc_wake {L : bm_L} {I : bm_TI} {J : bm_TJ} {R W : bm_TR} {t cx cy : Nat} (hR : bm_RR R) (hI : bm_Inv I J W) (hLN : L.2.1 < 2 ^ 31) (ht : t + 6 ≤ L.2.1) (hcx : cx ≤ 601024) (hcy : cy ≤ 7293034) (K : ∀ I2 J2 W2, bm_Inv I2 J2 W2 → bm_VL L 182 1341 [(0, .ref 1400), (1, .ref 0), (2, .ref 164), (3, .ref 181), (4, .int (nI t))] [] (I2, J2, R, W2) cx cy) : bm_VL L 182 577 [(0, .ref 1400), (1, .ref 0), (2, .ref 164), (3, .ref 181), (4, .int (nI t))] [] (I, J, R, W) cx cy := by
  obtain ⟨v, I1, I2, h1, h2, hI2⟩ := e_wake hI (L.2.2 (nI t + 1).toNatClampNeg)
  refine bl_aload_n dL_law_577 1 rfl ?_
  refine bl_aload_n dL_law_578 0 rfl ?_
  refine bl_iload dL_law_579 4 rfl ?_
  refine bl_iconst (v := 1) dL_law_581 (by decide) ?_
  refine bl_iadd dL_law_582 ?_
  refine bl_sald dL_law_583 (sc_in (k := 1) (by omega) hLN) ?_
  refine bl_callV (d := 0 + 7) (b := 0) (ci := 10) (As := [.int (L.2.2 (nI t + 1).toNatClampNeg)]) (by decide) (by decide) rfl ⟨_, _, rfl⟩ dL_law_584 mcl_68 (c_X11_wake (d := 0) (by decide) hR h1) rfl rfl (by decide) hcx hcy ?_
  refine bl_aload_n dL_law_587 2 rfl ?_
  refine bl_aload_n dL_law_588 0 rfl ?_
  refine bl_iload dL_law_589 4 rfl ?_
  refine bl_iconst (v := 1) dL_law_591 (by decide) ?_
  refine bl_iadd dL_law_592 ?_
  refine bl_sald dL_law_593 (sc_in (k := 1) (by omega) hLN) ?_
  refine bl_callV (d := 0 + 3) (b := 164) (ci := 11) (As := [.int (L.2.2 (nI t + 1).toNatClampNeg)]) (by decide) (by decide) rfl ⟨_, _, rfl⟩ dL_law_594 mcl_71 (c_X12_wake (d := 0) (by decide) hR h2) rfl rfl (Nat.le_of_ble_eq_true rfl) hcx hcy ?_
  exact bl_icmp_eq (tgt := 1341) dL_law_597 (by decide) (fun _ => K _ _ _ hI2) (fun cc => absurd rfl cc)
set_option maxHeartbeats 4000000 in
set_option maxRecDepth 100000 in
theorem lc_soot {L : bm_L} {I : bm_TI} {J : bm_TJ} {R W : bm_TR} {t cx cy : Nat} (hR : bm_RR R) (hI : bm_Inv I J W) (hLN : L.2.1 < 2 ^ 31) (ht : t + 6 ≤ L.2.1) (hcx : cx ≤ 601024) (hcy : cy ≤ 7293034) (K : ∀ I2 J2 W2, bm_Inv I2 J2 W2 → bm_VL L 182 1341 [(0, .ref 1400), (1, .ref 0), (2, .ref 164), (3, .ref 181), (4, .int (nI t))] [] (I2, J2, R, W2) cx cy) : bm_VL L 182 602 [(0, .ref 1400), (1, .ref 0), (2, .ref 164), (3, .ref 181), (4, .int (nI t))] [] (I, J, R, W) cx cy := by
  obtain ⟨v, I1, I2, h1, h2, hI2⟩ := e_soot hI (L.2.2 (nI t + 1).toNatClampNeg)
  refine bl_aload_n dL_law_602 1 rfl ?_
  refine bl_aload_n dL_law_603 0 rfl ?_
  refine bl_iload dL_law_604 4 rfl ?_
  refine bl_iconst (v := 1) dL_law_606 (by decide) ?_
  refine bl_iadd dL_law_607 ?_
  refine bl_sald dL_law_608 (sc_in (k := 1) (by omega) hLN) ?_
  refine bl_callV (d := 0 + 7) (b := 0) (ci := 10) (As := [.int (L.2.2 (nI t + 1).toNatClampNeg)]) (by decide) (by decide) rfl ⟨_, _, rfl⟩ dL_law_609 mcl_72 (c_X11_soot (d := 0) (by decide) hR h1) rfl rfl (by decide) hcx hcy ?_
  refine bl_aload_n dL_law_612 2 rfl ?_
  refine bl_aload_n dL_law_613 0 rfl ?_
  refine bl_iload dL_law_614 4 rfl ?_
  refine bl_iconst (v := 1) dL_law_616 (by decide) ?_
  refine bl_iadd dL_law_617 ?_
  refine bl_sald dL_law_618 (sc_in (k := 1) (by omega) hLN) ?_
  refine bl_callV (d := 0 + 3) (b := 164) (ci := 11) (As := [.int (L.2.2 (nI t + 1).toNatClampNeg)]) (by decide) (by decide) rfl ⟨_, _, rfl⟩ dL_law_619 mcl_75 (c_X12_soot (d := 0) (by decide) hR h2) rfl rfl (Nat.le_of_ble_eq_true rfl) hcx hcy ?_
  exact bl_icmp_eq (tgt := 1341) dL_law_622 (by decide) (fun _ => K _ _ _ hI2) (fun cc => absurd rfl cc)
set_option maxHeartbeats 4000000 in
set_option maxRecDepth 100000 in
theorem lc_go {L : bm_L} {I : bm_TI} {J : bm_TJ} {R W : bm_TR} {t cx cy : Nat} (hR : bm_RR R) (hI : bm_Inv I J W) (hLN : L.2.1 < 2 ^ 31) (ht : t + 6 ≤ L.2.1) (hcx : cx ≤ 601024) (hcy : cy ≤ 7293034) (K : ∀ I2 J2 W2, bm_Inv I2 J2 W2 → bm_VL L 182 1341 [(0, .ref 1400), (1, .ref 0), (2, .ref 164), (3, .ref 181), (4, .int (nI t))] [] (I2, J2, R, W2) cx cy) : bm_VL L 182 627 [(0, .ref 1400), (1, .ref 0), (2, .ref 164), (3, .ref 181), (4, .int (nI t))] [] (I, J, R, W) cx cy := by
  obtain ⟨v, I1, I2, h1, h2, hI2⟩ := e_go hI (L.2.2 (nI t + 1).toNatClampNeg) (L.2.2 (nI t + 2).toNatClampNeg)
  refine bl_aload_n dL_law_627 1 rfl ?_
  refine bl_aload_n dL_law_628 0 rfl ?_
  refine bl_iload dL_law_629 4 rfl ?_
  refine bl_iconst (v := 1) dL_law_631 (by decide) ?_
  refine bl_iadd dL_law_632 ?_
  refine bl_sald dL_law_633 (sc_in (k := 1) (by omega) hLN) ?_
  refine bl_aload_n dL_law_634 0 rfl ?_
  refine bl_iload dL_law_635 4 rfl ?_
  refine bl_iconst (v := 2) dL_law_637 (by decide) ?_
  refine bl_iadd dL_law_638 ?_
  refine bl_sald dL_law_639 (sc_in (k := 2) (by omega) hLN) ?_
  refine bl_callV (d := 0 + 7) (b := 0) (ci := 10) (As := [.int (L.2.2 (nI t + 1).toNatClampNeg), .int (L.2.2 (nI t + 2).toNatClampNeg)]) (by decide) (by decide) rfl ⟨_, _, rfl⟩ dL_law_640 mcl_76 (c_X11_go (d := 0) (by decide) hR h1) rfl rfl (by decide) hcx hcy ?_
  refine bl_aload_n dL_law_643 2 rfl ?_
  refine bl_aload_n dL_law_644 0 rfl ?_
  refine bl_iload dL_law_645 4 rfl ?_
  refine bl_iconst (v := 1) dL_law_647 (by decide) ?_
  refine bl_iadd dL_law_648 ?_
  refine bl_sald dL_law_649 (sc_in (k := 1) (by omega) hLN) ?_
  refine bl_aload_n dL_law_650 0 rfl ?_
  refine bl_iload dL_law_651 4 rfl ?_
  refine bl_iconst (v := 2) dL_law_653 (by decide) ?_
  refine bl_iadd dL_law_654 ?_
  refine bl_sald dL_law_655 (sc_in (k := 2) (by omega) hLN) ?_
  refine bl_callV (d := 0 + 2) (b := 164) (ci := 11) (As := [.int (L.2.2 (nI t + 1).toNatClampNeg), .int (L.2.2 (nI t + 2).toNatClampNeg)]) (by decide) (by decide) rfl ⟨_, _, rfl⟩ dL_law_656 mcl_79 (c_X12_go (d := 0) (by decide) hR h2) rfl rfl (Nat.le_of_ble_eq_true rfl) hcx hcy ?_
  exact bl_icmp_eq (tgt := 1341) dL_law_659 (by decide) (fun _ => K _ _ _ hI2) (fun cc => absurd rfl cc)
set_option maxHeartbeats 4000000 in
set_option maxRecDepth 100000 in
theorem lc_hours {L : bm_L} {I : bm_TI} {J : bm_TJ} {R W : bm_TR} {t cx cy : Nat} (hR : bm_RR R) (hI : bm_Inv I J W) (hLN : L.2.1 < 2 ^ 31) (ht : t + 6 ≤ L.2.1) (hcx : cx ≤ 601024) (hcy : cy ≤ 7293034) (K : ∀ I2 J2 W2, bm_Inv I2 J2 W2 → bm_VL L 182 1341 [(0, .ref 1400), (1, .ref 0), (2, .ref 164), (3, .ref 181), (4, .int (nI t))] [] (I2, J2, R, W2) cx cy) : bm_VL L 182 664 [(0, .ref 1400), (1, .ref 0), (2, .ref 164), (3, .ref 181), (4, .int (nI t))] [] (I, J, R, W) cx cy := by
  obtain ⟨v, I1, I2, h1, h2, hI2⟩ := e_hours hI (L.2.2 (nI t + 1).toNatClampNeg)
  refine bl_aload_n dL_law_664 1 rfl ?_
  refine bl_aload_n dL_law_665 0 rfl ?_
  refine bl_iload dL_law_666 4 rfl ?_
  refine bl_iconst (v := 1) dL_law_668 (by decide) ?_
  refine bl_iadd dL_law_669 ?_
  refine bl_sald dL_law_670 (sc_in (k := 1) (by omega) hLN) ?_
  refine bl_callV (d := 0 + 5) (b := 0) (ci := 10) (As := [.int (L.2.2 (nI t + 1).toNatClampNeg)]) (by decide) (by decide) rfl ⟨_, _, rfl⟩ dL_law_671 mcl_80 (c_X11_hours (d := 0) (by decide) hR h1) rfl rfl (by decide) hcx hcy ?_
  refine bl_aload_n dL_law_674 2 rfl ?_
  refine bl_aload_n dL_law_675 0 rfl ?_
  refine bl_iload dL_law_676 4 rfl ?_
  refine bl_iconst (v := 1) dL_law_678 (by decide) ?_
  refine bl_iadd dL_law_679 ?_
  refine bl_sald dL_law_680 (sc_in (k := 1) (by omega) hLN) ?_
  refine bl_callV (d := 0 + 10) (b := 164) (ci := 11) (As := [.int (L.2.2 (nI t + 1).toNatClampNeg)]) (by decide) (by decide) rfl ⟨_, _, rfl⟩ dL_law_681 mcl_83 (c_X12_hours (d := 0) (by decide) hR h2) rfl rfl (Nat.le_of_ble_eq_true rfl) hcx hcy ?_
  exact bl_icmp_eq (tgt := 1341) dL_law_684 (by decide) (fun _ => K _ _ _ hI2) (fun cc => absurd rfl cc)
set_option maxHeartbeats 4000000 in
set_option maxRecDepth 100000 in
theorem lc_undo {L : bm_L} {I : bm_TI} {J : bm_TJ} {R W : bm_TR} {t cx cy : Nat} (hR : bm_RR R) (hI : bm_Inv I J W) (hLN : L.2.1 < 2 ^ 31) (ht : t + 6 ≤ L.2.1) (hcx : cx ≤ 601024) (hcy : cy ≤ 7293034) (K : ∀ I2 J2 W2, bm_Inv I2 J2 W2 → bm_VL L 182 1341 [(0, .ref 1400), (1, .ref 0), (2, .ref 164), (3, .ref 181), (4, .int (nI t))] [] (I2, J2, R, W2) cx cy) : bm_VL L 182 689 [(0, .ref 1400), (1, .ref 0), (2, .ref 164), (3, .ref 181), (4, .int (nI t))] [] (I, J, R, W) cx cy := by
  obtain ⟨v, I1, I2, h1, h2, hI2⟩ := e_undo hI
  refine bl_aload_n dL_law_689 1 rfl ?_
  refine bl_callV (d := 0 + 3) (b := 0) (ci := 10) (As := []) (by decide) (by decide) rfl ⟨_, _, rfl⟩ dL_law_690 mcl_84 (c_X11_undo (d := 0) (by decide) hR h1) rfl rfl (by decide) hcx hcy ?_
  refine bl_aload_n dL_law_693 2 rfl ?_
  refine bl_callV (d := 0) (b := 164) (ci := 11) (As := []) (by decide) (by decide) rfl ⟨_, _, rfl⟩ dL_law_694 mcl_87 (c_X12_undo (d := 0) (by decide) hR h2) rfl rfl (Nat.le_of_ble_eq_true rfl) hcx hcy ?_
  exact bl_icmp_eq (tgt := 1341) dL_law_697 (by decide) (fun _ => K _ _ _ hI2) (fun cc => absurd rfl cc)
set_option maxHeartbeats 4000000 in
set_option maxRecDepth 100000 in
theorem lc_sees {L : bm_L} {I : bm_TI} {J : bm_TJ} {R W : bm_TR} {t cx cy : Nat} (hR : bm_RR R) (hI : bm_Inv I J W) (hLN : L.2.1 < 2 ^ 31) (ht : t + 6 ≤ L.2.1) (hcx : cx ≤ 601024) (hcy : cy ≤ 7293034) (K : ∀ I2 J2 W2, bm_Inv I2 J2 W2 → bm_VL L 182 1341 [(0, .ref 1400), (1, .ref 0), (2, .ref 164), (3, .ref 181), (4, .int (nI t))] [] (I2, J2, R, W2) cx cy) : bm_VL L 182 702 [(0, .ref 1400), (1, .ref 0), (2, .ref 164), (3, .ref 181), (4, .int (nI t))] [] (I, J, R, W) cx cy := by
  obtain ⟨v, I2, h1, h2, hI2⟩ := e_sees hI (L.2.2 (nI t + 1).toNatClampNeg)
  refine bl_aload_n dL_law_702 1 rfl ?_
  refine bl_aload_n dL_law_703 0 rfl ?_
  refine bl_iload dL_law_704 4 rfl ?_
  refine bl_iconst (v := 1) dL_law_706 (by decide) ?_
  refine bl_iadd dL_law_707 ?_
  refine bl_sald dL_law_708 (sc_in (k := 1) (by omega) hLN) ?_
  refine bl_callV (d := 0 + 4) (b := 0) (ci := 10) (As := [.int (L.2.2 (nI t + 1).toNatClampNeg)]) (by decide) (by decide) rfl ⟨_, _, rfl⟩ dL_law_709 mcl_88 (c_X11_sees (d := 0) (by decide) hR h1) rfl rfl (by decide) hcx hcy ?_
  refine bl_aload_n dL_law_712 2 rfl ?_
  refine bl_aload_n dL_law_713 0 rfl ?_
  refine bl_iload dL_law_714 4 rfl ?_
  refine bl_iconst (v := 1) dL_law_716 (by decide) ?_
  refine bl_iadd dL_law_717 ?_
  refine bl_sald dL_law_718 (sc_in (k := 1) (by omega) hLN) ?_
  refine bl_callV (d := 0 + 5) (b := 164) (ci := 11) (As := [.int (L.2.2 (nI t + 1).toNatClampNeg)]) (by decide) (by decide) rfl ⟨_, _, rfl⟩ dL_law_719 mcl_91 (c_X12_sees (d := 0) (by decide) hR h2) rfl rfl (Nat.le_of_ble_eq_true rfl) hcx hcy ?_
  exact bl_icmp_eq (tgt := 1341) dL_law_722 (by decide) (fun _ => K _ _ _ hI2) (fun cc => absurd rfl cc)
set_option maxHeartbeats 4000000 in
set_option maxRecDepth 100000 in
theorem lc_reads {L : bm_L} {I : bm_TI} {J : bm_TJ} {R W : bm_TR} {t cx cy : Nat} (hR : bm_RR R) (hI : bm_Inv I J W) (hLN : L.2.1 < 2 ^ 31) (ht : t + 6 ≤ L.2.1) (hcx : cx ≤ 601024) (hcy : cy ≤ 7293034) (K : ∀ I2 J2 W2, bm_Inv I2 J2 W2 → bm_VL L 182 1341 [(0, .ref 1400), (1, .ref 0), (2, .ref 164), (3, .ref 181), (4, .int (nI t))] [] (I2, J2, R, W2) cx cy) : bm_VL L 182 727 [(0, .ref 1400), (1, .ref 0), (2, .ref 164), (3, .ref 181), (4, .int (nI t))] [] (I, J, R, W) cx cy := by
  obtain ⟨v, I2, h1, h2, hI2⟩ := e_reads hI (L.2.2 (nI t + 1).toNatClampNeg)
  refine bl_aload_n dL_law_727 1 rfl ?_
  refine bl_aload_n dL_law_728 0 rfl ?_
  refine bl_iload dL_law_729 4 rfl ?_
  refine bl_iconst (v := 1) dL_law_731 (by decide) ?_
  refine bl_iadd dL_law_732 ?_
  refine bl_sald dL_law_733 (sc_in (k := 1) (by omega) hLN) ?_
  refine bl_callV (d := 0 + 3) (b := 0) (ci := 10) (As := [.int (L.2.2 (nI t + 1).toNatClampNeg)]) (by decide) (by decide) rfl ⟨_, _, rfl⟩ dL_law_734 mcl_92 (c_X11_reads (d := 0) (by decide) hR h1) rfl rfl (by decide) hcx hcy ?_
  refine bl_aload_n dL_law_737 2 rfl ?_
  refine bl_aload_n dL_law_738 0 rfl ?_
  refine bl_iload dL_law_739 4 rfl ?_
  refine bl_iconst (v := 1) dL_law_741 (by decide) ?_
  refine bl_iadd dL_law_742 ?_
  refine bl_sald dL_law_743 (sc_in (k := 1) (by omega) hLN) ?_
  refine bl_callV (d := 0 + 6) (b := 164) (ci := 11) (As := [.int (L.2.2 (nI t + 1).toNatClampNeg)]) (by decide) (by decide) rfl ⟨_, _, rfl⟩ dL_law_744 mcl_95 (c_X12_reads (d := 0) (by decide) hR h2) rfl rfl (Nat.le_of_ble_eq_true rfl) hcx hcy ?_
  exact bl_icmp_eq (tgt := 1341) dL_law_747 (by decide) (fun _ => K _ _ _ hI2) (fun cc => absurd rfl cc)
set_option maxHeartbeats 4000000 in
set_option maxRecDepth 100000 in
theorem lc_foes {L : bm_L} {I : bm_TI} {J : bm_TJ} {R W : bm_TR} {t cx cy : Nat} (hR : bm_RR R) (hI : bm_Inv I J W) (hLN : L.2.1 < 2 ^ 31) (ht : t + 6 ≤ L.2.1) (hcx : cx ≤ 601024) (hcy : cy ≤ 7293034) (K : ∀ I2 J2 W2, bm_Inv I2 J2 W2 → bm_VL L 182 1341 [(0, .ref 1400), (1, .ref 0), (2, .ref 164), (3, .ref 181), (4, .int (nI t))] [] (I2, J2, R, W2) cx cy) : bm_VL L 182 752 [(0, .ref 1400), (1, .ref 0), (2, .ref 164), (3, .ref 181), (4, .int (nI t))] [] (I, J, R, W) cx cy := by
  obtain ⟨v, I2, h1, h2, hI2⟩ := e_foes hI (L.2.2 (nI t + 1).toNatClampNeg)
  refine bl_aload_n dL_law_752 1 rfl ?_
  refine bl_aload_n dL_law_753 0 rfl ?_
  refine bl_iload dL_law_754 4 rfl ?_
  refine bl_iconst (v := 1) dL_law_756 (by decide) ?_
  refine bl_iadd dL_law_757 ?_
  refine bl_sald dL_law_758 (sc_in (k := 1) (by omega) hLN) ?_
  refine bl_callV (d := 0 + 4) (b := 0) (ci := 10) (As := [.int (L.2.2 (nI t + 1).toNatClampNeg)]) (by decide) (by decide) rfl ⟨_, _, rfl⟩ dL_law_759 mcl_96 (c_X11_foes (d := 0) (by decide) hR h1) rfl rfl (by decide) hcx hcy ?_
  refine bl_aload_n dL_law_762 2 rfl ?_
  refine bl_aload_n dL_law_763 0 rfl ?_
  refine bl_iload dL_law_764 4 rfl ?_
  refine bl_iconst (v := 1) dL_law_766 (by decide) ?_
  refine bl_iadd dL_law_767 ?_
  refine bl_sald dL_law_768 (sc_in (k := 1) (by omega) hLN) ?_
  refine bl_callV (d := 0 + 4) (b := 164) (ci := 11) (As := [.int (L.2.2 (nI t + 1).toNatClampNeg)]) (by decide) (by decide) rfl ⟨_, _, rfl⟩ dL_law_769 mcl_99 (c_X12_foes (d := 0) (by decide) hR h2) rfl rfl (Nat.le_of_ble_eq_true rfl) hcx hcy ?_
  exact bl_icmp_eq (tgt := 1341) dL_law_772 (by decide) (fun _ => K _ _ _ hI2) (fun cc => absurd rfl cc)
set_option maxHeartbeats 4000000 in
set_option maxRecDepth 100000 in
theorem lc_reach {L : bm_L} {I : bm_TI} {J : bm_TJ} {R W : bm_TR} {t cx cy : Nat} (hR : bm_RR R) (hI : bm_Inv I J W) (hLN : L.2.1 < 2 ^ 31) (ht : t + 6 ≤ L.2.1) (hcx : cx ≤ 601024) (hcy : cy ≤ 7293034) (K : ∀ I2 J2 W2, bm_Inv I2 J2 W2 → bm_VL L 182 1341 [(0, .ref 1400), (1, .ref 0), (2, .ref 164), (3, .ref 181), (4, .int (nI t))] [] (I2, J2, R, W2) cx cy) : bm_VL L 182 777 [(0, .ref 1400), (1, .ref 0), (2, .ref 164), (3, .ref 181), (4, .int (nI t))] [] (I, J, R, W) cx cy := by
  obtain ⟨v, I1, I2, h1, h2, hI2⟩ := e_reach hI (L.2.2 (nI t + 1).toNatClampNeg) (L.2.2 (nI t + 2).toNatClampNeg)
  refine bl_aload_n dL_law_777 1 rfl ?_
  refine bl_aload_n dL_law_778 0 rfl ?_
  refine bl_iload dL_law_779 4 rfl ?_
  refine bl_iconst (v := 1) dL_law_781 (by decide) ?_
  refine bl_iadd dL_law_782 ?_
  refine bl_sald dL_law_783 (sc_in (k := 1) (by omega) hLN) ?_
  refine bl_aload_n dL_law_784 0 rfl ?_
  refine bl_iload dL_law_785 4 rfl ?_
  refine bl_iconst (v := 2) dL_law_787 (by decide) ?_
  refine bl_iadd dL_law_788 ?_
  refine bl_sald dL_law_789 (sc_in (k := 2) (by omega) hLN) ?_
  refine bl_callV (d := 0 + 6) (b := 0) (ci := 10) (As := [.int (L.2.2 (nI t + 1).toNatClampNeg), .int (L.2.2 (nI t + 2).toNatClampNeg)]) (by decide) (by decide) rfl ⟨_, _, rfl⟩ dL_law_790 mcl_100 (c_X11_reach (d := 0) (by decide) hR h1) rfl rfl (by decide) hcx hcy ?_
  refine bl_aload_n dL_law_793 2 rfl ?_
  refine bl_aload_n dL_law_794 0 rfl ?_
  refine bl_iload dL_law_795 4 rfl ?_
  refine bl_iconst (v := 1) dL_law_797 (by decide) ?_
  refine bl_iadd dL_law_798 ?_
  refine bl_sald dL_law_799 (sc_in (k := 1) (by omega) hLN) ?_
  refine bl_aload_n dL_law_800 0 rfl ?_
  refine bl_iload dL_law_801 4 rfl ?_
  refine bl_iconst (v := 2) dL_law_803 (by decide) ?_
  refine bl_iadd dL_law_804 ?_
  refine bl_sald dL_law_805 (sc_in (k := 2) (by omega) hLN) ?_
  refine bl_callV (d := 0 + 11) (b := 164) (ci := 11) (As := [.int (L.2.2 (nI t + 1).toNatClampNeg), .int (L.2.2 (nI t + 2).toNatClampNeg)]) (by decide) (by decide) rfl ⟨_, _, rfl⟩ dL_law_806 mcl_103 (c_X12_reach (d := 0) (by decide) hR h2) rfl rfl (Nat.le_of_ble_eq_true rfl) hcx hcy ?_
  exact bl_icmp_eq (tgt := 1341) dL_law_809 (by decide) (fun _ => K _ _ _ hI2) (fun cc => absurd rfl cc)
set_option maxHeartbeats 4000000 in
set_option maxRecDepth 100000 in
theorem lc_soon {L : bm_L} {I : bm_TI} {J : bm_TJ} {R W : bm_TR} {t cx cy : Nat} (hR : bm_RR R) (hI : bm_Inv I J W) (hLN : L.2.1 < 2 ^ 31) (ht : t + 6 ≤ L.2.1) (hcx : cx ≤ 601024) (hcy : cy ≤ 7293034) (K : ∀ I2 J2 W2, bm_Inv I2 J2 W2 → bm_VL L 182 1341 [(0, .ref 1400), (1, .ref 0), (2, .ref 164), (3, .ref 181), (4, .int (nI t))] [] (I2, J2, R, W2) cx cy) : bm_VL L 182 814 [(0, .ref 1400), (1, .ref 0), (2, .ref 164), (3, .ref 181), (4, .int (nI t))] [] (I, J, R, W) cx cy := by
  obtain ⟨v, I1, I2, h1, h2, hI2⟩ := e_soon hI (L.2.2 (nI t + 1).toNatClampNeg) (L.2.2 (nI t + 2).toNatClampNeg)
  refine bl_aload_n dL_law_814 1 rfl ?_
  refine bl_aload_n dL_law_815 0 rfl ?_
  refine bl_iload dL_law_816 4 rfl ?_
  refine bl_iconst (v := 1) dL_law_818 (by decide) ?_
  refine bl_iadd dL_law_819 ?_
  refine bl_sald dL_law_820 (sc_in (k := 1) (by omega) hLN) ?_
  refine bl_aload_n dL_law_821 0 rfl ?_
  refine bl_iload dL_law_822 4 rfl ?_
  refine bl_iconst (v := 2) dL_law_824 (by decide) ?_
  refine bl_iadd dL_law_825 ?_
  refine bl_sald dL_law_826 (sc_in (k := 2) (by omega) hLN) ?_
  refine bl_callV (d := 0 + 5) (b := 0) (ci := 10) (As := [.int (L.2.2 (nI t + 1).toNatClampNeg), .int (L.2.2 (nI t + 2).toNatClampNeg)]) (by decide) (by decide) rfl ⟨_, _, rfl⟩ dL_law_827 mcl_104 (c_X11_soon (d := 0) (by decide) hR h1) rfl rfl (by decide) hcx hcy ?_
  refine bl_aload_n dL_law_830 2 rfl ?_
  refine bl_aload_n dL_law_831 0 rfl ?_
  refine bl_iload dL_law_832 4 rfl ?_
  refine bl_iconst (v := 1) dL_law_834 (by decide) ?_
  refine bl_iadd dL_law_835 ?_
  refine bl_sald dL_law_836 (sc_in (k := 1) (by omega) hLN) ?_
  refine bl_aload_n dL_law_837 0 rfl ?_
  refine bl_iload dL_law_838 4 rfl ?_
  refine bl_iconst (v := 2) dL_law_840 (by decide) ?_
  refine bl_iadd dL_law_841 ?_
  refine bl_sald dL_law_842 (sc_in (k := 2) (by omega) hLN) ?_
  refine bl_callV (d := 0 + 9) (b := 164) (ci := 11) (As := [.int (L.2.2 (nI t + 1).toNatClampNeg), .int (L.2.2 (nI t + 2).toNatClampNeg)]) (by decide) (by decide) rfl ⟨_, _, rfl⟩ dL_law_843 mcl_107 (c_X12_soon (d := 0) (by decide) hR h2) rfl rfl (Nat.le_of_ble_eq_true rfl) hcx hcy ?_
  exact bl_icmp_eq (tgt := 1341) dL_law_846 (by decide) (fun _ => K _ _ _ hI2) (fun cc => absurd rfl cc)
set_option maxHeartbeats 4000000 in
set_option maxRecDepth 100000 in
theorem lc_best {L : bm_L} {I : bm_TI} {J : bm_TJ} {R W : bm_TR} {t cx cy : Nat} (hR : bm_RR R) (hI : bm_Inv I J W) (hLN : L.2.1 < 2 ^ 31) (ht : t + 6 ≤ L.2.1) (hcx : cx ≤ 601024) (hcy : cy ≤ 7293034) (K : ∀ I2 J2 W2, bm_Inv I2 J2 W2 → bm_VL L 182 1341 [(0, .ref 1400), (1, .ref 0), (2, .ref 164), (3, .ref 181), (4, .int (nI t))] [] (I2, J2, R, W2) cx cy) : bm_VL L 182 851 [(0, .ref 1400), (1, .ref 0), (2, .ref 164), (3, .ref 181), (4, .int (nI t))] [] (I, J, R, W) cx cy := by
  obtain ⟨v, I1, I2, h1, h2, hI2⟩ := e_best hI (L.2.2 (nI t + 1).toNatClampNeg)
  refine bl_aload_n dL_law_851 1 rfl ?_
  refine bl_aload_n dL_law_852 0 rfl ?_
  refine bl_iload dL_law_853 4 rfl ?_
  refine bl_iconst (v := 1) dL_law_855 (by decide) ?_
  refine bl_iadd dL_law_856 ?_
  refine bl_sald dL_law_857 (sc_in (k := 1) (by omega) hLN) ?_
  refine bl_callV (d := 0 + 6) (b := 0) (ci := 10) (As := [.int (L.2.2 (nI t + 1).toNatClampNeg)]) (by decide) (by decide) rfl ⟨_, _, rfl⟩ dL_law_858 mcl_108 (c_X11_best (d := 0) (by decide) hR h1) rfl rfl (by decide) hcx hcy ?_
  refine bl_aload_n dL_law_861 2 rfl ?_
  refine bl_aload_n dL_law_862 0 rfl ?_
  refine bl_iload dL_law_863 4 rfl ?_
  refine bl_iconst (v := 1) dL_law_865 (by decide) ?_
  refine bl_iadd dL_law_866 ?_
  refine bl_sald dL_law_867 (sc_in (k := 1) (by omega) hLN) ?_
  refine bl_callV (d := 0 + 11) (b := 164) (ci := 11) (As := [.int (L.2.2 (nI t + 1).toNatClampNeg)]) (by decide) (by decide) rfl ⟨_, _, rfl⟩ dL_law_868 mcl_111 (c_X12_best (d := 0) (by decide) hR h2) rfl rfl (Nat.le_of_ble_eq_true rfl) hcx hcy ?_
  exact bl_icmp_eq (tgt := 1341) dL_law_871 (by decide) (fun _ => K _ _ _ hI2) (fun cc => absurd rfl cc)
set_option maxHeartbeats 4000000 in
set_option maxRecDepth 100000 in
theorem lc_stand {L : bm_L} {I : bm_TI} {J : bm_TJ} {R W : bm_TR} {t cx cy : Nat} (hR : bm_RR R) (hI : bm_Inv I J W) (hLN : L.2.1 < 2 ^ 31) (ht : t + 6 ≤ L.2.1) (hcx : cx ≤ 601024) (hcy : cy ≤ 7293034) (K : ∀ I2 J2 W2, bm_Inv I2 J2 W2 → bm_VL L 182 1341 [(0, .ref 1400), (1, .ref 0), (2, .ref 164), (3, .ref 181), (4, .int (nI t))] [] (I2, J2, R, W2) cx cy) : bm_VL L 182 876 [(0, .ref 1400), (1, .ref 0), (2, .ref 164), (3, .ref 181), (4, .int (nI t))] [] (I, J, R, W) cx cy := by
  obtain ⟨v, I1, I2, h1, h2, hI2⟩ := e_stand hI (L.2.2 (nI t + 1).toNatClampNeg)
  refine bl_aload_n dL_law_876 1 rfl ?_
  refine bl_aload_n dL_law_877 0 rfl ?_
  refine bl_iload dL_law_878 4 rfl ?_
  refine bl_iconst (v := 1) dL_law_880 (by decide) ?_
  refine bl_iadd dL_law_881 ?_
  refine bl_sald dL_law_882 (sc_in (k := 1) (by omega) hLN) ?_
  refine bl_callV (d := 0 + 4) (b := 0) (ci := 10) (As := [.int (L.2.2 (nI t + 1).toNatClampNeg)]) (by decide) (by decide) rfl ⟨_, _, rfl⟩ dL_law_883 mcl_112 (c_X11_stand (d := 0) (by decide) hR h1) rfl rfl (by decide) hcx hcy ?_
  refine bl_aload_n dL_law_886 2 rfl ?_
  refine bl_aload_n dL_law_887 0 rfl ?_
  refine bl_iload dL_law_888 4 rfl ?_
  refine bl_iconst (v := 1) dL_law_890 (by decide) ?_
  refine bl_iadd dL_law_891 ?_
  refine bl_sald dL_law_892 (sc_in (k := 1) (by omega) hLN) ?_
  refine bl_callV (d := 0 + 4) (b := 164) (ci := 11) (As := [.int (L.2.2 (nI t + 1).toNatClampNeg)]) (by decide) (by decide) rfl ⟨_, _, rfl⟩ dL_law_893 mcl_115 (c_X12_stand (d := 0) (by decide) hR h2) rfl rfl (Nat.le_of_ble_eq_true rfl) hcx hcy ?_
  exact bl_icmp_eq (tgt := 1341) dL_law_896 (by decide) (fun _ => K _ _ _ hI2) (fun cc => absurd rfl cc)
set_option maxHeartbeats 4000000 in
set_option maxRecDepth 100000 in
theorem lc_hide {L : bm_L} {I : bm_TI} {J : bm_TJ} {R W : bm_TR} {t cx cy : Nat} (hR : bm_RR R) (hI : bm_Inv I J W) (hLN : L.2.1 < 2 ^ 31) (ht : t + 6 ≤ L.2.1) (hcx : cx ≤ 601024) (hcy : cy ≤ 7293034) (K : ∀ I2 J2 W2, bm_Inv I2 J2 W2 → bm_VL L 182 1341 [(0, .ref 1400), (1, .ref 0), (2, .ref 164), (3, .ref 181), (4, .int (nI t))] [] (I2, J2, R, W2) cx cy) : bm_VL L 182 901 [(0, .ref 1400), (1, .ref 0), (2, .ref 164), (3, .ref 181), (4, .int (nI t))] [] (I, J, R, W) cx cy := by
  obtain ⟨v, I1, I2, h1, h2, hI2⟩ := e_hide hI (L.2.2 (nI t + 1).toNatClampNeg)
  refine bl_aload_n dL_law_901 1 rfl ?_
  refine bl_aload_n dL_law_902 0 rfl ?_
  refine bl_iload dL_law_903 4 rfl ?_
  refine bl_iconst (v := 1) dL_law_905 (by decide) ?_
  refine bl_iadd dL_law_906 ?_
  refine bl_sald dL_law_907 (sc_in (k := 1) (by omega) hLN) ?_
  refine bl_callV (d := 0 + 4) (b := 0) (ci := 10) (As := [.int (L.2.2 (nI t + 1).toNatClampNeg)]) (by decide) (by decide) rfl ⟨_, _, rfl⟩ dL_law_908 mcl_116 (c_X11_hide (d := 0) (by decide) hR h1) rfl rfl (by decide) hcx hcy ?_
  refine bl_aload_n dL_law_911 2 rfl ?_
  refine bl_aload_n dL_law_912 0 rfl ?_
  refine bl_iload dL_law_913 4 rfl ?_
  refine bl_iconst (v := 1) dL_law_915 (by decide) ?_
  refine bl_iadd dL_law_916 ?_
  refine bl_sald dL_law_917 (sc_in (k := 1) (by omega) hLN) ?_
  refine bl_callV (d := 0 + 4) (b := 164) (ci := 11) (As := [.int (L.2.2 (nI t + 1).toNatClampNeg)]) (by decide) (by decide) rfl ⟨_, _, rfl⟩ dL_law_918 mcl_119 (c_X12_hide (d := 0) (by decide) hR h2) rfl rfl (Nat.le_of_ble_eq_true rfl) hcx hcy ?_
  exact bl_icmp_eq (tgt := 1341) dL_law_921 (by decide) (fun _ => K _ _ _ hI2) (fun cc => absurd rfl cc)
set_option maxHeartbeats 4000000 in
set_option maxRecDepth 100000 in
theorem lc_cell {L : bm_L} {I : bm_TI} {J : bm_TJ} {R W : bm_TR} {t cx cy : Nat} (hR : bm_RR R) (hI : bm_Inv I J W) (hLN : L.2.1 < 2 ^ 31) (ht : t + 6 ≤ L.2.1) (hcx : cx ≤ 601024) (hcy : cy ≤ 7293034) (K : ∀ I2 J2 W2, bm_Inv I2 J2 W2 → bm_VL L 182 1341 [(0, .ref 1400), (1, .ref 0), (2, .ref 164), (3, .ref 181), (4, .int (nI t))] [] (I2, J2, R, W2) cx cy) : bm_VL L 182 926 [(0, .ref 1400), (1, .ref 0), (2, .ref 164), (3, .ref 181), (4, .int (nI t))] [] (I, J, R, W) cx cy := by
  obtain ⟨v, I2, h1, h2, hI2⟩ := e_cell hI (L.2.2 (nI t + 1).toNatClampNeg)
  refine bl_aload_n dL_law_926 1 rfl ?_
  refine bl_aload_n dL_law_927 0 rfl ?_
  refine bl_iload dL_law_928 4 rfl ?_
  refine bl_iconst (v := 1) dL_law_930 (by decide) ?_
  refine bl_iadd dL_law_931 ?_
  refine bl_sald dL_law_932 (sc_in (k := 1) (by omega) hLN) ?_
  refine bl_callV (d := 0) (b := 0) (ci := 10) (As := [.int (L.2.2 (nI t + 1).toNatClampNeg)]) (by decide) (by decide) rfl ⟨_, _, rfl⟩ dL_law_933 mcl_120 (c_X11_cell (d := 0) (by decide) hR h1) rfl rfl (by decide) hcx hcy ?_
  refine bl_aload_n dL_law_936 2 rfl ?_
  refine bl_aload_n dL_law_937 0 rfl ?_
  refine bl_iload dL_law_938 4 rfl ?_
  refine bl_iconst (v := 1) dL_law_940 (by decide) ?_
  refine bl_iadd dL_law_941 ?_
  refine bl_sald dL_law_942 (sc_in (k := 1) (by omega) hLN) ?_
  refine bl_callV (d := 0) (b := 164) (ci := 11) (As := [.int (L.2.2 (nI t + 1).toNatClampNeg)]) (by decide) (by decide) rfl ⟨_, _, rfl⟩ dL_law_943 mcl_123 (c_X12_cell (d := 0) (by decide) hR h2) rfl rfl (Nat.le_of_ble_eq_true rfl) hcx hcy ?_
  exact bl_icmp_eq (tgt := 1341) dL_law_946 (by decide) (fun _ => K _ _ _ hI2) (fun cc => absurd rfl cc)
set_option maxHeartbeats 4000000 in
set_option maxRecDepth 100000 in
theorem lc_meant {L : bm_L} {I : bm_TI} {J : bm_TJ} {R W : bm_TR} {t cx cy : Nat} (hR : bm_RR R) (hI : bm_Inv I J W) (hLN : L.2.1 < 2 ^ 31) (ht : t + 6 ≤ L.2.1) (hcx : cx ≤ 601024) (hcy : cy ≤ 7293034) (K : ∀ I2 J2 W2, bm_Inv I2 J2 W2 → bm_VL L 182 1341 [(0, .ref 1400), (1, .ref 0), (2, .ref 164), (3, .ref 181), (4, .int (nI t))] [] (I2, J2, R, W2) cx cy) : bm_VL L 182 951 [(0, .ref 1400), (1, .ref 0), (2, .ref 164), (3, .ref 181), (4, .int (nI t))] [] (I, J, R, W) cx cy := by
  obtain ⟨v, I1, I2, h1, h2, hI2⟩ := e_meant hI
  refine bl_aload_n dL_law_951 1 rfl ?_
  refine bl_callV (d := 0 + 3) (b := 0) (ci := 10) (As := []) (by decide) (by decide) rfl ⟨_, _, rfl⟩ dL_law_952 mcl_124 (c_X11_meant (d := 0) (by decide) hR h1) rfl rfl (by decide) hcx hcy ?_
  refine bl_aload_n dL_law_955 2 rfl ?_
  refine bl_callV (d := 0 + 2) (b := 164) (ci := 11) (As := []) (by decide) (by decide) rfl ⟨_, _, rfl⟩ dL_law_956 mcl_127 (c_X12_meant (d := 0) (by decide) hR h2) rfl rfl (Nat.le_of_ble_eq_true rfl) hcx hcy ?_
  exact bl_icmp_eq (tgt := 1341) dL_law_959 (by decide) (fun _ => K _ _ _ hI2) (fun cc => absurd rfl cc)
set_option maxHeartbeats 4000000 in
set_option maxRecDepth 100000 in
theorem lc_wrong {L : bm_L} {I : bm_TI} {J : bm_TJ} {R W : bm_TR} {t cx cy : Nat} (hR : bm_RR R) (hI : bm_Inv I J W) (hLN : L.2.1 < 2 ^ 31) (ht : t + 6 ≤ L.2.1) (hcx : cx ≤ 601024) (hcy : cy ≤ 7293034) (K : ∀ I2 J2 W2, bm_Inv I2 J2 W2 → bm_VL L 182 1341 [(0, .ref 1400), (1, .ref 0), (2, .ref 164), (3, .ref 181), (4, .int (nI t))] [] (I2, J2, R, W2) cx cy) : bm_VL L 182 964 [(0, .ref 1400), (1, .ref 0), (2, .ref 164), (3, .ref 181), (4, .int (nI t))] [] (I, J, R, W) cx cy := by
  obtain ⟨v, I2, h1, h2, hI2⟩ := e_wrong hI
  refine bl_aload_n dL_law_964 1 rfl ?_
  refine bl_callV (d := 0) (b := 0) (ci := 10) (As := []) (by decide) (by decide) rfl ⟨_, _, rfl⟩ dL_law_965 mcl_128 (c_X11_wrong (d := 0) (by decide) hR h1) rfl rfl (by decide) hcx hcy ?_
  refine bl_aload_n dL_law_968 2 rfl ?_
  refine bl_callV (d := 0) (b := 164) (ci := 11) (As := []) (by decide) (by decide) rfl ⟨_, _, rfl⟩ dL_law_969 mcl_131 (c_X12_wrong (d := 0) (by decide) hR h2) rfl rfl (Nat.le_of_ble_eq_true rfl) hcx hcy ?_
  exact bl_icmp_eq (tgt := 1341) dL_law_972 (by decide) (fun _ => K _ _ _ hI2) (fun cc => absurd rfl cc)
set_option maxHeartbeats 4000000 in
set_option maxRecDepth 100000 in
theorem lc_look {L : bm_L} {I : bm_TI} {J : bm_TJ} {R W : bm_TR} {t cx cy : Nat} (hR : bm_RR R) (hI : bm_Inv I J W) (hLN : L.2.1 < 2 ^ 31) (ht : t + 6 ≤ L.2.1) (hcx : cx ≤ 601024) (hcy : cy ≤ 7293034) (K : ∀ I2 J2 W2, bm_Inv I2 J2 W2 → bm_VL L 182 1341 [(0, .ref 1400), (1, .ref 0), (2, .ref 164), (3, .ref 181), (4, .int (nI t))] [] (I2, J2, R, W2) cx cy) : bm_VL L 182 977 [(0, .ref 1400), (1, .ref 0), (2, .ref 164), (3, .ref 181), (4, .int (nI t))] [] (I, J, R, W) cx cy := by
  obtain ⟨v, I2, h1, h2, hI2⟩ := e_look hI
  refine bl_aload_n dL_law_977 1 rfl ?_
  refine bl_callV (d := 0) (b := 0) (ci := 10) (As := []) (by decide) (by decide) rfl ⟨_, _, rfl⟩ dL_law_978 mcl_132 (c_X11_look (d := 0) (by decide) hR h1) rfl rfl (by decide) hcx hcy ?_
  refine bl_aload_n dL_law_981 2 rfl ?_
  refine bl_callV (d := 0) (b := 164) (ci := 11) (As := []) (by decide) (by decide) rfl ⟨_, _, rfl⟩ dL_law_982 mcl_135 (c_X12_look (d := 0) (by decide) hR h2) rfl rfl (Nat.le_of_ble_eq_true rfl) hcx hcy ?_
  exact bl_icmp_eq (tgt := 1341) dL_law_985 (by decide) (fun _ => K _ _ _ hI2) (fun cc => absurd rfl cc)
set_option maxHeartbeats 4000000 in
set_option maxRecDepth 100000 in
theorem lc_code {L : bm_L} {I : bm_TI} {J : bm_TJ} {R W : bm_TR} {t cx cy : Nat} (hR : bm_RR R) (hI : bm_Inv I J W) (hLN : L.2.1 < 2 ^ 31) (ht : t + 6 ≤ L.2.1) (hcx : cx ≤ 601024) (hcy : cy ≤ 7293034) (K : ∀ I2 J2 W2, bm_Inv I2 J2 W2 → bm_VL L 182 1341 [(0, .ref 1400), (1, .ref 0), (2, .ref 164), (3, .ref 181), (4, .int (nI t))] [] (I2, J2, R, W2) cx cy) : bm_VL L 182 990 [(0, .ref 1400), (1, .ref 0), (2, .ref 164), (3, .ref 181), (4, .int (nI t))] [] (I, J, R, W) cx cy := by
  obtain ⟨v, I2, h1, h2, hI2⟩ := e_code hI
  refine bl_aload_n dL_law_990 1 rfl ?_
  refine bl_callV (d := 0 + 3) (b := 0) (ci := 10) (As := []) (by decide) (by decide) rfl ⟨_, _, rfl⟩ dL_law_991 mcl_136 (c_X11_code (d := 0) (by decide) hR h1) rfl rfl (by decide) hcx hcy ?_
  refine bl_aload_n dL_law_994 2 rfl ?_
  refine bl_callV (d := 0 + 1) (b := 164) (ci := 11) (As := []) (by decide) (by decide) rfl ⟨_, _, rfl⟩ dL_law_995 mcl_139 (c_X12_code (d := 0) (by decide) hR h2) rfl rfl (Nat.le_of_ble_eq_true rfl) hcx hcy ?_
  exact bl_icmp_eq (tgt := 1341) dL_law_998 (by decide) (fun _ => K _ _ _ hI2) (fun cc => absurd rfl cc)
set_option maxHeartbeats 4000000 in
set_option maxRecDepth 100000 in
theorem lc_scratch {L : bm_L} {I : bm_TI} {J : bm_TJ} {R W : bm_TR} {t cx cy : Nat} (hR : bm_RR R) (hI : bm_Inv I J W) (hLN : L.2.1 < 2 ^ 31) (ht : t + 6 ≤ L.2.1) (hcx : cx ≤ 601024) (hcy : cy ≤ 7293034) (K : ∀ I2 J2 W2, bm_Inv I2 J2 W2 → bm_VL L 182 1341 [(0, .ref 1400), (1, .ref 0), (2, .ref 164), (3, .ref 181), (4, .int (nI t))] [] (I2, J2, R, W2) cx cy) : bm_VL L 182 1003 [(0, .ref 1400), (1, .ref 0), (2, .ref 164), (3, .ref 181), (4, .int (nI t))] [] (I, J, R, W) cx cy := by
  obtain ⟨v, I1, I2, h1, h2, hI2⟩ := e_scratch hI
  refine bl_aload_n dL_law_1003 1 rfl ?_
  refine bl_callV (d := 0 + 4) (b := 0) (ci := 10) (As := []) (by decide) (by decide) rfl ⟨_, _, rfl⟩ dL_law_1004 mcl_140 (c_X11_scratch (d := 0) (by decide) hR h1) rfl rfl (by decide) hcx hcy ?_
  refine bl_aload_n dL_law_1007 2 rfl ?_
  refine bl_callV (d := 0 + 6) (b := 164) (ci := 11) (As := []) (by decide) (by decide) rfl ⟨_, _, rfl⟩ dL_law_1008 mcl_143 (c_X12_scratch (d := 0) (by decide) hR h2) rfl rfl (Nat.le_of_ble_eq_true rfl) hcx hcy ?_
  exact bl_icmp_eq (tgt := 1341) dL_law_1011 (by decide) (fun _ => K _ _ _ hI2) (fun cc => absurd rfl cc)
set_option maxHeartbeats 4000000 in
set_option maxRecDepth 100000 in
theorem lc_ask {L : bm_L} {I : bm_TI} {J : bm_TJ} {R W : bm_TR} {t cx cy : Nat} (hR : bm_RR R) (hI : bm_Inv I J W) (hLN : L.2.1 < 2 ^ 31) (ht : t + 6 ≤ L.2.1) (hcx : cx ≤ 601024) (hcy : cy ≤ 7293034) (K : ∀ I2 J2 W2, bm_Inv I2 J2 W2 → bm_VL L 182 1341 [(0, .ref 1400), (1, .ref 0), (2, .ref 164), (3, .ref 181), (4, .int (nI t))] [] (I2, J2, R, W2) cx cy) : bm_VL L 182 1016 [(0, .ref 1400), (1, .ref 0), (2, .ref 164), (3, .ref 181), (4, .int (nI t))] [] (I, J, R, W) cx cy := by
  obtain ⟨v, I2, h1, h2, hI2⟩ := e_ask hI
  refine bl_aload_n dL_law_1016 1 rfl ?_
  refine bl_callV (d := 0) (b := 0) (ci := 10) (As := []) (by decide) (by decide) rfl ⟨_, _, rfl⟩ dL_law_1017 mcl_144 (c_X11_ask (d := 0) (by decide) hR h1) rfl rfl (by decide) hcx hcy ?_
  refine bl_aload_n dL_law_1020 2 rfl ?_
  refine bl_callV (d := 0) (b := 164) (ci := 11) (As := []) (by decide) (by decide) rfl ⟨_, _, rfl⟩ dL_law_1021 mcl_147 (c_X12_ask (d := 0) (by decide) hR h2) rfl rfl (Nat.le_of_ble_eq_true rfl) hcx hcy ?_
  exact bl_icmp_eq (tgt := 1341) dL_law_1024 (by decide) (fun _ => K _ _ _ hI2) (fun cc => absurd rfl cc)
set_option maxHeartbeats 4000000 in
set_option maxRecDepth 100000 in
theorem lc_unrest {L : bm_L} {I : bm_TI} {J : bm_TJ} {R W : bm_TR} {t cx cy : Nat} (hR : bm_RR R) (hI : bm_Inv I J W) (hLN : L.2.1 < 2 ^ 31) (ht : t + 6 ≤ L.2.1) (hcx : cx ≤ 601024) (hcy : cy ≤ 7293034) (K : ∀ I2 J2 W2, bm_Inv I2 J2 W2 → bm_VL L 182 1341 [(0, .ref 1400), (1, .ref 0), (2, .ref 164), (3, .ref 181), (4, .int (nI t))] [] (I2, J2, R, W2) cx cy) : bm_VL L 182 1029 [(0, .ref 1400), (1, .ref 0), (2, .ref 164), (3, .ref 181), (4, .int (nI t))] [] (I, J, R, W) cx cy := by
  obtain ⟨v, I2, h1, h2, hI2⟩ := e_unrest hI
  refine bl_aload_n dL_law_1029 1 rfl ?_
  refine bl_callV (d := 0 + 2) (b := 0) (ci := 10) (As := []) (by decide) (by decide) rfl ⟨_, _, rfl⟩ dL_law_1030 mcl_148 (c_X11_unrest (d := 0) (by decide) hR h1) rfl rfl (by decide) hcx hcy ?_
  refine bl_aload_n dL_law_1033 2 rfl ?_
  refine bl_callV (d := 0 + 2) (b := 164) (ci := 11) (As := []) (by decide) (by decide) rfl ⟨_, _, rfl⟩ dL_law_1034 mcl_151 (c_X12_unrest (d := 0) (by decide) hR h2) rfl rfl (Nat.le_of_ble_eq_true rfl) hcx hcy ?_
  exact bl_icmp_eq (tgt := 1341) dL_law_1037 (by decide) (fun _ => K _ _ _ hI2) (fun cc => absurd rfl cc)
set_option maxHeartbeats 4000000 in
set_option maxRecDepth 100000 in
theorem lc_report {L : bm_L} {I : bm_TI} {J : bm_TJ} {R W : bm_TR} {t cx cy : Nat} (hR : bm_RR R) (hI : bm_Inv I J W) (hLN : L.2.1 < 2 ^ 31) (ht : t + 6 ≤ L.2.1) (hcx : cx ≤ 601024) (hcy : cy ≤ 7293034) (K : ∀ I2 J2 W2, bm_Inv I2 J2 W2 → bm_VL L 182 1341 [(0, .ref 1400), (1, .ref 0), (2, .ref 164), (3, .ref 181), (4, .int (nI t))] [] (I2, J2, R, W2) cx cy) : bm_VL L 182 1042 [(0, .ref 1400), (1, .ref 0), (2, .ref 164), (3, .ref 181), (4, .int (nI t))] [] (I, J, R, W) cx cy := by
  obtain ⟨v, I1, I2, h1, h2, hI2⟩ := e_report hI (L.2.2 (nI t + 1).toNatClampNeg)
  refine bl_aload_n dL_law_1042 1 rfl ?_
  refine bl_aload_n dL_law_1043 0 rfl ?_
  refine bl_iload dL_law_1044 4 rfl ?_
  refine bl_iconst (v := 1) dL_law_1046 (by decide) ?_
  refine bl_iadd dL_law_1047 ?_
  refine bl_sald dL_law_1048 (sc_in (k := 1) (by omega) hLN) ?_
  refine bl_callV (d := 0 + 7) (b := 0) (ci := 10) (As := [.int (L.2.2 (nI t + 1).toNatClampNeg)]) (by decide) (by decide) rfl ⟨_, _, rfl⟩ dL_law_1049 mcl_152 (c_X11_report (d := 0) (by decide) hR h1) rfl rfl (by decide) hcx hcy ?_
  refine bl_aload_n dL_law_1052 2 rfl ?_
  refine bl_aload_n dL_law_1053 0 rfl ?_
  refine bl_iload dL_law_1054 4 rfl ?_
  refine bl_iconst (v := 1) dL_law_1056 (by decide) ?_
  refine bl_iadd dL_law_1057 ?_
  refine bl_sald dL_law_1058 (sc_in (k := 1) (by omega) hLN) ?_
  refine bl_callV (d := 0 + 3) (b := 164) (ci := 11) (As := [.int (L.2.2 (nI t + 1).toNatClampNeg)]) (by decide) (by decide) rfl ⟨_, _, rfl⟩ dL_law_1059 mcl_155 (c_X12_report (d := 0) (by decide) hR h2) rfl rfl (Nat.le_of_ble_eq_true rfl) hcx hcy ?_
  exact bl_icmp_eq (tgt := 1341) dL_law_1062 (by decide) (fun _ => K _ _ _ hI2) (fun cc => absurd rfl cc)
set_option maxHeartbeats 4000000 in
set_option maxRecDepth 100000 in
theorem lc_byteAt {L : bm_L} {I : bm_TI} {J : bm_TJ} {R W : bm_TR} {t cx cy : Nat} (hR : bm_RR R) (hI : bm_Inv I J W) (hLN : L.2.1 < 2 ^ 31) (ht : t + 6 ≤ L.2.1) (hcx : cx ≤ 601024) (hcy : cy ≤ 7293034) (K : ∀ I2 J2 W2, bm_Inv I2 J2 W2 → bm_VL L 182 1341 [(0, .ref 1400), (1, .ref 0), (2, .ref 164), (3, .ref 181), (4, .int (nI t))] [] (I2, J2, R, W2) cx cy) : bm_VL L 182 1067 [(0, .ref 1400), (1, .ref 0), (2, .ref 164), (3, .ref 181), (4, .int (nI t))] [] (I, J, R, W) cx cy := by
  obtain ⟨v, I2, h1, h2, hI2⟩ := e_byteAt hI (L.2.2 (nI t + 1).toNatClampNeg)
  refine bl_aload_n dL_law_1067 1 rfl ?_
  refine bl_aload_n dL_law_1068 0 rfl ?_
  refine bl_iload dL_law_1069 4 rfl ?_
  refine bl_iconst (v := 1) dL_law_1071 (by decide) ?_
  refine bl_iadd dL_law_1072 ?_
  refine bl_sald dL_law_1073 (sc_in (k := 1) (by omega) hLN) ?_
  refine bl_callV (d := 0) (b := 0) (ci := 10) (As := [.int (L.2.2 (nI t + 1).toNatClampNeg)]) (by decide) (by decide) rfl ⟨_, _, rfl⟩ dL_law_1074 mcl_156 (c_X11_byteAt (d := 0) (by decide) hR h1) rfl rfl (by decide) hcx hcy ?_
  refine bl_aload_n dL_law_1077 2 rfl ?_
  refine bl_aload_n dL_law_1078 0 rfl ?_
  refine bl_iload dL_law_1079 4 rfl ?_
  refine bl_iconst (v := 1) dL_law_1081 (by decide) ?_
  refine bl_iadd dL_law_1082 ?_
  refine bl_sald dL_law_1083 (sc_in (k := 1) (by omega) hLN) ?_
  refine bl_callV (d := 0 + 1) (b := 164) (ci := 11) (As := [.int (L.2.2 (nI t + 1).toNatClampNeg)]) (by decide) (by decide) rfl ⟨_, _, rfl⟩ dL_law_1084 mcl_159 (c_X12_byteAt (d := 0) (by decide) hR h2) rfl rfl (Nat.le_of_ble_eq_true rfl) hcx hcy ?_
  exact bl_icmp_eq (tgt := 1341) dL_law_1087 (by decide) (fun _ => K _ _ _ hI2) (fun cc => absurd rfl cc)
set_option maxHeartbeats 4000000 in
set_option maxRecDepth 100000 in
theorem lc_drawn {L : bm_L} {I : bm_TI} {J : bm_TJ} {R W : bm_TR} {t cx cy : Nat} (hR : bm_RR R) (hI : bm_Inv I J W) (hLN : L.2.1 < 2 ^ 31) (ht : t + 6 ≤ L.2.1) (hcx : cx ≤ 601024) (hcy : cy ≤ 7293034) (K : ∀ I2 J2 W2, bm_Inv I2 J2 W2 → bm_VL L 182 1341 [(0, .ref 1400), (1, .ref 0), (2, .ref 164), (3, .ref 181), (4, .int (nI t))] [] (I2, J2, R, W2) cx cy) : bm_VL L 182 1092 [(0, .ref 1400), (1, .ref 0), (2, .ref 164), (3, .ref 181), (4, .int (nI t))] [] (I, J, R, W) cx cy := by
  obtain ⟨v, I1, I2, h1, h2, hI2⟩ := e_drawn hI (L.2.2 (nI t + 1).toNatClampNeg) (L.2.2 (nI t + 2).toNatClampNeg)
  refine bl_aload_n dL_law_1092 1 rfl ?_
  refine bl_aload_n dL_law_1093 0 rfl ?_
  refine bl_iload dL_law_1094 4 rfl ?_
  refine bl_iconst (v := 1) dL_law_1096 (by decide) ?_
  refine bl_iadd dL_law_1097 ?_
  refine bl_sald dL_law_1098 (sc_in (k := 1) (by omega) hLN) ?_
  refine bl_aload_n dL_law_1099 0 rfl ?_
  refine bl_iload dL_law_1100 4 rfl ?_
  refine bl_iconst (v := 2) dL_law_1102 (by decide) ?_
  refine bl_iadd dL_law_1103 ?_
  refine bl_sald dL_law_1104 (sc_in (k := 2) (by omega) hLN) ?_
  refine bl_callV (d := 0 + 7) (b := 0) (ci := 10) (As := [.int (L.2.2 (nI t + 1).toNatClampNeg), .int (L.2.2 (nI t + 2).toNatClampNeg)]) (by decide) (by decide) rfl ⟨_, _, rfl⟩ dL_law_1105 mcl_160 (c_X11_drawn (d := 0) (by decide) hR h1) rfl rfl (by decide) hcx hcy ?_
  refine bl_aload_n dL_law_1108 2 rfl ?_
  refine bl_aload_n dL_law_1109 0 rfl ?_
  refine bl_iload dL_law_1110 4 rfl ?_
  refine bl_iconst (v := 1) dL_law_1112 (by decide) ?_
  refine bl_iadd dL_law_1113 ?_
  refine bl_sald dL_law_1114 (sc_in (k := 1) (by omega) hLN) ?_
  refine bl_aload_n dL_law_1115 0 rfl ?_
  refine bl_iload dL_law_1116 4 rfl ?_
  refine bl_iconst (v := 2) dL_law_1118 (by decide) ?_
  refine bl_iadd dL_law_1119 ?_
  refine bl_sald dL_law_1120 (sc_in (k := 2) (by omega) hLN) ?_
  refine bl_callV (d := 0 + 10) (b := 164) (ci := 11) (As := [.int (L.2.2 (nI t + 1).toNatClampNeg), .int (L.2.2 (nI t + 2).toNatClampNeg)]) (by decide) (by decide) rfl ⟨_, _, rfl⟩ dL_law_1121 mcl_163 (c_X12_drawn (d := 0) (by decide) hR h2) rfl rfl (Nat.le_of_ble_eq_true rfl) hcx hcy ?_
  exact bl_icmp_eq (tgt := 1341) dL_law_1124 (by decide) (fun _ => K _ _ _ hI2) (fun cc => absurd rfl cc)
set_option maxHeartbeats 4000000 in
set_option maxRecDepth 100000 in
theorem lc_odds {L : bm_L} {I : bm_TI} {J : bm_TJ} {R W : bm_TR} {t cx cy : Nat} (hR : bm_RR R) (hI : bm_Inv I J W) (hLN : L.2.1 < 2 ^ 31) (ht : t + 6 ≤ L.2.1) (hcx : cx ≤ 601024) (hcy : cy ≤ 7293034) (K : ∀ I2 J2 W2, bm_Inv I2 J2 W2 → bm_VL L 182 1341 [(0, .ref 1400), (1, .ref 0), (2, .ref 164), (3, .ref 181), (4, .int (nI t))] [] (I2, J2, R, W2) cx cy) : bm_VL L 182 1129 [(0, .ref 1400), (1, .ref 0), (2, .ref 164), (3, .ref 181), (4, .int (nI t))] [] (I, J, R, W) cx cy := by
  obtain ⟨v, I1, I2, h1, h2, hI2⟩ := e_odds hI (L.2.2 (nI t + 1).toNatClampNeg) (L.2.2 (nI t + 2).toNatClampNeg) (L.2.2 (nI t + 3).toNatClampNeg)
  refine bl_aload_n dL_law_1129 1 rfl ?_
  refine bl_aload_n dL_law_1130 0 rfl ?_
  refine bl_iload dL_law_1131 4 rfl ?_
  refine bl_iconst (v := 1) dL_law_1133 (by decide) ?_
  refine bl_iadd dL_law_1134 ?_
  refine bl_sald dL_law_1135 (sc_in (k := 1) (by omega) hLN) ?_
  refine bl_aload_n dL_law_1136 0 rfl ?_
  refine bl_iload dL_law_1137 4 rfl ?_
  refine bl_iconst (v := 2) dL_law_1139 (by decide) ?_
  refine bl_iadd dL_law_1140 ?_
  refine bl_sald dL_law_1141 (sc_in (k := 2) (by omega) hLN) ?_
  refine bl_aload_n dL_law_1142 0 rfl ?_
  refine bl_iload dL_law_1143 4 rfl ?_
  refine bl_iconst (v := 3) dL_law_1145 (by decide) ?_
  refine bl_iadd dL_law_1146 ?_
  refine bl_sald dL_law_1147 (sc_in (k := 3) (by omega) hLN) ?_
  refine bl_callV (d := 0 + 7) (b := 0) (ci := 10) (As := [.int (L.2.2 (nI t + 1).toNatClampNeg), .int (L.2.2 (nI t + 2).toNatClampNeg), .int (L.2.2 (nI t + 3).toNatClampNeg)]) (by decide) (by decide) rfl ⟨_, _, rfl⟩ dL_law_1148 mcl_164 (c_X11_odds (d := 0) (by decide) hR h1) rfl rfl (by decide) hcx hcy ?_
  refine bl_aload_n dL_law_1151 2 rfl ?_
  refine bl_aload_n dL_law_1152 0 rfl ?_
  refine bl_iload dL_law_1153 4 rfl ?_
  refine bl_iconst (v := 1) dL_law_1155 (by decide) ?_
  refine bl_iadd dL_law_1156 ?_
  refine bl_sald dL_law_1157 (sc_in (k := 1) (by omega) hLN) ?_
  refine bl_aload_n dL_law_1158 0 rfl ?_
  refine bl_iload dL_law_1159 4 rfl ?_
  refine bl_iconst (v := 2) dL_law_1161 (by decide) ?_
  refine bl_iadd dL_law_1162 ?_
  refine bl_sald dL_law_1163 (sc_in (k := 2) (by omega) hLN) ?_
  refine bl_aload_n dL_law_1164 0 rfl ?_
  refine bl_iload dL_law_1165 4 rfl ?_
  refine bl_iconst (v := 3) dL_law_1167 (by decide) ?_
  refine bl_iadd dL_law_1168 ?_
  refine bl_sald dL_law_1169 (sc_in (k := 3) (by omega) hLN) ?_
  refine bl_callV (d := 0 + 10) (b := 164) (ci := 11) (As := [.int (L.2.2 (nI t + 1).toNatClampNeg), .int (L.2.2 (nI t + 2).toNatClampNeg), .int (L.2.2 (nI t + 3).toNatClampNeg)]) (by decide) (by decide) rfl ⟨_, _, rfl⟩ dL_law_1170 mcl_168 (c_X12_odds (d := 0) (by decide) hR h2) rfl rfl (Nat.le_of_ble_eq_true rfl) hcx hcy ?_
  exact bl_icmp_eq (tgt := 1341) dL_law_1173 (by decide) (fun _ => K _ _ _ hI2) (fun cc => absurd rfl cc)
set_option maxHeartbeats 4000000 in
set_option maxRecDepth 100000 in
theorem lc_book {L : bm_L} {I : bm_TI} {J : bm_TJ} {R W : bm_TR} {t cx cy : Nat} (hR : bm_RR R) (hI : bm_Inv I J W) (hLN : L.2.1 < 2 ^ 31) (ht : t + 6 ≤ L.2.1) (hcx : cx ≤ 601024) (hcy : cy ≤ 7293034) (K : ∀ I2 J2 W2, bm_Inv I2 J2 W2 → bm_VL L 182 1341 [(0, .ref 1400), (1, .ref 0), (2, .ref 164), (3, .ref 181), (4, .int (nI t))] [] (I2, J2, R, W2) cx cy) : bm_VL L 182 1178 [(0, .ref 1400), (1, .ref 0), (2, .ref 164), (3, .ref 181), (4, .int (nI t))] [] (I, J, R, W) cx cy := by
  obtain ⟨v, I1, J1, W1, I2, J2, h1, h2, hI2⟩ := e_book hI (L.2.2 (nI t + 1).toNatClampNeg)
  refine bl_aload_n dL_law_1178 1 rfl ?_
  refine bl_aload_n dL_law_1179 0 rfl ?_
  refine bl_iload dL_law_1180 4 rfl ?_
  refine bl_iconst (v := 1) dL_law_1182 (by decide) ?_
  refine bl_iadd dL_law_1183 ?_
  refine bl_sald dL_law_1184 (sc_in (k := 1) (by omega) hLN) ?_
  refine bl_callV (d := 0 + 7) (b := 0) (ci := 10) (As := [.int (L.2.2 (nI t + 1).toNatClampNeg)]) (by decide) (by decide) rfl ⟨_, _, rfl⟩ dL_law_1185 mcl_169 (c_X11_book (d := 0) (by decide) hR h1) rfl rfl (by decide) hcx hcy ?_
  refine bl_aload_n dL_law_1188 2 rfl ?_
  refine bl_aload_n dL_law_1189 0 rfl ?_
  refine bl_iload dL_law_1190 4 rfl ?_
  refine bl_iconst (v := 1) dL_law_1192 (by decide) ?_
  refine bl_iadd dL_law_1193 ?_
  refine bl_sald dL_law_1194 (sc_in (k := 1) (by omega) hLN) ?_
  refine bl_callV (d := 0 + 11) (b := 164) (ci := 11) (As := [.int (L.2.2 (nI t + 1).toNatClampNeg)]) (by decide) (by decide) rfl ⟨_, _, rfl⟩ dL_law_1195 mcl_172 (c_X12_book (d := 0) (by decide) hR h2) rfl rfl (Nat.le_of_ble_eq_true rfl) hcx hcy ?_
  exact bl_icmp_eq (tgt := 1341) dL_law_1198 (by decide) (fun _ => K _ _ _ hI2) (fun cc => absurd rfl cc)
set_option maxHeartbeats 4000000 in
set_option maxRecDepth 100000 in
theorem lc_told {L : bm_L} {I : bm_TI} {J : bm_TJ} {R W : bm_TR} {t cx cy : Nat} (hR : bm_RR R) (hI : bm_Inv I J W) (hLN : L.2.1 < 2 ^ 31) (ht : t + 6 ≤ L.2.1) (hcx : cx ≤ 601024) (hcy : cy ≤ 7293034) (K : ∀ I2 J2 W2, bm_Inv I2 J2 W2 → bm_VL L 182 1341 [(0, .ref 1400), (1, .ref 0), (2, .ref 164), (3, .ref 181), (4, .int (nI t))] [] (I2, J2, R, W2) cx cy) : bm_VL L 182 1203 [(0, .ref 1400), (1, .ref 0), (2, .ref 164), (3, .ref 181), (4, .int (nI t))] [] (I, J, R, W) cx cy := by
  obtain ⟨v, I2, h1, h2, hI2⟩ := e_told hI (L.2.2 (nI t + 1).toNatClampNeg)
  refine bl_aload_n dL_law_1203 1 rfl ?_
  refine bl_aload_n dL_law_1204 0 rfl ?_
  refine bl_iload dL_law_1205 4 rfl ?_
  refine bl_iconst (v := 1) dL_law_1207 (by decide) ?_
  refine bl_iadd dL_law_1208 ?_
  refine bl_sald dL_law_1209 (sc_in (k := 1) (by omega) hLN) ?_
  refine bl_callV (d := 0) (b := 0) (ci := 10) (As := [.int (L.2.2 (nI t + 1).toNatClampNeg)]) (by decide) (by decide) rfl ⟨_, _, rfl⟩ dL_law_1210 mcl_173 (c_X11_told (d := 0) (by decide) hR h1) rfl rfl (by decide) hcx hcy ?_
  refine bl_aload_n dL_law_1213 2 rfl ?_
  refine bl_aload_n dL_law_1214 0 rfl ?_
  refine bl_iload dL_law_1215 4 rfl ?_
  refine bl_iconst (v := 1) dL_law_1217 (by decide) ?_
  refine bl_iadd dL_law_1218 ?_
  refine bl_sald dL_law_1219 (sc_in (k := 1) (by omega) hLN) ?_
  refine bl_callV (d := 0 + 1) (b := 164) (ci := 11) (As := [.int (L.2.2 (nI t + 1).toNatClampNeg)]) (by decide) (by decide) rfl ⟨_, _, rfl⟩ dL_law_1220 mcl_176 (c_X12_told (d := 0) (by decide) hR h2) rfl rfl (Nat.le_of_ble_eq_true rfl) hcx hcy ?_
  exact bl_icmp_eq (tgt := 1341) dL_law_1223 (by decide) (fun _ => K _ _ _ hI2) (fun cc => absurd rfl cc)
set_option maxHeartbeats 4000000 in
set_option maxRecDepth 100000 in
theorem lc_sentence {L : bm_L} {I : bm_TI} {J : bm_TJ} {R W : bm_TR} {t cx cy : Nat} (hR : bm_RR R) (hI : bm_Inv I J W) (hLN : L.2.1 < 2 ^ 31) (ht : t + 6 ≤ L.2.1) (hcx : cx ≤ 601024) (hcy : cy ≤ 7293034) (K : ∀ I2 J2 W2, bm_Inv I2 J2 W2 → bm_VL L 182 1341 [(0, .ref 1400), (1, .ref 0), (2, .ref 164), (3, .ref 181), (4, .int (nI t))] [] (I2, J2, R, W2) cx cy) : bm_VL L 182 1228 [(0, .ref 1400), (1, .ref 0), (2, .ref 164), (3, .ref 181), (4, .int (nI t))] [] (I, J, R, W) cx cy := by
  obtain ⟨v, I1, J1, W1, I2, J2, h1, h2, hI2⟩ := e_sentence hI
  refine bl_aload_n dL_law_1228 1 rfl ?_
  refine bl_callV (d := 0 + 64) (b := 0) (ci := 10) (As := []) (by decide) (by decide) rfl ⟨_, _, rfl⟩ dL_law_1229 mcl_177 (c_X11_sentence (d := 0) (by decide) hR h1) rfl rfl (by decide) hcx hcy ?_
  refine bl_aload_n dL_law_1232 2 rfl ?_
  refine bl_callV (d := 0 + 3) (b := 164) (ci := 11) (As := []) (by decide) (by decide) rfl ⟨_, _, rfl⟩ dL_law_1233 mcl_180 (c_X12_sentence (d := 0) (by decide) hR h2) rfl rfl (Nat.le_of_ble_eq_true rfl) hcx hcy ?_
  exact bl_icmp_eq (tgt := 1341) dL_law_1236 (by decide) (fun _ => K _ _ _ hI2) (fun cc => absurd rfl cc)
set_option maxHeartbeats 4000000 in
set_option maxRecDepth 100000 in
theorem lc_said {L : bm_L} {I : bm_TI} {J : bm_TJ} {R W : bm_TR} {t cx cy : Nat} (hR : bm_RR R) (hI : bm_Inv I J W) (hLN : L.2.1 < 2 ^ 31) (ht : t + 6 ≤ L.2.1) (hcx : cx ≤ 601024) (hcy : cy ≤ 7293034) (K : ∀ I2 J2 W2, bm_Inv I2 J2 W2 → bm_VL L 182 1341 [(0, .ref 1400), (1, .ref 0), (2, .ref 164), (3, .ref 181), (4, .int (nI t))] [] (I2, J2, R, W2) cx cy) : bm_VL L 182 1241 [(0, .ref 1400), (1, .ref 0), (2, .ref 164), (3, .ref 181), (4, .int (nI t))] [] (I, J, R, W) cx cy := by
  obtain ⟨v, I1, I2, h1, h2, hI2⟩ := e_said hI (L.2.2 (nI t + 1).toNatClampNeg)
  refine bl_aload_n dL_law_1241 1 rfl ?_
  refine bl_aload_n dL_law_1242 0 rfl ?_
  refine bl_iload dL_law_1243 4 rfl ?_
  refine bl_iconst (v := 1) dL_law_1245 (by decide) ?_
  refine bl_iadd dL_law_1246 ?_
  refine bl_sald dL_law_1247 (sc_in (k := 1) (by omega) hLN) ?_
  refine bl_callV (d := 0 + 7) (b := 0) (ci := 10) (As := [.int (L.2.2 (nI t + 1).toNatClampNeg)]) (by decide) (by decide) rfl ⟨_, _, rfl⟩ dL_law_1248 mcl_181 (c_X11_said (d := 0) (by decide) hR h1) rfl rfl (by decide) hcx hcy ?_
  refine bl_aload_n dL_law_1251 2 rfl ?_
  refine bl_aload_n dL_law_1252 0 rfl ?_
  refine bl_iload dL_law_1253 4 rfl ?_
  refine bl_iconst (v := 1) dL_law_1255 (by decide) ?_
  refine bl_iadd dL_law_1256 ?_
  refine bl_sald dL_law_1257 (sc_in (k := 1) (by omega) hLN) ?_
  refine bl_callV (d := 0 + 6) (b := 164) (ci := 11) (As := [.int (L.2.2 (nI t + 1).toNatClampNeg)]) (by decide) (by decide) rfl ⟨_, _, rfl⟩ dL_law_1258 mcl_184 (c_X12_said (d := 0) (by decide) hR h2) rfl rfl (Nat.le_of_ble_eq_true rfl) hcx hcy ?_
  exact bl_icmp_eq (tgt := 1341) dL_law_1261 (by decide) (fun _ => K _ _ _ hI2) (fun cc => absurd rfl cc)
set_option maxHeartbeats 4000000 in
set_option maxRecDepth 100000 in
theorem lc_image {L : bm_L} {I : bm_TI} {J : bm_TJ} {R W : bm_TR} {t cx cy : Nat} (hR : bm_RR R) (hI : bm_Inv I J W) (hLN : L.2.1 < 2 ^ 31) (ht : t + 6 ≤ L.2.1) (hcx : cx ≤ 601024) (hcy : cy ≤ 7293034) (K : ∀ I2 J2 W2, bm_Inv I2 J2 W2 → bm_VL L 182 1341 [(0, .ref 1400), (1, .ref 0), (2, .ref 164), (3, .ref 181), (4, .int (nI t))] [] (I2, J2, R, W2) cx cy) : bm_VL L 182 1266 [(0, .ref 1400), (1, .ref 0), (2, .ref 164), (3, .ref 181), (4, .int (nI t))] [] (I, J, R, W) cx cy := by
  obtain ⟨v, I1, J1, W1, I2, J2, h1, h2, hI2⟩ := e_image hI (L.2.2 (nI t + 1).toNatClampNeg)
  refine bl_aload_n dL_law_1266 1 rfl ?_
  refine bl_aload_n dL_law_1267 0 rfl ?_
  refine bl_iload dL_law_1268 4 rfl ?_
  refine bl_iconst (v := 1) dL_law_1270 (by decide) ?_
  refine bl_iadd dL_law_1271 ?_
  refine bl_sald dL_law_1272 (sc_in (k := 1) (by omega) hLN) ?_
  refine bl_callV (d := 0 + 3) (b := 0) (ci := 10) (As := [.int (L.2.2 (nI t + 1).toNatClampNeg)]) (by decide) (by decide) rfl ⟨_, _, rfl⟩ dL_law_1273 mcl_185 (c_X11_image (d := 0) (by decide) hR h1) rfl rfl (by decide) hcx hcy ?_
  refine bl_aload_n dL_law_1276 2 rfl ?_
  refine bl_aload_n dL_law_1277 0 rfl ?_
  refine bl_iload dL_law_1278 4 rfl ?_
  refine bl_iconst (v := 1) dL_law_1280 (by decide) ?_
  refine bl_iadd dL_law_1281 ?_
  refine bl_sald dL_law_1282 (sc_in (k := 1) (by omega) hLN) ?_
  refine bl_callV (d := 0 + 1) (b := 164) (ci := 11) (As := [.int (L.2.2 (nI t + 1).toNatClampNeg)]) (by decide) (by decide) rfl ⟨_, _, rfl⟩ dL_law_1283 mcl_188 (c_X12_image (d := 0) (by decide) hR h2) rfl rfl (Nat.le_of_ble_eq_true rfl) hcx hcy ?_
  exact bl_icmp_eq (tgt := 1341) dL_law_1286 (by decide) (fun _ => K _ _ _ hI2) (fun cc => absurd rfl cc)
set_option maxHeartbeats 4000000 in
set_option maxRecDepth 100000 in
theorem lc_restore {L : bm_L} {I : bm_TI} {J : bm_TJ} {R W : bm_TR} {t cx cy : Nat} (hR : bm_RR R) (hI : bm_Inv I J W) (hLN : L.2.1 < 2 ^ 31) (ht : t + 6 ≤ L.2.1) (hcx : cx ≤ 601024) (hcy : cy ≤ 7293034) (K : ∀ I2 J2 W2, bm_Inv I2 J2 W2 → bm_VL L 182 1341 [(0, .ref 1400), (1, .ref 0), (2, .ref 164), (3, .ref 181), (4, .int (nI t))] [] (I2, J2, R, W2) cx cy) : bm_VL L 182 1291 [(0, .ref 1400), (1, .ref 0), (2, .ref 164), (3, .ref 181), (4, .int (nI t))] [] (I, J, R, W) cx cy := by
  obtain ⟨v, I1, J1, W1, I2, J2, h1, h2, hI2⟩ := e_restore hI (L.2.2 (nI t + 1).toNatClampNeg)
  refine bl_aload_n dL_law_1291 1 rfl ?_
  refine bl_aload_n dL_law_1292 0 rfl ?_
  refine bl_iload dL_law_1293 4 rfl ?_
  refine bl_iconst (v := 1) dL_law_1295 (by decide) ?_
  refine bl_iadd dL_law_1296 ?_
  refine bl_sald dL_law_1297 (sc_in (k := 1) (by omega) hLN) ?_
  refine bl_callV (d := 0 + 2) (b := 0) (ci := 10) (As := [.int (L.2.2 (nI t + 1).toNatClampNeg)]) (by decide) (by decide) rfl ⟨_, _, rfl⟩ dL_law_1298 mcl_189 (c_X11_restore (d := 0) (by decide) hR h1) rfl rfl (by decide) hcx hcy ?_
  refine bl_aload_n dL_law_1301 2 rfl ?_
  refine bl_aload_n dL_law_1302 0 rfl ?_
  refine bl_iload dL_law_1303 4 rfl ?_
  refine bl_iconst (v := 1) dL_law_1305 (by decide) ?_
  refine bl_iadd dL_law_1306 ?_
  refine bl_sald dL_law_1307 (sc_in (k := 1) (by omega) hLN) ?_
  refine bl_callV (d := 0 + 1) (b := 164) (ci := 11) (As := [.int (L.2.2 (nI t + 1).toNatClampNeg)]) (by decide) (by decide) rfl ⟨_, _, rfl⟩ dL_law_1308 mcl_192 (c_X12_restore (d := 0) (by decide) hR h2) rfl rfl (Nat.le_of_ble_eq_true rfl) hcx hcy ?_
  exact bl_icmp_eq (tgt := 1341) dL_law_1311 (by decide) (fun _ => K _ _ _ hI2) (fun cc => absurd rfl cc)
set_option maxHeartbeats 4000000 in
set_option maxRecDepth 100000 in
theorem lc_count {L : bm_L} {I : bm_TI} {J : bm_TJ} {R W : bm_TR} {t cx cy : Nat} (hR : bm_RR R) (hI : bm_Inv I J W) (hLN : L.2.1 < 2 ^ 31) (ht : t + 6 ≤ L.2.1) (hcx : cx ≤ 601024) (hcy : cy ≤ 7293034) (K : ∀ I2 J2 W2, bm_Inv I2 J2 W2 → bm_VL L 182 1341 [(0, .ref 1400), (1, .ref 0), (2, .ref 164), (3, .ref 181), (4, .int (nI t))] [] (I2, J2, R, W2) cx cy) : bm_VL L 182 1316 [(0, .ref 1400), (1, .ref 0), (2, .ref 164), (3, .ref 181), (4, .int (nI t))] [] (I, J, R, W) cx cy := by
  obtain ⟨v, I2, h1, h2, hI2⟩ := e_count hI (L.2.2 (nI t + 1).toNatClampNeg)
  refine bl_aload_n dL_law_1316 1 rfl ?_
  refine bl_aload_n dL_law_1317 0 rfl ?_
  refine bl_iload dL_law_1318 4 rfl ?_
  refine bl_iconst (v := 1) dL_law_1320 (by decide) ?_
  refine bl_iadd dL_law_1321 ?_
  refine bl_sald dL_law_1322 (sc_in (k := 1) (by omega) hLN) ?_
  refine bl_callV (d := 0) (b := 0) (ci := 10) (As := [.int (L.2.2 (nI t + 1).toNatClampNeg)]) (by decide) (by decide) rfl ⟨_, _, rfl⟩ dL_law_1323 mcl_193 (c_X11_count (d := 0) (by decide) hR h1) rfl rfl (by decide) hcx hcy ?_
  refine bl_aload_n dL_law_1326 2 rfl ?_
  refine bl_aload_n dL_law_1327 0 rfl ?_
  refine bl_iload dL_law_1328 4 rfl ?_
  refine bl_iconst (v := 1) dL_law_1330 (by decide) ?_
  refine bl_iadd dL_law_1331 ?_
  refine bl_sald dL_law_1332 (sc_in (k := 1) (by omega) hLN) ?_
  refine bl_callV (d := 0 + 1) (b := 164) (ci := 11) (As := [.int (L.2.2 (nI t + 1).toNatClampNeg)]) (by decide) (by decide) rfl ⟨_, _, rfl⟩ dL_law_1333 mcl_196 (c_X12_count (d := 0) (by decide) hR h2) rfl rfl (Nat.le_of_ble_eq_true rfl) hcx hcy ?_
  exact bl_icmp_eq (tgt := 1341) dL_law_1336 (by decide) (fun _ => K _ _ _ hI2) (fun cc => absurd rfl cc)
