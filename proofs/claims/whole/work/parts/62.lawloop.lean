theorem bl_widen {L : bm_L} {n pc cx cy cx2 cy2 : Nat} {ls : List (Nat × Value)} {st : List Value} {M : bm_M} (h1 : cx ≤ cx2) (h2 : cy ≤ cy2) (k : bm_VL L n pc ls st M cx2 cy2) : bm_VL L n pc ls st M cx cy :=
  fun p e s m args below meth c D cA A ζ hF hab hAA α H locs lsA a2 hP hD hS hl => W.widen h1 h2 (k p e s m args below meth c D cA A ζ hF hab hAA α H locs lsA a2 hP hD hS hl)
set_option maxHeartbeats 4000000 in
set_option maxRecDepth 100000 in
theorem law_loop {L : bm_L} {R : bm_TR} (hR : bm_RR R) (hLN : L.2.1 ≤ 3072) : ∀ (k t cx cy : Nat) (I : bm_TI) (J : bm_TJ) (W : bm_TR), bm_Inv I J W → t ≤ L.2.1 → L.2.1 - t < k → cx + (L.2.1 - t) ≤ 601024 → cy + 6 * (L.2.1 - t) ≤ 7293034 → bm_VL L 182 23 [(0, .ref 1400), (1, .ref 0), (2, .ref 164), (3, .ref 181), (4, .int (nI t))] [] (I, J, R, W) cx cy := by
  intro k
  induction k with
  | zero => intro t cx cy I J W _ _ h; omega
  | succ k ih =>
    intro t cx cy I J W hI ht hk hcx hcy
    refine bl_iload dL_law_23 4 rfl ?_
    refine bl_aload_n dL_law_25 0 rfl ?_
    refine bl_slen dL_law_26 rfl ?_
    refine bl_bipush (v := 6) dL_law_27 (by decide) ?_
    refine bl_isub dL_law_29 ?_
    refine bl_icmp_gt (tgt := 1347) dL_law_30 (by decide) (fun _ => ?_) (fun cc => ?_)
    · refine bl_iconst (v := 1) dL_law_1347 (by decide) ?_
      exact bl_ret dL_law_1348 (by omega) (by omega)
    have ht6 : t + 6 ≤ L.2.1 := bm_lend (by omega) (by omega) cc
    have hLN2 : L.2.1 < 2 ^ 31 := by omega
    have K : ∀ I2 J2 W2, bm_Inv I2 J2 W2 → bm_VL L 182 1341 [(0, .ref 1400), (1, .ref 0), (2, .ref 164), (3, .ref 181), (4, .int (nI t))] [] (I2, J2, R, W2) (cx + 1) (cy + 6) := fun I2 J2 W2 hI2 => by
      refine bl_iinc (j := 4) (v := nI (t + 6)) (ls1 := [(0, .ref 1400), (1, .ref 0), (2, .ref 164), (3, .ref 181), (4, .int (nI (t + 6)))]) dL_law_1341 rfl (nI_add t 6) (by decide) rfl rfl ?_
      refine bl_goto (tgt := 23) dL_law_1344 (by decide) ?_
      exact ih (t + 6) (cx + 1) (cy + 6) I2 J2 W2 hI2 ht6 (by omega) (by omega) (by omega)
    have K0 : ∀ I2 J2 W2, bm_Inv I2 J2 W2 → bm_VL L 182 1341 [(0, .ref 1400), (1, .ref 0), (2, .ref 164), (3, .ref 181), (4, .int (nI t))] [] (I2, J2, R, W2) cx cy := fun I2 J2 W2 hI2 => bl_widen (by omega) (by omega) (K I2 J2 W2 hI2)
    refine bl_aload_n dL_law_33 0 rfl ?_
    refine bl_iload dL_law_34 4 rfl ?_
    refine bl_sald dL_law_36 (vp_in_nI (by omega) hLN2) ?_
    refine bl_bipush (v := 63) dL_law_37 (by decide) ?_
    refine bl_iand dL_law_39 ?_
    generalize L.2.2 (nI t).toNatClampNeg &&& 63 = X
    rcases bm_swc X with ⟨j, hj, hX⟩ | hX
    · match j, hj, hX with
      | 0, _, hX => exact bl_tableIn (tgt := 224) dL_law_40 (by rw [hX]; decide) (by rw [hX]; decide) (by rw [hX]; rfl) (by decide) (lc_feed hR hI hLN2 ht6 (by omega) (by omega) K0)
      | 1, _, hX => exact bl_tableIn (tgt := 297) dL_law_40 (by rw [hX]; decide) (by rw [hX]; decide) (by rw [hX]; rfl) (by decide) (lc_end hR hI hLN2 ht6 (by omega) (by omega) K0)
      | 2, _, hX => exact bl_tableIn (tgt := 322) dL_law_40 (by rw [hX]; decide) (by rw [hX]; decide) (by rw [hX]; rfl) (by decide) (lc_army hR hI hLN2 ht6 (by omega) (by omega) K0)
      | 3, _, hX => exact bl_tableIn (tgt := 335) dL_law_40 (by rw [hX]; decide) (by rw [hX]; decide) (by rw [hX]; rfl) (by decide) (lc_fault hR hI hLN2 ht6 (by omega) (by omega) K0)
      | 4, _, hX => exact bl_tableIn (tgt := 348) dL_law_40 (by rw [hX]; decide) (by rw [hX]; decide) (by rw [hX]; rfl) (by decide) (lc_man hR hI hLN2 ht6 (by omega) (by omega) K)
      | 5, _, hX => exact bl_tableIn (tgt := 416) dL_law_40 (by rw [hX]; decide) (by rw [hX]; decide) (by rw [hX]; rfl) (by decide) (lc_order hR hI hLN2 ht6 (by omega) (by omega) K0)
      | 6, _, hX => exact bl_tableIn (tgt := 453) dL_law_40 (by rw [hX]; decide) (by rw [hX]; decide) (by rw [hX]; rfl) (by decide) (lc_now hR hI hLN2 ht6 (by omega) (by omega) K0)
      | 7, _, hX => exact bl_tableIn (tgt := 478) dL_law_40 (by rw [hX]; decide) (by rw [hX]; decide) (by rw [hX]; rfl) (by decide) (lc_lift hR hI hLN2 ht6 (by omega) (by omega) K0)
      | 8, _, hX => exact bl_tableIn (tgt := 515) dL_law_40 (by rw [hX]; decide) (by rw [hX]; decide) (by rw [hX]; rfl) (by decide) (lc_give hR hI hLN2 ht6 (by omega) (by omega) K0)
      | 9, _, hX => exact bl_tableIn (tgt := 552) dL_law_40 (by rw [hX]; decide) (by rw [hX]; decide) (by rw [hX]; rfl) (by decide) (lc_sleep hR hI hLN2 ht6 (by omega) (by omega) K0)
      | 10, _, hX => exact bl_tableIn (tgt := 577) dL_law_40 (by rw [hX]; decide) (by rw [hX]; decide) (by rw [hX]; rfl) (by decide) (lc_wake hR hI hLN2 ht6 (by omega) (by omega) K0)
      | 11, _, hX => exact bl_tableIn (tgt := 602) dL_law_40 (by rw [hX]; decide) (by rw [hX]; decide) (by rw [hX]; rfl) (by decide) (lc_soot hR hI hLN2 ht6 (by omega) (by omega) K0)
      | 12, _, hX => exact bl_tableIn (tgt := 627) dL_law_40 (by rw [hX]; decide) (by rw [hX]; decide) (by rw [hX]; rfl) (by decide) (lc_go hR hI hLN2 ht6 (by omega) (by omega) K0)
      | 13, _, hX => exact bl_tableIn (tgt := 664) dL_law_40 (by rw [hX]; decide) (by rw [hX]; decide) (by rw [hX]; rfl) (by decide) (lc_hours hR hI hLN2 ht6 (by omega) (by omega) K0)
      | 14, _, hX => exact bl_tableIn (tgt := 689) dL_law_40 (by rw [hX]; decide) (by rw [hX]; decide) (by rw [hX]; rfl) (by decide) (lc_undo hR hI hLN2 ht6 (by omega) (by omega) K0)
      | 15, _, hX => exact bl_tableIn (tgt := 702) dL_law_40 (by rw [hX]; decide) (by rw [hX]; decide) (by rw [hX]; rfl) (by decide) (lc_sees hR hI hLN2 ht6 (by omega) (by omega) K0)
      | 16, _, hX => exact bl_tableIn (tgt := 727) dL_law_40 (by rw [hX]; decide) (by rw [hX]; decide) (by rw [hX]; rfl) (by decide) (lc_reads hR hI hLN2 ht6 (by omega) (by omega) K0)
      | 17, _, hX => exact bl_tableIn (tgt := 752) dL_law_40 (by rw [hX]; decide) (by rw [hX]; decide) (by rw [hX]; rfl) (by decide) (lc_foes hR hI hLN2 ht6 (by omega) (by omega) K0)
      | 18, _, hX => exact bl_tableIn (tgt := 777) dL_law_40 (by rw [hX]; decide) (by rw [hX]; decide) (by rw [hX]; rfl) (by decide) (lc_reach hR hI hLN2 ht6 (by omega) (by omega) K0)
      | 19, _, hX => exact bl_tableIn (tgt := 814) dL_law_40 (by rw [hX]; decide) (by rw [hX]; decide) (by rw [hX]; rfl) (by decide) (lc_soon hR hI hLN2 ht6 (by omega) (by omega) K0)
      | 20, _, hX => exact bl_tableIn (tgt := 851) dL_law_40 (by rw [hX]; decide) (by rw [hX]; decide) (by rw [hX]; rfl) (by decide) (lc_best hR hI hLN2 ht6 (by omega) (by omega) K0)
      | 21, _, hX => exact bl_tableIn (tgt := 876) dL_law_40 (by rw [hX]; decide) (by rw [hX]; decide) (by rw [hX]; rfl) (by decide) (lc_stand hR hI hLN2 ht6 (by omega) (by omega) K0)
      | 22, _, hX => exact bl_tableIn (tgt := 901) dL_law_40 (by rw [hX]; decide) (by rw [hX]; decide) (by rw [hX]; rfl) (by decide) (lc_hide hR hI hLN2 ht6 (by omega) (by omega) K0)
      | 23, _, hX => exact bl_tableIn (tgt := 926) dL_law_40 (by rw [hX]; decide) (by rw [hX]; decide) (by rw [hX]; rfl) (by decide) (lc_cell hR hI hLN2 ht6 (by omega) (by omega) K0)
      | 24, _, hX => exact bl_tableIn (tgt := 951) dL_law_40 (by rw [hX]; decide) (by rw [hX]; decide) (by rw [hX]; rfl) (by decide) (lc_meant hR hI hLN2 ht6 (by omega) (by omega) K0)
      | 25, _, hX => exact bl_tableIn (tgt := 964) dL_law_40 (by rw [hX]; decide) (by rw [hX]; decide) (by rw [hX]; rfl) (by decide) (lc_wrong hR hI hLN2 ht6 (by omega) (by omega) K0)
      | 26, _, hX => exact bl_tableIn (tgt := 977) dL_law_40 (by rw [hX]; decide) (by rw [hX]; decide) (by rw [hX]; rfl) (by decide) (lc_look hR hI hLN2 ht6 (by omega) (by omega) K0)
      | 27, _, hX => exact bl_tableIn (tgt := 990) dL_law_40 (by rw [hX]; decide) (by rw [hX]; decide) (by rw [hX]; rfl) (by decide) (lc_code hR hI hLN2 ht6 (by omega) (by omega) K0)
      | 28, _, hX => exact bl_tableIn (tgt := 1003) dL_law_40 (by rw [hX]; decide) (by rw [hX]; decide) (by rw [hX]; rfl) (by decide) (lc_scratch hR hI hLN2 ht6 (by omega) (by omega) K0)
      | 29, _, hX => exact bl_tableIn (tgt := 1016) dL_law_40 (by rw [hX]; decide) (by rw [hX]; decide) (by rw [hX]; rfl) (by decide) (lc_ask hR hI hLN2 ht6 (by omega) (by omega) K0)
      | 30, _, hX => exact bl_tableIn (tgt := 1029) dL_law_40 (by rw [hX]; decide) (by rw [hX]; decide) (by rw [hX]; rfl) (by decide) (lc_unrest hR hI hLN2 ht6 (by omega) (by omega) K0)
      | 31, _, hX => exact bl_tableIn (tgt := 1042) dL_law_40 (by rw [hX]; decide) (by rw [hX]; decide) (by rw [hX]; rfl) (by decide) (lc_report hR hI hLN2 ht6 (by omega) (by omega) K0)
      | 32, _, hX => exact bl_tableIn (tgt := 1067) dL_law_40 (by rw [hX]; decide) (by rw [hX]; decide) (by rw [hX]; rfl) (by decide) (lc_byteAt hR hI hLN2 ht6 (by omega) (by omega) K0)
      | 33, _, hX => exact bl_tableIn (tgt := 1092) dL_law_40 (by rw [hX]; decide) (by rw [hX]; decide) (by rw [hX]; rfl) (by decide) (lc_drawn hR hI hLN2 ht6 (by omega) (by omega) K0)
      | 34, _, hX => exact bl_tableIn (tgt := 1129) dL_law_40 (by rw [hX]; decide) (by rw [hX]; decide) (by rw [hX]; rfl) (by decide) (lc_odds hR hI hLN2 ht6 (by omega) (by omega) K0)
      | 35, _, hX => exact bl_tableIn (tgt := 1178) dL_law_40 (by rw [hX]; decide) (by rw [hX]; decide) (by rw [hX]; rfl) (by decide) (lc_book hR hI hLN2 ht6 (by omega) (by omega) K0)
      | 36, _, hX => exact bl_tableIn (tgt := 1203) dL_law_40 (by rw [hX]; decide) (by rw [hX]; decide) (by rw [hX]; rfl) (by decide) (lc_told hR hI hLN2 ht6 (by omega) (by omega) K0)
      | 37, _, hX => exact bl_tableIn (tgt := 1228) dL_law_40 (by rw [hX]; decide) (by rw [hX]; decide) (by rw [hX]; rfl) (by decide) (lc_sentence hR hI hLN2 ht6 (by omega) (by omega) K0)
      | 38, _, hX => exact bl_tableIn (tgt := 1241) dL_law_40 (by rw [hX]; decide) (by rw [hX]; decide) (by rw [hX]; rfl) (by decide) (lc_said hR hI hLN2 ht6 (by omega) (by omega) K0)
      | 39, _, hX => exact bl_tableIn (tgt := 1266) dL_law_40 (by rw [hX]; decide) (by rw [hX]; decide) (by rw [hX]; rfl) (by decide) (lc_image hR hI hLN2 ht6 (by omega) (by omega) K0)
      | 40, _, hX => exact bl_tableIn (tgt := 1291) dL_law_40 (by rw [hX]; decide) (by rw [hX]; decide) (by rw [hX]; rfl) (by decide) (lc_restore hR hI hLN2 ht6 (by omega) (by omega) K0)
      | 41, _, hX => exact bl_tableIn (tgt := 1316) dL_law_40 (by rw [hX]; decide) (by rw [hX]; decide) (by rw [hX]; rfl) (by decide) (lc_count hR hI hLN2 ht6 (by omega) (by omega) K0)
      | j + 42, hj, _ => exact absurd hj (by omega)
    · exact bl_tableOut (tgt := 1341) dL_law_40 hX (by decide) (K0 I J W hI)
