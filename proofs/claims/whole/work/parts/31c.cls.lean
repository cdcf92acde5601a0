/-! the class's answers -/
section PC
variable {I : bm_TI} {T : pt_T}
theorem pa_men (hP : pp_A I 4 T) : I 4 10 = nI (T 0) := hP.1
theorem pa_joined (hP : pp_A I 4 T) : I 4 11 = nI (T 29) := hP.2.1
theorem pa_grey (hP : pp_A I 4 T) : I 4 12 = nI (T 30) := hP.2.2.1
theorem pa_orders (hP : pp_A I 4 T) : I 4 13 = nI (T 1) := hP.2.2.2.1
theorem pa_foes (hP : pp_A I 4 T) : I 4 14 = nI (T 2) := hP.2.2.2.2.1
theorem pa_clear (hP : pp_A I 4 T) : I 4 15 = nI (T 3) := hP.2.2.2.2.2.1
theorem pa_rain (hP : pp_A I 4 T) : I 4 16 = nI (T 4) := hP.2.2.2.2.2.2.1
theorem pa_brow (hP : pp_A I 4 T) {j : Nat} (h : j < T 0) : I 8 j = nI (T (21 + j)) := (hP.2.2.2.2.2.2.2.1 j h).1
theorem pa_under (hP : pp_A I 4 T) {j : Nat} (h : j < T 0) : I 9 j = pn_x (T (31 + j)) := (hP.2.2.2.2.2.2.2.1 j h).2
theorem pa_first (hP : pp_A I 4 T) {j : Nat} (h : j < T 1) : I 11 j = nI (T (39 + j)) := (hP.2.2.2.2.2.2.2.2.1 j h).1
theorem pa_second (hP : pp_A I 4 T) {j : Nat} (h : j < T 1) : I 12 j = nI (T (46 + j)) := (hP.2.2.2.2.2.2.2.2.1 j h).2
theorem pa_foeX (hP : pp_A I 4 T) {j : Nat} (h : j < T 2) : I 13 j = nI (T (53 + j)) := (hP.2.2.2.2.2.2.2.2.2 j h).1
theorem pa_foeY (hP : pp_A I 4 T) {j : Nat} (h : j < T 2) : I 14 j = nI (T (57 + j)) := (hP.2.2.2.2.2.2.2.2.2 j h).2
theorem pg_asleep {o : Nat} (hQ : pp_S I o T) : I o 7 = nI (T 63) := hQ.1
theorem pg_sooted {o : Nat} (hQ : pp_S I o T) : I o 8 = nI (T 64) := hQ.2.1
theorem pg_pass {o : Nat} (hQ : pp_S I o T) : I o 9 = nI (T 65) := hQ.2.2.1
theorem pg_hour {o : Nat} (hQ : pp_S I o T) : I o 10 = nI (T 61) := hQ.2.2.2.1
theorem pg_lifts {o : Nat} (hQ : pp_S I o T) : I o 11 = nI (T 62) := hQ.2.2.2.2.1
theorem pg_x {o : Nat} (hQ : pp_S I o T) {j : Nat} (h : j < T 0) : I (o + 1) j = nI (T (66 + j)) := (hQ.2.2.2.2.2 j h).1
theorem pg_y {o : Nat} (hQ : pp_S I o T) {j : Nat} (h : j < T 0) : I (o + 2) j = nI (T (74 + j)) := (hQ.2.2.2.2.2 j h).2.1
theorem pg_heard {o : Nat} (hQ : pp_S I o T) {j : Nat} (h : j < T 0) : I (o + 3) j = nI (T (82 + j)) := (hQ.2.2.2.2.2 j h).2.2.1
theorem pg_order {o : Nat} (hQ : pp_S I o T) {j : Nat} (h : j < T 0) : I (o + 4) j = pn_x (T (90 + j)) := (hQ.2.2.2.2.2 j h).2.2.2.1
theorem pg_lost {o : Nat} (hQ : pp_S I o T) {j : Nat} (h : j < T 0) : I (o + 5) j = nI (T (98 + j)) := (hQ.2.2.2.2.2 j h).2.2.2.2
theorem pg_asleep26 (hQ : pp_S I 26 T) : I 26 7 = nI (T 63) := hQ.1
theorem pg_sooted26 (hQ : pp_S I 26 T) : I 26 8 = nI (T 64) := hQ.2.1
theorem pg_pass26 (hQ : pp_S I 26 T) : I 26 9 = nI (T 65) := hQ.2.2.1
theorem pg_hour26 (hQ : pp_S I 26 T) : I 26 10 = nI (T 61) := hQ.2.2.2.1
theorem pg_lifts26 (hQ : pp_S I 26 T) : I 26 11 = nI (T 62) := hQ.2.2.2.2.1
theorem pg_x26 (hQ : pp_S I 26 T) {j : Nat} (h : j < T 0) : I 27 j = nI (T (66 + j)) := (hQ.2.2.2.2.2 j h).1
theorem pg_y26 (hQ : pp_S I 26 T) {j : Nat} (h : j < T 0) : I 28 j = nI (T (74 + j)) := (hQ.2.2.2.2.2 j h).2.1
theorem pg_heard26 (hQ : pp_S I 26 T) {j : Nat} (h : j < T 0) : I 29 j = nI (T (82 + j)) := (hQ.2.2.2.2.2 j h).2.2.1
theorem pg_order26 (hQ : pp_S I 26 T) {j : Nat} (h : j < T 0) : I 30 j = pn_x (T (90 + j)) := (hQ.2.2.2.2.2 j h).2.2.2.1
theorem pg_lost26 (hQ : pp_S I 26 T) {j : Nat} (h : j < T 0) : I 31 j = nI (T (98 + j)) := (hQ.2.2.2.2.2 j h).2.2.2.2
theorem pg_asleep33 (hQ : pp_S I 33 T) : I 33 7 = nI (T 63) := hQ.1
theorem pg_sooted33 (hQ : pp_S I 33 T) : I 33 8 = nI (T 64) := hQ.2.1
theorem pg_pass33 (hQ : pp_S I 33 T) : I 33 9 = nI (T 65) := hQ.2.2.1
theorem pg_hour33 (hQ : pp_S I 33 T) : I 33 10 = nI (T 61) := hQ.2.2.2.1
theorem pg_lifts33 (hQ : pp_S I 33 T) : I 33 11 = nI (T 62) := hQ.2.2.2.2.1
theorem pg_x33 (hQ : pp_S I 33 T) {j : Nat} (h : j < T 0) : I 34 j = nI (T (66 + j)) := (hQ.2.2.2.2.2 j h).1
theorem pg_y33 (hQ : pp_S I 33 T) {j : Nat} (h : j < T 0) : I 35 j = nI (T (74 + j)) := (hQ.2.2.2.2.2 j h).2.1
theorem pg_heard33 (hQ : pp_S I 33 T) {j : Nat} (h : j < T 0) : I 36 j = nI (T (82 + j)) := (hQ.2.2.2.2.2 j h).2.2.1
theorem pg_order33 (hQ : pp_S I 33 T) {j : Nat} (h : j < T 0) : I 37 j = pn_x (T (90 + j)) := (hQ.2.2.2.2.2 j h).2.2.2.1
theorem pg_lost33 (hQ : pp_S I 33 T) {j : Nat} (h : j < T 0) : I 38 j = nI (T (98 + j)) := (hQ.2.2.2.2.2 j h).2.2.2.2
theorem kc_isManT (hP : pp_A I 4 T) (hA : pt_VA T) {m : Nat} (hm : m < T 0) : f_X11_isMan I (nI m) = some true := by
  have h8 := hA.1
  unfold f_X11_isMan
  simp (disch := omega) only [pn_l0, pn_l1, pn_l2, pn_l3, pn_l4, pn_l5, pn_l6, pn_l7, pn_l8, pn_l9, pn_l10, pn_l11, pn_l12, pn_l13, pn_l15, pn_l20, pn_l21, pn_l22, pn_l23, pn_l24, pn_l30, pn_l31, pn_l32, pn_l39, pn_l40, pn_l41, pn_l45, pn_l46, pn_l48, pn_l53, pn_l57, pn_l58, pn_l59, pn_l60, pn_l61, pn_l62, pn_l63, pn_l64, pn_l65, pn_l66, pn_l74, pn_l82, pn_l90, pn_l97, pn_l98, pn_l99, pn_l106, pn_l107, pn_l120, pn_l122, pn_l135, pn_l255, pn_l287, pn_l300, pn_l315, pn_l360, pn_l400, pn_l900, pn_l940, pn_l1000, pn_l1000000, pn_mone, nI_add, pk_mul, nI_clamp, bm_ixk, pn_ltI, pn_leI, pn_eqI, pn_xeq, pn_xeq2, pn_xx, pn_xltI, pn_xleI, pn_xgtI, pn_xgeI, pn_xadd, pn_subx, pn_addx, Option.bind_some, ↓reduceIte, pa_men hP, Nat.not_lt_zero, Nat.not_le.mpr hm]
theorem kc_isManF (hP : pp_A I 4 T) {x : Int32} (h : x < 0 ∨ nI (T 0) ≤ x) : f_X11_isMan I x = some false := by
  unfold f_X11_isMan
  rw [pa_men hP]
  by_cases h1 : x < 0
  · rw [if_pos h1]
  · rw [if_neg h1, if_pos (h.resolve_left h1)]
theorem kc_isOrderT (hP : pp_A I 4 T) (hA : pt_VA T) {m : Nat} (hm : m < T 1) : f_X11_isOrder I (nI m) = some true := by
  have h8 := hA.2.1
  unfold f_X11_isOrder
  simp (disch := omega) only [pn_l0, pn_l1, pn_l2, pn_l3, pn_l4, pn_l5, pn_l6, pn_l7, pn_l8, pn_l9, pn_l10, pn_l11, pn_l12, pn_l13, pn_l15, pn_l20, pn_l21, pn_l22, pn_l23, pn_l24, pn_l30, pn_l31, pn_l32, pn_l39, pn_l40, pn_l41, pn_l45, pn_l46, pn_l48, pn_l53, pn_l57, pn_l58, pn_l59, pn_l60, pn_l61, pn_l62, pn_l63, pn_l64, pn_l65, pn_l66, pn_l74, pn_l82, pn_l90, pn_l97, pn_l98, pn_l99, pn_l106, pn_l107, pn_l120, pn_l122, pn_l135, pn_l255, pn_l287, pn_l300, pn_l315, pn_l360, pn_l400, pn_l900, pn_l940, pn_l1000, pn_l1000000, pn_mone, nI_add, pk_mul, nI_clamp, bm_ixk, pn_ltI, pn_leI, pn_eqI, pn_xeq, pn_xeq2, pn_xx, pn_xltI, pn_xleI, pn_xgtI, pn_xgeI, pn_xadd, pn_subx, pn_addx, Option.bind_some, ↓reduceIte, pa_orders hP, Nat.not_lt_zero, Nat.not_le.mpr hm]
theorem kc_isOrderF (hP : pp_A I 4 T) {x : Int32} (h : x < 0 ∨ nI (T 1) ≤ x) : f_X11_isOrder I x = some false := by
  unfold f_X11_isOrder
  rw [pa_orders hP]
  by_cases h1 : x < 0
  · rw [if_pos h1]
  · rw [if_neg h1, if_pos (h.resolve_left h1)]
theorem kc_min {a b : Nat} (ha : a < 2 ^ 31) (hb : b < 2 ^ 31) : bm_min (nI a) (nI b) = nI (min a b) := by
  unfold bm_min
  simp only [pn_ltI hb ha]
  by_cases h : b < a
  · rw [if_pos h, Nat.min_eq_right (by omega)]
  · rw [if_neg h, Nat.min_eq_left (by omega)]
theorem kc_brow (hP : pp_A I 4 T) {o : Nat} (hQ : pp_S I o T) (hA : pt_VA T) (hS : pt_VS T) {m : Nat} (hm : m < T 0) : f_X8_browOf I o (nI m) = some (nI (pt_brow T m)) := by
  have h8 := hA.1
  have hb := hA.2.2.2.2.2.2.2.1 m hm
  have h64 : T 64 < 256 := pt_256 h8 hS.2.2.1
  have ht : ((T 64).testBit m).toNat ≤ 1 := Bool.toNat_le _
  unfold f_X8_browOf pt_brow
  simp (disch := omega) only [pn_l0, pn_l1, pn_l2, pn_l3, pn_l4, pn_l5, pn_l6, pn_l7, pn_l8, pn_l9, pn_l10, pn_l11, pn_l12, pn_l13, pn_l15, pn_l20, pn_l21, pn_l22, pn_l23, pn_l24, pn_l30, pn_l31, pn_l32, pn_l39, pn_l40, pn_l41, pn_l45, pn_l46, pn_l48, pn_l53, pn_l57, pn_l58, pn_l59, pn_l60, pn_l61, pn_l62, pn_l63, pn_l64, pn_l65, pn_l66, pn_l74, pn_l82, pn_l90, pn_l97, pn_l98, pn_l99, pn_l106, pn_l107, pn_l120, pn_l122, pn_l135, pn_l255, pn_l287, pn_l300, pn_l315, pn_l360, pn_l400, pn_l900, pn_l940, pn_l1000, pn_l1000000, pn_mone, nI_add, pk_mul, nI_clamp, bm_ixk, pn_ltI, pn_leI, pn_eqI, pn_xeq, pn_xeq2, pn_xx, pn_xltI, pn_xleI, pn_xgtI, pn_xgeI, pn_xadd, pn_subx, pn_addx, Option.bind_some, ↓reduceIte, pa_men hP, pa_joined hP, pa_grey hP, pa_orders hP, pa_foes hP, pa_clear hP, pa_rain hP, pa_brow hP, pa_under hP, pa_first hP, pa_second hP, pa_foeX hP, pa_foeY hP, pg_asleep hQ, pg_sooted hQ, pg_pass hQ, pg_hour hQ, pg_lifts hQ, pg_x hQ, pg_y hQ, pg_heard hQ, pg_order hQ, pg_lost hQ, pn_bitX, kc_min]
  cases (T 64).testBit m
  · show some (nI (min 9 (T (21 + m) + 3 * 0))) = some (nI (T (21 + m)))
    rw [Nat.mul_zero, Nat.add_zero, Nat.min_eq_right hb]
  · rfl
theorem kc_far {x y a b : Nat} (hx : x < 2 ^ 30) (hy : y < 2 ^ 30) (ha : a < 2 ^ 30) (hb : b < 2 ^ 30) : f_X11_far (nI x) (nI y) (nI a) (nI b) = nI (pt_far x y a b) := by
  unfold f_X11_far pt_far pt_d
  simp (disch := omega) only [pn_leI]
  by_cases h1 : a ≤ x
  · rw [if_pos h1, pk_sub h1]
    by_cases h2 : b ≤ y
    · rw [if_pos h2, pk_sub h2, nI_add]
      congr 1
      omega
    · rw [if_neg h2, pk_sub (by omega), nI_add]
      congr 1
      omega
  · rw [if_neg h1, pk_sub (by omega)]
    by_cases h2 : b ≤ y
    · rw [if_pos h2, pk_sub h2, nI_add]
      congr 1
      omega
    · rw [if_neg h2, pk_sub (by omega), nI_add]
      congr 1
      omega
/-- how far he is seen, -1 where nobody sees him -/
def pt_range (T : pt_T) (m : Nat) : Nat := if pt_brow T m = 0 then 0 else pt_brow T m * T 3 + 1
theorem kc_range (hP : pp_A I 4 T) (hQ : pp_S I 26 T) (hA : pt_VA T) (hS : pt_VS T) {m : Nat} (hm : m < T 0) : f_X8_rangeOf I (nI m) = some (pn_x (pt_range T m)) := by
  have hb := pt_brow_le hA hm
  unfold f_X8_rangeOf pt_range
  simp (disch := omega) only [pn_l0, pn_l1, pn_l2, pn_l3, pn_l4, pn_l5, pn_l6, pn_l7, pn_l8, pn_l9, pn_l10, pn_l11, pn_l12, pn_l13, pn_l15, pn_l20, pn_l21, pn_l22, pn_l23, pn_l24, pn_l30, pn_l31, pn_l32, pn_l39, pn_l40, pn_l41, pn_l45, pn_l46, pn_l48, pn_l53, pn_l57, pn_l58, pn_l59, pn_l60, pn_l61, pn_l62, pn_l63, pn_l64, pn_l65, pn_l66, pn_l74, pn_l82, pn_l90, pn_l97, pn_l98, pn_l99, pn_l106, pn_l107, pn_l120, pn_l122, pn_l135, pn_l255, pn_l287, pn_l300, pn_l315, pn_l360, pn_l400, pn_l900, pn_l940, pn_l1000, pn_l1000000, pn_mone, nI_add, pk_mul, nI_clamp, bm_ixk, pn_ltI, pn_leI, pn_eqI, pn_xeq, pn_xeq2, pn_xx, pn_xltI, pn_xleI, pn_xgtI, pn_xgeI, pn_xadd, pn_subx, pn_addx, Option.bind_some, ↓reduceIte, kc_brow hP hQ hA hS hm, pa_clear hP]
  by_cases h : pt_brow T m = 0
  · rw [if_pos h, if_pos h]
  · rw [if_neg h, if_neg h, pn_xs]
theorem pt_far_c (x y a b : Nat) : pt_far x y a b = pt_far a b x y := by unfold pt_far pt_d; omega
theorem pt_range_le {T : pt_T} (hA : pt_VA T) {m : Nat} (hm : m < T 0) : pt_range T m ≤ 46 := by
  have hb := pt_brow_le hA hm
  have hc := hA.2.2.2.2.1
  have := Nat.mul_le_mul hb hc
  unfold pt_range
  split <;> omega
theorem pt_shown_r (T : pt_T) (m x y a b : Nat) : pt_shown T (pt_brow T m) x y a b = decide (pt_far x y a b < pt_range T m) := by
  unfold pt_shown pt_range
  by_cases h : pt_brow T m = 0
  · rw [if_pos h, h]; simp
  · rw [if_neg h, decide_eq_true (show 0 < pt_brow T m by omega), Bool.true_and]
    apply decide_eq_decide.mpr
    omega
theorem kc_seen (hP : pp_A I 4 T) (hQ : pp_S I 26 T) (hA : pt_VA T) (hS : pt_VS T) {m : Nat} (hm : m < T 0) : f_X8_seenBy I (nI m) = some (nI (pt_seen T m)) := by
  have h8 := hA.1
  have hM := hS.2.2.2.2 m hm
  have h63 : T 63 < 256 := pt_256 h8 hS.2.1
  unfold f_X8_seenBy pt_seen
  rw [pl_set (F := f_X8_seenBy_l4 I (nI m)) (p := fun k => decide (m ≠ k) && pt_shown T (pt_brow T k) (T (66 + k)) (T (74 + k)) (T (66 + m)) (T (74 + m))) h8]
  · simp (disch := omega) only [Option.bind_some, pg_asleep26 hQ, pn_bitX, pn_b1]
    cases hb : (T 63).testBit m
    · simp only [Bool.false_eq_true, ↓reduceIte]
      congr 2
      apply tz_congr
      intro j hj
      unfold pt_sees
      rw [hb]; rfl
    · simp only [↓reduceIte]
      have e : pt_set (T 0) (fun k => pt_sees T m k) = 0 := by
        rw [tz_congr (q := fun _ => false)]
        · generalize T 0 = n
          induction n with
          | zero => rfl
          | succ n ih => unfold pt_set; rw [ih]; simp
        · intro j hj
          unfold pt_sees
          rw [hb]; simp
      rw [e]; rfl
  · intro q s
    rw [f_X8_seenBy_l4, pa_men hP, if_pos (Int32.le_refl _)]
  · intro q s j hj
    have hK := hS.2.2.2.2 j hj
    have hrl := pt_range_le hA hj
    have hfl := pt_far_le hM.1 hM.2.1 hK.1 hK.2.1
    rw [f_X8_seenBy_l4]
    simp (disch := omega) only [pn_l0, pn_l1, pn_l2, pn_l3, pn_l4, pn_l5, pn_l6, pn_l7, pn_l8, pn_l9, pn_l10, pn_l11, pn_l12, pn_l13, pn_l15, pn_l20, pn_l21, pn_l22, pn_l23, pn_l24, pn_l30, pn_l31, pn_l32, pn_l39, pn_l40, pn_l41, pn_l45, pn_l46, pn_l48, pn_l53, pn_l57, pn_l58, pn_l59, pn_l60, pn_l61, pn_l62, pn_l63, pn_l64, pn_l65, pn_l66, pn_l74, pn_l82, pn_l90, pn_l97, pn_l98, pn_l99, pn_l106, pn_l107, pn_l120, pn_l122, pn_l135, pn_l255, pn_l287, pn_l300, pn_l315, pn_l360, pn_l400, pn_l900, pn_l940, pn_l1000, pn_l1000000, pn_mone, nI_add, pk_mul, nI_clamp, bm_ixk, pn_ltI, pn_leI, pn_eqI, pn_xeq, pn_xeq2, pn_xx, pn_xltI, pn_xleI, pn_xgtI, pn_xgeI, pn_xadd, pn_subx, pn_addx, Option.bind_some, ↓reduceIte, pa_men hP, pg_asleep26 hQ, pg_sooted26 hQ, pg_pass26 hQ, pg_hour26 hQ, pg_lifts26 hQ, pg_x26 hQ, pg_y26 hQ, pg_heard26 hQ, pg_order26 hQ, pg_lost26 hQ, Nat.not_le.mpr hj, kc_range hP hQ hA hS hj, kc_far, pn_shlN, pn_or]
    simp only [pt_shown_r, pt_far_c (T (66 + j))]
    by_cases h : j = m
    · subst h; simp
    · have h' : m ≠ j := fun q => h q.symm
      rw [if_neg h, decide_eq_true h', Bool.true_and]
      by_cases h2 : pt_far (T (66 + m)) (T (74 + m)) (T (66 + j)) (T (74 + j)) < pt_range T j
      · have h3 : ¬ pt_range T j ≤ pt_far (T (66 + m)) (T (74 + m)) (T (66 + j)) (T (74 + j)) := by omega
        simp [h2, h3]
      · have h3 : pt_range T j ≤ pt_far (T (66 + m)) (T (74 + m)) (T (66 + j)) (T (74 + j)) := by omega
        simp [h2, h3]
theorem pt_noself {T : pt_T} (hA : pt_VA T) {m : Nat} (hm : m < T 0) : T (31 + m) ≠ m + 1 := by
  obtain ⟨c, h1, h2⟩ := hA.2.2.2.2.2.2.2.2.2.2.2.1
  intro h
  have e := h1 m hm m
  rw [h2 m hm, h] at e
  simp at e
theorem pn_255 {i : Nat} (h : i < 8) : (255 : Nat).testBit i = true := (by decide : ∀ i, i < 8 → (255 : Nat).testBit i = true) i h
theorem pn_nand {s t : Nat} (hs : s < 256) : nI s &&& (nI t ^^^ (-1)) = nI (s &&& (t ^^^ 255)) := by
  rw [← pn_m1, pn_xor, pn_and]
  congr 1
  apply Nat.eq_of_testBit_eq
  intro i
  simp only [Nat.testBit_and, Nat.testBit_xor]
  by_cases hi : i < 8
  · have e1 : (4294967295 : Nat).testBit i = true := (by decide : ∀ i, i < 8 → (4294967295 : Nat).testBit i = true) i hi
    rw [e1, pn_255 hi]
  · rw [Nat.testBit_lt_two_pow (Nat.lt_of_lt_of_le hs (pn_256 (show 8 ≤ i by omega)))]
    rfl
theorem pt_nand_set {n : Nat} {p : Nat → Bool} {t : Nat} (hn : n ≤ 8) : pt_set n p &&& (t ^^^ 255) = pt_set n (fun j => p j && !t.testBit j) := by
  apply Nat.eq_of_testBit_eq
  intro i
  simp only [Nat.testBit_and, Nat.testBit_xor, tz_bit]
  by_cases hi : i < n
  · rw [pn_255 (by omega)]; simp [Bool.and_assoc]
  · simp [hi]
/-- who reads a man, by the class; r is how far he is seen, and 1 -/
theorem kc_readers0 (hP : pp_A I 4 T) {o : Nat} (hQ : pp_S I o T) (hA : pt_VA T) (hS : pt_VS T) {m : Nat} (hm : m < T 0) : f_X8_readersOf I o (nI m) (pn_x (pt_range T m)) = some (nI (pt_readers T m)) := by
  have h8 := hA.1
  have hM := hS.2.2.2.2 m hm
  have hrl := pt_range_le hA hm
  unfold f_X8_readersOf
  rw [pl_set (F := f_X8_readersOf_l5 I o (nI m) (pn_x (pt_range T m))) (p := fun k => decide (T (31 + k) = m + 1) && pt_shown T (pt_brow T m) (T (66 + m)) (T (74 + m)) (T (66 + k)) (T (74 + k))) h8]
  · simp only [Option.bind_some]
    rw [pg_asleep hQ, pn_nand (tz_256 h8), pt_nand_set h8]
    congr 2
    unfold pt_readers
    apply tz_congr
    intro j hj
    unfold pt_reads pt_sees
    by_cases h : T (31 + j) = m + 1
    · have hne : j ≠ m := fun q => pt_noself hA hj (by rw [h, q])
      rw [decide_eq_true h, decide_eq_true hne, Bool.true_and, Bool.true_and, Bool.true_and, Bool.and_comm]
    · rw [decide_eq_false h]; simp
  · intro q s
    rw [f_X8_readersOf_l5, pa_men hP, if_pos (Int32.le_refl _)]
  · intro q s j hj
    have hK := hS.2.2.2.2 j hj
    have hu := hA.2.2.2.2.2.2.2.2.2.2.1 j hj
    have hfl := pt_far_le hM.1 hM.2.1 hK.1 hK.2.1
    rw [f_X8_readersOf_l5]
    simp (disch := omega) only [pn_l0, pn_l1, pn_l2, pn_l3, pn_l4, pn_l5, pn_l6, pn_l7, pn_l8, pn_l9, pn_l10, pn_l11, pn_l12, pn_l13, pn_l15, pn_l20, pn_l21, pn_l22, pn_l23, pn_l24, pn_l30, pn_l31, pn_l32, pn_l39, pn_l40, pn_l41, pn_l45, pn_l46, pn_l48, pn_l53, pn_l57, pn_l58, pn_l59, pn_l60, pn_l61, pn_l62, pn_l63, pn_l64, pn_l65, pn_l66, pn_l74, pn_l82, pn_l90, pn_l97, pn_l98, pn_l99, pn_l106, pn_l107, pn_l120, pn_l122, pn_l135, pn_l255, pn_l287, pn_l300, pn_l315, pn_l360, pn_l400, pn_l900, pn_l940, pn_l1000, pn_l1000000, pn_mone, nI_add, pk_mul, nI_clamp, bm_ixk, pn_ltI, pn_leI, pn_eqI, pn_xeq, pn_xeq2, pn_xx, pn_xltI, pn_xleI, pn_xgtI, pn_xgeI, pn_xadd, pn_subx, pn_addx, Option.bind_some, ↓reduceIte, pa_men hP, pa_under hP, pg_asleep hQ, pg_sooted hQ, pg_pass hQ, pg_hour hQ, pg_lifts hQ, pg_x hQ, pg_y hQ, pg_heard hQ, pg_order hQ, pg_lost hQ, Nat.not_le.mpr hj, kc_far, pn_shlN, pn_or]
    simp only [pt_shown_r]
    by_cases h : T (31 + j) = m + 1
    · rw [if_pos h, decide_eq_true h, Bool.true_and]
      by_cases h2 : pt_far (T (66 + m)) (T (74 + m)) (T (66 + j)) (T (74 + j)) < pt_range T m
      · have h3 : ¬ pt_range T m ≤ pt_far (T (66 + m)) (T (74 + m)) (T (66 + j)) (T (74 + j)) := by omega
        simp [h2, h3]
      · have h3 : pt_range T m ≤ pt_far (T (66 + m)) (T (74 + m)) (T (66 + j)) (T (74 + j)) := by omega
        simp [h2, h3]
    · rw [if_neg h, decide_eq_false h]; simp
theorem kc_foes (hP : pp_A I 4 T) (hQ : pp_S I 26 T) (hA : pt_VA T) (hS : pt_VS T) {m x y : Nat} (hm : m < T 0) (hx : x ≤ 30) (hy : y ≤ 30) : f_X8_foesSeeing I (nI m) (nI x) (nI y) = some (nI (pt_foes T m x y)) := by
  have h4 := hA.2.2.1
  have hrl := pt_range_le hA hm
  unfold f_X8_foesSeeing pt_foes
  rw [kc_range hP hQ hA hS hm]
  simp only [Option.bind_some]
  rw [pl_set (F := f_X8_foesSeeing_l13 I (nI x) (nI y) (pn_x (pt_range T m))) (p := fun k => pt_shown T (pt_brow T m) x y (T (53 + k)) (T (57 + k))) (n := T 2) (by omega)]
  · rfl
  · intro q s
    rw [f_X8_foesSeeing_l13, pa_foes hP, if_pos (Int32.le_refl _)]
  · intro q s j hj
    have hf := hA.2.2.2.2.2.2.2.2.2.2.2.2.2 j hj
    have hfl := pt_far_le hx hy hf.1 hf.2
    rw [f_X8_foesSeeing_l13]
    simp (disch := omega) only [pn_l0, pn_l1, pn_l2, pn_l3, pn_l4, pn_l5, pn_l6, pn_l7, pn_l8, pn_l9, pn_l10, pn_l11, pn_l12, pn_l13, pn_l15, pn_l20, pn_l21, pn_l22, pn_l23, pn_l24, pn_l30, pn_l31, pn_l32, pn_l39, pn_l40, pn_l41, pn_l45, pn_l46, pn_l48, pn_l53, pn_l57, pn_l58, pn_l59, pn_l60, pn_l61, pn_l62, pn_l63, pn_l64, pn_l65, pn_l66, pn_l74, pn_l82, pn_l90, pn_l97, pn_l98, pn_l99, pn_l106, pn_l107, pn_l120, pn_l122, pn_l135, pn_l255, pn_l287, pn_l300, pn_l315, pn_l360, pn_l400, pn_l900, pn_l940, pn_l1000, pn_l1000000, pn_mone, nI_add, pk_mul, nI_clamp, bm_ixk, pn_ltI, pn_leI, pn_eqI, pn_xeq, pn_xeq2, pn_xx, pn_xltI, pn_xleI, pn_xgtI, pn_xgeI, pn_xadd, pn_subx, pn_addx, Option.bind_some, ↓reduceIte, pa_men hP, pa_joined hP, pa_grey hP, pa_orders hP, pa_foes hP, pa_clear hP, pa_rain hP, pa_brow hP, pa_under hP, pa_first hP, pa_second hP, pa_foeX hP, pa_foeY hP, Nat.not_le.mpr hj, kc_far, pn_shlN, pn_or]
    simp only [pt_shown_r]
    by_cases h2 : pt_far x y (T (53 + j)) (T (57 + j)) < pt_range T m
    · have h3 : ¬ pt_range T m ≤ pt_far x y (T (53 + j)) (T (57 + j)) := by omega
      simp [h2, h3]
    · have h3 : pt_range T m ≤ pt_far x y (T (53 + j)) (T (57 + j)) := by omega
      simp [h2, h3]
theorem kc_havers (hP : pp_A I 4 T) {o : Nat} (hQ : pp_S I o T) (hA : pt_VA T) (hS : pt_VS T) {w : Nat} (hw : w < 100) : f_X8_holdersOf I o (pn_x w) = some (nI (pt_havers T w)) := by
  have h8 := hA.1
  have h7 := hA.2.1
  unfold f_X8_holdersOf pt_havers
  rw [pl_set (F := f_X8_holdersOf_l4 I o (pn_x w)) (p := fun m => decide (T (90 + m) = w)) h8]
  · rfl
  · intro q s
    rw [f_X8_holdersOf_l4, pa_men hP, if_pos (Int32.le_refl _)]
  · intro q s j hj
    have hh := (hS.2.2.2.2 j hj).2.2.2.1
    rw [f_X8_holdersOf_l4]
    simp (disch := omega) only [pn_l0, pn_l1, pn_l2, pn_l3, pn_l4, pn_l5, pn_l6, pn_l7, pn_l8, pn_l9, pn_l10, pn_l11, pn_l12, pn_l13, pn_l15, pn_l20, pn_l21, pn_l22, pn_l23, pn_l24, pn_l30, pn_l31, pn_l32, pn_l39, pn_l40, pn_l41, pn_l45, pn_l46, pn_l48, pn_l53, pn_l57, pn_l58, pn_l59, pn_l60, pn_l61, pn_l62, pn_l63, pn_l64, pn_l65, pn_l66, pn_l74, pn_l82, pn_l90, pn_l97, pn_l98, pn_l99, pn_l106, pn_l107, pn_l120, pn_l122, pn_l135, pn_l255, pn_l287, pn_l300, pn_l315, pn_l360, pn_l400, pn_l900, pn_l940, pn_l1000, pn_l1000000, pn_mone, nI_add, pk_mul, nI_clamp, bm_ixk, pn_ltI, pn_leI, pn_eqI, pn_xeq, pn_xeq2, pn_xx, pn_xltI, pn_xleI, pn_xgtI, pn_xgeI, pn_xadd, pn_subx, pn_addx, Option.bind_some, ↓reduceIte, pa_men hP, pg_asleep hQ, pg_sooted hQ, pg_pass hQ, pg_hour hQ, pg_lifts hQ, pg_x hQ, pg_y hQ, pg_heard hQ, pg_order hQ, pg_lost hQ, Nat.not_le.mpr hj, pn_shlN, pn_or]
    by_cases h : T (90 + j) = w <;> simp [h]
theorem kc_havers_o (hP : pp_A I 4 T) {o : Nat} (hQ : pp_S I o T) (hA : pt_VA T) (hS : pt_VS T) {w : Nat} (hw : w < 99) : f_X8_holdersOf I o (nI w) = some (nI (pt_havers T (w + 1))) := by
  rw [← pn_xs]
  exact kc_havers hP hQ hA hS (by omega)
theorem kc_allMen (hP : pp_A I 4 T) (hA : pt_VA T) : f_X0_allMen I = some (nI (2 ^ T 0 - 1)) := by
  have h8 := hA.1
  unfold f_X0_allMen
  rw [pa_men hP, pn_shl (by omega), pn_pred (Nat.two_pow_pos _)]
theorem kc_orderly (hP : pp_A I 4 T) {o : Nat} (hQ : pp_S I o T) (hA : pt_VA T) (hS : pt_VS T) : f_X8_holders I o = some (nI (pt_orderly T)) := by
  have h8 := hA.1
  unfold f_X8_holders
  rw [kc_allMen hP hA, ← pn_x0, kc_havers hP hQ hA hS (by omega)]
  simp only [Option.bind_some]
  have h2 : (2 : Nat) ^ T 0 ≤ 2 ^ 8 := Nat.pow_le_pow_right (n := 2) (by omega) h8
  rw [pn_x0, pn_nand (by omega)]
  congr 2
  apply Nat.eq_of_testBit_eq
  intro i
  unfold pt_havers pt_orderly
  simp only [Nat.testBit_and, Nat.testBit_xor, tz_bit, Nat.testBit_two_pow_sub_one]
  by_cases hi : i < T 0
  · rw [pn_255 (by omega), decide_eq_true hi]
    by_cases h : T (90 + i) = 0
    · simp [h]
    · have : 0 < T (90 + i) := by omega
      simp [h, this]
  · simp [hi]
end PC
