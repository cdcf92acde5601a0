/-! what may be said of which man -/
def lf_v (T : pt_T) (m c : Nat) : Nat := if c = 8 then pt_brow T m else if c = 9 then T (82 + m) else if c = 10 then T (98 + m) else m
def lf_c (v sg n : Nat) : Bool := if sg = 60 then decide (v < n) else if sg = 61 then decide (v = n) else decide (n < v)
def lf_b (T : pt_T) (m c sg n : Nat) : Bool := if c = 0 then (T 63).testBit m else if c = 1 then (T 64).testBit m else if c = 2 then (T 29).testBit m else if c = 3 then (T 30).testBit m else if c = 4 then decide (T (90 + m) = 0) else if c = 5 then decide (T (31 + m) = n + 1) else if c = 6 then pt_sees T m n else if c = 7 then decide (T (90 + m) = n + 1) else lf_c (lf_v T m c) sg n
def lf_s (T : pt_T) (c sg n : Nat) : Nat := pt_set (T 0) (fun m => lf_b T m c sg n)
def qs_T (T S : pt_T) (i : Nat) : pt_T := match i with
  | 0 => fun _ => 0
  | k + 1 => if S (107 + 3 * k) < 12 then pt_up (qs_T T S k) (qt_h S k) (lf_s T (S (107 + 3 * k)) (S (107 + 3 * k + 1)) (S (107 + 3 * k + 2))) else if S (107 + 3 * k) = 20 then pt_up (qs_T T S k) (qt_h S k - 1) (pt_set (T 0) (fun m => !(qs_T T S k (qt_h S k - 1)).testBit m)) else if S (107 + 3 * k) = 21 then pt_up (qs_T T S k) (qt_h S k - 2) (qs_T T S k (qt_h S k - 2) &&& qs_T T S k (qt_h S k - 1)) else pt_up (qs_T T S k) (qt_h S k - 2) (qs_T T S k (qt_h S k - 2) ||| qs_T T S k (qt_h S k - 1))
theorem qs_up {U : pt_T} {n k v j : Nat} (hv : v < 2 ^ n) (h : U j < 2 ^ n) : pt_up U k v j < 2 ^ n := by
  unfold pt_up; split
  · exact hv
  · exact h
theorem qs_lt (T S : pt_T) (i j : Nat) : qs_T T S i j < 2 ^ T 0 := by
  induction i generalizing j with
  | zero => exact Nat.two_pow_pos _
  | succ k ih =>
    unfold qs_T
    split
    · exact qs_up (tz_lt _ _) (ih j)
    · split
      · exact qs_up (tz_lt _ _) (ih j)
      · split
        · exact qs_up (Nat.lt_of_le_of_lt Nat.and_le_left (ih _)) (ih j)
        · exact qs_up (Nat.or_lt_two_pow (ih _) (ih _)) (ih j)
theorem qt_h_le (S : pt_T) (i : Nat) : qt_h S i ≤ i := by
  induction i with
  | zero => exact Nat.le_refl _
  | succ k ih => unfold qt_h; split <;> (try split) <;> omega
theorem tz_self {s n : Nat} (h : s < 2 ^ n) : pt_set n s.testBit = s := by
  apply Nat.eq_of_testBit_eq
  intro i
  rw [tz_bit]
  by_cases hi : i < n
  · rw [decide_eq_true hi, Bool.true_and]
  · rw [decide_eq_false hi, Bool.false_and, Nat.testBit_lt_two_pow (Nat.lt_of_lt_of_le h (Nat.pow_le_pow_right (n := 2) (by omega) (show n ≤ i by omega)))]
section SD
variable {I : bm_TI} {T : pt_T}
theorem kc_straight (hP : pp_A I 4 T) (hA : pt_VA T) {n : Nat} (hn : n < 2 ^ 31) : f_X0_straightUnder I (nI n) = some (nI (pt_set (T 0) (fun m => decide (T (31 + m) = n + 1)))) := by
  have h8 := hA.1
  unfold f_X0_straightUnder
  rw [pl_set (F := f_X0_straightUnder_l4 I (nI n)) (p := fun m => decide (T (31 + m) = n + 1)) h8]
  · rfl
  · intro q s
    rw [f_X0_straightUnder_l4, pa_men hP, if_pos (Int32.le_refl _)]
  · intro q s j hj
    have hu := hA.2.2.2.2.2.2.2.2.2.2.1 j hj
    rw [f_X0_straightUnder_l4]
    simp (disch := omega) only [pn_l0, pn_l1, pn_l2, pn_l3, pn_l4, pn_l5, pn_l6, pn_l7, pn_l8, pn_l9, pn_l10, pn_l11, pn_l12, pn_l13, pn_l15, pn_l20, pn_l21, pn_l22, pn_l23, pn_l24, pn_l30, pn_l31, pn_l32, pn_l39, pn_l40, pn_l41, pn_l45, pn_l46, pn_l48, pn_l53, pn_l57, pn_l58, pn_l59, pn_l60, pn_l61, pn_l62, pn_l63, pn_l64, pn_l65, pn_l66, pn_l74, pn_l82, pn_l90, pn_l97, pn_l98, pn_l99, pn_l106, pn_l107, pn_l120, pn_l122, pn_l135, pn_l255, pn_l287, pn_l300, pn_l315, pn_l360, pn_l400, pn_l900, pn_l940, pn_l1000, pn_l1000000, pn_mone, nI_add, pk_mul, nI_clamp, bm_ixk, pn_ltI, pn_leI, pn_eqI, pn_xeq, pn_xeq2, pn_xx, pn_xltI, pn_xleI, pn_xgtI, pn_xgeI, pn_xadd, pn_subx, pn_addx, Option.bind_some, ↓reduceIte, pa_men hP, pa_under hP, Nat.not_le.mpr hj, pn_shlN, pn_or]
    by_cases h : T (31 + j) = n + 1 <;> simp [h]
theorem pn_shlb : ∀ b : Bool, ∀ m, m < 8 → bm_ishl (nI b.toNat) (nI m) = nI (if b = true then 2 ^ m else 0) := by decide +kernel
theorem kc_seeing (hP : pp_A I 4 T) (hQ : pp_S I 26 T) (hA : pt_VA T) (hS : pt_VS T) {n : Nat} (hn : n < T 0) : f_X7_menSeeing I (nI n) = some (nI (pt_set (T 0) (fun m => pt_sees T m n))) := by
  have h8 := hA.1
  unfold f_X7_menSeeing
  rw [pl_set (F := f_X7_menSeeing_l4 I (nI n)) (p := fun m => pt_sees T m n) h8]
  · rfl
  · intro q s
    rw [f_X7_menSeeing_l4, pa_men hP, if_pos (Int32.le_refl _)]
  · intro q s j hj
    have hl : pt_seen T j < 256 := tz_256 h8
    have hb : (pt_seen T j).testBit n = pt_sees T j n := by
      unfold pt_seen
      rw [tz_bit, decide_eq_true hn, Bool.true_and]
    rw [f_X7_menSeeing_l4, kc_seen hP hQ hA hS hj]
    simp (disch := omega) only [pn_l0, pn_l1, pn_l2, pn_l3, pn_l4, pn_l5, pn_l6, pn_l7, pn_l8, pn_l9, pn_l10, pn_l11, pn_l12, pn_l13, pn_l15, pn_l20, pn_l21, pn_l22, pn_l23, pn_l24, pn_l30, pn_l31, pn_l32, pn_l39, pn_l40, pn_l41, pn_l45, pn_l46, pn_l48, pn_l53, pn_l57, pn_l58, pn_l59, pn_l60, pn_l61, pn_l62, pn_l63, pn_l64, pn_l65, pn_l66, pn_l74, pn_l82, pn_l90, pn_l97, pn_l98, pn_l99, pn_l106, pn_l107, pn_l120, pn_l122, pn_l135, pn_l255, pn_l287, pn_l300, pn_l315, pn_l360, pn_l400, pn_l900, pn_l940, pn_l1000, pn_l1000000, pn_mone, nI_add, pk_mul, nI_clamp, bm_ixk, pn_ltI, pn_leI, pn_eqI, pn_xeq, pn_xeq2, pn_xx, pn_xltI, pn_xleI, pn_xgtI, pn_xgeI, pn_xadd, pn_subx, pn_addx, Option.bind_some, ↓reduceIte, pa_men hP, Nat.not_le.mpr hj, pn_bitX, hb, pn_shlb, pn_or]
theorem kc_measure_w {c : Nat} (h1 : 8 ≤ c) (h2 : c < 12) (hP : pp_A I 4 T) (hQ : pp_S I 26 T) (hA : pt_VA T) (hS : pt_VS T) {m : Nat} (hm : m < T 0) : f_X7_measure I (some (1000 + qt_w c)) (nI m) = some (nI (lf_v T m c)) := by
  have h8 := hA.1
  match c, h1, h2 with
  | 8, _, _ =>
    show f_X7_measure I (some 1030) (nI m) = some (nI (pt_brow T m))
    unfold f_X7_measure
    rw [if_pos (by decide), if_pos rfl, kc_brow hP hQ hA hS hm]; rfl
  | 9, _, _ =>
    show f_X7_measure I (some 1031) (nI m) = some (nI (T (82 + m)))
    unfold f_X7_measure
    rw [if_pos (by decide), if_neg (by decide), if_pos rfl, if_pos (bm_ixk (by omega) (by omega)), nI_clamp (by omega), pg_heard26 hQ hm]
  | 10, _, _ =>
    show f_X7_measure I (some 1032) (nI m) = some (nI (T (98 + m)))
    unfold f_X7_measure
    rw [if_pos (by decide), if_neg (by decide), if_neg (by decide), if_pos rfl, if_pos (bm_ixk (by omega) (by omega)), nI_clamp (by omega), pg_lost26 hQ hm]
  | 11, _, _ =>
    show f_X7_measure I (some 1033) (nI m) = some (nI m)
    unfold f_X7_measure
    rw [if_pos (by decide), if_neg (by decide), if_neg (by decide), if_neg (by decide)]
  | c + 12, _, h2 => omega
theorem lf_v_le (hA : pt_VA T) (hS : pt_VS T) {m c : Nat} (hm : m < T 0) : lf_v T m c ≤ 99 := by
  have h8 := hA.1
  have := pt_brow_le hA hm
  have := hS.2.2.2.2 m hm
  unfold lf_v
  split <;> (try split) <;> (try split) <;> omega
theorem kc_byMeasure {c i sg n : Nat} (h1 : 8 ≤ c) (h2 : c < 12) (hi : i < 40) (hs1 : 60 ≤ sg) (hs2 : sg ≤ 62) (hn : n ≤ 999) (x153 : I 153 i = nI n) (x154 : I 154 i = nI sg) (hP : pp_A I 4 T) (hQ : pp_S I 26 T) (hA : pt_VA T) (hS : pt_VS T) : f_X7_menByMeasure I (some (1000 + qt_w c)) (nI i) = some (nI (pt_set (T 0) (fun m => lf_c (lf_v T m c) sg n))) := by
  have h8 := hA.1
  have cmp : ∀ v : Nat, v ≤ 99 → f_J6_compare_7cf53 (nI v) (nI n) = if n ≤ v then (if v = n then 0 else 1) else -1 := fun v hv => by
    unfold f_J6_compare_7cf53
    simp only [pn_leI (show n < 2 ^ 31 by omega) (show v < 2 ^ 31 by omega), pn_eqI (show v < 2 ^ 31 by omega) (show n < 2 ^ 31 by omega)]
  have loop : ∀ due : Int32, (∀ v : Nat, v ≤ 99 → (f_J6_compare_7cf53 (nI v) (nI n) = due ↔ lf_c v sg n = true)) → f_X7_menByMeasure_l39 I (some (1000 + qt_w c)) (nI i) due 1000 0 0 = some (nI (pt_set (T 0) (fun m => lf_c (lf_v T m c) sg n))) := by
    intro due hdue
    refine pl_set (F := f_X7_menByMeasure_l39 I (some (1000 + qt_w c)) (nI i) due) h8 ?_ ?_
    · intro q s
      rw [f_X7_menByMeasure_l39, pa_men hP, if_pos (Int32.le_refl _)]
    · intro q s m hm
      have hd := hdue (lf_v T m c) (lf_v_le hA hS hm)
      rw [f_X7_menByMeasure_l39, kc_measure_w h1 h2 hP hQ hA hS hm]
      simp (disch := omega) only [pn_l0, pn_l1, pn_l2, pn_l3, pn_l4, pn_l5, pn_l6, pn_l7, pn_l8, pn_l9, pn_l10, pn_l11, pn_l12, pn_l13, pn_l15, pn_l20, pn_l21, pn_l22, pn_l23, pn_l24, pn_l30, pn_l31, pn_l32, pn_l39, pn_l40, pn_l41, pn_l45, pn_l46, pn_l48, pn_l53, pn_l57, pn_l58, pn_l59, pn_l60, pn_l61, pn_l62, pn_l63, pn_l64, pn_l65, pn_l66, pn_l74, pn_l82, pn_l90, pn_l97, pn_l98, pn_l99, pn_l106, pn_l107, pn_l120, pn_l122, pn_l135, pn_l255, pn_l287, pn_l300, pn_l315, pn_l360, pn_l400, pn_l900, pn_l940, pn_l1000, pn_l1000000, pn_mone, nI_add, pk_mul, nI_clamp, bm_ixk, pn_ltI, pn_leI, pn_eqI, pn_xeq, pn_xeq2, pn_xx, pn_xltI, pn_xleI, pn_xgtI, pn_xgeI, pn_xadd, pn_subx, pn_addx, Option.bind_some, ↓reduceIte, pa_men hP, Nat.not_le.mpr hm, x153, pn_shlN, pn_or]
      cases hb : lf_c (lf_v T m c) sg n
      · rw [if_neg (fun e => by rw [hd.mp e] at hb; cases hb)]; simp
      · rw [if_pos (hd.mpr hb)]; simp
  unfold f_X7_menByMeasure
  rw [if_pos (bm_ixk hi (by omega)), nI_clamp (by omega), x154]
  by_cases e60 : sg = 60
  · subst e60
    rw [if_pos (show nI 60 = 60 from rfl), loop (-1) (fun v hv => ?_)]
    · rfl
    · rw [cmp v hv]
      unfold lf_c
      rw [if_pos rfl, decide_eq_true_eq]
      by_cases g : n ≤ v
      · rw [if_pos g]
        by_cases g2 : v = n
        · rw [if_pos g2]; exact ⟨fun e => absurd e (by decide), fun e => by omega⟩
        · rw [if_neg g2]; exact ⟨fun e => absurd e (by decide), fun e => by omega⟩
      · rw [if_neg g]; exact ⟨fun _ => by omega, fun _ => rfl⟩
  · rw [if_neg (show ¬ nI sg = 60 from fun e => e60 ((nI_eq (b := 60) (by omega) (by omega)).mp e))]
    by_cases e62 : sg = 62
    · subst e62
      rw [if_pos (show nI 62 = 62 from rfl), loop 1 (fun v hv => ?_)]
      · rfl
      · rw [cmp v hv]
        unfold lf_c
        rw [if_neg (show ¬ (62 : Nat) = 60 by decide), if_neg (show ¬ (62 : Nat) = 61 by decide), decide_eq_true_eq]
        by_cases g : n ≤ v
        · rw [if_pos g]
          by_cases g2 : v = n
          · rw [if_pos g2]; exact ⟨fun e => absurd e (by decide), fun e => by omega⟩
          · rw [if_neg g2]; exact ⟨fun _ => by omega, fun _ => rfl⟩
        · rw [if_neg g]; exact ⟨fun e => absurd e (by decide), fun e => by omega⟩
    · rw [if_neg (show ¬ nI sg = 62 from fun e => e62 ((nI_eq (b := 62) (by omega) (by omega)).mp e)), loop 0 (fun v hv => ?_)]
      · rfl
      · rw [cmp v hv]
        unfold lf_c
        rw [if_neg e60, if_pos (show sg = 61 by omega), decide_eq_true_eq]
        by_cases g : n ≤ v
        · rw [if_pos g]
          by_cases g2 : v = n
          · rw [if_pos g2]; exact ⟨fun _ => g2, fun _ => rfl⟩
          · rw [if_neg g2]; exact ⟨fun e => absurd e (by decide), fun e => absurd e g2⟩
        · rw [if_neg g]; exact ⟨fun e => absurd e (by decide), fun e => by omega⟩
theorem kc_plain {c i sg n : Nat} (h2 : c < 12) (hi : i < 40) (hs : 8 ≤ c → 60 ≤ sg ∧ sg ≤ 62) (hn : n ≤ 999) (hm1 : c = 5 ∨ c = 6 → n < T 0) (hm2 : c = 7 → n < T 1) (x153 : I 153 i = nI n) (x154 : I 154 i = nI sg) (hP : pp_A I 4 T) (hQ : pp_S I 26 T) (hA : pt_VA T) (hS : pt_VS T) : f_X7_menOfPlain I (some (1000 + qt_w c)) (nI i) = some (nI (lf_s T c sg n)) := by
  have h8 := hA.1
  have h7 := hA.2.1
  match c, h2 with
  | 0, _ =>
    show f_X7_menOfPlain I (some 1022) (nI i) = some (nI (pt_set (T 0) (T 63).testBit))
    unfold f_X7_menOfPlain
    rw [if_pos (by decide), if_pos rfl, pg_asleep26 hQ, tz_self hS.2.1]
  | 1, _ =>
    show f_X7_menOfPlain I (some 1023) (nI i) = some (nI (pt_set (T 0) (T 64).testBit))
    unfold f_X7_menOfPlain
    rw [if_pos (by decide), if_neg (by decide), if_pos rfl, pg_sooted26 hQ, tz_self hS.2.2.1]
  | 2, _ =>
    show f_X7_menOfPlain I (some 1024) (nI i) = some (nI (pt_set (T 0) (T 29).testBit))
    unfold f_X7_menOfPlain
    rw [if_pos (by decide), if_neg (by decide), if_neg (by decide), if_pos rfl, pa_joined hP, tz_self hA.2.2.2.2.2.2.2.2.1]
  | 3, _ =>
    show f_X7_menOfPlain I (some 1025) (nI i) = some (nI (pt_set (T 0) (T 30).testBit))
    unfold f_X7_menOfPlain
    rw [if_pos (by decide), if_neg (by decide), if_neg (by decide), if_neg (by decide), if_pos rfl, pa_grey hP, tz_self hA.2.2.2.2.2.2.2.2.2.1]
  | 4, _ =>
    show f_X7_menOfPlain I (some 1026) (nI i) = some (nI (pt_havers T 0))
    unfold f_X7_menOfPlain
    rw [if_pos (by decide), if_neg (by decide), if_neg (by decide), if_neg (by decide), if_neg (by decide), if_pos rfl, ← pn_x0, kc_havers hP hQ hA hS (by omega)]; rfl
  | 5, _ =>
    show f_X7_menOfPlain I (some 1027) (nI i) = some (nI (pt_set (T 0) (fun m => decide (T (31 + m) = n + 1))))
    unfold f_X7_menOfPlain
    rw [if_pos (by decide), if_neg (by decide), if_neg (by decide), if_neg (by decide), if_neg (by decide), if_neg (by decide), if_pos rfl, if_pos (bm_ixk hi (by omega)), nI_clamp (by omega), x153, kc_straight hP hA (by omega)]; rfl
  | 6, _ =>
    show f_X7_menOfPlain I (some 1028) (nI i) = some (nI (pt_set (T 0) (fun m => pt_sees T m n)))
    unfold f_X7_menOfPlain
    rw [if_pos (by decide), if_neg (by decide), if_neg (by decide), if_neg (by decide), if_neg (by decide), if_neg (by decide), if_neg (by decide), if_pos rfl, if_pos (bm_ixk hi (by omega)), nI_clamp (by omega), x153, kc_seeing hP hQ hA hS (hm1 (by omega))]; rfl
  | 7, _ =>
    show f_X7_menOfPlain I (some 1029) (nI i) = some (nI (pt_havers T (n + 1)))
    unfold f_X7_menOfPlain
    rw [if_pos (by decide), if_neg (by decide), if_neg (by decide), if_neg (by decide), if_neg (by decide), if_neg (by decide), if_neg (by decide), if_neg (by decide), if_pos rfl, if_pos (bm_ixk hi (by omega)), nI_clamp (by omega), x153, kc_havers_o hP hQ hA hS (by have := hm2 rfl; omega)]; rfl
  | c + 8, h2 =>
    have hw : qt_w (c + 8) = 30 + c := by unfold qt_w; rw [if_pos h2]; omega
    have hh := kc_byMeasure (c := c + 8) (by omega) h2 hi (hs (by omega)).1 (hs (by omega)).2 hn x153 x154 hP hQ hA hS
    have e : lf_s T (c + 8) sg n = pt_set (T 0) (fun m => lf_c (lf_v T m (c + 8)) sg n) := by
      unfold lf_s
      apply tz_congr
      intro j hj
      unfold lf_b
      rw [if_neg (by omega), if_neg (by omega), if_neg (by omega), if_neg (by omega), if_neg (by omega), if_neg (by omega), if_neg (by omega), if_neg (by omega)]
    rw [e, ← hh]
    unfold f_X7_menOfPlain
    rw [hw]
    have ne : ∀ k, k < 30 → ¬ (some (1000 + (30 + c)) = some (1000 + k)) := fun k hk e => by have := Option.some.inj e; omega
    rw [if_pos (show bm_iwq (some (1000 + (30 + c))) = true by show (decide (1000 ≤ 1000 + (30 + c)) && decide (1000 + (30 + c) < 1034)) = true; rw [decide_eq_true (by omega), decide_eq_true (by omega)]; rfl), if_neg (ne 22 (by omega)), if_neg (ne 23 (by omega)), if_neg (ne 24 (by omega)), if_neg (ne 25 (by omega)), if_neg (ne 26 (by omega)), if_neg (ne 27 (by omega)), if_neg (ne 28 (by omega)), if_neg (ne 29 (by omega))]
    cases f_X7_menByMeasure I (some (1000 + (30 + c))) (nI i) <;> rfl
theorem pq_leaf {c sg n : Nat} (h2 : c < 12) (hs : 8 ≤ c → 60 ≤ sg ∧ sg ≤ 62) (hn : n ≤ 999) (hm1 : c = 5 ∨ c = 6 → n < T 0) (hR : pp_R I T) (hA : pt_VA T) (hS : pt_VS T) {m : Nat} (hm : m < T 0) : f_X12_isLeaf I (nI m) (nI c) (nI sg) (nI n) = some (lf_b T m c sg n) := by
  have h8 := hA.1
  have h7 := hA.2.1
  have h63 : T 63 < 256 := pt_256 h8 hS.2.1
  have h64 : T 64 < 256 := pt_256 h8 hS.2.2.1
  have h29 : T 29 < 256 := pt_256 h8 hA.2.2.2.2.2.2.2.2.1
  have h30 : T 30 < 256 := pt_256 h8 hA.2.2.2.2.2.2.2.2.2.1
  have hM := hS.2.2.2.2 m hm
  have hu := hA.2.2.2.2.2.2.2.2.2.2.1 m hm
  have hb := pt_brow_le hA hm
  have fin : ∀ v : Nat, v ≤ 99 → 60 ≤ sg → sg ≤ 62 → (if sg = 60 then (if n ≤ v then some false else some true) else if sg = 61 then (if v = n then some true else some false) else if v ≤ n then some false else some true) = some (lf_c v sg n) := fun v hv g1 g2 => by
    unfold lf_c
    by_cases e1 : sg = 60
    · rw [if_pos e1, if_pos e1]
      by_cases g : n ≤ v
      · rw [if_pos g, decide_eq_false (by omega)]
      · rw [if_neg g, decide_eq_true (by omega)]
    · rw [if_neg e1, if_neg e1]
      by_cases e2 : sg = 61
      · rw [if_pos e2, if_pos e2]
        by_cases g : v = n
        · rw [if_pos g, decide_eq_true g]
        · rw [if_neg g, decide_eq_false g]
      · rw [if_neg e2, if_neg e2]
        by_cases g : v ≤ n
        · rw [if_pos g, decide_eq_false (by omega)]
        · rw [if_neg g, decide_eq_true (by omega)]
  unfold f_X12_isLeaf
  match c, h2 with
  | 0, _ => rw [if_pos (show nI 0 = 0 from rfl), hR 63 (by omega), pn_bitOf h63 (by omega)]; rfl
  | 1, _ => rw [if_neg (show ¬ nI 1 = 0 by decide), if_pos (show nI 1 = 1 from rfl), hR 64 (by omega), pn_bitOf h64 (by omega)]; rfl
  | 2, _ => rw [if_neg (show ¬ nI 2 = 0 by decide), if_neg (show ¬ nI 2 = 1 by decide), if_pos (show nI 2 = 2 from rfl), hR 29 (by omega), pn_bitOf h29 (by omega)]; rfl
  | 3, _ => rw [if_neg (show ¬ nI 3 = 0 by decide), if_neg (show ¬ nI 3 = 1 by decide), if_neg (show ¬ nI 3 = 2 by decide), if_pos (show nI 3 = 3 from rfl), hR 30 (by omega), pn_bitOf h30 (by omega)]; rfl
  | 4, _ =>
    simp (disch := omega) only [pn_l0, pn_l1, pn_l2, pn_l3, pn_l4, pn_l5, pn_l6, pn_l7, pn_l8, pn_l9, pn_l10, pn_l11, pn_l12, pn_l13, pn_l15, pn_l20, pn_l21, pn_l22, pn_l23, pn_l24, pn_l30, pn_l31, pn_l32, pn_l39, pn_l40, pn_l41, pn_l45, pn_l46, pn_l48, pn_l53, pn_l57, pn_l58, pn_l59, pn_l60, pn_l61, pn_l62, pn_l63, pn_l64, pn_l65, pn_l66, pn_l74, pn_l82, pn_l90, pn_l97, pn_l98, pn_l99, pn_l106, pn_l107, pn_l120, pn_l122, pn_l135, pn_l255, pn_l287, pn_l300, pn_l315, pn_l360, pn_l400, pn_l900, pn_l940, pn_l1000, pn_l1000000, pn_mone, nI_add, pk_mul, nI_clamp, bm_ixk, pn_ltI, pn_leI, pn_eqI, pn_xeq, pn_xeq2, pn_xx, pn_xltI, pn_xleI, pn_xgtI, pn_xgeI, pn_xadd, pn_subx, pn_addx, Option.bind_some, ↓reduceIte, hR, Nat.reduceEqDiff]
    show _ = some (decide (T (90 + m) = 0))
    by_cases g : T (90 + m) = 0 <;> simp [g]
  | 5, _ =>
    simp (disch := omega) only [pn_l0, pn_l1, pn_l2, pn_l3, pn_l4, pn_l5, pn_l6, pn_l7, pn_l8, pn_l9, pn_l10, pn_l11, pn_l12, pn_l13, pn_l15, pn_l20, pn_l21, pn_l22, pn_l23, pn_l24, pn_l30, pn_l31, pn_l32, pn_l39, pn_l40, pn_l41, pn_l45, pn_l46, pn_l48, pn_l53, pn_l57, pn_l58, pn_l59, pn_l60, pn_l61, pn_l62, pn_l63, pn_l64, pn_l65, pn_l66, pn_l74, pn_l82, pn_l90, pn_l97, pn_l98, pn_l99, pn_l106, pn_l107, pn_l120, pn_l122, pn_l135, pn_l255, pn_l287, pn_l300, pn_l315, pn_l360, pn_l400, pn_l900, pn_l940, pn_l1000, pn_l1000000, pn_mone, nI_add, pk_mul, nI_clamp, bm_ixk, pn_ltI, pn_leI, pn_eqI, pn_xeq, pn_xeq2, pn_xx, pn_xltI, pn_xleI, pn_xgtI, pn_xgeI, pn_xadd, pn_subx, pn_addx, Option.bind_some, ↓reduceIte, hR, Nat.reduceEqDiff]
    show _ = some (decide (T (31 + m) = n + 1))
    by_cases g : T (31 + m) = n + 1 <;> simp [g]
  | 6, _ =>
    have := hm1 (by omega)
    simp (disch := omega) only [pn_l0, pn_l1, pn_l2, pn_l3, pn_l4, pn_l5, pn_l6, pn_l7, pn_l8, pn_l9, pn_l10, pn_l11, pn_l12, pn_l13, pn_l15, pn_l20, pn_l21, pn_l22, pn_l23, pn_l24, pn_l30, pn_l31, pn_l32, pn_l39, pn_l40, pn_l41, pn_l45, pn_l46, pn_l48, pn_l53, pn_l57, pn_l58, pn_l59, pn_l60, pn_l61, pn_l62, pn_l63, pn_l64, pn_l65, pn_l66, pn_l74, pn_l82, pn_l90, pn_l97, pn_l98, pn_l99, pn_l106, pn_l107, pn_l120, pn_l122, pn_l135, pn_l255, pn_l287, pn_l300, pn_l315, pn_l360, pn_l400, pn_l900, pn_l940, pn_l1000, pn_l1000000, pn_mone, nI_add, pk_mul, nI_clamp, bm_ixk, pn_ltI, pn_leI, pn_eqI, pn_xeq, pn_xeq2, pn_xx, pn_xltI, pn_xleI, pn_xgtI, pn_xgeI, pn_xadd, pn_subx, pn_addx, Option.bind_some, ↓reduceIte, pq_sees hR hA hS hm this, Nat.reduceEqDiff]
    rfl
  | 7, _ =>
    simp (disch := omega) only [pn_l0, pn_l1, pn_l2, pn_l3, pn_l4, pn_l5, pn_l6, pn_l7, pn_l8, pn_l9, pn_l10, pn_l11, pn_l12, pn_l13, pn_l15, pn_l20, pn_l21, pn_l22, pn_l23, pn_l24, pn_l30, pn_l31, pn_l32, pn_l39, pn_l40, pn_l41, pn_l45, pn_l46, pn_l48, pn_l53, pn_l57, pn_l58, pn_l59, pn_l60, pn_l61, pn_l62, pn_l63, pn_l64, pn_l65, pn_l66, pn_l74, pn_l82, pn_l90, pn_l97, pn_l98, pn_l99, pn_l106, pn_l107, pn_l120, pn_l122, pn_l135, pn_l255, pn_l287, pn_l300, pn_l315, pn_l360, pn_l400, pn_l900, pn_l940, pn_l1000, pn_l1000000, pn_mone, nI_add, pk_mul, nI_clamp, bm_ixk, pn_ltI, pn_leI, pn_eqI, pn_xeq, pn_xeq2, pn_xx, pn_xltI, pn_xleI, pn_xgtI, pn_xgeI, pn_xadd, pn_subx, pn_addx, Option.bind_some, ↓reduceIte, hR, Nat.reduceEqDiff]
    show _ = some (decide (T (90 + m) = n + 1))
    by_cases g : T (90 + m) = n + 1 <;> simp [g]
  | 8, _ =>
    have hsg := hs (by omega)
    simp (disch := omega) only [pn_l0, pn_l1, pn_l2, pn_l3, pn_l4, pn_l5, pn_l6, pn_l7, pn_l8, pn_l9, pn_l10, pn_l11, pn_l12, pn_l13, pn_l15, pn_l20, pn_l21, pn_l22, pn_l23, pn_l24, pn_l30, pn_l31, pn_l32, pn_l39, pn_l40, pn_l41, pn_l45, pn_l46, pn_l48, pn_l53, pn_l57, pn_l58, pn_l59, pn_l60, pn_l61, pn_l62, pn_l63, pn_l64, pn_l65, pn_l66, pn_l74, pn_l82, pn_l90, pn_l97, pn_l98, pn_l99, pn_l106, pn_l107, pn_l120, pn_l122, pn_l135, pn_l255, pn_l287, pn_l300, pn_l315, pn_l360, pn_l400, pn_l900, pn_l940, pn_l1000, pn_l1000000, pn_mone, nI_add, pk_mul, nI_clamp, bm_ixk, pn_ltI, pn_leI, pn_eqI, pn_xeq, pn_xeq2, pn_xx, pn_xltI, pn_xleI, pn_xgtI, pn_xgeI, pn_xadd, pn_subx, pn_addx, Option.bind_some, ↓reduceIte, pq_brow hR hA hS hm, Nat.reduceEqDiff]
    exact fin (pt_brow T m) (by omega) hsg.1 hsg.2
  | 9, _ =>
    have hsg := hs (by omega)
    simp (disch := omega) only [pn_l0, pn_l1, pn_l2, pn_l3, pn_l4, pn_l5, pn_l6, pn_l7, pn_l8, pn_l9, pn_l10, pn_l11, pn_l12, pn_l13, pn_l15, pn_l20, pn_l21, pn_l22, pn_l23, pn_l24, pn_l30, pn_l31, pn_l32, pn_l39, pn_l40, pn_l41, pn_l45, pn_l46, pn_l48, pn_l53, pn_l57, pn_l58, pn_l59, pn_l60, pn_l61, pn_l62, pn_l63, pn_l64, pn_l65, pn_l66, pn_l74, pn_l82, pn_l90, pn_l97, pn_l98, pn_l99, pn_l106, pn_l107, pn_l120, pn_l122, pn_l135, pn_l255, pn_l287, pn_l300, pn_l315, pn_l360, pn_l400, pn_l900, pn_l940, pn_l1000, pn_l1000000, pn_mone, nI_add, pk_mul, nI_clamp, bm_ixk, pn_ltI, pn_leI, pn_eqI, pn_xeq, pn_xeq2, pn_xx, pn_xltI, pn_xleI, pn_xgtI, pn_xgeI, pn_xadd, pn_subx, pn_addx, Option.bind_some, ↓reduceIte, hR, Nat.reduceEqDiff]
    exact fin (T (82 + m)) (by omega) hsg.1 hsg.2
  | 10, _ =>
    have hsg := hs (by omega)
    simp (disch := omega) only [pn_l0, pn_l1, pn_l2, pn_l3, pn_l4, pn_l5, pn_l6, pn_l7, pn_l8, pn_l9, pn_l10, pn_l11, pn_l12, pn_l13, pn_l15, pn_l20, pn_l21, pn_l22, pn_l23, pn_l24, pn_l30, pn_l31, pn_l32, pn_l39, pn_l40, pn_l41, pn_l45, pn_l46, pn_l48, pn_l53, pn_l57, pn_l58, pn_l59, pn_l60, pn_l61, pn_l62, pn_l63, pn_l64, pn_l65, pn_l66, pn_l74, pn_l82, pn_l90, pn_l97, pn_l98, pn_l99, pn_l106, pn_l107, pn_l120, pn_l122, pn_l135, pn_l255, pn_l287, pn_l300, pn_l315, pn_l360, pn_l400, pn_l900, pn_l940, pn_l1000, pn_l1000000, pn_mone, nI_add, pk_mul, nI_clamp, bm_ixk, pn_ltI, pn_leI, pn_eqI, pn_xeq, pn_xeq2, pn_xx, pn_xltI, pn_xleI, pn_xgtI, pn_xgeI, pn_xadd, pn_subx, pn_addx, Option.bind_some, ↓reduceIte, hR, Nat.reduceEqDiff]
    exact fin (T (98 + m)) (by omega) hsg.1 hsg.2
  | 11, _ =>
    have hsg := hs (by omega)
    simp (disch := omega) only [pn_l0, pn_l1, pn_l2, pn_l3, pn_l4, pn_l5, pn_l6, pn_l7, pn_l8, pn_l9, pn_l10, pn_l11, pn_l12, pn_l13, pn_l15, pn_l20, pn_l21, pn_l22, pn_l23, pn_l24, pn_l30, pn_l31, pn_l32, pn_l39, pn_l40, pn_l41, pn_l45, pn_l46, pn_l48, pn_l53, pn_l57, pn_l58, pn_l59, pn_l60, pn_l61, pn_l62, pn_l63, pn_l64, pn_l65, pn_l66, pn_l74, pn_l82, pn_l90, pn_l97, pn_l98, pn_l99, pn_l106, pn_l107, pn_l120, pn_l122, pn_l135, pn_l255, pn_l287, pn_l300, pn_l315, pn_l360, pn_l400, pn_l900, pn_l940, pn_l1000, pn_l1000000, pn_mone, nI_add, pk_mul, nI_clamp, bm_ixk, pn_ltI, pn_leI, pn_eqI, pn_xeq, pn_xeq2, pn_xx, pn_xltI, pn_xleI, pn_xgtI, pn_xgeI, pn_xadd, pn_subx, pn_addx, Option.bind_some, ↓reduceIte, Nat.reduceEqDiff]
    exact fin m (by omega) hsg.1 hsg.2
  | c + 12, h2 => omega
theorem pn_prec {n : Nat} (h : 1 ≤ n) : nI n + (-1) = nI (n - 1) := by
  obtain ⟨k, rfl⟩ : ∃ k, n = k + 1 := ⟨n - 1, by omega⟩
  exact pk_m1 k
/-- the class, all men at once -/
theorem kc_menOf {W : bm_TR} {S : pt_T} (hP : pp_A I 4 T) (hQ : pp_S I 26 T) (hA : pt_VA T) (hS : pt_VS T) (hQ2 : pp_Q I W 151 S) (hV : pt_VQ T S) (hpos : 0 < S 106) : ∃ I', f_X7_menOf I W = some (nI (qs_T T S (S 106) 0), I') ∧ ∀ o k, o ≠ 155 → I' o k = I o k := by
  have h8 := hA.1
  have hs := hV.1
  obtain ⟨q1, _, q3⟩ := hQ2
  have key : ∃ t : Int32 × bm_TI, f_X7_menOf_l13 W (nI (2 ^ T 0 - 1)) 1000 0 0 I = some t ∧ (t.1 = nI (qt_h S (S 106)) ∧ (∀ j, j < qt_h S (S 106) → t.2 155 j = nI (qs_T T S (S 106) j)) ∧ ∀ o k, o ≠ 155 → t.2 o k = I o k) := by
    refine pl_rel (σ := Int32 × bm_TI) (F := fun k i s => f_X7_menOf_l13 W (nI (2 ^ T 0 - 1)) k s.1 i s.2) (n := S 106) (fun i t => t.1 = nI (qt_h S i) ∧ (∀ j, j < qt_h S i → t.2 155 j = nI (qs_T T S i j)) ∧ ∀ o k, o ≠ 155 → t.2 o k = I o k) ?_ ?_ 1000 (0, I) (by omega) ⟨rfl, fun j hj => absurd hj (Nat.not_lt_zero j), fun _ _ _ => rfl⟩
    · intro k t ⟨a1, a2, a3⟩
      refine ⟨t, ?_, a1, a2, a3⟩
      show f_X7_menOf_l13 W (nI (2 ^ T 0 - 1)) (k + 1) t.1 (nI (S 106)) t.2 = _
      rw [f_X7_menOf_l13, a3 151 4 (by omega), q1, if_pos (Int32.le_refl _)]
    · intro k i t hi ⟨a1, a2, a3⟩
      show ∃ t' : Int32 × bm_TI, f_X7_menOf_l13 W (nI (2 ^ T 0 - 1)) (k + 1) t.1 (nI i) t.2 = f_X7_menOf_l13 W (nI (2 ^ T 0 - 1)) k t'.1 (nI (i + 1)) t'.2 ∧ _
      have hh := qt_h_le S i
      obtain ⟨v1, v2, v3, v4, v5⟩ := hV.2.2 i hi
      obtain ⟨w1, w2, w3⟩ := q3 i hi
      have w1' : W 152 i = some (1000 + qt_w (S (107 + 3 * i))) := w1
      have hwq : bm_iwq (W 152 i) = true := by rw [w1']; exact bm_iwq_w (by omega)
      have hP' : pp_A t.2 4 T := pa_congr (fun o k _ _ => a3 o k (by omega)) hP
      have hQ' : pp_S t.2 26 T := ps_congr (fun k => a3 26 k (by omega)) (fun c k _ _ => a3 c k (by omega)) hQ
      have w2' : t.2 153 i = nI (S (107 + 3 * i + 2)) := by rw [a3 153 i (by omega)]; exact w2
      have w3' : t.2 154 i = nI (S (107 + 3 * i + 1)) := by rw [a3 154 i (by omega)]; exact w3
      rw [f_X7_menOf_l13, a3 151 4 (by omega), q1, if_neg (nI_ge hi (by omega)), if_pos (bm_ixk (by omega) (by omega)), nI_clamp (by omega), if_pos hwq, nI_1, a1]
      rw [qt_h, qs_T]
      rcases v1 with c12 | ⟨c20, g1⟩ | ⟨c2122, g2⟩
      · have hp := kc_plain c12 (by omega) (fun h => v5 h c12) v4 v2 v3 w2' w3' hP' hQ' hA hS
        have hqw : qt_w (S (107 + 3 * i)) = 22 + S (107 + 3 * i) := by unfold qt_w; rw [if_pos c12]
        have ne : ∀ q, q < 22 → ¬ W 152 i = some (1000 + q) := fun q hq e => by rw [w1', hqw] at e; have := Option.some.inj e; omega
        rw [if_neg (ne 21 (by omega)), if_neg (ne 20 (by omega)), if_neg (ne 19 (by omega)), w1', hp]
        simp only [Option.bind_some]
        rw [if_pos (bm_ixk (by omega) (by omega)), nI_clamp (by omega), nI_1, if_pos c12, if_pos c12]
        refine ⟨(nI (qt_h S i + 1), bm_uI t.2 155 (qt_h S i) (nI (lf_s T (S (107 + 3 * i)) (S (107 + 3 * i + 1)) (S (107 + 3 * i + 2))))), rfl, rfl, fun j hj => ?_, fun o k ho => (pn_uI_ne ho).trans (a3 o k ho)⟩
        show bm_uI t.2 155 (qt_h S i) _ 155 j = _
        by_cases e : j = qt_h S i
        · rw [pn_uI_hit e, tu_hit e]
        · rw [pn_uI_ne2 e, tu_ne e]; exact a2 j (by omega)
      · have hn12 : ¬ S (107 + 3 * i) < 12 := by omega
        have e21 : W 152 i = some (1000 + 21) := by rw [w1', c20]; rfl
        rw [if_pos e21, if_neg (show ¬ nI (qt_h S i) < 1 from nI_nlt (b := 1) g1 (by omega)), show nI (qt_h S i) - 1 = nI (qt_h S i - 1) from pn_pred (by omega), if_pos (bm_ixk (by omega) (by omega)), nI_clamp (by omega), if_neg hn12, if_pos c20, if_neg hn12, if_pos c20, a2 (qt_h S i - 1) (by omega)]
        have hlt := qs_lt T S i (qt_h S i - 1)
        have h2 : (2 : Nat) ^ T 0 ≤ 2 ^ 8 := Nat.pow_le_pow_right (n := 2) (by omega) h8
        have eN : (2 ^ T 0 - 1) &&& (qs_T T S i (qt_h S i - 1) ^^^ 255) = pt_set (T 0) (fun m => !(qs_T T S i (qt_h S i - 1)).testBit m) := by
          apply Nat.eq_of_testBit_eq
          intro b
          rw [Nat.testBit_and, Nat.testBit_xor, tz_bit, Nat.testBit_two_pow_sub_one]
          by_cases hb : b < T 0
          · rw [decide_eq_true hb, pn_255 (by omega)]; simp
          · rw [decide_eq_false hb]; simp
        rw [pn_nand (by omega), eN]
        refine ⟨(nI (qt_h S i), bm_uI t.2 155 (qt_h S i - 1) (nI (pt_set (T 0) (fun m => !(qs_T T S i (qt_h S i - 1)).testBit m)))), rfl, rfl, fun j hj => ?_, fun o k ho => (pn_uI_ne ho).trans (a3 o k ho)⟩
        show bm_uI t.2 155 (qt_h S i - 1) _ 155 j = _
        by_cases e : j = qt_h S i - 1
        · rw [pn_uI_hit e, tu_hit e]
        · rw [pn_uI_ne2 e, tu_ne e]; exact a2 j (by omega)
      · have hn12 : ¬ S (107 + 3 * i) < 12 := by omega
        have hn20 : ¬ S (107 + 3 * i) = 20 := by omega
        rw [if_neg hn12, if_neg hn20, if_neg hn12, if_neg hn20]
        have k1 : nI (qt_h S i) + (-1) = nI (qt_h S i - 1) := pn_prec (by omega)
        have k2 : nI (qt_h S i - 1) - 1 = nI (qt_h S i - 2) := by rw [pn_pred (by omega)]; congr 1
        have n2 : ¬ nI (qt_h S i) < 2 := nI_nlt (b := 2) g2 (by omega)
        rcases c2122 with c21 | c22
        · have e20 : W 152 i = some (1000 + 20) := by rw [w1', c21]; rfl
          rw [if_neg (show ¬ W 152 i = some (1000 + 21) by rw [e20]; decide), if_pos e20, if_neg n2, k1, k2, if_pos (bm_ixk (by omega) (by omega)), if_pos (bm_ixk (by omega) (by omega)), nI_clamp (by omega), nI_clamp (by omega), a2 (qt_h S i - 2) (by omega), a2 (qt_h S i - 1) (by omega), pn_and, if_pos c21]
          refine ⟨(nI (qt_h S i - 1), bm_uI t.2 155 (qt_h S i - 2) (nI (qs_T T S i (qt_h S i - 2) &&& qs_T T S i (qt_h S i - 1)))), rfl, rfl, fun j hj => ?_, fun o k ho => (pn_uI_ne ho).trans (a3 o k ho)⟩
          show bm_uI t.2 155 (qt_h S i - 2) _ 155 j = _
          by_cases e : j = qt_h S i - 2
          · rw [pn_uI_hit e, tu_hit e]
          · rw [pn_uI_ne2 e, tu_ne e]; exact a2 j (by omega)
        · have e19 : W 152 i = some (1000 + 19) := by rw [w1', c22]; rfl
          rw [if_neg (show ¬ W 152 i = some (1000 + 21) by rw [e19]; decide), if_neg (show ¬ W 152 i = some (1000 + 20) by rw [e19]; decide), if_pos e19, if_neg n2, k1, k2, if_pos (bm_ixk (by omega) (by omega)), if_pos (bm_ixk (by omega) (by omega)), nI_clamp (by omega), nI_clamp (by omega), a2 (qt_h S i - 2) (by omega), a2 (qt_h S i - 1) (by omega), pn_or, if_neg (show ¬ S (107 + 3 * i) = 21 by omega)]
          refine ⟨(nI (qt_h S i - 1), bm_uI t.2 155 (qt_h S i - 2) (nI (qs_T T S i (qt_h S i - 2) ||| qs_T T S i (qt_h S i - 1)))), rfl, rfl, fun j hj => ?_, fun o k ho => (pn_uI_ne ho).trans (a3 o k ho)⟩
          show bm_uI t.2 155 (qt_h S i - 2) _ 155 j = _
          by_cases e : j = qt_h S i - 2
          · rw [pn_uI_hit e, tu_hit e]
          · rw [pn_uI_ne2 e, tu_ne e]; exact a2 j (by omega)
  obtain ⟨t, e, t1, t2, t3⟩ := key
  have hf := hV.2.1 hpos
  have hh := qt_h_le S (S 106)
  refine ⟨t.2, ?_, t3⟩
  unfold f_X7_menOf
  rw [kc_allMen hP hA]
  simp only [Option.bind_some]
  rw [e]
  simp only [Option.bind_some]
  rw [t1, if_neg (nI_nle (by omega) (by omega)), t2 0 (by omega)]
theorem pn_bi_nz (b : Bool) : (bm_bi b = 0) = (b = false) := by cases b <;> simp <;> decide
theorem pn_narb : vp_nar .boolean 1 = bm_bi true ∧ vp_nar .boolean 0 = bm_bi false := ⟨rfl, rfl⟩
/-- the reference, one man -/
theorem pq_isSaid {S : pt_T} (hR : pp_R I T) (hR2 : ∀ k, 106 ≤ k → k < 107 + 3 * S 106 → I 166 k = nI (S k)) (hA : pt_VA T) (hS : pt_VS T) (hV : pt_VQ T S) (hpos : 0 < S 106) {m : Nat} (hm : m < T 0) : ∃ I', f_X12_isSaid I (nI m) = some ((qs_T T S (S 106) 0).testBit m, I') ∧ ∀ o k, o ≠ 177 → I' o k = I o k := by
  have h8 := hA.1
  have hs := hV.1
  have key : ∃ I' : bm_TI, f_X12_isSaid_l4 (nI m) 1000 0 0 I = some I' ∧ ((∀ j, j < qt_h S (S 106) → I' 177 j = bm_bi ((qs_T T S (S 106) j).testBit m)) ∧ ∀ o k, o ≠ 177 → I' o k = I o k) := by
    refine pl_rel (σ := Int32 × bm_TI) (F := fun k i s => f_X12_isSaid_l4 (nI m) k s.1 i s.2) (n := S 106) (fun i t => t.1 = nI (qt_h S i) ∧ (∀ j, j < qt_h S i → t.2 177 j = bm_bi ((qs_T T S i j).testBit m)) ∧ ∀ o k, o ≠ 177 → t.2 o k = I o k) ?_ ?_ 1000 (0, I) (by omega) ⟨rfl, fun j hj => absurd hj (Nat.not_lt_zero j), fun _ _ _ => rfl⟩
    · intro k t ⟨a1, a2, a3⟩
      refine ⟨t.2, ?_, a2, a3⟩
      show f_X12_isSaid_l4 (nI m) (k + 1) t.1 (nI (S 106)) t.2 = _
      rw [f_X12_isSaid_l4, a3 166 106 (by omega), hR2 106 (by omega) (by omega), if_pos (Int32.le_refl _)]
    · intro k i t hi ⟨a1, a2, a3⟩
      show ∃ t' : Int32 × bm_TI, f_X12_isSaid_l4 (nI m) (k + 1) t.1 (nI i) t.2 = f_X12_isSaid_l4 (nI m) k t'.1 (nI (i + 1)) t'.2 ∧ _
      have hh := qt_h_le S i
      obtain ⟨v1, v2, v3, v4, v5⟩ := hV.2.2 i hi
      have R1 : pp_R t.2 T := fun k hk => by rw [a3 166 k (by omega)]; exact hR k hk
      have x0 : t.2 166 (107 + 3 * i) = nI (S (107 + 3 * i)) := by rw [a3 166 _ (by omega)]; exact hR2 _ (by omega) (by omega)
      have x1 : t.2 166 (107 + 3 * i + 1) = nI (S (107 + 3 * i + 1)) := by rw [a3 166 _ (by omega)]; exact hR2 _ (by omega) (by omega)
      have x2 : t.2 166 (107 + 3 * i + 2) = nI (S (107 + 3 * i + 2)) := by rw [a3 166 _ (by omega)]; exact hR2 _ (by omega) (by omega)
      have i0 : (107 : Int32) + 3 * nI i = nI (107 + 3 * i) := by rw [show (3 : Int32) = nI 3 from rfl, pk_mul, show (107 : Int32) = nI 107 from rfl, nI_add]
      have i1 : nI (107 + 3 * i) + 1 = nI (107 + 3 * i + 1) := nI_1 _
      have i2 : nI (107 + 3 * i) + 2 = nI (107 + 3 * i + 2) := nI_add _ 2
      have ne : ∀ q, q < 100 → S (107 + 3 * i) < 100 → ¬ S (107 + 3 * i) = q → ¬ nI (S (107 + 3 * i)) = nI q := fun q hq h1 h2 e => h2 ((nI_eq (by omega) (by omega)).mp e)
      rw [f_X12_isSaid_l4, a3 166 106 (by omega), hR2 106 (by omega) (by omega), if_neg (nI_ge hi (by omega)), i0, i1, i2, if_pos (bm_ixk (by omega) (by omega)), nI_clamp (show 107 + 3 * i < 2 ^ 31 by omega), x0, a1, nI_1 i, qt_h, qs_T]
      rcases v1 with c12 | ⟨c20, g1⟩ | ⟨c2122, g2⟩
      · rw [if_neg (show ¬ nI (S (107 + 3 * i)) = 20 from ne 20 (by omega) (by omega) (by omega)), if_neg (show ¬ nI (S (107 + 3 * i)) = 21 from ne 21 (by omega) (by omega) (by omega)), if_neg (show ¬ nI (S (107 + 3 * i)) = 22 from ne 22 (by omega) (by omega) (by omega)), if_pos (bm_ixk (by omega) (by omega)), if_pos (bm_ixk (by omega) (by omega)), nI_clamp (by omega), nI_clamp (by omega), x1, x2, pq_leaf c12 (fun h => v5 h c12) v4 v2 R1 hA hS hm]
        simp only [Option.bind_some]
        have hbit : (lf_s T (S (107 + 3 * i)) (S (107 + 3 * i + 1)) (S (107 + 3 * i + 2))).testBit m = lf_b T m (S (107 + 3 * i)) (S (107 + 3 * i + 1)) (S (107 + 3 * i + 2)) := by
          unfold lf_s
          rw [tz_bit, decide_eq_true hm, Bool.true_and]
        have hnar : ∀ b : Bool, vp_nar .boolean (bm_bi b) = bm_bi b := fun b => by cases b <;> rfl
        rw [if_pos (bm_ixk (by omega) (by omega)), nI_clamp (by omega), nI_1, hnar, if_pos c12, if_pos c12]
        refine ⟨(nI (qt_h S i + 1), bm_uI t.2 177 (qt_h S i) (bm_bi (lf_b T m (S (107 + 3 * i)) (S (107 + 3 * i + 1)) (S (107 + 3 * i + 2))))), rfl, rfl, fun j hj => ?_, fun o k ho => (pn_uI_ne ho).trans (a3 o k ho)⟩
        show bm_uI t.2 177 (qt_h S i) _ 177 j = _
        by_cases e : j = qt_h S i
        · rw [pn_uI_hit e, tu_hit e, hbit]
        · rw [pn_uI_ne2 e, tu_ne e]; exact a2 j (by omega)
      · have hn12 : ¬ S (107 + 3 * i) < 12 := by omega
        rw [if_pos (show nI (S (107 + 3 * i)) = 20 by rw [c20]; rfl), show nI (qt_h S i) - 1 = nI (qt_h S i - 1) from pn_pred (by omega), if_pos (bm_ixk (by omega) (by omega)), nI_clamp (by omega), a2 (qt_h S i - 1) (by omega), if_neg hn12, if_pos c20, if_neg hn12, if_pos c20, pn_narb.1, pn_narb.2]
        have hbit : (pt_set (T 0) (fun m => !(qs_T T S i (qt_h S i - 1)).testBit m)).testBit m = !(qs_T T S i (qt_h S i - 1)).testBit m := by rw [tz_bit, decide_eq_true hm, Bool.true_and]
        have hif : ∀ (b : Bool) (F : bm_TI → Option bm_TI), (if bm_bi b = 0 then F (bm_uI t.2 177 (qt_h S i - 1) (bm_bi true)) else F (bm_uI t.2 177 (qt_h S i - 1) (bm_bi false))) = F (bm_uI t.2 177 (qt_h S i - 1) (bm_bi (!b))) := fun b F => by cases b <;> rfl
        rw [hif _ (fun I => f_X12_isSaid_l4 (nI m) k (nI (qt_h S i)) (nI (i + 1)) I)]
        refine ⟨(nI (qt_h S i), bm_uI t.2 177 (qt_h S i - 1) (bm_bi (!(qs_T T S i (qt_h S i - 1)).testBit m))), rfl, rfl, fun j hj => ?_, fun o k ho => (pn_uI_ne ho).trans (a3 o k ho)⟩
        show bm_uI t.2 177 (qt_h S i - 1) _ 177 j = _
        by_cases e : j = qt_h S i - 1
        · rw [pn_uI_hit e, tu_hit e, hbit]
        · rw [pn_uI_ne2 e, tu_ne e]; exact a2 j (by omega)
      · have hn12 : ¬ S (107 + 3 * i) < 12 := by omega
        have hn20 : ¬ S (107 + 3 * i) = 20 := by omega
        have k1 : nI (qt_h S i) + (-1) = nI (qt_h S i - 1) := pn_prec (by omega)
        have k2 : nI (qt_h S i - 1) - 1 = nI (qt_h S i - 2) := by rw [pn_pred (by omega)]; congr 1
        rw [if_neg hn12, if_neg hn20, if_neg hn12, if_neg hn20, k1, k2]
        rw [if_neg (show ¬ nI (S (107 + 3 * i)) = 20 from ne 20 (by omega) (by omega) hn20)]
        have hx : bm_ix 45 (nI (qt_h S i - 2)) = true := bm_ixk (by omega) (by omega)
        have hy : bm_ix 45 (nI (qt_h S i - 1)) = true := bm_ixk (by omega) (by omega)
        simp only [hx, hy, nI_clamp (show qt_h S i - 2 < 2 ^ 31 by omega), nI_clamp (show qt_h S i - 1 < 2 ^ 31 by omega), a2 (qt_h S i - 2) (by omega), a2 (qt_h S i - 1) (by omega), pn_narb.1, pn_narb.2, ↓reduceIte]
        rcases c2122 with c21 | c22
        · have e21 : nI (S (107 + 3 * i)) = 21 := by rw [c21]; rfl
          rw [if_pos e21, if_pos e21, if_pos c21]
          have hif : ∀ (a b : Bool) (F : bm_TI → Option bm_TI), (if bm_bi a = 0 then F (bm_uI t.2 177 (qt_h S i - 2) (bm_bi false)) else if bm_bi b = 0 then F (bm_uI t.2 177 (qt_h S i - 2) (bm_bi false)) else F (bm_uI t.2 177 (qt_h S i - 2) (bm_bi true))) = F (bm_uI t.2 177 (qt_h S i - 2) (bm_bi (a && b))) := fun a b F => by cases a <;> cases b <;> rfl
          rw [hif _ _ (fun I => f_X12_isSaid_l4 (nI m) k (nI (qt_h S i - 1)) (nI (i + 1)) I)]
          refine ⟨(nI (qt_h S i - 1), bm_uI t.2 177 (qt_h S i - 2) (bm_bi ((qs_T T S i (qt_h S i - 2)).testBit m && (qs_T T S i (qt_h S i - 1)).testBit m))), rfl, rfl, fun j hj => ?_, fun o k ho => (pn_uI_ne ho).trans (a3 o k ho)⟩
          show bm_uI t.2 177 (qt_h S i - 2) _ 177 j = _
          by_cases e : j = qt_h S i - 2
          · rw [pn_uI_hit e, tu_hit e, Nat.testBit_and]
          · rw [pn_uI_ne2 e, tu_ne e]; exact a2 j (by omega)
        · have hn21 : ¬ S (107 + 3 * i) = 21 := by omega
          have e22 : nI (S (107 + 3 * i)) = 22 := by rw [c22]; rfl
          rw [if_neg (show ¬ nI (S (107 + 3 * i)) = 21 from ne 21 (by omega) (by omega) hn21), if_pos e22, if_neg (show ¬ nI (S (107 + 3 * i)) = 21 from ne 21 (by omega) (by omega) hn21), if_neg hn21]
          have hif : ∀ (a b : Bool) (F : bm_TI → Option bm_TI), (if bm_bi a = 0 then (if bm_bi b = 0 then F (bm_uI t.2 177 (qt_h S i - 2) (bm_bi false)) else F (bm_uI t.2 177 (qt_h S i - 2) (bm_bi true))) else F (bm_uI t.2 177 (qt_h S i - 2) (bm_bi true))) = F (bm_uI t.2 177 (qt_h S i - 2) (bm_bi (a || b))) := fun a b F => by cases a <;> cases b <;> rfl
          rw [hif _ _ (fun I => f_X12_isSaid_l4 (nI m) k (nI (qt_h S i - 1)) (nI (i + 1)) I)]
          refine ⟨(nI (qt_h S i - 1), bm_uI t.2 177 (qt_h S i - 2) (bm_bi ((qs_T T S i (qt_h S i - 2)).testBit m || (qs_T T S i (qt_h S i - 1)).testBit m))), rfl, rfl, fun j hj => ?_, fun o k ho => (pn_uI_ne ho).trans (a3 o k ho)⟩
          show bm_uI t.2 177 (qt_h S i - 2) _ 177 j = _
          by_cases e : j = qt_h S i - 2
          · rw [pn_uI_hit e, tu_hit e, Nat.testBit_or]
          · rw [pn_uI_ne2 e, tu_ne e]; exact a2 j (by omega)
  obtain ⟨I', e, t2, t3⟩ := key
  have hf := hV.2.1 hpos
  refine ⟨I', ?_, t3⟩
  unfold f_X12_isSaid
  rw [e]
  simp only [Option.bind_some]
  rw [t2 0 (by omega)]
  cases (qs_T T S (S 106) 0).testBit m <;> rfl
theorem pn_xeqS {a b : Nat} (ha : a ≤ 2 ^ 31) (hb : b < 1000) : (nI b = pn_x a) = (a = b + 1) := by
  cases a with
  | zero => exact pn_xeq2 (by omega) (by omega)
  | succ k => rw [pn_xs, pn_eqI (by omega) (by omega)]; exact propext ⟨fun h => by omega, fun h => by omega⟩
theorem pn_xm1S {a : Nat} (ha : a ≤ 2 ^ 31) : (pn_x a = -1) = (a = 0) := by
  cases a with
  | zero => exact pn_xm1 (by omega)
  | succ k => rw [pn_xs, pn_neg (by omega)]; exact propext ⟨fun h => h.elim, fun h => by omega⟩
/-- the k-th of a set -/
def sd_p (M k j : Nat) : Bool := M.testBit j && decide (pt_cnt j M.testBit = k)
theorem kc_bitNumber {M k : Nat} (hM : M < 256) (hk : k < 2 ^ 31) : f_X11_bitNumber (nI M) (nI k) = some (pn_x (pt_fnd 8 (sd_p M k))) := by
  have key : ∀ i j q, j + i = 8 → i < q → pt_fnd j (sd_p M k) = 0 → f_X11_bitNumber_l4 (nI M) (nI k) q (nI (pt_cnt j M.testBit)) (nI j) = some (if pt_fnd 8 (sd_p M k) = 0 then .inr () else .inl (nI (pt_fnd 8 (sd_p M k) - 1))) := by
    intro i
    induction i with
    | zero =>
      intro j q hj hq hf
      obtain ⟨q, rfl⟩ : ∃ p, q = p + 1 := ⟨q - 1, by omega⟩
      obtain rfl : j = 8 := by omega
      rw [f_X11_bitNumber_l4, if_pos (show (8 : Int32) ≤ nI 8 by decide), if_pos hf]
    | succ i ih =>
      intro j q hj hq hf
      obtain ⟨q, rfl⟩ : ∃ p, q = p + 1 := ⟨q - 1, by omega⟩
      have hcl := pt_cnt_le j M.testBit
      have g8 : ¬ 8 ≤ j := by omega
      have hne : ∀ hp : sd_p M k j = false, pt_fnd (j + 1) (sd_p M k) = 0 := fun hp => by unfold pt_fnd; rw [if_pos hf, if_neg (by rw [hp]; decide)]
      rw [f_X11_bitNumber_l4]
      simp (disch := omega) only [pn_l0, pn_l1, pn_l2, pn_l3, pn_l4, pn_l5, pn_l6, pn_l7, pn_l8, pn_l9, pn_l10, pn_l11, pn_l12, pn_l13, pn_l15, pn_l20, pn_l21, pn_l22, pn_l23, pn_l24, pn_l30, pn_l31, pn_l32, pn_l39, pn_l40, pn_l41, pn_l45, pn_l46, pn_l48, pn_l53, pn_l57, pn_l58, pn_l59, pn_l60, pn_l61, pn_l62, pn_l63, pn_l64, pn_l65, pn_l66, pn_l74, pn_l82, pn_l90, pn_l97, pn_l98, pn_l99, pn_l106, pn_l107, pn_l120, pn_l122, pn_l135, pn_l255, pn_l287, pn_l300, pn_l315, pn_l360, pn_l400, pn_l900, pn_l940, pn_l1000, pn_l1000000, pn_mone, nI_add, pk_mul, nI_clamp, bm_ixk, pn_ltI, pn_leI, pn_eqI, pn_xeq, pn_xeq2, pn_xx, pn_xltI, pn_xleI, pn_xgtI, pn_xgeI, pn_xadd, pn_subx, pn_addx, Option.bind_some, ↓reduceIte, g8, pn_bitX, pn_b1N]
      cases hb : M.testBit j
      · simp only [Bool.false_eq_true, ↓reduceIte]
        have hp : sd_p M k j = false := by unfold sd_p; rw [hb]; rfl
        have := ih (j + 1) q (by omega) (by omega) (hne hp)
        rw [pt_cnt, hb] at this
        exact this
      · simp only [↓reduceIte]
        by_cases e : pt_cnt j M.testBit = k
        · have hp : sd_p M k j = true := by unfold sd_p; rw [hb, decide_eq_true e]; rfl
          rw [if_pos e, tf_step (by omega) hf hp, if_neg (by omega), Nat.add_sub_cancel]
        · have hp : sd_p M k j = false := by unfold sd_p; rw [hb, decide_eq_false e]; rfl
          rw [if_neg e]
          have := ih (j + 1) q (by omega) (by omega) (hne hp)
          rw [pt_cnt, hb] at this
          exact this
  have h0 := key 8 0 1000 (by omega) (by omega) rfl
  have h0' : f_X11_bitNumber_l4 (nI M) (nI k) 1000 0 0 = _ := h0
  unfold f_X11_bitNumber
  rw [h0']
  simp only [Option.bind_some]
  by_cases h : pt_fnd 8 (sd_p M k) = 0
  · rw [if_pos h, h]; rfl
  · rw [if_neg h, pn_xp (by omega)]
/-- the reference's way through the men; x: which one, or all -/
theorem pq_said_l {S : pt_T} (hR : pp_R I T) (hR2 : ∀ k, 106 ≤ k → k < 107 + 3 * S 106 → I 166 k = nI (S k)) (hA : pt_VA T) (hS : pt_VS T) (hV : pt_VQ T S) (hpos : 0 < S 106) (x : Nat) (hx : x ≤ 2 ^ 31) : ∃ I', (∀ o k, o ≠ 177 → I' o k = I o k) ∧ f_X12_said_l26 (pn_x x) 1000 0 0 I = some (if pt_fnd (T 0) (fun j => (qs_T T S (S 106) 0).testBit j && decide (pt_cnt j (qs_T T S (S 106) 0).testBit + 1 = x)) = 0 then .inr (nI (pt_cnt (T 0) (qs_T T S (S 106) 0).testBit), I') else .inl (nI (pt_fnd (T 0) (fun j => (qs_T T S (S 106) 0).testBit j && decide (pt_cnt j (qs_T T S (S 106) 0).testBit + 1 = x)) - 1), I')) := by
  have h8 := hA.1
  generalize hMM : qs_T T S (S 106) 0 = M
  have key : ∀ i j q (J : bm_TI), j + i = T 0 → i < q → (∀ o k, o ≠ 177 → J o k = I o k) → pt_fnd j (fun j => M.testBit j && decide (pt_cnt j M.testBit + 1 = x)) = 0 → ∃ I', (∀ o k, o ≠ 177 → I' o k = I o k) ∧ f_X12_said_l26 (pn_x x) q (nI (pt_cnt j M.testBit)) (nI j) J = some (if pt_fnd (T 0) (fun j => M.testBit j && decide (pt_cnt j M.testBit + 1 = x)) = 0 then .inr (nI (pt_cnt (T 0) M.testBit), I') else .inl (nI (pt_fnd (T 0) (fun j => M.testBit j && decide (pt_cnt j M.testBit + 1 = x)) - 1), I')) := by
    intro i
    induction i with
    | zero =>
      intro j q J hj hq hJ hf
      obtain ⟨q, rfl⟩ : ∃ p, q = p + 1 := ⟨q - 1, by omega⟩
      obtain rfl : j = T 0 := by omega
      refine ⟨J, hJ, ?_⟩
      rw [f_X12_said_l26, hJ 166 0 (by omega), hR 0 (by omega), if_pos (Int32.le_refl _), if_pos hf]
    | succ i ih =>
      intro j q J hj hq hJ hf
      obtain ⟨q, rfl⟩ : ∃ p, q = p + 1 := ⟨q - 1, by omega⟩
      have hcl := pt_cnt_le j M.testBit
      obtain ⟨J2, e2, f2⟩ := pq_isSaid (I := J) (m := j) (fun k hk => by rw [hJ 166 k (by omega)]; exact hR k hk) (fun k h1 h2 => by rw [hJ 166 k (by omega)]; exact hR2 k h1 h2) hA hS hV hpos (by omega)
      rw [hMM] at e2
      have hJ2 : ∀ o k, o ≠ 177 → J2 o k = I o k := fun o k ho => by rw [f2 o k ho, hJ o k ho]
      have hne : ∀ hp : (M.testBit j && decide (pt_cnt j M.testBit + 1 = x)) = false, pt_fnd (j + 1) (fun j => M.testBit j && decide (pt_cnt j M.testBit + 1 = x)) = 0 := fun hp => by unfold pt_fnd; rw [if_pos hf, if_neg (by show ¬ (M.testBit j && decide (pt_cnt j M.testBit + 1 = x)) = true; rw [hp]; decide)]
      rw [f_X12_said_l26, hJ 166 0 (by omega), hR 0 (by omega), if_neg (nI_ge (by omega) (by omega)), e2, nI_1 j]
      simp only [Option.bind_some]
      cases hb : M.testBit j
      · simp only [Bool.false_eq_true, ↓reduceIte]
        have := ih (j + 1) q J2 (by omega) (by omega) hJ2 (hne (by rw [hb]; rfl))
        rw [pt_cnt, hb] at this
        exact this
      · simp only [↓reduceIte]
        rw [nI_1]
        simp only [pn_xeqS hx (show pt_cnt j M.testBit < 1000 by omega)]
        by_cases e : x = pt_cnt j M.testBit + 1
        · have hp : (M.testBit j && decide (pt_cnt j M.testBit + 1 = x)) = true := by rw [hb, decide_eq_true e.symm]; rfl
          rw [if_pos e]
          refine ⟨J2, hJ2, ?_⟩
          rw [tf_step (n := T 0) (p := fun j => M.testBit j && decide (pt_cnt j M.testBit + 1 = x)) (by omega) hf hp, if_neg (by omega), Nat.add_sub_cancel]
        · have hp : (M.testBit j && decide (pt_cnt j M.testBit + 1 = x)) = false := by rw [hb, decide_eq_false (fun q => e q.symm)]; rfl
          rw [if_neg e]
          have := ih (j + 1) q J2 (by omega) (by omega) hJ2 (hne hp)
          rw [pt_cnt, hb] at this
          exact this
  exact key (T 0) 0 1000 I (by omega) (by omega) (fun _ _ _ => rfl) rfl
end SD
section EN
variable {I : bm_TI} {J : bm_TJ} {W : bm_TR}
theorem tf_ext {n m : Nat} {p : Nat → Bool} (hnm : n ≤ m) (h : ∀ j, n ≤ j → j < m → p j = false) : pt_fnd m p = pt_fnd n p := by
  induction m with
  | zero => rw [show n = 0 by omega]
  | succ k ih =>
    by_cases e : n = k + 1
    · rw [e]
    · have := ih (by omega) (fun j h1 h2 => h j h1 (by omega))
      rw [pt_fnd, this, h k (by omega) (by omega)]
      split
      · rename_i h0; rw [h0]; rfl
      · rfl
theorem e_said (hI : bm_Inv I J W) : ∀ a1 : Int32, ∃ v I1 I2, f_X11_said I W a1 = some (v, I1) ∧ f_X12_said I1 a1 = some (v, I2) ∧ bm_Inv I2 J W := by
  intro a1
  obtain ⟨T, S, hF, hU, hG0, hG1, hT, hM, hK⟩ := id hI
  obtain ⟨hR, hR2, hP, hQ, hQ2, _, hA, hS, hV⟩ := id hF
  have h8 := hA.1
  have hs := hV.1
  obtain ⟨q1, ⟨n, q2, hn20, hn0⟩, q3⟩ := id hQ2
  have r106 : I 166 106 = nI (S 106) := hR2 106 (by omega) (by omega)
  unfold f_X11_said
  rw [q2]
  by_cases hz : n = 0
  · rw [hz, if_pos (show nI 0 = 0 from rfl)]
    refine ⟨_, _, bm_uI I 164 0 0, rfl, ?_, iv_q hI⟩
    unfold f_X12_said
    rw [pn_uI_ne (by omega), r106, hn0.mp hz]; rfl
  · have hpos : 0 < S 106 := by
      rcases Nat.eq_zero_or_pos (S 106) with h | h
      · exact absurd (hn0.mpr h) hz
      · exact h
    rw [if_neg (nI_ne0 (by omega) (by omega))]
    by_cases hk : (-1 : Int32) ≤ a1
    · rw [if_pos hk]
      obtain ⟨I1, e1, f1⟩ := kc_menOf hP hQ hA hS hQ2 hV hpos
      rw [e1]
      simp only [Option.bind_some]
      have hlt := qs_lt T S (S 106) 0
      have hlt2 : qs_T T S (S 106) 0 < 256 := pt_256 h8 hlt
      obtain ⟨x, hx, rfl⟩ : ∃ x : Nat, x ≤ 2 ^ 31 ∧ a1 = pn_x x := by
        by_cases h0 : a1 < 0
        · refine ⟨0, by omega, ?_⟩
          apply Int32.toInt_inj.1
          rw [Int32.lt_iff_toInt_lt] at h0
          rw [Int32.le_iff_toInt_le] at hk
          have e0 : (0 : Int32).toInt = 0 := rfl
          have e1 : (-1 : Int32).toInt = -1 := rfl
          have e2 : (pn_x 0).toInt = -1 := rfl
          omega
        · obtain ⟨j, hj, rfl⟩ := nI_of h0
          exact ⟨j + 1, by omega, (pn_xs j).symm⟩
      have R1 : pp_R (bm_uI I1 164 0 0) T := pr_164 (fun k hk => by rw [f1 166 k (by omega)]; exact hR k hk)
      obtain ⟨I2, f2, e2⟩ := pq_said_l R1 (fun k h1 h2 => by rw [pn_uI_ne (by omega), f1 166 k (by omega)]; exact hR2 k h1 h2) hA hS hV hpos x hx
      have hfin : bm_Inv I2 J W := by
        have ff : ∀ o k, o ≠ 177 → o ≠ 155 → (o ≠ 164 ∨ k ≠ 0) → I2 o k = I o k := fun o k c1 c2 c3 => by rw [f2 o k c1, pn_uI_off c3, f1 o k c2]
        exact iv_set hI (fun o k ho => ff o k (by omega) (by omega) (by omega)) (fun _ _ _ => rfl) (fun _ _ _ => rfl) (iT_congr (fun o k ho => ff o k (by omega) (by omega) (by omega)) hT) (iM_congr (fun o k ho => ff o k (by omega) (by omega) (by omega)) hM)
      generalize qs_T T S (S 106) 0 = M at hlt hlt2 e2 ⊢
      have c3 : pt_cnt 8 M.testBit = pt_cnt (T 0) M.testBit := pt_cnt_ext h8 (fun j h1 h2 => Nat.testBit_lt_two_pow (Nat.lt_of_lt_of_le hlt (Nat.pow_le_pow_right (n := 2) (by omega) h1)))
      have hstart : ∀ v, (∃ u, f_X12_said_l26 (pn_x x) 1000 0 0 (bm_uI I1 164 0 0) = some u ∧ ((∃ y, u = .inl (y, I2) ∧ v = y) ∨ (∃ y, u = .inr (y, I2) ∧ v = if x = 0 then y else -1))) → f_X12_said I1 (pn_x x) = some (v, I2) := by
        intro v ⟨u, hu, hv⟩
        unfold f_X12_said
        rw [pn_uI_ne (by omega), f1 166 106 (by omega), r106, if_neg (nI_ne0 (by omega) (by omega)), if_pos hk, hu]
        simp only [Option.bind_some]
        rcases hv with ⟨y, rfl, rfl⟩ | ⟨y, rfl, rfl⟩
        · rfl
        · simp only [pn_xm1S hx]
          by_cases hx0 : x = 0
          · rw [if_pos hx0, if_pos hx0]
          · rw [if_neg hx0, if_neg hx0]
      by_cases hx0 : x = 0
      · subst hx0
        rw [if_pos (show pn_x 0 = -1 from rfl)]
        refine ⟨_, _, I2, rfl, hstart _ ⟨_, e2, Or.inr ⟨nI (pt_cnt (T 0) M.testBit), ?_, ?_⟩⟩, hfin⟩
        · have : pt_fnd (T 0) (fun j => M.testBit j && decide (pt_cnt j M.testBit + 1 = 0)) = 0 := by
            rw [tf_congr (q := fun _ => false) (fun j _ => by rw [decide_eq_false (by omega), Bool.and_false])]
            generalize T 0 = n
            induction n with
            | zero => rfl
            | succ n ih => unfold pt_fnd; rw [ih]; rfl
          rw [if_pos this]
        · rw [if_pos rfl, kc_pop hlt2, c3]
      · rw [if_neg (show ¬ pn_x x = -1 by rw [pn_xm1S hx]; exact hx0), pn_xp (by omega), kc_bitNumber hlt2 (by omega)]
        simp only [Option.bind_some]
        rw [← pn_xp (show 0 < x by omega)]
        have ef : pt_fnd 8 (sd_p M (x - 1)) = pt_fnd (T 0) (fun j => M.testBit j && decide (pt_cnt j M.testBit + 1 = x)) := by
          rw [tf_ext h8 (fun j h1 h2 => by unfold sd_p; rw [Nat.testBit_lt_two_pow (Nat.lt_of_lt_of_le hlt (Nat.pow_le_pow_right (n := 2) (by omega) h1))]; rfl)]
          apply tf_congr
          intro j hj
          unfold sd_p
          congr 1
          apply decide_eq_decide.mpr
          omega
        rw [ef]
        have hle := tf_le (T 0) (fun j => M.testBit j && decide (pt_cnt j M.testBit + 1 = x))
        refine ⟨_, _, I2, rfl, hstart _ ⟨_, e2, ?_⟩, hfin⟩
        by_cases hf : pt_fnd (T 0) (fun j => M.testBit j && decide (pt_cnt j M.testBit + 1 = x)) = 0
        · exact Or.inr ⟨nI (pt_cnt (T 0) M.testBit), by rw [if_pos hf], by rw [if_neg hx0, hf]; rfl⟩
        · exact Or.inl ⟨_, by rw [if_neg hf], by rw [pn_xp (by omega)]⟩
    · rw [if_neg hk]
      refine ⟨_, _, bm_uI I 164 0 0, rfl, ?_, iv_q hI⟩
      unfold f_X12_said
      rw [pn_uI_ne (by omega), r106, if_neg (nI_ne0 (by omega) (by omega)), if_neg hk]
end EN
