/-! who it was that scratched -/
theorem pl_anyN {F : Nat → Nat → Option (Unit ⊕ Unit)} {n : Nat} {p : Nat → Bool} (hn : n < 1000) (h0 : ∀ k, F (k + 1) n = some (.inr ())) (h1 : ∀ k j, j < n → F (k + 1) j = if p j = true then some (.inl ()) else F k (j + 1)) : F 1000 0 = some (if pt_fnd n p = 0 then .inr () else .inl ()) := by
  have key : ∀ i j k, j + i = n → i < k → pt_fnd j p = 0 → F k j = some (if pt_fnd n p = 0 then .inr () else .inl ()) := by
    intro i
    induction i with
    | zero =>
      intro j k hj hk hf
      obtain ⟨k, rfl⟩ : ∃ q, k = q + 1 := ⟨k - 1, by omega⟩
      obtain rfl : j = n := by omega
      rw [h0, if_pos hf]
    | succ i ih =>
      intro j k hj hk hf
      obtain ⟨k, rfl⟩ : ∃ q, k = q + 1 := ⟨k - 1, by omega⟩
      rw [h1 k j (by omega)]
      by_cases hp : p j = true
      · rw [if_pos hp, tf_step (by omega) hf hp, if_neg (by omega)]
      · rw [if_neg hp]
        refine ih (j + 1) k (by omega) (by omega) ?_
        unfold pt_fnd
        rw [if_pos hf, if_neg hp]
  exact key n 0 1000 (by omega) hn rfl
def sc_bad (T : pt_T) (B : Nat → Nat) (j : Nat) : Bool := decide (T 0 ≤ B (2 * j)) || decide (1 < B (2 * j + 1))
def sc_ok (T : pt_T) (B : Nat → Nat) (m h : Nat) : Bool := match h with
  | 0 => true
  | j + 1 => sc_ok T B m j && (pt_reads T (B (2 * j)) m == decide (B (2 * j + 1) = 1))
def sc_set (T : pt_T) (B : Nat → Nat) (h : Nat) : Nat := pt_set (T 0) (fun m => sc_ok T B m h)
/-- how uneven -/
def sc_un (T : pt_T) (s m : Nat) : Nat := pt_d (pt_cnt (T 0) (fun o => s.testBit o && pt_reads T m o)) (pt_cnt (T 0) (fun o => s.testBit o && !pt_reads T m o))
def sc_fc (T : pt_T) (s n : Nat) : Nat × Nat := match n with
  | 0 => (0, 0)
  | m + 1 => if (sc_fc T s m).1 = 0 ∨ sc_un T s m < (sc_fc T s m).2 then (m + 1, sc_un T s m) else sc_fc T s m
theorem sc_un_le (T : pt_T) (h8 : T 0 ≤ 8) (s m : Nat) : sc_un T s m ≤ 8 := by
  have h1 := pt_cnt_le (T 0) (fun o => s.testBit o && pt_reads T m o)
  have h2 := pt_cnt_le (T 0) (fun o => s.testBit o && !pt_reads T m o)
  unfold sc_un pt_d
  omega
theorem sc_fc_b (T : pt_T) (h8 : T 0 ≤ 8) (s n : Nat) : (sc_fc T s n).1 ≤ n ∧ (sc_fc T s n).2 ≤ 8 ∧ (0 < n → 0 < (sc_fc T s n).1) := by
  induction n with
  | zero => exact ⟨Nat.le_refl _, Nat.zero_le _, fun h => by omega⟩
  | succ m ih =>
    have := sc_un_le T h8 s m
    unfold sc_fc
    split
    · exact ⟨Nat.le_refl _, this, fun _ => by show 0 < m + 1; omega⟩
    · exact ⟨by omega, ih.2.1, fun _ => by omega⟩
theorem pt_cnt_split (n : Nat) (p q : Nat → Bool) : pt_cnt n (fun o => p o && q o) + pt_cnt n (fun o => p o && !q o) = pt_cnt n p := by
  induction n with
  | zero => rfl
  | succ k ih =>
    unfold pt_cnt
    cases p k <;> cases q k <;> simp <;> omega
theorem pt_cnt_ext {n m : Nat} {p : Nat → Bool} (hnm : n ≤ m) (h : ∀ j, n ≤ j → j < m → p j = false) : pt_cnt m p = pt_cnt n p := by
  induction m with
  | zero => rw [show n = 0 by omega]
  | succ k ih =>
    by_cases e : n = k + 1
    · rw [e]
    · rw [pt_cnt, h k (by omega) (by omega), ih (by omega) (fun j h1 h2 => h j h1 (by omega))]; rfl
section SC
variable {I : bm_TI} {T : pt_T} {n h : Nat} {B : Nat → Nat}
theorem kc_scTape (hn : n ≤ 940) (hB : tc_T I n B) (hP : pp_A I 4 T) (hA : pt_VA T) : f_X11_isScratchTape I = some (decide (2 ≤ n ∧ n ≤ 16 ∧ n % 2 = 0) && decide (pt_fnd (n / 2) (sc_bad T B) = 0)) := by
  have h8 := hA.1
  have h1 : f_X9_isPairs I 8 = _ := kc_isPairs (m := 8) (by omega) hn hB.1
  unfold f_X11_isScratchTape
  rw [h1]
  simp only [Option.bind_some]
  by_cases c : 2 ≤ n ∧ n ≤ 16 ∧ n % 2 = 0
  · have h2 : f_X11_isScratchTape_l16 I 1000 0 = some (if pt_fnd (n / 2) (sc_bad T B) = 0 then .inr () else .inl ()) := by
      refine pl_anyN (F := fun k j => f_X11_isScratchTape_l16 I k (nI (2 * j))) (n := n / 2) (by omega) ?_ ?_
      · intro k
        show f_X11_isScratchTape_l16 I (k + 1) (nI (2 * (n / 2))) = _
        rw [f_X11_isScratchTape_l16, hB.1, nI_1, if_pos (nI_le (by omega) (by omega))]
      · intro k j hj
        show f_X11_isScratchTape_l16 I (k + 1) (nI (2 * j)) = if sc_bad T B j = true then some (.inl ()) else f_X11_isScratchTape_l16 I k (nI (2 * (j + 1)))
        have b1 := hB.2 (2 * j) (by omega)
        have b2 := hB.2 (2 * j + 1) (by omega)
        have g : ¬ n ≤ 2 * j + 1 := by omega
        rw [f_X11_isScratchTape_l16, show 2 * (j + 1) = 2 * j + 2 by omega]
        simp (disch := omega) only [pn_l0, pn_l1, pn_l2, pn_l3, pn_l4, pn_l5, pn_l6, pn_l7, pn_l8, pn_l9, pn_l10, pn_l11, pn_l12, pn_l13, pn_l15, pn_l20, pn_l21, pn_l22, pn_l23, pn_l24, pn_l30, pn_l31, pn_l32, pn_l39, pn_l40, pn_l41, pn_l45, pn_l46, pn_l48, pn_l53, pn_l57, pn_l58, pn_l59, pn_l60, pn_l61, pn_l62, pn_l63, pn_l64, pn_l65, pn_l66, pn_l74, pn_l82, pn_l90, pn_l97, pn_l98, pn_l99, pn_l106, pn_l107, pn_l120, pn_l122, pn_l135, pn_l255, pn_l287, pn_l300, pn_l315, pn_l360, pn_l400, pn_l900, pn_l940, pn_l1000, pn_l1000000, pn_mone, nI_add, pk_mul, nI_clamp, bm_ixk, pn_ltI, pn_leI, pn_eqI, pn_xeq, pn_xeq2, pn_xx, pn_xltI, pn_xleI, pn_xgtI, pn_xgeI, pn_xadd, pn_subx, pn_addx, Option.bind_some, ↓reduceIte, hB.1, pa_men hP, b1.2, b2.2, g]
        unfold sc_bad
        by_cases c1 : T 0 ≤ B (2 * j)
        · simp [c1]
        · by_cases c2 : B (2 * j + 1) ≤ 1
          · have c3 : ¬ 1 < B (2 * j + 1) := by omega
            simp [c1, c2, c3]
          · have c3 : 1 < B (2 * j + 1) := by omega
            simp [c1, c2, c3]
    rw [h2, decide_eq_true c, if_pos rfl, Bool.true_and]
    simp only [Option.bind_some]
    by_cases c2 : pt_fnd (n / 2) (sc_bad T B) = 0
    · rw [if_pos c2, decide_eq_true c2]
    · rw [if_neg c2, decide_eq_false c2]
  · rw [decide_eq_false c]; rfl
theorem sc_good (hz : pt_fnd h (sc_bad T B) = 0) {j : Nat} (hj : j < h) : B (2 * j) < T 0 ∧ B (2 * j + 1) ≤ 1 := by
  have := tf_none hz j hj
  unfold sc_bad at this
  simp only [Bool.or_eq_false_iff, decide_eq_false_iff_not] at this
  omega
theorem kc_scSet (hn : n = 2 * h) (hn2 : n ≤ 16) (hB : tc_T I n B) (hP : pp_A I 4 T) (hQ : pp_S I 26 T) (hA : pt_VA T) (hS : pt_VS T) (hz : pt_fnd h (sc_bad T B) = 0) : f_X11_scratchers I = some (nI (sc_set T B h)) := by
  have h8 := hA.1
  unfold f_X11_scratchers
  rw [pl_set (F := f_X11_scratchers_l4 I) (p := fun m => sc_ok T B m h) h8]
  · rfl
  · intro q s
    rw [f_X11_scratchers_l4, pa_men hP, if_pos (Int32.le_refl _)]
  · intro q s m hm
    have hr : pt_readers T m < 256 := tz_256 h8
    have hl : f_X11_scratchers_l38 I (nI s) (nI m) (nI (pt_readers T m)) 1000 true 0 = some (sc_ok T B m h) := by
      refine pl_row (F := fun k j v => f_X11_scratchers_l38 I (nI s) (nI m) (nI (pt_readers T m)) k v (nI (2 * j))) (n := h) (fun j => sc_ok T B m j) ?_ ?_ 1000 (by omega)
      · intro k
        show f_X11_scratchers_l38 I _ _ _ (k + 1) _ (nI (2 * h)) = _
        rw [f_X11_scratchers_l38, hB.1, nI_1, if_pos (nI_le (by omega) (by omega))]
      · intro k j hj
        show f_X11_scratchers_l38 I _ _ _ (k + 1) (sc_ok T B m j) (nI (2 * j)) = f_X11_scratchers_l38 I _ _ _ k (sc_ok T B m j && _) (nI (2 * (j + 1)))
        have b1 := hB.2 (2 * j) (by omega)
        have b2 := hB.2 (2 * j + 1) (by omega)
        have hg := sc_good hz hj
        have g : ¬ n ≤ 2 * j + 1 := by omega
        have hbit : (pt_readers T m).testBit (B (2 * j)) = pt_reads T (B (2 * j)) m := by
          unfold pt_readers
          rw [tz_bit, decide_eq_true hg.1, Bool.true_and]
        have ht : (pt_reads T (B (2 * j)) m).toNat ≤ 1 := Bool.toNat_le _
        rw [f_X11_scratchers_l38, show 2 * (j + 1) = 2 * j + 2 by omega]
        simp (disch := omega) only [pn_l0, pn_l1, pn_l2, pn_l3, pn_l4, pn_l5, pn_l6, pn_l7, pn_l8, pn_l9, pn_l10, pn_l11, pn_l12, pn_l13, pn_l15, pn_l20, pn_l21, pn_l22, pn_l23, pn_l24, pn_l30, pn_l31, pn_l32, pn_l39, pn_l40, pn_l41, pn_l45, pn_l46, pn_l48, pn_l53, pn_l57, pn_l58, pn_l59, pn_l60, pn_l61, pn_l62, pn_l63, pn_l64, pn_l65, pn_l66, pn_l74, pn_l82, pn_l90, pn_l97, pn_l98, pn_l99, pn_l106, pn_l107, pn_l120, pn_l122, pn_l135, pn_l255, pn_l287, pn_l300, pn_l315, pn_l360, pn_l400, pn_l900, pn_l940, pn_l1000, pn_l1000000, pn_mone, nI_add, pk_mul, nI_clamp, bm_ixk, pn_ltI, pn_leI, pn_eqI, pn_xeq, pn_xeq2, pn_xx, pn_xltI, pn_xleI, pn_xgtI, pn_xgeI, pn_xadd, pn_subx, pn_addx, Option.bind_some, ↓reduceIte, hB.1, b1.2, b2.2, g, pn_bitX, hbit]
        cases sc_ok T B m j
        · simp
        · simp only [↓reduceIte, Bool.true_and]
          have : (pt_reads T (B (2 * j)) m == decide (B (2 * j + 1) = 1)) = decide ((pt_reads T (B (2 * j)) m).toNat = B (2 * j + 1)) := by
            cases pt_reads T (B (2 * j)) m
            · by_cases e : B (2 * j + 1) = 1
              · rw [e]; rfl
              · have e0 : B (2 * j + 1) = 0 := by omega
                rw [e0]; rfl
            · by_cases e : B (2 * j + 1) = 1
              · rw [e]; rfl
              · have e0 : B (2 * j + 1) = 0 := by omega
                rw [e0]; rfl
          rw [this]
          by_cases e : (pt_reads T (B (2 * j)) m).toNat = B (2 * j + 1)
          · rw [if_pos e, decide_eq_true e]
          · rw [if_neg e, decide_eq_false e]
    rw [f_X11_scratchers_l4, kc_range hP hQ hA hS hm]
    simp only [Option.bind_some]
    rw [kc_readers0 hP hQ hA hS hm]
    simp only [Option.bind_some]
    rw [hl]
    simp (disch := omega) only [pn_l0, pn_l1, pn_l2, pn_l3, pn_l4, pn_l5, pn_l6, pn_l7, pn_l8, pn_l9, pn_l10, pn_l11, pn_l12, pn_l13, pn_l15, pn_l20, pn_l21, pn_l22, pn_l23, pn_l24, pn_l30, pn_l31, pn_l32, pn_l39, pn_l40, pn_l41, pn_l45, pn_l46, pn_l48, pn_l53, pn_l57, pn_l58, pn_l59, pn_l60, pn_l61, pn_l62, pn_l63, pn_l64, pn_l65, pn_l66, pn_l74, pn_l82, pn_l90, pn_l97, pn_l98, pn_l99, pn_l106, pn_l107, pn_l120, pn_l122, pn_l135, pn_l255, pn_l287, pn_l300, pn_l315, pn_l360, pn_l400, pn_l900, pn_l940, pn_l1000, pn_l1000000, pn_mone, nI_add, pk_mul, nI_clamp, bm_ixk, pn_ltI, pn_leI, pn_eqI, pn_xeq, pn_xeq2, pn_xx, pn_xltI, pn_xleI, pn_xgtI, pn_xgeI, pn_xadd, pn_subx, pn_addx, Option.bind_some, ↓reduceIte, pa_men hP, Nat.not_le.mpr hm, pn_shlN, pn_or]
    cases sc_ok T B m h <;> simp
theorem pq_scSet (hn : n = 2 * h) (hn2 : n ≤ 16) (h3 : I 164 3 = nI n) (hB : ∀ k, k < n → I 165 k &&& 255 = nI (B k)) (hR : pp_R I T) (hA : pt_VA T) (hS : pt_VS T) (hz : pt_fnd h (sc_bad T B) = 0) : f_X12_scratch_l82 I 1000 0 0 = some (nI (sc_set T B h)) := by
  have h8 := hA.1
  refine pl_set (F := f_X12_scratch_l82 I) (p := fun m => sc_ok T B m h) h8 ?_ ?_
  · intro q s
    rw [f_X12_scratch_l82, hR 0 (by omega), if_pos (Int32.le_refl _)]
  · intro q s m hm
    have hl : f_X12_isScratch I (nI m) = some (sc_ok T B m h) := by
      have : f_X12_isScratch_l4 I (nI m) 1000 true 0 = some (sc_ok T B m h) := by
        refine pl_row (F := fun k j v => f_X12_isScratch_l4 I (nI m) k v (nI (2 * j))) (n := h) (fun j => sc_ok T B m j) ?_ ?_ 1000 (by omega)
        · intro k
          show f_X12_isScratch_l4 I _ (k + 1) _ (nI (2 * h)) = _
          rw [f_X12_isScratch_l4, h3, if_pos (nI_le (by omega) (by omega))]
        · intro k j hj
          show f_X12_isScratch_l4 I _ (k + 1) (sc_ok T B m j) (nI (2 * j)) = f_X12_isScratch_l4 I _ k (sc_ok T B m j && _) (nI (2 * (j + 1)))
          have hg := sc_good hz hj
          have o1 := pq_octet (by omega) hB (k := 2 * j) (by omega)
          have o2 := pq_octet (by omega) hB (k := 2 * j + 1) (by omega)
          have g : ¬ n ≤ 2 * j := by omega
          rw [f_X12_isScratch_l4, show 2 * (j + 1) = 2 * j + 2 by omega]
          simp (disch := omega) only [pn_l0, pn_l1, pn_l2, pn_l3, pn_l4, pn_l5, pn_l6, pn_l7, pn_l8, pn_l9, pn_l10, pn_l11, pn_l12, pn_l13, pn_l15, pn_l20, pn_l21, pn_l22, pn_l23, pn_l24, pn_l30, pn_l31, pn_l32, pn_l39, pn_l40, pn_l41, pn_l45, pn_l46, pn_l48, pn_l53, pn_l57, pn_l58, pn_l59, pn_l60, pn_l61, pn_l62, pn_l63, pn_l64, pn_l65, pn_l66, pn_l74, pn_l82, pn_l90, pn_l97, pn_l98, pn_l99, pn_l106, pn_l107, pn_l120, pn_l122, pn_l135, pn_l255, pn_l287, pn_l300, pn_l315, pn_l360, pn_l400, pn_l900, pn_l940, pn_l1000, pn_l1000000, pn_mone, nI_add, pk_mul, nI_clamp, bm_ixk, pn_ltI, pn_leI, pn_eqI, pn_xeq, pn_xeq2, pn_xx, pn_xltI, pn_xleI, pn_xgtI, pn_xgeI, pn_xadd, pn_subx, pn_addx, Option.bind_some, ↓reduceIte, h3, o1, o2, g, pq_reads hR hA hS hg.1 hm]
          cases sc_ok T B m j
          · simp
          · simp only [↓reduceIte, Bool.true_and]
            by_cases e : B (2 * j + 1) = 1
            · rw [if_pos e, decide_eq_true e]
              cases pt_reads T (B (2 * j)) m
              · rw [if_neg (show ¬ bm_bi false = nI 1 by decide)]; rfl
              · rw [if_pos (show bm_bi true = nI 1 by decide)]; rfl
            · rw [if_neg e, decide_eq_false e]
              cases pt_reads T (B (2 * j)) m
              · rw [if_pos (show bm_bi false = nI 0 by decide)]; rfl
              · rw [if_neg (show ¬ bm_bi true = nI 0 by decide)]; rfl
      unfold f_X12_isScratch
      rw [this]; rfl
    rw [f_X12_scratch_l82, hl]
    simp (disch := omega) only [pn_l0, pn_l1, pn_l2, pn_l3, pn_l4, pn_l5, pn_l6, pn_l7, pn_l8, pn_l9, pn_l10, pn_l11, pn_l12, pn_l13, pn_l15, pn_l20, pn_l21, pn_l22, pn_l23, pn_l24, pn_l30, pn_l31, pn_l32, pn_l39, pn_l40, pn_l41, pn_l45, pn_l46, pn_l48, pn_l53, pn_l57, pn_l58, pn_l59, pn_l60, pn_l61, pn_l62, pn_l63, pn_l64, pn_l65, pn_l66, pn_l74, pn_l82, pn_l90, pn_l97, pn_l98, pn_l99, pn_l106, pn_l107, pn_l120, pn_l122, pn_l135, pn_l255, pn_l287, pn_l300, pn_l315, pn_l360, pn_l400, pn_l900, pn_l940, pn_l1000, pn_l1000000, pn_mone, nI_add, pk_mul, nI_clamp, bm_ixk, pn_ltI, pn_leI, pn_eqI, pn_xeq, pn_xeq2, pn_xx, pn_xltI, pn_xleI, pn_xgtI, pn_xgeI, pn_xadd, pn_subx, pn_addx, Option.bind_some, ↓reduceIte, hR, Nat.not_le.mpr hm, pn_shlN, pn_or]
    cases sc_ok T B m h <;> simp
theorem kc_abs {a b : Nat} (ha : a < 2 ^ 30) (hb : b < 2 ^ 30) : bm_abs (nI a - nI b) = nI (pt_d a b) := by
  unfold bm_abs pt_d
  by_cases h : b ≤ a
  · rw [pk_sub h, if_pos (nI_pos' (by omega)), show b - a = 0 by omega, Nat.add_zero]
  · have h1 := pk_sneg (a := a) (b := b) hb (by omega)
    rw [if_neg (by rw [Int32.not_le]; exact h1), show a - b = 0 by omega, Nat.zero_add, Int32.zero_sub, Int32.neg_sub, pk_sub (by omega)]
theorem kc_face (hP : pp_A I 4 T) (hQ : pp_S I 26 T) (hA : pt_VA T) (hS : pt_VS T) {s : Nat} (hs : s < 256) : f_X11_faceToAsk I (nI s) = some (pn_x (sc_fc T s (T 0)).1) := by
  have h8 := hA.1
  have key : f_X11_faceToAsk_l7 I (nI s) 1000 (-1) 0 0 = some (pn_x (sc_fc T s (T 0)).1) := by
    refine pl_row (σ := Int32 × Int32) (F := fun k j v => f_X11_faceToAsk_l7 I (nI s) k v.1 v.2 (nI j)) (n := T 0) (fun j => (pn_x (sc_fc T s j).1, nI (sc_fc T s j).2)) ?_ ?_ 1000 (by omega)
    · intro k
      show f_X11_faceToAsk_l7 I (nI s) (k + 1) _ _ (nI (T 0)) = _
      rw [f_X11_faceToAsk_l7, pa_men hP, if_pos (Int32.le_refl _)]
    · intro k m hm
      show f_X11_faceToAsk_l7 I (nI s) (k + 1) (pn_x (sc_fc T s m).1) (nI (sc_fc T s m).2) (nI m) = f_X11_faceToAsk_l7 I (nI s) k (pn_x (sc_fc T s (m + 1)).1) (nI (sc_fc T s (m + 1)).2) (nI (m + 1))
      have hb := sc_fc_b T h8 s m
      have hul := sc_un_le T h8 s m
      have hl : ∀ x y, f_X11_faceToAsk_l28 I (nI s) x y (nI m) 1000 0 0 0 = some (nI (pt_cnt (T 0) (fun o => s.testBit o && pt_reads T m o)), nI (pt_cnt (T 0) (fun o => s.testBit o && !pt_reads T m o))) := by
        intro x y
        refine pl_row (σ := Int32 × Int32) (F := fun k j v => f_X11_faceToAsk_l28 I (nI s) x y (nI m) k v.1 v.2 (nI j)) (n := T 0) (fun j => (nI (pt_cnt j (fun o => s.testBit o && pt_reads T m o)), nI (pt_cnt j (fun o => s.testBit o && !pt_reads T m o)))) ?_ ?_ 1000 (by omega)
        · intro k
          show f_X11_faceToAsk_l28 I _ _ _ _ (k + 1) _ _ (nI (T 0)) = _
          rw [f_X11_faceToAsk_l28, pa_men hP, if_pos (Int32.le_refl _)]
        · intro k j hj
          show f_X11_faceToAsk_l28 I (nI s) x y (nI m) (k + 1) (nI (pt_cnt j _)) (nI (pt_cnt j _)) (nI j) = f_X11_faceToAsk_l28 I (nI s) x y (nI m) k (nI (pt_cnt j _ + Bool.toNat (s.testBit j && pt_reads T m j))) (nI (pt_cnt j _ + Bool.toNat (s.testBit j && !pt_reads T m j))) (nI (j + 1))
          have hr : pt_readers T j < 256 := tz_256 h8
          have hbit : (pt_readers T j).testBit m = pt_reads T m j := by
            unfold pt_readers
            rw [tz_bit, decide_eq_true hm, Bool.true_and]
          rw [f_X11_faceToAsk_l28, kc_range hP hQ hA hS hj]
          simp only [Option.bind_some]
          rw [kc_readers0 hP hQ hA hS hj]
          simp (disch := omega) only [pn_l0, pn_l1, pn_l2, pn_l3, pn_l4, pn_l5, pn_l6, pn_l7, pn_l8, pn_l9, pn_l10, pn_l11, pn_l12, pn_l13, pn_l15, pn_l20, pn_l21, pn_l22, pn_l23, pn_l24, pn_l30, pn_l31, pn_l32, pn_l39, pn_l40, pn_l41, pn_l45, pn_l46, pn_l48, pn_l53, pn_l57, pn_l58, pn_l59, pn_l60, pn_l61, pn_l62, pn_l63, pn_l64, pn_l65, pn_l66, pn_l74, pn_l82, pn_l90, pn_l97, pn_l98, pn_l99, pn_l106, pn_l107, pn_l120, pn_l122, pn_l135, pn_l255, pn_l287, pn_l300, pn_l315, pn_l360, pn_l400, pn_l900, pn_l940, pn_l1000, pn_l1000000, pn_mone, nI_add, pk_mul, nI_clamp, bm_ixk, pn_ltI, pn_leI, pn_eqI, pn_xeq, pn_xeq2, pn_xx, pn_xltI, pn_xleI, pn_xgtI, pn_xgeI, pn_xadd, pn_subx, pn_addx, Option.bind_some, ↓reduceIte, pa_men hP, Nat.not_le.mpr hj, pn_bitX, pn_b1N, hbit]
          cases s.testBit j
          · simp
          · cases pt_reads T m j
            · simp only [↓reduceIte, Bool.toNat_false, Bool.true_and, Bool.not_false, Bool.toNat_true, Nat.add_zero]
              rw [show nI 1 - nI 0 = nI 1 from rfl, nI_add]
            · simp only [↓reduceIte, Bool.toNat_true, Bool.true_and, Bool.not_true, Bool.toNat_false, Nat.add_zero]
              rw [show nI 1 - nI 1 = nI 0 from rfl]
              simp only [nI_add, Nat.add_zero]
      have c1 := pt_cnt_le (T 0) (fun o => s.testBit o && pt_reads T m o)
      have c2 := pt_cnt_le (T 0) (fun o => s.testBit o && !pt_reads T m o)
      rw [f_X11_faceToAsk_l7, hl, sc_fc]
      generalize sc_fc T s m = w at hb ⊢
      have eU : pt_d (pt_cnt (T 0) (fun o => s.testBit o && pt_reads T m o)) (pt_cnt (T 0) (fun o => s.testBit o && !pt_reads T m o)) = sc_un T s m := rfl
      simp (disch := omega) only [pn_l0, pn_l1, pn_l2, pn_l3, pn_l4, pn_l5, pn_l6, pn_l7, pn_l8, pn_l9, pn_l10, pn_l11, pn_l12, pn_l13, pn_l15, pn_l20, pn_l21, pn_l22, pn_l23, pn_l24, pn_l30, pn_l31, pn_l32, pn_l39, pn_l40, pn_l41, pn_l45, pn_l46, pn_l48, pn_l53, pn_l57, pn_l58, pn_l59, pn_l60, pn_l61, pn_l62, pn_l63, pn_l64, pn_l65, pn_l66, pn_l74, pn_l82, pn_l90, pn_l97, pn_l98, pn_l99, pn_l106, pn_l107, pn_l120, pn_l122, pn_l135, pn_l255, pn_l287, pn_l300, pn_l315, pn_l360, pn_l400, pn_l900, pn_l940, pn_l1000, pn_l1000000, pn_mone, nI_add, pk_mul, nI_clamp, bm_ixk, pn_ltI, pn_leI, pn_eqI, pn_xeq, pn_xeq2, pn_xx, pn_xltI, pn_xleI, pn_xgtI, pn_xgeI, pn_xadd, pn_subx, pn_addx, Option.bind_some, ↓reduceIte, pa_men hP, Nat.not_le.mpr hm, kc_abs, eU]
      by_cases d1 : w.1 = 0
      · rw [if_pos d1, if_pos (Or.inl d1), pn_xs]
      · rw [if_neg d1]
        by_cases d2 : w.2 ≤ sc_un T s m
        · rw [if_pos d2, if_neg (by omega)]
        · rw [if_neg d2, if_pos (by omega), pn_xs]
  unfold f_X11_faceToAsk
  rw [key]; rfl
theorem pq_face (hR : pp_R I T) (hA : pt_VA T) (hS : pt_VS T) {s : Nat} (hs : s < 2 ^ T 0) : ∃ I', f_X12_scratch_l133 (nI s) 1000 1000000 0 I = some I' ∧ (((sc_fc T s (T 0)).1 = 0 ∨ I' 164 29 = nI ((sc_fc T s (T 0)).1 - 1)) ∧ ∀ o k, (o ≠ 164 ∨ k ≠ 29) → I' o k = I o k) := by
  have h8 := hA.1
  have hs' : s < 256 := pt_256 h8 hs
  refine pl_rel (σ := Int32 × bm_TI) (F := fun k i v => f_X12_scratch_l133 (nI s) k v.1 i v.2) (n := T 0) (fun j v => v.1 = nI (mt_L 1000000 (if (sc_fc T s j).1 = 0 then 0 else (sc_fc T s j).2 + 1)) ∧ ((sc_fc T s j).1 = 0 ∨ v.2 164 29 = nI ((sc_fc T s j).1 - 1)) ∧ ∀ o k, (o ≠ 164 ∨ k ≠ 29) → v.2 o k = I o k) ?_ ?_ 1000 (1000000, I) (by omega) ⟨rfl, Or.inl rfl, fun _ _ _ => rfl⟩
  · intro k v ⟨a1, a2, a3⟩
    refine ⟨v.2, ?_, a2, a3⟩
    show f_X12_scratch_l133 (nI s) (k + 1) v.1 (nI (T 0)) v.2 = _
    rw [f_X12_scratch_l133, a3 166 0 (by omega), hR 0 (by omega), if_pos (Int32.le_refl _)]
  · intro k m v hm ⟨a1, a2, a3⟩
    show ∃ v' : Int32 × bm_TI, f_X12_scratch_l133 (nI s) (k + 1) v.1 (nI m) v.2 = f_X12_scratch_l133 (nI s) k v'.1 (nI (m + 1)) v'.2 ∧ _
    have RV : pp_R v.2 T := fun k hk => by rw [a3 166 k (by omega)]; exact hR k hk
    have hb := sc_fc_b T h8 s m
    have hul := sc_un_le T h8 s m
    have hl : ∀ x, f_X12_scratch_l149 v.2 (nI s) x (nI m) 1000 0 0 = some (nI (pt_cnt (T 0) (fun o => s.testBit o && pt_reads T m o))) := by
      intro x
      refine pl_cntN (F := f_X12_scratch_l149 v.2 (nI s) x (nI m)) (n := T 0) (by omega) ?_ ?_
      · intro q t
        rw [f_X12_scratch_l149, RV 0 (by omega), if_pos (Int32.le_refl _)]
      · intro q t j hj
        rw [f_X12_scratch_l149]
        simp (disch := omega) only [pn_l0, pn_l1, pn_l2, pn_l3, pn_l4, pn_l5, pn_l6, pn_l7, pn_l8, pn_l9, pn_l10, pn_l11, pn_l12, pn_l13, pn_l15, pn_l20, pn_l21, pn_l22, pn_l23, pn_l24, pn_l30, pn_l31, pn_l32, pn_l39, pn_l40, pn_l41, pn_l45, pn_l46, pn_l48, pn_l53, pn_l57, pn_l58, pn_l59, pn_l60, pn_l61, pn_l62, pn_l63, pn_l64, pn_l65, pn_l66, pn_l74, pn_l82, pn_l90, pn_l97, pn_l98, pn_l99, pn_l106, pn_l107, pn_l120, pn_l122, pn_l135, pn_l255, pn_l287, pn_l300, pn_l315, pn_l360, pn_l400, pn_l900, pn_l940, pn_l1000, pn_l1000000, pn_mone, nI_add, pk_mul, nI_clamp, bm_ixk, pn_ltI, pn_leI, pn_eqI, pn_xeq, pn_xeq2, pn_xx, pn_xltI, pn_xleI, pn_xgtI, pn_xgeI, pn_xadd, pn_subx, pn_addx, Option.bind_some, ↓reduceIte, RV, Nat.not_le.mpr hj, pn_bitOf, pq_reads RV hA hS hm hj, Nat.add_zero]
        cases s.testBit j
        · simp
        · cases pt_reads T m j <;> simp
    have c1 := pt_cnt_le (T 0) (fun o => s.testBit o && pt_reads T m o)
    have c0 := pt_cnt_split (T 0) s.testBit (fun o => pt_reads T m o)
    have c3 : pt_cnt 8 s.testBit = pt_cnt (T 0) s.testBit := pt_cnt_ext h8 (fun j h1 h2 => Nat.testBit_lt_two_pow (Nat.lt_of_lt_of_le hs (Nat.pow_le_pow_right (n := 2) (by omega) h1)))
    have c4 := pt_cnt_le 8 s.testBit
    have eU : pt_d (pt_cnt 8 s.testBit) (2 * pt_cnt (T 0) (fun o => s.testBit o && pt_reads T m o)) = sc_un T s m := by
      unfold sc_un pt_d
      omega
    rw [f_X12_scratch_l133, hl, RV 0 (by omega), if_neg (nI_ge hm (by omega)), pq_pop hs', a1, sc_fc]
    simp only [Option.bind_some]
    rw [show (2 : Int32) = nI 2 from rfl, pk_mul, pq_abs (by omega) (by omega), eU, nI_1]
    generalize sc_fc T s m = w at hb a1 a2 ⊢
    have hL : mt_L 1000000 (if w.1 = 0 then 0 else w.2 + 1) ≤ 1000000 := by unfold mt_L; split <;> (try split) <;> omega
    simp only [pn_ltI (show sc_un T s m < 2 ^ 31 by omega) (show mt_L 1000000 (if w.1 = 0 then 0 else w.2 + 1) < 2 ^ 31 by omega)]
    by_cases d1 : w.1 = 0
    · have g : sc_un T s m < mt_L 1000000 (if w.1 = 0 then 0 else w.2 + 1) := by rw [if_pos d1]; show _ < 1000000; omega
      rw [if_pos g, if_pos (Or.inl d1)]
      exact ⟨(nI (sc_un T s m), bm_uI v.2 164 29 (nI m)), rfl, rfl, Or.inr (show bm_uI v.2 164 29 (nI m) 164 29 = nI (m + 1 - 1) from pn_uI_hit rfl), fun o k ho => (pn_uI_off ho).trans (a3 o k ho)⟩
    · by_cases d2 : sc_un T s m < w.2
      · have g : sc_un T s m < mt_L 1000000 (if w.1 = 0 then 0 else w.2 + 1) := by rw [if_neg d1]; exact d2
        rw [if_pos g, if_pos (Or.inr d2)]
        exact ⟨(nI (sc_un T s m), bm_uI v.2 164 29 (nI m)), rfl, rfl, Or.inr (show bm_uI v.2 164 29 (nI m) 164 29 = nI (m + 1 - 1) from pn_uI_hit rfl), fun o k ho => (pn_uI_off ho).trans (a3 o k ho)⟩
      · have g : ¬ sc_un T s m < mt_L 1000000 (if w.1 = 0 then 0 else w.2 + 1) := by rw [if_neg d1]; exact d2
        rw [if_neg g, if_neg (show ¬ (w.1 = 0 ∨ sc_un T s m < w.2) by omega)]
        exact ⟨(nI (mt_L 1000000 (if w.1 = 0 then 0 else w.2 + 1)), v.2), rfl, rfl, a2, a3⟩
end SC
section EK
variable {I : bm_TI} {J : bm_TJ} {W : bm_TR}
theorem e_scratch (hI : bm_Inv I J W) : ∃ v I1 I2, f_X11_scratch I = some (v, I1) ∧ f_X12_scratch I1 = some (v, I2) ∧ bm_Inv I2 J W := by
  obtain ⟨T, S, hF, hU, hG0, hG1, hT, hM, hK⟩ := id hI
  obtain ⟨hR, _, hP, hQ, _, _, hA, hS, _⟩ := id hF
  obtain ⟨n, B, t1, t2, t3, t4⟩ := hT
  have h8 := hA.1
  have hB : tc_T I n B := ⟨t2, fun k hk => ⟨(t4 k hk).1, (t4 k hk).2.1⟩⟩
  have hmod : n % 2 < 2 := Nat.mod_lt _ (by omega)
  have f1 : ∀ o k, (o ≠ 1 ∨ k ≠ 1) → bm_uI I 1 1 0 o k = I o k := fun o k ho => pn_uI_off ho
  -- what is seen of a tape when it is taken
  have hv : ∀ I1 : bm_TI, (∀ o k, (o ≠ 1 ∨ k ≠ 1) → (o ≠ 0 ∨ k ≠ 16) → I1 o k = I o k) → I1 1 1 = nI 0 → ∃ V, f_X12_taken (bm_uI I1 164 0 0) 940 = some V ∧ V 164 3 = nI n ∧ V 164 2 = nI 0 ∧ V 1 1 = nI 0 ∧ (∀ o k, (o ≠ 1 ∨ k ≠ 1) → (o ≠ 0 ∨ k ≠ 16) → (o ≠ 164 ∨ (k ≠ 0 ∧ k ≠ 2 ∧ k ≠ 3 ∧ k ≠ 4 ∧ k ≠ 5)) → V o k = I o k) ∧ V 0 16 = I1 0 16 := by
    intro I1 g1 g2
    obtain ⟨V, e1, v3, v2, v4, v5, fv⟩ := pq_taken (I := I1) (n := n) (by rw [g1 164 2 (by omega) (by omega)]; exact t3) 940
    exact ⟨V, e1, v3, v2, by rw [fv 1 1 (by omega)]; exact g2, fun o k a b c => by rw [fv o k c, g1 o k a b], fv 0 16 (by omega)⟩
  have hscan : ∀ V : bm_TI, V 164 3 = nI n → (∀ k, k < n → V 165 k &&& 255 = nI (B k)) → pp_R V T → n % 2 = 0 → f_X12_scratch_l39 V 1000 0 = some (if pt_fnd (n / 2) (sc_bad T B) = 0 then .inr () else .inl ()) := by
    intro V v3 BV RV he
    refine pl_anyN (F := fun k j => f_X12_scratch_l39 V k (nI (2 * j))) (n := n / 2) (by omega) ?_ ?_
    · intro k
      show f_X12_scratch_l39 V (k + 1) (nI (2 * (n / 2))) = _
      rw [f_X12_scratch_l39, v3, if_pos (nI_le (by omega) (by omega))]
    · intro k j hj
      show f_X12_scratch_l39 V (k + 1) (nI (2 * j)) = if sc_bad T B j = true then some (.inl ()) else f_X12_scratch_l39 V k (nI (2 * (j + 1)))
      have o1 := pq_octet t1 BV (k := 2 * j) (by omega)
      have o2 := pq_octet t1 BV (k := 2 * j + 1) (by omega)
      have b1 := (t4 (2 * j) (by omega)).1
      have b2 := (t4 (2 * j + 1) (by omega)).1
      have g : ¬ n ≤ 2 * j := by omega
      rw [f_X12_scratch_l39, show 2 * (j + 1) = 2 * j + 2 by omega, o1]
      simp only [Option.bind_some]
      unfold sc_bad
      by_cases c1 : T 0 ≤ B (2 * j)
      · rw [pq_isManF RV hA (Or.inr (nI_le c1 (by omega)))]
        simp (disch := omega) only [pn_l0, pn_l1, pn_l2, pn_l3, pn_l4, pn_l5, pn_l6, pn_l7, pn_l8, pn_l9, pn_l10, pn_l11, pn_l12, pn_l13, pn_l15, pn_l20, pn_l21, pn_l22, pn_l23, pn_l24, pn_l30, pn_l31, pn_l32, pn_l39, pn_l40, pn_l41, pn_l45, pn_l46, pn_l48, pn_l53, pn_l57, pn_l58, pn_l59, pn_l60, pn_l61, pn_l62, pn_l63, pn_l64, pn_l65, pn_l66, pn_l74, pn_l82, pn_l90, pn_l97, pn_l98, pn_l99, pn_l106, pn_l107, pn_l120, pn_l122, pn_l135, pn_l255, pn_l287, pn_l300, pn_l315, pn_l360, pn_l400, pn_l900, pn_l940, pn_l1000, pn_l1000000, pn_mone, nI_add, pk_mul, nI_clamp, bm_ixk, pn_ltI, pn_leI, pn_eqI, pn_xeq, pn_xeq2, pn_xx, pn_xltI, pn_xleI, pn_xgtI, pn_xgeI, pn_xadd, pn_subx, pn_addx, Option.bind_some, ↓reduceIte, v3, g, c1]
        simp
      · rw [pq_isManT RV hA (show B (2 * j) < T 0 by omega)]
        simp (disch := omega) only [pn_l0, pn_l1, pn_l2, pn_l3, pn_l4, pn_l5, pn_l6, pn_l7, pn_l8, pn_l9, pn_l10, pn_l11, pn_l12, pn_l13, pn_l15, pn_l20, pn_l21, pn_l22, pn_l23, pn_l24, pn_l30, pn_l31, pn_l32, pn_l39, pn_l40, pn_l41, pn_l45, pn_l46, pn_l48, pn_l53, pn_l57, pn_l58, pn_l59, pn_l60, pn_l61, pn_l62, pn_l63, pn_l64, pn_l65, pn_l66, pn_l74, pn_l82, pn_l90, pn_l97, pn_l98, pn_l99, pn_l106, pn_l107, pn_l120, pn_l122, pn_l135, pn_l255, pn_l287, pn_l300, pn_l315, pn_l360, pn_l400, pn_l900, pn_l940, pn_l1000, pn_l1000000, pn_mone, nI_add, pk_mul, nI_clamp, bm_ixk, pn_ltI, pn_leI, pn_eqI, pn_xeq, pn_xeq2, pn_xx, pn_xltI, pn_xleI, pn_xgtI, pn_xgeI, pn_xadd, pn_subx, pn_addx, Option.bind_some, ↓reduceIte, v3, g, o2]
        by_cases c2 : B (2 * j + 1) ≤ 1
        · have c3 : ¬ 1 < B (2 * j + 1) := by omega
          simp [c1, c2, c3]
        · have c3 : 1 < B (2 * j + 1) := by omega
          simp [c1, c2, c3]
  unfold f_X11_scratch
  rw [kc_scTape t1 hB hP hA]
  simp only [Option.bind_some]
  by_cases c1 : 2 ≤ n ∧ n ≤ 16 ∧ n % 2 = 0
  · by_cases c2 : pt_fnd (n / 2) (sc_bad T B) = 0
    · rw [decide_eq_true c1, decide_eq_true c2, if_pos (show (true && true) = true from rfl), kc_scSet (h := n / 2) (by omega) c1.2.1 hB hP hQ hA hS c2]
      simp only [Option.bind_some]
      have hlt : sc_set T B (n / 2) < 2 ^ T 0 := tz_lt _ _
      have hlt2 : sc_set T B (n / 2) < 256 := pt_256 h8 hlt
      have hss : ∀ V : bm_TI, V 164 3 = nI n → (∀ k, k < n → V 165 k &&& 255 = nI (B k)) → pp_R V T → f_X12_scratch_l82 V 1000 0 0 = some (nI (sc_set T B (n / 2))) := fun V v3 BV RV => pq_scSet (h := n / 2) (by omega) c1.2.1 v3 BV RV hA hS c2
      generalize hsg : sc_set T B (n / 2) = s at hlt hlt2 hss ⊢
      by_cases hz : s = 0
      · subst hz
        rw [if_pos (show nI 0 ≤ 0 by decide)]
        obtain ⟨V, e1, v3, v2, v11, ff, v016⟩ := hv (bm_uI I 1 1 0) (fun o k a _ => f1 o k a) (pn_uI_hit rfl)
        have ff' : ∀ o k, (o ≠ 1 ∨ k ≠ 1) → (o ≠ 164 ∨ (k ≠ 0 ∧ k ≠ 2 ∧ k ≠ 3 ∧ k ≠ 4 ∧ k ≠ 5)) → V o k = I o k := fun o k a b => by
          by_cases e : o = 0 ∧ k = 16
          · obtain ⟨rfl, rfl⟩ := e
            rw [v016, f1 0 16 (by omega)]
          · exact ff o k a (by omega) b
        have RV : pp_R V T := fun k hk => by rw [ff' 166 k (by omega) (by omega)]; exact hR k hk
        have BV : ∀ k, k < n → V 165 k &&& 255 = nI (B k) := fun k hk => by rw [ff' 165 k (by omega) (by omega)]; exact (t4 k hk).2.2
        refine ⟨_, _, V, rfl, ?_, iv_emptied hI v11 v2 (fun o k ho => ff' o k (by omega) (by omega)) (iM_congr (fun o k ho => ff' o k (by omega) (by omega)) hM)⟩
        show f_X12_scratch (bm_uI I 1 1 0) = some (nI 0, V)
        unfold f_X12_scratch
        rw [e1]
        simp only [Option.bind_some]
        rw [v3, show f_X12_isIn (nI n) 2 16 = true from pq_rngT (lo := 2) (hi := 16) (by omega) c1.1 c1.2.1, if_pos rfl, show (2 : Int32) = nI 2 from rfl, pn_rem (by omega) (by omega) (by omega), c1.2.2, if_neg (show ¬ nI 0 = 1 by decide), hscan V v3 BV RV c1.2.2, if_pos c2]
        simp only [Option.bind_some]
        rw [hss V v3 BV RV]
        rfl
      · have hT0 : 0 < T 0 := by
          apply Classical.byContradiction
          intro h
          rw [show T 0 = 0 by omega] at hlt
          have : s < 1 := hlt
          omega
        have hfb := sc_fc_b T h8 s (T 0)
        have hfp := hfb.2.2 hT0
        rw [if_neg (nI_nle (by omega) (by omega)), kc_face (I := bm_uI I 1 1 0) (pa_congr (fun o k _ _ => f1 o k (by omega)) hP) (ps_congr (fun k => f1 26 k (by omega)) (fun c k _ _ => f1 c k (by omega)) hQ) hA hS hlt2]
        simp only [Option.bind_some]
        rw [pn_xp hfp]
        obtain ⟨V, e1, v3, v2, v11, ff, v016⟩ := hv (bm_uI (bm_uI I 1 1 0) 0 16 (nI ((sc_fc T s (T 0)).1 - 1))) (fun o k a b => by rw [pn_uI_off b, f1 o k a]) (by rw [pn_uI_ne (by omega), pn_uI_hit rfl]; rfl)
        rw [pn_uI_hit rfl] at v016
        have RV : pp_R V T := fun k hk => by rw [ff 166 k (by omega) (by omega) (by omega)]; exact hR k hk
        have BV : ∀ k, k < n → V 165 k &&& 255 = nI (B k) := fun k hk => by rw [ff 165 k (by omega) (by omega) (by omega)]; exact (t4 k hk).2.2
        obtain ⟨V2, e2, w1, w2⟩ := pq_face (I := bm_uI V 164 30 (bm_bi true)) (pr_164 RV) hA hS hlt
        have w1' : V2 164 29 = nI ((sc_fc T s (T 0)).1 - 1) := w1.resolve_left (by omega)
        have w30 : V2 164 30 = 1 := by rw [w2 164 30 (by omega), pn_uI_hit rfl]; rfl
        have fz : ∀ o k, (o ≠ 1 ∨ k ≠ 1) → (o ≠ 0 ∨ k ≠ 16) → (o ≠ 164 ∨ (k ≠ 0 ∧ k ≠ 2 ∧ k ≠ 3 ∧ k ≠ 4 ∧ k ≠ 5 ∧ k ≠ 29 ∧ k ≠ 30)) → V2 o k = I o k := fun o k a b c => by rw [w2 o k (by omega), pn_uI_off (by omega), ff o k a b (by omega)]
        obtain ⟨q1, q2, q3, q4, q5, q6, q7, r, q8, q9, q10, q11⟩ := hM
        refine ⟨_, _, V2, rfl, ?_, iv_emptied hI (by rw [w2 1 1 (by omega), pn_uI_ne (by omega)]; exact v11) (by rw [w2 164 2 (by omega), pn_uI_ne2 (by omega)]; exact v2) (fun o k ho => fz o k (by omega) (by omega) (by omega)) ⟨?_, ?_, ?_, ?_, ?_, ?_, ?_, r, q8, ?_, ?_, fun k hk => ?_⟩⟩
        · show f_X12_scratch (bm_uI (bm_uI I 1 1 0) 0 16 (nI ((sc_fc T s (T 0)).1 - 1))) = some (nI s, V2)
          unfold f_X12_scratch
          rw [e1]
          simp only [Option.bind_some]
          rw [v3, show f_X12_isIn (nI n) 2 16 = true from pq_rngT (lo := 2) (hi := 16) (by omega) c1.1 c1.2.1, if_pos rfl, show (2 : Int32) = nI 2 from rfl, pn_rem (by omega) (by omega) (by omega), c1.2.2, if_neg (show ¬ nI 0 = 1 by decide), hscan V v3 BV RV c1.2.2, if_pos c2]
          simp only [Option.bind_some]
          rw [hss V v3 BV RV]
          simp only [Option.bind_some]
          rw [if_neg (nI_ne0 (by omega) (by omega)), e2]; rfl
        · rw [fz 0 13 (by omega) (by omega) (by omega), fz 164 15 (by omega) (by omega) (by omega)]; exact q1
        · rw [fz 0 14 (by omega) (by omega) (by omega), fz 164 25 (by omega) (by omega) (by omega)]; exact q2
        · rw [fz 0 15 (by omega) (by omega) (by omega), fz 164 26 (by omega) (by omega) (by omega)]; exact q3
        · rw [fz 161 0 (by omega) (by omega) (by omega), fz 164 27 (by omega) (by omega) (by omega)]; exact q4
        · rw [fz 161 1 (by omega) (by omega) (by omega), fz 164 28 (by omega) (by omega) (by omega)]; exact q5
        · exact Or.inr ⟨w30, by rw [w1', w2 0 16 (by omega), pn_uI_ne (by omega)]; exact v016⟩
        · rw [fz 164 36 (by omega) (by omega) (by omega)]
          rcases q7 with ⟨a, b⟩ | ⟨a, b⟩
          · exact Or.inl ⟨a, fun i hi => by rw [fz 147 _ (by omega) (by omega) (by omega)]; exact b i hi⟩
          · exact Or.inr ⟨a, fun i hi => by rw [fz 147 _ (by omega) (by omega) (by omega), fz 175 _ (by omega) (by omega) (by omega)]; exact b i hi⟩
        · rw [fz 162 1 (by omega) (by omega) (by omega)]; exact q9
        · rw [fz 164 32 (by omega) (by omega) (by omega)]; exact q10
        · rw [fz 163 k (by omega) (by omega) (by omega), fz 174 k (by omega) (by omega) (by omega)]; exact q11 k hk
    · rw [decide_eq_true c1, decide_eq_false c2]
      obtain ⟨V, e1, v3, v2, v11, ff, v016⟩ := hv (bm_uI I 1 1 0) (fun o k a _ => f1 o k a) (pn_uI_hit rfl)
      have ff' : ∀ o k, (o ≠ 1 ∨ k ≠ 1) → (o ≠ 164 ∨ (k ≠ 0 ∧ k ≠ 2 ∧ k ≠ 3 ∧ k ≠ 4 ∧ k ≠ 5)) → V o k = I o k := fun o k a b => by
        by_cases e : o = 0 ∧ k = 16
        · obtain ⟨rfl, rfl⟩ := e
          rw [v016, f1 0 16 (by omega)]
        · exact ff o k a (by omega) b
      have RV : pp_R V T := fun k hk => by rw [ff' 166 k (by omega) (by omega)]; exact hR k hk
      have BV : ∀ k, k < n → V 165 k &&& 255 = nI (B k) := fun k hk => by rw [ff' 165 k (by omega) (by omega)]; exact (t4 k hk).2.2
      refine ⟨_, _, V, rfl, ?_, iv_emptied hI v11 v2 (fun o k ho => ff' o k (by omega) (by omega)) (iM_congr (fun o k ho => ff' o k (by omega) (by omega)) hM)⟩
      show f_X12_scratch (bm_uI I 1 1 0) = some (-1, V)
      unfold f_X12_scratch
      rw [e1]
      simp only [Option.bind_some]
      rw [v3, show f_X12_isIn (nI n) 2 16 = true from pq_rngT (lo := 2) (hi := 16) (by omega) c1.1 c1.2.1, if_pos rfl, show (2 : Int32) = nI 2 from rfl, pn_rem (by omega) (by omega) (by omega), c1.2.2, if_neg (show ¬ nI 0 = 1 by decide), hscan V v3 BV RV c1.2.2, if_neg c2]
      rfl
  · rw [decide_eq_false c1]
    obtain ⟨V, e1, v3, v2, v11, ff, v016⟩ := hv (bm_uI I 1 1 0) (fun o k a _ => f1 o k a) (pn_uI_hit rfl)
    have ff' : ∀ o k, (o ≠ 1 ∨ k ≠ 1) → (o ≠ 164 ∨ (k ≠ 0 ∧ k ≠ 2 ∧ k ≠ 3 ∧ k ≠ 4 ∧ k ≠ 5)) → V o k = I o k := fun o k a b => by
      by_cases e : o = 0 ∧ k = 16
      · obtain ⟨rfl, rfl⟩ := e
        rw [v016, f1 0 16 (by omega)]
      · exact ff o k a (by omega) b
    refine ⟨_, _, V, rfl, ?_, iv_emptied hI v11 v2 (fun o k ho => ff' o k (by omega) (by omega)) (iM_congr (fun o k ho => ff' o k (by omega) (by omega)) hM)⟩
    show f_X12_scratch (bm_uI I 1 1 0) = some (-1, V)
    unfold f_X12_scratch
    rw [e1]
    simp only [Option.bind_some]
    rw [v3, show f_X12_isIn (nI n) 2 16 = _ from pq_inN (lo := 2) (hi := 16) (by omega) (by omega) (by omega), show (2 : Int32) = nI 2 from rfl, pn_rem (by omega) (by omega) (by omega)]
    by_cases d : 2 ≤ n ∧ n ≤ 16
    · rw [decide_eq_true d.1, decide_eq_true d.2, if_pos (show (true && true) = true from rfl), show n % 2 = 1 by omega]; rfl
    · have : (decide (2 ≤ n) && decide (n ≤ 16)) = false := by
        rw [Bool.and_eq_false_iff]
        by_cases h2 : 2 ≤ n
        · exact Or.inr (decide_eq_false (by omega))
        · exact Or.inl (decide_eq_false h2)
      rw [this]; rfl
end EK
