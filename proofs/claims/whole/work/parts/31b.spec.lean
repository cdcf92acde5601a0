/-! the picture: an army and its state as a row of numbers, as the reference lays them -/
abbrev pt_T : Type := Nat → Nat
def pt_brow (T : pt_T) (m : Nat) : Nat := if (T 64).testBit m = true then min 9 (T (21 + m) + 3) else T (21 + m)
def pt_d (a b : Nat) : Nat := (a - b) + (b - a)
def pt_far (x y a b : Nat) : Nat := pt_d x a + pt_d y b
def pt_shown (T : pt_T) (br x y a b : Nat) : Bool := decide (0 < br) && decide (pt_far x y a b ≤ br * T 3)
def pt_sees (T : pt_T) (m k : Nat) : Bool := decide (m ≠ k) && (!(T 63).testBit m && pt_shown T (pt_brow T k) (T (66 + k)) (T (74 + k)) (T (66 + m)) (T (74 + m)))
def pt_reads (T : pt_T) (m k : Nat) : Bool := decide (T (31 + m) = k + 1) && pt_sees T m k
def pt_readers (T : pt_T) (k : Nat) : Nat := pt_set (T 0) (fun m => pt_reads T m k)
def pt_seen (T : pt_T) (m : Nat) : Nat := pt_set (T 0) (fun k => pt_sees T m k)
def pt_foes (T : pt_T) (m x y : Nat) : Nat := pt_set (T 2) (fun k => pt_shown T (pt_brow T m) x y (T (53 + k)) (T (57 + k)))
def pt_havers (T : pt_T) (o : Nat) : Nat := pt_set (T 0) (fun m => decide (T (90 + m) = o))
def pt_orderly (T : pt_T) : Nat := pt_set (T 0) (fun m => decide (0 < T (90 + m)))
def pt_unrest (T : pt_T) : Nat := pt_set (T 0) (fun m => decide (0 < T (31 + m)) && decide (pt_brow T (T (31 + m) - 1) < pt_brow T m))
def pt_cnt (n : Nat) (p : Nat → Bool) : Nat := match n with
  | 0 => 0
  | k + 1 => pt_cnt k p + (p k).toNat
def pt_seers (T : pt_T) (m x y : Nat) : Nat := pt_cnt (T 0) (fun k => decide (T (31 + k) = m + 1) && pt_shown T (pt_brow T m) x y (T (66 + k)) (T (74 + k)))
/-- what holds of the army's numbers -/
def pt_VA (T : pt_T) : Prop := T 0 ≤ 8 ∧ T 1 ≤ 7 ∧ T 2 ≤ 4 ∧ 1 ≤ T 3 ∧ T 3 ≤ 5 ∧ 1 ≤ T 4 ∧ T 4 ≤ 30 ∧ (∀ j, j < T 0 → T (21 + j) ≤ 9) ∧ T 29 < 2 ^ T 0 ∧ T 30 < 2 ^ T 0 ∧ (∀ j, j < T 0 → T (31 + j) ≤ T 0) ∧ (∃ c : Nat → Nat → Bool, (∀ j, j < T 0 → ∀ i, c j i = (decide (0 < T (31 + j)) && (decide (i + 1 = T (31 + j)) || c (T (31 + j) - 1) i))) ∧ ∀ j, j < T 0 → c j j = false) ∧ (∀ q, q < T 1 → 1 ≤ T (39 + q) ∧ T (39 + q) ≤ 3 ∧ 1 ≤ T (46 + q) ∧ T (46 + q) ≤ 3) ∧ (∀ f, f < T 2 → T (53 + f) ≤ 30 ∧ T (57 + f) ≤ 30)
/-- what holds of the state's numbers -/
def pt_VS (T : pt_T) : Prop := T 61 ≤ 400 ∧ T 63 < 2 ^ T 0 ∧ T 64 < 2 ^ T 0 ∧ T 65 < 2 ^ T 0 ∧ (∀ j, j < T 0 → T (66 + j) ≤ 30 ∧ T (74 + j) ≤ 30 ∧ T (82 + j) ≤ 3 ∧ T (90 + j) ≤ T 1 ∧ T (98 + j) ≤ 99)
/-- the reference's row is the picture -/
abbrev pp_R (I : bm_TI) (T : pt_T) : Prop := ∀ k, k < 106 → I 166 k = nI (T k)
/-- an army of the class at cell a -/
def pp_A (I : bm_TI) (a : Nat) (T : pt_T) : Prop := I a 10 = nI (T 0) ∧ I a 11 = nI (T 29) ∧ I a 12 = nI (T 30) ∧ I a 13 = nI (T 1) ∧ I a 14 = nI (T 2) ∧ I a 15 = nI (T 3) ∧ I a 16 = nI (T 4) ∧ (∀ j, j < T 0 → I (a + 4) j = nI (T (21 + j)) ∧ I (a + 5) j = pn_x (T (31 + j))) ∧ (∀ q, q < T 1 → I (a + 7) q = nI (T (39 + q)) ∧ I (a + 8) q = nI (T (46 + q))) ∧ (∀ f, f < T 2 → I (a + 9) f = nI (T (53 + f)) ∧ I (a + 10) f = nI (T (57 + f)))
/-- a state of the class at cell o -/
def pp_S (I : bm_TI) (o : Nat) (T : pt_T) : Prop := I o 7 = nI (T 63) ∧ I o 8 = nI (T 64) ∧ I o 9 = nI (T 65) ∧ I o 10 = nI (T 61) ∧ I o 11 = nI (T 62) ∧ (∀ j, j < T 0 → I (o + 1) j = nI (T (66 + j)) ∧ I (o + 2) j = nI (T (74 + j)) ∧ I (o + 3) j = nI (T (82 + j)) ∧ I (o + 4) j = pn_x (T (90 + j)) ∧ I (o + 5) j = nI (T (98 + j)))
theorem pt_256 {T : pt_T} {s : Nat} (h : T 0 ≤ 8) (hs : s < 2 ^ T 0) : s < 256 := Nat.lt_of_lt_of_le hs (Nat.pow_le_pow_right (n := 2) (by omega) h)
theorem pt_brow_le {T : pt_T} (hA : pt_VA T) {m : Nat} (hm : m < T 0) : pt_brow T m ≤ 9 := by
  have := hA.2.2.2.2.2.2.2.1 m hm
  unfold pt_brow
  split <;> omega
/-! the reference's answers -/
section PR
variable {I : bm_TI} {T : pt_T}
theorem pq_inT {x lo hi : Int32} (h1 : ¬ x < lo) (h2 : ¬ hi < x) : f_X12_isIn x lo hi = true := by
  unfold f_X12_isIn; rw [if_neg h1, if_neg h2]
theorem pq_inN {x lo hi : Nat} (hx : x < 2 ^ 31) (hl : lo < 2 ^ 31) (hh : hi < 2 ^ 31) : f_X12_isIn (nI x) (nI lo) (nI hi) = (decide (lo ≤ x) && decide (x ≤ hi)) := by
  unfold f_X12_isIn
  simp only [pn_ltI hx hl, pn_ltI hh hx]
  by_cases h1 : x < lo
  · rw [if_pos h1, decide_eq_false (by omega)]; rfl
  · rw [if_neg h1, decide_eq_true (by omega)]
    by_cases h2 : hi < x
    · rw [if_pos h2, decide_eq_false (by omega)]; rfl
    · rw [if_neg h2, decide_eq_true (by omega)]; rfl
/-- below a number: 0 to n - 1 -/
theorem pq_belowT {n m : Nat} (hn : n < 2 ^ 31) (hm : m < n) : f_X12_isIn (nI m) 0 (nI n - 1) = true := by
  unfold f_X12_isIn
  simp (disch := omega) only [pn_l0, pn_l1, pn_l2, pn_l3, pn_l4, pn_l5, pn_l6, pn_l7, pn_l8, pn_l9, pn_l10, pn_l11, pn_l12, pn_l13, pn_l15, pn_l20, pn_l21, pn_l22, pn_l23, pn_l24, pn_l30, pn_l31, pn_l32, pn_l39, pn_l40, pn_l41, pn_l45, pn_l46, pn_l48, pn_l53, pn_l57, pn_l58, pn_l59, pn_l60, pn_l61, pn_l62, pn_l63, pn_l64, pn_l65, pn_l66, pn_l74, pn_l82, pn_l90, pn_l97, pn_l98, pn_l99, pn_l106, pn_l107, pn_l120, pn_l122, pn_l135, pn_l255, pn_l287, pn_l300, pn_l315, pn_l360, pn_l400, pn_l900, pn_l940, pn_l1000, pn_l1000000, pn_mone, nI_add, pk_mul, nI_clamp, bm_ixk, pn_ltI, pn_leI, pn_eqI, pn_xeq, pn_xeq2, pn_xx, pn_xltI, pn_xleI, pn_xgtI, pn_xgeI, pn_xadd, pn_subx, pn_addx, Option.bind_some, ↓reduceIte, Nat.not_lt_zero, Nat.not_le.mpr hm]
theorem pq_belowF {n : Nat} {x : Int32} (hn : n < 2 ^ 31) (h : x < 0 ∨ nI n ≤ x) : f_X12_isIn x 0 (nI n - 1) = false := by
  unfold f_X12_isIn
  by_cases h1 : x < 0
  · rw [if_pos h1]
  · rw [if_neg h1]
    obtain ⟨j, hj, rfl⟩ := nI_of h1
    have h2 := h.resolve_left h1
    rw [pn_leI hn hj] at h2
    simp (disch := omega) only [pn_l0, pn_l1, pn_l2, pn_l3, pn_l4, pn_l5, pn_l6, pn_l7, pn_l8, pn_l9, pn_l10, pn_l11, pn_l12, pn_l13, pn_l15, pn_l20, pn_l21, pn_l22, pn_l23, pn_l24, pn_l30, pn_l31, pn_l32, pn_l39, pn_l40, pn_l41, pn_l45, pn_l46, pn_l48, pn_l53, pn_l57, pn_l58, pn_l59, pn_l60, pn_l61, pn_l62, pn_l63, pn_l64, pn_l65, pn_l66, pn_l74, pn_l82, pn_l90, pn_l97, pn_l98, pn_l99, pn_l106, pn_l107, pn_l120, pn_l122, pn_l135, pn_l255, pn_l287, pn_l300, pn_l315, pn_l360, pn_l400, pn_l900, pn_l940, pn_l1000, pn_l1000000, pn_mone, nI_add, pk_mul, nI_clamp, bm_ixk, pn_ltI, pn_leI, pn_eqI, pn_xeq, pn_xeq2, pn_xx, pn_xltI, pn_xleI, pn_xgtI, pn_xgeI, pn_xadd, pn_subx, pn_addx, Option.bind_some, ↓reduceIte, h2]
theorem pq_isManT (hR : pp_R I T) (hA : pt_VA T) {m : Nat} (hm : m < T 0) : f_X12_isMan I (nI m) = some true := by
  unfold f_X12_isMan
  rw [hR 0 (by omega), pq_belowT (by have := hA.1; omega) hm]
theorem pq_isManF (hR : pp_R I T) (hA : pt_VA T) {x : Int32} (h : x < 0 ∨ nI (T 0) ≤ x) : f_X12_isMan I x = some false := by
  unfold f_X12_isMan
  rw [hR 0 (by omega), pq_belowF (by have := hA.1; omega) h]
theorem pq_isOrderT (hR : pp_R I T) (hA : pt_VA T) {m : Nat} (hm : m < T 1) : f_X12_isOrder I (nI m) = some true := by
  unfold f_X12_isOrder
  rw [hR 1 (by omega), pq_belowT (by have := hA.2.1; omega) hm]
theorem pq_isOrderF (hR : pp_R I T) (hA : pt_VA T) {x : Int32} (h : x < 0 ∨ nI (T 1) ≤ x) : f_X12_isOrder I x = some false := by
  unfold f_X12_isOrder
  rw [hR 1 (by omega), pq_belowF (by have := hA.2.1; omega) h]
theorem pq_lesser {a b : Nat} (ha : a < 2 ^ 31) (hb : b < 2 ^ 31) : f_X12_lesser (nI a) (nI b) = nI (min a b) := by
  unfold f_X12_lesser
  simp only [pn_leI hb ha]
  by_cases h : b ≤ a
  · rw [if_pos h, Nat.min_eq_right h]
  · rw [if_neg h, Nat.min_eq_left (by omega)]
theorem pq_brow (hR : pp_R I T) (hA : pt_VA T) (hS : pt_VS T) {m : Nat} (hm : m < T 0) : f_X12_browOf I (nI m) = some (nI (pt_brow T m)) := by
  have h8 := hA.1
  have hb := hA.2.2.2.2.2.2.2.1 m hm
  have h64 : T 64 < 256 := pt_256 h8 hS.2.2.1
  unfold f_X12_browOf pt_brow
  simp (disch := omega) only [pn_l0, pn_l1, pn_l2, pn_l3, pn_l4, pn_l5, pn_l6, pn_l7, pn_l8, pn_l9, pn_l10, pn_l11, pn_l12, pn_l13, pn_l15, pn_l20, pn_l21, pn_l22, pn_l23, pn_l24, pn_l30, pn_l31, pn_l32, pn_l39, pn_l40, pn_l41, pn_l45, pn_l46, pn_l48, pn_l53, pn_l57, pn_l58, pn_l59, pn_l60, pn_l61, pn_l62, pn_l63, pn_l64, pn_l65, pn_l66, pn_l74, pn_l82, pn_l90, pn_l97, pn_l98, pn_l99, pn_l106, pn_l107, pn_l120, pn_l122, pn_l135, pn_l255, pn_l287, pn_l300, pn_l315, pn_l360, pn_l400, pn_l900, pn_l940, pn_l1000, pn_l1000000, pn_mone, nI_add, pk_mul, nI_clamp, bm_ixk, pn_ltI, pn_leI, pn_eqI, pn_xeq, pn_xeq2, pn_xx, pn_xltI, pn_xleI, pn_xgtI, pn_xgeI, pn_xadd, pn_subx, pn_addx, Option.bind_some, ↓reduceIte, hR, pn_bitOf, pq_lesser]
  cases (T 64).testBit m <;> rfl
theorem pq_abs {a b : Nat} (ha : a < 2 ^ 30) (hb : b < 2 ^ 30) : f_X12_absolute (nI a - nI b) = nI (pt_d a b) := by
  unfold f_X12_absolute pt_d
  by_cases h : b ≤ a
  · rw [pk_sub h, if_pos (nI_pos' (by omega)), show b - a = 0 by omega, Nat.add_zero]
  · have h1 := pk_sneg (a := a) (b := b) hb (by omega)
    rw [if_neg (by rw [Int32.not_le]; exact h1), show a - b = 0 by omega, Nat.zero_add, Int32.neg_sub, pk_sub (by omega)]
theorem pq_far {x y a b : Nat} (hx : x < 2 ^ 30) (hy : y < 2 ^ 30) (ha : a < 2 ^ 30) (hb : b < 2 ^ 30) : f_X12_farBy (nI x) (nI y) (nI a) (nI b) = nI (pt_far x y a b) := by
  unfold f_X12_farBy pt_far
  rw [pq_abs hx ha, pq_abs hy hb, nI_add]
theorem pt_far_le {x y a b : Nat} (hx : x ≤ 30) (hy : y ≤ 30) (ha : a ≤ 30) (hb : b ≤ 30) : pt_far x y a b ≤ 60 := by unfold pt_far pt_d; omega
theorem pq_shown (hR : pp_R I T) (hA : pt_VA T) {br x y a b : Nat} (hbr : br ≤ 9) (hx : x ≤ 30) (hy : y ≤ 30) (ha : a ≤ 30) (hb : b ≤ 30) : f_X12_isShown I (nI br) (nI x) (nI y) (nI a) (nI b) = some (pt_shown T br x y a b) := by
  have hc := hA.2.2.2.2.1
  have hm : br * T 3 ≤ 9 * 5 := Nat.mul_le_mul hbr hc
  have hf := pt_far_le hx hy ha hb
  unfold f_X12_isShown pt_shown
  simp (disch := omega) only [pn_l0, pn_l1, pn_l2, pn_l3, pn_l4, pn_l5, pn_l6, pn_l7, pn_l8, pn_l9, pn_l10, pn_l11, pn_l12, pn_l13, pn_l15, pn_l20, pn_l21, pn_l22, pn_l23, pn_l24, pn_l30, pn_l31, pn_l32, pn_l39, pn_l40, pn_l41, pn_l45, pn_l46, pn_l48, pn_l53, pn_l57, pn_l58, pn_l59, pn_l60, pn_l61, pn_l62, pn_l63, pn_l64, pn_l65, pn_l66, pn_l74, pn_l82, pn_l90, pn_l97, pn_l98, pn_l99, pn_l106, pn_l107, pn_l120, pn_l122, pn_l135, pn_l255, pn_l287, pn_l300, pn_l315, pn_l360, pn_l400, pn_l900, pn_l940, pn_l1000, pn_l1000000, pn_mone, nI_add, pk_mul, nI_clamp, bm_ixk, pn_ltI, pn_leI, pn_eqI, pn_xeq, pn_xeq2, pn_xx, pn_xltI, pn_xleI, pn_xgtI, pn_xgeI, pn_xadd, pn_subx, pn_addx, Option.bind_some, ↓reduceIte, hR, pq_far]
  by_cases h : br ≤ 0
  · rw [if_pos h, decide_eq_false (by omega)]; rfl
  · rw [if_neg h, decide_eq_true (show 0 < br by omega), Bool.true_and]
    by_cases h2 : br * T 3 < pt_far x y a b
    · rw [if_pos h2, decide_eq_false (by omega)]
    · rw [if_neg h2, decide_eq_true (by omega)]
theorem pq_sees (hR : pp_R I T) (hA : pt_VA T) (hS : pt_VS T) {m k : Nat} (hm : m < T 0) (hk : k < T 0) : f_X12_seesOne I (nI m) (nI k) = some (pt_sees T m k) := by
  have h8 := hA.1
  have hM := hS.2.2.2.2 m hm
  have hK := hS.2.2.2.2 k hk
  have h63 : T 63 < 256 := pt_256 h8 hS.2.1
  have hb := pt_brow_le hA hk
  unfold f_X12_seesOne pt_sees
  simp (disch := omega) only [pn_l0, pn_l1, pn_l2, pn_l3, pn_l4, pn_l5, pn_l6, pn_l7, pn_l8, pn_l9, pn_l10, pn_l11, pn_l12, pn_l13, pn_l15, pn_l20, pn_l21, pn_l22, pn_l23, pn_l24, pn_l30, pn_l31, pn_l32, pn_l39, pn_l40, pn_l41, pn_l45, pn_l46, pn_l48, pn_l53, pn_l57, pn_l58, pn_l59, pn_l60, pn_l61, pn_l62, pn_l63, pn_l64, pn_l65, pn_l66, pn_l74, pn_l82, pn_l90, pn_l97, pn_l98, pn_l99, pn_l106, pn_l107, pn_l120, pn_l122, pn_l135, pn_l255, pn_l287, pn_l300, pn_l315, pn_l360, pn_l400, pn_l900, pn_l940, pn_l1000, pn_l1000000, pn_mone, nI_add, pk_mul, nI_clamp, bm_ixk, pn_ltI, pn_leI, pn_eqI, pn_xeq, pn_xeq2, pn_xx, pn_xltI, pn_xleI, pn_xgtI, pn_xgeI, pn_xadd, pn_subx, pn_addx, Option.bind_some, ↓reduceIte, hR, pn_bitOf, pq_brow hR hA hS hk, pq_shown hR hA]
  by_cases h : m = k
  · simp [h]
  · cases (T 63).testBit m <;> cases pt_shown T (pt_brow T k) (T (66 + k)) (T (74 + k)) (T (66 + m)) (T (74 + m)) <;> simp [h]
theorem pq_reads (hR : pp_R I T) (hA : pt_VA T) (hS : pt_VS T) {m k : Nat} (hm : m < T 0) (hk : k < T 0) : f_X12_readsOne I (nI m) (nI k) = some (pt_reads T m k) := by
  have h8 := hA.1
  have hu := hA.2.2.2.2.2.2.2.2.2.2.1 m hm
  unfold f_X12_readsOne pt_reads
  simp (disch := omega) only [pn_l0, pn_l1, pn_l2, pn_l3, pn_l4, pn_l5, pn_l6, pn_l7, pn_l8, pn_l9, pn_l10, pn_l11, pn_l12, pn_l13, pn_l15, pn_l20, pn_l21, pn_l22, pn_l23, pn_l24, pn_l30, pn_l31, pn_l32, pn_l39, pn_l40, pn_l41, pn_l45, pn_l46, pn_l48, pn_l53, pn_l57, pn_l58, pn_l59, pn_l60, pn_l61, pn_l62, pn_l63, pn_l64, pn_l65, pn_l66, pn_l74, pn_l82, pn_l90, pn_l97, pn_l98, pn_l99, pn_l106, pn_l107, pn_l120, pn_l122, pn_l135, pn_l255, pn_l287, pn_l300, pn_l315, pn_l360, pn_l400, pn_l900, pn_l940, pn_l1000, pn_l1000000, pn_mone, nI_add, pk_mul, nI_clamp, bm_ixk, pn_ltI, pn_leI, pn_eqI, pn_xeq, pn_xeq2, pn_xx, pn_xltI, pn_xleI, pn_xgtI, pn_xgeI, pn_xadd, pn_subx, pn_addx, Option.bind_some, ↓reduceIte, hR, pq_sees hR hA hS hm hk]
  by_cases h : T (31 + m) = k + 1
  · cases pt_sees T m k <;> simp [h]
  · simp [h]
theorem pq_readers (hR : pp_R I T) (hA : pt_VA T) (hS : pt_VS T) {k : Nat} (hk : k < T 0) : f_X12_readersOf I (nI k) = some (nI (pt_readers T k)) := by
  have h8 := hA.1
  unfold f_X12_readersOf pt_readers
  rw [pl_set (F := f_X12_readersOf_l4 I (nI k)) (p := fun m => pt_reads T m k) h8]
  · rfl
  · intro q s
    rw [f_X12_readersOf_l4, hR 0 (by omega), if_pos (Int32.le_refl _)]
  · intro q s j hj
    rw [f_X12_readersOf_l4]
    simp (disch := omega) only [pn_l0, pn_l1, pn_l2, pn_l3, pn_l4, pn_l5, pn_l6, pn_l7, pn_l8, pn_l9, pn_l10, pn_l11, pn_l12, pn_l13, pn_l15, pn_l20, pn_l21, pn_l22, pn_l23, pn_l24, pn_l30, pn_l31, pn_l32, pn_l39, pn_l40, pn_l41, pn_l45, pn_l46, pn_l48, pn_l53, pn_l57, pn_l58, pn_l59, pn_l60, pn_l61, pn_l62, pn_l63, pn_l64, pn_l65, pn_l66, pn_l74, pn_l82, pn_l90, pn_l97, pn_l98, pn_l99, pn_l106, pn_l107, pn_l120, pn_l122, pn_l135, pn_l255, pn_l287, pn_l300, pn_l315, pn_l360, pn_l400, pn_l900, pn_l940, pn_l1000, pn_l1000000, pn_mone, nI_add, pk_mul, nI_clamp, bm_ixk, pn_ltI, pn_leI, pn_eqI, pn_xeq, pn_xeq2, pn_xx, pn_xltI, pn_xleI, pn_xgtI, pn_xgeI, pn_xadd, pn_subx, pn_addx, Option.bind_some, ↓reduceIte, hR, Nat.not_le.mpr hj, pq_reads hR hA hS hj hk, pn_shlN, pn_or]
    cases pt_reads T j k <;> simp
theorem pq_seen (hR : pp_R I T) (hA : pt_VA T) (hS : pt_VS T) {k : Nat} (hk : k < T 0) : f_X12_seenBy I (nI k) = some (nI (pt_seen T k)) := by
  have h8 := hA.1
  unfold f_X12_seenBy pt_seen
  rw [pl_set (F := f_X12_seenBy_l4 I (nI k)) (p := fun m => pt_sees T k m) h8]
  · rfl
  · intro q s
    rw [f_X12_seenBy_l4, hR 0 (by omega), if_pos (Int32.le_refl _)]
  · intro q s j hj
    rw [f_X12_seenBy_l4]
    simp (disch := omega) only [pn_l0, pn_l1, pn_l2, pn_l3, pn_l4, pn_l5, pn_l6, pn_l7, pn_l8, pn_l9, pn_l10, pn_l11, pn_l12, pn_l13, pn_l15, pn_l20, pn_l21, pn_l22, pn_l23, pn_l24, pn_l30, pn_l31, pn_l32, pn_l39, pn_l40, pn_l41, pn_l45, pn_l46, pn_l48, pn_l53, pn_l57, pn_l58, pn_l59, pn_l60, pn_l61, pn_l62, pn_l63, pn_l64, pn_l65, pn_l66, pn_l74, pn_l82, pn_l90, pn_l97, pn_l98, pn_l99, pn_l106, pn_l107, pn_l120, pn_l122, pn_l135, pn_l255, pn_l287, pn_l300, pn_l315, pn_l360, pn_l400, pn_l900, pn_l940, pn_l1000, pn_l1000000, pn_mone, nI_add, pk_mul, nI_clamp, bm_ixk, pn_ltI, pn_leI, pn_eqI, pn_xeq, pn_xeq2, pn_xx, pn_xltI, pn_xleI, pn_xgtI, pn_xgeI, pn_xadd, pn_subx, pn_addx, Option.bind_some, ↓reduceIte, hR, Nat.not_le.mpr hj, pq_sees hR hA hS hk hj, pn_shlN, pn_or]
    cases pt_sees T k j <;> simp
theorem pq_foes (hR : pp_R I T) (hA : pt_VA T) (hS : pt_VS T) {m x y : Nat} (hm : m < T 0) (hx : x ≤ 30) (hy : y ≤ 30) : f_X12_foesOf I (nI m) (nI x) (nI y) = some (nI (pt_foes T m x y)) := by
  have h4 := hA.2.2.1
  have hb := pt_brow_le hA hm
  unfold f_X12_foesOf pt_foes
  rw [pl_set (F := f_X12_foesOf_l6 I (nI m) (nI x) (nI y)) (p := fun k => pt_shown T (pt_brow T m) x y (T (53 + k)) (T (57 + k))) (n := T 2) (by omega)]
  · rfl
  · intro q s
    rw [f_X12_foesOf_l6, hR 2 (by omega), if_pos (Int32.le_refl _)]
  · intro q s j hj
    have hf := hA.2.2.2.2.2.2.2.2.2.2.2.2.2 j hj
    rw [f_X12_foesOf_l6]
    simp (disch := omega) only [pn_l0, pn_l1, pn_l2, pn_l3, pn_l4, pn_l5, pn_l6, pn_l7, pn_l8, pn_l9, pn_l10, pn_l11, pn_l12, pn_l13, pn_l15, pn_l20, pn_l21, pn_l22, pn_l23, pn_l24, pn_l30, pn_l31, pn_l32, pn_l39, pn_l40, pn_l41, pn_l45, pn_l46, pn_l48, pn_l53, pn_l57, pn_l58, pn_l59, pn_l60, pn_l61, pn_l62, pn_l63, pn_l64, pn_l65, pn_l66, pn_l74, pn_l82, pn_l90, pn_l97, pn_l98, pn_l99, pn_l106, pn_l107, pn_l120, pn_l122, pn_l135, pn_l255, pn_l287, pn_l300, pn_l315, pn_l360, pn_l400, pn_l900, pn_l940, pn_l1000, pn_l1000000, pn_mone, nI_add, pk_mul, nI_clamp, bm_ixk, pn_ltI, pn_leI, pn_eqI, pn_xeq, pn_xeq2, pn_xx, pn_xltI, pn_xleI, pn_xgtI, pn_xgeI, pn_xadd, pn_subx, pn_addx, Option.bind_some, ↓reduceIte, hR, Nat.not_le.mpr hj, pq_brow hR hA hS hm, pq_shown hR hA, pn_shlN, pn_or]
    cases pt_shown T (pt_brow T m) x y (T (53 + j)) (T (57 + j)) <;> simp
theorem pq_havers (hR : pp_R I T) (hA : pt_VA T) (hS : pt_VS T) {o : Nat} (ho : o < 100) : f_X12_havers I (nI o) = some (nI (pt_havers T (o + 1))) := by
  have h8 := hA.1
  have h7 := hA.2.1
  unfold f_X12_havers pt_havers
  rw [pl_set (F := f_X12_havers_l4 I (nI o)) (p := fun m => decide (T (90 + m) = o + 1)) h8]
  · rfl
  · intro q s
    rw [f_X12_havers_l4, hR 0 (by omega), if_pos (Int32.le_refl _)]
  · intro q s j hj
    have hh := (hS.2.2.2.2 j hj).2.2.2.1
    rw [f_X12_havers_l4]
    simp (disch := omega) only [pn_l0, pn_l1, pn_l2, pn_l3, pn_l4, pn_l5, pn_l6, pn_l7, pn_l8, pn_l9, pn_l10, pn_l11, pn_l12, pn_l13, pn_l15, pn_l20, pn_l21, pn_l22, pn_l23, pn_l24, pn_l30, pn_l31, pn_l32, pn_l39, pn_l40, pn_l41, pn_l45, pn_l46, pn_l48, pn_l53, pn_l57, pn_l58, pn_l59, pn_l60, pn_l61, pn_l62, pn_l63, pn_l64, pn_l65, pn_l66, pn_l74, pn_l82, pn_l90, pn_l97, pn_l98, pn_l99, pn_l106, pn_l107, pn_l120, pn_l122, pn_l135, pn_l255, pn_l287, pn_l300, pn_l315, pn_l360, pn_l400, pn_l900, pn_l940, pn_l1000, pn_l1000000, pn_mone, nI_add, pk_mul, nI_clamp, bm_ixk, pn_ltI, pn_leI, pn_eqI, pn_xeq, pn_xeq2, pn_xx, pn_xltI, pn_xleI, pn_xgtI, pn_xgeI, pn_xadd, pn_subx, pn_addx, Option.bind_some, ↓reduceIte, hR, Nat.not_le.mpr hj, pn_shlN, pn_or]
    by_cases h : T (90 + j) = o + 1 <;> simp [h]
theorem pq_orderly (hR : pp_R I T) (hA : pt_VA T) (hS : pt_VS T) : f_X12_orderly I = some (nI (pt_orderly T)) := by
  have h8 := hA.1
  have h7 := hA.2.1
  unfold f_X12_orderly pt_orderly
  rw [pl_set (F := f_X12_orderly_l4 I) (p := fun m => decide (0 < T (90 + m))) h8]
  · rfl
  · intro q s
    rw [f_X12_orderly_l4, hR 0 (by omega), if_pos (Int32.le_refl _)]
  · intro q s j hj
    have hh := (hS.2.2.2.2 j hj).2.2.2.1
    rw [f_X12_orderly_l4]
    simp (disch := omega) only [pn_l0, pn_l1, pn_l2, pn_l3, pn_l4, pn_l5, pn_l6, pn_l7, pn_l8, pn_l9, pn_l10, pn_l11, pn_l12, pn_l13, pn_l15, pn_l20, pn_l21, pn_l22, pn_l23, pn_l24, pn_l30, pn_l31, pn_l32, pn_l39, pn_l40, pn_l41, pn_l45, pn_l46, pn_l48, pn_l53, pn_l57, pn_l58, pn_l59, pn_l60, pn_l61, pn_l62, pn_l63, pn_l64, pn_l65, pn_l66, pn_l74, pn_l82, pn_l90, pn_l97, pn_l98, pn_l99, pn_l106, pn_l107, pn_l120, pn_l122, pn_l135, pn_l255, pn_l287, pn_l300, pn_l315, pn_l360, pn_l400, pn_l900, pn_l940, pn_l1000, pn_l1000000, pn_mone, nI_add, pk_mul, nI_clamp, bm_ixk, pn_ltI, pn_leI, pn_eqI, pn_xeq, pn_xeq2, pn_xx, pn_xltI, pn_xleI, pn_xgtI, pn_xgeI, pn_xadd, pn_subx, pn_addx, Option.bind_some, ↓reduceIte, hR, Nat.not_le.mpr hj, pn_shlN, pn_or, Nat.le_zero]
    by_cases h : T (90 + j) = 0
    · simp [h]
    · have h2 : 0 < T (90 + j) := by omega
      simp [h, h2]
end PR
