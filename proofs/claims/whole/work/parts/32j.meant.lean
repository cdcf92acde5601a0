/-! what was meant -/
theorem pl_cntN {F : Nat → Int32 → Int32 → Option Int32} {n : Nat} {p : Nat → Bool} (hn : n < 1000) (h0 : ∀ k s, F (k + 1) s (nI n) = some s) (h1 : ∀ k s j, j < n → F (k + 1) (nI s) (nI j) = F k (nI (s + (p j).toNat)) (nI (j + 1))) : F 1000 0 0 = some (nI (pt_cnt n p)) := by
  refine pl_row (F := fun k j s => F k s (nI j)) (n := n) (fun j => nI (pt_cnt j p)) (fun k => h0 k _) (fun k j hj => ?_) 1000 hn
  show F (k + 1) (nI (pt_cnt j p)) (nI j) = F k (nI (pt_cnt j p + (p j).toNat)) (nI (j + 1))
  exact h1 k _ j hj
/-- whether there is one -/
theorem pl_any {F : Nat → Int32 → Option (Unit ⊕ Unit)} {n : Nat} {p : Nat → Bool} (hn : n < 1000) (h0 : ∀ k, F (k + 1) (nI n) = some (.inr ())) (h1 : ∀ k j, j < n → F (k + 1) (nI j) = if p j = true then some (.inl ()) else F k (nI (j + 1))) : F 1000 0 = some (if pt_fnd n p = 0 then .inr () else .inl ()) := by
  have key : ∀ i j k, j + i = n → i < k → pt_fnd j p = 0 → F k (nI j) = some (if pt_fnd n p = 0 then .inr () else .inl ()) := by
    intro i
    induction i with
    | zero =>
      intro j k hj hk hf
      obtain ⟨k, rfl⟩ : ∃ q, k = q + 1 := ⟨k - 1, by omega⟩
      obtain rfl : j = n := by omega
      rw [h0, if_pos hf]
    | succ i ih =>
      intro j k hj hk hf
      obtain ⟨k, rfl⟩ : ∃ q, k = q + 1 := ⟨k - 1, by omega⟩
      rw [h1 k j (by omega)]
      by_cases hp : p j = true
      · rw [if_pos hp, tf_step (by omega) hf hp, if_neg (by omega)]
      · rw [if_neg hp]
        refine ih (j + 1) k (by omega) (by omega) ?_
        unfold pt_fnd
        rw [if_pos hf, if_neg hp]
  exact key n 0 1000 (by omega) hn rfl
def mt_p (B : Nat → Nat) (a b i : Nat) : Bool := decide (B i ≠ 0) && decide (B i ≠ if i % 2 = 0 then a else b)
/-- fewest and 1, and by which -/
def mt_st (T : pt_T) (B : Nat → Nat) (n m : Nat) : Nat × Nat := match m with
  | 0 => (0, 0)
  | o + 1 => if (mt_st T B n o).1 = 0 ∨ pt_cnt n (mt_p B (T (39 + o)) (T (46 + o))) + 1 < (mt_st T B n o).1 then (pt_cnt n (mt_p B (T (39 + o)) (T (46 + o))) + 1, 2 ^ o) else if pt_cnt n (mt_p B (T (39 + o)) (T (46 + o))) + 1 = (mt_st T B n o).1 then ((mt_st T B n o).1, (mt_st T B n o).2 ||| 2 ^ o) else mt_st T B n o
theorem mt_st_b (T : pt_T) (B : Nat → Nat) (n m : Nat) : (mt_st T B n m).1 ≤ n + 1 ∧ (mt_st T B n m).2 < 2 ^ m ∧ (0 < m → 0 < (mt_st T B n m).1) := by
  induction m with
  | zero => exact ⟨Nat.zero_le _, Nat.zero_lt_one, fun h => by omega⟩
  | succ o ih =>
    have h1 := pt_cnt_le n (mt_p B (T (39 + o)) (T (46 + o)))
    have h2 : 2 ^ o < 2 ^ (o + 1) := pt_pow_lt (by omega)
    unfold mt_st
    split
    · exact ⟨by show _ + 1 ≤ n + 1; omega, h2, fun _ => by show 0 < _ + 1; omega⟩
    · rename_i h
      split
      · exact ⟨ih.1, Nat.or_lt_two_pow (Nat.lt_trans ih.2.1 h2) h2, fun _ => by show 0 < (mt_st T B n o).1; omega⟩
      · exact ⟨ih.1, Nat.lt_trans ih.2.1 h2, fun _ => by omega⟩
def mt_left (T : pt_T) (base s l : Nat) : Nat := pt_cnt (T 1) (fun o => s.testBit o && decide (T (base + o) = l))
def mt_most (T : pt_T) (base s n : Nat) : Nat := match n with
  | 0 => 0
  | l + 1 => if l = 0 then 0 else max (mt_most T base s l) (mt_left T base s l)
theorem mt_most_le (T : pt_T) (h7 : T 1 ≤ 7) (base s n : Nat) : mt_most T base s n ≤ 7 := by
  induction n with
  | zero => exact Nat.zero_le _
  | succ l ih =>
    unfold mt_most
    have := pt_cnt_le (T 1) (fun o => s.testBit o && decide (T (base + o) = l))
    split
    · omega
    · unfold mt_left; omega
section MT
variable {I : bm_TI} {T : pt_T} {n : Nat} {B : Nat → Nat}
theorem kc_wrong (hn : n ≤ 940) (hB : tc_T I n B) {a b : Nat} (ha : a ≤ 3) (hb : b ≤ 3) : f_X2_countWrong I (nI a) (nI b) = some (nI (pt_cnt n (mt_p B a b))) := by
  unfold f_X2_countWrong
  rw [pl_cntN (F := f_X2_countWrong_l5 I (nI a) (nI b)) (p := mt_p B a b) (n := n) (by omega)]
  · rfl
  · intro q s
    rw [f_X2_countWrong_l5, hB.1, if_pos (Int32.le_refl _)]
  · intro q s j hj
    have h1 := hB.2 j hj
    have hm : j % 2 < 2 := Nat.mod_lt _ (by omega)
    rw [f_X2_countWrong_l5]
    simp (disch := omega) only [pn_l0, pn_l1, pn_l2, pn_l3, pn_l4, pn_l5, pn_l6, pn_l7, pn_l8, pn_l9, pn_l10, pn_l11, pn_l12, pn_l13, pn_l15, pn_l20, pn_l21, pn_l22, pn_l23, pn_l24, pn_l30, pn_l31, pn_l32, pn_l39, pn_l40, pn_l41, pn_l45, pn_l46, pn_l48, pn_l53, pn_l57, pn_l58, pn_l59, pn_l60, pn_l61, pn_l62, pn_l63, pn_l64, pn_l65, pn_l66, pn_l74, pn_l82, pn_l90, pn_l97, pn_l98, pn_l99, pn_l106, pn_l107, pn_l120, pn_l122, pn_l135, pn_l255, pn_l287, pn_l300, pn_l315, pn_l360, pn_l400, pn_l900, pn_l940, pn_l1000, pn_l1000000, pn_mone, nI_add, pk_mul, nI_clamp, bm_ixk, pn_ltI, pn_leI, pn_eqI, pn_xeq, pn_xeq2, pn_xx, pn_xltI, pn_xleI, pn_xgtI, pn_xgeI, pn_xadd, pn_subx, pn_addx, Option.bind_some, ↓reduceIte, hB.1, h1.2, Nat.not_le.mpr hj, pn_rem]
    unfold mt_p
    by_cases c1 : B j = 0
    · simp [c1]
    · by_cases c2 : j % 2 = 0
      · by_cases c3 : B j = a
        · simp only [c2, c3, ↓reduceIte]
          split <;> simp [c2, c3]
        · simp [c1, c2, c3]
      · by_cases c3 : B j = b
        · simp only [c2, c3, ↓reduceIte]
          split <;> simp [c2, c3]
        · simp [c1, c2, c3]
theorem pt_cnt2 (p : Nat → Bool) (j : Nat) : pt_cnt (2 * (j + 1)) p = pt_cnt (2 * j) p + (p (2 * j)).toNat + (p (2 * j + 1)).toNat := by
  rw [show 2 * (j + 1) = 2 * j + 1 + 1 by omega, pt_cnt, pt_cnt]
theorem pq_octet (hn : n ≤ 940) (hB : ∀ k, k < n → I 165 k &&& 255 = nI (B k)) {k : Nat} (hk : k < n) : f_X12_octet I (nI k) = some (nI (B k)) := by
  unfold f_X12_octet
  rw [if_pos (bm_ixk (by omega) (by omega)), nI_clamp (by omega), hB k hk]
theorem pq_wrong {h : Nat} (hn : n = 2 * h) (hn2 : n ≤ 12) (h3 : I 164 3 = nI n) (hB : ∀ k, k < n → I 165 k &&& 255 = nI (B k)) (hb : ∀ k, k < n → B k < 256) (hR : pp_R I T) (hA : pt_VA T) {o : Nat} (ho : o < T 1) : f_X12_wrongBy I (nI o) = some (nI (pt_cnt n (mt_p B (T (39 + o)) (T (46 + o))))) := by
  have h7 := hA.2.1
  have hO := hA.2.2.2.2.2.2.2.2.2.2.2.2.1 o ho
  have key : f_X12_wrongBy_l4 I (nI o) 1000 0 0 = some (nI (pt_cnt n (mt_p B (T (39 + o)) (T (46 + o))))) := by
    refine pl_row (F := fun k j s => f_X12_wrongBy_l4 I (nI o) k s (nI (2 * j))) (n := h) (fun j => nI (pt_cnt (2 * j) (mt_p B (T (39 + o)) (T (46 + o))))) ?_ ?_ 1000 (by omega)
    · intro k
      show f_X12_wrongBy_l4 I (nI o) (k + 1) _ (nI (2 * h)) = _
      rw [f_X12_wrongBy_l4, h3, ← hn, if_pos (Int32.le_refl _)]
    · intro k j hj
      show f_X12_wrongBy_l4 I (nI o) (k + 1) _ (nI (2 * j)) = f_X12_wrongBy_l4 I (nI o) k (nI (pt_cnt (2 * (j + 1)) _)) (nI (2 * (j + 1)))
      have b1 := hb (2 * j) (by omega)
      have b2 := hb (2 * j + 1) (by omega)
      have o1 := pq_octet (by omega) hB (k := 2 * j) (by omega)
      have o2 := pq_octet (by omega) hB (k := 2 * j + 1) (by omega)
      have g : ¬ n ≤ 2 * j := by omega
      have m1 : 2 * j % 2 = 0 := by omega
      have m2 : ¬ (2 * j + 1) % 2 = 0 := by omega
      rw [f_X12_wrongBy_l4, pt_cnt2, show 2 * (j + 1) = 2 * j + 2 by omega]
      simp (disch := omega) only [pn_l0, pn_l1, pn_l2, pn_l3, pn_l4, pn_l5, pn_l6, pn_l7, pn_l8, pn_l9, pn_l10, pn_l11, pn_l12, pn_l13, pn_l15, pn_l20, pn_l21, pn_l22, pn_l23, pn_l24, pn_l30, pn_l31, pn_l32, pn_l39, pn_l40, pn_l41, pn_l45, pn_l46, pn_l48, pn_l53, pn_l57, pn_l58, pn_l59, pn_l60, pn_l61, pn_l62, pn_l63, pn_l64, pn_l65, pn_l66, pn_l74, pn_l82, pn_l90, pn_l97, pn_l98, pn_l99, pn_l106, pn_l107, pn_l120, pn_l122, pn_l135, pn_l255, pn_l287, pn_l300, pn_l315, pn_l360, pn_l400, pn_l900, pn_l940, pn_l1000, pn_l1000000, pn_mone, nI_add, pk_mul, nI_clamp, bm_ixk, pn_ltI, pn_leI, pn_eqI, pn_xeq, pn_xeq2, pn_xx, pn_xltI, pn_xleI, pn_xgtI, pn_xgeI, pn_xadd, pn_subx, pn_addx, Option.bind_some, ↓reduceIte, h3, o1, o2, hR, g, Nat.le_zero, Nat.add_zero]
      generalize hp1 : (mt_p B (T (39 + o)) (T (46 + o)) (2 * j)) = p1
      generalize hp2 : (mt_p B (T (39 + o)) (T (46 + o)) (2 * j + 1)) = p2
      unfold mt_p at hp1 hp2
      rw [if_pos m1] at hp1
      rw [if_neg m2] at hp2
      by_cases c1 : B (2 * j) = 0
      · have hq1 : p1 = false := by rw [← hp1, c1]; rfl
        by_cases c2 : B (2 * j + 1) = 0
        · have hq2 : p2 = false := by rw [← hp2, c2]; rfl
          simp only [c1, c2, hq1, hq2, ↓reduceIte, Bool.toNat_false, Nat.add_zero]
        · by_cases c3 : B (2 * j + 1) = T (46 + o)
          · have hq2 : p2 = false := by rw [← hp2, c3]; simp
            rw [if_pos c1, if_neg c2, if_pos c3, hq1, hq2]; simp only [Bool.toNat_false, Nat.add_zero]
          · have hq2 : p2 = true := by rw [← hp2]; simp [c2, c3]
            rw [if_pos c1, if_neg c2, if_neg c3, hq1, hq2]; simp only [Bool.toNat_false, Bool.toNat_true, Nat.add_zero]
      · by_cases d1 : B (2 * j) = T (39 + o)
        · have hq1 : p1 = false := by rw [← hp1, d1]; simp
          by_cases c2 : B (2 * j + 1) = 0
          · have hq2 : p2 = false := by rw [← hp2, c2]; rfl
            rw [if_neg c1, if_pos d1, if_pos c2, hq1, hq2]; simp only [Bool.toNat_false, Nat.add_zero]
          · by_cases c3 : B (2 * j + 1) = T (46 + o)
            · have hq2 : p2 = false := by rw [← hp2, c3]; simp
              rw [if_neg c1, if_pos d1, if_neg c2, if_pos c3, hq1, hq2]; simp only [Bool.toNat_false, Nat.add_zero]
            · have hq2 : p2 = true := by rw [← hp2]; simp [c2, c3]
              rw [if_neg c1, if_pos d1, if_neg c2, if_neg c3, hq1, hq2]; simp only [Bool.toNat_false, Bool.toNat_true, Nat.add_zero]
        · have hq1 : p1 = true := by rw [← hp1]; simp [c1, d1]
          by_cases c2 : B (2 * j + 1) = 0
          · have hq2 : p2 = false := by rw [← hp2, c2]; rfl
            rw [if_neg c1, if_neg d1, if_pos c2, hq1, hq2]; simp only [Bool.toNat_false, Bool.toNat_true, Nat.add_zero]
          · by_cases c3 : B (2 * j + 1) = T (46 + o)
            · have hq2 : p2 = false := by rw [← hp2, c3]; simp
              rw [if_neg c1, if_neg d1, if_neg c2, if_pos c3, hq1, hq2]; simp only [Bool.toNat_false, Bool.toNat_true, Nat.add_zero]
            · have hq2 : p2 = true := by rw [← hp2]; simp [c2, c3]
              rw [if_neg c1, if_neg d1, if_neg c2, if_neg c3, hq1, hq2]; simp only [Bool.toNat_true]
  unfold f_X12_wrongBy
  rw [key]; rfl
/-- the class's fewest, the reference's least -/
def mt_L (big n : Nat) : Nat := if n = 0 then big else n - 1
theorem kc_weigh (hn : n ≤ 12) (hB : tc_T I n B) (hP : pp_A I 4 T) (hA : pt_VA T) : f_X2_weigh_l29 I 1000 0 (nI (n + 1)) 0 = some (nI (mt_st T B n (T 1)).2, nI (mt_L (n + 1) (mt_st T B n (T 1)).1)) := by
  have h7 := hA.2.1
  refine pl_row (σ := Int32 × Int32) (F := fun k j s => f_X2_weigh_l29 I k s.1 s.2 (nI j)) (n := T 1) (fun j => (nI (mt_st T B n j).2, nI (mt_L (n + 1) (mt_st T B n j).1))) ?_ ?_ 1000 (by omega)
  · intro k
    show f_X2_weigh_l29 I (k + 1) _ _ (nI (T 1)) = _
    rw [f_X2_weigh_l29, pa_orders hP, if_pos (Int32.le_refl _)]
  · intro k j hj
    show f_X2_weigh_l29 I (k + 1) (nI (mt_st T B n j).2) (nI (mt_L (n + 1) (mt_st T B n j).1)) (nI j) = f_X2_weigh_l29 I k (nI (mt_st T B n (j + 1)).2) (nI (mt_L (n + 1) (mt_st T B n (j + 1)).1)) (nI (j + 1))
    have hO := hA.2.2.2.2.2.2.2.2.2.2.2.2.1 j hj
    have hb := mt_st_b T B n j
    have hc := pt_cnt_le n (mt_p B (T (39 + j)) (T (46 + j)))
    have hw := kc_wrong (by omega) hB (a := T (39 + j)) (b := T (46 + j)) (by omega) (by omega)
    rw [f_X2_weigh_l29, mt_st]
    generalize mt_st T B n j = w at hb ⊢
    generalize hcc : pt_cnt n (mt_p B (T (39 + j)) (T (46 + j))) = c at hc hw ⊢
    have hL : mt_L (n + 1) w.1 ≤ n + 1 := by unfold mt_L; split <;> omega
    simp (disch := omega) only [pn_l0, pn_l1, pn_l2, pn_l3, pn_l4, pn_l5, pn_l6, pn_l7, pn_l8, pn_l9, pn_l10, pn_l11, pn_l12, pn_l13, pn_l15, pn_l20, pn_l21, pn_l22, pn_l23, pn_l24, pn_l30, pn_l31, pn_l32, pn_l39, pn_l40, pn_l41, pn_l45, pn_l46, pn_l48, pn_l53, pn_l57, pn_l58, pn_l59, pn_l60, pn_l61, pn_l62, pn_l63, pn_l64, pn_l65, pn_l66, pn_l74, pn_l82, pn_l90, pn_l97, pn_l98, pn_l99, pn_l106, pn_l107, pn_l120, pn_l122, pn_l135, pn_l255, pn_l287, pn_l300, pn_l315, pn_l360, pn_l400, pn_l900, pn_l940, pn_l1000, pn_l1000000, pn_mone, nI_add, pk_mul, nI_clamp, bm_ixk, pn_ltI, pn_leI, pn_eqI, pn_xeq, pn_xeq2, pn_xx, pn_xltI, pn_xleI, pn_xgtI, pn_xgeI, pn_xadd, pn_subx, pn_addx, Option.bind_some, ↓reduceIte, pa_orders hP, pa_first hP, pa_second hP, Nat.not_le.mpr hj, hw, pn_shlN, pn_or, Nat.zero_or]
    by_cases c1 : w.1 = 0 ∨ c + 1 < w.1
    · have g : ¬ mt_L (n + 1) w.1 ≤ c := by unfold mt_L; split <;> omega
      rw [if_neg g, if_pos c1]
      rfl
    · have g : mt_L (n + 1) w.1 ≤ c := by unfold mt_L; split <;> omega
      rw [if_pos g, if_neg c1]
      by_cases c2 : c + 1 = w.1
      · have g2 : c = mt_L (n + 1) w.1 := by unfold mt_L; split <;> omega
        rw [if_pos g2, if_pos c2]
      · have g2 : ¬ c = mt_L (n + 1) w.1 := by unfold mt_L; split <;> omega
        rw [if_neg g2, if_neg c2]
theorem pq_weigh {h : Nat} (hn : n = 2 * h) (hn2 : n ≤ 12) (h3 : I 164 3 = nI n) (hB : ∀ k, k < n → I 165 k &&& 255 = nI (B k)) (hb : ∀ k, k < n → B k < 256) (hR : pp_R I T) (hA : pt_VA T) : f_X12_meant_l81 I 1000 1000000 0 0 = some (nI (mt_L 1000000 (mt_st T B n (T 1)).1), nI (mt_st T B n (T 1)).2) := by
  have h7 := hA.2.1
  refine pl_row (σ := Int32 × Int32) (F := fun k j s => f_X12_meant_l81 I k s.1 s.2 (nI j)) (n := T 1) (fun j => (nI (mt_L 1000000 (mt_st T B n j).1), nI (mt_st T B n j).2)) ?_ ?_ 1000 (by omega)
  · intro k
    show f_X12_meant_l81 I (k + 1) _ _ (nI (T 1)) = _
    rw [f_X12_meant_l81, hR 1 (by omega), if_pos (Int32.le_refl _)]
  · intro k j hj
    show f_X12_meant_l81 I (k + 1) (nI (mt_L 1000000 (mt_st T B n j).1)) (nI (mt_st T B n j).2) (nI j) = f_X12_meant_l81 I k (nI (mt_L 1000000 (mt_st T B n (j + 1)).1)) (nI (mt_st T B n (j + 1)).2) (nI (j + 1))
    have hb' := mt_st_b T B n j
    have hc := pt_cnt_le n (mt_p B (T (39 + j)) (T (46 + j)))
    have hw := pq_wrong hn hn2 h3 hB hb hR hA hj
    rw [f_X12_meant_l81, mt_st]
    generalize mt_st T B n j = w at hb' ⊢
    generalize hcc : pt_cnt n (mt_p B (T (39 + j)) (T (46 + j))) = c at hc hw ⊢
    have hL : mt_L 1000000 w.1 ≤ 1000000 := by unfold mt_L; split <;> omega
    simp (disch := omega) only [pn_l0, pn_l1, pn_l2, pn_l3, pn_l4, pn_l5, pn_l6, pn_l7, pn_l8, pn_l9, pn_l10, pn_l11, pn_l12, pn_l13, pn_l15, pn_l20, pn_l21, pn_l22, pn_l23, pn_l24, pn_l30, pn_l31, pn_l32, pn_l39, pn_l40, pn_l41, pn_l45, pn_l46, pn_l48, pn_l53, pn_l57, pn_l58, pn_l59, pn_l60, pn_l61, pn_l62, pn_l63, pn_l64, pn_l65, pn_l66, pn_l74, pn_l82, pn_l90, pn_l97, pn_l98, pn_l99, pn_l106, pn_l107, pn_l120, pn_l122, pn_l135, pn_l255, pn_l287, pn_l300, pn_l315, pn_l360, pn_l400, pn_l900, pn_l940, pn_l1000, pn_l1000000, pn_mone, nI_add, pk_mul, nI_clamp, bm_ixk, pn_ltI, pn_leI, pn_eqI, pn_xeq, pn_xeq2, pn_xx, pn_xltI, pn_xleI, pn_xgtI, pn_xgeI, pn_xadd, pn_subx, pn_addx, Option.bind_some, ↓reduceIte, hR, Nat.not_le.mpr hj, hw, pn_shlN, pn_or]
    by_cases c1 : w.1 = 0 ∨ c + 1 < w.1
    · have g : c ≤ mt_L 1000000 w.1 := by unfold mt_L; split <;> omega
      have g2 : ¬ mt_L 1000000 w.1 ≤ c := by unfold mt_L; split <;> omega
      rw [if_pos g, if_neg g2, if_pos c1]
      rfl
    · rw [if_neg c1]
      by_cases c2 : c + 1 = w.1
      · have g : c ≤ mt_L 1000000 w.1 := by unfold mt_L; split <;> omega
        have g2 : mt_L 1000000 w.1 ≤ c := by unfold mt_L; split <;> omega
        rw [if_pos g, if_pos g2, if_pos c2, show c = mt_L 1000000 w.1 by omega]
      · have g : ¬ c ≤ mt_L 1000000 w.1 := by unfold mt_L; split <;> omega
        rw [if_neg g, if_neg c2]
theorem kc_max {a b : Nat} (ha : a < 2 ^ 31) (hb : b < 2 ^ 31) : bm_max (nI a) (nI b) = nI (max a b) := by
  unfold bm_max
  simp only [pn_ltI ha hb]
  by_cases h : a < b
  · rw [if_pos h, Nat.max_eq_right (by omega)]
  · rw [if_neg h, Nat.max_eq_left (by omega)]
theorem pq_greater {a b : Nat} (ha : a < 2 ^ 31) (hb : b < 2 ^ 31) : f_X12_greater (nI a) (nI b) = nI (max a b) := by
  unfold f_X12_greater
  simp only [pn_leI ha hb]
  by_cases h : a ≤ b
  · rw [if_pos h, Nat.max_eq_right h]
  · rw [if_neg h, Nat.max_eq_left (by omega)]
theorem kc_most {c base s : Nat} (hA : pt_VA T) (hs : s < 256) (hX : ∀ j, j < T 1 → I c j = nI (T (base + j)) ∧ T (base + j) ≤ 3) : f_X2_mostLeft I (nI s) c (nI (T 1)) = some (nI (mt_most T base s 4)) := by
  have h7 := hA.2.1
  have key := pl_from (σ := Int32) (F := fun k i v => f_X2_mostLeft_l5 I (nI s) c (nI (T 1)) k v i) (n := 4) (fun j v => 1 ≤ j ∧ v = nI (mt_most T base s j)) (Q := fun t => t = nI (mt_most T base s 4)) ?_ ?_ 1000 1 0 (by omega) (by omega) ⟨by omega, rfl⟩
  · obtain ⟨t, e, h⟩ := key
    rw [h] at e
    have e' : f_X2_mostLeft_l5 I (nI s) c (nI (T 1)) 1000 0 1 = some (nI (mt_most T base s 4)) := e
    unfold f_X2_mostLeft
    rw [e']; rfl
  · intro k v ⟨_, hv⟩
    refine ⟨v, ?_, hv⟩
    show f_X2_mostLeft_l5 I (nI s) c (nI (T 1)) (k + 1) v (nI 4) = _
    rw [f_X2_mostLeft_l5, if_pos (show (3 : Int32) < nI 4 by decide)]
  · intro k j v hj ⟨h1, hv⟩
    right
    subst hv
    have hml := mt_most_le T h7 base s j
    have hll : mt_left T base s j ≤ T 1 := pt_cnt_le _ _
    have hcnt : ∀ x, f_X2_mostLeft_l17 I (nI s) c (nI (T 1)) x (nI j) 1000 0 0 = some (nI (mt_left T base s j)) := by
      intro x
      refine pl_cntN (F := f_X2_mostLeft_l17 I (nI s) c (nI (T 1)) x (nI j)) (n := T 1) (by omega) ?_ ?_
      · intro q v
        rw [f_X2_mostLeft_l17, if_pos (Int32.le_refl _)]
      · intro q v i hi
        have hx := hX i hi
        rw [f_X2_mostLeft_l17]
        simp (disch := omega) only [pn_l0, pn_l1, pn_l2, pn_l3, pn_l4, pn_l5, pn_l6, pn_l7, pn_l8, pn_l9, pn_l10, pn_l11, pn_l12, pn_l13, pn_l15, pn_l20, pn_l21, pn_l22, pn_l23, pn_l24, pn_l30, pn_l31, pn_l32, pn_l39, pn_l40, pn_l41, pn_l45, pn_l46, pn_l48, pn_l53, pn_l57, pn_l58, pn_l59, pn_l60, pn_l61, pn_l62, pn_l63, pn_l64, pn_l65, pn_l66, pn_l74, pn_l82, pn_l90, pn_l97, pn_l98, pn_l99, pn_l106, pn_l107, pn_l120, pn_l122, pn_l135, pn_l255, pn_l287, pn_l300, pn_l315, pn_l360, pn_l400, pn_l900, pn_l940, pn_l1000, pn_l1000000, pn_mone, nI_add, pk_mul, nI_clamp, bm_ixk, pn_ltI, pn_leI, pn_eqI, pn_xeq, pn_xeq2, pn_xx, pn_xltI, pn_xleI, pn_xgtI, pn_xgeI, pn_xadd, pn_subx, pn_addx, Option.bind_some, ↓reduceIte, Nat.not_le.mpr hi, pn_bitX, pn_b1N, hx.1]
        cases hb : s.testBit i
        · simp
        · by_cases h2 : T (base + i) = j <;> simp [h2]
    show ∃ s' : Int32, f_X2_mostLeft_l5 I (nI s) c (nI (T 1)) (k + 1) (nI (mt_most T base s j)) (nI j) = f_X2_mostLeft_l5 I (nI s) c (nI (T 1)) k s' (nI (j + 1)) ∧ 1 ≤ j + 1 ∧ s' = nI (mt_most T base s (j + 1))
    rw [f_X2_mostLeft_l5, hcnt, if_neg (show ¬ (3 : Int32) < nI j from fun h => by have := (nI_ltI (a := 3) (by omega) (by omega)).mp h; omega)]
    simp only [Option.bind_some]
    rw [kc_max (by omega) (by omega), nI_1]
    exact ⟨_, rfl, by omega, by rw [mt_most, if_neg (show ¬ j = 0 by omega)]⟩
theorem pq_most {base s : Nat} (hR : pp_R I T) (hA : pt_VA T) (hs : s < 256) (hb : base = 39 ∨ base = 46) : f_X12_leftBy I (nI s) (nI base) = some (nI (mt_most T base s 4)) := by
  have h7 := hA.2.1
  have key := pl_from (σ := Int32) (F := fun k i v => f_X12_leftBy_l5 I (nI s) (nI base) k v i) (n := 4) (fun j v => 1 ≤ j ∧ v = nI (mt_most T base s j)) (Q := fun t => t = nI (mt_most T base s 4)) ?_ ?_ 1000 1 0 (by omega) (by omega) ⟨by omega, rfl⟩
  · obtain ⟨t, e, h⟩ := key
    rw [h] at e
    have e' : f_X12_leftBy_l5 I (nI s) (nI base) 1000 0 1 = some (nI (mt_most T base s 4)) := e
    unfold f_X12_leftBy
    rw [e']; rfl
  · intro k v ⟨_, hv⟩
    refine ⟨v, ?_, hv⟩
    show f_X12_leftBy_l5 I (nI s) (nI base) (k + 1) v (nI 4) = _
    rw [f_X12_leftBy_l5, if_pos (show (4 : Int32) ≤ nI 4 by decide)]
  · intro k j v hj ⟨h1, hv⟩
    right
    subst hv
    have hml := mt_most_le T h7 base s j
    have hll : mt_left T base s j ≤ T 1 := pt_cnt_le _ _
    have hcnt : ∀ x, f_X12_leftBy_l17 I (nI s) (nI base) x (nI j) 1000 0 0 = some (nI (mt_left T base s j)) := by
      intro x
      refine pl_cntN (F := f_X12_leftBy_l17 I (nI s) (nI base) x (nI j)) (n := T 1) (by omega) ?_ ?_
      · intro q v
        rw [f_X12_leftBy_l17, hR 1 (by omega), if_pos (Int32.le_refl _)]
      · intro q v i hi
        have hO := hA.2.2.2.2.2.2.2.2.2.2.2.2.1 i hi
        have hbb : T (base + i) ≤ 3 := by rcases hb with rfl | rfl <;> omega
        rw [f_X12_leftBy_l17]
        simp (disch := omega) only [pn_l0, pn_l1, pn_l2, pn_l3, pn_l4, pn_l5, pn_l6, pn_l7, pn_l8, pn_l9, pn_l10, pn_l11, pn_l12, pn_l13, pn_l15, pn_l20, pn_l21, pn_l22, pn_l23, pn_l24, pn_l30, pn_l31, pn_l32, pn_l39, pn_l40, pn_l41, pn_l45, pn_l46, pn_l48, pn_l53, pn_l57, pn_l58, pn_l59, pn_l60, pn_l61, pn_l62, pn_l63, pn_l64, pn_l65, pn_l66, pn_l74, pn_l82, pn_l90, pn_l97, pn_l98, pn_l99, pn_l106, pn_l107, pn_l120, pn_l122, pn_l135, pn_l255, pn_l287, pn_l300, pn_l315, pn_l360, pn_l400, pn_l900, pn_l940, pn_l1000, pn_l1000000, pn_mone, nI_add, pk_mul, nI_clamp, bm_ixk, pn_ltI, pn_leI, pn_eqI, pn_xeq, pn_xeq2, pn_xx, pn_xltI, pn_xleI, pn_xgtI, pn_xgeI, pn_xadd, pn_subx, pn_addx, Option.bind_some, ↓reduceIte, hR, Nat.not_le.mpr hi, pn_bitOf, Nat.add_zero]
        cases hb : s.testBit i
        · simp
        · by_cases h2 : T (base + i) = j <;> simp [h2]
    show ∃ s' : Int32, f_X12_leftBy_l5 I (nI s) (nI base) (k + 1) (nI (mt_most T base s j)) (nI j) = f_X12_leftBy_l5 I (nI s) (nI base) k s' (nI (j + 1)) ∧ 1 ≤ j + 1 ∧ s' = nI (mt_most T base s (j + 1))
    rw [f_X12_leftBy_l5, hcnt, if_neg (show ¬ (4 : Int32) ≤ nI j from nI_ge (b := 4) hj (by omega))]
    simp only [Option.bind_some]
    rw [pq_greater (by omega) (by omega), nI_1]
    exact ⟨_, rfl, by omega, by rw [mt_most, if_neg (show ¬ j = 0 by omega)]⟩
end MT
/-! the tape is taken -/
section TK
variable {I : bm_TI} {T : pt_T} {n : Nat} {B : Nat → Nat}
theorem pq_taken (h2 : I 164 2 = nI n) (lim : Int32) : ∃ V, f_X12_taken (bm_uI I 164 0 0) lim = some V ∧ V 164 3 = nI n ∧ V 164 2 = nI 0 ∧ V 164 4 = nI 0 ∧ V 164 5 = lim ∧ ∀ o k, (o ≠ 164 ∨ (k ≠ 0 ∧ k ≠ 2 ∧ k ≠ 3 ∧ k ≠ 4 ∧ k ≠ 5)) → V o k = I o k := by
  unfold f_X12_taken
  refine ⟨_, rfl, ?_, ?_, ?_, pn_uI_hit rfl, fun o k ho => ?_⟩
  · rw [pn_uI_ne2 (by omega), pn_uI_ne2 (by omega), pn_uI_ne2 (by omega), pn_uI_hit rfl, pn_uI_ne2 (by omega)]; exact h2
  · rw [pn_uI_ne2 (by omega), pn_uI_ne2 (by omega), pn_uI_hit rfl]; rfl
  · rw [pn_uI_ne2 (by omega), pn_uI_hit rfl]; rfl
  · rw [pn_uI_off (by omega), pn_uI_off (by omega), pn_uI_off (by omega), pn_uI_off (by omega), pn_uI_off (by omega)]
theorem kc_isPairs {m : Nat} (hm : m ≤ 8) (hn : n ≤ 940) (h1 : I 1 1 = nI n) : f_X9_isPairs I (nI m) = some (decide (2 ≤ n ∧ n ≤ 2 * m ∧ n % 2 = 0)) := by
  have hmod : n % 2 < 2 := Nat.mod_lt _ (by omega)
  unfold f_X9_isPairs
  simp (disch := omega) only [pn_l0, pn_l1, pn_l2, pn_l3, pn_l4, pn_l5, pn_l6, pn_l7, pn_l8, pn_l9, pn_l10, pn_l11, pn_l12, pn_l13, pn_l15, pn_l20, pn_l21, pn_l22, pn_l23, pn_l24, pn_l30, pn_l31, pn_l32, pn_l39, pn_l40, pn_l41, pn_l45, pn_l46, pn_l48, pn_l53, pn_l57, pn_l58, pn_l59, pn_l60, pn_l61, pn_l62, pn_l63, pn_l64, pn_l65, pn_l66, pn_l74, pn_l82, pn_l90, pn_l97, pn_l98, pn_l99, pn_l106, pn_l107, pn_l120, pn_l122, pn_l135, pn_l255, pn_l287, pn_l300, pn_l315, pn_l360, pn_l400, pn_l900, pn_l940, pn_l1000, pn_l1000000, pn_mone, nI_add, pk_mul, nI_clamp, bm_ixk, pn_ltI, pn_leI, pn_eqI, pn_xeq, pn_xeq2, pn_xx, pn_xltI, pn_xleI, pn_xgtI, pn_xgeI, pn_xadd, pn_subx, pn_addx, Option.bind_some, ↓reduceIte, h1, pn_rem]
  by_cases c1 : n < 2
  · rw [if_pos c1, decide_eq_false (by omega)]
  · rw [if_neg c1]
    by_cases c2 : 2 * m < n
    · rw [if_pos c2, decide_eq_false (by omega)]
    · rw [if_neg c2]
      by_cases c3 : n % 2 = 0
      · rw [if_pos c3, decide_eq_true (by omega)]
      · rw [if_neg c3, decide_eq_false (by omega)]
theorem kc_asTold (hn : n ≤ 940) (hB : tc_T I n B) : f_X2_isAsTold I = some (decide (2 ≤ n ∧ n ≤ 12 ∧ n % 2 = 0) && decide (pt_fnd n (fun i => decide (3 < B i)) = 0)) := by
  have h1 : f_X9_isPairs I 6 = _ := kc_isPairs (m := 6) (by omega) hn hB.1
  have h2 : f_X2_isAsTold_l13 I 1000 0 = some (if pt_fnd n (fun i => decide (3 < B i)) = 0 then .inr () else .inl ()) := by
    refine pl_any (F := f_X2_isAsTold_l13 I) (n := n) (by omega) ?_ ?_
    · intro k
      rw [f_X2_isAsTold_l13, hB.1, if_pos (Int32.le_refl _)]
    · intro k j hj
      have hb := hB.2 j hj
      rw [f_X2_isAsTold_l13]
      simp (disch := omega) only [pn_l0, pn_l1, pn_l2, pn_l3, pn_l4, pn_l5, pn_l6, pn_l7, pn_l8, pn_l9, pn_l10, pn_l11, pn_l12, pn_l13, pn_l15, pn_l20, pn_l21, pn_l22, pn_l23, pn_l24, pn_l30, pn_l31, pn_l32, pn_l39, pn_l40, pn_l41, pn_l45, pn_l46, pn_l48, pn_l53, pn_l57, pn_l58, pn_l59, pn_l60, pn_l61, pn_l62, pn_l63, pn_l64, pn_l65, pn_l66, pn_l74, pn_l82, pn_l90, pn_l97, pn_l98, pn_l99, pn_l106, pn_l107, pn_l120, pn_l122, pn_l135, pn_l255, pn_l287, pn_l300, pn_l315, pn_l360, pn_l400, pn_l900, pn_l940, pn_l1000, pn_l1000000, pn_mone, nI_add, pk_mul, nI_clamp, bm_ixk, pn_ltI, pn_leI, pn_eqI, pn_xeq, pn_xeq2, pn_xx, pn_xltI, pn_xleI, pn_xgtI, pn_xgeI, pn_xadd, pn_subx, pn_addx, Option.bind_some, ↓reduceIte, hB.1, hb.2, Nat.not_le.mpr hj]
      by_cases c : B j ≤ 3
      · have c2 : ¬ 3 < B j := by omega
        simp [c, c2]
      · have c2 : 3 < B j := by omega
        simp [c, c2]
  unfold f_X2_isAsTold
  rw [h1, h2]
  simp only [Option.bind_some]
  by_cases c : 2 ≤ n ∧ n ≤ 12 ∧ n % 2 = 0
  · rw [decide_eq_true c, if_pos rfl, Bool.true_and]
    by_cases c2 : pt_fnd n (fun i => decide (3 < B i)) = 0
    · rw [if_pos c2, decide_eq_true c2]
    · rw [if_neg c2, decide_eq_false c2]
  · rw [decide_eq_false c]; rfl
end TK
section EJ
variable {I : bm_TI} {J : bm_TJ} {W : bm_TR}
/-- the tape is empty, what was told last has changed -/
theorem iv_emptied {I2 : bm_TI} (hI : bm_Inv I J W) (h1 : I2 1 1 = nI 0) (h2 : I2 164 2 = nI 0) (f : ∀ o k, (4 ≤ o ∧ o ≤ 14) ∨ (26 ≤ o ∧ o ≤ 31) ∨ (40 ≤ o ∧ o ≤ 146) ∨ (151 ≤ o ∧ o ≤ 154) ∨ o = 166 ∨ o = 172 ∨ o = 178 ∨ o = 180 ∨ (o = 164 ∧ k = 24) → I2 o k = I o k) (hM : iv_M I2) : bm_Inv I2 J W := iv_set hI f (fun _ _ _ => rfl) (fun _ _ _ => rfl) ⟨0, fun _ => 0, by omega, h1, h2, fun k hk => by omega⟩ hM
theorem e_meant (hI : bm_Inv I J W) : ∃ v I1 I2, f_X11_meant I = some (v, I1) ∧ f_X12_meant I1 = some (v, I2) ∧ bm_Inv I2 J W := by
  obtain ⟨T, S, hF, hU, hG0, hG1, hT, hM, hK⟩ := id hI
  obtain ⟨hR, _, hP, hQ, _, _, hA, hS, _⟩ := id hF
  obtain ⟨n, B, t1, t2, t3, t4⟩ := hT
  have h7 := hA.2.1
  have hB : tc_T I n B := ⟨t2, fun k hk => ⟨(t4 k hk).1, (t4 k hk).2.1⟩⟩
  have hmod : n % 2 < 2 := Nat.mod_lt _ (by omega)
  -- not as told
  have bad : ∀ (I1 : bm_TI), I1 = bm_uI I 1 1 0 → (T 1 = 0 ∨ ¬ (2 ≤ n ∧ n ≤ 12 ∧ n % 2 = 0) ∨ pt_fnd n (fun i => decide (3 < B i)) ≠ 0) → ∃ I2, f_X12_meant I1 = some (-1, I2) ∧ bm_Inv I2 J W := by
    intro I1 hI1 hbad
    have f1 : ∀ o k, (o ≠ 1 ∨ k ≠ 1) → I1 o k = I o k := fun o k ho => by rw [hI1, pn_uI_off ho]
    obtain ⟨V, e1, v3, v2, v4, v5, fv⟩ := pq_taken (I := I1) (n := n) (by rw [f1 164 2 (by omega)]; exact t3) 940
    have ff : ∀ o k, (o ≠ 1 ∨ k ≠ 1) → (o ≠ 164 ∨ (k ≠ 0 ∧ k ≠ 2 ∧ k ≠ 3 ∧ k ≠ 4 ∧ k ≠ 5)) → V o k = I o k := fun o k a b => by rw [fv o k b, f1 o k a]
    refine ⟨V, ?_, iv_emptied hI (by rw [fv 1 1 (by omega), hI1, pn_uI_hit rfl]; rfl) v2 (fun o k ho => ff o k (by omega) (by omega)) (iM_congr (fun o k ho => ff o k (by omega) (by omega)) hM)⟩
    have r1 : V 166 1 = nI (T 1) := by rw [ff 166 1 (by omega) (by omega)]; exact hR 1 (by omega)
    have hl : f_X12_meant_l48 V 1000 0 = some (if pt_fnd n (fun i => decide (3 < B i)) = 0 then .inr () else .inl ()) := by
      refine pl_any (F := f_X12_meant_l48 V) (n := n) (by omega) ?_ ?_
      · intro k
        rw [f_X12_meant_l48, v3, if_pos (Int32.le_refl _)]
      · intro k j hj
        have hb := t4 j hj
        have ho := pq_octet (I := V) (n := n) (B := B) t1 (fun k hk => by rw [ff 165 k (by omega) (by omega)]; exact (t4 k hk).2.2) hj
        rw [f_X12_meant_l48, ho]
        simp (disch := omega) only [pn_l0, pn_l1, pn_l2, pn_l3, pn_l4, pn_l5, pn_l6, pn_l7, pn_l8, pn_l9, pn_l10, pn_l11, pn_l12, pn_l13, pn_l15, pn_l20, pn_l21, pn_l22, pn_l23, pn_l24, pn_l30, pn_l31, pn_l32, pn_l39, pn_l40, pn_l41, pn_l45, pn_l46, pn_l48, pn_l53, pn_l57, pn_l58, pn_l59, pn_l60, pn_l61, pn_l62, pn_l63, pn_l64, pn_l65, pn_l66, pn_l74, pn_l82, pn_l90, pn_l97, pn_l98, pn_l99, pn_l106, pn_l107, pn_l120, pn_l122, pn_l135, pn_l255, pn_l287, pn_l300, pn_l315, pn_l360, pn_l400, pn_l900, pn_l940, pn_l1000, pn_l1000000, pn_mone, nI_add, pk_mul, nI_clamp, bm_ixk, pn_ltI, pn_leI, pn_eqI, pn_xeq, pn_xeq2, pn_xx, pn_xltI, pn_xleI, pn_xgtI, pn_xgeI, pn_xadd, pn_subx, pn_addx, Option.bind_some, ↓reduceIte, v3, Nat.not_le.mpr hj]
        by_cases c : B j ≤ 3
        · have c2 : ¬ 3 < B j := by omega
          simp [c, c2]
        · have c2 : 3 < B j := by omega
          simp [c, c2]
    unfold f_X12_meant
    rw [e1]
    simp only [Option.bind_some]
    rw [v3, show f_X12_isIn (nI n) 2 12 = _ from pq_inN (lo := 2) (hi := 12) (by omega) (by omega) (by omega), r1, show (2 : Int32) = nI 2 from rfl, pn_rem (by omega) (by omega) (by omega), hl]
    by_cases c1 : 2 ≤ n ∧ n ≤ 12
    · rw [decide_eq_true c1.1, decide_eq_true c1.2, if_pos (show (true && true) = true from rfl)]
      by_cases c2 : n % 2 = 1
      · rw [c2]; rfl
      · rw [if_neg (show ¬ nI (n % 2) = 1 from fun e => c2 ((nI_eq (b := 1) (by omega) (by omega)).mp e))]
        by_cases c3 : T 1 = 0
        · rw [c3]; rfl
        · rw [if_neg (nI_ne0 (by omega) (by omega))]
          have c4 : pt_fnd n (fun i => decide (3 < B i)) ≠ 0 := by
            rcases hbad with h | h | h
            · exact absurd h c3
            · exact absurd ⟨c1.1, c1.2, by omega⟩ h
            · exact h
          rw [if_neg c4]; rfl
    · have : (decide (2 ≤ n) && decide (n ≤ 12)) = false := by
        rw [Bool.and_eq_false_iff]
        by_cases h2 : 2 ≤ n
        · exact Or.inr (decide_eq_false (by omega))
        · exact Or.inl (decide_eq_false h2)
      rw [this]; rfl
  unfold f_X11_meant f_X2_weigh
  rw [pa_orders hP]
  by_cases z : T 1 = 0
  · rw [z, if_pos (show nI 0 = 0 from rfl)]
    obtain ⟨I2, e2, h2⟩ := bad _ rfl (Or.inl z)
    exact ⟨_, _, I2, rfl, e2, h2⟩
  · rw [if_neg (nI_ne0 (by omega) (by omega)), kc_asTold t1 hB]
    simp only [Option.bind_some]
    by_cases c1 : 2 ≤ n ∧ n ≤ 12 ∧ n % 2 = 0
    · by_cases c2 : pt_fnd n (fun i => decide (3 < B i)) = 0
      · rw [decide_eq_true c1, decide_eq_true c2, if_pos (show (true && true) = true from rfl), t2, nI_1, kc_weigh c1.2.1 hB hP hA]
        simp only [Option.bind_some]
        have hb := mt_st_b T B n (T 1)
        have hpos := hb.2.2 (by omega)
        have hset : (mt_st T B n (T 1)).2 < 256 := Nat.lt_of_lt_of_le hb.2.1 (Nat.pow_le_pow_right (n := 2) (by omega) (show T 1 ≤ 8 by omega))
        have eL : mt_L (n + 1) (mt_st T B n (T 1)).1 = mt_L 1000000 (mt_st T B n (T 1)).1 := by unfold mt_L; rw [if_neg (by omega), if_neg (by omega)]
        rw [eL]
        generalize hlst : mt_L 1000000 (mt_st T B n (T 1)).1 = least
        generalize hsst : (mt_st T B n (T 1)).2 = set at hset ⊢
        have x413 : bm_uI I 161 0 (nI least) 4 13 = nI (T 1) := by rw [pn_uI_ne (by omega)]; exact pa_orders hP
        rw [x413, kc_most (base := 46) hA hset (fun j hj => ⟨by rw [pn_uI_ne (by omega)]; exact pa_second hP hj, (hA.2.2.2.2.2.2.2.2.2.2.2.2.1 j hj).2.2.2⟩), kc_most (base := 39) hA hset (fun j hj => ⟨by rw [pn_uI_ne (by omega)]; exact pa_first hP hj, (hA.2.2.2.2.2.2.2.2.2.2.2.2.1 j hj).2.1⟩)]
        simp only [Option.bind_some]
        have m1 := mt_most_le T h7 46 set 4
        have m2 := mt_most_le T h7 39 set 4
        -- both roads end alike
        have fin : ∀ (lk : Int32) (I1 : bm_TI), I1 = bm_uI (bm_uI (bm_uI I 161 0 (nI least)) 161 1 lk) 1 1 0 → lk = (if nI (mt_most T 39 set 4) ≤ nI (mt_most T 46 set 4) then 0 else 1) → ∃ I2, f_X12_meant I1 = some (nI set, I2) ∧ bm_Inv I2 J W := by
          intro lk I1 hI1 hlk
          have f1 : ∀ o k, (o ≠ 1 ∨ k ≠ 1) → o ≠ 161 → I1 o k = I o k := fun o k ho ho2 => by rw [hI1, pn_uI_off ho, pn_uI_ne ho2, pn_uI_ne ho2]
          obtain ⟨V, e1, v3, v2, v4, v5, fv⟩ := pq_taken (I := I1) (n := n) (by rw [f1 164 2 (by omega) (by omega)]; exact t3) 940
          have ff : ∀ o k, (o ≠ 1 ∨ k ≠ 1) → o ≠ 161 → (o ≠ 164 ∨ (k ≠ 0 ∧ k ≠ 2 ∧ k ≠ 3 ∧ k ≠ 4 ∧ k ≠ 5)) → V o k = I o k := fun o k a a2 b => by rw [fv o k b, f1 o k a a2]
          have RV : pp_R V T := fun k hk => by rw [ff 166 k (by omega) (by omega) (by omega)]; exact hR k hk
          have BV : ∀ k, k < n → V 165 k &&& 255 = nI (B k) := fun k hk => by rw [ff 165 k (by omega) (by omega) (by omega)]; exact (t4 k hk).2.2
          have hl : f_X12_meant_l48 V 1000 0 = some (.inr ()) := by
            have : f_X12_meant_l48 V 1000 0 = some (if pt_fnd n (fun i => decide (3 < B i)) = 0 then .inr () else .inl ()) := by
              refine pl_any (F := f_X12_meant_l48 V) (n := n) (by omega) ?_ ?_
              · intro k
                rw [f_X12_meant_l48, v3, if_pos (Int32.le_refl _)]
              · intro k j hj
                have hb := t4 j hj
                have ho := pq_octet (I := V) (n := n) (B := B) t1 BV hj
                rw [f_X12_meant_l48, ho]
                simp (disch := omega) only [pn_l0, pn_l1, pn_l2, pn_l3, pn_l4, pn_l5, pn_l6, pn_l7, pn_l8, pn_l9, pn_l10, pn_l11, pn_l12, pn_l13, pn_l15, pn_l20, pn_l21, pn_l22, pn_l23, pn_l24, pn_l30, pn_l31, pn_l32, pn_l39, pn_l40, pn_l41, pn_l45, pn_l46, pn_l48, pn_l53, pn_l57, pn_l58, pn_l59, pn_l60, pn_l61, pn_l62, pn_l63, pn_l64, pn_l65, pn_l66, pn_l74, pn_l82, pn_l90, pn_l97, pn_l98, pn_l99, pn_l106, pn_l107, pn_l120, pn_l122, pn_l135, pn_l255, pn_l287, pn_l300, pn_l315, pn_l360, pn_l400, pn_l900, pn_l940, pn_l1000, pn_l1000000, pn_mone, nI_add, pk_mul, nI_clamp, bm_ixk, pn_ltI, pn_leI, pn_eqI, pn_xeq, pn_xeq2, pn_xx, pn_xltI, pn_xleI, pn_xgtI, pn_xgeI, pn_xadd, pn_subx, pn_addx, Option.bind_some, ↓reduceIte, v3, Nat.not_le.mpr hj]
                by_cases c : B j ≤ 3
                · have c2 : ¬ 3 < B j := by omega
                  simp [c, c2]
                · have c2 : 3 < B j := by omega
                  simp [c, c2]
            rw [this, if_pos c2]
          have hw' := pq_weigh (I := V) (T := T) (B := B) (n := n) (h := n / 2) (by omega) (by omega) v3 BV (fun k hk => (t4 k hk).1) RV hA
          rw [hlst, hsst] at hw'
          have R27 : pp_R (bm_uI V 164 27 (nI least)) T := pr_164 RV
          refine ⟨bm_uI (bm_uI V 164 27 (nI least)) 164 28 lk, ?_, ?_⟩
          · unfold f_X12_meant
            rw [e1]
            simp only [Option.bind_some]
            rw [v3, show f_X12_isIn (nI n) 2 12 = true from pq_rngT (lo := 2) (hi := 12) (by omega) c1.1 c1.2.1, if_pos rfl, show (2 : Int32) = nI 2 from rfl, pn_rem (by omega) (by omega) (by omega), c1.2.2, if_neg (show ¬ nI 0 = 1 by decide), RV 1 (by omega), if_neg (nI_ne0 (by omega) (by omega)), hl]
            simp only [Option.bind_some]
            rw [hw']
            simp only [Option.bind_some]
            rw [show f_X12_leftBy (bm_uI V 164 27 (nI least)) (nI set) 46 = _ from pq_most (base := 46) R27 hA hset (by omega), show f_X12_leftBy (bm_uI V 164 27 (nI least)) (nI set) 39 = _ from pq_most (base := 39) R27 hA hset (by omega)]
            simp only [Option.bind_some]
            rw [hlk]
            split <;> rfl
          · obtain ⟨q1, q2, q3, q4, q5, q6, q7, r, q8, q9, q10, q11⟩ := hM
            have fz : ∀ o k, (o ≠ 1 ∨ k ≠ 1) → o ≠ 161 → (o ≠ 164 ∨ (k ≠ 0 ∧ k ≠ 2 ∧ k ≠ 3 ∧ k ≠ 4 ∧ k ≠ 5 ∧ k ≠ 27 ∧ k ≠ 28)) → bm_uI (bm_uI V 164 27 (nI least)) 164 28 lk o k = I o k := fun o k a a2 b => by rw [pn_uI_off (by omega), pn_uI_off (by omega), ff o k a a2 (by omega)]
            have z0 : bm_uI (bm_uI V 164 27 (nI least)) 164 28 lk 161 0 = nI least := by rw [pn_uI_ne (by omega), pn_uI_ne (by omega), fv 161 0 (by omega), hI1, pn_uI_ne (by omega), pn_uI_ne2 (by omega), pn_uI_hit rfl]
            have z1 : bm_uI (bm_uI V 164 27 (nI least)) 164 28 lk 161 1 = lk := by rw [pn_uI_ne (by omega), pn_uI_ne (by omega), fv 161 1 (by omega), hI1, pn_uI_ne (by omega), pn_uI_hit rfl]
            refine iv_emptied hI (by rw [pn_uI_ne (by omega), pn_uI_ne (by omega), fv 1 1 (by omega), hI1, pn_uI_hit rfl]; rfl) (by rw [pn_uI_ne2 (by omega), pn_uI_ne2 (by omega)]; exact v2) (fun o k ho => fz o k (by omega) (by omega) (by omega)) ⟨?_, ?_, ?_, ?_, ?_, ?_, ?_, r, q8, ?_, ?_, fun k hk => ?_⟩
            · rw [fz 0 13 (by omega) (by omega) (by omega), fz 164 15 (by omega) (by omega) (by omega)]; exact q1
            · rw [fz 0 14 (by omega) (by omega) (by omega), fz 164 25 (by omega) (by omega) (by omega)]; exact q2
            · rw [fz 0 15 (by omega) (by omega) (by omega), fz 164 26 (by omega) (by omega) (by omega)]; exact q3
            · rw [z0, pn_uI_ne2 (by omega), pn_uI_hit rfl]
            · rw [z1, pn_uI_hit rfl]
            · rw [fz 164 30 (by omega) (by omega) (by omega), fz 0 16 (by omega) (by omega) (by omega), fz 164 29 (by omega) (by omega) (by omega)]; exact q6
            · rw [fz 164 36 (by omega) (by omega) (by omega)]
              rcases q7 with ⟨a, b⟩ | ⟨a, b⟩
              · exact Or.inl ⟨a, fun i hi => by rw [fz 147 _ (by omega) (by omega) (by omega)]; exact b i hi⟩
              · exact Or.inr ⟨a, fun i hi => by rw [fz 147 _ (by omega) (by omega) (by omega), fz 175 _ (by omega) (by omega) (by omega)]; exact b i hi⟩
            · rw [fz 162 1 (by omega) (by omega) (by omega)]; exact q9
            · rw [fz 164 32 (by omega) (by omega) (by omega)]; exact q10
            · rw [fz 163 k (by omega) (by omega) (by omega), fz 174 k (by omega) (by omega) (by omega)]; exact q11 k hk
        by_cases hle : nI (mt_most T 39 set 4) ≤ nI (mt_most T 46 set 4)
        · rw [if_pos hle]
          obtain ⟨I2, e2, h2⟩ := fin 0 _ rfl (by rw [if_pos hle])
          exact ⟨_, _, I2, rfl, e2, h2⟩
        · rw [if_neg hle]
          obtain ⟨I2, e2, h2⟩ := fin 1 _ rfl (by rw [if_neg hle])
          exact ⟨_, _, I2, rfl, e2, h2⟩
      · rw [decide_eq_true c1, decide_eq_false c2]
        obtain ⟨I2, e2, h2⟩ := bad _ rfl (Or.inr (Or.inr c2))
        exact ⟨_, _, I2, rfl, e2, h2⟩
    · rw [decide_eq_false c1]
      obtain ⟨I2, e2, h2⟩ := bad _ rfl (Or.inr (Or.inl c1))
      exact ⟨_, _, I2, rfl, e2, h2⟩
end EJ
