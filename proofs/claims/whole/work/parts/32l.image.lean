/-! images -/
theorem pn_yJ_ne {J : bm_TJ} {a b sp dp z o j : Nat} (h : o ≠ b) : bm_yJ J a b sp dp z o j = J o j := by unfold bm_yJ; rw [if_neg h]
theorem pn_yJ_at {J : bm_TJ} {a b z j : Nat} (h : j < z) : bm_yJ J a b 0 0 z b j = J a j := by
  unfold bm_yJ
  rw [if_pos rfl]
  unfold va_cpy
  rw [if_pos (by omega)]
  congr 1
  omega
theorem pn_uJ_off {J : bm_TJ} {o k : Nat} {v : Int64} {a b : Nat} (h : a ≠ o ∨ b ≠ k) : bm_uJ J o k v a b = J a b := by
  unfold bm_uJ
  by_cases e : a = o
  · rw [if_pos e, if_neg (by omega)]
  · rw [if_neg e]
theorem pn_uJ_hit {J : bm_TJ} {o k : Nat} {v : Int64} {b : Nat} (h : b = k) : bm_uJ J o k v o b = v := by unfold bm_uJ; rw [if_pos rfl, if_pos h]
theorem pn_uW_off {W : bm_TR} {o k : Nat} {v : Option Nat} {a b : Nat} (h : a ≠ o ∨ b ≠ k) : bm_uW W o k v a b = W a b := by
  unfold bm_uW
  by_cases e : a = o
  · rw [if_pos e, if_neg (by omega)]
  · rw [if_neg e]
theorem pn_uW_hit {W : bm_TR} {o k : Nat} {v : Option Nat} {b : Nat} (h : b = k) : bm_uW W o k v o b = v := by unfold bm_uW; rw [if_pos rfl, if_pos h]
set_option maxHeartbeats 4000000 in
theorem kc_copyA {I : bm_TI} {J : bm_TJ} {T : pt_T} {a b : Nat} (hd : a + 10 < b ∨ b + 10 < a) (hA : pt_VA T) (hP : pp_A I b T) : ∃ I' J', f_X0_copyFrom I J a b = some (I', J') ∧ pp_A I' a T ∧ (∀ j, j < 8 → J' (a + 1) j = J (b + 1) j) ∧ (∀ j, j < 7 → J' (a + 6) j = J (b + 6) j) ∧ (∀ o k, (o < a ∨ a + 10 < o) → I' o k = I o k) ∧ (∀ o k, (o < a ∨ a + 10 < o) → J' o k = J o k) := by
  have h8 := hA.1
  have h7 := hA.2.1
  have h4 := hA.2.2.1
  obtain ⟨a1, a2, a3, a4, a5, a6, a7, a8, a9, a10⟩ := hP
  unfold f_X0_copyFrom
  refine ⟨_, _, rfl, ⟨?_, ?_, ?_, ?_, ?_, ?_, ?_, fun j hj => ⟨?_, ?_⟩, fun j hj => ⟨?_, ?_⟩, fun j hj => ⟨?_, ?_⟩⟩, fun j hj => ?_, fun j hj => ?_, fun o k ho => ?_, fun o k ho => ?_⟩
  · simp (disch := omega) only [pn_uI_hit, pn_uI_ne, pn_uI_ne2, pn_yI_ne, a1]
  · simp (disch := omega) only [pn_uI_hit, pn_uI_ne, pn_uI_ne2, pn_yI_ne, a2]
  · simp (disch := omega) only [pn_uI_hit, pn_uI_ne, pn_uI_ne2, pn_yI_ne, a3]
  · simp (disch := omega) only [pn_uI_hit, pn_uI_ne, pn_uI_ne2, pn_yI_ne, a4]
  · simp (disch := omega) only [pn_uI_hit, pn_uI_ne, pn_uI_ne2, pn_yI_ne, a5]
  · simp (disch := omega) only [pn_uI_hit, pn_uI_ne, pn_uI_ne2, pn_yI_ne, a6]
  · simp (disch := omega) only [pn_uI_hit, pn_uI_ne, pn_uI_ne2, pn_yI_ne, a7]
  · simp (disch := omega) only [pn_uI_hit, pn_uI_ne, pn_uI_ne2, pn_yI_ne, pn_yI_at, (a8 j hj).1]
  · simp (disch := omega) only [pn_uI_hit, pn_uI_ne, pn_uI_ne2, pn_yI_ne, pn_yI_at, (a8 j hj).2]
  · simp (disch := omega) only [pn_uI_hit, pn_uI_ne, pn_uI_ne2, pn_yI_ne, pn_yI_at, (a9 j hj).1]
  · simp (disch := omega) only [pn_uI_hit, pn_uI_ne, pn_uI_ne2, pn_yI_ne, pn_yI_at, (a9 j hj).2]
  · simp (disch := omega) only [pn_uI_hit, pn_uI_ne, pn_uI_ne2, pn_yI_ne, pn_yI_at, (a10 j hj).1]
  · simp (disch := omega) only [pn_uI_hit, pn_uI_ne, pn_uI_ne2, pn_yI_ne, pn_yI_at, (a10 j hj).2]
  · simp (disch := omega) only [pn_yJ_ne, pn_yJ_at]
  · simp (disch := omega) only [pn_yJ_ne, pn_yJ_at]
  · simp (disch := omega) only [pn_uI_hit, pn_uI_ne, pn_uI_ne2, pn_yI_ne]
  · simp (disch := omega) only [pn_yJ_ne]
theorem qt_w_lt {c : Nat} (h : c < 12 ∨ c = 20 ∨ c = 21 ∨ c = 22) : qt_w c < 34 := by unfold qt_w; split <;> omega
theorem bm_iwq_w {c : Nat} (h : c < 12 ∨ c = 20 ∨ c = 21 ∨ c = 22) : bm_iwq (some (1000 + qt_w c)) = true := by
  have := qt_w_lt h
  show (decide (1000 ≤ 1000 + qt_w c) && decide (1000 + qt_w c < 1034)) = true
  rw [decide_eq_true (by omega), decide_eq_true (by omega)]; rfl
theorem kc_copyQ {I : bm_TI} {W : bm_TR} {T S : pt_T} {a b : Nat} (hd : a + 3 < b ∨ b + 3 < a) (hV : pt_VQ T S) (hQ : pp_Q I W b S) : ∃ I' W', f_X7_copyFrom I W a b = some (I', W') ∧ pp_Q I' W' a S ∧ I' a 5 = I b 5 ∧ (∀ o k, (o < a ∨ a + 3 < o) → I' o k = I o k) ∧ (∀ o k, o ≠ a + 1 → W' o k = W o k) := by
  obtain ⟨h1, ⟨n, h2, h3⟩, h4⟩ := id hQ
  have hs := hV.1
  have key : ∃ t : bm_TI × bm_TR, f_X7_copyFrom_l2 a b 1000 0 I W = some t ∧ ((∀ i, i < S 106 → t.2 (a + 1) i = W (b + 1) i ∧ t.1 (a + 2) i = I (b + 2) i ∧ t.1 (a + 3) i = I (b + 3) i) ∧ (∀ o k, o ≠ a + 2 → o ≠ a + 3 → t.1 o k = I o k) ∧ (∀ o k, o ≠ a + 1 → t.2 o k = W o k)) := by
    refine pl_rel (σ := bm_TI × bm_TR) (F := fun k i s => f_X7_copyFrom_l2 a b k i s.1 s.2) (n := S 106) (fun j t => (∀ i, i < j → t.2 (a + 1) i = W (b + 1) i ∧ t.1 (a + 2) i = I (b + 2) i ∧ t.1 (a + 3) i = I (b + 3) i) ∧ (∀ o k, o ≠ a + 2 → o ≠ a + 3 → t.1 o k = I o k) ∧ (∀ o k, o ≠ a + 1 → t.2 o k = W o k)) ?_ ?_ 1000 (I, W) (by omega) ⟨fun i hi => by omega, fun _ _ _ _ => rfl, fun _ _ _ => rfl⟩
    · intro k t ⟨b1, b2, b3⟩
      refine ⟨t, ?_, b1, b2, b3⟩
      show f_X7_copyFrom_l2 a b (k + 1) (nI (S 106)) t.1 t.2 = _
      rw [f_X7_copyFrom_l2, b2 b 4 (by omega) (by omega), h1, if_pos (Int32.le_refl _)]
    · intro k j t hj ⟨b1, b2, b3⟩
      show ∃ t' : bm_TI × bm_TR, f_X7_copyFrom_l2 a b (k + 1) (nI j) t.1 t.2 = f_X7_copyFrom_l2 a b k (nI (j + 1)) t'.1 t'.2 ∧ _
      have hw := (hV.2.2 j hj).1
      have hwq : bm_iwq (t.2 (b + 1) j) = true := by
        rw [b3 (b + 1) j (by omega), (h4 j hj).1]
        exact bm_iwq_w (by omega)
      rw [f_X7_copyFrom_l2, b2 b 4 (by omega) (by omega), h1, if_neg (nI_ge hj (by omega)), if_pos (bm_ixk (by omega) (by omega)), nI_clamp (by omega), if_pos hwq, nI_1]
      refine ⟨(bm_uI (bm_uI t.1 (a + 2) j (t.1 (b + 2) j)) (a + 3) j (bm_uI t.1 (a + 2) j (t.1 (b + 2) j) (b + 3) j), bm_uW t.2 (a + 1) j (t.2 (b + 1) j)), rfl, fun i hi => ?_, fun o k c1 c2 => ?_, fun o k c1 => ?_⟩
      · show bm_uW t.2 (a + 1) j (t.2 (b + 1) j) (a + 1) i = _ ∧ bm_uI (bm_uI t.1 (a + 2) j (t.1 (b + 2) j)) (a + 3) j (bm_uI t.1 (a + 2) j (t.1 (b + 2) j) (b + 3) j) (a + 2) i = _ ∧ bm_uI (bm_uI t.1 (a + 2) j (t.1 (b + 2) j)) (a + 3) j (bm_uI t.1 (a + 2) j (t.1 (b + 2) j) (b + 3) j) (a + 3) i = _
        by_cases e : i = j
        · subst e
          rw [pn_uW_hit rfl, pn_uI_ne (by omega), pn_uI_hit rfl, pn_uI_hit rfl, pn_uI_ne (by omega), b3 (b + 1) i (by omega), b2 (b + 2) i (by omega) (by omega), b2 (b + 3) i (by omega) (by omega)]
          exact ⟨rfl, rfl, rfl⟩
        · rw [pn_uW_off (by omega), pn_uI_ne (by omega), pn_uI_ne2 e, pn_uI_ne2 e, pn_uI_ne (by omega)]
          exact b1 i (by omega)
      · show bm_uI (bm_uI t.1 (a + 2) j (t.1 (b + 2) j)) (a + 3) j (bm_uI t.1 (a + 2) j (t.1 (b + 2) j) (b + 3) j) o k = _
        rw [pn_uI_ne c2, pn_uI_ne c1]; exact b2 o k c1 c2
      · show bm_uW t.2 (a + 1) j (t.2 (b + 1) j) o k = _
        rw [pn_uW_off (by omega)]; exact b3 o k c1
  obtain ⟨t, e, b1, b2, b3⟩ := key
  have x5 : bm_uI (bm_uI t.1 a 4 (t.1 b 4)) a 5 (bm_uI t.1 a 4 (t.1 b 4) b 5) a 5 = I b 5 := by rw [pn_uI_hit rfl, pn_uI_ne (by omega), b2 b 5 (by omega) (by omega)]
  refine ⟨bm_uI (bm_uI t.1 a 4 (t.1 b 4)) a 5 (bm_uI t.1 a 4 (t.1 b 4) b 5), t.2, by unfold f_X7_copyFrom; rw [e]; rfl, ⟨?_, ⟨n, ?_, h3⟩, fun i hi => ?_⟩, x5, fun o k ho => ?_, b3⟩
  · rw [pn_uI_ne2 (by omega), pn_uI_hit rfl, b2 b 4 (by omega) (by omega)]; exact h1
  · rw [x5]; exact h2
  · have := b1 i hi
    rw [pn_uI_ne (by omega), pn_uI_ne (by omega), pn_uI_ne (by omega), pn_uI_ne (by omega), this.1, this.2.1, this.2.2]
    exact h4 i hi
  · rw [pn_uI_ne (by omega), pn_uI_ne (by omega)]; exact b2 o k (by omega) (by omega)
section IM
variable {I : bm_TI} {J : bm_TJ}
theorem pq_im_a {k : Nat} (hk : k < 2) : ∃ I', f_X12_image_l18 (nI k) 1000 0 I = some I' ∧ ((∀ j, j < 287 → I' 178 (287 * k + j) = I 166 j) ∧ ∀ o j, (o ≠ 178 ∨ j < 287 * k ∨ 287 * k + 287 ≤ j) → I' o j = I o j) := by
  refine pl_rel (F := f_X12_image_l18 (nI k)) (n := 287) (fun i I' => (∀ j, j < i → I' 178 (287 * k + j) = I 166 j) ∧ ∀ o j, (o ≠ 178 ∨ j < 287 * k ∨ 287 * k + 287 ≤ j) → I' o j = I o j) ?_ ?_ 1000 I (by omega) ⟨fun j hj => by omega, fun _ _ _ => rfl⟩
  · intro q I' ⟨b1, b2⟩
    refine ⟨I', ?_, b1, b2⟩
    rw [f_X12_image_l18]
    simp (disch := omega) only [pn_l0, pn_l1, pn_l2, pn_l3, pn_l4, pn_l5, pn_l6, pn_l7, pn_l8, pn_l9, pn_l10, pn_l11, pn_l12, pn_l13, pn_l15, pn_l20, pn_l21, pn_l22, pn_l23, pn_l24, pn_l30, pn_l31, pn_l32, pn_l39, pn_l40, pn_l41, pn_l45, pn_l46, pn_l48, pn_l53, pn_l57, pn_l58, pn_l59, pn_l60, pn_l61, pn_l62, pn_l63, pn_l64, pn_l65, pn_l66, pn_l74, pn_l82, pn_l90, pn_l97, pn_l98, pn_l99, pn_l106, pn_l107, pn_l120, pn_l122, pn_l135, pn_l255, pn_l287, pn_l300, pn_l315, pn_l360, pn_l400, pn_l900, pn_l940, pn_l1000, pn_l1000000, pn_mone, nI_add, pk_mul, nI_clamp, bm_ixk, pn_ltI, pn_leI, pn_eqI, pn_xeq, pn_xeq2, pn_xx, pn_xltI, pn_xleI, pn_xgtI, pn_xgeI, pn_xadd, pn_subx, pn_addx, Option.bind_some, ↓reduceIte, Nat.le_refl]
  · intro q i I' hi ⟨b1, b2⟩
    rw [f_X12_image_l18]
    simp (disch := omega) only [pn_l0, pn_l1, pn_l2, pn_l3, pn_l4, pn_l5, pn_l6, pn_l7, pn_l8, pn_l9, pn_l10, pn_l11, pn_l12, pn_l13, pn_l15, pn_l20, pn_l21, pn_l22, pn_l23, pn_l24, pn_l30, pn_l31, pn_l32, pn_l39, pn_l40, pn_l41, pn_l45, pn_l46, pn_l48, pn_l53, pn_l57, pn_l58, pn_l59, pn_l60, pn_l61, pn_l62, pn_l63, pn_l64, pn_l65, pn_l66, pn_l74, pn_l82, pn_l90, pn_l97, pn_l98, pn_l99, pn_l106, pn_l107, pn_l120, pn_l122, pn_l135, pn_l255, pn_l287, pn_l300, pn_l315, pn_l360, pn_l400, pn_l900, pn_l940, pn_l1000, pn_l1000000, pn_mone, nI_add, pk_mul, nI_clamp, bm_ixk, pn_ltI, pn_leI, pn_eqI, pn_xeq, pn_xeq2, pn_xx, pn_xltI, pn_xleI, pn_xgtI, pn_xgeI, pn_xadd, pn_subx, pn_addx, Option.bind_some, ↓reduceIte, Nat.not_le.mpr hi]
    refine ⟨_, rfl, fun j hj => ?_, fun o j ho => ?_⟩
    · by_cases e : j = i
      · rw [pn_uI_hit (by omega), b2 166 i (by omega), e]
      · rw [pn_uI_ne2 (by omega)]; exact b1 j (by omega)
    · rw [pn_uI_off (by omega)]; exact b2 o j ho
theorem pq_im_b {k : Nat} (hk : k < 2) : ∃ J', f_X12_image_l51 (nI k) 1000 0 J = some J' ∧ ((∀ j, j < 15 → J' 179 (15 * k + j) = J 169 j) ∧ ∀ o j, (o ≠ 179 ∨ j < 15 * k ∨ 15 * k + 15 ≤ j) → J' o j = J o j) := by
  refine pl_rel (F := f_X12_image_l51 (nI k)) (n := 15) (fun i J' => (∀ j, j < i → J' 179 (15 * k + j) = J 169 j) ∧ ∀ o j, (o ≠ 179 ∨ j < 15 * k ∨ 15 * k + 15 ≤ j) → J' o j = J o j) ?_ ?_ 1000 J (by omega) ⟨fun j hj => by omega, fun _ _ _ => rfl⟩
  · intro q J' ⟨b1, b2⟩
    refine ⟨J', ?_, b1, b2⟩
    rw [f_X12_image_l51]
    simp (disch := omega) only [pn_l0, pn_l1, pn_l2, pn_l3, pn_l4, pn_l5, pn_l6, pn_l7, pn_l8, pn_l9, pn_l10, pn_l11, pn_l12, pn_l13, pn_l15, pn_l20, pn_l21, pn_l22, pn_l23, pn_l24, pn_l30, pn_l31, pn_l32, pn_l39, pn_l40, pn_l41, pn_l45, pn_l46, pn_l48, pn_l53, pn_l57, pn_l58, pn_l59, pn_l60, pn_l61, pn_l62, pn_l63, pn_l64, pn_l65, pn_l66, pn_l74, pn_l82, pn_l90, pn_l97, pn_l98, pn_l99, pn_l106, pn_l107, pn_l120, pn_l122, pn_l135, pn_l255, pn_l287, pn_l300, pn_l315, pn_l360, pn_l400, pn_l900, pn_l940, pn_l1000, pn_l1000000, pn_mone, nI_add, pk_mul, nI_clamp, bm_ixk, pn_ltI, pn_leI, pn_eqI, pn_xeq, pn_xeq2, pn_xx, pn_xltI, pn_xleI, pn_xgtI, pn_xgeI, pn_xadd, pn_subx, pn_addx, Option.bind_some, ↓reduceIte, Nat.le_refl]
  · intro q i J' hi ⟨b1, b2⟩
    rw [f_X12_image_l51]
    simp (disch := omega) only [pn_l0, pn_l1, pn_l2, pn_l3, pn_l4, pn_l5, pn_l6, pn_l7, pn_l8, pn_l9, pn_l10, pn_l11, pn_l12, pn_l13, pn_l15, pn_l20, pn_l21, pn_l22, pn_l23, pn_l24, pn_l30, pn_l31, pn_l32, pn_l39, pn_l40, pn_l41, pn_l45, pn_l46, pn_l48, pn_l53, pn_l57, pn_l58, pn_l59, pn_l60, pn_l61, pn_l62, pn_l63, pn_l64, pn_l65, pn_l66, pn_l74, pn_l82, pn_l90, pn_l97, pn_l98, pn_l99, pn_l106, pn_l107, pn_l120, pn_l122, pn_l135, pn_l255, pn_l287, pn_l300, pn_l315, pn_l360, pn_l400, pn_l900, pn_l940, pn_l1000, pn_l1000000, pn_mone, nI_add, pk_mul, nI_clamp, bm_ixk, pn_ltI, pn_leI, pn_eqI, pn_xeq, pn_xeq2, pn_xx, pn_xltI, pn_xleI, pn_xgtI, pn_xgeI, pn_xadd, pn_subx, pn_addx, Option.bind_some, ↓reduceIte, Nat.not_le.mpr hi]
    refine ⟨_, rfl, fun j hj => ?_, fun o j ho => ?_⟩
    · by_cases e : j = i
      · rw [pn_uJ_hit (by omega), b2 169 i (by omega), e]
      · rw [pn_uJ_off (by omega)]; exact b1 j (by omega)
    · rw [pn_uJ_off (by omega)]; exact b2 o j ho
theorem pq_re_a {k : Nat} (hk : k < 2) : ∃ I', f_X12_restore_l27 (nI k) 1000 0 I = some I' ∧ ((∀ j, j < 287 → I' 166 j = I 178 (287 * k + j)) ∧ ∀ o j, o ≠ 166 → I' o j = I o j) := by
  refine pl_rel (F := f_X12_restore_l27 (nI k)) (n := 287) (fun i I' => (∀ j, j < i → I' 166 j = I 178 (287 * k + j)) ∧ ∀ o j, o ≠ 166 → I' o j = I o j) ?_ ?_ 1000 I (by omega) ⟨fun j hj => by omega, fun _ _ _ => rfl⟩
  · intro q I' ⟨b1, b2⟩
    refine ⟨I', ?_, b1, b2⟩
    rw [f_X12_restore_l27]
    simp (disch := omega) only [pn_l0, pn_l1, pn_l2, pn_l3, pn_l4, pn_l5, pn_l6, pn_l7, pn_l8, pn_l9, pn_l10, pn_l11, pn_l12, pn_l13, pn_l15, pn_l20, pn_l21, pn_l22, pn_l23, pn_l24, pn_l30, pn_l31, pn_l32, pn_l39, pn_l40, pn_l41, pn_l45, pn_l46, pn_l48, pn_l53, pn_l57, pn_l58, pn_l59, pn_l60, pn_l61, pn_l62, pn_l63, pn_l64, pn_l65, pn_l66, pn_l74, pn_l82, pn_l90, pn_l97, pn_l98, pn_l99, pn_l106, pn_l107, pn_l120, pn_l122, pn_l135, pn_l255, pn_l287, pn_l300, pn_l315, pn_l360, pn_l400, pn_l900, pn_l940, pn_l1000, pn_l1000000, pn_mone, nI_add, pk_mul, nI_clamp, bm_ixk, pn_ltI, pn_leI, pn_eqI, pn_xeq, pn_xeq2, pn_xx, pn_xltI, pn_xleI, pn_xgtI, pn_xgeI, pn_xadd, pn_subx, pn_addx, Option.bind_some, ↓reduceIte, Nat.le_refl]
  · intro q i I' hi ⟨b1, b2⟩
    rw [f_X12_restore_l27]
    simp (disch := omega) only [pn_l0, pn_l1, pn_l2, pn_l3, pn_l4, pn_l5, pn_l6, pn_l7, pn_l8, pn_l9, pn_l10, pn_l11, pn_l12, pn_l13, pn_l15, pn_l20, pn_l21, pn_l22, pn_l23, pn_l24, pn_l30, pn_l31, pn_l32, pn_l39, pn_l40, pn_l41, pn_l45, pn_l46, pn_l48, pn_l53, pn_l57, pn_l58, pn_l59, pn_l60, pn_l61, pn_l62, pn_l63, pn_l64, pn_l65, pn_l66, pn_l74, pn_l82, pn_l90, pn_l97, pn_l98, pn_l99, pn_l106, pn_l107, pn_l120, pn_l122, pn_l135, pn_l255, pn_l287, pn_l300, pn_l315, pn_l360, pn_l400, pn_l900, pn_l940, pn_l1000, pn_l1000000, pn_mone, nI_add, pk_mul, nI_clamp, bm_ixk, pn_ltI, pn_leI, pn_eqI, pn_xeq, pn_xeq2, pn_xx, pn_xltI, pn_xleI, pn_xgtI, pn_xgeI, pn_xadd, pn_subx, pn_addx, Option.bind_some, ↓reduceIte, Nat.not_le.mpr hi]
    refine ⟨_, rfl, fun j hj => ?_, fun o j ho => ?_⟩
    · by_cases e : j = i
      · rw [pn_uI_hit e, b2 178 _ (by omega), e]
      · rw [pn_uI_ne2 e]; exact b1 j (by omega)
    · rw [pn_uI_ne ho]; exact b2 o j ho
theorem pq_re_b {k : Nat} (hk : k < 2) : ∃ J', f_X12_restore_l60 (nI k) 1000 0 J = some J' ∧ ((∀ j, j < 15 → J' 169 j = J 179 (15 * k + j)) ∧ ∀ o j, (o ≠ 169 ∨ 15 ≤ j) → J' o j = J o j) := by
  refine pl_rel (F := f_X12_restore_l60 (nI k)) (n := 15) (fun i J' => (∀ j, j < i → J' 169 j = J 179 (15 * k + j)) ∧ ∀ o j, (o ≠ 169 ∨ 15 ≤ j) → J' o j = J o j) ?_ ?_ 1000 J (by omega) ⟨fun j hj => by omega, fun _ _ _ => rfl⟩
  · intro q J' ⟨b1, b2⟩
    refine ⟨J', ?_, b1, b2⟩
    rw [f_X12_restore_l60]
    simp (disch := omega) only [pn_l0, pn_l1, pn_l2, pn_l3, pn_l4, pn_l5, pn_l6, pn_l7, pn_l8, pn_l9, pn_l10, pn_l11, pn_l12, pn_l13, pn_l15, pn_l20, pn_l21, pn_l22, pn_l23, pn_l24, pn_l30, pn_l31, pn_l32, pn_l39, pn_l40, pn_l41, pn_l45, pn_l46, pn_l48, pn_l53, pn_l57, pn_l58, pn_l59, pn_l60, pn_l61, pn_l62, pn_l63, pn_l64, pn_l65, pn_l66, pn_l74, pn_l82, pn_l90, pn_l97, pn_l98, pn_l99, pn_l106, pn_l107, pn_l120, pn_l122, pn_l135, pn_l255, pn_l287, pn_l300, pn_l315, pn_l360, pn_l400, pn_l900, pn_l940, pn_l1000, pn_l1000000, pn_mone, nI_add, pk_mul, nI_clamp, bm_ixk, pn_ltI, pn_leI, pn_eqI, pn_xeq, pn_xeq2, pn_xx, pn_xltI, pn_xleI, pn_xgtI, pn_xgeI, pn_xadd, pn_subx, pn_addx, Option.bind_some, ↓reduceIte, Nat.le_refl]
  · intro q i J' hi ⟨b1, b2⟩
    rw [f_X12_restore_l60]
    simp (disch := omega) only [pn_l0, pn_l1, pn_l2, pn_l3, pn_l4, pn_l5, pn_l6, pn_l7, pn_l8, pn_l9, pn_l10, pn_l11, pn_l12, pn_l13, pn_l15, pn_l20, pn_l21, pn_l22, pn_l23, pn_l24, pn_l30, pn_l31, pn_l32, pn_l39, pn_l40, pn_l41, pn_l45, pn_l46, pn_l48, pn_l53, pn_l57, pn_l58, pn_l59, pn_l60, pn_l61, pn_l62, pn_l63, pn_l64, pn_l65, pn_l66, pn_l74, pn_l82, pn_l90, pn_l97, pn_l98, pn_l99, pn_l106, pn_l107, pn_l120, pn_l122, pn_l135, pn_l255, pn_l287, pn_l300, pn_l315, pn_l360, pn_l400, pn_l900, pn_l940, pn_l1000, pn_l1000000, pn_mone, nI_add, pk_mul, nI_clamp, bm_ixk, pn_ltI, pn_leI, pn_eqI, pn_xeq, pn_xeq2, pn_xx, pn_xltI, pn_xleI, pn_xgtI, pn_xgeI, pn_xadd, pn_subx, pn_addx, Option.bind_some, ↓reduceIte, Nat.not_le.mpr hi]
    refine ⟨_, rfl, fun j hj => ?_, fun o j ho => ?_⟩
    · by_cases e : j = i
      · rw [pn_uJ_hit e, b2 179 _ (by omega), e]
      · rw [pn_uJ_off (by omega)]; exact b1 j (by omega)
    · rw [pn_uJ_off (by omega)]; exact b2 o j ho
end IM
section EL
variable {I : bm_TI} {J : bm_TJ} {W : bm_TR}
theorem e_image (hI : bm_Inv I J W) : ∀ a1 : Int32, ∃ v I1 J1 W1 I2 J2, f_X11_image I J W a1 = some (v, I1, J1, W1) ∧ f_X12_image I1 J1 a1 = some (v, I2, J2) ∧ bm_Inv I2 J2 W1 := by
  intro a1
  obtain ⟨T, S, hF, hU, hG0, hG1, hT, hM, hK⟩ := id hI
  obtain ⟨hR, hR2, hP, hQ, hQ2, hN, hA, hS, hV⟩ := id hF
  have h8 := hA.1
  have h7 := hA.2.1
  unfold f_X11_image
  rcases pk_ix a1 (n := 2) (by omega) with h | h | ⟨k, hk, rfl⟩
  · rw [if_pos h]
    refine ⟨_, _, _, _, bm_uI I 164 0 0, J, rfl, ?_, iv_q hI⟩
    unfold f_X12_image
    rw [show f_X12_isIn a1 0 1 = false from pq_belowF (n := 2) (by omega) (Or.inl h)]; rfl
  · have hc : ∀ (x : Option (Bool × bm_TI × bm_TJ × bm_TR)), (if a1 < 0 then some (false, I, J, W) else if a1 < 2 then x else some (false, I, J, W)) = some (false, I, J, W) := fun x => by
      by_cases h0 : a1 < 0
      · rw [if_pos h0]
      · rw [if_neg h0, if_neg (show ¬ a1 < 2 by rw [Int32.not_lt]; exact h)]
    rw [hc]
    refine ⟨_, _, _, _, bm_uI I 164 0 0, J, rfl, ?_, iv_q hI⟩
    unfold f_X12_image
    rw [show f_X12_isIn a1 0 1 = false from pq_belowF (n := 2) (by omega) (Or.inr h)]; rfl
  rw [if_neg (nI_pos (by omega)), if_pos (show nI k < 2 from nI_lt (b := 2) hk (by omega)), if_pos (bm_ixk hk (by omega)), nI_clamp (by omega)]
  obtain ⟨I1, J1, e1, p1, n1, n2, f1, g1⟩ := kc_copyA (I := I) (J := J) (a := 99 + 24 * k + 1) (b := 4) (by omega) hA hP
  obtain ⟨I2, e2, p2, f2⟩ := kc_copy (I := I1) (a := 99 + 24 * k + 12) (b := 26) (by omega) h8 (ps_congr (fun j => f1 26 j (by omega)) (fun c j _ _ => f1 c j (by omega)) hQ)
  obtain ⟨I3, W3, e3, p3, _, f3, w3⟩ := kc_copyQ (I := I2) (W := W) (a := 99 + 24 * k + 19) (b := 151) (by omega) hV (pQ_congr (fun o j _ _ => by rw [f2 o j (by omega), f1 o j (by omega)]) (fun _ => rfl) hQ2)
  have fI : ∀ o j, (o < 99 + 24 * k ∨ 122 + 24 * k < o) → bm_uI I3 (99 + 24 * k) 3 (bm_bi true) o j = I o j := fun o j ho => by rw [pn_uI_ne (by omega), f3 o j (by omega), f2 o j (by omega), f1 o j (by omega)]
  unfold f_X3_keep
  rw [e1]; simp only [Option.bind_some]
  rw [e2]; simp only [Option.bind_some]
  rw [e3]; simp only [Option.bind_some]
  obtain ⟨I5, e5, b5, f5⟩ := pq_im_a (I := bm_uI (bm_uI I3 (99 + 24 * k) 3 (bm_bi true)) 164 0 0) hk
  obtain ⟨J5, e6, b6, g6⟩ := pq_im_b (J := J1) hk
  have ff : ∀ o j, (o < 99 + 24 * k ∨ 122 + 24 * k < o) → (o ≠ 178 ∨ j < 287 * k ∨ 287 * k + 287 ≤ j) → (o ≠ 164 ∨ j ≠ 0) → (o ≠ 180 ∨ j ≠ k) → bm_uI I5 180 k (vp_nar .boolean 1) o j = I o j := fun o j c1 c2 c3 c4 => by rw [pn_uI_off c4, f5 o j c2, pn_uI_off c3, fI o j c1]
  have gJ : ∀ o j, (o < 100 + 24 * k ∨ 110 + 24 * k < o) → (o ≠ 179 ∨ j < 15 * k ∨ 15 * k + 15 ≤ j) → J5 o j = J o j := fun o j c1 c2 => by rw [g6 o j c2, g1 o j (by omega)]
  refine ⟨_, _, _, _, bm_uI I5 180 k (vp_nar .boolean 1), J5, rfl, ?_, ?_⟩
  · unfold f_X12_image
    rw [show f_X12_isIn (nI k) 0 1 = true from pq_belowT (n := 2) (by omega) hk, if_pos rfl, e5]
    simp only [Option.bind_some]
    rw [e6]
    simp only [Option.bind_some]
    rw [if_pos (bm_ixk hk (by omega)), nI_clamp (by omega)]
  · have fin : ∀ o j, (99 + 24 * k ≤ o ∧ o ≤ 122 + 24 * k) → bm_uI I5 180 k (vp_nar .boolean 1) o j = bm_uI I3 (99 + 24 * k) 3 (bm_bi true) o j := fun o j c => by rw [pn_uI_ne (by omega), f5 o j (by omega), pn_uI_ne (by omega)]
    have hGk : iv_G (bm_uI I5 180 k (vp_nar .boolean 1)) J5 W3 k := by
      refine Or.inr ⟨?_, ?_, T, S, fun j hj => ?_, fun j hj hj2 => ?_, ?_, ?_, ?_, ⟨fun j hj => ?_, fun j hj => ?_⟩, hA, hS, hV⟩
      · rw [fin _ _ (by omega), pn_uI_hit rfl]; rfl
      · rw [pn_uI_hit rfl]; rfl
      · show bm_uI I5 180 k (vp_nar .boolean 1) 178 (287 * k + j) = nI (T j)
        rw [pn_uI_ne (by omega), b5 j (by omega), pn_uI_ne (by omega), fI 166 j (by omega)]; exact hR j hj
      · show bm_uI I5 180 k (vp_nar .boolean 1) 178 (287 * k + j) = nI (S j)
        have := hV.1
        rw [pn_uI_ne (by omega), b5 j (by omega), pn_uI_ne (by omega), fI 166 j (by omega)]; exact hR2 j hj hj2
      · rw [show 100 + 24 * k = 99 + 24 * k + 1 by omega]
        exact pa_congr' (fun o j _ _ => by rw [fin o j (by omega), pn_uI_ne (by omega), f3 o j (by omega), f2 o j (by omega)]) p1
      · rw [show 111 + 24 * k = 99 + 24 * k + 12 by omega]
        exact ps_congr (fun j => by rw [fin _ j (by omega), pn_uI_ne (by omega), f3 _ j (by omega)]) (fun c j _ _ => by rw [fin c j (by omega), pn_uI_ne (by omega), f3 c j (by omega)]) p2
      · rw [show 118 + 24 * k = 99 + 24 * k + 19 by omega]
        exact pQ_congr (fun o j _ _ => by rw [fin o j (by omega), pn_uI_ne (by omega)]) (fun _ => rfl) p3
      · show nm_E (J5 (100 + 24 * k + 1) j) (J5 179 (15 * k + j))
        rw [b6 j (by omega), g6 _ _ (by omega), show 100 + 24 * k + 1 = 99 + 24 * k + 1 + 1 by omega, n1 j (by omega), g1 169 j (by omega)]
        exact hN.1 j hj
      · show nm_E (J5 (100 + 24 * k + 6) j) (J5 179 (15 * k + (8 + j)))
        rw [b6 (8 + j) (by omega), g6 _ _ (by omega), show 100 + 24 * k + 6 = 99 + 24 * k + 1 + 6 by omega, n2 j (by omega), g1 169 _ (by omega)]
        exact hN.2 j hj
    have hGo : ∀ k', k' < 2 → k' ≠ k → iv_G I J W k' → iv_G (bm_uI I5 180 k (vp_nar .boolean 1)) J5 W3 k' := fun k' hk' hne hG => iG_congr hk' (fun o j ho => ff o j (by omega) (by omega) (by omega) (by omega)) (fun o j ho => gJ o j (by omega) (by omega)) (fun j => w3 _ j (by omega)) hG
    refine ⟨T, S, iF_congr (fun o j ho => ff o j (by omega) (by omega) (by omega) (by omega)) (fun j => w3 152 j (by omega)) (fun j _ => ff 166 j (by omega) (by omega) (by omega) (by omega)) (fun o j _ _ => gJ o j (by omega) (by omega)) (fun j _ => gJ 169 j (by omega) (by omega)) hF, iU_congr (fun o j ho => ff o j (by omega) (by omega) (by omega) (by omega)) hU, ?_, ?_, iT_congr (fun o j ho => ff o j (by omega) (by omega) (by omega) (by omega)) hT, iM_congr (fun o j ho => ff o j (by omega) (by omega) (by omega) (by omega)) hM, fun j hj => by rw [gJ 170 j (by omega) (by omega)]; exact hK j hj⟩
    · by_cases e : 0 = k
      · rw [← e] at hGk ⊢; exact hGk
      · exact hGo 0 (by omega) e hG0
    · by_cases e : 1 = k
      · rw [← e] at hGk ⊢; exact hGk
      · exact hGo 1 (by omega) e hG1
theorem e_restore (hI : bm_Inv I J W) : ∀ a1 : Int32, ∃ v I1 J1 W1 I2 J2, f_X11_restore I J W a1 = some (v, I1, J1, W1) ∧ f_X12_restore I1 J1 a1 = some (v, I2, J2) ∧ bm_Inv I2 J2 W1 := by
  intro a1
  obtain ⟨T0, S0, hF, hU, hG0, hG1, hT, hM, hK⟩ := id hI
  obtain ⟨u0, o0, U0, hu0, ho0, hC0, _, _⟩ := id hU
  unfold f_X11_restore
  rcases pk_ix a1 (n := 2) (by omega) with h | h | ⟨k, hk, rfl⟩
  · rw [if_pos h]
    refine ⟨_, _, _, _, bm_uI I 164 0 0, J, rfl, ?_, iv_q hI⟩
    unfold f_X12_restore
    rw [show f_X12_isIn a1 0 1 = false from pq_belowF (n := 2) (by omega) (Or.inl h)]; rfl
  · have hc : ∀ (x : Option (Bool × bm_TI × bm_TJ × bm_TR)), (if a1 < 0 then some (false, I, J, W) else if 2 ≤ a1 then some (false, I, J, W) else x) = some (false, I, J, W) := fun x => by
      by_cases h0 : a1 < 0
      · rw [if_pos h0]
      · rw [if_neg h0, if_pos (show (2 : Int32) ≤ a1 from h)]
    rw [hc]
    refine ⟨_, _, _, _, bm_uI I 164 0 0, J, rfl, ?_, iv_q hI⟩
    unfold f_X12_restore
    rw [show f_X12_isIn a1 0 1 = false from pq_belowF (n := 2) (by omega) (Or.inr h)]; rfl
  rw [if_neg (nI_pos (by omega)), if_neg (show ¬ (2 : Int32) ≤ nI k from nI_ge (b := 2) hk (by omega)), if_pos (bm_ixk hk (by omega)), nI_clamp (by omega)]
  have hG : iv_G I J W k := by
    by_cases e : k = 0
    · rw [e]; exact hG0
    · rw [show k = 1 by omega]; exact hG1
  rcases hG with ⟨z1, z2⟩ | ⟨z1, z2, T, S, hX⟩
  · rw [if_pos z1]
    refine ⟨_, _, _, _, bm_uI I 164 0 0, J, rfl, ?_, iv_q hI⟩
    unfold f_X12_restore
    rw [show f_X12_isIn (nI k) 0 1 = true from pq_belowT (n := 2) (by omega) hk, if_pos rfl, if_pos (bm_ixk hk (by omega)), nI_clamp (by omega), pn_uI_ne (by omega), if_pos z2]
  · obtain ⟨hR, hR2, hP, hQ, hQ2, hN, hA, hS, hV⟩ := hX
    have h8 := hA.1
    have h7 := hA.2.1
    rw [if_neg (by rw [z1]; decide), show 99 + 24 * k + 1 = 100 + 24 * k by omega, show 99 + 24 * k + 12 = 111 + 24 * k by omega, show 99 + 24 * k + 19 = 118 + 24 * k by omega]
    obtain ⟨I1, J1, e1, p1, n1, n2, f1, g1⟩ := kc_copyA (I := I) (J := J) (a := 4) (b := 100 + 24 * k) (by omega) hA hP
    obtain ⟨I2, e2, p2, f2⟩ := kc_copy (I := I1) (a := 26) (b := 111 + 24 * k) (by omega) h8 (ps_congr (fun j => f1 _ j (by omega)) (fun c j _ _ => f1 c j (by omega)) hQ)
    obtain ⟨I3, W3, e3, p3, _, f3, w3⟩ := kc_copyQ (I := I2) (W := W) (a := 151) (b := 118 + 24 * k) (by omega) hV (pQ_congr (fun o j _ _ => by rw [f2 o j (by omega), f1 o j (by omega)]) (fun _ => rfl) hQ2)
    rw [e1]; simp only [Option.bind_some]
    rw [e2]; simp only [Option.bind_some]
    rw [e3]; simp only [Option.bind_some]
    unfold f_X4_forget
    simp only [Option.bind_some]
    have fI : ∀ o j, (o < 4 ∨ 14 < o) → (o < 26 ∨ 31 < o) → (o < 151 ∨ 154 < o) → (o ≠ 40 ∨ j ≠ 2) → bm_uI I3 40 2 0 o j = I o j := fun o j c1 c2 c3 c4 => by rw [pn_uI_off c4, f3 o j (by omega), f2 o j (by omega), f1 o j (by omega)]
    obtain ⟨I5, e5, b5, f5⟩ := pq_re_a (I := bm_uI (bm_uI I3 40 2 0) 164 0 0) hk
    obtain ⟨J5, e6, b6, g6⟩ := pq_re_b (J := J1) hk
    have ff : ∀ o j, (o < 4 ∨ 14 < o) → (o < 26 ∨ 31 < o) → (o < 151 ∨ 154 < o) → (o ≠ 40 ∨ j ≠ 2) → o ≠ 166 → (o ≠ 164 ∨ (j ≠ 0 ∧ j ≠ 24)) → bm_uI I5 164 24 0 o j = I o j := fun o j c1 c2 c3 c4 c5 c6 => by rw [pn_uI_off (by omega), f5 o j c5, pn_uI_off (by omega), fI o j c1 c2 c3 c4]
    have fin : ∀ o j, o ≠ 166 → o ≠ 164 → o ≠ 40 → bm_uI I5 164 24 0 o j = I3 o j := fun o j c1 c2 c3 => by rw [pn_uI_ne c2, f5 o j c1, pn_uI_ne c2, pn_uI_ne c3]
    have gJ : ∀ o j, (o < 4 ∨ 14 < o) → (o ≠ 169 ∨ 15 ≤ j) → J5 o j = J o j := fun o j c1 c2 => by rw [g6 o j c2, g1 o j (by omega)]
    have row : ∀ j, j < 287 → bm_uI I5 164 24 0 166 j = I 178 (287 * k + j) := fun j hj => by rw [pn_uI_ne (by omega), b5 j hj, pn_uI_ne (by omega), fI 178 _ (by omega) (by omega) (by omega) (by omega)]
    refine ⟨_, _, _, _, bm_uI I5 164 24 0, J5, rfl, ?_, T, S, ⟨fun j hj => ?_, fun j hj hj2 => ?_, ?_, ?_, ?_, ⟨fun j hj => ?_, fun j hj => ?_⟩, hA, hS, hV⟩, ⟨0, o0, fun _ => T, by omega, ho0, ⟨?_, ?_, fun i hi => by omega⟩, ⟨pn_uI_hit rfl, fun i hi => by omega⟩, fun i hi => by omega⟩, ?_, ?_, ?_, ?_, fun j hj => ?_⟩
    · unfold f_X12_restore
      rw [show f_X12_isIn (nI k) 0 1 = true from pq_belowT (n := 2) (by omega) hk, if_pos rfl, if_pos (bm_ixk hk (by omega)), nI_clamp (by omega), pn_uI_ne (by omega), fI 180 k (by omega) (by omega) (by omega) (by omega), if_neg (by rw [z2]; decide), e5]
      simp only [Option.bind_some]
      rw [e6]; rfl
    · rw [row j (by omega)]; exact hR j hj
    · have := hV.1
      rw [row j (by omega)]; exact hR2 j hj hj2
    · exact pa_congr (fun o j _ _ => by rw [fin o j (by omega) (by omega) (by omega), f3 o j (by omega), f2 o j (by omega)]) p1
    · exact ps_congr (fun j => by rw [fin _ j (by omega) (by omega) (by omega), f3 _ j (by omega)]) (fun c j _ _ => by rw [fin c j (by omega) (by omega) (by omega), f3 c j (by omega)]) p2
    · exact pQ_congr (fun o j _ _ => fin o j (by omega) (by omega) (by omega)) (fun _ => rfl) p3
    · show nm_E (J5 (4 + 1) j) (J5 169 j)
      rw [b6 j (by omega), g6 _ _ (by omega), n1 j (by omega), g1 179 _ (by omega)]
      exact hN.1 j hj
    · show nm_E (J5 (4 + 6) j) (J5 169 (8 + j))
      rw [b6 (8 + j) (by omega), g6 _ _ (by omega), n2 j (by omega), g1 179 _ (by omega)]
      exact hN.2 j hj
    · rw [ff 40 1 (by omega) (by omega) (by omega) (by omega) (by omega) (by omega)]; exact hC0.1
    · rw [pn_uI_ne (by omega), f5 40 2 (by omega), pn_uI_ne (by omega), pn_uI_hit rfl]; rfl
    · exact iG_congr (by omega) (fun o j ho => ff o j (by omega) (by omega) (by omega) (by omega) (by omega) (by omega)) (fun o j ho => gJ o j (by omega) (by omega)) (fun j => w3 _ j (by omega)) hG0
    · exact iG_congr (by omega) (fun o j ho => ff o j (by omega) (by omega) (by omega) (by omega) (by omega) (by omega)) (fun o j ho => gJ o j (by omega) (by omega)) (fun j => w3 _ j (by omega)) hG1
    · exact iT_congr (fun o j ho => ff o j (by omega) (by omega) (by omega) (by omega) (by omega) (by omega)) hT
    · exact iM_congr (fun o j ho => ff o j (by omega) (by omega) (by omega) (by omega) (by omega) (by omega)) hM
    · rw [gJ 170 j (by omega) (by omega)]; exact hK j hj
end EL
