/-! an army's text: what comes behind it -/
theorem pq_row80 {I0 : bm_TI} : ∀ (i j k : Nat) (I : bm_TI), j + i = 287 → i < k → (∀ q, q < j → I 166 q = if q < 61 then I0 167 q else 0) → (∀ o q, o ≠ 166 → I o q = I0 o q) → ∃ I', f_X12_army_l80 k (nI j) I = some I' ∧ (∀ q, q < 287 → I' 166 q = if q < 61 then I0 167 q else 0) ∧ ∀ o q, o ≠ 166 → I' o q = I0 o q := by
  intro i
  induction i with
  | zero =>
    intro j k I hj hk h0 hf
    obtain ⟨k, rfl⟩ : ∃ q, k = q + 1 := ⟨k - 1, by omega⟩
    have : j = 287 := by omega
    subst this
    rw [f_X12_army_l80, if_pos (by decide)]
    exact ⟨I, rfl, h0, hf⟩
  | succ i ih =>
    intro j k I hj hk h0 hf
    obtain ⟨k, rfl⟩ : ∃ q, k = q + 1 := ⟨k - 1, by omega⟩
    rw [f_X12_army_l80, if_neg (show ¬ (287 : Int32) ≤ nI j from nI_ge (b := 287) (by omega) (by omega)), nI_clamp (by omega), nI_1]
    simp only [show bm_ix 287 (nI j) = true from bm_ixk (by omega) (by omega), ↓reduceIte]
    by_cases c : j < 61
    · rw [if_neg (show ¬ (61 : Int32) ≤ nI j from nI_ge (b := 61) (by omega) (by omega)), if_pos (show bm_ix 61 (nI j) = true from bm_ixk c (by omega))]
      refine ih (j + 1) k _ (by omega) (by omega) (fun q hq => ?_) (fun o q ho => (pn_uI_ne ho).trans (hf o q ho))
      by_cases e : q = j
      · rw [pn_uI_hit e, e, if_pos c]; exact hf 167 j (by omega)
      · rw [pn_uI_ne2 e]; exact h0 q (by omega)
    · rw [if_pos (show (61 : Int32) ≤ nI j from nI_le (a := 61) (by omega) (by omega))]
      refine ih (j + 1) k _ (by omega) (by omega) (fun q hq => ?_) (fun o q ho => (pn_uI_ne ho).trans (hf o q ho))
      by_cases e : q = j
      · rw [pn_uI_hit e, e, if_neg c]
      · rw [pn_uI_ne2 e]; exact h0 q (by omega)
theorem pq_row117 {J0 : bm_TJ} : ∀ (i j k : Nat) (J : bm_TJ), j + i = 15 → i < k → (∀ q, q < j → J 169 q = J0 169 (15 + q)) → (∀ o q, (o ≠ 169 ∨ 15 ≤ q) → J o q = J0 o q) → ∃ J', f_X12_army_l117 k (nI j) J = some J' ∧ (∀ q, q < 15 → J' 169 q = J0 169 (15 + q)) ∧ ∀ o q, (o ≠ 169 ∨ 15 ≤ q) → J' o q = J0 o q := by
  intro i
  induction i with
  | zero =>
    intro j k J hj hk h0 hf
    obtain ⟨k, rfl⟩ : ∃ q, k = q + 1 := ⟨k - 1, by omega⟩
    have : j = 15 := by omega
    subst this
    rw [f_X12_army_l117, if_pos (by decide)]
    exact ⟨J, rfl, h0, hf⟩
  | succ i ih =>
    intro j k J hj hk h0 hf
    obtain ⟨k, rfl⟩ : ∃ q, k = q + 1 := ⟨k - 1, by omega⟩
    rw [f_X12_army_l117, if_neg (show ¬ (15 : Int32) ≤ nI j from nI_ge (b := 15) (by omega) (by omega)), show (15 : Int32) = nI 15 from rfl, nI_add, nI_1, if_pos (show bm_ix 30 (nI (15 + j)) = true from bm_ixk (by omega) (by omega)), if_pos (show bm_ix 30 (nI j) = true from bm_ixk (by omega) (by omega)), nI_clamp (by omega), nI_clamp (by omega)]
    refine ih (j + 1) k _ (by omega) (by omega) (fun q hq => ?_) (fun o q ho => (pn_uJ_off (by omega)).trans (hf o q ho))
    by_cases e : q = j
    · rw [pn_uJ_hit e, e]; exact hf 169 (15 + j) (by omega)
    · rw [pn_uJ_off (by omega)]; exact h0 q (by omega)
theorem pq_row146 {I0 : bm_TI} : ∀ (i j k : Nat) (I : bm_TI), j + i = 8 → i < k → (∀ q, q < j → I 166 (66 + q) = I0 166 (5 + q) ∧ I 166 (74 + q) = I0 166 (13 + q)) → (∀ o q, (o ≠ 166 ∨ q < 66 ∨ 82 ≤ q) → I o q = I0 o q) → ∃ I', f_X12_army_l146 k (nI j) I = some I' ∧ (∀ q, q < 8 → I' 166 (66 + q) = I0 166 (5 + q) ∧ I' 166 (74 + q) = I0 166 (13 + q)) ∧ ∀ o q, (o ≠ 166 ∨ q < 66 ∨ 82 ≤ q) → I' o q = I0 o q := by
  intro i
  induction i with
  | zero =>
    intro j k I hj hk h0 hf
    obtain ⟨k, rfl⟩ : ∃ q, k = q + 1 := ⟨k - 1, by omega⟩
    have : j = 8 := by omega
    subst this
    rw [f_X12_army_l146, if_pos (by decide)]
    exact ⟨I, rfl, h0, hf⟩
  | succ i ih =>
    intro j k I hj hk h0 hf
    obtain ⟨k, rfl⟩ : ∃ q, k = q + 1 := ⟨k - 1, by omega⟩
    rw [f_X12_army_l146, if_neg (show ¬ (8 : Int32) ≤ nI j from nI_ge (b := 8) (by omega) (by omega))]
    simp (disch := omega) only [pn_l0, pn_l1, pn_l2, pn_l3, pn_l4, pn_l5, pn_l6, pn_l7, pn_l8, pn_l9, pn_l10, pn_l11, pn_l12, pn_l13, pn_l15, pn_l20, pn_l21, pn_l22, pn_l23, pn_l24, pn_l30, pn_l31, pn_l32, pn_l39, pn_l40, pn_l41, pn_l45, pn_l46, pn_l48, pn_l53, pn_l57, pn_l58, pn_l59, pn_l60, pn_l61, pn_l62, pn_l63, pn_l64, pn_l65, pn_l66, pn_l74, pn_l82, pn_l90, pn_l97, pn_l98, pn_l99, pn_l106, pn_l107, pn_l120, pn_l122, pn_l135, pn_l255, pn_l287, pn_l300, pn_l315, pn_l360, pn_l400, pn_l900, pn_l940, pn_l1000, pn_l1000000, pn_mone, nI_add, pk_mul, nI_clamp, bm_ixk, pn_ltI, pn_leI, pn_eqI, pn_xeq, pn_xeq2, pn_xx, pn_xltI, pn_xleI, pn_xgtI, pn_xgeI, pn_xadd, pn_subx, pn_addx, Option.bind_some, ↓reduceIte]
    refine ih (j + 1) k _ (by omega) (by omega) (fun q hq => ?_) (fun o q ho => ?_)
    · by_cases e : q = j
      · subst e
        rw [pn_uI_ne2 (by omega), pn_uI_hit rfl, pn_uI_hit rfl, pn_uI_ne2 (by omega)]
        exact ⟨hf 166 (5 + q) (by omega), hf 166 (13 + q) (by omega)⟩
      · rw [pn_uI_ne2 (by omega), pn_uI_ne2 (by omega), pn_uI_ne2 (by omega), pn_uI_ne2 (by omega)]; exact h0 q (by omega)
    · rw [pn_uI_off (by omega), pn_uI_off (by omega)]; exact hf o q ho
/-- the picture of an army that begins -/
def pt_beg (T : pt_T) : pt_T := fun k => if k < 61 then T k else if 66 ≤ k ∧ k < 74 then T (k - 61) else if 74 ≤ k ∧ k < 82 then T (k - 61) else 0
theorem rf_end {r : zc_R} {T : pt_T} (hR : ∀ k, k < 61 → r.1 167 k = nI (T k)) : ∃ I' J', ((f_X12_army_l80 1000 0 r.1).bind fun y12 => ((f_X12_army_l117 1000 0 r.2).bind fun y15 => ((f_X12_army_l146 1000 0 y12).bind fun y18 => some (((bm_uI y18 164 24 0) 164 19), (bm_uI y18 164 24 0), y15)))) = some (r.1 164 19, I', J') ∧ (∀ k, k < 106 → I' 166 k = nI (pt_beg T k)) ∧ I' 166 106 = 0 ∧ I' 164 24 = 0 ∧ (∀ o k, o ≠ 166 → (o ≠ 164 ∨ k ≠ 24) → I' o k = r.1 o k) ∧ (∀ q, q < 15 → J' 169 q = r.2 169 (15 + q)) ∧ ∀ o q, (o ≠ 169 ∨ 15 ≤ q) → J' o q = r.2 o q := by
  obtain ⟨A, e1, a1, a2⟩ := pq_row80 (I0 := r.1) 287 0 1000 r.1 (by omega) (by omega) (fun q hq => by omega) (fun _ _ _ => rfl)
  obtain ⟨J', e2, j1, j2⟩ := pq_row117 (J0 := r.2) 15 0 1000 r.2 (by omega) (by omega) (fun q hq => by omega) (fun _ _ _ => rfl)
  obtain ⟨C, e3, c1, c2⟩ := pq_row146 (I0 := A) 8 0 1000 A (by omega) (by omega) (fun q hq => by omega) (fun _ _ _ => rfl)
  have e1' : f_X12_army_l80 1000 0 r.1 = some A := e1
  have e2' : f_X12_army_l117 1000 0 r.2 = some J' := e2
  have e3' : f_X12_army_l146 1000 0 A = some C := e3
  rw [e1', e2']
  simp only [Option.bind_some]
  rw [e3']
  simp only [Option.bind_some]
  refine ⟨bm_uI C 164 24 0, J', ?_, fun k hk => ?_, ?_, pn_uI_hit rfl, fun o k h1 h2 => ?_, j1, j2⟩
  · rw [pn_uI_ne2 (show 19 ≠ 24 by decide), c2 164 19 (by omega), a2 164 19 (by omega)]
  · rw [pn_uI_ne (show 166 ≠ 164 by decide)]
    unfold pt_beg
    by_cases k1 : k < 61
    · rw [if_pos k1, c2 166 k (by omega), a1 k (by omega), if_pos k1]; exact hR k k1
    · rw [if_neg k1]
      by_cases k2 : 66 ≤ k ∧ k < 74
      · have := (c1 (k - 66) (by omega)).1
        rw [show 66 + (k - 66) = k by omega, show 5 + (k - 66) = k - 61 by omega] at this
        rw [if_pos k2, this, a1 _ (by omega), if_pos (by omega)]; exact hR _ (by omega)
      · rw [if_neg k2]
        by_cases k3 : 74 ≤ k ∧ k < 82
        · have := (c1 (k - 74) (by omega)).2
          rw [show 74 + (k - 74) = k by omega, show 13 + (k - 74) = k - 61 by omega] at this
          rw [if_pos k3, this, a1 _ (by omega), if_pos (by omega)]; exact hR _ (by omega)
        · rw [if_neg k3, c2 166 k (by omega), a1 k (by omega), if_neg k1]; rfl
  · rw [pn_uI_ne (show 166 ≠ 164 by decide), c2 166 106 (by omega), a1 106 (by omega), if_neg (by omega)]
  · rw [pn_uI_off (by omega), c2 o k (by omega), a2 o k h1]
/-- the class: now begins -/
theorem kc_begin26 {I0 : bm_TI} {m : Nat} (hm : m ≤ 8) (h10 : I0 4 10 = nI m) : ∃ I', f_X8_begin I0 = some I' ∧ (∀ q, q < m → I' 27 q = I0 6 q ∧ I' 28 q = I0 7 q ∧ I' 29 q = 0 ∧ I' 30 q = -1 ∧ I' 31 q = 0) ∧ (I' 26 7 = 0 ∧ I' 26 8 = 0 ∧ I' 26 9 = 0 ∧ I' 26 10 = 0 ∧ I' 26 11 = 0) ∧ ∀ o k, (o < 26 ∨ 31 < o) → I' o k = I0 o k := by
  have key : ∀ (i j k : Nat) (I : bm_TI), j + i = m → i < k → (∀ q, q < j → I 27 q = I0 6 q ∧ I 28 q = I0 7 q ∧ I 29 q = 0 ∧ I 30 q = -1 ∧ I 31 q = 0) → (∀ o q, (o < 27 ∨ 31 < o) → I o q = I0 o q) → ∃ I', f_X8_begin_l2 k (nI j) I = some I' ∧ (∀ q, q < m → I' 27 q = I0 6 q ∧ I' 28 q = I0 7 q ∧ I' 29 q = 0 ∧ I' 30 q = -1 ∧ I' 31 q = 0) ∧ ∀ o q, (o < 27 ∨ 31 < o) → I' o q = I0 o q := by
    intro i
    induction i with
    | zero =>
      intro j k I hj hk h0 hf
      obtain ⟨k, rfl⟩ : ∃ q, k = q + 1 := ⟨k - 1, by omega⟩
      have : j = m := by omega
      subst this
      rw [f_X8_begin_l2, hf 4 10 (by omega), h10, if_pos (nI_le (Nat.le_refl _) (by omega))]
      exact ⟨I, rfl, h0, hf⟩
    | succ i ih =>
      intro j k I hj hk h0 hf
      obtain ⟨k, rfl⟩ : ∃ q, k = q + 1 := ⟨k - 1, by omega⟩
      rw [f_X8_begin_l2, hf 4 10 (by omega), h10, if_neg (nI_ge (by omega) (by omega)), if_pos (bm_ixk (show j < 8 by omega) (by omega)), nI_clamp (by omega), nI_1]
      refine ih (j + 1) k _ (by omega) (by omega) (fun q hq => ?_) (fun o q ho => ?_)
      · by_cases e : q = j
        · subst e
          simp (disch := omega) only [pn_uI_hit, pn_uI_ne]
          exact ⟨hf 6 q (by omega), hf 7 q (by omega), trivial, trivial, trivial⟩
        · simp (disch := omega) only [pn_uI_ne2, pn_uI_ne]
          exact h0 q (by omega)
      · simp (disch := omega) only [pn_uI_ne]; exact hf o q ho
  obtain ⟨I', e, h1, h2⟩ := key m 0 1000 I0 (by omega) (by omega) (fun q hq => by omega) (fun _ _ _ => rfl)
  have e' : f_X8_begin_l2 1000 0 I0 = some I' := e
  unfold f_X8_begin
  rw [e']
  refine ⟨_, rfl, fun q hq => ?_, ?_, fun o k ho => ?_⟩
  · simp (disch := omega) only [pn_uI_ne]; exact h1 q hq
  · simp (disch := omega) only [pn_uI_hit, pn_uI_ne2]
    exact ⟨trivial, trivial, trivial, trivial, trivial⟩
  · simp (disch := omega) only [pn_uI_ne]; exact h2 o k (by omega)
