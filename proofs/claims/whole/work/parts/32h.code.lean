/-! by which lifts a new order is least mistaken -/
theorem pg_hole : ∀ (n K : Nat) (v : Nat → Nat), n < K → ∃ i, i < K ∧ ∀ o, o < n → v o ≠ i := by
  intro n
  induction n with
  | zero => intro K v h; exact ⟨0, h, fun o ho => by omega⟩
  | succ n ih =>
    intro K v h
    obtain ⟨i, hi, hv⟩ := ih (K - 1) (fun o => if v n < v o then v o - 1 else v o) (by omega)
    refine ⟨if i < v n then i else i + 1, by split <;> omega, fun o ho => ?_⟩
    by_cases e : o = n
    · subst e; split <;> omega
    · have := hv o (by omega)
      by_cases h1 : v n < v o
      · rw [if_pos h1] at this; split <;> omega
      · rw [if_neg h1] at this; split <;> omega
def pt_un (T : pt_T) (a b o : Nat) : Nat := (if T (39 + o) = a then 0 else 1) + (if T (46 + o) = b then 0 else 1)
def pt_few (T : pt_T) (a b n : Nat) : Nat := match n with
  | 0 => 2
  | k + 1 => min (pt_few T a b k) (pt_un T a b k)
theorem pt_few_le (T : pt_T) (a b n : Nat) : pt_few T a b n ≤ 2 := by
  induction n with
  | zero => exact Nat.le_refl _
  | succ k ih => unfold pt_few; omega
theorem pt_un_le (T : pt_T) (a b o : Nat) : pt_un T a b o ≤ 2 := by unfold pt_un; split <;> split <;> omega
theorem pt_few_0 {T : pt_T} {a b n : Nat} (h : pt_few T a b n = 0) : ∃ o, o < n ∧ T (39 + o) = a ∧ T (46 + o) = b := by
  induction n with
  | zero => cases h
  | succ k ih =>
    unfold pt_few at h
    by_cases h0 : pt_few T a b k = 0
    · obtain ⟨o, ho, h1⟩ := ih h0
      exact ⟨o, by omega, h1⟩
    · have h1 : pt_un T a b k = 0 := by omega
      unfold pt_un at h1
      by_cases c1 : T (39 + k) = a
      · by_cases c2 : T (46 + k) = b
        · exact ⟨k, by omega, c1, c2⟩
        · rw [if_neg c2] at h1; omega
      · rw [if_neg c1] at h1; omega
theorem pt_few_1 {T : pt_T} {a b n o : Nat} (ho : o < n) (h1 : T (39 + o) = a) (h2 : T (46 + o) = b) : pt_few T a b n = 0 := by
  induction n with
  | zero => omega
  | succ k ih =>
    unfold pt_few
    by_cases e : o = k
    · subst e
      have : pt_un T a b o = 0 := by unfold pt_un; rw [if_pos h1, if_pos h2]
      omega
    · have := ih (by omega); omega
theorem pt_few_ord (T : pt_T) (a b : Nat) : pt_few T a b (T 1) = 0 ↔ pt_ord T a b ≠ 0 := by
  constructor
  · intro h e
    obtain ⟨o, ho, h1, h2⟩ := pt_few_0 h
    have := tf_none e o ho
    rw [h1, h2] at this
    simp at this
  · intro h
    obtain ⟨j, hj⟩ : ∃ j, pt_ord T a b = j + 1 := ⟨pt_ord T a b - 1, by omega⟩
    have := tf_some hj
    obtain ⟨h1, h2⟩ := this
    simp only [Bool.and_eq_true, decide_eq_true_eq] at h2
    exact pt_few_1 h1 h2.1 h2.2
/-- the two lifts by 4, and most and 1 -/
def cd_step (T : pt_T) (a b : Nat) (s : Nat × Nat) : Nat × Nat := if 0 < pt_few T a b (T 1) ∧ s.2 ≤ pt_few T a b (T 1) then (4 * a + b, pt_few T a b (T 1) + 1) else s
def cd_row (T : pt_T) (a : Nat) (s : Nat × Nat) (n : Nat) : Nat × Nat := match n with
  | 0 => s
  | k + 1 => if k = 0 then s else cd_step T a k (cd_row T a s k)
def cd_all (T : pt_T) (n : Nat) : Nat × Nat := match n with
  | 0 => (0, 0)
  | k + 1 => if k = 0 then (0, 0) else cd_row T k (cd_all T k) 4
theorem cd_step_b (T : pt_T) (a b : Nat) (ha : a ≤ 3) (hb : b ≤ 3) (s : Nat × Nat) (h : s.1 ≤ 15 ∧ s.2 ≤ 3) : (cd_step T a b s).1 ≤ 15 ∧ (cd_step T a b s).2 ≤ 3 := by
  have := pt_few_le T a b (T 1)
  unfold cd_step
  split
  · exact ⟨by show 4 * a + b ≤ 15; omega, by show pt_few T a b (T 1) + 1 ≤ 3; omega⟩
  · exact h
theorem cd_row_b (T : pt_T) (a : Nat) (ha : a ≤ 3) (s : Nat × Nat) (h : s.1 ≤ 15 ∧ s.2 ≤ 3) (n : Nat) (hn : n ≤ 4) : (cd_row T a s n).1 ≤ 15 ∧ (cd_row T a s n).2 ≤ 3 := by
  induction n with
  | zero => exact h
  | succ k ih =>
    unfold cd_row
    split
    · exact h
    · exact cd_step_b T a k ha (by omega) _ (ih (by omega))
theorem cd_all_b (T : pt_T) (n : Nat) (hn : n ≤ 4) : (cd_all T n).1 ≤ 15 ∧ (cd_all T n).2 ≤ 3 := by
  induction n with
  | zero => exact ⟨Nat.zero_le _, Nat.zero_le _⟩
  | succ k ih =>
    unfold cd_all
    split
    · exact ⟨Nat.zero_le _, Nat.zero_le _⟩
    · exact cd_row_b T k (by omega) _ (ih (by omega)) 4 (by omega)
/-- nothing found: none of these is free -/
theorem cd_step_z (T : pt_T) (a b : Nat) (ha : 1 ≤ a) (s : Nat × Nat) (hs : s.1 = 0 → s.2 = 0) : ((cd_step T a b s).1 = 0 → (cd_step T a b s).2 = 0) ∧ ((cd_step T a b s).1 = 0 → s.1 = 0 ∧ pt_few T a b (T 1) = 0) := by
  unfold cd_step
  split
  · exact ⟨fun h => by have : 4 * a + b = 0 := h; omega, fun h => by have : 4 * a + b = 0 := h; omega⟩
  · rename_i h
    refine ⟨hs, fun h0 => ⟨h0, ?_⟩⟩
    have := hs h0
    omega
theorem cd_row_z (T : pt_T) (a : Nat) (ha : 1 ≤ a) (s : Nat × Nat) (hs : s.1 = 0 → s.2 = 0) (n : Nat) : ((cd_row T a s n).1 = 0 → (cd_row T a s n).2 = 0) ∧ ((cd_row T a s n).1 = 0 → s.1 = 0 ∧ ∀ b, 1 ≤ b → b < n → pt_few T a b (T 1) = 0) := by
  induction n with
  | zero => exact ⟨hs, fun h => ⟨h, fun b _ hb => by omega⟩⟩
  | succ k ih =>
    unfold cd_row
    split
    · exact ⟨hs, fun h => ⟨h, fun b _ hb => by omega⟩⟩
    · have := cd_step_z T a k ha _ ih.1
      refine ⟨this.1, fun h => ?_⟩
      have h2 := this.2 h
      have h3 := ih.2 h2.1
      refine ⟨h3.1, fun b hb1 hb2 => ?_⟩
      by_cases e : b = k
      · rw [e]; exact h2.2
      · exact h3.2 b hb1 (by omega)
theorem cd_all_z (T : pt_T) (n : Nat) : ((cd_all T n).1 = 0 → (cd_all T n).2 = 0) ∧ ((cd_all T n).1 = 0 → ∀ a, 1 ≤ a → a < n → ∀ b, 1 ≤ b → b < 4 → pt_few T a b (T 1) = 0) := by
  induction n with
  | zero => exact ⟨fun _ => rfl, fun _ a _ h => by omega⟩
  | succ k ih =>
    unfold cd_all
    split
    · exact ⟨fun _ => rfl, fun _ a _ h => by omega⟩
    · have := cd_row_z T k (by omega) _ ih.1 4
      refine ⟨this.1, fun h a ha1 ha2 b hb1 hb2 => ?_⟩
      have h2 := this.2 h
      by_cases e : a = k
      · rw [e]; exact h2.2 b hb1 hb2
      · exact ih.2 h2.1 a ha1 (by omega) b hb1 hb2
theorem cd_some {T : pt_T} (h7 : T 1 ≤ 7) : (cd_all T 4).1 ≠ 0 := by
  intro h
  have hz := (cd_all_z T 4).2 h
  obtain ⟨i, hi, hv⟩ := pg_hole (T 1) 9 (fun o => 3 * (T (39 + o) - 1) + (T (46 + o) - 1)) (by omega)
  obtain ⟨o, ho, h1, h2⟩ := pt_few_0 (hz (i / 3 + 1) (by omega) (by omega) (i % 3 + 1) (by omega) (by omega))
  have := hv o ho
  omega
section CD
variable {I : bm_TI} {T : pt_T}
theorem kc_few (hP : pp_A I 4 T) (hA : pt_VA T) {a b : Nat} (ha : a ≤ 3) (hb : b ≤ 3) : f_X0_fewestUnlike I (nI a) (nI b) = some (nI (pt_few T a b (T 1))) := by
  have h7 := hA.2.1
  have key : f_X0_fewestUnlike_l5 I (nI a) (nI b) 1000 2 0 = some (nI (pt_few T a b (T 1))) := by
    refine pl_row (F := fun k j s => f_X0_fewestUnlike_l5 I (nI a) (nI b) k s (nI j)) (n := T 1) (fun j => nI (pt_few T a b j)) ?_ ?_ 1000 (by omega)
    · intro k
      show f_X0_fewestUnlike_l5 I (nI a) (nI b) (k + 1) _ (nI (T 1)) = _
      rw [f_X0_fewestUnlike_l5, pa_orders hP, if_pos (Int32.le_refl _)]
    · intro k j hj
      show f_X0_fewestUnlike_l5 I (nI a) (nI b) (k + 1) _ (nI j) = f_X0_fewestUnlike_l5 I (nI a) (nI b) k (nI (min _ _)) (nI (j + 1))
      have ho := hA.2.2.2.2.2.2.2.2.2.2.2.2.1 j hj
      have hl := pt_few_le T a b j
      have hu : f_X0_unlike I (nI j) (nI a) (nI b) = some (nI (pt_un T a b j)) := by
        unfold f_X0_unlike pt_un
        simp (disch := omega) only [pn_l0, pn_l1, pn_l2, pn_l3, pn_l4, pn_l5, pn_l6, pn_l7, pn_l8, pn_l9, pn_l10, pn_l11, pn_l12, pn_l13, pn_l15, pn_l20, pn_l21, pn_l22, pn_l23, pn_l24, pn_l30, pn_l31, pn_l32, pn_l39, pn_l40, pn_l41, pn_l45, pn_l46, pn_l48, pn_l53, pn_l57, pn_l58, pn_l59, pn_l60, pn_l61, pn_l62, pn_l63, pn_l64, pn_l65, pn_l66, pn_l74, pn_l82, pn_l90, pn_l97, pn_l98, pn_l99, pn_l106, pn_l107, pn_l120, pn_l122, pn_l135, pn_l255, pn_l287, pn_l300, pn_l315, pn_l360, pn_l400, pn_l900, pn_l940, pn_l1000, pn_l1000000, pn_mone, nI_add, pk_mul, nI_clamp, bm_ixk, pn_ltI, pn_leI, pn_eqI, pn_xeq, pn_xeq2, pn_xx, pn_xltI, pn_xleI, pn_xgtI, pn_xgeI, pn_xadd, pn_subx, pn_addx, Option.bind_some, ↓reduceIte, pa_first hP, pa_second hP, Nat.reduceAdd]
        split <;> split <;> rfl
      have hul := pt_un_le T a b j
      rw [f_X0_fewestUnlike_l5, hu]
      simp (disch := omega) only [pn_l0, pn_l1, pn_l2, pn_l3, pn_l4, pn_l5, pn_l6, pn_l7, pn_l8, pn_l9, pn_l10, pn_l11, pn_l12, pn_l13, pn_l15, pn_l20, pn_l21, pn_l22, pn_l23, pn_l24, pn_l30, pn_l31, pn_l32, pn_l39, pn_l40, pn_l41, pn_l45, pn_l46, pn_l48, pn_l53, pn_l57, pn_l58, pn_l59, pn_l60, pn_l61, pn_l62, pn_l63, pn_l64, pn_l65, pn_l66, pn_l74, pn_l82, pn_l90, pn_l97, pn_l98, pn_l99, pn_l106, pn_l107, pn_l120, pn_l122, pn_l135, pn_l255, pn_l287, pn_l300, pn_l315, pn_l360, pn_l400, pn_l900, pn_l940, pn_l1000, pn_l1000000, pn_mone, nI_add, pk_mul, nI_clamp, bm_ixk, pn_ltI, pn_leI, pn_eqI, pn_xeq, pn_xeq2, pn_xx, pn_xltI, pn_xleI, pn_xgtI, pn_xgeI, pn_xadd, pn_subx, pn_addx, Option.bind_some, ↓reduceIte, pa_orders hP, Nat.not_le.mpr hj, kc_min]
  unfold f_X0_fewestUnlike
  rw [key]; rfl
/-- as the class has it -/
def cd_K (n : Nat) : Int32 := if n = 0 then -1 else nI n
theorem kc_code_r (hP : pp_A I 4 T) (hA : pt_VA T) {a : Nat} (ha1 : 1 ≤ a) (ha : a ≤ 3) (v : Nat × Nat) (hv : v.1 ≤ 15 ∧ v.2 ≤ 3) : f_X0_newLifts_l14 I (nI a) 1000 (cd_K v.1) (pn_x v.2) 1 = some (cd_K (cd_row T a v 4).1, pn_x (cd_row T a v 4).2) := by
  have key := pl_from (σ := Int32 × Int32) (F := fun k i s => f_X0_newLifts_l14 I (nI a) k s.1 s.2 i) (n := 4) (fun j s => 1 ≤ j ∧ s = (cd_K (cd_row T a v j).1, pn_x (cd_row T a v j).2)) (Q := fun t => t = (cd_K (cd_row T a v 4).1, pn_x (cd_row T a v 4).2)) ?_ ?_ 1000 1 (cd_K v.1, pn_x v.2) (by omega) (by omega) ⟨by omega, rfl⟩
  · obtain ⟨t, e, h⟩ := key
    rw [h] at e; exact e
  · intro k s ⟨_, hs⟩
    refine ⟨s, ?_, hs⟩
    show f_X0_newLifts_l14 I (nI a) (k + 1) s.1 s.2 (nI 4) = _
    rw [f_X0_newLifts_l14, if_pos (show (3 : Int32) < nI 4 by decide)]
  · intro k j s hj ⟨h1, hs⟩
    right
    have hb := cd_row_b T a ha v hv j (by omega)
    have hfl := pt_few_le T a j (T 1)
    subst hs
    show ∃ s' : Int32 × Int32, f_X0_newLifts_l14 I (nI a) (k + 1) (cd_K (cd_row T a v j).1) (pn_x (cd_row T a v j).2) (nI j) = f_X0_newLifts_l14 I (nI a) k s'.1 s'.2 (nI (j + 1)) ∧ 1 ≤ j + 1 ∧ s' = (cd_K (cd_row T a v (j + 1)).1, pn_x (cd_row T a v (j + 1)).2)
    rw [f_X0_newLifts_l14, kc_few hP hA ha (by omega), cd_row, if_neg (show ¬ j = 0 by omega)]
    generalize cd_row T a v j = w at hb ⊢
    have g3 : ¬ 3 < j := by omega
    simp (disch := omega) only [pn_l0, pn_l1, pn_l2, pn_l3, pn_l4, pn_l5, pn_l6, pn_l7, pn_l8, pn_l9, pn_l10, pn_l11, pn_l12, pn_l13, pn_l15, pn_l20, pn_l21, pn_l22, pn_l23, pn_l24, pn_l30, pn_l31, pn_l32, pn_l39, pn_l40, pn_l41, pn_l45, pn_l46, pn_l48, pn_l53, pn_l57, pn_l58, pn_l59, pn_l60, pn_l61, pn_l62, pn_l63, pn_l64, pn_l65, pn_l66, pn_l74, pn_l82, pn_l90, pn_l97, pn_l98, pn_l99, pn_l106, pn_l107, pn_l120, pn_l122, pn_l135, pn_l255, pn_l287, pn_l300, pn_l315, pn_l360, pn_l400, pn_l900, pn_l940, pn_l1000, pn_l1000000, pn_mone, nI_add, pk_mul, nI_clamp, bm_ixk, pn_ltI, pn_leI, pn_eqI, pn_xeq, pn_xeq2, pn_xx, pn_xltI, pn_xleI, pn_xgtI, pn_xgeI, pn_xadd, pn_subx, pn_addx, Option.bind_some, ↓reduceIte, g3, Nat.le_zero]
    unfold cd_step
    by_cases c1 : pt_few T a j (T 1) = 0
    · simp only [c1, ↓reduceIte, Nat.lt_irrefl, false_and]
      exact ⟨_, rfl, by omega, rfl⟩
    · have c1' : 0 < pt_few T a j (T 1) := by omega
      by_cases c2 : w.2 ≤ pt_few T a j (T 1)
      · have c3 : ¬ pt_few T a j (T 1) < w.2 := by omega
        simp only [c1, c1', c2, c3, ↓reduceIte, true_and]
        exact ⟨(nI (4 * a + j), nI (pt_few T a j (T 1))), rfl, by omega, by unfold cd_K; rw [if_neg (show ¬ 4 * a + j = 0 by omega), pn_xs]⟩
      · have c3 : pt_few T a j (T 1) < w.2 := by omega
        simp only [c1, c2, c3, ↓reduceIte, and_false]
        exact ⟨_, rfl, by omega, rfl⟩
theorem kc_code (hP : pp_A I 4 T) (hA : pt_VA T) : f_X0_newLifts I = some (nI (cd_all T 4).1) := by
  have key := pl_from (σ := Int32 × Int32) (F := fun k i s => f_X0_newLifts_l6 I k s.1 s.2 i) (n := 4) (fun j s => 1 ≤ j ∧ s = (cd_K (cd_all T j).1, pn_x (cd_all T j).2)) (Q := fun t => t = cd_K (cd_all T 4).1) ?_ ?_ 1000 1 (-1, -1) (by omega) (by omega) ⟨by omega, rfl⟩
  · obtain ⟨t, e, h⟩ := key
    rw [h] at e
    have e' : f_X0_newLifts_l6 I 1000 (-1) (-1) 1 = some (cd_K (cd_all T 4).1) := e
    unfold f_X0_newLifts
    rw [e']
    have := cd_some hA.2.1
    unfold cd_K
    rw [if_neg this]; rfl
  · intro k s ⟨_, hs⟩
    refine ⟨s.1, ?_, by rw [hs]⟩
    show f_X0_newLifts_l6 I (k + 1) s.1 s.2 (nI 4) = _
    rw [f_X0_newLifts_l6, if_pos (show (3 : Int32) < nI 4 by decide)]
  · intro k j s hj ⟨h1, hs⟩
    right
    have hb := cd_all_b T j (by omega)
    subst hs
    show ∃ s' : Int32 × Int32, f_X0_newLifts_l6 I (k + 1) (cd_K (cd_all T j).1) (pn_x (cd_all T j).2) (nI j) = f_X0_newLifts_l6 I k s'.1 s'.2 (nI (j + 1)) ∧ 1 ≤ j + 1 ∧ s' = (cd_K (cd_all T (j + 1)).1, pn_x (cd_all T (j + 1)).2)
    rw [f_X0_newLifts_l6, if_neg (show ¬ (3 : Int32) < nI j from fun h => by have := (nI_ltI (a := 3) (by omega) (by omega)).mp h; omega), kc_code_r hP hA h1 (by omega) _ hb, nI_1, cd_all, if_neg (by omega)]
    exact ⟨_, rfl, by omega, rfl⟩
theorem pq_code_r (hR : pp_R I T) (hA : pt_VA T) {a : Nat} (ha1 : 1 ≤ a) (ha : a ≤ 3) (v : Nat × Nat) (hv : v.1 ≤ 15 ∧ v.2 ≤ 3) : f_X12_code_l19 I (nI a) 1000 (nI v.1) (pn_x v.2) 1 = some (nI (cd_row T a v 4).1, pn_x (cd_row T a v 4).2) := by
  have h7 := hA.2.1
  have key := pl_from (σ := Int32 × Int32) (F := fun k i s => f_X12_code_l19 I (nI a) k s.1 s.2 i) (n := 4) (fun j s => 1 ≤ j ∧ s = (nI (cd_row T a v j).1, pn_x (cd_row T a v j).2)) (Q := fun t => t = (nI (cd_row T a v 4).1, pn_x (cd_row T a v 4).2)) ?_ ?_ 1000 1 (nI v.1, pn_x v.2) (by omega) (by omega) ⟨by omega, rfl⟩
  · obtain ⟨t, e, h⟩ := key
    rw [h] at e; exact e
  · intro k s ⟨_, hs⟩
    refine ⟨s, ?_, hs⟩
    show f_X12_code_l19 I (nI a) (k + 1) s.1 s.2 (nI 4) = _
    rw [f_X12_code_l19, if_pos (show (4 : Int32) ≤ nI 4 by decide)]
  · intro k j s hj ⟨h1, hs⟩
    right
    have hb := cd_row_b T a ha v hv j (by omega)
    have hfl := pt_few_le T a j (T 1)
    subst hs
    show ∃ s' : Int32 × Int32, f_X12_code_l19 I (nI a) (k + 1) (nI (cd_row T a v j).1) (pn_x (cd_row T a v j).2) (nI j) = f_X12_code_l19 I (nI a) k s'.1 s'.2 (nI (j + 1)) ∧ 1 ≤ j + 1 ∧ s' = (nI (cd_row T a v (j + 1)).1, pn_x (cd_row T a v (j + 1)).2)
    rw [f_X12_code_l19, cd_row, if_neg (show ¬ j = 0 by omega)]
    generalize cd_row T a v j = w at hb ⊢
    have hfew : ∀ x y, f_X12_code_l31 I x y (nI a) (nI j) 1000 2 0 = some (nI (pt_few T a j (T 1))) := by
      intro x y
      refine pl_row (F := fun k i s => f_X12_code_l31 I x y (nI a) (nI j) k s (nI i)) (n := T 1) (fun i => nI (pt_few T a j i)) ?_ ?_ 1000 (by omega)
      · intro k
        show f_X12_code_l31 I x y (nI a) (nI j) (k + 1) _ (nI (T 1)) = _
        rw [f_X12_code_l31, hR 1 (by omega), if_pos (Int32.le_refl _)]
      · intro k i hi
        show f_X12_code_l31 I x y (nI a) (nI j) (k + 1) _ (nI i) = f_X12_code_l31 I x y (nI a) (nI j) k (nI (min (pt_few T a j i) (pt_un T a j i))) (nI (i + 1))
        have ho := hA.2.2.2.2.2.2.2.2.2.2.2.2.1 i hi
        have hl := pt_few_le T a j i
        rw [f_X12_code_l31]
        simp (disch := omega) only [pn_l0, pn_l1, pn_l2, pn_l3, pn_l4, pn_l5, pn_l6, pn_l7, pn_l8, pn_l9, pn_l10, pn_l11, pn_l12, pn_l13, pn_l15, pn_l20, pn_l21, pn_l22, pn_l23, pn_l24, pn_l30, pn_l31, pn_l32, pn_l39, pn_l40, pn_l41, pn_l45, pn_l46, pn_l48, pn_l53, pn_l57, pn_l58, pn_l59, pn_l60, pn_l61, pn_l62, pn_l63, pn_l64, pn_l65, pn_l66, pn_l74, pn_l82, pn_l90, pn_l97, pn_l98, pn_l99, pn_l106, pn_l107, pn_l120, pn_l122, pn_l135, pn_l255, pn_l287, pn_l300, pn_l315, pn_l360, pn_l400, pn_l900, pn_l940, pn_l1000, pn_l1000000, pn_mone, nI_add, pk_mul, nI_clamp, bm_ixk, pn_ltI, pn_leI, pn_eqI, pn_xeq, pn_xeq2, pn_xx, pn_xltI, pn_xleI, pn_xgtI, pn_xgeI, pn_xadd, pn_subx, pn_addx, Option.bind_some, ↓reduceIte, hR, Nat.not_le.mpr hi, pq_lesser, Nat.reduceAdd]
        unfold pt_un
        by_cases c1 : T (39 + i) = a
        · by_cases c2 : T (46 + i) = j
          · simp only [c1, c2, ↓reduceIte, Nat.reduceAdd]
          · have c2' : ¬ j = T (46 + i) := fun e => c2 e.symm
            simp only [c1, c2, c2', ↓reduceIte, Nat.reduceAdd]
        · have c1' : ¬ a = T (39 + i) := fun e => c1 e.symm
          by_cases c2 : T (46 + i) = j
          · simp only [c1, c1', c2, ↓reduceIte, Nat.reduceAdd]
          · have c2' : ¬ j = T (46 + i) := fun e => c2 e.symm
            simp only [c1, c1', c2, c2', ↓reduceIte, Nat.reduceAdd]
    have hol : pt_ord T a j ≤ T 1 := tf_le _ _
    have g4 : ¬ 4 ≤ j := by omega
    rw [hfew, pq_orderBy hR hA ha (by omega)]
    simp (disch := omega) only [pn_l0, pn_l1, pn_l2, pn_l3, pn_l4, pn_l5, pn_l6, pn_l7, pn_l8, pn_l9, pn_l10, pn_l11, pn_l12, pn_l13, pn_l15, pn_l20, pn_l21, pn_l22, pn_l23, pn_l24, pn_l30, pn_l31, pn_l32, pn_l39, pn_l40, pn_l41, pn_l45, pn_l46, pn_l48, pn_l53, pn_l57, pn_l58, pn_l59, pn_l60, pn_l61, pn_l62, pn_l63, pn_l64, pn_l65, pn_l66, pn_l74, pn_l82, pn_l90, pn_l97, pn_l98, pn_l99, pn_l106, pn_l107, pn_l120, pn_l122, pn_l135, pn_l255, pn_l287, pn_l300, pn_l315, pn_l360, pn_l400, pn_l900, pn_l940, pn_l1000, pn_l1000000, pn_mone, nI_add, pk_mul, nI_clamp, bm_ixk, pn_ltI, pn_leI, pn_eqI, pn_xeq, pn_xeq2, pn_xx, pn_xltI, pn_xleI, pn_xgtI, pn_xgeI, pn_xadd, pn_subx, pn_addx, Option.bind_some, ↓reduceIte, g4]
    unfold cd_step
    by_cases c1 : pt_few T a j (T 1) = 0
    · have := (pt_few_ord T a j).mp c1
      have c0 : 0 < pt_ord T a j := by omega
      simp only [c0, c1, ↓reduceIte, Nat.lt_irrefl, false_and]
      exact ⟨_, rfl, by omega, rfl⟩
    · have c0 : ¬ 0 < pt_ord T a j := fun h => c1 ((pt_few_ord T a j).mpr (by omega))
      have c1' : 0 < pt_few T a j (T 1) := by omega
      by_cases c2 : w.2 ≤ pt_few T a j (T 1)
      · simp only [c0, c1', c2, ↓reduceIte, true_and]
        exact ⟨(nI (4 * a + j), nI (pt_few T a j (T 1))), rfl, by omega, by rw [pn_xs]⟩
      · simp only [c0, c2, ↓reduceIte, and_false]
        exact ⟨_, rfl, by omega, rfl⟩
theorem pq_code (hR : pp_R I T) (hA : pt_VA T) : f_X12_code_l11 I 1000 0 (-1) 1 = some (nI (cd_all T 4).1) := by
  have key := pl_from (σ := Int32 × Int32) (F := fun k i s => f_X12_code_l11 I k s.1 s.2 i) (n := 4) (fun j s => 1 ≤ j ∧ s = (nI (cd_all T j).1, pn_x (cd_all T j).2)) (Q := fun t => t = nI (cd_all T 4).1) ?_ ?_ 1000 1 (0, -1) (by omega) (by omega) ⟨by omega, rfl⟩
  · obtain ⟨t, e, h⟩ := key
    rw [h] at e; exact e
  · intro k s ⟨_, hs⟩
    refine ⟨s.1, ?_, by rw [hs]⟩
    show f_X12_code_l11 I (k + 1) s.1 s.2 (nI 4) = _
    rw [f_X12_code_l11, if_pos (show (4 : Int32) ≤ nI 4 by decide)]
  · intro k j s hj ⟨h1, hs⟩
    right
    have hb := cd_all_b T j (by omega)
    subst hs
    show ∃ s' : Int32 × Int32, f_X12_code_l11 I (k + 1) (nI (cd_all T j).1) (pn_x (cd_all T j).2) (nI j) = f_X12_code_l11 I k s'.1 s'.2 (nI (j + 1)) ∧ 1 ≤ j + 1 ∧ s' = (nI (cd_all T (j + 1)).1, pn_x (cd_all T (j + 1)).2)
    rw [f_X12_code_l11, if_neg (show ¬ (4 : Int32) ≤ nI j from nI_ge (b := 4) hj (by omega)), pq_code_r hR hA h1 (by omega) _ hb, nI_1, cd_all, if_neg (by omega)]
    exact ⟨_, rfl, by omega, rfl⟩
end CD
section EH
variable {I : bm_TI} {J : bm_TJ} {W : bm_TR}
theorem e_code (hI : bm_Inv I J W) : ∃ v I2, f_X11_code I = some v ∧ f_X12_code I = some (v, I2) ∧ bm_Inv I2 J W := by
  obtain ⟨T, S, hF, hU, hG0, hG1, hT, hM, hK⟩ := id hI
  obtain ⟨hR, _, hP, hQ, _, _, hA, hS, _⟩ := id hF
  have R0 : pp_R (bm_uI I 164 0 0) T := pr_164 hR
  unfold f_X11_code f_X12_code
  rw [kc_code hP hA, pq_code R0 hA]
  exact ⟨_, _, rfl, rfl, iv_q hI⟩
end EH
