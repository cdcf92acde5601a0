/-! who is under whom, over others, too -/
theorem pt_cnt_le (n : Nat) (p : Nat → Bool) : pt_cnt n p ≤ n := by
  induction n with
  | zero => exact Nat.le_refl _
  | succ k ih =>
    unfold pt_cnt
    have : (p k).toNat ≤ 1 := Bool.toNat_le _
    omega
theorem pt_cnt_congr {n : Nat} {p q : Nat → Bool} (h : ∀ j, j < n → p j = q j) : pt_cnt n p = pt_cnt n q := by
  induction n with
  | zero => rfl
  | succ k ih => unfold pt_cnt; rw [ih (fun j hj => h j (by omega)), h k (by omega)]
/-- one more -/
theorem pt_cnt_add {n a : Nat} {p q : Nat → Bool} (ha : a < n) (h0 : p a = false) (h : ∀ j, j < n → q j = (decide (j = a) || p j)) : pt_cnt n q = pt_cnt n p + 1 := by
  induction n with
  | zero => omega
  | succ k ih =>
    unfold pt_cnt
    by_cases e : a = k
    · subst e
      rw [pt_cnt_congr (q := p) (fun j hj => by rw [h j (by omega), decide_eq_false (by omega), Bool.false_or]), h a (by omega), h0, decide_eq_true rfl]
      rfl
    · rw [ih (by omega) (fun j hj => h j (by omega)), h k (by omega), decide_eq_false (by omega), Bool.false_or]
      omega
/-- fewer than all -/
theorem pt_cnt_lt {n a : Nat} {p : Nat → Bool} (ha : a < n) (h0 : p a = false) : pt_cnt n p < n := by
  have h1 := pt_cnt_add (q := fun j => decide (j = a) || p j) ha h0 (fun _ _ => rfl)
  have h2 := pt_cnt_le n (fun j => decide (j = a) || p j)
  omega
/-- who is over each -/
def pt_anc (T : pt_T) (c : Nat → Nat → Bool) : Prop := (∀ j, j < T 0 → ∀ i, c j i = (decide (0 < T (31 + j)) && (decide (i + 1 = T (31 + j)) || c (T (31 + j) - 1) i))) ∧ ∀ j, j < T 0 → c j j = false
theorem pt_anc_cnt {T : pt_T} {c : Nat → Nat → Bool} (h : pt_anc T c) {j : Nat} (hj : j < T 0) (hu : T (31 + j) ≤ T 0) (hp : 0 < T (31 + j)) : pt_cnt (T 0) (c j) = pt_cnt (T 0) (c (T (31 + j) - 1)) + 1 := by
  refine pt_cnt_add (a := T (31 + j) - 1) (by omega) (h.2 _ (by omega)) (fun i hi => ?_)
  rw [h.1 j hj i, decide_eq_true hp, Bool.true_and]
  congr 1
  apply decide_eq_decide.mpr
  omega
section UN
variable {I : bm_TI} {T : pt_T}
theorem kc_isUnder {a : Nat} (hA : pt_VA T) {c : Nat → Nat → Bool} (hc : pt_anc T c) (hX : ∀ j, j < T 0 → I (a + 5) j = pn_x (T (31 + j))) {m x : Nat} (hm : m < T 0) (hx : x < 2 ^ 31) : f_X0_isUnder I a (nI m) (nI x) = some (c m x) := by
  have h8 := hA.1
  have hu := hA.2.2.2.2.2.2.2.2.2.2.1
  have key : ∀ d k n j, j < T 0 → pt_cnt (T 0) (c j) = d → n + d ≤ 8 → d < k → f_X0_isUnder_l10 I a (nI x) k (pn_x (T (31 + j))) (nI n) = some (if c j x = true then .inl () else .inr ()) := by
    intro d
    induction d with
    | zero =>
      intro k n j hj hd hn hk
      obtain ⟨k, rfl⟩ : ∃ q, k = q + 1 := ⟨k - 1, by omega⟩
      have huj := hu j hj
      have hz : T (31 + j) = 0 := by
        apply Classical.byContradiction
        intro h
        have := pt_anc_cnt hc hj huj (by omega)
        omega
      have hcx : c j x = false := by rw [hc.1 j hj, hz]; rfl
      rw [f_X0_isUnder_l10, hz, hcx]
      simp (disch := omega) only [pn_l0, pn_l1, pn_l2, pn_l3, pn_l4, pn_l5, pn_l6, pn_l7, pn_l8, pn_l9, pn_l10, pn_l11, pn_l12, pn_l13, pn_l15, pn_l20, pn_l21, pn_l22, pn_l23, pn_l24, pn_l30, pn_l31, pn_l32, pn_l39, pn_l40, pn_l41, pn_l45, pn_l46, pn_l48, pn_l53, pn_l57, pn_l58, pn_l59, pn_l60, pn_l61, pn_l62, pn_l63, pn_l64, pn_l65, pn_l66, pn_l74, pn_l82, pn_l90, pn_l97, pn_l98, pn_l99, pn_l106, pn_l107, pn_l120, pn_l122, pn_l135, pn_l255, pn_l287, pn_l300, pn_l315, pn_l360, pn_l400, pn_l900, pn_l940, pn_l1000, pn_l1000000, pn_mone, nI_add, pk_mul, nI_clamp, bm_ixk, pn_ltI, pn_leI, pn_eqI, pn_xeq, pn_xeq2, pn_xx, pn_xltI, pn_xleI, pn_xgtI, pn_xgeI, pn_xadd, pn_subx, pn_addx, Option.bind_some, ↓reduceIte, Bool.false_eq_true]
      split <;> rfl
    | succ d ih =>
      intro k n j hj hd hn hk
      obtain ⟨k, rfl⟩ : ∃ q, k = q + 1 := ⟨k - 1, by omega⟩
      have huj := hu j hj
      by_cases hz : T (31 + j) = 0
      · have hcx : c j x = false := by rw [hc.1 j hj, hz]; rfl
        rw [f_X0_isUnder_l10, hz, hcx]
        simp (disch := omega) only [pn_l0, pn_l1, pn_l2, pn_l3, pn_l4, pn_l5, pn_l6, pn_l7, pn_l8, pn_l9, pn_l10, pn_l11, pn_l12, pn_l13, pn_l15, pn_l20, pn_l21, pn_l22, pn_l23, pn_l24, pn_l30, pn_l31, pn_l32, pn_l39, pn_l40, pn_l41, pn_l45, pn_l46, pn_l48, pn_l53, pn_l57, pn_l58, pn_l59, pn_l60, pn_l61, pn_l62, pn_l63, pn_l64, pn_l65, pn_l66, pn_l74, pn_l82, pn_l90, pn_l97, pn_l98, pn_l99, pn_l106, pn_l107, pn_l120, pn_l122, pn_l135, pn_l255, pn_l287, pn_l300, pn_l315, pn_l360, pn_l400, pn_l900, pn_l940, pn_l1000, pn_l1000000, pn_mone, nI_add, pk_mul, nI_clamp, bm_ixk, pn_ltI, pn_leI, pn_eqI, pn_xeq, pn_xeq2, pn_xx, pn_xltI, pn_xleI, pn_xgtI, pn_xgeI, pn_xadd, pn_subx, pn_addx, Option.bind_some, ↓reduceIte, Bool.false_eq_true]
        split <;> rfl
      · have h1 := pt_anc_cnt hc hj huj (by omega)
        rw [f_X0_isUnder_l10, pn_xp (by omega), hc.1 j hj x, decide_eq_true (show 0 < T (31 + j) by omega), Bool.true_and]
        have g8 : ¬ 8 ≤ n := by omega
        have hX' := hX (T (31 + j) - 1) (by omega)
        simp (disch := omega) only [pn_l0, pn_l1, pn_l2, pn_l3, pn_l4, pn_l5, pn_l6, pn_l7, pn_l8, pn_l9, pn_l10, pn_l11, pn_l12, pn_l13, pn_l15, pn_l20, pn_l21, pn_l22, pn_l23, pn_l24, pn_l30, pn_l31, pn_l32, pn_l39, pn_l40, pn_l41, pn_l45, pn_l46, pn_l48, pn_l53, pn_l57, pn_l58, pn_l59, pn_l60, pn_l61, pn_l62, pn_l63, pn_l64, pn_l65, pn_l66, pn_l74, pn_l82, pn_l90, pn_l97, pn_l98, pn_l99, pn_l106, pn_l107, pn_l120, pn_l122, pn_l135, pn_l255, pn_l287, pn_l300, pn_l315, pn_l360, pn_l400, pn_l900, pn_l940, pn_l1000, pn_l1000000, pn_mone, nI_add, pk_mul, nI_clamp, bm_ixk, pn_ltI, pn_leI, pn_eqI, pn_xeq, pn_xeq2, pn_xx, pn_xltI, pn_xleI, pn_xgtI, pn_xgeI, pn_xadd, pn_subx, pn_addx, Option.bind_some, ↓reduceIte, g8, hX']
        by_cases e : T (31 + j) - 1 = x
        · have e2 : x + 1 = T (31 + j) := by omega
          simp [e, e2]
          omega
        · have e2 : ¬ x + 1 = T (31 + j) := by omega
          have := ih k (n + 1) (T (31 + j) - 1) (by omega) (by omega) (by omega) (by omega)
          simp only [e, e2, ↓reduceIte, decide_false, Bool.false_or]
          split
          · omega
          · exact this
  have hlt := pt_cnt_lt hm (hc.2 m hm)
  unfold f_X0_isUnder
  rw [if_pos (bm_ixk (by omega) (by omega)), nI_clamp (by omega), hX m hm]
  have := key _ 1000 0 m hm rfl (by omega) (by omega)
  rw [show (nI 0 : Int32) = 0 from rfl] at this
  rw [this]
  cases c m x <;> rfl
theorem kc_allUnder (hP : pp_A I 4 T) (hA : pt_VA T) {c : Nat → Nat → Bool} (hc : pt_anc T c) {m : Nat} (hm : m < T 0) : f_X0_allUnder I (nI m) = some (nI (pt_set (T 0) (fun k => c k m))) := by
  have h8 := hA.1
  unfold f_X0_allUnder
  rw [pl_set (F := f_X0_allUnder_l4 I (nI m)) (p := fun k => c k m) h8]
  · rfl
  · intro q s
    rw [f_X0_allUnder_l4, pa_men hP, if_pos (Int32.le_refl _)]
  · intro q s j hj
    rw [f_X0_allUnder_l4, kc_isUnder hA hc (fun j hj => pa_under hP hj) hj (by omega)]
    simp (disch := omega) only [pn_l0, pn_l1, pn_l2, pn_l3, pn_l4, pn_l5, pn_l6, pn_l7, pn_l8, pn_l9, pn_l10, pn_l11, pn_l12, pn_l13, pn_l15, pn_l20, pn_l21, pn_l22, pn_l23, pn_l24, pn_l30, pn_l31, pn_l32, pn_l39, pn_l40, pn_l41, pn_l45, pn_l46, pn_l48, pn_l53, pn_l57, pn_l58, pn_l59, pn_l60, pn_l61, pn_l62, pn_l63, pn_l64, pn_l65, pn_l66, pn_l74, pn_l82, pn_l90, pn_l97, pn_l98, pn_l99, pn_l106, pn_l107, pn_l120, pn_l122, pn_l135, pn_l255, pn_l287, pn_l300, pn_l315, pn_l360, pn_l400, pn_l900, pn_l940, pn_l1000, pn_l1000000, pn_mone, nI_add, pk_mul, nI_clamp, bm_ixk, pn_ltI, pn_leI, pn_eqI, pn_xeq, pn_xeq2, pn_xx, pn_xltI, pn_xleI, pn_xgtI, pn_xgeI, pn_xadd, pn_subx, pn_addx, Option.bind_some, ↓reduceIte, pa_men hP, Nat.not_le.mpr hj, pn_shlN, pn_or]
    cases c j m <;> simp
theorem pq_allUnder_l (hR : pp_R I T) (hA : pt_VA T) {c : Nat → Nat → Bool} (hc : pt_anc T c) {m t : Nat} (hm : m < T 0) (ht : t < 31) : ∀ d k j s, j < T 0 → pt_cnt (T 0) (c j) = d → d < k → f_X12_allUnder_l27 I (nI m) (nI t) k (nI s) (pn_x (T (31 + j))) = some (nI (s ||| (if c j m = true then 2 ^ t else 0))) := by
  have h8 := hA.1
  have hu := hA.2.2.2.2.2.2.2.2.2.2.1
  intro d
  induction d with
  | zero =>
    intro k j s hj hd hk
    obtain ⟨k, rfl⟩ : ∃ q, k = q + 1 := ⟨k - 1, by omega⟩
    have huj := hu j hj
    have hz : T (31 + j) = 0 := by
      apply Classical.byContradiction
      intro h
      have := pt_anc_cnt hc hj huj (by omega)
      omega
    have hcx : c j m = false := by rw [hc.1 j hj, hz]; rfl
    rw [f_X12_allUnder_l27, hz, hcx]
    simp (disch := omega) only [pn_l0, pn_l1, pn_l2, pn_l3, pn_l4, pn_l5, pn_l6, pn_l7, pn_l8, pn_l9, pn_l10, pn_l11, pn_l12, pn_l13, pn_l15, pn_l20, pn_l21, pn_l22, pn_l23, pn_l24, pn_l30, pn_l31, pn_l32, pn_l39, pn_l40, pn_l41, pn_l45, pn_l46, pn_l48, pn_l53, pn_l57, pn_l58, pn_l59, pn_l60, pn_l61, pn_l62, pn_l63, pn_l64, pn_l65, pn_l66, pn_l74, pn_l82, pn_l90, pn_l97, pn_l98, pn_l99, pn_l106, pn_l107, pn_l120, pn_l122, pn_l135, pn_l255, pn_l287, pn_l300, pn_l315, pn_l360, pn_l400, pn_l900, pn_l940, pn_l1000, pn_l1000000, pn_mone, nI_add, pk_mul, nI_clamp, bm_ixk, pn_ltI, pn_leI, pn_eqI, pn_xeq, pn_xeq2, pn_xx, pn_xltI, pn_xleI, pn_xgtI, pn_xgeI, pn_xadd, pn_subx, pn_addx, Option.bind_some, ↓reduceIte, Bool.false_eq_true, Nat.le_refl, Nat.or_zero]
  | succ d ih =>
    intro k j s hj hd hk
    obtain ⟨k, rfl⟩ : ∃ q, k = q + 1 := ⟨k - 1, by omega⟩
    have huj := hu j hj
    by_cases hz : T (31 + j) = 0
    · have hcx : c j m = false := by rw [hc.1 j hj, hz]; rfl
      rw [f_X12_allUnder_l27, hz, hcx]
      simp (disch := omega) only [pn_l0, pn_l1, pn_l2, pn_l3, pn_l4, pn_l5, pn_l6, pn_l7, pn_l8, pn_l9, pn_l10, pn_l11, pn_l12, pn_l13, pn_l15, pn_l20, pn_l21, pn_l22, pn_l23, pn_l24, pn_l30, pn_l31, pn_l32, pn_l39, pn_l40, pn_l41, pn_l45, pn_l46, pn_l48, pn_l53, pn_l57, pn_l58, pn_l59, pn_l60, pn_l61, pn_l62, pn_l63, pn_l64, pn_l65, pn_l66, pn_l74, pn_l82, pn_l90, pn_l97, pn_l98, pn_l99, pn_l106, pn_l107, pn_l120, pn_l122, pn_l135, pn_l255, pn_l287, pn_l300, pn_l315, pn_l360, pn_l400, pn_l900, pn_l940, pn_l1000, pn_l1000000, pn_mone, nI_add, pk_mul, nI_clamp, bm_ixk, pn_ltI, pn_leI, pn_eqI, pn_xeq, pn_xeq2, pn_xx, pn_xltI, pn_xleI, pn_xgtI, pn_xgeI, pn_xadd, pn_subx, pn_addx, Option.bind_some, ↓reduceIte, Bool.false_eq_true, Nat.le_refl, Nat.or_zero]
    · have h1 := pt_anc_cnt hc hj huj (by omega)
      have := fun s => ih k (T (31 + j) - 1) s (by omega) (by omega) (by omega)
      have hul := hu (T (31 + j) - 1) (by omega)
      rw [f_X12_allUnder_l27, pn_xp (by omega), hc.1 j hj m, decide_eq_true (show 0 < T (31 + j) by omega), Bool.true_and]
      simp (disch := omega) only [pn_l0, pn_l1, pn_l2, pn_l3, pn_l4, pn_l5, pn_l6, pn_l7, pn_l8, pn_l9, pn_l10, pn_l11, pn_l12, pn_l13, pn_l15, pn_l20, pn_l21, pn_l22, pn_l23, pn_l24, pn_l30, pn_l31, pn_l32, pn_l39, pn_l40, pn_l41, pn_l45, pn_l46, pn_l48, pn_l53, pn_l57, pn_l58, pn_l59, pn_l60, pn_l61, pn_l62, pn_l63, pn_l64, pn_l65, pn_l66, pn_l74, pn_l82, pn_l90, pn_l97, pn_l98, pn_l99, pn_l106, pn_l107, pn_l120, pn_l122, pn_l135, pn_l255, pn_l287, pn_l300, pn_l315, pn_l360, pn_l400, pn_l900, pn_l940, pn_l1000, pn_l1000000, pn_mone, nI_add, pk_mul, nI_clamp, bm_ixk, pn_ltI, pn_leI, pn_eqI, pn_xeq, pn_xeq2, pn_xx, pn_xltI, pn_xleI, pn_xgtI, pn_xgeI, pn_xadd, pn_subx, pn_addx, Option.bind_some, ↓reduceIte, hR, Nat.not_lt_zero, pn_shlN, pn_or, this]
      by_cases e : T (31 + j) - 1 = m
      · have e2 : m + 1 = T (31 + j) := by omega
        have e3 : c m m = false := hc.2 m hm
        simp only [e, e2, e3, ↓reduceIte, decide_true, Bool.true_or, Bool.false_eq_true, Nat.or_zero]
      · have e2 : ¬ m + 1 = T (31 + j) := by omega
        simp only [e, e2, ↓reduceIte, decide_false, Bool.false_or, Nat.or_zero]
theorem pq_allUnder (hR : pp_R I T) (hA : pt_VA T) {c : Nat → Nat → Bool} (hc : pt_anc T c) {m : Nat} (hm : m < T 0) : f_X12_allUnder I (nI m) = some (nI (pt_set (T 0) (fun k => c k m))) := by
  have h8 := hA.1
  unfold f_X12_allUnder
  rw [pl_set (F := f_X12_allUnder_l4 I (nI m)) (p := fun k => c k m) h8]
  · rfl
  · intro q s
    rw [f_X12_allUnder_l4, hR 0 (by omega), if_pos (Int32.le_refl _)]
  · intro q s j hj
    have hul := hA.2.2.2.2.2.2.2.2.2.2.1 j hj
    have hcl := pt_cnt_le (T 0) (c j)
    have hh := pq_allUnder_l hR hA hc hm (t := j) (by omega) _ 1000 j s hj rfl (by omega)
    rw [f_X12_allUnder_l4]
    simp (disch := omega) only [pn_l0, pn_l1, pn_l2, pn_l3, pn_l4, pn_l5, pn_l6, pn_l7, pn_l8, pn_l9, pn_l10, pn_l11, pn_l12, pn_l13, pn_l15, pn_l20, pn_l21, pn_l22, pn_l23, pn_l24, pn_l30, pn_l31, pn_l32, pn_l39, pn_l40, pn_l41, pn_l45, pn_l46, pn_l48, pn_l53, pn_l57, pn_l58, pn_l59, pn_l60, pn_l61, pn_l62, pn_l63, pn_l64, pn_l65, pn_l66, pn_l74, pn_l82, pn_l90, pn_l97, pn_l98, pn_l99, pn_l106, pn_l107, pn_l120, pn_l122, pn_l135, pn_l255, pn_l287, pn_l300, pn_l315, pn_l360, pn_l400, pn_l900, pn_l940, pn_l1000, pn_l1000000, pn_mone, nI_add, pk_mul, nI_clamp, bm_ixk, pn_ltI, pn_leI, pn_eqI, pn_xeq, pn_xeq2, pn_xx, pn_xltI, pn_xleI, pn_xgtI, pn_xgeI, pn_xadd, pn_subx, pn_addx, Option.bind_some, ↓reduceIte, hR, Nat.not_le.mpr hj, hh]
end UN
/-! reach, soon, best -/
def pt_reach (T : pt_T) (m o : Nat) : Nat := pt_havers (pt_hrs (pt_give T m o) (min 20 (400 - T 61))) (o + 1)
theorem pt_give_61 (T : pt_T) (m o : Nat) : (pt_give T m o) 61 = T 61 := by unfold pt_give; rw [pt_lift_61, pt_lift_61]
section RE
variable {I : bm_TI} {T : pt_T}
theorem kc_reachOf (hA : pt_VA T) (hS : pt_VS T) (hP : pp_A I 4 T) (hQ : pp_S I 26 T) {m o : Nat} (hm : m < T 0) (ho : o < T 1) (hb : pt_brow T m ≠ 0) : ∃ I2, f_X11_reachOf I (nI m) (nI o) = some (nI (pt_reach T m o), I2) ∧ ∀ c k, (c < 33 ∨ 39 < c) → I2 c k = I c k := by
  have h7 := hA.2.1
  have h61 := hS.1
  obtain ⟨I1, e1, q1, p1, f1, q26⟩ := kc_begin hA hP hQ
  obtain ⟨I2, e2, q2, f2⟩ := kc_giveBy p1 q1 hA hS hm ho hb
  have eA := te_give T m o
  have hVA := va_congr eA hA
  have hVS := vs_give hA hS (m := m) ho
  obtain ⟨I3, e3, q3, f3⟩ := kc_passHours (pa_VA eA hA (pa_fr f2 p1)) q2 hVA hVS (n := 20) (by omega)
  rw [pt_give_61] at e3 q3
  have eB := te_hrs (pt_give T m o) (min 20 (400 - T 61))
  have hh := kc_havers_o (pa_VA eB hVA (pa_fh f3 (pa_VA eA hA (pa_fr f2 p1)))) q3 (va_congr eB hVA) (vs_hrs hVA hVS (by rw [pt_give_61]; omega)) (w := o) (by omega)
  refine ⟨I3, ?_, fun c k hc => by rw [f3 c k (by omega), f2 c k (by omega), f1 c k (by omega)]⟩
  unfold f_X11_reachOf
  rw [e1]
  simp only [Option.bind_some]
  rw [e2]
  simp only [Option.bind_some, ↓reduceIte]
  rw [show f_X8_passHours I2 20 = _ from e3]
  simp only [Option.bind_some]
  rw [hh]; rfl
theorem kc_reachOf0 (hA : pt_VA T) (hS : pt_VS T) (hP : pp_A I 4 T) (hQ : pp_S I 26 T) {m o : Nat} (hm : m < T 0) (ho : o < T 1) (hb : pt_brow T m = 0) : ∃ I2, f_X11_reachOf I (nI m) (nI o) = some (-1, I2) ∧ ∀ c k, (c < 33 ∨ 39 < c) → I2 c k = I c k := by
  obtain ⟨I1, e1, q1, p1, f1, q26⟩ := kc_begin hA hP hQ
  refine ⟨I1, ?_, fun c k hc => f1 c k (by omega)⟩
  unfold f_X11_reachOf
  rw [e1]
  simp only [Option.bind_some]
  rw [kc_giveBy0 p1 q1 hA hS hm ho hb]; rfl
/-- the reference, behind a trial: the plans, what was before, are all that changed -/
def rf_t (I I' : bm_TI) : Prop := ∀ o k, (o ≠ 166 ∨ k < 61 ∨ 106 ≤ k) → o ≠ 171 → o ≠ 173 → (o ≠ 164 ∨ k ≠ 33) → I' o k = I o k
theorem pq_reachOf (hR : pp_R I T) (hA : pt_VA T) (hS : pt_VS T) {m o : Nat} (hm : m < T 0) (ho : o < T 1) : ∃ I2, f_X12_reachOf I (nI m) (nI o) = some (nI (pt_reach T m o), I2) ∧ pp_R I2 T ∧ rf_t I I2 := by
  have h7 := hA.2.1
  have h61 := hS.1
  obtain ⟨I1, e1, b1, f1⟩ := pq_tries hR
  have R1 : pp_R I1 T := fun k hk => by rw [f1 166 k (by omega)]; exact hR k hk
  obtain ⟨I2, e2, r2, f2⟩ := pq_gives R1 hA hS hm ho
  have eA := te_give T m o
  have hVA := va_congr eA hA
  have hVS := vs_give hA hS (m := m) ho
  obtain ⟨I3, e3, r3, f3⟩ := pq_goesOn r2 hVA hVS (n := 20) (by omega)
  rw [pt_give_61] at e3 r3
  have eB := te_hrs (pt_give T m o) (min 20 (400 - T 61))
  have hh := pq_havers r3 (va_congr eB hVA) (vs_hrs hVA hVS (by rw [pt_give_61]; omega)) (o := o) (by omega)
  have eC : pt_eA (pt_hrs (pt_give T m o) (min 20 (400 - T 61))) T := fun k hk => (te_trans eA eB k hk).symm
  obtain ⟨I4, e4, r4, f4⟩ := pq_back r3 eC (fun k hk => by rw [f3 173 k (by omega) (by omega), f2 173 k (by omega)]; exact b1 k hk)
  refine ⟨I4, ?_, r4, fun c k a1 a2 a3 a4 => by rw [f4 c k a1, f3 c k a1 a2, f2 c k a1, f1 c k a3]⟩
  unfold f_X12_reachOf
  rw [e1]
  simp only [Option.bind_some]
  rw [e2]
  simp only [Option.bind_some]
  rw [show f_X12_goesOn I2 20 = _ from e3]
  simp only [Option.bind_some]
  rw [hh]
  simp only [Option.bind_some]
  rw [e4]; rfl
end RE
section ER
variable {I : bm_TI} {J : bm_TJ} {W : bm_TR}
/-- behind trials of both -/
theorem iv_both {I1 I2 : bm_TI} {T S : pt_T} (hF : iv_F I J W 4 26 151 (I 166) (J 169) T S) (hU : iv_U I T) (hG0 : iv_G I J W 0) (hG1 : iv_G I J W 1) (hT : iv_T I) (hM : iv_M I) (hK : iv_K J) (f1 : ∀ c k, (c < 33 ∨ 39 < c) → I1 c k = I c k) (r : pp_R I2 T) (f2 : rf_t (bm_uI I1 164 0 0) I2) : bm_Inv I2 J W := by
  have f : ∀ c k, (c < 33 ∨ 39 < c) → (c ≠ 166 ∨ k < 61 ∨ 106 ≤ k) → c ≠ 171 → c ≠ 173 → (c ≠ 164 ∨ (k ≠ 0 ∧ k ≠ 33)) → I2 c k = I c k := fun c k a1 a2 a3 a4 a5 => by rw [f2 c k a2 a3 a4 (by omega), pn_uI_off (by omega), f1 c k a1]
  exact iv_act (T2 := T) hF hG0 hG1 hT hM hK (fun c k a1 a2 a3 a4 a5 a6 => f c k (by omega) a2 a3 a5 (by omega)) (te_refl T) r (ps_congr (fun k => f 26 k (by omega) (by omega) (by omega) (by omega) (by omega)) (fun c k _ _ => f c k (by omega) (by omega) (by omega) (by omega) (by omega)) hF.2.2.2.1) hF.2.2.2.2.2.2.2.1 (iU_congr (fun o k ho => f o k (by omega) (by omega) (by omega) (by omega) (by omega)) hU)
theorem e_reach (hI : bm_Inv I J W) : ∀ a1 a2 : Int32, ∃ v I1 I2, f_X11_reach I a1 a2 = some (v, I1) ∧ f_X12_reach I1 a1 a2 = some (v, I2) ∧ bm_Inv I2 J W := by
  intro a1 a2
  obtain ⟨T, S, hF, hU, hG0, hG1, hT, hM, hK⟩ := id hI
  obtain ⟨hR, _, hP, hQ, _, _, hA, hS, _⟩ := id hF
  have h8 := hA.1
  have h7 := hA.2.1
  have R0 : pp_R (bm_uI I 164 0 0) T := pr_164 hR
  unfold f_X11_reach
  rcases pk_ix a1 (n := T 0) (by omega) with h | h | ⟨m, hm, rfl⟩
  · rw [kc_isManF hP (Or.inl h)]
    refine ⟨_, _, bm_uI I 164 0 0, rfl, ?_, iv_q hI⟩
    unfold f_X12_reach
    rw [pq_isManF R0 hA (Or.inl h)]; rfl
  · rw [kc_isManF hP (Or.inr h)]
    refine ⟨_, _, bm_uI I 164 0 0, rfl, ?_, iv_q hI⟩
    unfold f_X12_reach
    rw [pq_isManF R0 hA (Or.inr h)]; rfl
  rw [kc_isManT hP hA hm]
  simp only [Option.bind_some, ↓reduceIte]
  rcases pk_ix a2 (n := T 1) (by omega) with h | h | ⟨q, hq, rfl⟩
  · rw [kc_isOrderF hP (Or.inl h)]
    refine ⟨_, _, bm_uI I 164 0 0, rfl, ?_, iv_q hI⟩
    unfold f_X12_reach
    rw [pq_isManT R0 hA hm, pq_isOrderF R0 hA (Or.inl h)]; rfl
  · rw [kc_isOrderF hP (Or.inr h)]
    refine ⟨_, _, bm_uI I 164 0 0, rfl, ?_, iv_q hI⟩
    unfold f_X12_reach
    rw [pq_isManT R0 hA hm, pq_isOrderF R0 hA (Or.inr h)]; rfl
  rw [kc_isOrderT hP hA hq]
  simp only [Option.bind_some, ↓reduceIte]
  by_cases hb : pt_brow T m = 0
  · obtain ⟨I1, e1, f1⟩ := kc_reachOf0 hA hS hP hQ hm hq hb
    rw [e1]
    refine ⟨_, _, bm_uI I1 164 0 0, rfl, ?_, iv_tried hI f1⟩
    have R1 : pp_R (bm_uI I1 164 0 0) T := pr_164 (fun k hk => by rw [f1 166 k (by omega)]; exact hR k hk)
    unfold f_X12_reach
    rw [pq_isManT R1 hA hm, pq_isOrderT R1 hA hq, pq_brow R1 hA hS hm, hb]
    rfl
  · obtain ⟨I1, e1, f1⟩ := kc_reachOf hA hS hP hQ hm hq hb
    rw [e1]
    have R1 : pp_R (bm_uI I1 164 0 0) T := pr_164 (fun k hk => by rw [f1 166 k (by omega)]; exact hR k hk)
    obtain ⟨I2, e2, r2, f2⟩ := pq_reachOf R1 hA hS hm hq
    refine ⟨_, _, I2, rfl, ?_, iv_both hF hU hG0 hG1 hT hM hK f1 r2 f2⟩
    have hbl := pt_brow_le hA hm
    unfold f_X12_reach
    rw [pq_isManT R1 hA hm, pq_isOrderT R1 hA hq, pq_brow R1 hA hS hm]
    simp only [Option.bind_some, ↓reduceIte]
    rw [if_neg (nI_nle (by omega) (by omega)), e2]; rfl
end ER
