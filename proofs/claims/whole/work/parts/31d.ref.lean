/-! what is done, on the picture -/
def pt_up (T : pt_T) (k v : Nat) : pt_T := fun j => if j = k then v else T j
theorem tu_hit {T : pt_T} {k v j : Nat} (h : j = k) : pt_up T k v j = v := if_pos h
theorem tu_ne {T : pt_T} {k v j : Nat} (h : j ≠ k) : pt_up T k v j = T j := if_neg h
def pt_ord (T : pt_T) (a b : Nat) : Nat := pt_fnd (T 1) (fun q => decide (T (39 + q) = a) && decide (T (46 + q) = b))
def pt_hear (T : pt_T) (m l : Nat) : pt_T := if ((T 29).testBit m && decide (0 < T (90 + m))) = true then T else if T (82 + m) = 0 then pt_up T (82 + m) l else if pt_ord T (T (82 + m)) l = 0 then pt_up (pt_up T (82 + m) 0) (98 + m) (min 99 (T (98 + m) + 1)) else pt_up (pt_up (pt_up T (82 + m) 0) (90 + m) (pt_ord T (T (82 + m)) l)) 65 (T 65 ||| 2 ^ m)
def pt_hears (T : pt_T) (s l n : Nat) : pt_T := match n with
  | 0 => T
  | k + 1 => if s.testBit k = true then pt_hear (pt_hears T s l k) k l else pt_hears T s l k
def pt_lift (T : pt_T) (m l : Nat) : pt_T := pt_up (pt_hears T (pt_readers T m) l (T 0)) 62 (T 62 + 1)
def pt_give (T : pt_T) (m o : Nat) : pt_T := pt_lift (pt_lift T m (T (39 + o))) m (T (46 + o))
def pt_plan (T : pt_T) (m : Nat) : Nat := if (T 65).testBit m = true then T (90 + m) else 0
def pt_pass (P : Nat → Nat) (T : pt_T) (n : Nat) : pt_T := match n with
  | 0 => T
  | k + 1 => if P k = 0 then pt_pass P T k else if pt_brow (pt_pass P T k) k = 0 then pt_pass P T k else pt_give (pt_pass P T k) k (P k - 1)
def pt_rain (T : pt_T) : pt_T := if (T 61 + 1) % T 4 = 0 then pt_up (pt_up T 61 (T 61 + 1)) 64 0 else pt_up T 61 (T 61 + 1)
def pt_hour (T : pt_T) : pt_T := pt_rain (pt_pass (pt_plan T) (pt_up T 65 0) (T 0))
def pt_hrs (T : pt_T) (n : Nat) : pt_T := match n with
  | 0 => T
  | k + 1 => pt_hour (pt_hrs T k)
/-! the army stays -/
def pt_eA (T U : pt_T) : Prop := ∀ k, k < 61 → U k = T k
theorem te_refl (T : pt_T) : pt_eA T T := fun _ _ => rfl
theorem te_trans {T U V : pt_T} (h1 : pt_eA T U) (h2 : pt_eA U V) : pt_eA T V := fun k hk => (h2 k hk).trans (h1 k hk)
theorem te_up {T : pt_T} {k v : Nat} (h : 61 ≤ k) : pt_eA T (pt_up T k v) := fun j hj => tu_ne (by omega)
theorem te_hear (T : pt_T) (m l : Nat) : pt_eA T (pt_hear T m l) := by
  unfold pt_hear
  split
  · exact te_refl T
  · split
    · exact te_up (by omega)
    · split
      · exact te_trans (te_up (by omega)) (te_up (by omega))
      · exact te_trans (te_trans (te_up (by omega)) (te_up (by omega))) (te_up (by omega))
theorem te_hears (T : pt_T) (s l n : Nat) : pt_eA T (pt_hears T s l n) := by
  induction n with
  | zero => exact te_refl T
  | succ k ih =>
    unfold pt_hears
    split
    · exact te_trans ih (te_hear _ _ _)
    · exact ih
theorem te_lift (T : pt_T) (m l : Nat) : pt_eA T (pt_lift T m l) := te_trans (te_hears _ _ _ _) (te_up (by omega))
theorem te_give (T : pt_T) (m o : Nat) : pt_eA T (pt_give T m o) := te_trans (te_lift _ _ _) (te_lift _ _ _)
theorem te_pass (P : Nat → Nat) (T : pt_T) (n : Nat) : pt_eA T (pt_pass P T n) := by
  induction n with
  | zero => exact te_refl T
  | succ k ih =>
    unfold pt_pass
    split
    · exact ih
    · split
      · exact ih
      · exact te_trans ih (te_give _ _ _)
theorem te_rain (T : pt_T) : pt_eA T (pt_rain T) := by
  unfold pt_rain
  split
  · exact te_trans (te_up (by omega)) (te_up (by omega))
  · exact te_up (by omega)
theorem te_hour (T : pt_T) : pt_eA T (pt_hour T) := te_trans (te_trans (te_up (k := 65) (v := 0) (by omega)) (te_pass _ _ _)) (te_rain _)
theorem te_hrs (T : pt_T) (n : Nat) : pt_eA T (pt_hrs T n) := by
  induction n with
  | zero => exact te_refl T
  | succ k ih => exact te_trans ih (te_hour _)
theorem va_congr {T U : pt_T} (e : pt_eA T U) (hA : pt_VA T) : pt_VA U := by
  obtain ⟨h0, h1, h2, h3, h3', h4, h4', hb, hj, hg, hu, ⟨c, hc1, hc2⟩, ho, hf⟩ := hA
  have e0 := e 0 (by omega)
  have e1 := e 1 (by omega)
  have e2 := e 2 (by omega)
  have e3 := e 3 (by omega)
  have e4 := e 4 (by omega)
  refine ⟨by omega, by omega, by omega, by omega, by omega, by omega, by omega, fun j q => ?_, ?_, ?_, fun j q => ?_, ⟨c, fun j q i => ?_, fun j q => ?_⟩, fun j q => ?_, fun j q => ?_⟩
  · rw [e (21 + j) (by omega)]; exact hb j (by omega)
  · rw [e 29 (by omega), e0]; exact hj
  · rw [e 30 (by omega), e0]; exact hg
  · rw [e (31 + j) (by omega), e0]; exact hu j (by omega)
  · rw [e (31 + j) (by omega)]; exact hc1 j (by omega) i
  · exact hc2 j (by omega)
  · rw [e (39 + j) (by omega), e (46 + j) (by omega)]; exact ho j (by omega)
  · rw [e (53 + j) (by omega), e (57 + j) (by omega)]; exact hf j (by omega)
theorem pt_ord_eA {T U : pt_T} (e : pt_eA T U) (h7 : T 1 ≤ 7) (a b : Nat) : pt_ord U a b = pt_ord T a b := by
  unfold pt_ord
  rw [e 1 (by omega)]
  apply tf_congr
  intro j hj
  rw [e (39 + j) (by omega), e (46 + j) (by omega)]
theorem pt_pow_lt {m n : Nat} (h : m < n) : 2 ^ m < 2 ^ n := Nat.pow_lt_pow_right (by omega) h
/-! what holds of the numbers, behind each -/
theorem vs_hear {T : pt_T} (hA : pt_VA T) (hS : pt_VS T) {m l : Nat} (hm : m < T 0) (hl : l ≤ 3) : pt_VS (pt_hear T m l) := by
  have h8 := hA.1
  obtain ⟨s1, s2, s3, s4, s5⟩ := hS
  have hM := s5 m hm
  have hq := tf_le (T 1) (fun q => decide (T (39 + q) = T (82 + m)) && decide (T (46 + q) = l))
  unfold pt_hear
  split
  · exact ⟨s1, s2, s3, s4, s5⟩
  · split
    · refine ⟨?_, ?_, ?_, ?_, fun j hj => ?_⟩
      · rw [tu_ne (by omega)]; exact s1
      · rw [tu_ne (by omega), tu_ne (by omega)]; exact s2
      · rw [tu_ne (by omega), tu_ne (by omega)]; exact s3
      · rw [tu_ne (by omega), tu_ne (by omega)]; exact s4
      · rw [tu_ne (by omega)] at hj
        have := s5 j hj
        refine ⟨?_, ?_, ?_, ?_, ?_⟩ <;> simp only [pt_up] <;> (repeat' split) <;> omega
    · split
      · refine ⟨?_, ?_, ?_, ?_, fun j hj => ?_⟩
        · rw [tu_ne (by omega), tu_ne (by omega)]; exact s1
        · rw [tu_ne (by omega), tu_ne (by omega), tu_ne (by omega), tu_ne (by omega)]; exact s2
        · rw [tu_ne (by omega), tu_ne (by omega), tu_ne (by omega), tu_ne (by omega)]; exact s3
        · rw [tu_ne (by omega), tu_ne (by omega), tu_ne (by omega), tu_ne (by omega)]; exact s4
        · rw [tu_ne (by omega), tu_ne (by omega)] at hj
          have := s5 j hj
          refine ⟨?_, ?_, ?_, ?_, ?_⟩ <;> simp only [pt_up] <;> (repeat' split) <;> omega
      · refine ⟨?_, ?_, ?_, ?_, fun j hj => ?_⟩
        · rw [tu_ne (by omega), tu_ne (by omega), tu_ne (by omega)]; exact s1
        · rw [tu_ne (by omega), tu_ne (by omega), tu_ne (by omega), tu_ne (by omega), tu_ne (by omega), tu_ne (by omega)]; exact s2
        · rw [tu_ne (by omega), tu_ne (by omega), tu_ne (by omega), tu_ne (by omega), tu_ne (by omega), tu_ne (by omega)]; exact s3
        · rw [tu_hit rfl, tu_ne (by omega), tu_ne (by omega), tu_ne (by omega)]; exact Nat.or_lt_two_pow s4 (pt_pow_lt hm)
        · rw [tu_ne (by omega), tu_ne (by omega), tu_ne (by omega)] at hj
          have := s5 j hj
          have hq' : pt_ord T (T (82 + m)) l ≤ T 1 := hq
          refine ⟨?_, ?_, ?_, ?_, ?_⟩ <;> simp only [pt_up] <;> (repeat' split) <;> omega
theorem vs_hears {T : pt_T} (hA : pt_VA T) (hS : pt_VS T) {s l n : Nat} (hn : n ≤ T 0) (hl : l ≤ 3) : pt_VS (pt_hears T s l n) := by
  induction n with
  | zero => exact hS
  | succ k ih =>
    unfold pt_hears
    split
    · exact vs_hear (va_congr (te_hears _ _ _ _) hA) (ih (by omega)) (by rw [te_hears T s l k 0 (by omega)]; omega) hl
    · exact ih (by omega)
theorem vs_up62 {T : pt_T} (hS : pt_VS T) {v : Nat} (h8 : T 0 ≤ 8) : pt_VS (pt_up T 62 v) := by
  obtain ⟨s1, s2, s3, s4, s5⟩ := hS
  refine ⟨?_, ?_, ?_, ?_, fun j hj => ?_⟩
  · rw [tu_ne (by omega)]; exact s1
  · rw [tu_ne (by omega), tu_ne (by omega)]; exact s2
  · rw [tu_ne (by omega), tu_ne (by omega)]; exact s3
  · rw [tu_ne (by omega), tu_ne (by omega)]; exact s4
  · rw [tu_ne (by omega)] at hj
    have := s5 j hj
    refine ⟨?_, ?_, ?_, ?_, ?_⟩ <;> simp only [pt_up] <;> (repeat' split) <;> omega
theorem vs_lift {T : pt_T} (hA : pt_VA T) (hS : pt_VS T) {m l : Nat} (hl : l ≤ 3) : pt_VS (pt_lift T m l) := vs_up62 (vs_hears hA hS (Nat.le_refl _) hl) (by rw [te_hears _ _ _ _ 0 (by omega)]; exact hA.1)
theorem vs_give {T : pt_T} (hA : pt_VA T) (hS : pt_VS T) {m o : Nat} (ho : o < T 1) : pt_VS (pt_give T m o) := by
  have h := hA.2.2.2.2.2.2.2.2.2.2.2.2.1 o ho
  exact vs_lift (va_congr (te_lift _ _ _) hA) (vs_lift hA hS (by omega)) (by omega)
theorem vs_up65 {T : pt_T} (hS : pt_VS T) (h8 : T 0 ≤ 8) : pt_VS (pt_up T 65 0) := by
  obtain ⟨s1, s2, s3, s4, s5⟩ := hS
  refine ⟨?_, ?_, ?_, ?_, fun j hj => ?_⟩
  · rw [tu_ne (by omega)]; exact s1
  · rw [tu_ne (by omega), tu_ne (by omega)]; exact s2
  · rw [tu_ne (by omega), tu_ne (by omega)]; exact s3
  · rw [tu_hit rfl]; exact Nat.two_pow_pos _
  · rw [tu_ne (by omega)] at hj
    have := s5 j hj
    refine ⟨?_, ?_, ?_, ?_, ?_⟩ <;> simp only [pt_up] <;> (repeat' split) <;> omega
theorem vs_pass {P : Nat → Nat} {T : pt_T} (hA : pt_VA T) (hS : pt_VS T) {n : Nat} (hP : ∀ k, k < n → P k ≤ T 1) (hn : n ≤ T 0) : pt_VS (pt_pass P T n) := by
  induction n with
  | zero => exact hS
  | succ k ih =>
    have ih := ih (fun j hj => hP j (by omega)) (by omega)
    unfold pt_pass
    split
    · exact ih
    · split
      · exact ih
      · have := hP k (by omega)
        exact vs_give (va_congr (te_pass _ _ _) hA) ih (by rw [te_pass P T k 1 (by omega)]; omega)
theorem pt_hears_61 (T : pt_T) (s l n : Nat) : (pt_hears T s l n) 61 = T 61 ∧ (pt_hears T s l n) 62 = T 62 ∧ (pt_hears T s l n) 63 = T 63 ∧ (pt_hears T s l n) 64 = T 64 := by
  induction n with
  | zero => exact ⟨rfl, rfl, rfl, rfl⟩
  | succ k ih =>
    unfold pt_hears
    split
    · unfold pt_hear
      split
      · exact ih
      · split
        · rw [tu_ne (by omega), tu_ne (by omega), tu_ne (by omega), tu_ne (by omega)]; exact ih
        · split
          · rw [tu_ne (by omega), tu_ne (by omega), tu_ne (by omega), tu_ne (by omega), tu_ne (by omega), tu_ne (by omega), tu_ne (by omega), tu_ne (by omega)]; exact ih
          · rw [tu_ne (by omega), tu_ne (by omega), tu_ne (by omega), tu_ne (by omega), tu_ne (by omega), tu_ne (by omega), tu_ne (by omega), tu_ne (by omega), tu_ne (by omega), tu_ne (by omega), tu_ne (by omega), tu_ne (by omega)]; exact ih
    · exact ih
theorem pt_lift_61 (T : pt_T) (m l : Nat) : (pt_lift T m l) 61 = T 61 := by
  unfold pt_lift
  rw [tu_ne (by omega)]
  exact (pt_hears_61 _ _ _ _).1
theorem pt_pass_61 (P : Nat → Nat) (T : pt_T) (n : Nat) : (pt_pass P T n) 61 = T 61 := by
  induction n with
  | zero => rfl
  | succ k ih =>
    unfold pt_pass
    split
    · exact ih
    · split
      · exact ih
      · unfold pt_give; rw [pt_lift_61, pt_lift_61]; exact ih
theorem vs_rain {T : pt_T} (hS : pt_VS T) (h8 : T 0 ≤ 8) (h : T 61 < 400) : pt_VS (pt_rain T) := by
  obtain ⟨s1, s2, s3, s4, s5⟩ := hS
  have hA : pt_VS (pt_up T 61 (T 61 + 1)) := by
    refine ⟨?_, ?_, ?_, ?_, fun j hj => ?_⟩
    · rw [tu_hit rfl]; omega
    · rw [tu_ne (by omega), tu_ne (by omega)]; exact s2
    · rw [tu_ne (by omega), tu_ne (by omega)]; exact s3
    · rw [tu_ne (by omega), tu_ne (by omega)]; exact s4
    · rw [tu_ne (by omega)] at hj
      have := s5 j hj
      refine ⟨?_, ?_, ?_, ?_, ?_⟩ <;> simp only [pt_up] <;> (repeat' split) <;> omega
  unfold pt_rain
  split
  · obtain ⟨s1, s2, s3, s4, s5⟩ := hA
    have h0 : (pt_up T 61 (T 61 + 1)) 0 = T 0 := tu_ne (by omega)
    refine ⟨?_, ?_, ?_, ?_, fun j hj => ?_⟩
    · rw [tu_ne (by omega)]; exact s1
    · rw [tu_ne (by omega), tu_ne (by omega)]; exact s2
    · rw [tu_hit rfl]; exact Nat.two_pow_pos _
    · rw [tu_ne (by omega), tu_ne (by omega)]; exact s4
    · rw [tu_ne (by omega)] at hj
      have := s5 j hj
      rw [tu_ne (k := 64) (by omega), tu_ne (k := 64) (by omega), tu_ne (k := 64) (by omega), tu_ne (k := 64) (by omega), tu_ne (k := 64) (by omega), tu_ne (k := 64) (by omega)]
      exact this
  · exact hA
theorem pt_plan_le {T : pt_T} (hS : pt_VS T) {k : Nat} (hk : k < T 0) : pt_plan T k ≤ T 1 := by
  have := (hS.2.2.2.2 k hk).2.2.2.1
  unfold pt_plan
  split <;> omega
theorem vs_hour {T : pt_T} (hA : pt_VA T) (hS : pt_VS T) (h : T 61 < 400) : pt_VS (pt_hour T) := by
  unfold pt_hour
  have e : pt_eA T (pt_up T 65 0) := te_up (by omega)
  refine vs_rain (vs_pass (va_congr e hA) (vs_up65 hS hA.1) (fun k hk => ?_) ?_) ?_ ?_
  · rw [e 1 (by omega)]; exact pt_plan_le hS hk
  · rw [e 0 (by omega)]; exact Nat.le_refl _
  · rw [te_pass _ _ _ 0 (by omega), e 0 (by omega)]; exact hA.1
  · rw [pt_pass_61, tu_ne (by omega)]; exact h
theorem pt_hour_61 (T : pt_T) : (pt_hour T) 61 = T 61 + 1 := by
  unfold pt_hour pt_rain
  split
  · rw [tu_ne (by omega), tu_hit rfl, pt_pass_61, tu_ne (by omega)]
  · rw [tu_hit rfl, pt_pass_61, tu_ne (by omega)]
theorem pt_hrs_61 (T : pt_T) (n : Nat) : (pt_hrs T n) 61 = T 61 + n := by
  induction n with
  | zero => rfl
  | succ k ih =>
    show (pt_hour (pt_hrs T k)) 61 = _
    rw [pt_hour_61, ih]; omega
theorem vs_hrs {T : pt_T} (hA : pt_VA T) (hS : pt_VS T) {n : Nat} (h : T 61 + n ≤ 400) : pt_VS (pt_hrs T n) := by
  induction n with
  | zero => exact hS
  | succ k ih => exact vs_hour (va_congr (te_hrs _ _) hA) (ih (by omega)) (by rw [pt_hrs_61]; omega)
/-! by the reference -/
/-- nothing but the state in the row -/
def rf_r (I I' : bm_TI) : Prop := ∀ o k, (o ≠ 166 ∨ k < 61 ∨ 106 ≤ k) → I' o k = I o k
theorem rf_refl (I : bm_TI) : rf_r I I := fun _ _ _ => rfl
theorem rf_trans {I I1 I2 : bm_TI} (h1 : rf_r I I1) (h2 : rf_r I1 I2) : rf_r I I2 := fun o k a => (h2 o k a).trans (h1 o k a)
theorem rf_up {I : bm_TI} {k : Nat} {v : Int32} (h : 61 ≤ k) (h2 : k < 106) : rf_r I (bm_uI I 166 k v) := fun o j a => by
  by_cases e : o = 166
  · subst e; exact pn_uI_ne2 (by omega)
  · exact pn_uI_ne e
/-- and the plans -/
def rf_h (I I' : bm_TI) : Prop := ∀ o k, (o ≠ 166 ∨ k < 61 ∨ 106 ≤ k) → o ≠ 171 → I' o k = I o k
theorem rh_refl (I : bm_TI) : rf_h I I := fun _ _ _ _ => rfl
theorem rh_of {I I' : bm_TI} (h : rf_r I I') : rf_h I I' := fun o k a _ => h o k a
theorem rh_trans {I I1 I2 : bm_TI} (h1 : rf_h I I1) (h2 : rf_h I1 I2) : rf_h I I2 := fun o k a b => (h2 o k a b).trans (h1 o k a b)
theorem rh_up171 {I : bm_TI} {k : Nat} {v : Int32} : rf_h I (bm_uI I 171 k v) := fun o j a b => pn_uI_ne b
theorem pr_up {I : bm_TI} {T : pt_T} (hR : pp_R I T) (k v : Nat) : pp_R (bm_uI I 166 k (nI v)) (pt_up T k v) := fun j hj => by
  by_cases e : j = k
  · rw [pn_uI_hit e, tu_hit e]
  · rw [pn_uI_ne2 e, tu_ne e]; exact hR j hj
section PR2
variable {I : bm_TI} {T : pt_T}
theorem pq_orderBy (hR : pp_R I T) (hA : pt_VA T) {a b : Nat} (ha : a ≤ 3) (hb : b ≤ 3) : f_X12_orderBy I (nI a) (nI b) = some (pn_x (pt_ord T a b)) := by
  have h7 := hA.2.1
  unfold f_X12_orderBy pt_ord
  rw [pl_find (F := f_X12_orderBy_l2 I (nI a) (nI b)) (n := T 1) (p := fun q => decide (T (39 + q) = a) && decide (T (46 + q) = b)) (by omega)]
  · simp only [Option.bind_some]
    by_cases h : pt_fnd (T 1) (fun q => decide (T (39 + q) = a) && decide (T (46 + q) = b)) = 0
    · rw [if_pos h, h]; rfl
    · rw [if_neg h, pn_xp (by omega)]
  · intro k
    rw [f_X12_orderBy_l2, hR 1 (by omega), if_pos (Int32.le_refl _)]
  · intro k j hj
    have ho := hA.2.2.2.2.2.2.2.2.2.2.2.2.1 j hj
    rw [f_X12_orderBy_l2]
    simp (disch := omega) only [pn_l0, pn_l1, pn_l2, pn_l3, pn_l4, pn_l5, pn_l6, pn_l7, pn_l8, pn_l9, pn_l10, pn_l11, pn_l12, pn_l13, pn_l15, pn_l20, pn_l21, pn_l22, pn_l23, pn_l24, pn_l30, pn_l31, pn_l32, pn_l39, pn_l40, pn_l41, pn_l45, pn_l46, pn_l48, pn_l53, pn_l57, pn_l58, pn_l59, pn_l60, pn_l61, pn_l62, pn_l63, pn_l64, pn_l65, pn_l66, pn_l74, pn_l82, pn_l90, pn_l97, pn_l98, pn_l99, pn_l106, pn_l107, pn_l120, pn_l122, pn_l135, pn_l255, pn_l287, pn_l300, pn_l315, pn_l360, pn_l400, pn_l900, pn_l940, pn_l1000, pn_l1000000, pn_mone, nI_add, pk_mul, nI_clamp, bm_ixk, pn_ltI, pn_leI, pn_eqI, pn_xeq, pn_xeq2, pn_xx, pn_xltI, pn_xleI, pn_xgtI, pn_xgeI, pn_xadd, pn_subx, pn_addx, Option.bind_some, ↓reduceIte, hR, Nat.not_le.mpr hj]
    by_cases h1 : T (39 + j) = a <;> by_cases h2 : T (46 + j) = b <;> simp [h1, h2]
theorem pq_hears (hR : pp_R I T) (hA : pt_VA T) (hS : pt_VS T) {m l : Nat} (hm : m < T 0) (hl : l ≤ 3) : ∃ I', f_X12_hears I (nI m) (nI l) = some I' ∧ pp_R I' (pt_hear T m l) ∧ rf_r I I' := by
  have h8 := hA.1
  have h7 := hA.2.1
  have h29 : T 29 < 256 := pt_256 h8 hA.2.2.2.2.2.2.2.2.1
  have hM := hS.2.2.2.2 m hm
  have hle := tf_le (T 1) (fun q => decide (T (39 + q) = T (82 + m)) && decide (T (46 + q) = l))
  have hle : pt_ord T (T (82 + m)) l ≤ T 1 := hle
  have hR1 := pr_up hR (82 + m) 0
  have e1 : pt_eA T (pt_up T (82 + m) 0) := te_up (by omega)
  have hq := pq_orderBy hR1 (va_congr e1 hA) (a := T (82 + m)) (b := l) (by omega) hl
  rw [pt_ord_eA e1 h7] at hq
  unfold f_X12_hears pt_hear
  simp (disch := omega) only [pn_l0, pn_l1, pn_l2, pn_l3, pn_l4, pn_l5, pn_l6, pn_l7, pn_l8, pn_l9, pn_l10, pn_l11, pn_l12, pn_l13, pn_l15, pn_l20, pn_l21, pn_l22, pn_l23, pn_l24, pn_l30, pn_l31, pn_l32, pn_l39, pn_l40, pn_l41, pn_l45, pn_l46, pn_l48, pn_l53, pn_l57, pn_l58, pn_l59, pn_l60, pn_l61, pn_l62, pn_l63, pn_l64, pn_l65, pn_l66, pn_l74, pn_l82, pn_l90, pn_l97, pn_l98, pn_l99, pn_l106, pn_l107, pn_l120, pn_l122, pn_l135, pn_l255, pn_l287, pn_l300, pn_l315, pn_l360, pn_l400, pn_l900, pn_l940, pn_l1000, pn_l1000000, pn_mone, nI_add, pk_mul, nI_clamp, bm_ixk, pn_ltI, pn_leI, pn_eqI, pn_xeq, pn_xeq2, pn_xx, pn_xltI, pn_xleI, pn_xgtI, pn_xgeI, pn_xadd, pn_subx, pn_addx, Option.bind_some, ↓reduceIte, hR, pn_bitOf, hq, pq_lesser, pn_shlN, Nat.le_zero]
  cases hj : (T 29).testBit m
  · simp only [Bool.false_and, Bool.false_eq_true, ↓reduceIte]
    by_cases h82 : T (82 + m) = 0
    · simp only [h82, ↓reduceIte]
      exact ⟨_, rfl, pr_up hR _ _, rf_up (by omega) (by omega)⟩
    · simp only [h82, ↓reduceIte]
      by_cases ho : pt_ord T (T (82 + m)) l = 0
      · simp (disch := omega) only [ho, ↓reduceIte, Nat.lt_irrefl, pn_uI_hit, pn_uI_ne, pn_uI_ne2, pn_yI_ne, hR, pn_l0, pn_l1, pn_l2, pn_l3, pn_l4, pn_l5, pn_l6, pn_l7, pn_l8, pn_l9, pn_l10, pn_l11, pn_l12, pn_l13, pn_l15, pn_l20, pn_l21, pn_l22, pn_l23, pn_l24, pn_l30, pn_l31, pn_l32, pn_l39, pn_l40, pn_l41, pn_l45, pn_l46, pn_l48, pn_l53, pn_l57, pn_l58, pn_l59, pn_l60, pn_l61, pn_l62, pn_l63, pn_l64, pn_l65, pn_l66, pn_l74, pn_l82, pn_l90, pn_l97, pn_l98, pn_l99, pn_l106, pn_l107, pn_l120, pn_l122, pn_l135, pn_l255, pn_l287, pn_l300, pn_l315, pn_l360, pn_l400, pn_l900, pn_l940, pn_l1000, pn_l1000000, pn_mone, nI_add, pk_mul, nI_clamp, bm_ixk, pn_ltI, pn_leI, pn_eqI, pn_xeq, pn_xeq2, pn_xx, pn_xltI, pn_xleI, pn_xgtI, pn_xgeI, pn_xadd, pn_subx, pn_addx, Option.bind_some, ↓reduceIte, pq_lesser]
        exact ⟨_, rfl, pr_up hR1 _ _, rf_trans (rf_up (by omega) (by omega)) (rf_up (by omega) (by omega))⟩
      · have hp : 0 < pt_ord T (T (82 + m)) l := by omega
        simp (disch := omega) only [hp, ho, ↓reduceIte, pn_uI_hit, pn_uI_ne, pn_uI_ne2, pn_yI_ne, hR, pn_l0, pn_l1, pn_l2, pn_l3, pn_l4, pn_l5, pn_l6, pn_l7, pn_l8, pn_l9, pn_l10, pn_l11, pn_l12, pn_l13, pn_l15, pn_l20, pn_l21, pn_l22, pn_l23, pn_l24, pn_l30, pn_l31, pn_l32, pn_l39, pn_l40, pn_l41, pn_l45, pn_l46, pn_l48, pn_l53, pn_l57, pn_l58, pn_l59, pn_l60, pn_l61, pn_l62, pn_l63, pn_l64, pn_l65, pn_l66, pn_l74, pn_l82, pn_l90, pn_l97, pn_l98, pn_l99, pn_l106, pn_l107, pn_l120, pn_l122, pn_l135, pn_l255, pn_l287, pn_l300, pn_l315, pn_l360, pn_l400, pn_l900, pn_l940, pn_l1000, pn_l1000000, pn_mone, nI_add, pk_mul, nI_clamp, bm_ixk, pn_ltI, pn_leI, pn_eqI, pn_xeq, pn_xeq2, pn_xx, pn_xltI, pn_xleI, pn_xgtI, pn_xgeI, pn_xadd, pn_subx, pn_addx, Option.bind_some, ↓reduceIte, pn_or]
        exact ⟨_, rfl, pr_up (pr_up hR1 _ _) _ _, rf_trans (rf_up (by omega) (by omega)) (rf_trans (rf_up (by omega) (by omega)) (rf_up (by omega) (by omega)))⟩
  · simp only [Bool.true_and, ↓reduceIte, decide_eq_true_eq]
    by_cases h90 : T (90 + m) = 0
    · simp only [h90, Nat.lt_irrefl, ↓reduceIte]
      by_cases h82 : T (82 + m) = 0
      · simp only [h82, ↓reduceIte]
        exact ⟨_, rfl, pr_up hR _ _, rf_up (by omega) (by omega)⟩
      · simp only [h82, ↓reduceIte]
        by_cases ho : pt_ord T (T (82 + m)) l = 0
        · simp (disch := omega) only [ho, ↓reduceIte, Nat.lt_irrefl, pn_uI_hit, pn_uI_ne, pn_uI_ne2, pn_yI_ne, hR, pn_l0, pn_l1, pn_l2, pn_l3, pn_l4, pn_l5, pn_l6, pn_l7, pn_l8, pn_l9, pn_l10, pn_l11, pn_l12, pn_l13, pn_l15, pn_l20, pn_l21, pn_l22, pn_l23, pn_l24, pn_l30, pn_l31, pn_l32, pn_l39, pn_l40, pn_l41, pn_l45, pn_l46, pn_l48, pn_l53, pn_l57, pn_l58, pn_l59, pn_l60, pn_l61, pn_l62, pn_l63, pn_l64, pn_l65, pn_l66, pn_l74, pn_l82, pn_l90, pn_l97, pn_l98, pn_l99, pn_l106, pn_l107, pn_l120, pn_l122, pn_l135, pn_l255, pn_l287, pn_l300, pn_l315, pn_l360, pn_l400, pn_l900, pn_l940, pn_l1000, pn_l1000000, pn_mone, nI_add, pk_mul, nI_clamp, bm_ixk, pn_ltI, pn_leI, pn_eqI, pn_xeq, pn_xeq2, pn_xx, pn_xltI, pn_xleI, pn_xgtI, pn_xgeI, pn_xadd, pn_subx, pn_addx, Option.bind_some, ↓reduceIte, pq_lesser]
          exact ⟨_, rfl, pr_up hR1 _ _, rf_trans (rf_up (by omega) (by omega)) (rf_up (by omega) (by omega))⟩
        · have hp : 0 < pt_ord T (T (82 + m)) l := by omega
          simp (disch := omega) only [hp, ho, ↓reduceIte, pn_uI_hit, pn_uI_ne, pn_uI_ne2, pn_yI_ne, hR, pn_l0, pn_l1, pn_l2, pn_l3, pn_l4, pn_l5, pn_l6, pn_l7, pn_l8, pn_l9, pn_l10, pn_l11, pn_l12, pn_l13, pn_l15, pn_l20, pn_l21, pn_l22, pn_l23, pn_l24, pn_l30, pn_l31, pn_l32, pn_l39, pn_l40, pn_l41, pn_l45, pn_l46, pn_l48, pn_l53, pn_l57, pn_l58, pn_l59, pn_l60, pn_l61, pn_l62, pn_l63, pn_l64, pn_l65, pn_l66, pn_l74, pn_l82, pn_l90, pn_l97, pn_l98, pn_l99, pn_l106, pn_l107, pn_l120, pn_l122, pn_l135, pn_l255, pn_l287, pn_l300, pn_l315, pn_l360, pn_l400, pn_l900, pn_l940, pn_l1000, pn_l1000000, pn_mone, nI_add, pk_mul, nI_clamp, bm_ixk, pn_ltI, pn_leI, pn_eqI, pn_xeq, pn_xeq2, pn_xx, pn_xltI, pn_xleI, pn_xgtI, pn_xgeI, pn_xadd, pn_subx, pn_addx, Option.bind_some, ↓reduceIte, pn_or]
          exact ⟨_, rfl, pr_up (pr_up hR1 _ _) _ _, rf_trans (rf_up (by omega) (by omega)) (rf_trans (rf_up (by omega) (by omega)) (rf_up (by omega) (by omega)))⟩
    · have hp : 0 < T (90 + m) := by omega
      simp only [h90, hp, ↓reduceIte]
      exact ⟨_, rfl, hR, rf_refl _⟩
theorem pq_lifts_l (hR : pp_R I T) (hA : pt_VA T) (hS : pt_VS T) {s l : Nat} (hs : s < 256) (hl : l ≤ 3) : ∃ I', f_X12_lifts_l9 (nI l) (nI s) 1000 0 I = some I' ∧ pp_R I' (pt_hears T s l (T 0)) ∧ rf_r I I' := by
  have h8 := hA.1
  refine pl_rel (F := f_X12_lifts_l9 (nI l) (nI s)) (n := T 0) (fun j I' => pp_R I' (pt_hears T s l j) ∧ rf_r I I') ?_ ?_ 1000 I (by omega) ⟨hR, rf_refl I⟩
  · intro k I' ⟨h1, h2⟩
    refine ⟨I', ?_, h1, h2⟩
    rw [f_X12_lifts_l9, h1 0 (by omega), te_hears T s l (T 0) 0 (by omega), if_pos (Int32.le_refl _)]
  · intro k j I' hj ⟨h1, h2⟩
    have eA := te_hears T s l j
    rw [f_X12_lifts_l9, h1 0 (by omega), eA 0 (by omega), if_neg (nI_ge hj (by omega)), pn_bitOf hs (by omega), nI_1, pt_hears]
    cases hb : s.testBit j
    · simp only [Bool.false_eq_true, ↓reduceIte]
      exact ⟨I', rfl, h1, h2⟩
    · simp only [↓reduceIte]
      obtain ⟨I2, e2, h3, h4⟩ := pq_hears h1 (va_congr eA hA) (vs_hears hA hS (by omega) hl) (m := j) (by rw [eA 0 (by omega)]; exact hj) hl
      rw [e2]
      exact ⟨I2, rfl, h3, rf_trans h2 h4⟩
theorem pq_lifts (hR : pp_R I T) (hA : pt_VA T) (hS : pt_VS T) {m l : Nat} (hm : m < T 0) (hl : l ≤ 3) : ∃ I', f_X12_lifts I (nI m) (nI l) = some I' ∧ pp_R I' (pt_lift T m l) ∧ rf_r I I' := by
  have h8 := hA.1
  obtain ⟨I1, e1, h1, h2⟩ := pq_lifts_l hR hA hS (s := pt_readers T m) (tz_256 h8) hl
  unfold f_X12_lifts
  rw [pq_readers hR hA hS hm]
  simp only [Option.bind_some]
  rw [e1]
  simp only [Option.bind_some]
  refine ⟨_, rfl, ?_, rf_trans h2 (rf_up (by omega) (by omega))⟩
  rw [h1 62 (by omega), (pt_hears_61 _ _ _ _).2.1, nI_1]
  exact pr_up h1 _ _
theorem pq_gives (hR : pp_R I T) (hA : pt_VA T) (hS : pt_VS T) {m o : Nat} (hm : m < T 0) (ho : o < T 1) : ∃ I', f_X12_gives I (nI m) (nI o) = some I' ∧ pp_R I' (pt_give T m o) ∧ rf_r I I' := by
  have h7 := hA.2.1
  have hO := hA.2.2.2.2.2.2.2.2.2.2.2.2.1 o ho
  have eA := te_lift T m (T (39 + o))
  obtain ⟨I1, e1, h1, f1⟩ := pq_lifts hR hA hS hm (l := T (39 + o)) (by omega)
  obtain ⟨I2, e2, h2, f2⟩ := pq_lifts h1 (va_congr eA hA) (vs_lift hA hS (by omega)) (m := m) (by rw [eA 0 (by omega)]; exact hm) (l := T (46 + o)) (by omega)
  unfold f_X12_gives
  simp (disch := omega) only [pn_l0, pn_l1, pn_l2, pn_l3, pn_l4, pn_l5, pn_l6, pn_l7, pn_l8, pn_l9, pn_l10, pn_l11, pn_l12, pn_l13, pn_l15, pn_l20, pn_l21, pn_l22, pn_l23, pn_l24, pn_l30, pn_l31, pn_l32, pn_l39, pn_l40, pn_l41, pn_l45, pn_l46, pn_l48, pn_l53, pn_l57, pn_l58, pn_l59, pn_l60, pn_l61, pn_l62, pn_l63, pn_l64, pn_l65, pn_l66, pn_l74, pn_l82, pn_l90, pn_l97, pn_l98, pn_l99, pn_l106, pn_l107, pn_l120, pn_l122, pn_l135, pn_l255, pn_l287, pn_l300, pn_l315, pn_l360, pn_l400, pn_l900, pn_l940, pn_l1000, pn_l1000000, pn_mone, nI_add, pk_mul, nI_clamp, bm_ixk, pn_ltI, pn_leI, pn_eqI, pn_xeq, pn_xeq2, pn_xx, pn_xltI, pn_xleI, pn_xgtI, pn_xgeI, pn_xadd, pn_subx, pn_addx, Option.bind_some, ↓reduceIte, hR, e1, h1, eA (46 + o) (by omega), e2]
  exact ⟨I2, rfl, h2, rf_trans f1 f2⟩
theorem pq_hour_l2 (hR : pp_R I T) (hA : pt_VA T) (hS : pt_VS T) : ∃ I', f_X12_hour_l2 1000 0 I = some I' ∧ pp_R I' T ∧ rf_h I I' ∧ ∀ j, j < T 0 → I' 171 j = nI (pt_plan T j) := by
  have h8 := hA.1
  have h65 : T 65 < 256 := pt_256 h8 hS.2.2.2.1
  refine pl_rel (F := f_X12_hour_l2) (n := T 0) (fun j I' => pp_R I' T ∧ rf_h I I' ∧ ∀ i, i < j → I' 171 i = nI (pt_plan T i)) ?_ ?_ 1000 I (by omega) ⟨hR, rh_refl I, fun i hi => by omega⟩
  · intro k I' ⟨h1, h2, h3⟩
    refine ⟨I', ?_, h1, h2, h3⟩
    rw [f_X12_hour_l2, h1 0 (by omega), if_pos (Int32.le_refl _)]
  · intro k j I' hj ⟨h1, h2, h3⟩
    rw [f_X12_hour_l2]
    simp (disch := omega) only [pn_l0, pn_l1, pn_l2, pn_l3, pn_l4, pn_l5, pn_l6, pn_l7, pn_l8, pn_l9, pn_l10, pn_l11, pn_l12, pn_l13, pn_l15, pn_l20, pn_l21, pn_l22, pn_l23, pn_l24, pn_l30, pn_l31, pn_l32, pn_l39, pn_l40, pn_l41, pn_l45, pn_l46, pn_l48, pn_l53, pn_l57, pn_l58, pn_l59, pn_l60, pn_l61, pn_l62, pn_l63, pn_l64, pn_l65, pn_l66, pn_l74, pn_l82, pn_l90, pn_l97, pn_l98, pn_l99, pn_l106, pn_l107, pn_l120, pn_l122, pn_l135, pn_l255, pn_l287, pn_l300, pn_l315, pn_l360, pn_l400, pn_l900, pn_l940, pn_l1000, pn_l1000000, pn_mone, nI_add, pk_mul, nI_clamp, bm_ixk, pn_ltI, pn_leI, pn_eqI, pn_xeq, pn_xeq2, pn_xx, pn_xltI, pn_xleI, pn_xgtI, pn_xgeI, pn_xadd, pn_subx, pn_addx, Option.bind_some, ↓reduceIte, h1, Nat.not_le.mpr hj, pn_bitOf]
    have hh : ∀ v, pp_R (bm_uI I' 171 j v) T := fun v q hq => by rw [pn_uI_ne (by omega)]; exact h1 q hq
    cases hb : (T 65).testBit j
    · simp only [Bool.false_eq_true, ↓reduceIte]
      refine ⟨_, rfl, hh _, rh_trans h2 rh_up171, fun i hi => ?_⟩
      by_cases e : i = j
      · rw [pn_uI_hit e, e]; unfold pt_plan; rw [hb]; rfl
      · rw [pn_uI_ne2 e]; exact h3 i (by omega)
    · simp only [↓reduceIte]
      refine ⟨_, rfl, hh _, rh_trans h2 rh_up171, fun i hi => ?_⟩
      by_cases e : i = j
      · rw [pn_uI_hit e, e]; unfold pt_plan; rw [hb]; rfl
      · rw [pn_uI_ne2 e]; exact h3 i (by omega)
theorem pq_hour_l61 (hR : pp_R I T) (hA : pt_VA T) (hS : pt_VS T) {P : Nat → Nat} (hP : ∀ k, k < T 0 → P k ≤ T 1) (hI : ∀ j, j < T 0 → I 171 j = nI (P j)) : ∃ I', f_X12_hour_l61 1000 0 I = some I' ∧ pp_R I' (pt_pass P T (T 0)) ∧ rf_r I I' := by
  have h8 := hA.1
  have h7 := hA.2.1
  refine pl_rel (F := f_X12_hour_l61) (n := T 0) (fun j I' => pp_R I' (pt_pass P T j) ∧ rf_r I I') ?_ ?_ 1000 I (by omega) ⟨hR, rf_refl I⟩
  · intro k I' ⟨h1, h2⟩
    refine ⟨I', ?_, h1, h2⟩
    rw [f_X12_hour_l61, h1 0 (by omega), te_pass P T (T 0) 0 (by omega), if_pos (Int32.le_refl _)]
  · intro k j I' hj ⟨h1, h2⟩
    have eA := te_pass P T j
    have hj' : j < (pt_pass P T j) 0 := by rw [eA 0 (by omega)]; exact hj
    have hVA := va_congr eA hA
    have hVS := vs_pass hA hS (P := P) (n := j) (fun q hq => hP q (by omega)) (by omega)
    have hpj := hP j hj
    have hbr := pt_brow_le hVA hj'
    rw [f_X12_hour_l61, h1 0 (by omega), eA 0 (by omega), if_neg (nI_ge hj (by omega)), if_pos (bm_ixk (by omega) (by omega)), nI_clamp (by omega), h2 171 j (by omega), hI j hj, pq_brow h1 hVA hVS hj', nI_1, pt_pass]
    simp (disch := omega) only [pn_l0, pn_l1, pn_l2, pn_l3, pn_l4, pn_l5, pn_l6, pn_l7, pn_l8, pn_l9, pn_l10, pn_l11, pn_l12, pn_l13, pn_l15, pn_l20, pn_l21, pn_l22, pn_l23, pn_l24, pn_l30, pn_l31, pn_l32, pn_l39, pn_l40, pn_l41, pn_l45, pn_l46, pn_l48, pn_l53, pn_l57, pn_l58, pn_l59, pn_l60, pn_l61, pn_l62, pn_l63, pn_l64, pn_l65, pn_l66, pn_l74, pn_l82, pn_l90, pn_l97, pn_l98, pn_l99, pn_l106, pn_l107, pn_l120, pn_l122, pn_l135, pn_l255, pn_l287, pn_l300, pn_l315, pn_l360, pn_l400, pn_l900, pn_l940, pn_l1000, pn_l1000000, pn_mone, nI_add, pk_mul, nI_clamp, bm_ixk, pn_ltI, pn_leI, pn_eqI, pn_xeq, pn_xeq2, pn_xx, pn_xltI, pn_xleI, pn_xgtI, pn_xgeI, pn_xadd, pn_subx, pn_addx, Option.bind_some, ↓reduceIte, Nat.le_zero]
    by_cases hp : P j = 0
    · simp only [hp, ↓reduceIte]
      exact ⟨I', rfl, h1, h2⟩
    · simp only [hp, ↓reduceIte]
      by_cases hb : pt_brow (pt_pass P T j) j = 0
      · simp only [hb, ↓reduceIte]
        exact ⟨I', rfl, h1, h2⟩
      · simp only [hb, ↓reduceIte]
        obtain ⟨I2, e2, h3, h4⟩ := pq_gives h1 hVA hVS hj' (o := P j - 1) (by rw [eA 1 (by omega)]; omega)
        rw [pn_xp (by omega), e2]
        exact ⟨I2, rfl, h3, rf_trans h2 h4⟩
theorem pn_rem {a d : Nat} (ha : a < 2 ^ 31) (h0 : 0 < d) (hd : d < 2 ^ 31) : bm_rem (nI a) (nI d) = nI (a % d) := pk_rem ha h0 hd
theorem pq_hour (hR : pp_R I T) (hA : pt_VA T) (hS : pt_VS T) (h : T 61 < 400) : ∃ I', f_X12_hour I = some I' ∧ pp_R I' (pt_hour T) ∧ rf_h I I' := by
  have h8 := hA.1
  have h4 := hA.2.2.2.2.2.1
  have h4' := hA.2.2.2.2.2.2.1
  obtain ⟨I1, e1, r1, f1, g1⟩ := pq_hour_l2 hR hA hS
  have eA : pt_eA T (pt_up T 65 0) := te_up (by omega)
  have r2 := pr_up r1 65 0
  have e0 := eA 0 (by omega)
  obtain ⟨I3, e3, r3, f3⟩ := pq_hour_l61 r2 (va_congr eA hA) (vs_up65 hS h8) (P := pt_plan T) (fun k hk => by rw [eA 1 (by omega)]; exact pt_plan_le hS (by omega)) (fun j hj => by rw [pn_uI_ne (by omega)]; exact g1 j (by omega))
  rw [e0] at r3
  have eB := te_pass (pt_plan T) (pt_up T 65 0) (T 0)
  have r61 := r3 61 (by omega)
  rw [pt_pass_61, tu_ne (by omega)] at r61
  have r4 := r3 4 (by omega)
  rw [eB 4 (by omega), eA 4 (by omega)] at r4
  unfold f_X12_hour
  rw [e1]
  simp only [Option.bind_some]
  rw [show (bm_uI I1 166 65 0) = bm_uI I1 166 65 (nI 0) from rfl, e3]
  have ff : rf_h I I3 := rh_trans f1 (rh_trans (rh_of (rf_up (by omega) (by omega))) (rh_of f3))
  have hm : (T 61 + 1) % T 4 < T 4 := Nat.mod_lt _ (by omega)
  simp (disch := omega) only [pn_l0, pn_l1, pn_l2, pn_l3, pn_l4, pn_l5, pn_l6, pn_l7, pn_l8, pn_l9, pn_l10, pn_l11, pn_l12, pn_l13, pn_l15, pn_l20, pn_l21, pn_l22, pn_l23, pn_l24, pn_l30, pn_l31, pn_l32, pn_l39, pn_l40, pn_l41, pn_l45, pn_l46, pn_l48, pn_l53, pn_l57, pn_l58, pn_l59, pn_l60, pn_l61, pn_l62, pn_l63, pn_l64, pn_l65, pn_l66, pn_l74, pn_l82, pn_l90, pn_l97, pn_l98, pn_l99, pn_l106, pn_l107, pn_l120, pn_l122, pn_l135, pn_l255, pn_l287, pn_l300, pn_l315, pn_l360, pn_l400, pn_l900, pn_l940, pn_l1000, pn_l1000000, pn_mone, nI_add, pk_mul, nI_clamp, bm_ixk, pn_ltI, pn_leI, pn_eqI, pn_xeq, pn_xeq2, pn_xx, pn_xltI, pn_xleI, pn_xgtI, pn_xgeI, pn_xadd, pn_subx, pn_addx, Option.bind_some, ↓reduceIte, pn_uI_hit, pn_uI_ne, pn_uI_ne2, pn_yI_ne, r61, r4, pn_rem]
  have hz : ¬ T 4 = 0 := by omega
  simp only [hz, not_false_eq_true, ↓reduceIte]
  have hu : pt_hour T = if (T 61 + 1) % T 4 = 0 then pt_up (pt_up (pt_pass (pt_plan T) (pt_up T 65 0) (T 0)) 61 (T 61 + 1)) 64 0 else pt_up (pt_pass (pt_plan T) (pt_up T 65 0) (T 0)) 61 (T 61 + 1) := by
    unfold pt_hour pt_rain
    rw [pt_pass_61, tu_ne (by omega), eB 4 (by omega), eA 4 (by omega)]
  rw [hu]
  by_cases hr : (T 61 + 1) % T 4 = 0
  · simp only [hr, ↓reduceIte]
    exact ⟨_, rfl, pr_up (pr_up r3 _ _) _ _, rh_trans ff (rh_trans (rh_of (rf_up (by omega) (by omega))) (rh_of (rf_up (by omega) (by omega))))⟩
  · simp only [hr, ↓reduceIte]
    exact ⟨_, rfl, pr_up r3 _ _, rh_trans ff (rh_of (rf_up (by omega) (by omega)))⟩
theorem pq_goesOn (hR : pp_R I T) (hA : pt_VA T) (hS : pt_VS T) {n : Nat} (hn : n ≤ 60) : ∃ I', f_X12_goesOn I (nI n) = some (nI (min n (400 - T 61)), I') ∧ pp_R I' (pt_hrs T (min n (400 - T 61))) ∧ rf_h I I' := by
  have h1 := hS.1
  have key : ∃ t, f_X12_goesOn_l2 (nI n) 1000 0 I = some t ∧ (t.1 = nI (min n (400 - T 61)) ∧ pp_R t.2 (pt_hrs T (min n (400 - T 61))) ∧ rf_h I t.2) := by
    refine pl_rel (F := f_X12_goesOn_l2 (nI n)) (n := min n (400 - T 61)) (fun j I' => pp_R I' (pt_hrs T j) ∧ rf_h I I') ?_ ?_ 1000 I (by omega) ⟨hR, rh_refl I⟩
    · intro k I' ⟨a1, a2⟩
      have a61 := a1 61 (by omega)
      rw [pt_hrs_61] at a61
      refine ⟨(nI (min n (400 - T 61)), I'), ?_, rfl, a1, a2⟩
      rw [f_X12_goesOn_l2]
      simp (disch := omega) only [pn_l0, pn_l1, pn_l2, pn_l3, pn_l4, pn_l5, pn_l6, pn_l7, pn_l8, pn_l9, pn_l10, pn_l11, pn_l12, pn_l13, pn_l15, pn_l20, pn_l21, pn_l22, pn_l23, pn_l24, pn_l30, pn_l31, pn_l32, pn_l39, pn_l40, pn_l41, pn_l45, pn_l46, pn_l48, pn_l53, pn_l57, pn_l58, pn_l59, pn_l60, pn_l61, pn_l62, pn_l63, pn_l64, pn_l65, pn_l66, pn_l74, pn_l82, pn_l90, pn_l97, pn_l98, pn_l99, pn_l106, pn_l107, pn_l120, pn_l122, pn_l135, pn_l255, pn_l287, pn_l300, pn_l315, pn_l360, pn_l400, pn_l900, pn_l940, pn_l1000, pn_l1000000, pn_mone, nI_add, pk_mul, nI_clamp, bm_ixk, pn_ltI, pn_leI, pn_eqI, pn_xeq, pn_xeq2, pn_xx, pn_xltI, pn_xleI, pn_xgtI, pn_xgeI, pn_xadd, pn_subx, pn_addx, Option.bind_some, ↓reduceIte, a61]
      by_cases hh : n ≤ min n (400 - T 61)
      · simp only [hh, ↓reduceIte]
      · have h2 : 400 ≤ T 61 + min n (400 - T 61) := by omega
        simp only [hh, h2, ↓reduceIte]
    · intro k j I' hj ⟨a1, a2⟩
      have a61 := a1 61 (by omega)
      rw [pt_hrs_61] at a61
      obtain ⟨I2, e2, r2, f2⟩ := pq_hour a1 (va_congr (te_hrs _ _) hA) (vs_hrs hA hS (by omega)) (by rw [pt_hrs_61]; omega)
      refine ⟨I2, ?_, r2, rh_trans a2 f2⟩
      rw [f_X12_goesOn_l2]
      have g1 : ¬ n ≤ j := by omega
      have g2 : ¬ 400 ≤ T 61 + j := by omega
      simp (disch := omega) only [pn_l0, pn_l1, pn_l2, pn_l3, pn_l4, pn_l5, pn_l6, pn_l7, pn_l8, pn_l9, pn_l10, pn_l11, pn_l12, pn_l13, pn_l15, pn_l20, pn_l21, pn_l22, pn_l23, pn_l24, pn_l30, pn_l31, pn_l32, pn_l39, pn_l40, pn_l41, pn_l45, pn_l46, pn_l48, pn_l53, pn_l57, pn_l58, pn_l59, pn_l60, pn_l61, pn_l62, pn_l63, pn_l64, pn_l65, pn_l66, pn_l74, pn_l82, pn_l90, pn_l97, pn_l98, pn_l99, pn_l106, pn_l107, pn_l120, pn_l122, pn_l135, pn_l255, pn_l287, pn_l300, pn_l315, pn_l360, pn_l400, pn_l900, pn_l940, pn_l1000, pn_l1000000, pn_mone, nI_add, pk_mul, nI_clamp, bm_ixk, pn_ltI, pn_leI, pn_eqI, pn_xeq, pn_xeq2, pn_xx, pn_xltI, pn_xleI, pn_xgtI, pn_xgeI, pn_xadd, pn_subx, pn_addx, Option.bind_some, ↓reduceIte, a61, g1, g2, e2]
  obtain ⟨t, e, t1, t2, t3⟩ := key
  refine ⟨t.2, ?_, t2, t3⟩
  unfold f_X12_goesOn
  rw [e, ← t1]
  rfl
end PR2
