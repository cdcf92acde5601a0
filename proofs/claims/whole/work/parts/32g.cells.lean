/-! from where most would see one, where no foe does -/
section CE
variable {I : bm_TI} {T : pt_T}
theorem pt_seers_le (T : pt_T) (h8 : T 0 ≤ 8) (m x y : Nat) : pt_seers T m x y ≤ 8 := Nat.le_trans (pt_cnt_le _ _) h8
theorem pl_cnt {F : Nat → Int32 → Int32 → Option Int32} {n : Nat} {p : Nat → Bool} (hn : n ≤ 8) (h0 : ∀ k s, F (k + 1) s (nI n) = some s) (h1 : ∀ k s j, j < n → F (k + 1) (nI s) (nI j) = F k (nI (s + (p j).toNat)) (nI (j + 1))) : F 1000 0 0 = some (nI (pt_cnt n p)) := by
  refine pl_row (F := fun k j s => F k s (nI j)) (n := n) (fun j => nI (pt_cnt j p)) (fun k => h0 k _) (fun k j hj => ?_) 1000 (by omega)
  show F (k + 1) (nI (pt_cnt j p)) (nI j) = F k (nI (pt_cnt j p + (p j).toNat)) (nI (j + 1))
  exact h1 k _ j hj
theorem kc_seers (hP : pp_A I 4 T) (hQ : pp_S I 26 T) (hA : pt_VA T) (hS : pt_VS T) {m x y : Nat} (hm : m < T 0) (hx : x ≤ 30) (hy : y ≤ 30) : f_X8_underSeeing I (nI m) (nI x) (nI y) = some (nI (pt_seers T m x y)) := by
  have h8 := hA.1
  have hrl := pt_range_le hA hm
  unfold f_X8_underSeeing pt_seers
  rw [kc_range hP hQ hA hS hm]
  simp only [Option.bind_some]
  rw [pl_cnt (F := f_X8_underSeeing_l13 I (nI m) (nI x) (nI y) (pn_x (pt_range T m))) (p := fun k => decide (T (31 + k) = m + 1) && pt_shown T (pt_brow T m) x y (T (66 + k)) (T (74 + k))) h8]
  · rfl
  · intro q s
    rw [f_X8_underSeeing_l13, pa_men hP, if_pos (Int32.le_refl _)]
  · intro q s j hj
    have hK := hS.2.2.2.2 j hj
    have hu := hA.2.2.2.2.2.2.2.2.2.2.1 j hj
    have hfl := pt_far_le hx hy hK.1 hK.2.1
    rw [f_X8_underSeeing_l13]
    simp (disch := omega) only [pn_l0, pn_l1, pn_l2, pn_l3, pn_l4, pn_l5, pn_l6, pn_l7, pn_l8, pn_l9, pn_l10, pn_l11, pn_l12, pn_l13, pn_l15, pn_l20, pn_l21, pn_l22, pn_l23, pn_l24, pn_l30, pn_l31, pn_l32, pn_l39, pn_l40, pn_l41, pn_l45, pn_l46, pn_l48, pn_l53, pn_l57, pn_l58, pn_l59, pn_l60, pn_l61, pn_l62, pn_l63, pn_l64, pn_l65, pn_l66, pn_l74, pn_l82, pn_l90, pn_l97, pn_l98, pn_l99, pn_l106, pn_l107, pn_l120, pn_l122, pn_l135, pn_l255, pn_l287, pn_l300, pn_l315, pn_l360, pn_l400, pn_l900, pn_l940, pn_l1000, pn_l1000000, pn_mone, nI_add, pk_mul, nI_clamp, bm_ixk, pn_ltI, pn_leI, pn_eqI, pn_xeq, pn_xeq2, pn_xx, pn_xltI, pn_xleI, pn_xgtI, pn_xgeI, pn_xadd, pn_subx, pn_addx, Option.bind_some, ↓reduceIte, pa_men hP, pa_under hP, pg_asleep26 hQ, pg_sooted26 hQ, pg_pass26 hQ, pg_hour26 hQ, pg_lifts26 hQ, pg_x26 hQ, pg_y26 hQ, pg_heard26 hQ, pg_order26 hQ, pg_lost26 hQ, Nat.not_le.mpr hj, kc_far]
    simp only [pt_shown_r]
    by_cases h : T (31 + j) = m + 1
    · by_cases h2 : pt_far x y (T (66 + j)) (T (74 + j)) < pt_range T m
      · have h3 : ¬ pt_range T m ≤ pt_far x y (T (66 + j)) (T (74 + j)) := by omega
        simp [h, h2, h3]
      · have h3 : pt_range T m ≤ pt_far x y (T (66 + j)) (T (74 + j)) := by omega
        simp [h, h2, h3]
    · simp [h]
theorem pq_seers (hR : pp_R I T) (hA : pt_VA T) (hS : pt_VS T) {m x y : Nat} (hm : m < T 0) (hx : x ≤ 30) (hy : y ≤ 30) : f_X12_seersAt I (nI m) (nI x) (nI y) = some (nI (pt_seers T m x y)) := by
  have h8 := hA.1
  have hb := pt_brow_le hA hm
  unfold f_X12_seersAt pt_seers
  rw [pl_cnt (F := f_X12_seersAt_l6 I (nI m) (nI x) (nI y)) (p := fun k => decide (T (31 + k) = m + 1) && pt_shown T (pt_brow T m) x y (T (66 + k)) (T (74 + k))) h8]
  · rfl
  · intro q s
    rw [f_X12_seersAt_l6, hR 0 (by omega), if_pos (Int32.le_refl _)]
  · intro q s j hj
    have hK := hS.2.2.2.2 j hj
    have hu := hA.2.2.2.2.2.2.2.2.2.2.1 j hj
    rw [f_X12_seersAt_l6]
    simp (disch := omega) only [pn_l0, pn_l1, pn_l2, pn_l3, pn_l4, pn_l5, pn_l6, pn_l7, pn_l8, pn_l9, pn_l10, pn_l11, pn_l12, pn_l13, pn_l15, pn_l20, pn_l21, pn_l22, pn_l23, pn_l24, pn_l30, pn_l31, pn_l32, pn_l39, pn_l40, pn_l41, pn_l45, pn_l46, pn_l48, pn_l53, pn_l57, pn_l58, pn_l59, pn_l60, pn_l61, pn_l62, pn_l63, pn_l64, pn_l65, pn_l66, pn_l74, pn_l82, pn_l90, pn_l97, pn_l98, pn_l99, pn_l106, pn_l107, pn_l120, pn_l122, pn_l135, pn_l255, pn_l287, pn_l300, pn_l315, pn_l360, pn_l400, pn_l900, pn_l940, pn_l1000, pn_l1000000, pn_mone, nI_add, pk_mul, nI_clamp, bm_ixk, pn_ltI, pn_leI, pn_eqI, pn_xeq, pn_xeq2, pn_xx, pn_xltI, pn_xleI, pn_xgtI, pn_xgeI, pn_xadd, pn_subx, pn_addx, Option.bind_some, ↓reduceIte, hR, Nat.not_le.mpr hj, pq_brow hR hA hS hm, pq_shown hR hA, Nat.add_zero]
    by_cases h : T (31 + j) = m + 1
    · cases pt_shown T (pt_brow T m) x y (T (66 + j)) (T (74 + j)) <;> simp [h]
    · simp [h]
end CE
/-- most and 1, how far, where -/
def st_step (T : pt_T) (m y x : Nat) (s : Nat × Nat × Int32 × Int32) : Nat × Nat × Int32 × Int32 := if s.1 ≤ pt_seers T m x y ∨ (pt_seers T m x y + 1 = s.1 ∧ pt_far x y (T (66 + m)) (T (74 + m)) < s.2.1) then (pt_seers T m x y + 1, pt_far x y (T (66 + m)) (T (74 + m)), nI x, nI y) else s
def st_row (T : pt_T) (m y : Nat) (s : Nat × Nat × Int32 × Int32) (n : Nat) : Nat × Nat × Int32 × Int32 := match n with
  | 0 => s
  | k + 1 => st_step T m y k (st_row T m y s k)
def st_all (T : pt_T) (m : Nat) (s : Nat × Nat × Int32 × Int32) (n : Nat) : Nat × Nat × Int32 × Int32 := match n with
  | 0 => s
  | k + 1 => st_row T m k (st_all T m s k) 31
/-- what is least, and 1 -/
def hd_step (T : pt_T) (m y x : Nat) (s : Nat × Int32 × Int32) : Nat × Int32 × Int32 := if (s.1 = 0 ∨ pt_far x y (T (66 + m)) (T (74 + m)) + 1 < s.1) ∧ pt_foes T m x y = 0 ∧ 0 < pt_seers T m x y then (pt_far x y (T (66 + m)) (T (74 + m)) + 1, nI x, nI y) else s
def hd_row (T : pt_T) (m y : Nat) (s : Nat × Int32 × Int32) (n : Nat) : Nat × Int32 × Int32 := match n with
  | 0 => s
  | k + 1 => hd_step T m y k (hd_row T m y s k)
def hd_all (T : pt_T) (m : Nat) (s : Nat × Int32 × Int32) (n : Nat) : Nat × Int32 × Int32 := match n with
  | 0 => s
  | k + 1 => hd_row T m k (hd_all T m s k) 31
section CK
variable {I : bm_TI} {T : pt_T}
/-- the class's own cell -/
def cf_c (I I' : bm_TI) : Prop := ∀ o k, (o ≠ 0 ∨ (k ≠ 14 ∧ k ≠ 15)) → I' o k = I o k
def cs_P (I : bm_TI) (v : Nat × Nat × Int32 × Int32) (s : Int32 × Int32 × bm_TI) : Prop := v.1 ≤ 9 ∧ v.2.1 ≤ 60 ∧ s.1 = pn_x v.1 ∧ s.2.1 = nI v.2.1 ∧ s.2.2 0 14 = v.2.2.1 ∧ s.2.2 0 15 = v.2.2.2 ∧ cf_c I s.2.2
theorem kc_stand_r (hP : pp_A I 4 T) (hQ : pp_S I 26 T) (hA : pt_VA T) (hS : pt_VS T) {m y : Nat} (hm : m < T 0) (hy : y ≤ 30) (v : Nat × Nat × Int32 × Int32) (s : Int32 × Int32 × bm_TI) (h : cs_P I v s) : ∃ t, f_X11_stand_l27 (nI m) (nI y) 1000 s.1 s.2.1 0 s.2.2 = some t ∧ cs_P I (st_row T m y v 31) t := by
  have h8 := hA.1
  have hM := hS.2.2.2.2 m hm
  refine pl_rel (σ := Int32 × Int32 × bm_TI) (F := fun k i s => f_X11_stand_l27 (nI m) (nI y) k s.1 s.2.1 i s.2.2) (n := 31) (fun j s => cs_P I (st_row T m y v j) s) ?_ ?_ 1000 s (by omega) h
  · intro k s hs
    refine ⟨s, ?_, hs⟩
    show f_X11_stand_l27 (nI m) (nI y) (k + 1) s.1 s.2.1 (nI 31) s.2.2 = some s
    rw [f_X11_stand_l27, if_pos (show (30 : Int32) < nI 31 by decide)]
  · intro k j s hj hs
    show ∃ s' : Int32 × Int32 × bm_TI, f_X11_stand_l27 (nI m) (nI y) (k + 1) s.1 s.2.1 (nI j) s.2.2 = f_X11_stand_l27 (nI m) (nI y) k s'.1 s'.2.1 (nI (j + 1)) s'.2.2 ∧ cs_P I (st_step T m y j (st_row T m y v j)) s'
    generalize st_row T m y v j = w at hs ⊢
    obtain ⟨b1, b2, a1, a2, a3, a4, f⟩ := id hs
    have hP' : pp_A s.2.2 4 T := pa_congr (fun o k _ _ => f o k (by omega)) hP
    have hQ' : pp_S s.2.2 26 T := ps_congr (fun k => f 26 k (by omega)) (fun c k _ _ => f c k (by omega)) hQ
    have hsl := pt_seers_le T h8 m j y
    have hfl := pt_far_le (x := j) (y := y) (by omega) hy hM.1 hM.2.1
    have g30 : ¬ 30 < j := by omega
    rw [f_X11_stand_l27, a1, a2, kc_seers hP' hQ' hA hS hm (by omega) hy]
    have hQ := hQ'
    simp (disch := omega) only [pn_l0, pn_l1, pn_l2, pn_l3, pn_l4, pn_l5, pn_l6, pn_l7, pn_l8, pn_l9, pn_l10, pn_l11, pn_l12, pn_l13, pn_l15, pn_l20, pn_l21, pn_l22, pn_l23, pn_l24, pn_l30, pn_l31, pn_l32, pn_l39, pn_l40, pn_l41, pn_l45, pn_l46, pn_l48, pn_l53, pn_l57, pn_l58, pn_l59, pn_l60, pn_l61, pn_l62, pn_l63, pn_l64, pn_l65, pn_l66, pn_l74, pn_l82, pn_l90, pn_l97, pn_l98, pn_l99, pn_l106, pn_l107, pn_l120, pn_l122, pn_l135, pn_l255, pn_l287, pn_l300, pn_l315, pn_l360, pn_l400, pn_l900, pn_l940, pn_l1000, pn_l1000000, pn_mone, nI_add, pk_mul, nI_clamp, bm_ixk, pn_ltI, pn_leI, pn_eqI, pn_xeq, pn_xeq2, pn_xx, pn_xltI, pn_xleI, pn_xgtI, pn_xgeI, pn_xadd, pn_subx, pn_addx, Option.bind_some, ↓reduceIte, g30, pg_asleep26 hQ, pg_sooted26 hQ, pg_pass26 hQ, pg_hour26 hQ, pg_lifts26 hQ, pg_x26 hQ, pg_y26 hQ, pg_heard26 hQ, pg_order26 hQ, pg_lost26 hQ, kc_far]
    unfold st_step
    have good : cs_P I (pt_seers T m j y + 1, pt_far j y (T (66 + m)) (T (74 + m)), nI j, nI y) (nI (pt_seers T m j y), nI (pt_far j y (T (66 + m)) (T (74 + m))), bm_uI (bm_uI s.2.2 0 14 (nI j)) 0 15 (nI y)) := ⟨by show _ + 1 ≤ 9; omega, hfl, (pn_xs _).symm, rfl, by show bm_uI (bm_uI s.2.2 0 14 (nI j)) 0 15 (nI y) 0 14 = nI j; rw [pn_uI_ne2 (by omega), pn_uI_hit rfl], (pn_uI_hit rfl : bm_uI (bm_uI s.2.2 0 14 (nI j)) 0 15 (nI y) 0 15 = nI y), fun o k ho => by show bm_uI (bm_uI s.2.2 0 14 (nI j)) 0 15 (nI y) o k = I o k; rw [pn_uI_off (by omega), pn_uI_off (by omega)]; exact f o k ho⟩
    by_cases c1 : w.1 ≤ pt_seers T m j y
    · simp only [c1, ↓reduceIte, true_or]
      exact ⟨_, rfl, good⟩
    · by_cases c2 : w.1 = pt_seers T m j y + 1
      · by_cases c3 : w.2.1 ≤ pt_far j y (T (66 + m)) (T (74 + m))
        · rw [if_neg c1, if_pos c2, if_pos c3, if_neg (show ¬ (w.1 ≤ pt_seers T m j y ∨ (pt_seers T m j y + 1 = w.1 ∧ pt_far j y (T (66 + m)) (T (74 + m)) < w.2.1)) by omega)]
          exact ⟨(pn_x w.1, nI w.2.1, s.2.2), rfl, b1, b2, rfl, rfl, a3, a4, f⟩
        · rw [if_neg c1, if_pos c2, if_neg c3, if_pos (show w.1 ≤ pt_seers T m j y ∨ (pt_seers T m j y + 1 = w.1 ∧ pt_far j y (T (66 + m)) (T (74 + m)) < w.2.1) by omega)]
          exact ⟨_, rfl, good⟩
      · have c5 : ¬ pt_seers T m j y + 1 = w.1 := fun e => c2 e.symm
        simp only [c1, c2, c5, ↓reduceIte, false_or, false_and]
        exact ⟨(pn_x w.1, nI w.2.1, s.2.2), rfl, b1, b2, rfl, rfl, a3, a4, f⟩
theorem kc_stand_a (hP : pp_A I 4 T) (hQ : pp_S I 26 T) (hA : pt_VA T) (hS : pt_VS T) {m : Nat} (hm : m < T 0) : ∃ t, f_X11_stand_l17 (nI m) 1000 (-1) 0 0 I = some t ∧ (t.1 = pn_x (st_all T m (0, 0, I 0 14, I 0 15) 31).1 ∧ t.2 0 14 = (st_all T m (0, 0, I 0 14, I 0 15) 31).2.2.1 ∧ t.2 0 15 = (st_all T m (0, 0, I 0 14, I 0 15) 31).2.2.2 ∧ cf_c I t.2) := by
  refine pl_rel (σ := Int32 × Int32 × bm_TI) (F := fun k i s => f_X11_stand_l17 (nI m) k s.1 s.2.1 i s.2.2) (n := 31) (fun j s => cs_P I (st_all T m (0, 0, I 0 14, I 0 15) j) s) ?_ ?_ 1000 (-1, 0, I) (by omega) ⟨Nat.zero_le _, Nat.zero_le _, rfl, rfl, rfl, rfl, fun _ _ _ => rfl⟩
  · intro k s hs
    refine ⟨(s.1, s.2.2), ?_, hs.2.2.1, hs.2.2.2.2.1, hs.2.2.2.2.2.1, hs.2.2.2.2.2.2⟩
    show f_X11_stand_l17 (nI m) (k + 1) s.1 s.2.1 (nI 31) s.2.2 = _
    rw [f_X11_stand_l17, if_pos (show (30 : Int32) < nI 31 by decide)]
  · intro k j s hj hs
    show ∃ s' : Int32 × Int32 × bm_TI, f_X11_stand_l17 (nI m) (k + 1) s.1 s.2.1 (nI j) s.2.2 = f_X11_stand_l17 (nI m) k s'.1 s'.2.1 (nI (j + 1)) s'.2.2 ∧ cs_P I (st_row T m j (st_all T m (0, 0, I 0 14, I 0 15) j) 31) s'
    obtain ⟨t, e, h⟩ := kc_stand_r hP hQ hA hS hm (y := j) (by omega) _ s hs
    refine ⟨t, ?_, h⟩
    rw [f_X11_stand_l17, if_neg (show ¬ (30 : Int32) < nI j from fun h => by have := (nI_ltI (a := 30) (by omega) (by omega)).mp h; omega), e, nI_1]
    rfl
/-- the reference's -/
def rf_c (I I' : bm_TI) : Prop := ∀ o k, (o ≠ 164 ∨ (k ≠ 25 ∧ k ≠ 26)) → I' o k = I o k
def qs_P (I : bm_TI) (v : Nat × Nat × Int32 × Int32) (s : Int32 × Int32 × bm_TI) : Prop := v.1 ≤ 9 ∧ v.2.1 ≤ 60 ∧ s.1 = pn_x v.1 ∧ (v.1 = 0 ∨ s.2.1 = nI v.2.1) ∧ s.2.2 164 25 = v.2.2.1 ∧ s.2.2 164 26 = v.2.2.2 ∧ rf_c I s.2.2
theorem pq_stand_r (hR : pp_R I T) (hA : pt_VA T) (hS : pt_VS T) {m y : Nat} (hm : m < T 0) (hy : y ≤ 30) (v : Nat × Nat × Int32 × Int32) (s : Int32 × Int32 × bm_TI) (h : qs_P I v s) : ∃ t, f_X12_stand_l34 (nI m) (nI y) 1000 s.1 s.2.1 0 s.2.2 = some t ∧ qs_P I (st_row T m y v 31) t := by
  have h8 := hA.1
  have hM := hS.2.2.2.2 m hm
  refine pl_rel (σ := Int32 × Int32 × bm_TI) (F := fun k i s => f_X12_stand_l34 (nI m) (nI y) k s.1 s.2.1 i s.2.2) (n := 31) (fun j s => qs_P I (st_row T m y v j) s) ?_ ?_ 1000 s (by omega) h
  · intro k s hs
    refine ⟨s, ?_, hs⟩
    show f_X12_stand_l34 (nI m) (nI y) (k + 1) s.1 s.2.1 (nI 31) s.2.2 = some s
    rw [f_X12_stand_l34, if_pos (show (30 : Int32) < nI 31 by decide)]
  · intro k j s hj hs
    show ∃ s' : Int32 × Int32 × bm_TI, f_X12_stand_l34 (nI m) (nI y) (k + 1) s.1 s.2.1 (nI j) s.2.2 = f_X12_stand_l34 (nI m) (nI y) k s'.1 s'.2.1 (nI (j + 1)) s'.2.2 ∧ qs_P I (st_step T m y j (st_row T m y v j)) s'
    generalize st_row T m y v j = w at hs ⊢
    obtain ⟨b1, b2, a1, a2, a3, a4, f⟩ := id hs
    have hR' : pp_R s.2.2 T := fun k hk => by rw [f 166 k (by omega)]; exact hR k hk
    have hsl := pt_seers_le T h8 m j y
    have hfl := pt_far_le (x := j) (y := y) (by omega) hy hM.1 hM.2.1
    have g30 : ¬ 30 < j := by omega
    rw [f_X12_stand_l34, a1, pq_seers hR' hA hS hm (by omega) hy]
    simp (disch := omega) only [pn_l0, pn_l1, pn_l2, pn_l3, pn_l4, pn_l5, pn_l6, pn_l7, pn_l8, pn_l9, pn_l10, pn_l11, pn_l12, pn_l13, pn_l15, pn_l20, pn_l21, pn_l22, pn_l23, pn_l24, pn_l30, pn_l31, pn_l32, pn_l39, pn_l40, pn_l41, pn_l45, pn_l46, pn_l48, pn_l53, pn_l57, pn_l58, pn_l59, pn_l60, pn_l61, pn_l62, pn_l63, pn_l64, pn_l65, pn_l66, pn_l74, pn_l82, pn_l90, pn_l97, pn_l98, pn_l99, pn_l106, pn_l107, pn_l120, pn_l122, pn_l135, pn_l255, pn_l287, pn_l300, pn_l315, pn_l360, pn_l400, pn_l900, pn_l940, pn_l1000, pn_l1000000, pn_mone, nI_add, pk_mul, nI_clamp, bm_ixk, pn_ltI, pn_leI, pn_eqI, pn_xeq, pn_xeq2, pn_xx, pn_xltI, pn_xleI, pn_xgtI, pn_xgeI, pn_xadd, pn_subx, pn_addx, Option.bind_some, ↓reduceIte, g30, hR', pq_far]
    unfold st_step
    have good : qs_P I (pt_seers T m j y + 1, pt_far j y (T (66 + m)) (T (74 + m)), nI j, nI y) (nI (pt_seers T m j y), nI (pt_far j y (T (66 + m)) (T (74 + m))), bm_uI (bm_uI s.2.2 164 25 (nI j)) 164 26 (nI y)) := ⟨by show _ + 1 ≤ 9; omega, hfl, (pn_xs _).symm, Or.inr rfl, by show bm_uI (bm_uI s.2.2 164 25 (nI j)) 164 26 (nI y) 164 25 = nI j; rw [pn_uI_ne2 (by omega), pn_uI_hit rfl], (pn_uI_hit rfl : bm_uI (bm_uI s.2.2 164 25 (nI j)) 164 26 (nI y) 164 26 = nI y), fun o k ho => by show bm_uI (bm_uI s.2.2 164 25 (nI j)) 164 26 (nI y) o k = I o k; rw [pn_uI_off (by omega), pn_uI_off (by omega)]; exact f o k ho⟩
    have keep : qs_P I w (pn_x w.1, s.2.1, s.2.2) := ⟨b1, b2, rfl, a2, a3, a4, f⟩
    by_cases c0 : pt_seers T m j y + 1 < w.1
    · have c1 : ¬ w.1 ≤ pt_seers T m j y := by omega
      have c5 : ¬ pt_seers T m j y + 1 = w.1 := by omega
      simp only [c0, c1, c5, ↓reduceIte, false_or, false_and]
      exact ⟨(pn_x w.1, s.2.1, s.2.2), rfl, keep⟩
    · by_cases c2 : w.1 = pt_seers T m j y + 1
      · have c1 : ¬ w.1 ≤ pt_seers T m j y := by omega
        have hl : s.2.1 = nI w.2.1 := a2.resolve_left (by omega)
        rw [hl]
        simp only [pn_ltI (show pt_far j y (T (66 + m)) (T (74 + m)) < 2 ^ 31 by omega) (show w.2.1 < 2 ^ 31 by omega)]
        by_cases c3 : pt_far j y (T (66 + m)) (T (74 + m)) < w.2.1
        · simp only [c0, c1, c3, ↓reduceIte, false_or, and_true]
          rw [if_pos c2, if_pos c2.symm]
          exact ⟨_, rfl, good⟩
        · simp only [c0, c1, c3, ↓reduceIte, false_or, and_false]
          rw [if_pos c2]
          exact ⟨(pn_x w.1, nI w.2.1, s.2.2), rfl, b1, b2, rfl, Or.inr rfl, a3, a4, f⟩
      · have c1 : w.1 ≤ pt_seers T m j y := by omega
        simp only [c0, c1, c2, ↓reduceIte, true_or]
        exact ⟨_, rfl, good⟩
theorem pq_stand_a (hR : pp_R I T) (hA : pt_VA T) (hS : pt_VS T) {m : Nat} (hm : m < T 0) : ∃ t, f_X12_stand_l24 (nI m) 1000 (-1) 1000000 0 I = some t ∧ (t.1 = pn_x (st_all T m (0, 0, I 164 25, I 164 26) 31).1 ∧ t.2 164 25 = (st_all T m (0, 0, I 164 25, I 164 26) 31).2.2.1 ∧ t.2 164 26 = (st_all T m (0, 0, I 164 25, I 164 26) 31).2.2.2 ∧ rf_c I t.2) := by
  refine pl_rel (σ := Int32 × Int32 × bm_TI) (F := fun k i s => f_X12_stand_l24 (nI m) k s.1 s.2.1 i s.2.2) (n := 31) (fun j s => qs_P I (st_all T m (0, 0, I 164 25, I 164 26) j) s) ?_ ?_ 1000 (-1, 1000000, I) (by omega) ⟨Nat.zero_le _, Nat.zero_le _, rfl, Or.inl rfl, rfl, rfl, fun _ _ _ => rfl⟩
  · intro k s hs
    refine ⟨(s.1, s.2.2), ?_, hs.2.2.1, hs.2.2.2.2.1, hs.2.2.2.2.2.1, hs.2.2.2.2.2.2⟩
    show f_X12_stand_l24 (nI m) (k + 1) s.1 s.2.1 (nI 31) s.2.2 = _
    rw [f_X12_stand_l24, if_pos (show (30 : Int32) < nI 31 by decide)]
  · intro k j s hj hs
    show ∃ s' : Int32 × Int32 × bm_TI, f_X12_stand_l24 (nI m) (k + 1) s.1 s.2.1 (nI j) s.2.2 = f_X12_stand_l24 (nI m) k s'.1 s'.2.1 (nI (j + 1)) s'.2.2 ∧ qs_P I (st_row T m j (st_all T m (0, 0, I 164 25, I 164 26) j) 31) s'
    obtain ⟨t, e, h⟩ := pq_stand_r hR hA hS hm (y := j) (by omega) _ s hs
    refine ⟨t, ?_, h⟩
    rw [f_X12_stand_l24, if_neg (show ¬ (30 : Int32) < nI j from fun h => by have := (nI_ltI (a := 30) (by omega) (by omega)).mp h; omega), e, nI_1]
    rfl
def ch_P (I : bm_TI) (v : Nat × Int32 × Int32) (s : Int32 × bm_TI) : Prop := v.1 ≤ 61 ∧ s.1 = pn_x v.1 ∧ s.2 0 14 = v.2.1 ∧ s.2 0 15 = v.2.2 ∧ cf_c I s.2
theorem pt_foes_lt (T : pt_T) (h4 : T 2 ≤ 4) (m x y : Nat) : pt_foes T m x y < 256 := tz_256 (by omega)
theorem kc_hide_r (hP : pp_A I 4 T) (hQ : pp_S I 26 T) (hA : pt_VA T) (hS : pt_VS T) {m y : Nat} (hm : m < T 0) (hy : y ≤ 30) (v : Nat × Int32 × Int32) (s : Int32 × bm_TI) (h : ch_P I v s) : ∃ t, f_X11_hide_l23 (nI m) (nI y) 1000 s.1 0 s.2 = some t ∧ ch_P I (hd_row T m y v 31) t := by
  have h8 := hA.1
  have hM := hS.2.2.2.2 m hm
  refine pl_rel (σ := Int32 × bm_TI) (F := fun k i s => f_X11_hide_l23 (nI m) (nI y) k s.1 i s.2) (n := 31) (fun j s => ch_P I (hd_row T m y v j) s) ?_ ?_ 1000 s (by omega) h
  · intro k s hs
    refine ⟨s, ?_, hs⟩
    show f_X11_hide_l23 (nI m) (nI y) (k + 1) s.1 (nI 31) s.2 = some s
    rw [f_X11_hide_l23, if_pos (show (30 : Int32) < nI 31 by decide)]
  · intro k j s hj hs
    show ∃ s' : Int32 × bm_TI, f_X11_hide_l23 (nI m) (nI y) (k + 1) s.1 (nI j) s.2 = f_X11_hide_l23 (nI m) (nI y) k s'.1 (nI (j + 1)) s'.2 ∧ ch_P I (hd_step T m y j (hd_row T m y v j)) s'
    generalize hd_row T m y v j = w at hs ⊢
    obtain ⟨b1, a1, a3, a4, f⟩ := id hs
    have hP' : pp_A s.2 4 T := pa_congr (fun o k _ _ => f o k (by omega)) hP
    have hQ' : pp_S s.2 26 T := ps_congr (fun k => f 26 k (by omega)) (fun c k _ _ => f c k (by omega)) hQ
    have hsl := pt_seers_le T h8 m j y
    have hfo := pt_foes_lt T hA.2.2.1 m j y
    have hfl := pt_far_le (x := j) (y := y) (by omega) hy hM.1 hM.2.1
    have g30 : ¬ 30 < j := by omega
    rw [f_X11_hide_l23, a1, kc_seers hP' hQ' hA hS hm (by omega) hy, kc_foes hP' hQ' hA hS hm (by omega) hy]
    have hQ := hQ'
    simp (disch := omega) only [pn_l0, pn_l1, pn_l2, pn_l3, pn_l4, pn_l5, pn_l6, pn_l7, pn_l8, pn_l9, pn_l10, pn_l11, pn_l12, pn_l13, pn_l15, pn_l20, pn_l21, pn_l22, pn_l23, pn_l24, pn_l30, pn_l31, pn_l32, pn_l39, pn_l40, pn_l41, pn_l45, pn_l46, pn_l48, pn_l53, pn_l57, pn_l58, pn_l59, pn_l60, pn_l61, pn_l62, pn_l63, pn_l64, pn_l65, pn_l66, pn_l74, pn_l82, pn_l90, pn_l97, pn_l98, pn_l99, pn_l106, pn_l107, pn_l120, pn_l122, pn_l135, pn_l255, pn_l287, pn_l300, pn_l315, pn_l360, pn_l400, pn_l900, pn_l940, pn_l1000, pn_l1000000, pn_mone, nI_add, pk_mul, nI_clamp, bm_ixk, pn_ltI, pn_leI, pn_eqI, pn_xeq, pn_xeq2, pn_xx, pn_xltI, pn_xleI, pn_xgtI, pn_xgeI, pn_xadd, pn_subx, pn_addx, Option.bind_some, ↓reduceIte, g30, pg_asleep26 hQ, pg_sooted26 hQ, pg_pass26 hQ, pg_hour26 hQ, pg_lifts26 hQ, pg_x26 hQ, pg_y26 hQ, pg_heard26 hQ, pg_order26 hQ, pg_lost26 hQ, kc_far, Nat.le_zero]
    unfold hd_step
    have good : ch_P I (pt_far j y (T (66 + m)) (T (74 + m)) + 1, nI j, nI y) (nI (pt_far j y (T (66 + m)) (T (74 + m))), bm_uI (bm_uI s.2 0 14 (nI j)) 0 15 (nI y)) := ⟨by show _ + 1 ≤ 61; omega, (pn_xs _).symm, by show bm_uI (bm_uI s.2 0 14 (nI j)) 0 15 (nI y) 0 14 = nI j; rw [pn_uI_ne2 (by omega), pn_uI_hit rfl], (pn_uI_hit rfl : bm_uI (bm_uI s.2 0 14 (nI j)) 0 15 (nI y) 0 15 = nI y), fun o k ho => by show bm_uI (bm_uI s.2 0 14 (nI j)) 0 15 (nI y) o k = I o k; rw [pn_uI_off (by omega), pn_uI_off (by omega)]; exact f o k ho⟩
    have keep : ch_P I w (pn_x w.1, s.2) := ⟨b1, rfl, a3, a4, f⟩
    by_cases c0 : w.1 = 0
    · by_cases c1 : pt_foes T m j y = 0
      · by_cases c2 : pt_seers T m j y = 0
        · simp only [c0, c1, c2, ↓reduceIte, Nat.lt_irrefl, and_false]
          exact ⟨(pn_x w.1, s.2), by rw [c0], keep⟩
        · have c3 : 0 < pt_seers T m j y := by omega
          simp only [c0, c1, c2, c3, ↓reduceIte, true_or, and_true]
          exact ⟨_, rfl, good⟩
      · simp only [c0, c1, ↓reduceIte, false_and, and_false]
        exact ⟨(pn_x w.1, s.2), by rw [c0], keep⟩
    · by_cases c4 : w.1 ≤ pt_far j y (T (66 + m)) (T (74 + m)) + 1
      · have c5 : ¬ pt_far j y (T (66 + m)) (T (74 + m)) + 1 < w.1 := by omega
        simp only [c0, c4, c5, ↓reduceIte, false_or, false_and]
        exact ⟨(pn_x w.1, s.2), rfl, keep⟩
      · have c5 : pt_far j y (T (66 + m)) (T (74 + m)) + 1 < w.1 := by omega
        by_cases c1 : pt_foes T m j y = 0
        · by_cases c2 : pt_seers T m j y = 0
          · simp only [c0, c1, c2, c4, ↓reduceIte, Nat.lt_irrefl, and_false]
            exact ⟨(pn_x w.1, s.2), rfl, keep⟩
          · have c3 : 0 < pt_seers T m j y := by omega
            simp only [c0, c1, c2, c3, c4, c5, ↓reduceIte, false_or, and_true]
            exact ⟨_, rfl, good⟩
        · simp only [c0, c1, c4, ↓reduceIte, false_and, and_false]
          exact ⟨(pn_x w.1, s.2), rfl, keep⟩
theorem kc_hide_a (hP : pp_A I 4 T) (hQ : pp_S I 26 T) (hA : pt_VA T) (hS : pt_VS T) {m : Nat} (hm : m < T 0) : ∃ t, f_X11_hide_l14 (nI m) 1000 (-1) 0 I = some t ∧ ch_P I (hd_all T m (0, I 0 14, I 0 15) 31) t := by
  refine pl_rel (σ := Int32 × bm_TI) (F := fun k i s => f_X11_hide_l14 (nI m) k s.1 i s.2) (n := 31) (fun j s => ch_P I (hd_all T m (0, I 0 14, I 0 15) j) s) ?_ ?_ 1000 (-1, I) (by omega) ⟨Nat.zero_le _, rfl, rfl, rfl, fun _ _ _ => rfl⟩
  · intro k s hs
    refine ⟨s, ?_, hs⟩
    show f_X11_hide_l14 (nI m) (k + 1) s.1 (nI 31) s.2 = _
    rw [f_X11_hide_l14, if_pos (show (30 : Int32) < nI 31 by decide)]
  · intro k j s hj hs
    show ∃ s' : Int32 × bm_TI, f_X11_hide_l14 (nI m) (k + 1) s.1 (nI j) s.2 = f_X11_hide_l14 (nI m) k s'.1 (nI (j + 1)) s'.2 ∧ ch_P I (hd_row T m j (hd_all T m (0, I 0 14, I 0 15) j) 31) s'
    obtain ⟨t, e, h⟩ := kc_hide_r hP hQ hA hS hm (y := j) (by omega) _ s hs
    refine ⟨t, ?_, h⟩
    rw [f_X11_hide_l14, if_neg (show ¬ (30 : Int32) < nI j from fun h => by have := (nI_ltI (a := 30) (by omega) (by omega)).mp h; omega), e, nI_1]
    rfl
/-- the reference's least: far off, if there is none -/
def hd_L (n : Nat) : Nat := if n = 0 then 1000000 else n - 1
def qh_P (I : bm_TI) (v : Nat × Int32 × Int32) (s : Int32 × bm_TI) : Prop := v.1 ≤ 61 ∧ s.1 = nI (hd_L v.1) ∧ s.2 164 25 = v.2.1 ∧ s.2 164 26 = v.2.2 ∧ rf_c I s.2
theorem pq_hide_r (hR : pp_R I T) (hA : pt_VA T) (hS : pt_VS T) {m y : Nat} (hm : m < T 0) (hy : y ≤ 30) (v : Nat × Int32 × Int32) (s : Int32 × bm_TI) (h : qh_P I v s) : ∃ t, f_X12_hide_l30 (nI m) (nI y) 1000 s.1 0 s.2 = some t ∧ qh_P I (hd_row T m y v 31) t := by
  have h8 := hA.1
  have hM := hS.2.2.2.2 m hm
  refine pl_rel (σ := Int32 × bm_TI) (F := fun k i s => f_X12_hide_l30 (nI m) (nI y) k s.1 i s.2) (n := 31) (fun j s => qh_P I (hd_row T m y v j) s) ?_ ?_ 1000 s (by omega) h
  · intro k s hs
    refine ⟨s, ?_, hs⟩
    show f_X12_hide_l30 (nI m) (nI y) (k + 1) s.1 (nI 31) s.2 = some s
    rw [f_X12_hide_l30, if_pos (show (30 : Int32) < nI 31 by decide)]
  · intro k j s hj hs
    show ∃ s' : Int32 × bm_TI, f_X12_hide_l30 (nI m) (nI y) (k + 1) s.1 (nI j) s.2 = f_X12_hide_l30 (nI m) (nI y) k s'.1 (nI (j + 1)) s'.2 ∧ qh_P I (hd_step T m y j (hd_row T m y v j)) s'
    generalize hd_row T m y v j = w at hs ⊢
    obtain ⟨b1, a1, a3, a4, f⟩ := id hs
    have hR' : pp_R s.2 T := fun k hk => by rw [f 166 k (by omega)]; exact hR k hk
    have hsl := pt_seers_le T h8 m j y
    have hfo := pt_foes_lt T hA.2.2.1 m j y
    have hfl := pt_far_le (x := j) (y := y) (by omega) hy hM.1 hM.2.1
    have g30 : ¬ 30 < j := by omega
    have hL : hd_L w.1 ≤ 1000000 := by unfold hd_L; split <;> omega
    rw [f_X12_hide_l30, a1, pq_seers hR' hA hS hm (by omega) hy, pq_foes hR' hA hS hm (by omega) hy]
    simp (disch := omega) only [pn_l0, pn_l1, pn_l2, pn_l3, pn_l4, pn_l5, pn_l6, pn_l7, pn_l8, pn_l9, pn_l10, pn_l11, pn_l12, pn_l13, pn_l15, pn_l20, pn_l21, pn_l22, pn_l23, pn_l24, pn_l30, pn_l31, pn_l32, pn_l39, pn_l40, pn_l41, pn_l45, pn_l46, pn_l48, pn_l53, pn_l57, pn_l58, pn_l59, pn_l60, pn_l61, pn_l62, pn_l63, pn_l64, pn_l65, pn_l66, pn_l74, pn_l82, pn_l90, pn_l97, pn_l98, pn_l99, pn_l106, pn_l107, pn_l120, pn_l122, pn_l135, pn_l255, pn_l287, pn_l300, pn_l315, pn_l360, pn_l400, pn_l900, pn_l940, pn_l1000, pn_l1000000, pn_mone, nI_add, pk_mul, nI_clamp, bm_ixk, pn_ltI, pn_leI, pn_eqI, pn_xeq, pn_xeq2, pn_xx, pn_xltI, pn_xleI, pn_xgtI, pn_xgeI, pn_xadd, pn_subx, pn_addx, Option.bind_some, ↓reduceIte, g30, hR', pq_far]
    unfold hd_step
    have good : qh_P I (pt_far j y (T (66 + m)) (T (74 + m)) + 1, nI j, nI y) (nI (pt_far j y (T (66 + m)) (T (74 + m))), bm_uI (bm_uI s.2 164 25 (nI j)) 164 26 (nI y)) := ⟨by show _ + 1 ≤ 61; omega, rfl, by show bm_uI (bm_uI s.2 164 25 (nI j)) 164 26 (nI y) 164 25 = nI j; rw [pn_uI_ne2 (by omega), pn_uI_hit rfl], (pn_uI_hit rfl : bm_uI (bm_uI s.2 164 25 (nI j)) 164 26 (nI y) 164 26 = nI y), fun o k ho => by show bm_uI (bm_uI s.2 164 25 (nI j)) 164 26 (nI y) o k = I o k; rw [pn_uI_off (by omega), pn_uI_off (by omega)]; exact f o k ho⟩
    have keep : qh_P I w (nI (hd_L w.1), s.2) := ⟨b1, rfl, a3, a4, f⟩
    by_cases c4 : hd_L w.1 ≤ pt_far j y (T (66 + m)) (T (74 + m))
    · have c5 : ¬ (w.1 = 0 ∨ pt_far j y (T (66 + m)) (T (74 + m)) + 1 < w.1) := by unfold hd_L at c4; split at c4 <;> omega
      simp only [c4, c5, ↓reduceIte, false_and]
      exact ⟨(nI (hd_L w.1), s.2), rfl, keep⟩
    · have c5 : w.1 = 0 ∨ pt_far j y (T (66 + m)) (T (74 + m)) + 1 < w.1 := by unfold hd_L at c4; split at c4 <;> omega
      by_cases c1 : pt_foes T m j y = 0
      · by_cases c2 : pt_seers T m j y = 0
        · simp only [c1, c2, c4, ↓reduceIte, Nat.lt_irrefl, and_false]
          exact ⟨(nI (hd_L w.1), s.2), rfl, keep⟩
        · have c3 : 0 < pt_seers T m j y := by omega
          simp only [c1, c2, c3, c4, c5, ↓reduceIte, and_true]
          exact ⟨_, rfl, good⟩
      · simp only [c1, c4, ↓reduceIte, false_and, and_false]
        exact ⟨(nI (hd_L w.1), s.2), rfl, keep⟩
theorem pq_hide_a (hR : pp_R I T) (hA : pt_VA T) (hS : pt_VS T) {m : Nat} (hm : m < T 0) : ∃ t, f_X12_hide_l21 (nI m) 1000 1000000 0 I = some t ∧ qh_P I (hd_all T m (0, I 164 25, I 164 26) 31) t := by
  refine pl_rel (σ := Int32 × bm_TI) (F := fun k i s => f_X12_hide_l21 (nI m) k s.1 i s.2) (n := 31) (fun j s => qh_P I (hd_all T m (0, I 164 25, I 164 26) j) s) ?_ ?_ 1000 (1000000, I) (by omega) ⟨Nat.zero_le _, rfl, rfl, rfl, fun _ _ _ => rfl⟩
  · intro k s hs
    refine ⟨s, ?_, hs⟩
    show f_X12_hide_l21 (nI m) (k + 1) s.1 (nI 31) s.2 = _
    rw [f_X12_hide_l21, if_pos (show (30 : Int32) < nI 31 by decide)]
  · intro k j s hj hs
    show ∃ s' : Int32 × bm_TI, f_X12_hide_l21 (nI m) (k + 1) s.1 (nI j) s.2 = f_X12_hide_l21 (nI m) k s'.1 (nI (j + 1)) s'.2 ∧ qh_P I (hd_row T m j (hd_all T m (0, I 164 25, I 164 26) j) 31) s'
    obtain ⟨t, e, h⟩ := pq_hide_r hR hA hS hm (y := j) (by omega) _ s hs
    refine ⟨t, ?_, h⟩
    rw [f_X12_hide_l21, if_neg (show ¬ (30 : Int32) < nI j from fun h => by have := (nI_ltI (a := 30) (by omega) (by omega)).mp h; omega), e, nI_1]
    rfl
end CK
section EG
variable {I : bm_TI} {J : bm_TJ} {W : bm_TR}
theorem iv_cell {I1 I2 : bm_TI} (hI : bm_Inv I J W) (f1 : cf_c I I1) (f2 : rf_c (bm_uI I1 164 0 0) I2) (h1 : I1 0 14 = I2 164 25) (h2 : I1 0 15 = I2 164 26) : bm_Inv I2 J W := by
  obtain ⟨T, S, hF, hU, hG0, hG1, hT, hM, hK⟩ := id hI
  have f : ∀ o k, (o ≠ 0 ∨ (k ≠ 14 ∧ k ≠ 15)) → (o ≠ 164 ∨ (k ≠ 0 ∧ k ≠ 25 ∧ k ≠ 26)) → I2 o k = I o k := fun o k a b => by rw [f2 o k (by omega), pn_uI_off (by omega), f1 o k a]
  have g1 : I2 0 14 = I1 0 14 := by rw [f2 0 14 (by omega), pn_uI_ne (by omega)]
  have g2 : I2 0 15 = I1 0 15 := by rw [f2 0 15 (by omega), pn_uI_ne (by omega)]
  obtain ⟨m1, m2, m3, m4, m5, m6, m7, r, m8, m9, m10, m11⟩ := hM
  refine iv_set hI (fun o k ho => f o k (by omega) (by omega)) (fun _ _ _ => rfl) (fun _ _ _ => rfl) (iT_congr (fun o k ho => f o k (by omega) (by omega)) hT) ⟨?_, ?_, ?_, ?_, ?_, ?_, ?_, r, m8, ?_, ?_, fun k hk => ?_⟩
  · rw [f 0 13 (by omega) (by omega), f 164 15 (by omega) (by omega)]; exact m1
  · rw [g1]; exact h1
  · rw [g2]; exact h2
  · rw [f 161 0 (by omega) (by omega), f 164 27 (by omega) (by omega)]; exact m4
  · rw [f 161 1 (by omega) (by omega), f 164 28 (by omega) (by omega)]; exact m5
  · rw [f 164 30 (by omega) (by omega), f 0 16 (by omega) (by omega), f 164 29 (by omega) (by omega)]; exact m6
  · rw [f 164 36 (by omega) (by omega)]
    rcases m7 with ⟨a, b⟩ | ⟨a, b⟩
    · exact Or.inl ⟨a, fun i hi => by rw [f 147 _ (by omega) (by omega)]; exact b i hi⟩
    · exact Or.inr ⟨a, fun i hi => by rw [f 147 _ (by omega) (by omega), f 175 _ (by omega) (by omega)]; exact b i hi⟩
  · rw [f 162 1 (by omega) (by omega)]; exact m9
  · rw [f 164 32 (by omega) (by omega)]; exact m10
  · rw [f 163 k (by omega) (by omega), f 174 k (by omega) (by omega)]; exact m11 k hk
theorem e_stand (hI : bm_Inv I J W) : ∀ a1 : Int32, ∃ v I1 I2, f_X11_stand I a1 = some (v, I1) ∧ f_X12_stand I1 a1 = some (v, I2) ∧ bm_Inv I2 J W := by
  intro a1
  obtain ⟨T, S, hF, hU, hG0, hG1, hT, hM, hK⟩ := id hI
  obtain ⟨hR, _, hP, hQ, _, _, hA, hS, _⟩ := id hF
  have h8 := hA.1
  have R0 : pp_R (bm_uI I 164 0 0) T := pr_164 hR
  unfold f_X11_stand
  rcases pk_ix a1 (n := T 0) (by omega) with h | h | ⟨m, hm, rfl⟩
  · rw [kc_isManF hP (Or.inl h)]
    refine ⟨_, _, bm_uI I 164 0 0, rfl, ?_, iv_q hI⟩
    unfold f_X12_stand
    rw [pq_isManF R0 hA (Or.inl h)]; rfl
  · rw [kc_isManF hP (Or.inr h)]
    refine ⟨_, _, bm_uI I 164 0 0, rfl, ?_, iv_q hI⟩
    unfold f_X12_stand
    rw [pq_isManF R0 hA (Or.inr h)]; rfl
  obtain ⟨t, e1, t1, t2, t3, f1⟩ := kc_stand_a hP hQ hA hS hm
  rw [kc_isManT hP hA hm]
  simp only [Option.bind_some, ↓reduceIte]
  rw [e1]
  have R1 : pp_R (bm_uI t.2 164 0 0) T := pr_164 (fun k hk => by rw [f1 166 k (by omega)]; exact hR k hk)
  obtain ⟨s, e2, s1, s2, s3, f2⟩ := pq_stand_a R1 hA hS hm
  have x1 : bm_uI t.2 164 0 0 164 25 = I 0 14 := by rw [pn_uI_ne2 (by omega), f1 164 25 (by omega), hM.2.1]
  have x2 : bm_uI t.2 164 0 0 164 26 = I 0 15 := by rw [pn_uI_ne2 (by omega), f1 164 26 (by omega), hM.2.2.1]
  rw [x1, x2] at s1 s2 s3
  refine ⟨_, _, s.2, rfl, ?_, iv_cell hI f1 f2 (by rw [t2, s2]) (by rw [t3, s3])⟩
  show f_X12_stand t.2 (nI m) = some (t.1, s.2)
  unfold f_X12_stand
  rw [pq_isManT R1 hA hm]
  simp only [Option.bind_some, ↓reduceIte]
  rw [e2, t1, ← s1]; rfl
theorem e_hide (hI : bm_Inv I J W) : ∀ a1 : Int32, ∃ v I1 I2, f_X11_hide I a1 = some (v, I1) ∧ f_X12_hide I1 a1 = some (v, I2) ∧ bm_Inv I2 J W := by
  intro a1
  obtain ⟨T, S, hF, hU, hG0, hG1, hT, hM, hK⟩ := id hI
  obtain ⟨hR, _, hP, hQ, _, _, hA, hS, _⟩ := id hF
  have h8 := hA.1
  have R0 : pp_R (bm_uI I 164 0 0) T := pr_164 hR
  unfold f_X11_hide
  rcases pk_ix a1 (n := T 0) (by omega) with h | h | ⟨m, hm, rfl⟩
  · rw [kc_isManF hP (Or.inl h)]
    refine ⟨_, _, bm_uI I 164 0 0, rfl, ?_, iv_q hI⟩
    unfold f_X12_hide
    rw [pq_isManF R0 hA (Or.inl h)]; rfl
  · rw [kc_isManF hP (Or.inr h)]
    refine ⟨_, _, bm_uI I 164 0 0, rfl, ?_, iv_q hI⟩
    unfold f_X12_hide
    rw [pq_isManF R0 hA (Or.inr h)]; rfl
  obtain ⟨t, e1, b1, t1, t2, t3, f1⟩ := kc_hide_a hP hQ hA hS hm
  rw [kc_isManT hP hA hm]
  simp only [Option.bind_some, ↓reduceIte]
  rw [e1]
  have R1 : pp_R (bm_uI t.2 164 0 0) T := pr_164 (fun k hk => by rw [f1 166 k (by omega)]; exact hR k hk)
  obtain ⟨s, e2, _, s1, s2, s3, f2⟩ := pq_hide_a R1 hA hS hm
  have x1 : bm_uI t.2 164 0 0 164 25 = I 0 14 := by rw [pn_uI_ne2 (by omega), f1 164 25 (by omega), hM.2.1]
  have x2 : bm_uI t.2 164 0 0 164 26 = I 0 15 := by rw [pn_uI_ne2 (by omega), f1 164 26 (by omega), hM.2.2.1]
  rw [x1, x2] at s1 s2 s3
  refine ⟨_, _, s.2, rfl, ?_, iv_cell hI f1 f2 (by rw [t2, s2]) (by rw [t3, s3])⟩
  show f_X12_hide t.2 (nI m) = some (t.1, s.2)
  unfold f_X12_hide
  rw [pq_isManT R1 hA hm]
  simp only [Option.bind_some, ↓reduceIte]
  rw [e2, t1]
  simp only [Option.bind_some]
  rw [s1]
  unfold hd_L
  by_cases hz : (hd_all T m (0, I 0 14, I 0 15) 31).1 = 0
  · rw [if_pos hz, if_pos (show nI 1000000 = 1000000 from rfl), hz]; rfl
  · rw [if_neg hz, if_neg (show ¬ nI _ = 1000000 from fun e => by have := (nI_eq (b := 1000000) (by omega) (by omega)).mp e; omega), pn_xp (by omega)]
end EG
