/-! hours by draws -/
def pt_dx (x : Int32) : Int32 := x * 1103515245 + 12345
def pt_dq (x : Int32) (n : Nat) : Nat := (x.toBitVec.toNat / 256) % n
theorem pt_dq_lt (x : Int32) (n : Nat) (h : 0 < n) : pt_dq x n < n := Nat.mod_lt _ h
def pt_dm (dx : Int32 → Int32) (dq : Int32 → Nat → Nat) (x : Int32) (T : pt_T) (m : Nat) : Int32 × pt_T :=
  if dq (dx x) 8 = 0 then (dx (dx x), if pt_brow T m = 0 then T else pt_lift T m (dq (dx (dx x)) 3 + 1))
  else if dq (dx x) 8 = 1 then (dx x, pt_up T 63 (T 63 ^^^ 2 ^ m))
  else if dq (dx x) 8 = 2 then (dx (dx x), if pt_can T m (dq (dx (dx x)) 4) then pt_go T m (dq (dx (dx x)) 4) else T)
  else if dq (dx x) 8 = 3 then (if T 1 = 0 then (dx x, T) else (dx (dx x), if T (31 + m) = 0 then (if pt_brow T m = 0 then T else pt_give T m (dq (dx (dx x)) (T 1))) else T))
  else (dx x, T)
def pt_dms (dx : Int32 → Int32) (dq : Int32 → Nat → Nat) (x : Int32) (T : pt_T) (n : Nat) : Int32 × pt_T := match n with
  | 0 => (x, T)
  | k + 1 => pt_dm dx dq (pt_dms dx dq x T k).1 (pt_dms dx dq x T k).2 k
def pt_dh (dx : Int32 → Int32) (dq : Int32 → Nat → Nat) (x : Int32) (T : pt_T) (n : Nat) : Int32 × pt_T := match n with
  | 0 => (x, T)
  | k + 1 => ((pt_dms dx dq (pt_dh dx dq x T k).1 (pt_dh dx dq x T k).2 (T 0)).1, pt_hour (pt_dms dx dq (pt_dh dx dq x T k).1 (pt_dh dx dq x T k).2 (T 0)).2)
section DS
variable {dx : Int32 → Int32} {dq : Int32 → Nat → Nat}
theorem te_ite {p : Prop} [Decidable p] {T U V : pt_T} (h1 : pt_eA T U) (h2 : pt_eA T V) : pt_eA T (if p then U else V) := by
  split
  · exact h1
  · exact h2
theorem te_dm (x : Int32) (T : pt_T) (m : Nat) : pt_eA T (pt_dm dx dq x T m).2 := by
  unfold pt_dm
  split
  · exact te_ite (te_refl T) (te_lift _ _ _)
  · split
    · exact te_up (by omega)
    · split
      · exact te_ite (te_go _ _ _) (te_refl T)
      · split
        · split
          · exact te_refl T
          · exact te_ite (te_ite (te_refl T) (te_give _ _ _)) (te_refl T)
        · exact te_refl T
theorem te_dms (x : Int32) (T : pt_T) (n : Nat) : pt_eA T (pt_dms dx dq x T n).2 := by
  induction n with
  | zero => exact te_refl T
  | succ k ih => rw [pt_dms]; exact te_trans ih (te_dm _ _ _)
theorem te_dh (x : Int32) (T : pt_T) (n : Nat) : pt_eA T (pt_dh dx dq x T n).2 := by
  induction n with
  | zero => exact te_refl T
  | succ k ih => rw [pt_dh]; exact te_trans (te_trans ih (te_dms _ _ _)) (te_hour _)
theorem vs_up63 {T : pt_T} (hS : pt_VS T) (h8 : T 0 ≤ 8) {v : Nat} (hv : v < 2 ^ T 0) : pt_VS (pt_up T 63 v) := by
  obtain ⟨s1, s2, s3, s4, s5⟩ := hS
  refine ⟨?_, ?_, ?_, ?_, fun j hj => ?_⟩
  · rw [tu_ne (by omega)]; exact s1
  · rw [tu_hit rfl, tu_ne (by omega)]; exact hv
  · rw [tu_ne (by omega), tu_ne (by omega)]; exact s3
  · rw [tu_ne (by omega), tu_ne (by omega)]; exact s4
  · rw [tu_ne (by omega)] at hj
    have := s5 j hj
    rw [tu_ne (by omega), tu_ne (by omega), tu_ne (by omega), tu_ne (by omega), tu_ne (by omega), tu_ne (by omega)]
    exact this
theorem vs_up64 {T : pt_T} (hS : pt_VS T) (h8 : T 0 ≤ 8) {v : Nat} (hv : v < 2 ^ T 0) : pt_VS (pt_up T 64 v) := by
  obtain ⟨s1, s2, s3, s4, s5⟩ := hS
  refine ⟨?_, ?_, ?_, ?_, fun j hj => ?_⟩
  · rw [tu_ne (by omega)]; exact s1
  · rw [tu_ne (by omega), tu_ne (by omega)]; exact s2
  · rw [tu_hit rfl, tu_ne (by omega)]; exact hv
  · rw [tu_ne (by omega), tu_ne (by omega)]; exact s4
  · rw [tu_ne (by omega)] at hj
    have := s5 j hj
    rw [tu_ne (by omega), tu_ne (by omega), tu_ne (by omega), tu_ne (by omega), tu_ne (by omega), tu_ne (by omega)]
    exact this
theorem vs_ite {p : Prop} [Decidable p] {U V : pt_T} (h1 : p → pt_VS U) (h2 : ¬ p → pt_VS V) : pt_VS (if p then U else V) := by
  split
  · rename_i h; exact h1 h
  · rename_i h; exact h2 h
theorem vs_dm (hdq : ∀ x n, 0 < n → dq x n < n) {x : Int32} {T : pt_T} (hA : pt_VA T) (hS : pt_VS T) {m : Nat} (hm : m < T 0) : pt_VS (pt_dm dx dq x T m).2 := by
  have q3 := hdq (dx (dx x)) 3 (by omega)
  unfold pt_dm
  split
  · exact vs_ite (fun _ => hS) (fun _ => vs_lift hA hS (by omega))
  · split
    · exact vs_up63 hS hA.1 (Nat.xor_lt_two_pow hS.2.1 (pt_pow_lt hm))
    · split
      · exact vs_ite (fun h => vs_go hS hA.1 hm h) (fun _ => hS)
      · split
        · split
          · exact hS
          · rename_i h
            exact vs_ite (fun _ => vs_ite (fun _ => hS) (fun _ => vs_give hA hS (hdq _ _ (by omega)))) (fun _ => hS)
        · exact hS
theorem vs_dms (hdq : ∀ x n, 0 < n → dq x n < n) {x : Int32} {T : pt_T} (hA : pt_VA T) (hS : pt_VS T) {n : Nat} (hn : n ≤ T 0) : pt_VS (pt_dms dx dq x T n).2 := by
  induction n with
  | zero => exact hS
  | succ k ih =>
    rw [pt_dms]
    exact vs_dm hdq (va_congr (te_dms (dx := dx) (dq := dq) x T k) hA) (ih (by omega)) (by rw [te_dms (dx := dx) (dq := dq) x T k 0 (by omega)]; omega)
theorem pt_ite_61 {p : Prop} [Decidable p] {U V : pt_T} {v : Nat} (h1 : U 61 = v) (h2 : V 61 = v) : (if p then U else V) 61 = v := by
  split
  · exact h1
  · exact h2
theorem pt_dm_61 (x : Int32) (T : pt_T) (m : Nat) : (pt_dm dx dq x T m).2 61 = T 61 := by
  unfold pt_dm
  split
  · exact pt_ite_61 rfl (pt_lift_61 _ _ _)
  · split
    · show pt_up T 63 (T 63 ^^^ 2 ^ m) 61 = T 61
      exact tu_ne (by omega)
    · split
      · exact pt_ite_61 (by unfold pt_go; rw [tu_ne (by omega), tu_ne (by omega)]) rfl
      · split
        · split
          · rfl
          · exact pt_ite_61 (pt_ite_61 rfl (by unfold pt_give; rw [pt_lift_61, pt_lift_61])) rfl
        · rfl
theorem pt_dms_61 (x : Int32) (T : pt_T) (n : Nat) : (pt_dms dx dq x T n).2 61 = T 61 := by
  induction n with
  | zero => rfl
  | succ k ih => rw [pt_dms, pt_dm_61]; exact ih
theorem pt_dh_61 (x : Int32) (T : pt_T) (n : Nat) : (pt_dh dx dq x T n).2 61 = T 61 + n := by
  induction n with
  | zero => rfl
  | succ k ih =>
    rw [pt_dh]
    show (pt_hour (pt_dms dx dq (pt_dh dx dq x T k).1 (pt_dh dx dq x T k).2 (T 0)).2) 61 = _
    rw [pt_hour_61, pt_dms_61, ih]; omega
theorem vs_dh (hdq : ∀ x n, 0 < n → dq x n < n) {x : Int32} {T : pt_T} (hA : pt_VA T) (hS : pt_VS T) {n : Nat} (h : T 61 + n ≤ 400) : pt_VS (pt_dh dx dq x T n).2 := by
  induction n with
  | zero => exact hS
  | succ k ih =>
    rw [pt_dh]
    have e := te_dh (dx := dx) (dq := dq) x T k
    refine vs_hour (va_congr (te_trans e (te_dms _ _ _)) hA) (vs_dms hdq (va_congr e hA) (ih (by omega)) (by rw [e 0 (by omega)]; exact Nat.le_refl _)) ?_
    rw [pt_dms_61, pt_dh_61]; omega
end DS
theorem pn_self (x : Int32) : x = nI x.toBitVec.toNat := by
  apply Int32.toBitVec_inj.1
  show x.toBitVec = BitVec.ofNat 32 x.toBitVec.toNat
  rw [BitVec.ofNat_toNat]
  simp
theorem pn_ushr8 (x : Int32) : bm_iushr x 8 = nI (x.toBitVec.toNat / 256) := by
  rw [pn_self (bm_iushr x 8)]
  congr 1
  exact pk_ushr x 8 8 (by decide)
theorem pn_dq (x : Int32) {n : Nat} (h : 0 < n) (hn : n < 2 ^ 31) : bm_rem (bm_iushr x 8) (nI n) = nI (pt_dq x n) := by
  have hx := x.toBitVec.isLt
  rw [pn_ushr8, pn_rem (by omega) h hn]
  rfl
/-- the reference: the state, the plans, the seed -/
def rf_d (I I' : bm_TI) : Prop := ∀ o k, (o ≠ 166 ∨ k < 61 ∨ 106 ≤ k) → o ≠ 171 → (o ≠ 164 ∨ k ≠ 33) → I' o k = I o k
theorem rd_refl (I : bm_TI) : rf_d I I := fun _ _ _ _ _ => rfl
theorem rd_trans {I I1 I2 : bm_TI} (h1 : rf_d I I1) (h2 : rf_d I1 I2) : rf_d I I2 := fun o k a b c => (h2 o k a b c).trans (h1 o k a b c)
theorem rd_h {I I' : bm_TI} (h : rf_h I I') : rf_d I I' := fun o k a b _ => h o k a b
theorem rd_r {I I' : bm_TI} (h : rf_r I I') : rf_d I I' := fun o k a _ _ => h o k a
theorem rd_s (I : bm_TI) (v : Int32) : rf_d I (bm_uI I 164 33 v) := fun o k _ _ c => pn_uI_off c
section DR
variable {I : bm_TI} {T : pt_T}
theorem pq_draw {n : Nat} (h : 0 < n) (hn : n < 2 ^ 31) : f_X12_draw I (nI n) = some (nI (pt_dq (pt_dx (I 164 33)) n), bm_uI I 164 33 (pt_dx (I 164 33))) := by
  unfold f_X12_draw
  rw [if_pos (nI_ne0 h hn), pn_uI_hit rfl]
  show some (bm_rem (bm_iushr (pt_dx (I 164 33)) 8) (nI n), _) = _
  rw [pn_dq _ h hn]
  rfl
theorem pr_164 {k : Nat} {v : Int32} (hR : pp_R I T) : pp_R (bm_uI I 164 k v) T := fun j hj => by rw [pn_uI_ne (by omega)]; exact hR j hj
/-- the draws of the reference -/
def pd_Q (dx : Int32 → Int32) (dq : Int32 → Nat → Nat) : Prop := ∀ (I : bm_TI) (n : Nat), 0 < n → n < 2 ^ 31 → f_X12_draw I (nI n) = some (nI (dq (dx (I 164 33)) n), bm_uI I 164 33 (dx (I 164 33)))
theorem pq_drawMan {dx : Int32 → Int32} {dq : Int32 → Nat → Nat} (hdq : ∀ x n, 0 < n → dq x n < n) (hD : pd_Q dx dq) (hR : pp_R I T) (hA : pt_VA T) (hS : pt_VS T) {m : Nat} (hm : m < T 0) {x : Int32} (hx : I 164 33 = x) : ∃ I', f_X12_drawMan I (nI m) = some I' ∧ pp_R I' (pt_dm dx dq x T m).2 ∧ I' 164 33 = (pt_dm dx dq x T m).1 ∧ rf_d I I' := by
  have h8 := hA.1
  have h7 := hA.2.1
  have hu := hA.2.2.2.2.2.2.2.2.2.2.1 m hm
  have hw := hdq (dx x) 8 (by omega)
  have hbl := pt_brow_le hA hm
  have R1 : pp_R (bm_uI I 164 33 (dx x)) T := pr_164 hR
  have R2 : pp_R (bm_uI (bm_uI I 164 33 (dx x)) 164 33 (dx (dx x))) T := pr_164 R1
  have F1 := rd_s I (dx x)
  have F2 := rd_trans F1 (rd_s (bm_uI I 164 33 (dx x)) (dx (dx x)))
  have s2 : (bm_uI (bm_uI I 164 33 (dx x)) 164 33 (dx (dx x))) 164 33 = dx (dx x) := pn_uI_hit rfl
  have s1 : (bm_uI I 164 33 (dx x)) 164 33 = dx x := pn_uI_hit rfl
  have D1 : f_X12_draw I (nI 8) = some (nI (dq (dx x) 8), bm_uI I 164 33 (dx x)) := by rw [hD _ _ (by omega) (by omega), hx]
  have D2 : ∀ n, 0 < n → n < 2 ^ 31 → f_X12_draw (bm_uI I 164 33 (dx x)) (nI n) = some (nI (dq (dx (dx x)) n), bm_uI (bm_uI I 164 33 (dx x)) 164 33 (dx (dx x))) := fun n h1 h2 => by rw [hD _ _ h1 h2, s1]
  unfold f_X12_drawMan pt_dm
  rw [show (8 : Int32) = nI 8 from rfl, D1]
  simp only [Option.bind_some]
  generalize dq (dx x) 8 = w at hw
  by_cases w0 : w = 0
  · subst w0
    have hq3 := hdq (dx (dx x)) 3 (by omega)
    simp (disch := omega) only [pn_l0, pn_l1, pn_l2, pn_l3, pn_l4, pn_l5, pn_l6, pn_l7, pn_l8, pn_l9, pn_l10, pn_l11, pn_l12, pn_l13, pn_l15, pn_l20, pn_l21, pn_l22, pn_l23, pn_l24, pn_l30, pn_l31, pn_l32, pn_l39, pn_l40, pn_l41, pn_l45, pn_l46, pn_l48, pn_l53, pn_l57, pn_l58, pn_l59, pn_l60, pn_l61, pn_l62, pn_l63, pn_l64, pn_l65, pn_l66, pn_l74, pn_l82, pn_l90, pn_l97, pn_l98, pn_l99, pn_l106, pn_l107, pn_l120, pn_l122, pn_l135, pn_l255, pn_l287, pn_l300, pn_l315, pn_l360, pn_l400, pn_l900, pn_l940, pn_l1000, pn_l1000000, pn_mone, nI_add, pk_mul, nI_clamp, bm_ixk, pn_ltI, pn_leI, pn_eqI, pn_xeq, pn_xeq2, pn_xx, pn_xltI, pn_xleI, pn_xgtI, pn_xgeI, pn_xadd, pn_subx, pn_addx, Option.bind_some, ↓reduceIte, D2, pq_brow R2 hA hS hm, Nat.le_zero, Nat.reduceEqDiff]
    by_cases hb : pt_brow T m = 0
    · simp only [hb, ↓reduceIte]
      exact ⟨_, rfl, R2, s2, F2⟩
    · simp only [hb, ↓reduceIte]
      obtain ⟨I3, e3, r3, f3⟩ := pq_lifts R2 hA hS hm (l := dq (dx (dx x)) 3 + 1) (by omega)
      rw [e3]
      simp only [Option.bind_some]
      exact ⟨I3, rfl, r3, by rw [f3 164 33 (by omega)]; exact s2, rd_trans F2 (rd_r f3)⟩
  · by_cases w1 : w = 1
    · subst w1
      have hr63 := R1 63 (by omega)
      simp (disch := omega) only [pn_l0, pn_l1, pn_l2, pn_l3, pn_l4, pn_l5, pn_l6, pn_l7, pn_l8, pn_l9, pn_l10, pn_l11, pn_l12, pn_l13, pn_l15, pn_l20, pn_l21, pn_l22, pn_l23, pn_l24, pn_l30, pn_l31, pn_l32, pn_l39, pn_l40, pn_l41, pn_l45, pn_l46, pn_l48, pn_l53, pn_l57, pn_l58, pn_l59, pn_l60, pn_l61, pn_l62, pn_l63, pn_l64, pn_l65, pn_l66, pn_l74, pn_l82, pn_l90, pn_l97, pn_l98, pn_l99, pn_l106, pn_l107, pn_l120, pn_l122, pn_l135, pn_l255, pn_l287, pn_l300, pn_l315, pn_l360, pn_l400, pn_l900, pn_l940, pn_l1000, pn_l1000000, pn_mone, nI_add, pk_mul, nI_clamp, bm_ixk, pn_ltI, pn_leI, pn_eqI, pn_xeq, pn_xeq2, pn_xx, pn_xltI, pn_xleI, pn_xgtI, pn_xgeI, pn_xadd, pn_subx, pn_addx, Option.bind_some, ↓reduceIte, hr63, Nat.reduceEqDiff, pn_shlN, pn_xor]
      exact ⟨_, rfl, pr_up R1 _ _, by rw [pn_uI_ne (by omega)]; exact s1, rd_trans F1 (rd_r (rf_up (by omega) (by omega)))⟩
    · by_cases w2 : w = 2
      · subst w2
        have hq4 := hdq (dx (dx x)) 4 (by omega)
        have hg := pq_whyGo R2 h8 hS hm hq4
        simp (disch := omega) only [pn_l0, pn_l1, pn_l2, pn_l3, pn_l4, pn_l5, pn_l6, pn_l7, pn_l8, pn_l9, pn_l10, pn_l11, pn_l12, pn_l13, pn_l15, pn_l20, pn_l21, pn_l22, pn_l23, pn_l24, pn_l30, pn_l31, pn_l32, pn_l39, pn_l40, pn_l41, pn_l45, pn_l46, pn_l48, pn_l53, pn_l57, pn_l58, pn_l59, pn_l60, pn_l61, pn_l62, pn_l63, pn_l64, pn_l65, pn_l66, pn_l74, pn_l82, pn_l90, pn_l97, pn_l98, pn_l99, pn_l106, pn_l107, pn_l120, pn_l122, pn_l135, pn_l255, pn_l287, pn_l300, pn_l315, pn_l360, pn_l400, pn_l900, pn_l940, pn_l1000, pn_l1000000, pn_mone, nI_add, pk_mul, nI_clamp, bm_ixk, pn_ltI, pn_leI, pn_eqI, pn_xeq, pn_xeq2, pn_xx, pn_xltI, pn_xleI, pn_xgtI, pn_xgeI, pn_xadd, pn_subx, pn_addx, Option.bind_some, ↓reduceIte, D2, Nat.reduceEqDiff]
        by_cases hc : pt_can T m (dq (dx (dx x)) 4)
        · obtain ⟨I3, e3, r3, f3⟩ := pq_goes R2 h8 hm hq4 hc
          rw [hg.1 hc, if_pos hc]
          simp (disch := omega) only [pn_l0, pn_l1, pn_l2, pn_l3, pn_l4, pn_l5, pn_l6, pn_l7, pn_l8, pn_l9, pn_l10, pn_l11, pn_l12, pn_l13, pn_l15, pn_l20, pn_l21, pn_l22, pn_l23, pn_l24, pn_l30, pn_l31, pn_l32, pn_l39, pn_l40, pn_l41, pn_l45, pn_l46, pn_l48, pn_l53, pn_l57, pn_l58, pn_l59, pn_l60, pn_l61, pn_l62, pn_l63, pn_l64, pn_l65, pn_l66, pn_l74, pn_l82, pn_l90, pn_l97, pn_l98, pn_l99, pn_l106, pn_l107, pn_l120, pn_l122, pn_l135, pn_l255, pn_l287, pn_l300, pn_l315, pn_l360, pn_l400, pn_l900, pn_l940, pn_l1000, pn_l1000000, pn_mone, nI_add, pk_mul, nI_clamp, bm_ixk, pn_ltI, pn_leI, pn_eqI, pn_xeq, pn_xeq2, pn_xx, pn_xltI, pn_xleI, pn_xgtI, pn_xgeI, pn_xadd, pn_subx, pn_addx, Option.bind_some, ↓reduceIte, e3]
          exact ⟨I3, rfl, r3, by rw [f3 164 33 (by omega)]; exact s2, rd_trans F2 (rd_r f3)⟩
        · rw [hg.2 hc, if_neg hc]
          simp (disch := omega) only [pn_l0, pn_l1, pn_l2, pn_l3, pn_l4, pn_l5, pn_l6, pn_l7, pn_l8, pn_l9, pn_l10, pn_l11, pn_l12, pn_l13, pn_l15, pn_l20, pn_l21, pn_l22, pn_l23, pn_l24, pn_l30, pn_l31, pn_l32, pn_l39, pn_l40, pn_l41, pn_l45, pn_l46, pn_l48, pn_l53, pn_l57, pn_l58, pn_l59, pn_l60, pn_l61, pn_l62, pn_l63, pn_l64, pn_l65, pn_l66, pn_l74, pn_l82, pn_l90, pn_l97, pn_l98, pn_l99, pn_l106, pn_l107, pn_l120, pn_l122, pn_l135, pn_l255, pn_l287, pn_l300, pn_l315, pn_l360, pn_l400, pn_l900, pn_l940, pn_l1000, pn_l1000000, pn_mone, nI_add, pk_mul, nI_clamp, bm_ixk, pn_ltI, pn_leI, pn_eqI, pn_xeq, pn_xeq2, pn_xx, pn_xltI, pn_xleI, pn_xgtI, pn_xgeI, pn_xadd, pn_subx, pn_addx, Option.bind_some, ↓reduceIte, Nat.reduceEqDiff]
          exact ⟨_, rfl, R2, s2, F2⟩
      · by_cases w3 : w = 3
        · subst w3
          have hr1 := R1 1 (by omega)
          have hr31 := R2 (31 + m) (by omega)
          simp (disch := omega) only [pn_l0, pn_l1, pn_l2, pn_l3, pn_l4, pn_l5, pn_l6, pn_l7, pn_l8, pn_l9, pn_l10, pn_l11, pn_l12, pn_l13, pn_l15, pn_l20, pn_l21, pn_l22, pn_l23, pn_l24, pn_l30, pn_l31, pn_l32, pn_l39, pn_l40, pn_l41, pn_l45, pn_l46, pn_l48, pn_l53, pn_l57, pn_l58, pn_l59, pn_l60, pn_l61, pn_l62, pn_l63, pn_l64, pn_l65, pn_l66, pn_l74, pn_l82, pn_l90, pn_l97, pn_l98, pn_l99, pn_l106, pn_l107, pn_l120, pn_l122, pn_l135, pn_l255, pn_l287, pn_l300, pn_l315, pn_l360, pn_l400, pn_l900, pn_l940, pn_l1000, pn_l1000000, pn_mone, nI_add, pk_mul, nI_clamp, bm_ixk, pn_ltI, pn_leI, pn_eqI, pn_xeq, pn_xeq2, pn_xx, pn_xltI, pn_xleI, pn_xgtI, pn_xgeI, pn_xadd, pn_subx, pn_addx, Option.bind_some, ↓reduceIte, hr1, Nat.reduceEqDiff, Nat.le_zero]
          by_cases h1 : T 1 = 0
          · simp only [h1, ↓reduceIte]
            exact ⟨_, rfl, R1, s1, F1⟩
          · have hqn := hdq (dx (dx x)) (T 1) (by omega)
            simp (disch := omega) only [pn_l0, pn_l1, pn_l2, pn_l3, pn_l4, pn_l5, pn_l6, pn_l7, pn_l8, pn_l9, pn_l10, pn_l11, pn_l12, pn_l13, pn_l15, pn_l20, pn_l21, pn_l22, pn_l23, pn_l24, pn_l30, pn_l31, pn_l32, pn_l39, pn_l40, pn_l41, pn_l45, pn_l46, pn_l48, pn_l53, pn_l57, pn_l58, pn_l59, pn_l60, pn_l61, pn_l62, pn_l63, pn_l64, pn_l65, pn_l66, pn_l74, pn_l82, pn_l90, pn_l97, pn_l98, pn_l99, pn_l106, pn_l107, pn_l120, pn_l122, pn_l135, pn_l255, pn_l287, pn_l300, pn_l315, pn_l360, pn_l400, pn_l900, pn_l940, pn_l1000, pn_l1000000, pn_mone, nI_add, pk_mul, nI_clamp, bm_ixk, pn_ltI, pn_leI, pn_eqI, pn_xeq, pn_xeq2, pn_xx, pn_xltI, pn_xleI, pn_xgtI, pn_xgeI, pn_xadd, pn_subx, pn_addx, Option.bind_some, ↓reduceIte, h1, D2, hr31, pq_brow R2 hA hS hm, Nat.le_zero]
            by_cases h31 : T (31 + m) = 0
            · simp only [h31, ↓reduceIte]
              by_cases hb : pt_brow T m = 0
              · simp only [hb, ↓reduceIte]
                exact ⟨_, rfl, R2, s2, F2⟩
              · simp only [hb, ↓reduceIte]
                obtain ⟨I3, e3, r3, f3⟩ := pq_gives R2 hA hS hm (o := dq (dx (dx x)) (T 1)) hqn
                rw [e3]
                simp only [Option.bind_some]
                exact ⟨I3, rfl, r3, by rw [f3 164 33 (by omega)]; exact s2, rd_trans F2 (rd_r f3)⟩
            · simp only [h31, ↓reduceIte]
              exact ⟨_, rfl, R2, s2, F2⟩
        · simp (disch := omega) only [pn_l0, pn_l1, pn_l2, pn_l3, pn_l4, pn_l5, pn_l6, pn_l7, pn_l8, pn_l9, pn_l10, pn_l11, pn_l12, pn_l13, pn_l15, pn_l20, pn_l21, pn_l22, pn_l23, pn_l24, pn_l30, pn_l31, pn_l32, pn_l39, pn_l40, pn_l41, pn_l45, pn_l46, pn_l48, pn_l53, pn_l57, pn_l58, pn_l59, pn_l60, pn_l61, pn_l62, pn_l63, pn_l64, pn_l65, pn_l66, pn_l74, pn_l82, pn_l90, pn_l97, pn_l98, pn_l99, pn_l106, pn_l107, pn_l120, pn_l122, pn_l135, pn_l255, pn_l287, pn_l300, pn_l315, pn_l360, pn_l400, pn_l900, pn_l940, pn_l1000, pn_l1000000, pn_mone, nI_add, pk_mul, nI_clamp, bm_ixk, pn_ltI, pn_leI, pn_eqI, pn_xeq, pn_xeq2, pn_xx, pn_xltI, pn_xleI, pn_xgtI, pn_xgeI, pn_xadd, pn_subx, pn_addx, Option.bind_some, ↓reduceIte, w0, w1, w2, w3]
          exact ⟨_, rfl, R1, s1, F1⟩
theorem pq_draws_l {dx : Int32 → Int32} {dq : Int32 → Nat → Nat} (hdq : ∀ x n, 0 < n → dq x n < n) (hD : pd_Q dx dq) (hR : pp_R I T) (hA : pt_VA T) (hS : pt_VS T) {x : Int32} (hx : I 164 33 = x) (y1 y3 : Int32) : ∃ I', f_X12_draws_l28 y1 y3 1000 0 I = some I' ∧ (pp_R I' (pt_dms dx dq x T (T 0)).2 ∧ I' 164 33 = (pt_dms dx dq x T (T 0)).1 ∧ rf_d I I') := by
  have h8 := hA.1
  refine pl_rel (F := f_X12_draws_l28 y1 y3) (n := T 0) (fun j I' => pp_R I' (pt_dms dx dq x T j).2 ∧ I' 164 33 = (pt_dms dx dq x T j).1 ∧ rf_d I I') ?_ ?_ 1000 I (by omega) ⟨hR, hx, rd_refl I⟩
  · intro k I' ⟨h1, h2, h3⟩
    refine ⟨I', ?_, h1, h2, h3⟩
    rw [f_X12_draws_l28, h1 0 (by omega), te_dms x T (T 0) 0 (by omega), if_pos (Int32.le_refl _)]
  · intro k j I' hj ⟨h1, h2, h3⟩
    have eA := te_dms (dx := dx) (dq := dq) x T j
    obtain ⟨I2, e2, r2, s2, f2⟩ := pq_drawMan hdq hD h1 (va_congr eA hA) (vs_dms hdq hA hS (by omega)) (m := j) (by rw [eA 0 (by omega)]; exact hj) h2
    rw [f_X12_draws_l28, h1 0 (by omega), eA 0 (by omega), if_neg (nI_ge hj (by omega)), e2, nI_1, pt_dms]
    exact ⟨I2, rfl, r2, s2, rd_trans h3 f2⟩
theorem pq_draws {dx : Int32 → Int32} {dq : Int32 → Nat → Nat} (hdq : ∀ x n, 0 < n → dq x n < n) (hD : pd_Q dx dq) (hR : pp_R I T) (hA : pt_VA T) (hS : pt_VS T) (x : Int32) {n : Nat} (hn : n ≤ 60) : ∃ I', f_X12_draws I (nI n) x = some (nI (min n (400 - T 61)), I') ∧ pp_R I' (pt_dh dx dq x T (min n (400 - T 61))).2 ∧ rf_d I I' := by
  have h1 := hS.1
  have key : ∃ t, f_X12_draws_l7 (nI n) 1000 0 (bm_uI I 164 33 x) = some t ∧ (t.1 = nI (min n (400 - T 61)) ∧ pp_R t.2 (pt_dh dx dq x T (min n (400 - T 61))).2 ∧ rf_d I t.2) := by
    refine pl_rel (F := f_X12_draws_l7 (nI n)) (n := min n (400 - T 61)) (fun j I' => pp_R I' (pt_dh dx dq x T j).2 ∧ I' 164 33 = (pt_dh dx dq x T j).1 ∧ rf_d I I') ?_ ?_ 1000 (bm_uI I 164 33 x) (by omega) ⟨pr_164 hR, pn_uI_hit rfl, rd_s I x⟩
    · intro k I' ⟨a1, a2, a3⟩
      have a61 := a1 61 (by omega)
      rw [pt_dh_61] at a61
      refine ⟨(nI (min n (400 - T 61)), I'), ?_, rfl, a1, a3⟩
      rw [f_X12_draws_l7]
      simp (disch := omega) only [pn_l0, pn_l1, pn_l2, pn_l3, pn_l4, pn_l5, pn_l6, pn_l7, pn_l8, pn_l9, pn_l10, pn_l11, pn_l12, pn_l13, pn_l15, pn_l20, pn_l21, pn_l22, pn_l23, pn_l24, pn_l30, pn_l31, pn_l32, pn_l39, pn_l40, pn_l41, pn_l45, pn_l46, pn_l48, pn_l53, pn_l57, pn_l58, pn_l59, pn_l60, pn_l61, pn_l62, pn_l63, pn_l64, pn_l65, pn_l66, pn_l74, pn_l82, pn_l90, pn_l97, pn_l98, pn_l99, pn_l106, pn_l107, pn_l120, pn_l122, pn_l135, pn_l255, pn_l287, pn_l300, pn_l315, pn_l360, pn_l400, pn_l900, pn_l940, pn_l1000, pn_l1000000, pn_mone, nI_add, pk_mul, nI_clamp, bm_ixk, pn_ltI, pn_leI, pn_eqI, pn_xeq, pn_xeq2, pn_xx, pn_xltI, pn_xleI, pn_xgtI, pn_xgeI, pn_xadd, pn_subx, pn_addx, Option.bind_some, ↓reduceIte, a61]
      by_cases hh : n ≤ min n (400 - T 61)
      · simp only [hh, ↓reduceIte]
      · have h2 : 400 ≤ T 61 + min n (400 - T 61) := by omega
        simp only [hh, h2, ↓reduceIte]
    · intro k j I' hj ⟨a1, a2, a3⟩
      have a61 := a1 61 (by omega)
      rw [pt_dh_61] at a61
      have eA := te_dh (dx := dx) (dq := dq) x T j
      have hVA := va_congr eA hA
      have hVS := vs_dh (dx := dx) hdq (x := x) hA hS (n := j) (by omega)
      obtain ⟨I2, e2, r2, s2, f2⟩ := pq_draws_l hdq hD a1 hVA hVS a2 (nI n) (nI j)
      have e0 := eA 0 (by omega)
      rw [e0] at r2 s2
      obtain ⟨I3, e3, r3, f3⟩ := pq_hour r2 (va_congr (te_dms _ _ _) hVA) (vs_dms hdq hVA hVS (by omega)) (by rw [pt_dms_61, pt_dh_61]; omega)
      refine ⟨I3, ?_, ?_, ?_, rd_trans a3 (rd_trans f2 (rd_h f3))⟩
      · rw [f_X12_draws_l7, e2]
        have g1 : ¬ n ≤ j := by omega
        have g2 : ¬ 400 ≤ T 61 + j := by omega
        simp (disch := omega) only [pn_l0, pn_l1, pn_l2, pn_l3, pn_l4, pn_l5, pn_l6, pn_l7, pn_l8, pn_l9, pn_l10, pn_l11, pn_l12, pn_l13, pn_l15, pn_l20, pn_l21, pn_l22, pn_l23, pn_l24, pn_l30, pn_l31, pn_l32, pn_l39, pn_l40, pn_l41, pn_l45, pn_l46, pn_l48, pn_l53, pn_l57, pn_l58, pn_l59, pn_l60, pn_l61, pn_l62, pn_l63, pn_l64, pn_l65, pn_l66, pn_l74, pn_l82, pn_l90, pn_l97, pn_l98, pn_l99, pn_l106, pn_l107, pn_l120, pn_l122, pn_l135, pn_l255, pn_l287, pn_l300, pn_l315, pn_l360, pn_l400, pn_l900, pn_l940, pn_l1000, pn_l1000000, pn_mone, nI_add, pk_mul, nI_clamp, bm_ixk, pn_ltI, pn_leI, pn_eqI, pn_xeq, pn_xeq2, pn_xx, pn_xltI, pn_xleI, pn_xgtI, pn_xgeI, pn_xadd, pn_subx, pn_addx, Option.bind_some, ↓reduceIte, a61, g1, g2, e3]
      · rw [pt_dh]; exact r3
      · rw [pt_dh, f3 164 33 (by omega) (by omega)]; exact s2
  obtain ⟨t, e, t1, t2, t3⟩ := key
  refine ⟨t.2, ?_, t2, t3⟩
  unfold f_X12_draws
  rw [e, ← t1]
  rfl
/-! the class -/
def pd_K (dx : Int32 → Int32) (dq : Int32 → Nat → Nat) : Prop := ∀ (I : bm_TI) (n : Nat), 0 < n → n < 2 ^ 31 → f_X8_draw I (nI n) = some (nI (dq (dx (I 33 12)) n), bm_uI I 33 12 (dx (I 33 12)))
theorem ps_seed {v : Int32} (hQ : pp_S I 33 T) : pp_S (bm_uI I 33 12 v) 33 T := by
  obtain ⟨h1, h2, h3, h4, h5, h6⟩ := hQ
  refine ⟨?_, ?_, ?_, ?_, ?_, fun j hj => ?_⟩
  · rw [pn_uI_ne2 (by omega)]; exact h1
  · rw [pn_uI_ne2 (by omega)]; exact h2
  · rw [pn_uI_ne2 (by omega)]; exact h3
  · rw [pn_uI_ne2 (by omega)]; exact h4
  · rw [pn_uI_ne2 (by omega)]; exact h5
  · rw [pn_uI_ne (by omega), pn_uI_ne (by omega), pn_uI_ne (by omega), pn_uI_ne (by omega), pn_uI_ne (by omega)]; exact h6 j hj
/-- the trial, with its seed -/
def cf_d (I I' : bm_TI) : Prop := ∀ o k, (o < 33 ∨ 39 < o) → I' o k = I o k
theorem cd_refl (I : bm_TI) : cf_d I I := fun _ _ _ => rfl
theorem cd_trans {I I1 I2 : bm_TI} (h1 : cf_d I I1) (h2 : cf_d I1 I2) : cf_d I I2 := fun o k a => (h2 o k a).trans (h1 o k a)
theorem cd_h {I I' : bm_TI} (h : cf_h I I') : cf_d I I' := fun o k a => h o k (by omega)
theorem cd_r {I I' : bm_TI} (h : cf_r I I') : cf_d I I' := fun o k a => h o k (by omega)
theorem cd_s (I : bm_TI) (k : Nat) (v : Int32) : cf_d I (bm_uI I 33 k v) := fun o k a => pn_uI_ne (by omega)
theorem pa_fd {I I' : bm_TI} {T : pt_T} (h : cf_d I I') (hP : pp_A I 4 T) : pp_A I' 4 T := pa_congr (fun o k _ _ => h o k (by omega)) hP
theorem kc_drawFor {dx : Int32 → Int32} {dq : Int32 → Nat → Nat} (hdq : ∀ x n, 0 < n → dq x n < n) (hD : pd_K dx dq) (hP : pp_A I 4 T) (hQ : pp_S I 33 T) (hA : pt_VA T) (hS : pt_VS T) {m : Nat} (hm : m < T 0) {x : Int32} (hx : I 33 12 = x) : ∃ I', f_X8_drawFor I (nI m) = some I' ∧ pp_S I' 33 (pt_dm dx dq x T m).2 ∧ I' 33 12 = (pt_dm dx dq x T m).1 ∧ cf_d I I' := by
  have h8 := hA.1
  have h7 := hA.2.1
  have hu := hA.2.2.2.2.2.2.2.2.2.2.1 m hm
  have hw := hdq (dx x) 8 (by omega)
  have hbl := pt_brow_le hA hm
  have Q1 : pp_S (bm_uI I 33 12 (dx x)) 33 T := ps_seed hQ
  have Q2 : pp_S (bm_uI (bm_uI I 33 12 (dx x)) 33 12 (dx (dx x))) 33 T := ps_seed Q1
  have F1 := cd_s I 12 (dx x)
  have F2 := cd_trans F1 (cd_s (bm_uI I 33 12 (dx x)) 12 (dx (dx x)))
  have P1 := pa_fd F1 hP
  have P2 := pa_fd F2 hP
  have s2 : (bm_uI (bm_uI I 33 12 (dx x)) 33 12 (dx (dx x))) 33 12 = dx (dx x) := pn_uI_hit rfl
  have s1 : (bm_uI I 33 12 (dx x)) 33 12 = dx x := pn_uI_hit rfl
  have D1 : f_X8_draw I (nI 8) = some (nI (dq (dx x) 8), bm_uI I 33 12 (dx x)) := by rw [hD _ _ (by omega) (by omega), hx]
  have D2 : ∀ n, 0 < n → n < 2 ^ 31 → f_X8_draw (bm_uI I 33 12 (dx x)) (nI n) = some (nI (dq (dx (dx x)) n), bm_uI (bm_uI I 33 12 (dx x)) 33 12 (dx (dx x))) := fun n h1 h2 => by rw [hD _ _ h1 h2, s1]
  unfold f_X8_drawFor pt_dm
  rw [show (8 : Int32) = nI 8 from rfl, D1]
  simp only [Option.bind_some]
  generalize dq (dx x) 8 = w at hw
  by_cases w0 : w = 0
  · subst w0
    have hq3 := hdq (dx (dx x)) 3 (by omega)
    simp (disch := omega) only [pn_l0, pn_l1, pn_l2, pn_l3, pn_l4, pn_l5, pn_l6, pn_l7, pn_l8, pn_l9, pn_l10, pn_l11, pn_l12, pn_l13, pn_l15, pn_l20, pn_l21, pn_l22, pn_l23, pn_l24, pn_l30, pn_l31, pn_l32, pn_l39, pn_l40, pn_l41, pn_l45, pn_l46, pn_l48, pn_l53, pn_l57, pn_l58, pn_l59, pn_l60, pn_l61, pn_l62, pn_l63, pn_l64, pn_l65, pn_l66, pn_l74, pn_l82, pn_l90, pn_l97, pn_l98, pn_l99, pn_l106, pn_l107, pn_l120, pn_l122, pn_l135, pn_l255, pn_l287, pn_l300, pn_l315, pn_l360, pn_l400, pn_l900, pn_l940, pn_l1000, pn_l1000000, pn_mone, nI_add, pk_mul, nI_clamp, bm_ixk, pn_ltI, pn_leI, pn_eqI, pn_xeq, pn_xeq2, pn_xx, pn_xltI, pn_xleI, pn_xgtI, pn_xgeI, pn_xadd, pn_subx, pn_addx, Option.bind_some, ↓reduceIte, D2, Nat.reduceEqDiff]
    by_cases hb : pt_brow T m = 0
    · rw [kc_liftBy0 P2 Q2 hA hS _ hm hb]
      simp only [hb, ↓reduceIte, Option.bind_some]
      exact ⟨_, rfl, Q2, s2, F2⟩
    · obtain ⟨I3, e3, r3, f3⟩ := kc_liftBy P2 Q2 hA hS hm (l := dq (dx (dx x)) 3 + 1) (by omega) hb
      rw [e3]
      simp only [hb, ↓reduceIte, Option.bind_some]
      exact ⟨I3, rfl, r3, by rw [f3 33 12 (by omega)]; exact s2, cd_trans F2 (cd_r f3)⟩
  · by_cases w1 : w = 1
    · subst w1
      have hr63 := pg_asleep33 Q1
      simp (disch := omega) only [pn_l0, pn_l1, pn_l2, pn_l3, pn_l4, pn_l5, pn_l6, pn_l7, pn_l8, pn_l9, pn_l10, pn_l11, pn_l12, pn_l13, pn_l15, pn_l20, pn_l21, pn_l22, pn_l23, pn_l24, pn_l30, pn_l31, pn_l32, pn_l39, pn_l40, pn_l41, pn_l45, pn_l46, pn_l48, pn_l53, pn_l57, pn_l58, pn_l59, pn_l60, pn_l61, pn_l62, pn_l63, pn_l64, pn_l65, pn_l66, pn_l74, pn_l82, pn_l90, pn_l97, pn_l98, pn_l99, pn_l106, pn_l107, pn_l120, pn_l122, pn_l135, pn_l255, pn_l287, pn_l300, pn_l315, pn_l360, pn_l400, pn_l900, pn_l940, pn_l1000, pn_l1000000, pn_mone, nI_add, pk_mul, nI_clamp, bm_ixk, pn_ltI, pn_leI, pn_eqI, pn_xeq, pn_xeq2, pn_xx, pn_xltI, pn_xleI, pn_xgtI, pn_xgeI, pn_xadd, pn_subx, pn_addx, Option.bind_some, ↓reduceIte, hr63, Nat.reduceEqDiff, pn_shlN, pn_xor]
      exact ⟨_, rfl, ps_asleep h8 Q1 _, by rw [pn_uI_ne2 (by omega)]; exact s1, cd_trans F1 (cd_s _ _ _)⟩
    · by_cases w2 : w = 2
      · subst w2
        have hq4 := hdq (dx (dx x)) 4 (by omega)
        have hg := kc_goBy Q2 h8 hS hm hq4
        simp (disch := omega) only [pn_l0, pn_l1, pn_l2, pn_l3, pn_l4, pn_l5, pn_l6, pn_l7, pn_l8, pn_l9, pn_l10, pn_l11, pn_l12, pn_l13, pn_l15, pn_l20, pn_l21, pn_l22, pn_l23, pn_l24, pn_l30, pn_l31, pn_l32, pn_l39, pn_l40, pn_l41, pn_l45, pn_l46, pn_l48, pn_l53, pn_l57, pn_l58, pn_l59, pn_l60, pn_l61, pn_l62, pn_l63, pn_l64, pn_l65, pn_l66, pn_l74, pn_l82, pn_l90, pn_l97, pn_l98, pn_l99, pn_l106, pn_l107, pn_l120, pn_l122, pn_l135, pn_l255, pn_l287, pn_l300, pn_l315, pn_l360, pn_l400, pn_l900, pn_l940, pn_l1000, pn_l1000000, pn_mone, nI_add, pk_mul, nI_clamp, bm_ixk, pn_ltI, pn_leI, pn_eqI, pn_xeq, pn_xeq2, pn_xx, pn_xltI, pn_xleI, pn_xgtI, pn_xgeI, pn_xadd, pn_subx, pn_addx, Option.bind_some, ↓reduceIte, D2, Nat.reduceEqDiff]
        by_cases hc : pt_can T m (dq (dx (dx x)) 4)
        · obtain ⟨I3, e3, r3, f3⟩ := hg.1 hc
          rw [if_pos hc, e3]
          exact ⟨I3, rfl, r3, by rw [f3 33 12 (by omega)]; exact s2, cd_trans F2 (cd_r f3)⟩
        · rw [hg.2 hc, if_neg hc]
          exact ⟨_, rfl, Q2, s2, F2⟩
      · by_cases w3 : w = 3
        · subst w3
          have hr1 := pa_orders P1
          have hr31 := pa_under P2 hm
          unfold f_X8_drawOrderFor
          simp (disch := omega) only [pn_l0, pn_l1, pn_l2, pn_l3, pn_l4, pn_l5, pn_l6, pn_l7, pn_l8, pn_l9, pn_l10, pn_l11, pn_l12, pn_l13, pn_l15, pn_l20, pn_l21, pn_l22, pn_l23, pn_l24, pn_l30, pn_l31, pn_l32, pn_l39, pn_l40, pn_l41, pn_l45, pn_l46, pn_l48, pn_l53, pn_l57, pn_l58, pn_l59, pn_l60, pn_l61, pn_l62, pn_l63, pn_l64, pn_l65, pn_l66, pn_l74, pn_l82, pn_l90, pn_l97, pn_l98, pn_l99, pn_l106, pn_l107, pn_l120, pn_l122, pn_l135, pn_l255, pn_l287, pn_l300, pn_l315, pn_l360, pn_l400, pn_l900, pn_l940, pn_l1000, pn_l1000000, pn_mone, nI_add, pk_mul, nI_clamp, bm_ixk, pn_ltI, pn_leI, pn_eqI, pn_xeq, pn_xeq2, pn_xx, pn_xltI, pn_xleI, pn_xgtI, pn_xgeI, pn_xadd, pn_subx, pn_addx, Option.bind_some, ↓reduceIte, hr1, Nat.reduceEqDiff, Nat.le_zero]
          by_cases h1 : T 1 = 0
          · simp only [h1, ↓reduceIte, Option.bind_some]
            exact ⟨_, rfl, Q1, s1, F1⟩
          · have hqn := hdq (dx (dx x)) (T 1) (by omega)
            simp (disch := omega) only [pn_l0, pn_l1, pn_l2, pn_l3, pn_l4, pn_l5, pn_l6, pn_l7, pn_l8, pn_l9, pn_l10, pn_l11, pn_l12, pn_l13, pn_l15, pn_l20, pn_l21, pn_l22, pn_l23, pn_l24, pn_l30, pn_l31, pn_l32, pn_l39, pn_l40, pn_l41, pn_l45, pn_l46, pn_l48, pn_l53, pn_l57, pn_l58, pn_l59, pn_l60, pn_l61, pn_l62, pn_l63, pn_l64, pn_l65, pn_l66, pn_l74, pn_l82, pn_l90, pn_l97, pn_l98, pn_l99, pn_l106, pn_l107, pn_l120, pn_l122, pn_l135, pn_l255, pn_l287, pn_l300, pn_l315, pn_l360, pn_l400, pn_l900, pn_l940, pn_l1000, pn_l1000000, pn_mone, nI_add, pk_mul, nI_clamp, bm_ixk, pn_ltI, pn_leI, pn_eqI, pn_xeq, pn_xeq2, pn_xx, pn_xltI, pn_xleI, pn_xgtI, pn_xgeI, pn_xadd, pn_subx, pn_addx, Option.bind_some, ↓reduceIte, h1, D2, hr31]
            by_cases h31 : T (31 + m) = 0
            · simp only [h31, ↓reduceIte]
              by_cases hb : pt_brow T m = 0
              · rw [kc_giveBy0 P2 Q2 hA hS hm hqn hb]
                simp only [hb, ↓reduceIte, Option.bind_some]
                exact ⟨_, rfl, Q2, s2, F2⟩
              · obtain ⟨I3, e3, r3, f3⟩ := kc_giveBy P2 Q2 hA hS hm hqn hb
                rw [e3]
                simp only [hb, ↓reduceIte, Option.bind_some]
                exact ⟨I3, rfl, r3, by rw [f3 33 12 (by omega)]; exact s2, cd_trans F2 (cd_r f3)⟩
            · simp only [h31, ↓reduceIte, Option.bind_some]
              exact ⟨_, rfl, Q2, s2, F2⟩
        · simp (disch := omega) only [pn_l0, pn_l1, pn_l2, pn_l3, pn_l4, pn_l5, pn_l6, pn_l7, pn_l8, pn_l9, pn_l10, pn_l11, pn_l12, pn_l13, pn_l15, pn_l20, pn_l21, pn_l22, pn_l23, pn_l24, pn_l30, pn_l31, pn_l32, pn_l39, pn_l40, pn_l41, pn_l45, pn_l46, pn_l48, pn_l53, pn_l57, pn_l58, pn_l59, pn_l60, pn_l61, pn_l62, pn_l63, pn_l64, pn_l65, pn_l66, pn_l74, pn_l82, pn_l90, pn_l97, pn_l98, pn_l99, pn_l106, pn_l107, pn_l120, pn_l122, pn_l135, pn_l255, pn_l287, pn_l300, pn_l315, pn_l360, pn_l400, pn_l900, pn_l940, pn_l1000, pn_l1000000, pn_mone, nI_add, pk_mul, nI_clamp, bm_ixk, pn_ltI, pn_leI, pn_eqI, pn_xeq, pn_xeq2, pn_xx, pn_xltI, pn_xleI, pn_xgtI, pn_xgeI, pn_xadd, pn_subx, pn_addx, Option.bind_some, ↓reduceIte, w0, w1, w2, w3]
          exact ⟨_, rfl, Q1, s1, F1⟩
theorem kc_draws_l {dx : Int32 → Int32} {dq : Int32 → Nat → Nat} (hdq : ∀ x n, 0 < n → dq x n < n) (hD : pd_K dx dq) (hP : pp_A I 4 T) (hQ : pp_S I 33 T) (hA : pt_VA T) (hS : pt_VS T) {x : Int32} (hx : I 33 12 = x) (y1 y3 : Int32) : ∃ I', f_X8_drawHours_l25 y1 y3 1000 0 I = some I' ∧ (pp_S I' 33 (pt_dms dx dq x T (T 0)).2 ∧ I' 33 12 = (pt_dms dx dq x T (T 0)).1 ∧ cf_d I I') := by
  have h8 := hA.1
  refine pl_rel (F := f_X8_drawHours_l25 y1 y3) (n := T 0) (fun j I' => pp_S I' 33 (pt_dms dx dq x T j).2 ∧ I' 33 12 = (pt_dms dx dq x T j).1 ∧ cf_d I I') ?_ ?_ 1000 I (by omega) ⟨hQ, hx, cd_refl I⟩
  · intro k I' ⟨h1, h2, h3⟩
    refine ⟨I', ?_, h1, h2, h3⟩
    rw [f_X8_drawHours_l25, h3 4 10 (by omega), pa_men hP, if_pos (Int32.le_refl _)]
  · intro k j I' hj ⟨h1, h2, h3⟩
    have eA := te_dms (dx := dx) (dq := dq) x T j
    obtain ⟨I2, e2, r2, s2, f2⟩ := kc_drawFor hdq hD (pa_VA eA hA (pa_fd h3 hP)) h1 (va_congr eA hA) (vs_dms hdq hA hS (by omega)) (m := j) (by rw [eA 0 (by omega)]; exact hj) h2
    rw [f_X8_drawHours_l25, h3 4 10 (by omega), pa_men hP, if_neg (nI_ge hj (by omega)), e2, nI_1, pt_dms]
    exact ⟨I2, rfl, r2, s2, cd_trans h3 f2⟩
theorem kc_draws {dx : Int32 → Int32} {dq : Int32 → Nat → Nat} (hdq : ∀ x n, 0 < n → dq x n < n) (hD : pd_K dx dq) (hP : pp_A I 4 T) (hQ : pp_S I 33 T) (hA : pt_VA T) (hS : pt_VS T) (x : Int32) {n : Nat} (hn : n ≤ 60) : ∃ I', f_X8_drawHours I (nI n) x = some (nI (min n (400 - T 61)), I') ∧ pp_S I' 33 (pt_dh dx dq x T (min n (400 - T 61))).2 ∧ cf_d I I' := by
  have h1 := hS.1
  have key : ∃ t, f_X8_drawHours_l7 (nI n) 1000 0 (bm_uI I 33 12 x) = some t ∧ (t.1 = nI (min n (400 - T 61)) ∧ pp_S t.2 33 (pt_dh dx dq x T (min n (400 - T 61))).2 ∧ cf_d I t.2) := by
    refine pl_rel (F := f_X8_drawHours_l7 (nI n)) (n := min n (400 - T 61)) (fun j I' => pp_S I' 33 (pt_dh dx dq x T j).2 ∧ I' 33 12 = (pt_dh dx dq x T j).1 ∧ cf_d I I') ?_ ?_ 1000 (bm_uI I 33 12 x) (by omega) ⟨ps_seed hQ, pn_uI_hit rfl, cd_s I 12 x⟩
    · intro k I' ⟨a1, a2, a3⟩
      have a61 := pg_hour33 a1
      rw [pt_dh_61] at a61
      refine ⟨(nI (min n (400 - T 61)), I'), ?_, rfl, a1, a3⟩
      rw [f_X8_drawHours_l7]
      simp (disch := omega) only [pn_l0, pn_l1, pn_l2, pn_l3, pn_l4, pn_l5, pn_l6, pn_l7, pn_l8, pn_l9, pn_l10, pn_l11, pn_l12, pn_l13, pn_l15, pn_l20, pn_l21, pn_l22, pn_l23, pn_l24, pn_l30, pn_l31, pn_l32, pn_l39, pn_l40, pn_l41, pn_l45, pn_l46, pn_l48, pn_l53, pn_l57, pn_l58, pn_l59, pn_l60, pn_l61, pn_l62, pn_l63, pn_l64, pn_l65, pn_l66, pn_l74, pn_l82, pn_l90, pn_l97, pn_l98, pn_l99, pn_l106, pn_l107, pn_l120, pn_l122, pn_l135, pn_l255, pn_l287, pn_l300, pn_l315, pn_l360, pn_l400, pn_l900, pn_l940, pn_l1000, pn_l1000000, pn_mone, nI_add, pk_mul, nI_clamp, bm_ixk, pn_ltI, pn_leI, pn_eqI, pn_xeq, pn_xeq2, pn_xx, pn_xltI, pn_xleI, pn_xgtI, pn_xgeI, pn_xadd, pn_subx, pn_addx, Option.bind_some, ↓reduceIte, a61]
      by_cases hh : n ≤ min n (400 - T 61)
      · simp only [hh, ↓reduceIte]
      · have h2 : 400 ≤ T 61 + min n (400 - T 61) := by omega
        simp only [hh, h2, ↓reduceIte]
    · intro k j I' hj ⟨a1, a2, a3⟩
      have a61 := pg_hour33 a1
      rw [pt_dh_61] at a61
      have eA := te_dh (dx := dx) (dq := dq) x T j
      have hVA := va_congr eA hA
      have hVS := vs_dh (dx := dx) hdq (x := x) hA hS (n := j) (by omega)
      have hPj := pa_VA eA hA (pa_fd a3 hP)
      obtain ⟨I2, e2, r2, s2, f2⟩ := kc_draws_l hdq hD hPj a1 hVA hVS a2 (nI n) (nI j)
      have e0 := eA 0 (by omega)
      rw [e0] at r2 s2
      obtain ⟨I3, e3, r3, f3⟩ := kc_passHours (pa_VA (te_dms _ _ _) hVA (pa_fd f2 hPj)) r2 (va_congr (te_dms _ _ _) hVA) (vs_dms hdq hVA hVS (by omega)) (n := 1) (by omega)
      rw [pt_dms_61, pt_dh_61, show min 1 (400 - (T 61 + j)) = 1 by omega] at e3 r3
      refine ⟨I3, ?_, ?_, ?_, cd_trans a3 (cd_trans f2 (cd_h f3))⟩
      · rw [f_X8_drawHours_l7, e2]
        have g1 : ¬ n ≤ j := by omega
        have g2 : ¬ 400 ≤ T 61 + j := by omega
        simp (disch := omega) only [pn_l0, pn_l1, pn_l2, pn_l3, pn_l4, pn_l5, pn_l6, pn_l7, pn_l8, pn_l9, pn_l10, pn_l11, pn_l12, pn_l13, pn_l15, pn_l20, pn_l21, pn_l22, pn_l23, pn_l24, pn_l30, pn_l31, pn_l32, pn_l39, pn_l40, pn_l41, pn_l45, pn_l46, pn_l48, pn_l53, pn_l57, pn_l58, pn_l59, pn_l60, pn_l61, pn_l62, pn_l63, pn_l64, pn_l65, pn_l66, pn_l74, pn_l82, pn_l90, pn_l97, pn_l98, pn_l99, pn_l106, pn_l107, pn_l120, pn_l122, pn_l135, pn_l255, pn_l287, pn_l300, pn_l315, pn_l360, pn_l400, pn_l900, pn_l940, pn_l1000, pn_l1000000, pn_mone, nI_add, pk_mul, nI_clamp, bm_ixk, pn_ltI, pn_leI, pn_eqI, pn_xeq, pn_xeq2, pn_xx, pn_xltI, pn_xleI, pn_xgtI, pn_xgeI, pn_xadd, pn_subx, pn_addx, Option.bind_some, ↓reduceIte, a61, g1, g2, e3]
      · rw [pt_dh]; exact r3
      · rw [pt_dh, f3 33 12 (by omega)]; exact s2
  obtain ⟨t, e, t1, t2, t3⟩ := key
  refine ⟨t.2, ?_, t2, t3⟩
  unfold f_X8_drawHours
  rw [e, ← t1]
  rfl
theorem kc_draw : pd_K pt_dx pt_dq := fun I n h hn => by
  unfold f_X8_draw
  rw [if_neg (nI_nle h hn), if_pos (nI_ne0 h hn), pn_uI_hit rfl]
  show some (bm_rem (bm_iushr (pt_dx (I 33 12)) 8) (nI n), _) = _
  rw [pn_dq _ h hn]
  rfl
theorem pq_drawQ : pd_Q pt_dx pt_dq := fun _ _ h hn => pq_draw h hn
end DR
