/-! by the class, on the trial -/
theorem pn_uI_off {I : bm_TI} {o k : Nat} {v : Int32} {a b : Nat} (h : a ≠ o ∨ b ≠ k) : bm_uI I o k v a b = I a b := by
  by_cases e : a = o
  · subst e; exact pn_uI_ne2 (by omega)
  · exact pn_uI_ne e
def cf_r (I I' : bm_TI) : Prop := ∀ o k, (o < 33 ∨ 38 < o ∨ (o = 33 ∧ 12 ≤ k)) → I' o k = I o k
theorem cf_refl (I : bm_TI) : cf_r I I := fun _ _ _ => rfl
theorem cf_trans {I I1 I2 : bm_TI} (h1 : cf_r I I1) (h2 : cf_r I1 I2) : cf_r I I2 := fun o k a => (h2 o k a).trans (h1 o k a)
theorem cf_up {I : bm_TI} {c k : Nat} {v : Int32} (h : 33 ≤ c) (h2 : c ≤ 38 ∧ (c = 33 → k < 12)) : cf_r I (bm_uI I c k v) := fun o j a => pn_uI_off (by omega)
theorem pa_congr {I I' : bm_TI} {T : pt_T} (h : ∀ o k, 4 ≤ o → o ≤ 14 → I' o k = I o k) (hP : pp_A I 4 T) : pp_A I' 4 T := by
  obtain ⟨a1, a2, a3, a4, a5, a6, a7, a8, a9, a10⟩ := hP
  refine ⟨?_, ?_, ?_, ?_, ?_, ?_, ?_, fun j hj => ?_, fun j hj => ?_, fun j hj => ?_⟩
  · rw [h 4 10 (by omega) (by omega)]; exact a1
  · rw [h 4 11 (by omega) (by omega)]; exact a2
  · rw [h 4 12 (by omega) (by omega)]; exact a3
  · rw [h 4 13 (by omega) (by omega)]; exact a4
  · rw [h 4 14 (by omega) (by omega)]; exact a5
  · rw [h 4 15 (by omega) (by omega)]; exact a6
  · rw [h 4 16 (by omega) (by omega)]; exact a7
  · rw [h (4 + 4) j (by omega) (by omega), h (4 + 5) j (by omega) (by omega)]; exact a8 j hj
  · rw [h (4 + 7) j (by omega) (by omega), h (4 + 8) j (by omega) (by omega)]; exact a9 j hj
  · rw [h (4 + 9) j (by omega) (by omega), h (4 + 10) j (by omega) (by omega)]; exact a10 j hj
theorem pa_fr {I I' : bm_TI} {T : pt_T} (h : cf_r I I') (hP : pp_A I 4 T) : pp_A I' 4 T := pa_congr (fun o k _ _ => h o k (by omega)) hP
theorem pa_eA {I : bm_TI} {a : Nat} {T U : pt_T} (e : pt_eA T U) (h8 : T 0 ≤ 8) (h7 : T 1 ≤ 7) (h4 : T 2 ≤ 4) (hP : pp_A I a T) : pp_A I a U := by
  obtain ⟨a1, a2, a3, a4, a5, a6, a7, a8, a9, a10⟩ := hP
  have e0 := e 0 (by omega)
  have e1 := e 1 (by omega)
  have e2 := e 2 (by omega)
  refine ⟨?_, ?_, ?_, ?_, ?_, ?_, ?_, fun j hj => ?_, fun j hj => ?_, fun j hj => ?_⟩
  · rw [e0]; exact a1
  · rw [e 29 (by omega)]; exact a2
  · rw [e 30 (by omega)]; exact a3
  · rw [e1]; exact a4
  · rw [e2]; exact a5
  · rw [e 3 (by omega)]; exact a6
  · rw [e 4 (by omega)]; exact a7
  · rw [e (21 + j) (by omega), e (31 + j) (by omega)]; exact a8 j (by omega)
  · rw [e (39 + j) (by omega), e (46 + j) (by omega)]; exact a9 j (by omega)
  · rw [e (53 + j) (by omega), e (57 + j) (by omega)]; exact a10 j (by omega)
theorem pa_VA {I : bm_TI} {a : Nat} {T U : pt_T} (e : pt_eA T U) (hA : pt_VA T) (hP : pp_A I a T) : pp_A I a U := pa_eA e hA.1 hA.2.1 hA.2.2.1 hP

theorem ps_asleep {I : bm_TI} {T : pt_T} (h8 : T 0 ≤ 8) (hQ : pp_S I 33 T) (v : Nat) : pp_S (bm_uI I 33 7 (nI v)) 33 (pt_up T 63 v) := by
  obtain ⟨h1, h2, h3, h4, h5, h6⟩ := hQ
  refine ⟨?_, ?_, ?_, ?_, ?_, fun j hj => ?_⟩
  · rw [pn_uI_hit rfl, tu_hit rfl]
  · rw [pn_uI_ne2 (by omega), tu_ne (by omega)]; exact h2
  · rw [pn_uI_ne2 (by omega), tu_ne (by omega)]; exact h3
  · rw [pn_uI_ne2 (by omega), tu_ne (by omega)]; exact h4
  · rw [pn_uI_ne2 (by omega), tu_ne (by omega)]; exact h5
  · rw [tu_ne (by omega)] at hj
    have := h6 j hj
    rw [pn_uI_ne (by omega), pn_uI_ne (by omega), pn_uI_ne (by omega), pn_uI_ne (by omega), pn_uI_ne (by omega), tu_ne (by omega), tu_ne (by omega), tu_ne (by omega), tu_ne (by omega), tu_ne (by omega)]; exact this
theorem ps_sooted {I : bm_TI} {T : pt_T} (h8 : T 0 ≤ 8) (hQ : pp_S I 33 T) (v : Nat) : pp_S (bm_uI I 33 8 (nI v)) 33 (pt_up T 64 v) := by
  obtain ⟨h1, h2, h3, h4, h5, h6⟩ := hQ
  refine ⟨?_, ?_, ?_, ?_, ?_, fun j hj => ?_⟩
  · rw [pn_uI_ne2 (by omega), tu_ne (by omega)]; exact h1
  · rw [pn_uI_hit rfl, tu_hit rfl]
  · rw [pn_uI_ne2 (by omega), tu_ne (by omega)]; exact h3
  · rw [pn_uI_ne2 (by omega), tu_ne (by omega)]; exact h4
  · rw [pn_uI_ne2 (by omega), tu_ne (by omega)]; exact h5
  · rw [tu_ne (by omega)] at hj
    have := h6 j hj
    rw [pn_uI_ne (by omega), pn_uI_ne (by omega), pn_uI_ne (by omega), pn_uI_ne (by omega), pn_uI_ne (by omega), tu_ne (by omega), tu_ne (by omega), tu_ne (by omega), tu_ne (by omega), tu_ne (by omega)]; exact this
theorem ps_pass {I : bm_TI} {T : pt_T} (h8 : T 0 ≤ 8) (hQ : pp_S I 33 T) (v : Nat) : pp_S (bm_uI I 33 9 (nI v)) 33 (pt_up T 65 v) := by
  obtain ⟨h1, h2, h3, h4, h5, h6⟩ := hQ
  refine ⟨?_, ?_, ?_, ?_, ?_, fun j hj => ?_⟩
  · rw [pn_uI_ne2 (by omega), tu_ne (by omega)]; exact h1
  · rw [pn_uI_ne2 (by omega), tu_ne (by omega)]; exact h2
  · rw [pn_uI_hit rfl, tu_hit rfl]
  · rw [pn_uI_ne2 (by omega), tu_ne (by omega)]; exact h4
  · rw [pn_uI_ne2 (by omega), tu_ne (by omega)]; exact h5
  · rw [tu_ne (by omega)] at hj
    have := h6 j hj
    rw [pn_uI_ne (by omega), pn_uI_ne (by omega), pn_uI_ne (by omega), pn_uI_ne (by omega), pn_uI_ne (by omega), tu_ne (by omega), tu_ne (by omega), tu_ne (by omega), tu_ne (by omega), tu_ne (by omega)]; exact this
theorem ps_hour {I : bm_TI} {T : pt_T} (h8 : T 0 ≤ 8) (hQ : pp_S I 33 T) (v : Nat) : pp_S (bm_uI I 33 10 (nI v)) 33 (pt_up T 61 v) := by
  obtain ⟨h1, h2, h3, h4, h5, h6⟩ := hQ
  refine ⟨?_, ?_, ?_, ?_, ?_, fun j hj => ?_⟩
  · rw [pn_uI_ne2 (by omega), tu_ne (by omega)]; exact h1
  · rw [pn_uI_ne2 (by omega), tu_ne (by omega)]; exact h2
  · rw [pn_uI_ne2 (by omega), tu_ne (by omega)]; exact h3
  · rw [pn_uI_hit rfl, tu_hit rfl]
  · rw [pn_uI_ne2 (by omega), tu_ne (by omega)]; exact h5
  · rw [tu_ne (by omega)] at hj
    have := h6 j hj
    rw [pn_uI_ne (by omega), pn_uI_ne (by omega), pn_uI_ne (by omega), pn_uI_ne (by omega), pn_uI_ne (by omega), tu_ne (by omega), tu_ne (by omega), tu_ne (by omega), tu_ne (by omega), tu_ne (by omega)]; exact this
theorem ps_lifts {I : bm_TI} {T : pt_T} (h8 : T 0 ≤ 8) (hQ : pp_S I 33 T) (v : Nat) : pp_S (bm_uI I 33 11 (nI v)) 33 (pt_up T 62 v) := by
  obtain ⟨h1, h2, h3, h4, h5, h6⟩ := hQ
  refine ⟨?_, ?_, ?_, ?_, ?_, fun j hj => ?_⟩
  · rw [pn_uI_ne2 (by omega), tu_ne (by omega)]; exact h1
  · rw [pn_uI_ne2 (by omega), tu_ne (by omega)]; exact h2
  · rw [pn_uI_ne2 (by omega), tu_ne (by omega)]; exact h3
  · rw [pn_uI_ne2 (by omega), tu_ne (by omega)]; exact h4
  · rw [pn_uI_hit rfl, tu_hit rfl]
  · rw [tu_ne (by omega)] at hj
    have := h6 j hj
    rw [pn_uI_ne (by omega), pn_uI_ne (by omega), pn_uI_ne (by omega), pn_uI_ne (by omega), pn_uI_ne (by omega), tu_ne (by omega), tu_ne (by omega), tu_ne (by omega), tu_ne (by omega), tu_ne (by omega)]; exact this
theorem ps_x {I : bm_TI} {T : pt_T} (h8 : T 0 ≤ 8) (hQ : pp_S I 33 T) {m : Nat} (hm : m < 8) (v : Nat) : pp_S (bm_uI I 34 m (nI v)) 33 (pt_up T (66 + m) v) := by
  obtain ⟨h1, h2, h3, h4, h5, h6⟩ := hQ
  refine ⟨?_, ?_, ?_, ?_, ?_, fun j hj => ?_⟩
  · rw [pn_uI_ne (by omega), tu_ne (by omega)]; exact h1
  · rw [pn_uI_ne (by omega), tu_ne (by omega)]; exact h2
  · rw [pn_uI_ne (by omega), tu_ne (by omega)]; exact h3
  · rw [pn_uI_ne (by omega), tu_ne (by omega)]; exact h4
  · rw [pn_uI_ne (by omega), tu_ne (by omega)]; exact h5
  · rw [tu_ne (by omega)] at hj
    have q := h6 j hj
    refine ⟨?_, ?_, ?_, ?_, ?_⟩
    · by_cases e : j = m
      · rw [pn_uI_hit e, tu_hit (by omega)]
      · rw [pn_uI_ne2 e, tu_ne (by omega)]; exact q.1
    · rw [pn_uI_ne (by omega), tu_ne (by omega)]; exact q.2.1
    · rw [pn_uI_ne (by omega), tu_ne (by omega)]; exact q.2.2.1
    · rw [pn_uI_ne (by omega), tu_ne (by omega)]; exact q.2.2.2.1
    · rw [pn_uI_ne (by omega), tu_ne (by omega)]; exact q.2.2.2.2
theorem ps_y {I : bm_TI} {T : pt_T} (h8 : T 0 ≤ 8) (hQ : pp_S I 33 T) {m : Nat} (hm : m < 8) (v : Nat) : pp_S (bm_uI I 35 m (nI v)) 33 (pt_up T (74 + m) v) := by
  obtain ⟨h1, h2, h3, h4, h5, h6⟩ := hQ
  refine ⟨?_, ?_, ?_, ?_, ?_, fun j hj => ?_⟩
  · rw [pn_uI_ne (by omega), tu_ne (by omega)]; exact h1
  · rw [pn_uI_ne (by omega), tu_ne (by omega)]; exact h2
  · rw [pn_uI_ne (by omega), tu_ne (by omega)]; exact h3
  · rw [pn_uI_ne (by omega), tu_ne (by omega)]; exact h4
  · rw [pn_uI_ne (by omega), tu_ne (by omega)]; exact h5
  · rw [tu_ne (by omega)] at hj
    have q := h6 j hj
    refine ⟨?_, ?_, ?_, ?_, ?_⟩
    · rw [pn_uI_ne (by omega), tu_ne (by omega)]; exact q.1
    · by_cases e : j = m
      · rw [pn_uI_hit e, tu_hit (by omega)]
      · rw [pn_uI_ne2 e, tu_ne (by omega)]; exact q.2.1
    · rw [pn_uI_ne (by omega), tu_ne (by omega)]; exact q.2.2.1
    · rw [pn_uI_ne (by omega), tu_ne (by omega)]; exact q.2.2.2.1
    · rw [pn_uI_ne (by omega), tu_ne (by omega)]; exact q.2.2.2.2
theorem ps_heard {I : bm_TI} {T : pt_T} (h8 : T 0 ≤ 8) (hQ : pp_S I 33 T) {m : Nat} (hm : m < 8) (v : Nat) : pp_S (bm_uI I 36 m (nI v)) 33 (pt_up T (82 + m) v) := by
  obtain ⟨h1, h2, h3, h4, h5, h6⟩ := hQ
  refine ⟨?_, ?_, ?_, ?_, ?_, fun j hj => ?_⟩
  · rw [pn_uI_ne (by omega), tu_ne (by omega)]; exact h1
  · rw [pn_uI_ne (by omega), tu_ne (by omega)]; exact h2
  · rw [pn_uI_ne (by omega), tu_ne (by omega)]; exact h3
  · rw [pn_uI_ne (by omega), tu_ne (by omega)]; exact h4
  · rw [pn_uI_ne (by omega), tu_ne (by omega)]; exact h5
  · rw [tu_ne (by omega)] at hj
    have q := h6 j hj
    refine ⟨?_, ?_, ?_, ?_, ?_⟩
    · rw [pn_uI_ne (by omega), tu_ne (by omega)]; exact q.1
    · rw [pn_uI_ne (by omega), tu_ne (by omega)]; exact q.2.1
    · by_cases e : j = m
      · rw [pn_uI_hit e, tu_hit (by omega)]
      · rw [pn_uI_ne2 e, tu_ne (by omega)]; exact q.2.2.1
    · rw [pn_uI_ne (by omega), tu_ne (by omega)]; exact q.2.2.2.1
    · rw [pn_uI_ne (by omega), tu_ne (by omega)]; exact q.2.2.2.2
theorem ps_order {I : bm_TI} {T : pt_T} (h8 : T 0 ≤ 8) (hQ : pp_S I 33 T) {m : Nat} (hm : m < 8) (v : Nat) : pp_S (bm_uI I 37 m (pn_x v)) 33 (pt_up T (90 + m) v) := by
  obtain ⟨h1, h2, h3, h4, h5, h6⟩ := hQ
  refine ⟨?_, ?_, ?_, ?_, ?_, fun j hj => ?_⟩
  · rw [pn_uI_ne (by omega), tu_ne (by omega)]; exact h1
  · rw [pn_uI_ne (by omega), tu_ne (by omega)]; exact h2
  · rw [pn_uI_ne (by omega), tu_ne (by omega)]; exact h3
  · rw [pn_uI_ne (by omega), tu_ne (by omega)]; exact h4
  · rw [pn_uI_ne (by omega), tu_ne (by omega)]; exact h5
  · rw [tu_ne (by omega)] at hj
    have q := h6 j hj
    refine ⟨?_, ?_, ?_, ?_, ?_⟩
    · rw [pn_uI_ne (by omega), tu_ne (by omega)]; exact q.1
    · rw [pn_uI_ne (by omega), tu_ne (by omega)]; exact q.2.1
    · rw [pn_uI_ne (by omega), tu_ne (by omega)]; exact q.2.2.1
    · by_cases e : j = m
      · rw [pn_uI_hit e, tu_hit (by omega)]
      · rw [pn_uI_ne2 e, tu_ne (by omega)]; exact q.2.2.2.1
    · rw [pn_uI_ne (by omega), tu_ne (by omega)]; exact q.2.2.2.2
theorem ps_lost {I : bm_TI} {T : pt_T} (h8 : T 0 ≤ 8) (hQ : pp_S I 33 T) {m : Nat} (hm : m < 8) (v : Nat) : pp_S (bm_uI I 38 m (nI v)) 33 (pt_up T (98 + m) v) := by
  obtain ⟨h1, h2, h3, h4, h5, h6⟩ := hQ
  refine ⟨?_, ?_, ?_, ?_, ?_, fun j hj => ?_⟩
  · rw [pn_uI_ne (by omega), tu_ne (by omega)]; exact h1
  · rw [pn_uI_ne (by omega), tu_ne (by omega)]; exact h2
  · rw [pn_uI_ne (by omega), tu_ne (by omega)]; exact h3
  · rw [pn_uI_ne (by omega), tu_ne (by omega)]; exact h4
  · rw [pn_uI_ne (by omega), tu_ne (by omega)]; exact h5
  · rw [tu_ne (by omega)] at hj
    have q := h6 j hj
    refine ⟨?_, ?_, ?_, ?_, ?_⟩
    · rw [pn_uI_ne (by omega), tu_ne (by omega)]; exact q.1
    · rw [pn_uI_ne (by omega), tu_ne (by omega)]; exact q.2.1
    · rw [pn_uI_ne (by omega), tu_ne (by omega)]; exact q.2.2.1
    · rw [pn_uI_ne (by omega), tu_ne (by omega)]; exact q.2.2.2.1
    · by_cases e : j = m
      · rw [pn_uI_hit e, tu_hit (by omega)]
      · rw [pn_uI_ne2 e, tu_ne (by omega)]; exact q.2.2.2.2
theorem ps_congr {I I' : bm_TI} {T : pt_T} {o : Nat} (h : ∀ k, I' o k = I o k) (h2 : ∀ c k, o < c → c ≤ o + 5 → I' c k = I c k) (hQ : pp_S I o T) : pp_S I' o T := by
  obtain ⟨h1, h2', h3, h4, h5, h6⟩ := hQ
  refine ⟨?_, ?_, ?_, ?_, ?_, fun j hj => ?_⟩
  · rw [h]; exact h1
  · rw [h]; exact h2'
  · rw [h]; exact h3
  · rw [h]; exact h4
  · rw [h]; exact h5
  · rw [h2 (o + 1) j (by omega) (by omega), h2 (o + 2) j (by omega) (by omega), h2 (o + 3) j (by omega) (by omega), h2 (o + 4) j (by omega) (by omega), h2 (o + 5) j (by omega) (by omega)]; exact h6 j hj
/-! pictures that agree -/
theorem tu_comm {T : pt_T} {a b x y : Nat} (h : a ≠ b) : pt_up (pt_up T a x) b y = pt_up (pt_up T b y) a x := by
  funext j
  unfold pt_up
  by_cases h1 : j = b
  · rw [if_pos h1, if_neg (by omega), if_pos h1]
  · rw [if_neg h1, if_neg h1]
theorem pt_hear_62 (T : pt_T) (h7 : T 1 ≤ 7) (m l v : Nat) (hm : m < 8) : pt_hear (pt_up T 62 v) m l = pt_up (pt_hear T m l) 62 v := by
  have eo : ∀ a, pt_ord (pt_up T 62 v) a l = pt_ord T a l := fun a => pt_ord_eA (te_up (by omega)) h7 a l
  unfold pt_hear
  rw [tu_ne (by omega), tu_ne (by omega), tu_ne (by omega), tu_ne (by omega), tu_ne (by omega), eo]
  split
  · rfl
  · split
    · exact tu_comm (by omega)
    · split
      · rw [tu_comm (a := 62) (by omega), tu_comm (a := 62) (by omega)]
      · rw [tu_comm (a := 62) (by omega), tu_comm (a := 62) (by omega), tu_comm (a := 62) (by omega)]
theorem pt_hears_62 (T : pt_T) (h7 : T 1 ≤ 7) (s l v n : Nat) (hn : n ≤ 8) : pt_hears (pt_up T 62 v) s l n = pt_up (pt_hears T s l n) 62 v := by
  induction n with
  | zero => rfl
  | succ k ih =>
    unfold pt_hears
    rw [ih (by omega)]
    split
    · exact pt_hear_62 _ (by rw [te_hears _ _ _ _ 1 (by omega)]; exact h7) _ _ _ (by omega)
    · rfl
theorem pt_brow_up {T : pt_T} {k v m : Nat} (hk : 65 ≤ k ∨ (61 ≤ k ∧ k < 64)) (hm : m < 8) : pt_brow (pt_up T k v) m = pt_brow T m := by
  unfold pt_brow
  rw [tu_ne (by omega), tu_ne (by omega)]
theorem pt_brow_e {T U : pt_T} (e : pt_eA T U) (h : U 64 = T 64) {m : Nat} (hm : m < 8) : pt_brow U m = pt_brow T m := by
  unfold pt_brow
  rw [h, e (21 + m) (by omega)]
theorem pt_lift_64 (T : pt_T) (m l : Nat) : (pt_lift T m l) 64 = T 64 := by
  unfold pt_lift
  rw [tu_ne (by omega)]
  exact (pt_hears_61 _ _ _ _).2.2.2
theorem pt_readers_62 (T : pt_T) (h8 : T 0 ≤ 8) (v m : Nat) (hm : m < T 0) : pt_readers (pt_up T 62 v) m = pt_readers T m := by
  unfold pt_readers
  rw [tu_ne (by omega)]
  apply tz_congr
  intro j hj
  unfold pt_reads pt_sees pt_shown
  rw [pt_brow_up (by omega) (by omega)]
  simp (disch := omega) only [tu_ne]
theorem vs_62 {T : pt_T} (h8 : T 0 ≤ 8) (hS : pt_VS T) (v : Nat) : pt_VS (pt_up T 62 v) := vs_up62 hS h8
section PC2
variable {I : bm_TI} {T : pt_T}
theorem kc_orderOf (hP : pp_A I 4 T) (hA : pt_VA T) {a b : Nat} (ha : a ≤ 3) (hb : b ≤ 3) : f_X0_orderOf I 4 (nI a) (nI b) = some (pn_x (pt_ord T a b)) := by
  have h7 := hA.2.1
  have hp1 := hP.2.2.2.1
  unfold f_X0_orderOf pt_ord
  rw [pl_find (F := f_X0_orderOf_l2 I 4 (nI a) (nI b)) (n := T 1) (p := fun q => decide (T (39 + q) = a) && decide (T (46 + q) = b)) (by omega)]
  · simp only [Option.bind_some]
    by_cases h : pt_fnd (T 1) (fun q => decide (T (39 + q) = a) && decide (T (46 + q) = b)) = 0
    · rw [if_pos h, h]; rfl
    · rw [if_neg h, pn_xp (by omega)]
  · intro k
    rw [f_X0_orderOf_l2, hp1, if_pos (Int32.le_refl _)]
  · intro k j hj
    have ho := hA.2.2.2.2.2.2.2.2.2.2.2.2.1 j hj
    have hc := hP.2.2.2.2.2.2.2.2.1 j hj
    have hc1 : I 11 j = nI (T (39 + j)) := hc.1
    have hc2 : I 12 j = nI (T (46 + j)) := hc.2
    rw [f_X0_orderOf_l2]
    simp (disch := omega) only [pn_l0, pn_l1, pn_l2, pn_l3, pn_l4, pn_l5, pn_l6, pn_l7, pn_l8, pn_l9, pn_l10, pn_l11, pn_l12, pn_l13, pn_l15, pn_l20, pn_l21, pn_l22, pn_l23, pn_l24, pn_l30, pn_l31, pn_l32, pn_l39, pn_l40, pn_l41, pn_l45, pn_l46, pn_l48, pn_l53, pn_l57, pn_l58, pn_l59, pn_l60, pn_l61, pn_l62, pn_l63, pn_l64, pn_l65, pn_l66, pn_l74, pn_l82, pn_l90, pn_l97, pn_l98, pn_l99, pn_l106, pn_l107, pn_l120, pn_l122, pn_l135, pn_l255, pn_l287, pn_l300, pn_l315, pn_l360, pn_l400, pn_l900, pn_l940, pn_l1000, pn_l1000000, pn_mone, nI_add, pk_mul, nI_clamp, bm_ixk, pn_ltI, pn_leI, pn_eqI, pn_xeq, pn_xeq2, pn_xx, pn_xltI, pn_xleI, pn_xgtI, pn_xgeI, pn_xadd, pn_subx, pn_addx, Option.bind_some, ↓reduceIte, Nat.reduceAdd, hp1, hc1, hc2, Nat.not_le.mpr hj]
    by_cases h1 : T (39 + j) = a <;> by_cases h2 : T (46 + j) = b <;> simp [h1, h2]
theorem pn_b1N (b : Bool) : (nI b.toNat = nI 1) = (b = true) := pn_b1 b
theorem kc_hear (hP : pp_A I 4 T) (hQ : pp_S I 33 T) (hA : pt_VA T) (hS : pt_VS T) {m l : Nat} (hm : m < T 0) (hl : l ≤ 3) : ∃ I', f_X8_hear I (nI m) (nI l) = some I' ∧ pp_S I' 33 (pt_hear T m l) ∧ cf_r I I' := by
  have h8 := hA.1
  have h7 := hA.2.1
  have h29 : T 29 < 256 := pt_256 h8 hA.2.2.2.2.2.2.2.2.1
  have hM := hS.2.2.2.2 m hm
  have hle := tf_le (T 1) (fun q => decide (T (39 + q) = T (82 + m)) && decide (T (46 + q) = l))
  have hle : pt_ord T (T (82 + m)) l ≤ T 1 := hle
  have hq := kc_orderOf hP hA (a := T (82 + m)) (b := l) (by omega) hl
  have hMc := hQ.2.2.2.2.2 m hm
  have c3 : I 36 m = nI (T (82 + m)) := hMc.2.2.1
  have c4 : I 37 m = pn_x (T (90 + m)) := hMc.2.2.2.1
  have c5 : I 38 m = nI (T (98 + m)) := hMc.2.2.2.2
  have c9 : I 33 9 = nI (T 65) := hQ.2.2.1
  have hj11 := hP.2.1
  have hQ1 := ps_heard h8 hQ (m := m) (by omega) 0
  have e8 : (pt_up T (82 + m) 0) 0 ≤ 8 := by rw [tu_ne (by omega)]; exact h8
  unfold f_X8_hear pt_hear
  simp (disch := omega) only [pn_l0, pn_l1, pn_l2, pn_l3, pn_l4, pn_l5, pn_l6, pn_l7, pn_l8, pn_l9, pn_l10, pn_l11, pn_l12, pn_l13, pn_l15, pn_l20, pn_l21, pn_l22, pn_l23, pn_l24, pn_l30, pn_l31, pn_l32, pn_l39, pn_l40, pn_l41, pn_l45, pn_l46, pn_l48, pn_l53, pn_l57, pn_l58, pn_l59, pn_l60, pn_l61, pn_l62, pn_l63, pn_l64, pn_l65, pn_l66, pn_l74, pn_l82, pn_l90, pn_l97, pn_l98, pn_l99, pn_l106, pn_l107, pn_l120, pn_l122, pn_l135, pn_l255, pn_l287, pn_l300, pn_l315, pn_l360, pn_l400, pn_l900, pn_l940, pn_l1000, pn_l1000000, pn_mone, nI_add, pk_mul, nI_clamp, bm_ixk, pn_ltI, pn_leI, pn_eqI, pn_xeq, pn_xeq2, pn_xx, pn_xltI, pn_xleI, pn_xgtI, pn_xgeI, pn_xadd, pn_subx, pn_addx, Option.bind_some, ↓reduceIte, hj11, pn_bitX, pn_b1N, c3, c4, hq, pn_shlN]
  cases hj : (T 29).testBit m
  · simp only [Bool.false_and, Bool.false_eq_true, ↓reduceIte]
    by_cases h82 : T (82 + m) = 0
    · simp only [h82, ↓reduceIte]
      exact ⟨_, rfl, ps_heard h8 hQ (by omega) _, cf_up (by omega) (by omega)⟩
    · simp only [h82, ↓reduceIte]
      by_cases ho : pt_ord T (T (82 + m)) l = 0
      · simp (disch := omega) only [ho, ↓reduceIte, pn_uI_hit, pn_uI_ne, pn_uI_ne2, pn_yI_ne, c5, pn_l0, pn_l1, pn_l2, pn_l3, pn_l4, pn_l5, pn_l6, pn_l7, pn_l8, pn_l9, pn_l10, pn_l11, pn_l12, pn_l13, pn_l15, pn_l20, pn_l21, pn_l22, pn_l23, pn_l24, pn_l30, pn_l31, pn_l32, pn_l39, pn_l40, pn_l41, pn_l45, pn_l46, pn_l48, pn_l53, pn_l57, pn_l58, pn_l59, pn_l60, pn_l61, pn_l62, pn_l63, pn_l64, pn_l65, pn_l66, pn_l74, pn_l82, pn_l90, pn_l97, pn_l98, pn_l99, pn_l106, pn_l107, pn_l120, pn_l122, pn_l135, pn_l255, pn_l287, pn_l300, pn_l315, pn_l360, pn_l400, pn_l900, pn_l940, pn_l1000, pn_l1000000, pn_mone, nI_add, pk_mul, nI_clamp, bm_ixk, pn_ltI, pn_leI, pn_eqI, pn_xeq, pn_xeq2, pn_xx, pn_xltI, pn_xleI, pn_xgtI, pn_xgeI, pn_xadd, pn_subx, pn_addx, Option.bind_some, ↓reduceIte, kc_min]
        exact ⟨_, rfl, ps_lost e8 hQ1 (by omega) _, cf_trans (cf_up (by omega) (by omega)) (cf_up (by omega) (by omega))⟩
      · simp (disch := omega) only [ho, ↓reduceIte, pn_uI_hit, pn_uI_ne, pn_uI_ne2, pn_yI_ne, c9, pn_l0, pn_l1, pn_l2, pn_l3, pn_l4, pn_l5, pn_l6, pn_l7, pn_l8, pn_l9, pn_l10, pn_l11, pn_l12, pn_l13, pn_l15, pn_l20, pn_l21, pn_l22, pn_l23, pn_l24, pn_l30, pn_l31, pn_l32, pn_l39, pn_l40, pn_l41, pn_l45, pn_l46, pn_l48, pn_l53, pn_l57, pn_l58, pn_l59, pn_l60, pn_l61, pn_l62, pn_l63, pn_l64, pn_l65, pn_l66, pn_l74, pn_l82, pn_l90, pn_l97, pn_l98, pn_l99, pn_l106, pn_l107, pn_l120, pn_l122, pn_l135, pn_l255, pn_l287, pn_l300, pn_l315, pn_l360, pn_l400, pn_l900, pn_l940, pn_l1000, pn_l1000000, pn_mone, nI_add, pk_mul, nI_clamp, bm_ixk, pn_ltI, pn_leI, pn_eqI, pn_xeq, pn_xeq2, pn_xx, pn_xltI, pn_xleI, pn_xgtI, pn_xgeI, pn_xadd, pn_subx, pn_addx, Option.bind_some, ↓reduceIte, pn_or]
        have hQ2 := ps_order e8 hQ1 (m := m) (by omega) (pt_ord T (T (82 + m)) l)
        exact ⟨_, rfl, ps_pass (by rw [tu_ne (by omega)]; exact e8) hQ2 _, cf_trans (cf_up (by omega) (by omega)) (cf_trans (cf_up (by omega) (by omega)) (cf_up (by omega) (by omega)))⟩
  · simp only [Bool.true_and, ↓reduceIte, decide_eq_true_eq]
    by_cases h90 : T (90 + m) = 0
    · simp only [h90, Nat.lt_irrefl, ↓reduceIte]
      by_cases h82 : T (82 + m) = 0
      · simp only [h82, ↓reduceIte]
        exact ⟨_, rfl, ps_heard h8 hQ (by omega) _, cf_up (by omega) (by omega)⟩
      · simp only [h82, ↓reduceIte]
        by_cases ho : pt_ord T (T (82 + m)) l = 0
        · simp (disch := omega) only [ho, ↓reduceIte, pn_uI_hit, pn_uI_ne, pn_uI_ne2, pn_yI_ne, c5, pn_l0, pn_l1, pn_l2, pn_l3, pn_l4, pn_l5, pn_l6, pn_l7, pn_l8, pn_l9, pn_l10, pn_l11, pn_l12, pn_l13, pn_l15, pn_l20, pn_l21, pn_l22, pn_l23, pn_l24, pn_l30, pn_l31, pn_l32, pn_l39, pn_l40, pn_l41, pn_l45, pn_l46, pn_l48, pn_l53, pn_l57, pn_l58, pn_l59, pn_l60, pn_l61, pn_l62, pn_l63, pn_l64, pn_l65, pn_l66, pn_l74, pn_l82, pn_l90, pn_l97, pn_l98, pn_l99, pn_l106, pn_l107, pn_l120, pn_l122, pn_l135, pn_l255, pn_l287, pn_l300, pn_l315, pn_l360, pn_l400, pn_l900, pn_l940, pn_l1000, pn_l1000000, pn_mone, nI_add, pk_mul, nI_clamp, bm_ixk, pn_ltI, pn_leI, pn_eqI, pn_xeq, pn_xeq2, pn_xx, pn_xltI, pn_xleI, pn_xgtI, pn_xgeI, pn_xadd, pn_subx, pn_addx, Option.bind_some, ↓reduceIte, kc_min]
          exact ⟨_, rfl, ps_lost e8 hQ1 (by omega) _, cf_trans (cf_up (by omega) (by omega)) (cf_up (by omega) (by omega))⟩
        · simp (disch := omega) only [ho, ↓reduceIte, pn_uI_hit, pn_uI_ne, pn_uI_ne2, pn_yI_ne, c9, pn_l0, pn_l1, pn_l2, pn_l3, pn_l4, pn_l5, pn_l6, pn_l7, pn_l8, pn_l9, pn_l10, pn_l11, pn_l12, pn_l13, pn_l15, pn_l20, pn_l21, pn_l22, pn_l23, pn_l24, pn_l30, pn_l31, pn_l32, pn_l39, pn_l40, pn_l41, pn_l45, pn_l46, pn_l48, pn_l53, pn_l57, pn_l58, pn_l59, pn_l60, pn_l61, pn_l62, pn_l63, pn_l64, pn_l65, pn_l66, pn_l74, pn_l82, pn_l90, pn_l97, pn_l98, pn_l99, pn_l106, pn_l107, pn_l120, pn_l122, pn_l135, pn_l255, pn_l287, pn_l300, pn_l315, pn_l360, pn_l400, pn_l900, pn_l940, pn_l1000, pn_l1000000, pn_mone, nI_add, pk_mul, nI_clamp, bm_ixk, pn_ltI, pn_leI, pn_eqI, pn_xeq, pn_xeq2, pn_xx, pn_xltI, pn_xleI, pn_xgtI, pn_xgeI, pn_xadd, pn_subx, pn_addx, Option.bind_some, ↓reduceIte, pn_or]
          have hQ2 := ps_order e8 hQ1 (m := m) (by omega) (pt_ord T (T (82 + m)) l)
          exact ⟨_, rfl, ps_pass (by rw [tu_ne (by omega)]; exact e8) hQ2 _, cf_trans (cf_up (by omega) (by omega)) (cf_trans (cf_up (by omega) (by omega)) (cf_up (by omega) (by omega)))⟩
    · have hp : 0 < T (90 + m) := by omega
      simp only [h90, hp, ↓reduceIte]
      exact ⟨_, rfl, hQ, cf_refl _⟩
theorem kc_lift_l (hP : pp_A I 4 T) (hQ : pp_S I 33 T) (hA : pt_VA T) (hS : pt_VS T) {s l : Nat} (hs : s < 256) (hl : l ≤ 3) : ∃ I', f_X8_liftBy_l41 (nI l) (nI s) 1000 0 I = some I' ∧ pp_S I' 33 (pt_hears T s l (T 0)) ∧ cf_r I I' := by
  have h8 := hA.1
  refine pl_rel (F := f_X8_liftBy_l41 (nI l) (nI s)) (n := T 0) (fun j I' => pp_S I' 33 (pt_hears T s l j) ∧ cf_r I I') ?_ ?_ 1000 I (by omega) ⟨hQ, cf_refl I⟩
  · intro k I' ⟨h1, h2⟩
    refine ⟨I', ?_, h1, h2⟩
    rw [f_X8_liftBy_l41, h2 4 10 (by omega), hP.1, if_pos (Int32.le_refl _)]
  · intro k j I' hj ⟨h1, h2⟩
    have eA := te_hears T s l j
    rw [f_X8_liftBy_l41, h2 4 10 (by omega), hP.1, if_neg (nI_ge hj (by omega)), pn_bitX hs (by omega), nI_1, pt_hears]
    simp only [pn_b1]
    cases hb : s.testBit j
    · simp only [Bool.false_eq_true, ↓reduceIte]
      exact ⟨I', rfl, h1, h2⟩
    · simp only [↓reduceIte]
      obtain ⟨I2, e2, h3, h4⟩ := kc_hear (pa_VA eA hA (pa_fr h2 hP)) h1 (va_congr eA hA) (vs_hears hA hS (by omega) hl) (m := j) (by rw [eA 0 (by omega)]; exact hj) hl
      rw [e2]
      exact ⟨I2, rfl, h3, cf_trans h2 h4⟩
theorem kc_liftBy (hP : pp_A I 4 T) (hQ : pp_S I 33 T) (hA : pt_VA T) (hS : pt_VS T) {m l : Nat} (hm : m < T 0) (hl : l ≤ 3) (hb : pt_brow T m ≠ 0) : ∃ I', f_X8_liftBy I (nI m) (nI l) = some (0, I') ∧ pp_S I' 33 (pt_lift T m l) ∧ cf_r I I' := by
  have h8 := hA.1
  have hbl := pt_brow_le hA hm
  have c11 : I 33 11 = nI (T 62) := hQ.2.2.2.2.1
  have c15 : I 4 15 = nI (T 3) := hP.2.2.2.2.2.1
  have hQ1 := ps_lifts h8 hQ (T 62 + 1)
  have eA : pt_eA T (pt_up T 62 (T 62 + 1)) := te_up (by omega)
  have hP1 : pp_A (bm_uI I 33 11 (nI (T 62 + 1))) 4 (pt_up T 62 (T 62 + 1)) := pa_VA eA hA (pa_fr (cf_up (by omega) (by omega)) hP)
  have hA1 := va_congr eA hA
  have hS1 := vs_62 h8 hS (T 62 + 1)
  have hm1 : m < (pt_up T 62 (T 62 + 1)) 0 := by rw [tu_ne (by omega)]; exact hm
  have hr := kc_readers0 hP1 hQ1 hA1 hS1 hm1
  have er : pt_range (pt_up T 62 (T 62 + 1)) m = pt_brow T m * T 3 + 1 := by
    unfold pt_range
    rw [pt_brow_up (by omega) (by omega), if_neg hb, tu_ne (by omega)]
  rw [er, pn_xs, pt_readers_62 T h8 _ _ hm] at hr
  obtain ⟨I2, e2, q2, f2⟩ := kc_lift_l hP1 hQ1 hA1 hS1 (s := pt_readers T m) (tz_256 h8) hl
  rw [tu_ne (by omega), pt_hears_62 T hA.2.1 _ _ _ _ h8] at q2
  unfold f_X8_liftBy
  rw [kc_brow hP hQ hA hS hm]
  simp (disch := omega) only [pn_l0, pn_l1, pn_l2, pn_l3, pn_l4, pn_l5, pn_l6, pn_l7, pn_l8, pn_l9, pn_l10, pn_l11, pn_l12, pn_l13, pn_l15, pn_l20, pn_l21, pn_l22, pn_l23, pn_l24, pn_l30, pn_l31, pn_l32, pn_l39, pn_l40, pn_l41, pn_l45, pn_l46, pn_l48, pn_l53, pn_l57, pn_l58, pn_l59, pn_l60, pn_l61, pn_l62, pn_l63, pn_l64, pn_l65, pn_l66, pn_l74, pn_l82, pn_l90, pn_l97, pn_l98, pn_l99, pn_l106, pn_l107, pn_l120, pn_l122, pn_l135, pn_l255, pn_l287, pn_l300, pn_l315, pn_l360, pn_l400, pn_l900, pn_l940, pn_l1000, pn_l1000000, pn_mone, nI_add, pk_mul, nI_clamp, bm_ixk, pn_ltI, pn_leI, pn_eqI, pn_xeq, pn_xeq2, pn_xx, pn_xltI, pn_xleI, pn_xgtI, pn_xgeI, pn_xadd, pn_subx, pn_addx, Option.bind_some, ↓reduceIte, pn_uI_hit, pn_uI_ne, pn_uI_ne2, pn_yI_ne, hb, c11, c15, hr]
  rw [show (nI 0 : Int32) = 0 from rfl, e2]
  exact ⟨I2, rfl, q2, cf_trans (cf_up (by omega) (by omega)) f2⟩
theorem kc_liftBy0 (hP : pp_A I 4 T) (hQ : pp_S I 33 T) (hA : pt_VA T) (hS : pt_VS T) {m : Nat} (l : Int32) (hm : m < T 0) (hb : pt_brow T m = 0) : f_X8_liftBy I (nI m) l = some (1, I) := by
  unfold f_X8_liftBy
  rw [kc_brow hP hQ hA hS hm, hb]
  rfl
theorem kc_giveBy (hP : pp_A I 4 T) (hQ : pp_S I 33 T) (hA : pt_VA T) (hS : pt_VS T) {m o : Nat} (hm : m < T 0) (ho : o < T 1) (hb : pt_brow T m ≠ 0) : ∃ I', f_X8_giveBy I (nI m) (nI o) = some (0, I') ∧ pp_S I' 33 (pt_give T m o) ∧ cf_r I I' := by
  have h7 := hA.2.1
  have h8 := hA.1
  have hO := hA.2.2.2.2.2.2.2.2.2.2.2.2.1 o ho
  have hc := hP.2.2.2.2.2.2.2.2.1 o ho
  have hc1 : I 11 o = nI (T (39 + o)) := hc.1
  have hc2 : I 12 o = nI (T (46 + o)) := hc.2
  have eA := te_lift T m (T (39 + o))
  obtain ⟨I1, e1, q1, f1⟩ := kc_liftBy hP hQ hA hS hm (l := T (39 + o)) (by omega) hb
  have hb1 : pt_brow (pt_lift T m (T (39 + o))) m ≠ 0 := by rw [pt_brow_e eA (pt_lift_64 _ _ _) (by omega)]; exact hb
  obtain ⟨I2, e2, q2, f2⟩ := kc_liftBy (pa_VA eA hA (pa_fr f1 hP)) q1 (va_congr eA hA) (vs_lift hA hS (by omega)) (m := m) (by rw [eA 0 (by omega)]; exact hm) (l := T (46 + o)) (by omega) hb1
  have f12 : I1 12 o = nI (T (46 + o)) := by rw [f1 12 o (by omega)]; exact hc2
  unfold f_X8_giveBy
  rw [if_pos (bm_ixk (by omega) (by omega)), nI_clamp (by omega), hc1, e1]
  simp only [Option.bind_some, ↓reduceIte]
  rw [f12, e2]
  exact ⟨I2, rfl, q2, cf_trans f1 f2⟩
theorem kc_giveBy0 (hP : pp_A I 4 T) (hQ : pp_S I 33 T) (hA : pt_VA T) (hS : pt_VS T) {m o : Nat} (hm : m < T 0) (ho : o < T 1) (hb : pt_brow T m = 0) : f_X8_giveBy I (nI m) (nI o) = some (1, I) := by
  have h7 := hA.2.1
  unfold f_X8_giveBy
  rw [if_pos (bm_ixk (by omega) (by omega)), kc_liftBy0 hP hQ hA hS _ hm hb]
  rfl
theorem kc_pass_l (hP : pp_A I 4 T) (hQ : pp_S I 33 T) (hA : pt_VA T) (hS : pt_VS T) {s : Nat} (hs : s < 256) {Q : Nat → Nat} (hQ1 : ∀ k, k < T 0 → Q k ≤ T 1) (hI : ∀ j, j < T 0 → I 39 j = pn_x (Q j)) (x2 x3 : Int32) : ∃ I', f_X8_passHours_l49 x2 x3 (nI s) 1000 0 I = some I' ∧ pp_S I' 33 (pt_pass (fun m => if s.testBit m = true then Q m else 0) T (T 0)) ∧ cf_r I I' := by
  have h8 := hA.1
  have h7 := hA.2.1
  have hP0 : ∀ k, k < T 0 → (fun m => if s.testBit m = true then Q m else 0) k ≤ T 1 := fun k hk => by
    show (if s.testBit k = true then Q k else 0) ≤ T 1
    have := hQ1 k hk
    split <;> omega
  refine pl_rel (F := f_X8_passHours_l49 x2 x3 (nI s)) (n := T 0) (fun j I' => pp_S I' 33 (pt_pass (fun m => if s.testBit m = true then Q m else 0) T j) ∧ cf_r I I') ?_ ?_ 1000 I (by omega) ⟨hQ, cf_refl I⟩
  · intro k I' ⟨h1, h2⟩
    refine ⟨I', ?_, h1, h2⟩
    rw [f_X8_passHours_l49, h2 4 10 (by omega), hP.1, if_pos (Int32.le_refl _)]
  · intro k j I' hj ⟨h1, h2⟩
    have eA := te_pass (fun m => if s.testBit m = true then Q m else 0) T j
    have hj' : j < (pt_pass (fun m => if s.testBit m = true then Q m else 0) T j) 0 := by rw [eA 0 (by omega)]; exact hj
    have hVA := va_congr eA hA
    have hVS := vs_pass hA hS (P := fun m => if s.testBit m = true then Q m else 0) (n := j) (fun q hq => hP0 q (by omega)) (by omega)
    have hPj := pa_VA eA hA (pa_fr h2 hP)
    have hqj := hQ1 j hj
    rw [f_X8_passHours_l49, h2 4 10 (by omega), hP.1, if_neg (nI_ge hj (by omega)), pn_bitX hs (by omega), nI_1, if_pos (bm_ixk (by omega) (by omega)), nI_clamp (by omega), h2 39 j (by omega), hI j hj, pt_pass]
    simp only [pn_b1]
    cases hb : s.testBit j
    · simp only [Bool.false_eq_true, ↓reduceIte]
      exact ⟨I', rfl, h1, h2⟩
    · simp (disch := omega) only [pn_l0, pn_l1, pn_l2, pn_l3, pn_l4, pn_l5, pn_l6, pn_l7, pn_l8, pn_l9, pn_l10, pn_l11, pn_l12, pn_l13, pn_l15, pn_l20, pn_l21, pn_l22, pn_l23, pn_l24, pn_l30, pn_l31, pn_l32, pn_l39, pn_l40, pn_l41, pn_l45, pn_l46, pn_l48, pn_l53, pn_l57, pn_l58, pn_l59, pn_l60, pn_l61, pn_l62, pn_l63, pn_l64, pn_l65, pn_l66, pn_l74, pn_l82, pn_l90, pn_l97, pn_l98, pn_l99, pn_l106, pn_l107, pn_l120, pn_l122, pn_l135, pn_l255, pn_l287, pn_l300, pn_l315, pn_l360, pn_l400, pn_l900, pn_l940, pn_l1000, pn_l1000000, pn_mone, nI_add, pk_mul, nI_clamp, bm_ixk, pn_ltI, pn_leI, pn_eqI, pn_xeq, pn_xeq2, pn_xx, pn_xltI, pn_xleI, pn_xgtI, pn_xgeI, pn_xadd, pn_subx, pn_addx, Option.bind_some, ↓reduceIte]
      by_cases hp : Q j = 0
      · simp only [hp, ↓reduceIte]
        exact ⟨I', rfl, h1, h2⟩
      · simp only [hp, ↓reduceIte]
        rw [pn_xp (by omega)]
        by_cases hbr : pt_brow (pt_pass (fun m => if s.testBit m = true then Q m else 0) T j) j = 0
        · rw [kc_giveBy0 hPj h1 hVA hVS hj' (by rw [eA 1 (by omega)]; omega) hbr]
          simp only [hbr, ↓reduceIte, Option.bind_some]
          exact ⟨I', rfl, h1, h2⟩
        · obtain ⟨I2, e2, q2, f2⟩ := kc_giveBy hPj h1 hVA hVS hj' (o := Q j - 1) (by rw [eA 1 (by omega)]; omega) hbr
          rw [e2]
          simp only [hbr, ↓reduceIte, Option.bind_some]
          exact ⟨I2, rfl, q2, cf_trans h2 f2⟩
/-- the trial and what it keeps of the orders -/
def cf_h (I I' : bm_TI) : Prop := ∀ o k, (o < 33 ∨ 39 < o ∨ (o = 33 ∧ 12 ≤ k)) → I' o k = I o k
theorem ch_refl (I : bm_TI) : cf_h I I := fun _ _ _ => rfl
theorem ch_of {I I' : bm_TI} (h : cf_r I I') : cf_h I I' := fun o k a => h o k (by omega)
theorem ch_trans {I I1 I2 : bm_TI} (h1 : cf_h I I1) (h2 : cf_h I1 I2) : cf_h I I2 := fun o k a => (h2 o k a).trans (h1 o k a)
theorem pa_fh {I I' : bm_TI} {T : pt_T} (h : cf_h I I') (hP : pp_A I 4 T) : pp_A I' 4 T := pa_congr (fun o k _ _ => h o k (by omega)) hP
theorem kc_hour1 (hP : pp_A I 4 T) (hQ : pp_S I 33 T) (hA : pt_VA T) (hS : pt_VS T) (h : T 61 < 400) (x2 x3 : Int32) : ∃ I3, f_X8_passHours_l49 x2 x3 (I 33 9) 1000 0 (bm_uI (bm_yI I 37 39 0 0 8) 33 9 0) = some I3 ∧ I3 33 10 = nI (T 61) ∧ I3 4 16 = nI (T 4) ∧ cf_h I I3 ∧ ((T 61 + 1) % T 4 = 0 → pp_S (bm_uI (bm_uI I3 33 10 (nI (T 61 + 1))) 33 8 (nI 0)) 33 (pt_hour T)) ∧ (¬ (T 61 + 1) % T 4 = 0 → pp_S (bm_uI I3 33 10 (nI (T 61 + 1))) 33 (pt_hour T)) := by
  have h8 := hA.1
  have h65 : T 65 < 256 := pt_256 h8 hS.2.2.2.1
  have eA : pt_eA T (pt_up T 65 0) := te_up (by omega)
  have e0 := eA 0 (by omega)
  have c9 : I 33 9 = nI (T 65) := hQ.2.2.1
  have hQ0 : pp_S (bm_yI I 37 39 0 0 8) 33 T := ps_congr (fun k => pn_yI_ne (by omega)) (fun c k _ _ => pn_yI_ne (by omega)) hQ
  have hQ1 := ps_pass h8 hQ0 0
  have f0 : cf_h I (bm_uI (bm_yI I 37 39 0 0 8) 33 9 (nI 0)) := fun o k a => by rw [pn_uI_off (by omega), pn_yI_ne (by omega)]
  obtain ⟨I3, e3, q3, f3⟩ := kc_pass_l (pa_VA eA hA (pa_fh f0 hP)) hQ1 (va_congr eA hA) (vs_up65 hS h8) h65 (Q := fun j => T (90 + j)) (fun k hk => by rw [eA 1 (by omega)]; exact (hS.2.2.2.2 k (by omega)).2.2.2.1) (fun j hj => by rw [pn_uI_ne (by omega), pn_yI_at (by omega)]; exact (hQ.2.2.2.2.2 j (by omega)).2.2.2.1) x2 x3
  rw [e0] at q3
  have eP : (fun m => if (T 65).testBit m = true then (fun j => T (90 + j)) m else 0) = pt_plan T := rfl
  rw [eP] at q3
  have eB := te_pass (pt_plan T) (pt_up T 65 0) (T 0)
  have q61 : I3 33 10 = nI (T 61) := by rw [q3.2.2.2.1, pt_pass_61, tu_ne (by omega)]
  have ff : cf_h I I3 := ch_trans f0 (ch_of f3)
  have q416 : I3 4 16 = nI (T 4) := by rw [ff 4 16 (by omega)]; exact hP.2.2.2.2.2.2.1
  have h08 : (pt_pass (pt_plan T) (pt_up T 65 0) (T 0)) 0 ≤ 8 := by rw [eB 0 (by omega), e0]; exact h8
  have hQ4 := ps_hour h08 q3 (T 61 + 1)
  have hu : pt_hour T = if (T 61 + 1) % T 4 = 0 then pt_up (pt_up (pt_pass (pt_plan T) (pt_up T 65 0) (T 0)) 61 (T 61 + 1)) 64 0 else pt_up (pt_pass (pt_plan T) (pt_up T 65 0) (T 0)) 61 (T 61 + 1) := by
    unfold pt_hour pt_rain
    rw [pt_pass_61, tu_ne (by omega), eB 4 (by omega), eA 4 (by omega)]
  refine ⟨I3, ?_, q61, q416, ff, fun hr => ?_, fun hr => ?_⟩
  · rw [c9]; exact e3
  · rw [hu, if_pos hr]
    exact ps_sooted (by rw [tu_ne (by omega)]; exact h08) hQ4 0
  · rw [hu, if_neg hr]
    exact hQ4
theorem kc_passHours (hP : pp_A I 4 T) (hQ : pp_S I 33 T) (hA : pt_VA T) (hS : pt_VS T) {n : Nat} (hn : n ≤ 60) : ∃ I', f_X8_passHours I (nI n) = some (nI (min n (400 - T 61)), I') ∧ pp_S I' 33 (pt_hrs T (min n (400 - T 61))) ∧ cf_h I I' := by
  have h1 := hS.1
  have h4 := hA.2.2.2.2.2.1
  have h4' := hA.2.2.2.2.2.2.1
  have c10 : I 33 10 = nI (T 61) := hQ.2.2.2.1
  have hg : bm_min (nI n) (400 - I 33 10) = nI (min n (400 - T 61)) := by
    rw [c10, pn_l400, pk_sub h1, kc_min (by omega) (by omega)]
  have key : ∃ I', f_X8_passHours_l15 (nI (min n (400 - T 61))) 1000 0 I = some I' ∧ (pp_S I' 33 (pt_hrs T (min n (400 - T 61))) ∧ cf_h I I') := by
    refine pl_rel (F := f_X8_passHours_l15 (nI (min n (400 - T 61)))) (n := min n (400 - T 61)) (fun j I' => pp_S I' 33 (pt_hrs T j) ∧ cf_h I I') ?_ ?_ 1000 I (by omega) ⟨hQ, ch_refl I⟩
    · intro k I' ⟨a1, a2⟩
      refine ⟨I', ?_, a1, a2⟩
      rw [f_X8_passHours_l15, if_pos (Int32.le_refl _)]
    · intro k j I' hj ⟨a1, a2⟩
      have eA := te_hrs T j
      have h61 := pt_hrs_61 T j
      have e4 := eA 4 (by omega)
      obtain ⟨I3, e3, q61, q416, ff, qa, qb⟩ := kc_hour1 (pa_VA eA hA (pa_fh a2 hP)) a1 (va_congr eA hA) (vs_hrs hA hS (by omega)) (by omega) (nI (min n (400 - T 61))) (nI j)
      rw [h61] at q61 qa qb
      rw [e4] at q416 qa qb
      have hm : (T 61 + j + 1) % T 4 < T 4 := Nat.mod_lt _ (by omega)
      have g1 : ¬ min n (400 - T 61) ≤ j := by omega
      have g2 : ¬ T 4 ≤ 0 := by omega
      have g3 : ¬ T 4 = 0 := by omega
      rw [f_X8_passHours_l15, e3]
      simp (disch := omega) only [pn_l0, pn_l1, pn_l2, pn_l3, pn_l4, pn_l5, pn_l6, pn_l7, pn_l8, pn_l9, pn_l10, pn_l11, pn_l12, pn_l13, pn_l15, pn_l20, pn_l21, pn_l22, pn_l23, pn_l24, pn_l30, pn_l31, pn_l32, pn_l39, pn_l40, pn_l41, pn_l45, pn_l46, pn_l48, pn_l53, pn_l57, pn_l58, pn_l59, pn_l60, pn_l61, pn_l62, pn_l63, pn_l64, pn_l65, pn_l66, pn_l74, pn_l82, pn_l90, pn_l97, pn_l98, pn_l99, pn_l106, pn_l107, pn_l120, pn_l122, pn_l135, pn_l255, pn_l287, pn_l300, pn_l315, pn_l360, pn_l400, pn_l900, pn_l940, pn_l1000, pn_l1000000, pn_mone, nI_add, pk_mul, nI_clamp, bm_ixk, pn_ltI, pn_leI, pn_eqI, pn_xeq, pn_xeq2, pn_xx, pn_xltI, pn_xleI, pn_xgtI, pn_xgeI, pn_xadd, pn_subx, pn_addx, Option.bind_some, ↓reduceIte, pn_uI_hit, pn_uI_ne, pn_uI_ne2, pn_yI_ne, q61, q416, pn_rem, g1, g2, g3, not_false_eq_true]
      by_cases hr : (T 61 + j + 1) % T 4 = 0
      · simp only [hr, ↓reduceIte]
        exact ⟨_, rfl, qa hr, fun o k a => by rw [pn_uI_off (by omega), pn_uI_off (by omega), ff o k a]; exact a2 o k a⟩
      · simp only [hr, ↓reduceIte]
        exact ⟨_, rfl, qb hr, fun o k a => by rw [pn_uI_off (by omega), ff o k a]; exact a2 o k a⟩
  obtain ⟨I', e, q, f⟩ := key
  refine ⟨I', ?_, q, f⟩
  unfold f_X8_passHours
  rw [hg, e]
  rfl
end PC2
