/-! army, both -/
theorem pb_eA (T : pt_T) : pt_eA T (pt_beg T) := fun k hk => by unfold pt_beg; rw [if_pos hk]
theorem cl_end {c : zc_C} {T : pt_T} (hC : ar_C c T) (h15 : c.1 15 15 = nI (T 3)) (h16 : c.1 15 16 = nI (T 4)) (hV : ar_V T) {v : Int32} : ∃ I1 J1, ((f_X0_copyFrom (bm_uI (bm_uI c.1 1 1 0) 0 13 0) c.2.1 4 15).bind fun v5 => ((f_X8_begin v5.1).bind fun v7 => ((f_X7_forget v7 151).bind fun v9 => ((f_X4_forget v9).bind fun v11 => some (v, v11, v5.2, c.2.2))))) = some (v, I1, J1, c.2.2) ∧ pp_A I1 4 (pt_beg T) ∧ pp_S I1 26 (pt_beg T) ∧ I1 151 4 = 0 ∧ I1 151 5 = 0 ∧ I1 40 2 = 0 ∧ I1 1 1 = 0 ∧ I1 0 13 = 0 ∧ (∀ o k, (o < 4 ∨ 14 < o) → (o < 26 ∨ 31 < o) → ¬ (o = 1 ∧ k = 1) → ¬ (o = 0 ∧ k = 13) → ¬ (o = 151 ∧ (k = 4 ∨ k = 5)) → ¬ (o = 40 ∧ k = 2) → I1 o k = c.1 o k) ∧ (∀ j, j < 8 → J1 5 j = c.2.1 16 j) ∧ (∀ j, j < 7 → J1 10 j = c.2.1 21 j) ∧ ∀ o k, (o < 4 ∨ 14 < o) → J1 o k = c.2.1 o k := by
  have hA := hV.1
  have h8 := hA.1
  obtain ⟨c1, c2, c3, c4, c5, c6, c7, c8⟩ := hC
  generalize hX : bm_uI (bm_uI c.1 1 1 0) 0 13 0 = X
  have xf : ∀ o k, ¬ (o = 1 ∧ k = 1) → ¬ (o = 0 ∧ k = 13) → X o k = c.1 o k := fun o k h1 h2 => by rw [← hX, pn_uI_off (by omega), pn_uI_off (by omega)]
  have x11 : X 1 1 = 0 := by rw [← hX, pn_uI_ne (by omega), pn_uI_hit rfl]
  have x13 : X 0 13 = 0 := by rw [← hX, pn_uI_hit rfl]
  have xA : pp_A X 15 T := by
    refine ⟨?_, ?_, ?_, ?_, ?_, ?_, ?_, fun j hj => ?_, fun j hj => ?_, fun j hj => ?_⟩
    · rw [xf _ _ (by omega) (by omega)]; exact c1
    · rw [xf _ _ (by omega) (by omega)]; exact c2
    · rw [xf _ _ (by omega) (by omega)]; exact c3
    · rw [xf _ _ (by omega) (by omega)]; exact c4
    · rw [xf _ _ (by omega) (by omega)]; exact c5
    · rw [xf _ _ (by omega) (by omega)]; exact h15
    · rw [xf _ _ (by omega) (by omega)]; exact h16
    · rw [xf _ _ (by omega) (by omega), xf _ _ (by omega) (by omega)]; exact ⟨(c6 j hj).2.2.1, (c6 j hj).2.2.2⟩
    · rw [xf _ _ (by omega) (by omega), xf _ _ (by omega) (by omega)]; exact c7 j hj
    · rw [xf _ _ (by omega) (by omega), xf _ _ (by omega) (by omega)]; exact c8 j hj
  obtain ⟨A, J1, e1, a1, a2, a3, a4, a5⟩ := kc_copyA (J := c.2.1) (a := 4) (b := 15) (by omega) hA xA
  have axy : ∀ j, j < 8 → A 6 j = c.1 17 j ∧ A 7 j = c.1 18 j := fun j hj => by
    have e2 := e1
    unfold f_X0_copyFrom at e2
    injection e2 with e2
    have e3 := congrArg Prod.fst e2
    simp only [] at e3
    rw [← e3]
    constructor
    · simp (disch := omega) only [pn_uI_hit, pn_uI_ne, pn_uI_ne2, pn_yI_ne, pn_yI_at]; exact xf 17 j (by omega) (by omega)
    · simp (disch := omega) only [pn_uI_hit, pn_uI_ne, pn_uI_ne2, pn_yI_ne, pn_yI_at]; exact xf 18 j (by omega) (by omega)
  rw [e1]
  simp only [Option.bind_some]
  obtain ⟨C, e2, b1, b2, b3⟩ := kc_begin26 (I0 := A) (m := T 0) h8 a1.1
  rw [e2]
  unfold f_X7_forget f_X4_forget
  simp only [Option.bind_some]
  have f : ∀ o k, ¬ (o = 151 ∧ (k = 4 ∨ k = 5)) → ¬ (o = 40 ∧ k = 2) → bm_uI (bm_uI (bm_uI C 151 5 0) 151 4 0) 40 2 0 o k = C o k := fun o k h1 h2 => by rw [pn_uI_off (by omega), pn_uI_off (by omega), pn_uI_off (by omega)]
  have pb : ∀ k, k < 61 → pt_beg T k = T k := fun k hk => by unfold pt_beg; rw [if_pos hk]
  refine ⟨_, _, rfl, ?_, ⟨?_, ?_, ?_, ?_, ?_, fun j hj => ?_⟩, ?_, ?_, ?_, ?_, ?_, fun o k h1 h2 h3 h4 h5 h6 => ?_, a2, a3, a5⟩
  · refine pa_VA (pb_eA T) hA (pa_congr' (fun o k h1 h2 => ?_) a1)
    rw [f o k (by omega) (by omega)]; exact b3 o k (by omega)
  · rw [f _ _ (by omega) (by omega)]; unfold pt_beg; exact b2.1
  · rw [f _ _ (by omega) (by omega)]; unfold pt_beg; exact b2.2.1
  · rw [f _ _ (by omega) (by omega)]; unfold pt_beg; exact b2.2.2.1
  · rw [f _ _ (by omega) (by omega)]; unfold pt_beg; exact b2.2.2.2.1
  · rw [f _ _ (by omega) (by omega)]; unfold pt_beg; exact b2.2.2.2.2
  · rw [pb 0 (by omega)] at hj
    rw [f _ _ (by omega) (by omega), f _ _ (by omega) (by omega), f _ _ (by omega) (by omega), f _ _ (by omega) (by omega), f _ _ (by omega) (by omega)]
    obtain ⟨q1, q2, q3, q4, q5⟩ := b1 j hj
    have u1 : pt_beg T (66 + j) = T (5 + j) := by unfold pt_beg; rw [if_neg (by omega), if_pos (by omega), show 66 + j - 61 = 5 + j by omega]
    have u2 : pt_beg T (74 + j) = T (13 + j) := by unfold pt_beg; rw [if_neg (by omega), if_neg (by omega), if_pos (by omega), show 74 + j - 61 = 13 + j by omega]
    have u3 : ∀ b, 82 ≤ b → pt_beg T (b + j) = 0 := fun b hb => by unfold pt_beg; rw [if_neg (by omega), if_neg (by omega), if_neg (by omega)]
    rw [u1, u2, u3 82 (by omega), u3 90 (by omega), u3 98 (by omega)]
    exact ⟨q1.trans ((axy j (by omega)).1.trans (c6 j hj).1), q2.trans ((axy j (by omega)).2.trans (c6 j hj).2.1), q3, q4, q5⟩
  · rw [pn_uI_ne (by omega), pn_uI_hit rfl]
  · rw [pn_uI_ne (by omega), pn_uI_ne2 (by omega), pn_uI_hit rfl]
  · exact pn_uI_hit rfl
  · rw [f _ _ (by omega) (by omega), b3 1 1 (by omega), a4 1 1 (by omega)]; exact x11
  · rw [f _ _ (by omega) (by omega), b3 0 13 (by omega), a4 0 13 (by omega)]; exact x13
  · rw [f o k h5 h6, b3 o k h2, a4 o k h1]; exact xf o k h3 h4
theorem pb_VS {T : pt_T} (hV : ar_V T) : pt_VS (pt_beg T) := by
  have h8 := hV.1.1
  have pb : ∀ k, k < 61 → pt_beg T k = T k := fun k hk => by unfold pt_beg; rw [if_pos hk]
  have p0 : pt_beg T 61 = 0 ∧ pt_beg T 63 = 0 ∧ pt_beg T 64 = 0 ∧ pt_beg T 65 = 0 := ⟨rfl, rfl, rfl, rfl⟩
  unfold pt_VS
  rw [p0.1, p0.2.1, p0.2.2.1, p0.2.2.2, pb 0 (by omega), pb 1 (by omega)]
  refine ⟨by omega, Nat.pow_pos (by omega), Nat.pow_pos (by omega), Nat.pow_pos (by omega), fun j hj => ?_⟩
  have u1 : pt_beg T (66 + j) = T (5 + j) := by unfold pt_beg; rw [if_neg (by omega), if_pos (by omega), show 66 + j - 61 = 5 + j by omega]
  have u2 : pt_beg T (74 + j) = T (13 + j) := by unfold pt_beg; rw [if_neg (by omega), if_neg (by omega), if_pos (by omega), show 74 + j - 61 = 13 + j by omega]
  have u3 : ∀ b, 82 ≤ b → pt_beg T (b + j) = 0 := fun b hb => by unfold pt_beg; rw [if_neg (by omega), if_neg (by omega), if_neg (by omega)]
  rw [u1, u2, u3 82 (by omega), u3 90 (by omega), u3 98 (by omega)]
  exact ⟨(hV.2.1 j hj).1, (hV.2.1 j hj).2, by omega, by omega, by omega⟩
