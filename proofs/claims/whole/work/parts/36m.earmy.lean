/-! army -/
theorem iM_fault {I I' : bm_TI} (hM : iv_M I) (h0 : I' 0 13 = I' 164 15) (h : ∀ o k, (o = 0 ∧ 14 ≤ k) ∨ o = 161 ∨ o = 162 ∨ o = 163 ∨ o = 174 ∨ (o = 147 ∧ 4 ≤ k) ∨ o = 175 ∨ (o = 164 ∧ ((25 ≤ k ∧ k ≤ 30) ∨ k = 32 ∨ k = 36)) → I' o k = I o k) : iv_M I' := by
  obtain ⟨h1, h2, h3, h4, h5, h6, h7, r, h8, h9, h10, h11⟩ := hM
  refine ⟨h0, ?_, ?_, ?_, ?_, ?_, ?_, r, h8, ?_, ?_, fun k hk => ?_⟩
  · rw [h 0 14 (by omega), h 164 25 (by omega)]; exact h2
  · rw [h 0 15 (by omega), h 164 26 (by omega)]; exact h3
  · rw [h 161 0 (by omega), h 164 27 (by omega)]; exact h4
  · rw [h 161 1 (by omega), h 164 28 (by omega)]; exact h5
  · rw [h 164 30 (by omega), h 0 16 (by omega), h 164 29 (by omega)]; exact h6
  · rw [h 164 36 (by omega)]
    rcases h7 with ⟨a, b⟩ | ⟨a, b⟩
    · exact Or.inl ⟨a, fun i hi => by rw [h 147 _ (by omega)]; exact b i hi⟩
    · exact Or.inr ⟨a, fun i hi => by rw [h 147 _ (by omega), h 175 _ (by omega)]; exact b i hi⟩
  · rw [h 162 1 (by omega)]; exact h9
  · rw [h 164 32 (by omega)]; exact h10
  · rw [h 163 k (by omega), h 174 k (by omega)]; exact h11 k hk
theorem e_army {I : bm_TI} {J : bm_TJ} {W : bm_TR} (hI : bm_Inv I J W) : ∃ v I1 J1 W1 I2 J2, f_X11_army I J W = some (v, I1, J1, W1) ∧ f_X12_army I1 J1 = some (v, I2, J2) ∧ bm_Inv I2 J2 W1 := by
  obtain ⟨T0, S0, hF, hU, hG0, hG1, ⟨n, B, hn, t1, t2, t3⟩, hM, hK⟩ := hI
  have hB : ∀ k, k < n → B k < 256 ∧ I 2 k = nI (B k) := fun k hk => ⟨(t3 k hk).1, (t3 k hk).2.1⟩
  have rB : ∀ k, k < n → I 165 k &&& 255 = nI (B k) := fun k hk => (t3 k hk).2.2
  rcases pa_read (J := J) (W := W) (r := (I, J)) hn t1 hB t2 rB hK with ⟨c, _, L, T, e, _, hL, c39, _, _, _, hC, h15, h16, _, hV, gc, _⟩ | ⟨c, _, v, e, _, zf, gc, _⟩
  · obtain ⟨I1, J1, e1, _, _, _, _, _, _, _, f1, _, _, fj1⟩ := cl_end hC h15 h16 hV (v := nI L)
    have g1 : ∀ o k, o ≠ 3 → (o < 4 ∨ 31 < o) → ¬ (o = 1 ∧ k = 1) → ¬ (o = 0 ∧ k = 13) → ¬ (o = 151 ∧ (k = 4 ∨ k = 5)) → ¬ (o = 40 ∧ k = 2) → I1 o k = I o k := fun o k h0 h1 h2 h3 h4 h5 => (f1 o k (by omega) (by omega) h2 h3 h4 h5).trans (gc.1 o k h0 (by omega))
    have gj1 : ∀ o k, o ≠ 3 → (o < 4 ∨ 21 < o) → J1 o k = J o k := fun o k h0 h1 => (fj1 o k (by omega)).trans (gc.2.1 o k h0 (by omega) (by omega))
    have ec : f_X11_army I J W = some (nI L, I1, J1, c.2.2) := by
      obtain ⟨v1, b1, b2⟩ := Option.bind_eq_some_iff.mp e
      have x39 : bm_uI c.1 1 1 0 3 9 = 0 := by rw [pn_uI_ne (by omega)]; exact c39
      unfold f_X11_army
      rw [b1]
      simp only [Option.bind_some]
      rw [b2]
      simp only [Option.bind_some]
      rw [x39, pn_uI_hit rfl, if_pos rfl]
      exact e1
    rcases pa_read (I := I) (J := J) (W := W) (r := (I1, J1)) hn t1 hB (by dsimp only; rw [g1 164 2 (by omega) (by omega) (by omega) (by omega) (by omega) (by omega)]; exact t2) (fun k hk => by dsimp only; rw [g1 165 k (by omega) (by omega) (by omega) (by omega) (by omega) (by omega)]; exact rB k hk) (fun k hk => by dsimp only; rw [gj1 170 k (by omega) (by omega)]; exact hK k hk) with ⟨c2, r2, L2, T2, e2, d2, _, _, r15, r19, rR, hC2, h152, h162, hN, hV2, gc2, gr2⟩ | ⟨c2, r2, v2, e2, d2, zf2, gc2, gr2⟩
    · rw [e] at e2
      injection e2 with e2
      injection e2 with eL ecc
      subst ecc
      obtain ⟨I1', J1', e1', pA, pS, q4, q5, q40, q11, q13, _, j5, j10, _⟩ := cl_end hC2 h152 h162 hV2 (v := nI L)
      rw [e1] at e1'
      injection e1' with e1'
      injection e1' with _ e1'
      injection e1' with eI e1'
      injection e1' with eJ _
      subst eI
      subst eJ
      obtain ⟨I2, J2, e3, row, r106, r24, fr, jr, jf⟩ := rf_end (r := r2) rR
      have g2 : ∀ o k, o ≠ 166 → o ≠ 167 → (o ≠ 164 ∨ k = 1 ∨ (5 < k ∧ k < 11) ∨ k = 17 ∨ (20 < k ∧ k ≠ 24)) → I2 o k = I1 o k := fun o k h1 h2 h3 => (fr o k h1 (by omega)).trans (gr2.1 o k h2 (by omega))
      have gj2 : ∀ o k, (o ≠ 164 ∨ k ≠ 17) → o ≠ 169 → J2 o k = J1 o k := fun o k h1 h2 => (jf o k (by omega)).trans (gr2.2.2 o k h1 (by omega))
      have g : ∀ o k, o ≠ 3 → (o < 4 ∨ 31 < o) → ¬ (o = 1 ∧ k = 1) → ¬ (o = 0 ∧ k = 13) → ¬ (o = 151 ∧ (k = 4 ∨ k = 5)) → ¬ (o = 40 ∧ k = 2) → o ≠ 166 → o ≠ 167 → (o ≠ 164 ∨ k = 1 ∨ (5 < k ∧ k < 11) ∨ k = 17 ∨ (20 < k ∧ k ≠ 24)) → I2 o k = I o k := fun o k a1 a2 a3 a4 a5 a6 a7 a8 a9 => (g2 o k a7 a8 a9).trans (g1 o k a1 a2 a3 a4 a5 a6)
      have gj : ∀ o k, 21 < o → (o ≠ 164 ∨ k ≠ 17) → o ≠ 169 → J2 o k = J o k := fun o k a1 a2 a3 => (gj2 o k a2 a3).trans (gj1 o k (by omega) (by omega))
      have er : f_X12_army I1 J1 = some (nI L, I2, J2) := by
        obtain ⟨v1, b1, d2⟩ := Option.bind_eq_some_iff.mp d2
        obtain ⟨v3, b2, d2⟩ := Option.bind_eq_some_iff.mp d2
        obtain ⟨v5, b3, b4⟩ := Option.bind_eq_some_iff.mp d2
        have b1' : f_X12_taken (bm_uI I1 164 0 0) 900 = some v1 := b1
        have b3' : f_X12_next v3 J1 = some v5 := b3
        unfold f_X12_army
        rw [b1']
        simp only [Option.bind_some]
        rw [b2]
        simp only [Option.bind_some]
        rw [b3']
        simp only [Option.bind_some]
        rw [b4]
        simp only [Option.bind_some]
        rw [r19, ← eL] at e3
        exact e3
      have h8 := hV2.1.1
      have h7 := hV2.1.2.1
      have pb : ∀ k, k < 61 → pt_beg T2 k = T2 k := fun k hk => by unfold pt_beg; rw [if_pos hk]
      refine ⟨_, _, _, _, _, _, ec, er, pt_beg T2, fun _ => 0, ⟨row, fun k h1 h2 => ?_, ?_, ?_, ⟨?_, ⟨0, ?_, by omega, by simp⟩, fun i hi => absurd hi (Nat.not_lt_zero i)⟩, ⟨fun j hj => ?_, fun j hj => ?_⟩, va_congr (pb_eA T2) hV2.1, pb_VS hV2, ⟨by simp, fun hh => absurd hh (Nat.lt_irrefl 0), fun i hi => absurd hi (Nat.not_lt_zero i)⟩⟩, ?_, ?_, ?_, ⟨0, B, by omega, ?_, ?_, fun k hk => absurd hk (Nat.not_lt_zero k)⟩, ?_, fun k hk => ?_⟩
      · have : k < 107 + 3 * 0 := h2
        rw [show k = 106 by omega]; exact r106
      · exact pa_congr' (fun o k h1 h2 => g2 o k (by omega) (by omega) (by omega)) pA
      · exact ps_congr (fun k => g2 26 k (by omega) (by omega) (by omega)) (fun c k h1 h2 => g2 c k (by omega) (by omega) (by omega)) pS
      · rw [g2 151 4 (by omega) (by omega) (by omega)]; exact q4
      · rw [g2 151 5 (by omega) (by omega) (by omega)]; exact q5
      · rw [pb 0 (by omega)] at hj
        rw [gj2 _ j (by omega) (by omega), jr j (by omega)]
        have := hN.1 j hj
        rw [← j5 j (by omega)] at this
        exact this
      · rw [pb 1 (by omega)] at hj
        rw [gj2 _ j (by omega) (by omega), jr (8 + j) (by omega), show 15 + (8 + j) = 23 + j by omega]
        have := hN.2 j hj
        rw [← j10 j (by omega)] at this
        exact this
      · obtain ⟨u, o, U, _, ho, ⟨p1, _⟩, _⟩ := hU
        refine ⟨0, o, fun _ => T2, by omega, ho, ⟨?_, ?_, fun i hi => absurd hi (Nat.not_lt_zero i)⟩, ⟨r24, fun i hi => absurd hi (Nat.not_lt_zero i)⟩, fun i hi => absurd hi (Nat.not_lt_zero i)⟩
        · rw [g 40 1 (by omega) (by omega) (by omega) (by omega) (by omega) (by omega) (by omega) (by omega) (by omega)]; exact p1
        · rw [g2 40 2 (by omega) (by omega) (by omega)]; exact q40
      · exact iG_congr (by omega) (fun o j hj => g o j (by omega) (by omega) (by omega) (by omega) (by omega) (by omega) (by omega) (by omega) (by omega)) (fun o j hj => gj o j (by omega) (by omega) (by omega)) (fun j => gc.2.2 _ j (by omega)) hG0
      · exact iG_congr (by omega) (fun o j hj => g o j (by omega) (by omega) (by omega) (by omega) (by omega) (by omega) (by omega) (by omega) (by omega)) (fun o j hj => gj o j (by omega) (by omega) (by omega)) (fun j => gc.2.2 _ j (by omega)) hG1
      · rw [g2 1 1 (by omega) (by omega) (by omega)]; exact q11
      · rw [fr 164 2 (by omega) (by omega)]; exact gr2.2.1
      · refine iM_fault hM ?_ (fun o k ho => g o k (by omega) (by omega) (by omega) (by omega) (by omega) (by omega) (by omega) (by omega) (by omega))
        rw [g2 0 13 (by omega) (by omega) (by omega), q13, fr 164 15 (by omega) (by omega), r15]
      · rw [gj 170 k (by omega) (by omega) (by omega)]; exact hK k hk
    · rw [e] at e2
      injection e2 with e2
      injection e2 with _ ecc
      subst ecc
      obtain ⟨x, pl, h1, h4, _, h9, _⟩ := zf2
      rw [c39, show (0 : Int32) = nI 0 from rfl, pn_eqI (by omega) (by omega)] at h9
      omega
  · generalize hX : bm_uI (bm_uI c.1 1 1 0) 0 13 (bm_uI c.1 1 1 0 3 9) = X
    have xf : ∀ o k, ¬ (o = 1 ∧ k = 1) → ¬ (o = 0 ∧ k = 13) → X o k = c.1 o k := fun o k h1 h2 => by rw [← hX, pn_uI_off (by omega), pn_uI_off (by omega)]
    have x11 : X 1 1 = 0 := by rw [← hX, pn_uI_ne (by omega), pn_uI_hit rfl]
    have x13 : X 0 13 = c.1 3 9 := by rw [← hX, pn_uI_hit rfl, pn_uI_ne (by omega)]
    have g1 : ∀ o k, o ≠ 3 → (o < 15 ∨ 25 < o) → ¬ (o = 1 ∧ k = 1) → ¬ (o = 0 ∧ k = 13) → X o k = I o k := fun o k h0 h1 h2 h3 => (xf o k h2 h3).trans (gc.1 o k h0 h1)
    have gj1 : ∀ o k, o ≠ 3 → (o < 15 ∨ 21 < o) → c.2.1 o k = J o k := fun o k h0 h1 => gc.2.1 o k h0 (by omega) (by omega)
    rcases pa_read (I := I) (J := J) (W := W) (r := (X, c.2.1)) hn t1 hB (by dsimp only; rw [g1 164 2 (by omega) (by omega) (by omega) (by omega)]; exact t2) (fun k hk => by dsimp only; rw [g1 165 k (by omega) (by omega) (by omega) (by omega)]; exact rB k hk) (fun k hk => by dsimp only; rw [gj1 170 k (by omega) (by omega)]; exact hK k hk) with ⟨c2, r2, L2, T2, e2, d2, _, c392, _⟩ | ⟨c2, r2, v2, e2, d2, zf2, gc2, gr2⟩
    · rw [e] at e2
      injection e2 with e2
      injection e2 with _ ecc
      subst ecc
      obtain ⟨x, pl, h1, h4, _, h9, _⟩ := zf
      rw [c392, show (0 : Int32) = nI 0 from rfl, pn_eqI (by omega) (by omega)] at h9
      omega
    · rw [e] at e2
      injection e2 with e2
      injection e2 with _ ecc
      subst ecc
      obtain ⟨x, pl, h1, h4, hpl, k9, k10, r15, r16⟩ := zf2
      have ec : f_X11_army I J W = some (-1 - nI pl, X, c.2.1, c.2.2) := by
        obtain ⟨v1, b1, b2⟩ := Option.bind_eq_some_iff.mp e
        unfold f_X11_army
        rw [b1]
        simp only [Option.bind_some]
        rw [b2]
        simp only [Option.bind_some]
        rw [hX, x13, k9, if_neg (show ¬ nI x = 0 from nI_ne0 (by omega) (by omega)), xf 3 10 (by omega) (by omega), k10]
      have er : f_X12_army X c.2.1 = some (-1 - nI pl, r2.1, r2.2) := by
        obtain ⟨v1, b1, d2⟩ := Option.bind_eq_some_iff.mp d2
        obtain ⟨v3, b2, d2⟩ := Option.bind_eq_some_iff.mp d2
        obtain ⟨v5, b3, b4⟩ := Option.bind_eq_some_iff.mp d2
        have b1' : f_X12_taken (bm_uI X 164 0 0) 900 = some v1 := b1
        have b3' : f_X12_next v3 c.2.1 = some v5 := b3
        unfold f_X12_army
        rw [b1']
        simp only [Option.bind_some]
        rw [b2]
        simp only [Option.bind_some]
        rw [b3']
        simp only [Option.bind_some]
        rw [b4]
        simp only [Option.bind_some]
        rw [r16]
      have g2 : ∀ o k, o ≠ 167 → (o ≠ 164 ∨ k = 1 ∨ (5 < k ∧ k < 11) ∨ k = 17 ∨ 20 < k) → r2.1 o k = X o k := fun o k h1 h2 => gr2.1 o k h1 h2
      have g : ∀ o k, o ≠ 3 → (o < 15 ∨ 25 < o) → ¬ (o = 1 ∧ k = 1) → ¬ (o = 0 ∧ k = 13) → o ≠ 167 → (o ≠ 164 ∨ k = 1 ∨ (5 < k ∧ k < 11) ∨ k = 17 ∨ 20 < k) → r2.1 o k = I o k := fun o k a1 a2 a3 a4 a5 a6 => (g2 o k a5 a6).trans (g1 o k a1 a2 a3 a4)
      have gj : ∀ o k, o ≠ 3 → (o < 15 ∨ 21 < o) → (o ≠ 164 ∨ k ≠ 17) → (o ≠ 169 ∨ k < 15) → r2.2 o k = J o k := fun o k a1 a2 a3 a4 => (gr2.2.2 o k a3 a4).trans (gj1 o k a1 a2)
      refine ⟨_, _, _, _, _, _, ec, er, T0, S0, ?_, ?_, ?_, ?_, ⟨0, B, by omega, ?_, ?_, fun k hk => absurd hk (Nat.not_lt_zero k)⟩, ?_, fun k hk => ?_⟩
      · exact iF_congr (fun o k ho => g o k (by omega) (by omega) (by omega) (by omega) (by omega) (by omega)) (fun k => gc.2.2 _ k (by omega)) (fun k hk => g 166 k (by omega) (by omega) (by omega) (by omega) (by omega) (by omega)) (fun o k h1 h2 => gj o k (by omega) (by omega) (by omega) (by omega)) (fun k hk => gj 169 k (by omega) (by omega) (by omega) (by omega)) hF
      · exact iU_congr (fun o k ho => g o k (by omega) (by omega) (by omega) (by omega) (by omega) (by omega)) hU
      · exact iG_congr (by omega) (fun o j hj => g o j (by omega) (by omega) (by omega) (by omega) (by omega) (by omega)) (fun o j hj => gj o j (by omega) (by omega) (by omega) (by omega)) (fun j => gc.2.2 _ j (by omega)) hG0
      · exact iG_congr (by omega) (fun o j hj => g o j (by omega) (by omega) (by omega) (by omega) (by omega) (by omega)) (fun o j hj => gj o j (by omega) (by omega) (by omega) (by omega)) (fun j => gc.2.2 _ j (by omega)) hG1
      · rw [g2 1 1 (by omega) (by omega)]; exact x11
      · exact gr2.2.1
      · refine iM_fault hM ?_ (fun o k ho => g o k (by omega) (by omega) (by omega) (by omega) (by omega) (by omega))
        rw [g2 0 13 (by omega) (by omega), x13, k9, r15]
      · rw [gj 170 k (by omega) (by omega) (by omega) (by omega)]; exact hK k hk
