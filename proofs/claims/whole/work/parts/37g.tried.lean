/-! a book is tried -/
def tb_E (T : pt_T) (N : Nat) (I I' : bm_TI) (x : Option bm_TI) (y : Option (Int32 × bm_TI)) : Prop := ∃ I1 I2 T' w L e, x = some I1 ∧ y = some (w, I2) ∧ pp_S I1 33 T' ∧ pp_R I2 T' ∧ pt_VS T' ∧ pt_eA T T' ∧ I1 147 4 = nI e ∧ I2 175 0 = nI e ∧ I1 147 5 = nI L ∧ I2 175 1 = nI L ∧ L ≤ N ∧ e < 1000 ∧ (L = 0 → T' = T) ∧ ((e = 0 ∧ w = -1) ∨ (e ≠ 0 ∧ w = nI L)) ∧ (∀ o k, (o < 33 ∨ 39 < o) → (o ≠ 147 ∨ (k ≠ 4 ∧ k ≠ 5)) → I1 o k = I o k) ∧ ∀ o k, (o ≠ 166 ∨ k < 61 ∨ 106 ≤ k) → o ≠ 171 → o ≠ 175 → I2 o k = I' o k
section TB
variable {T : pt_T} {N : Nat} {c : zc_C} {r : zc_R} {y1 : Int32}
theorem zv_tries (hN : N ≤ 40) (hA : pt_VA T) (c3 : c.1 147 3 = nI N) (r34 : r.1 164 34 = nI N) (hB : ∀ i, i < N → bk_1 T c r i) : ∀ (i j k k' : Nat) (I I' : bm_TI) (T' : pt_T), j + i = N → i < k → i < k' → pp_A I 4 T → pp_S I 33 T' → pp_R I' T' → pt_VS T' → pt_eA T T' → (j = 0 → T' = T) → I 147 4 = 0 → I' 175 0 = 0 → I 147 5 = nI j → I' 175 1 = nI j → (∀ o k, (o < 33 ∨ 39 < o) → (o ≠ 147 ∨ (k ≠ 4 ∧ k ≠ 5)) → I o k = c.1 o k) → (∀ o k, (o ≠ 166 ∨ k < 61 ∨ 106 ≤ k) → o ≠ 171 → o ≠ 175 → I' o k = r.1 o k) → tb_E T N c.1 r.1 (f_X11_tryBook_l29 k (nI j) I) (f_X12_book_l111 y1 k' (-1) (nI j) I') := by
  intro i
  induction i with
  | zero =>
    intro j k k' I I' T' hj hk hk' hP hQ hR hS hE hz a4 b0 a5 b1 fc fr
    obtain ⟨k, rfl⟩ : ∃ q, k = q + 1 := ⟨k - 1, by omega⟩
    obtain ⟨k', rfl⟩ : ∃ q, k' = q + 1 := ⟨k' - 1, by omega⟩
    have : j = N := by omega
    subst this
    rw [f_X11_tryBook_l29, f_X12_book_l111, fc 147 3 (by omega) (by omega), c3, fr 164 34 (by omega) (by omega) (by omega), r34, if_pos (nI_le (Nat.le_refl _) (by omega)), if_pos (nI_le (Nat.le_refl _) (by omega))]
    exact ⟨I, I', T', -1, j, 0, rfl, rfl, hQ, hR, hS, hE, a4, b0, a5, b1, Nat.le_refl _, by omega, hz, Or.inl ⟨rfl, rfl⟩, fc, fr⟩
  | succ i ih =>
    intro j k k' I I' T' hj hk hk' hP hQ hR hS hE hz a4 b0 a5 b1 fc fr
    obtain ⟨k, rfl⟩ : ∃ q, k = q + 1 := ⟨k - 1, by omega⟩
    obtain ⟨k', rfl⟩ : ∃ q, k' = q + 1 := ⟨k' - 1, by omega⟩
    obtain ⟨v, m, o, x1, x2, x3, x4, hv, w6, wn, w0, w1, w5⟩ := hB j (by omega)
    have hA' := va_congr hE hA
    have hP' := pa_VA hE hA hP
    have e0 := hE 0 (by omega)
    have e1 := hE 1 (by omega)
    have i0 : bm_ix 135 (3 * nI j) = true := by rw [show (3 : Int32) = nI 3 from rfl, pk_mul]; exact bm_ixk (by omega) (by omega)
    have i1 : bm_ix 135 (3 * nI j + 1) = true := by rw [show (3 : Int32) = nI 3 from rfl, pk_mul, nI_1]; exact bm_ixk (by omega) (by omega)
    have i2 : bm_ix 135 (3 * nI j + 2) = true := by rw [show (3 : Int32) = nI 3 from rfl, pk_mul, show (2 : Int32) = nI 2 from rfl, nI_add]; exact bm_ixk (by omega) (by omega)
    have l0 : (3 * nI j).toNatClampNeg = 3 * j := by rw [show (3 : Int32) = nI 3 from rfl, pk_mul, nI_clamp (by omega)]
    have l1 : (3 * nI j + 1).toNatClampNeg = 3 * j + 1 := by rw [show (3 : Int32) = nI 3 from rfl, pk_mul, nI_1, nI_clamp (by omega)]
    have l2 : (3 * nI j + 2).toNatClampNeg = 3 * j + 2 := by rw [show (3 : Int32) = nI 3 from rfl, pk_mul, show (2 : Int32) = nI 2 from rfl, nI_add, nI_clamp (by omega)]
    have hl : lv_E T' v I I' (f_X8_live I (I 148 j) (I 149 j) (I 150 j)) (f_X12_does I' (I' 168 (3 * j)) (I' 168 (3 * j + 1)) (I' 168 (3 * j + 2))) := by
      rw [fc 148 j (by omega) (by omega), fc 149 j (by omega) (by omega), fc 150 j (by omega) (by omega), fr 168 _ (by omega) (by omega) (by omega), fr 168 _ (by omega) (by omega) (by omega), fr 168 _ (by omega) (by omega) (by omega), x1, x2, x3, x4]
      by_cases h6 : v = 6
      · subst h6
        obtain ⟨q1, q2, q3⟩ := w6 rfl
        rw [q1]
        exact zv_live6 hP' hQ hR hA' hS q2 q3
      · obtain ⟨q1, q2⟩ := wn h6
        rw [q1]
        exact zv_live hP' hQ hR hA' hS (by omega) (by omega) w0 (fun q => ⟨(w1 q).1, by have := (w1 q).2; omega⟩) w5
    rw [f_X11_tryBook_l29, f_X12_book_l111, fc 147 3 (by omega) (by omega), c3, fr 164 34 (by omega) (by omega) (by omega), r34, if_neg (nI_ge (by omega) (by omega)), if_neg (nI_ge (by omega) (by omega)), a4, if_pos rfl, if_pos (bm_ixk (show j < 40 by omega) (by omega)), nI_clamp (by omega), if_neg (by decide), i0, i1, i2, l0, l1, l2]
    simp only [↓reduceIte]
    rcases hl with ⟨I1, I2, T2, y1', y2, s1, s2, s3, s4, s5, s6⟩ | ⟨I1, y1', y2, s1, s5⟩
    · rw [y1', y2]
      simp only [Option.bind_some, ↓reduceIte]
      have k5 : I1 147 5 = nI j := by rw [s5 147 5 (by omega)]; exact a5
      have b1' : bm_uI I2 175 0 0 175 1 = nI j := by rw [pn_uI_ne2 (by omega), s6 175 1 (by omega) (by omega)]; exact b1
      rw [k5, b1', pn_uI_hit rfl, if_pos (by decide), nI_1]
      refine ih (j + 1) k k' _ _ T2 (by omega) (by omega) (by omega) ?_ ?_ ?_ s3 (te_trans hE s4) (fun q => absurd q (by omega)) ?_ ?_ (pn_uI_hit rfl) (pn_uI_hit rfl) (fun o k h1 h2 => ?_) (fun o k h1 h2 h3 => ?_)
      · exact pa_congr' (fun o k h1 h2 => by rw [pn_uI_ne (by omega)]; exact s5 o k (by omega)) hP
      · exact ps_congr (fun k => pn_uI_ne (by omega)) (fun c k h1 h2 => pn_uI_ne (by omega)) s1
      · exact fun k hk => by rw [pn_uI_ne (by omega), pn_uI_ne (by omega)]; exact s2 k hk
      · rw [pn_uI_ne2 (by omega), s5 147 4 (by omega)]; exact a4
      · rw [pn_uI_ne2 (by omega), pn_uI_hit rfl]
      · rw [pn_uI_off (by omega), s5 o k h1]; exact fc o k h1 h2
      · rw [pn_uI_ne h3, pn_uI_ne h3, s6 o k h1 h2]; exact fr o k h1 h2 h3
    · rw [y1', y2]
      simp only [Option.bind_some]
      have kv : I1 148 j = nI v := by rw [s5 148 j (by omega), fc 148 j (by omega) (by omega)]; exact x1
      rw [if_neg (show ¬ (1 : Int32) = 0 by decide), pn_uI_hit rfl, if_neg (show ¬ nI (10 * v + 1) ≤ 0 from nI_ge (b := 10 * v + 1) (a := 0) (by omega) (by omega)), kv, show (10 : Int32) = nI 10 from rfl, pk_mul, nI_1, nI_1]
      obtain ⟨k, rfl⟩ : ∃ q, k = q + 1 := ⟨k - 1, by omega⟩
      obtain ⟨k', rfl⟩ : ∃ q, k' = q + 1 := ⟨k' - 1, by omega⟩
      have z3 : bm_uI I1 147 4 (nI (10 * v + 1)) 147 3 = nI N := by rw [pn_uI_ne2 (by omega), s5 147 3 (by omega), fc 147 3 (by omega) (by omega)]; exact c3
      have z34 : bm_uI I' 175 0 (nI (10 * v + 1)) 164 34 = nI N := by rw [pn_uI_ne (by omega), fr 164 34 (by omega) (by omega) (by omega)]; exact r34
      have xe : f_X11_tryBook_l29 (k + 1) (nI (j + 1)) (bm_uI I1 147 4 (nI (10 * v + 1))) = some (bm_uI I1 147 4 (nI (10 * v + 1))) := by
        rw [f_X11_tryBook_l29, z3, pn_uI_hit rfl, if_neg (show ¬ nI (10 * v + 1) = 0 from nI_ne0 (by omega) (by omega))]
        split <;> rfl
      have ye : f_X12_book_l111 y1 (k' + 1) (nI j) (nI (j + 1)) (bm_uI I' 175 0 (nI (10 * v + 1))) = some (nI j, bm_uI I' 175 0 (nI (10 * v + 1))) := by
        rw [f_X12_book_l111, z34, if_pos (show (0 : Int32) ≤ nI j from nI_le (a := 0) (by omega) (by omega))]
        split <;> rfl
      rw [xe, ye]
      refine ⟨_, _, T', nI j, j, 10 * v + 1, rfl, rfl, ?_, ?_, hS, hE, pn_uI_hit rfl, pn_uI_hit rfl, ?_, ?_, by omega, by omega, hz, Or.inr ⟨by omega, rfl⟩, fun o k h1 h2 => ?_, fun o k h1 h2 h3 => ?_⟩
      · exact ps_congr (fun k => pn_uI_ne (by omega)) (fun c k h1 h2 => pn_uI_ne (by omega)) s1
      · exact fun k hk => by rw [pn_uI_ne (by omega)]; exact hR k hk
      · rw [pn_uI_ne2 (by omega), s5 147 5 (by omega)]; exact a5
      · rw [pn_uI_ne2 (by omega)]; exact b1
      · rw [pn_uI_off (by omega), s5 o k h1]; exact fc o k h1 h2
      · rw [pn_uI_ne h3]; exact fr o k h1 h2 h3
end TB
