/-! a book is tried -/
def tb_E (T : pt_T) (N : Nat) (I I' : bm_TI) (x : Option bm_TI) (y : Option (Int32 × bm_TI)) : Prop := ∃ I1 I2 T' w L e, x = some I1 ∧ y = some (w, I2) ∧ pp_S I1 33 T' ∧ pp_R I2 T' ∧ pt_VS T' ∧ pt_eA T T' ∧ I1 147 4 = nI e ∧ I2 175 0 = nI e ∧ I1 147 5 = nI L ∧ I2 175 1 = nI L ∧ L ≤ N ∧ e < 1000 ∧ ((e = 0 ∧ w = -1) ∨ (e ≠ 0 ∧ w = nI L)) ∧ (∀ o k, (o < 33 ∨ 39 < o) → (o ≠ 147 ∨ (k ≠ 4 ∧ k ≠ 5)) → I1 o k = I o k) ∧ ∀ o k, (o ≠ 166 ∨ k < 61 ∨ 106 ≤ k) → o ≠ 171 → o ≠ 175 → I2 o k = I' o k
section TB
variable {T : pt_T} {N : Nat} {c : zc_C} {r : zc_R} {y1 : Int32}
theorem zv_tries (hN : N ≤ 40) (hA : pt_VA T) (c3 : c.1 147 3 = nI N) (r34 : r.1 164 34 = nI N) (hB : ∀ i, i < N → bk_1 T c r i) : ∀ (i j k k' : Nat) (I I' : bm_TI) (T' : pt_T), j + i = N → i < k → i < k' → pp_A I 4 T → pp_S I 33 T' → pp_R I' T' → pt_VS T' → pt_eA T T' → I 147 4 = 0 → I' 175 0 = 0 → I 147 5 = nI j → I' 175 1 = nI j → (∀ o k, (o < 33 ∨ 39 < o) → (o ≠ 147 ∨ (k ≠ 4 ∧ k ≠ 5)) → I o k = c.1 o k) → (∀ o k, (o ≠ 166 ∨ k < 61 ∨ 106 ≤ k) → o ≠ 171 → o ≠ 175 → I' o k = r.1 o k) → tb_E T N c.1 r.1 (f_X11_tryBook_l29 k (nI j) I) (f_X12_book_l111 y1 k' (-1) (nI j) I') := by
  intro i
  induction i with
  | zero =>
    intro j k k' I I' T' hj hk hk' hP hQ hR hS hE a4 b0 a5 b1 fc fr
    obtain ⟨k, rfl⟩ : ∃ q, k = q + 1 := ⟨k - 1, by omega⟩
    obtain ⟨k', rfl⟩ : ∃ q, k' = q + 1 := ⟨k' - 1, by omega⟩
    have : j = N := by omega
    subst this
    rw [f_X11_tryBook_l29, f_X12_book_l111, fc 147 3 (by omega) (by omega), c3, fr 164 34 (by omega) (by omega) (by omega), r34, if_pos (nI_le (Nat.le_refl _) (by omega)), if_pos (nI_le (Nat.le_refl _) (by omega))]
    exact ⟨I, I', T', -1, j, 0, rfl, rfl, hQ, hR, hS, hE, a4, b0, a5, b1, Nat.le_refl _, by omega, Or.inl ⟨rfl, rfl⟩, fc, fr⟩
  | succ i ih =>
    intro j k k' I I' T' hj hk hk' hP hQ hR hS hE a4 b0 a5 b1 fc fr
    obtain ⟨k, rfl⟩ : ∃ q, k = q + 1 := ⟨k - 1, by omega⟩
    obtain ⟨k', rfl⟩ : ∃ q, k' = q + 1 := ⟨k' - 1, by omega⟩
    sorry
end TB
