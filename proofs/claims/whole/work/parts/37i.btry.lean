/-! a book is tried, from its begin -/
theorem pq_l89 {I0 : bm_TI} {y1 : Int32} : ∃ I', f_X12_book_l89 y1 1000 0 I0 = some I' ∧ (I' 175 0 = 0 ∧ I' 175 1 = 0) ∧ ∀ o k, o ≠ 175 → I' o k = I0 o k := by
  have key : ∀ (i j k : Nat) (I : bm_TI), j + i = 4 → i < k → (∀ q, q < j → I 175 q = 0) → (∀ o q, o ≠ 175 → I o q = I0 o q) → ∃ I', f_X12_book_l89 y1 k (nI j) I = some I' ∧ (∀ q, q < 4 → I' 175 q = 0) ∧ ∀ o q, o ≠ 175 → I' o q = I0 o q := by
    intro i
    induction i with
    | zero =>
      intro j k I hj hk h0 hf
      obtain ⟨k, rfl⟩ : ∃ q, k = q + 1 := ⟨k - 1, by omega⟩
      have : j = 4 := by omega
      subst this
      rw [f_X12_book_l89, if_pos (by decide)]
      exact ⟨I, rfl, h0, hf⟩
    | succ i ih =>
      intro j k I hj hk h0 hf
      obtain ⟨k, rfl⟩ : ∃ q, k = q + 1 := ⟨k - 1, by omega⟩
      rw [f_X12_book_l89, if_neg (show ¬ (4 : Int32) ≤ nI j from nI_ge (b := 4) (by omega) (by omega)), if_pos (bm_ixk (by omega) (by omega)), nI_clamp (by omega), nI_1]
      refine ih (j + 1) k _ (by omega) (by omega) (fun q hq => ?_) (fun o q ho => (pn_uI_ne ho).trans (hf o q ho))
      by_cases e : q = j
      · exact pn_uI_hit e
      · rw [pn_uI_ne2 e]; exact h0 q (by omega)
  obtain ⟨I', e, h1, h2⟩ := key 4 0 1000 I0 (by omega) (by omega) (fun q hq => by omega) (fun _ _ _ => rfl)
  exact ⟨I', e, ⟨h1 0 (by omega), h1 1 (by omega)⟩, h2⟩
theorem pa_eq {I : bm_TI} {a : Nat} {T U : pt_T} (e : pt_eA T U) (hA : pt_VA T) (hP : pp_A I a U) : pp_A I a T := pa_VA (fun k hk => (e k hk).symm) (va_congr e hA) hP
theorem bk_try {T : pt_T} {N : Nat} {c : zc_C} {r : zc_R} {y1 : Int32} (hN : N ≤ 40) (hA : pt_VA T) (hS : pt_VS T) (hP : pp_A c.1 4 T) (hQ : pp_S c.1 26 T) (hR : pp_R r.1 T) (c3 : c.1 147 3 = nI N) (r34 : r.1 164 34 = nI N) (hB : ∀ i, i < N → bk_1 T c r i) : ∃ X1 Yt Yc Y1 T' w L, f_X11_tryBook c.1 = some (w, X1) ∧ f_X12_tries r.1 = some Yt ∧ f_X12_book_l89 y1 1000 0 Yt = some Yc ∧ f_X12_book_l111 y1 1000 (-1) 0 Yc = some (w, Y1) ∧ f_X12_orderly (bm_uI Y1 175 2 (Y1 166 61)) = some (nI (pt_orderly T')) ∧ pp_S X1 33 T' ∧ pp_S X1 26 T ∧ pp_A X1 4 T ∧ pp_R Y1 T' ∧ pt_VS T' ∧ pt_eA T T' ∧ L ≤ 40 ∧ (L = 0 → T' = T) ∧ X1 147 5 = nI L ∧ Y1 175 1 = nI L ∧ X1 147 4 = Y1 175 0 ∧ X1 147 6 = nI (T' 61) ∧ X1 147 7 = nI (pt_orderly T') ∧ (∀ k, k < 45 → Y1 173 k = nI (T (61 + k))) ∧ (∀ o k, (o < 33 ∨ 39 < o) → (o ≠ 147 ∨ k < 4 ∨ 7 < k) → X1 o k = c.1 o k) ∧ ∀ o k, (o ≠ 166 ∨ k < 61 ∨ 106 ≤ k) → o ≠ 171 → o ≠ 173 → o ≠ 175 → Y1 o k = r.1 o k := by
  obtain ⟨I1, e1, q33, a1, f1, q26⟩ := kc_begin hA hP hQ
  obtain ⟨Yt, e2, t1, t2⟩ := pq_tries hR
  obtain ⟨Yc, e3, ⟨z0, z1⟩, t3⟩ := pq_l89 (I0 := Yt) (y1 := y1)
  have RC : pp_R Yc T := fun k hk => by rw [t3 166 k (by omega), t2 166 k (by omega)]; exact hR k hk
  have gX : ∀ o k, (o ≠ 147 ∨ (k ≠ 4 ∧ k ≠ 5)) → bm_uI (bm_uI I1 147 4 0) 147 5 0 o k = I1 o k := fun o k ho => by rw [pn_uI_off (by omega), pn_uI_off (by omega)]
  have A2 : pp_A (bm_uI (bm_uI I1 147 4 0) 147 5 0) 4 T := pa_congr' (fun o k h1 h2 => gX o k (by omega)) a1
  have Q2 : pp_S (bm_uI (bm_uI I1 147 4 0) 147 5 0) 33 T := ps_congr (fun k => gX 33 k (by omega)) (fun c k h1 h2 => gX c k (by omega)) q33
  have hB' : ∀ i, i < N → bk_1 T (bm_uI (bm_uI I1 147 4 0) 147 5 0, c.2) (Yc, r.2) i := fun i hi => by
    obtain ⟨v, m, o, p⟩ := hB i hi
    refine ⟨v, m, o, ?_⟩
    dsimp only
    rw [gX 148 i (by omega), gX 149 i (by omega), gX 150 i (by omega), f1 148 i (by omega), f1 149 i (by omega), f1 150 i (by omega), t3 168 _ (by omega), t2 168 _ (by omega), t3 168 _ (by omega), t2 168 _ (by omega), t3 168 _ (by omega), t2 168 _ (by omega)]
    exact p
  obtain ⟨J1, J2, T', w, L, e, x1, x2, x3, x4, x5, x6, x7, x8, x9, x10, x11, x12, xz, x13, x14, x15⟩ := zv_tries (c := (bm_uI (bm_uI I1 147 4 0) 147 5 0, c.2)) (r := (Yc, r.2)) (y1 := y1) hN hA (by dsimp only; rw [gX 147 3 (by omega), f1 147 3 (by omega)]; exact c3) (by dsimp only; rw [t3 164 34 (by omega), t2 164 34 (by omega)]; exact r34) hB' N 0 1000 1000 (bm_uI (bm_uI I1 147 4 0) 147 5 0) Yc T (by omega) (by omega) (by omega) A2 Q2 RC hS (te_refl T) (fun _ => rfl) (by rw [pn_uI_ne2 (by omega), pn_uI_hit rfl]) z0 (pn_uI_hit rfl) z1 (fun _ _ _ _ => rfl) (fun _ _ _ _ _ => rfl)
  have x1' : f_X11_tryBook_l29 1000 0 (bm_uI (bm_uI I1 147 4 0) 147 5 0) = some J1 := x1
  have x2' : f_X12_book_l111 y1 1000 (-1) 0 Yc = some (w, J2) := x2
  have hA' := va_congr x6 hA
  have AJ : pp_A J1 4 T' := pa_VA x6 hA (pa_congr' (fun o k h1 h2 => by rw [x14 o k (by omega) (by omega)]) A2)
  have g6 : ∀ (u : Int32) o k, (o ≠ 147 ∨ k ≠ 6) → bm_uI J1 147 6 u o k = J1 o k := fun u o k ho => pn_uI_off ho
  have ho := kc_orderly (I := bm_uI J1 147 6 (J1 33 10)) (o := 33) (pa_congr' (fun o k h1 h2 => g6 _ o k (by omega)) AJ) (ps_congr (fun k => g6 _ 33 k (by omega)) (fun c k h1 h2 => g6 _ c k (by omega)) x3) hA' x5
  have hq : f_X12_orderly (bm_uI J2 175 2 (J2 166 61)) = some (nI (pt_orderly T')) := pq_orderly (fun k hk => by rw [pn_uI_ne (by omega)]; exact x4 k hk) hA' x5
  have h4 : bm_uI (bm_uI J1 147 6 (J1 33 10)) 147 7 (nI (pt_orderly T')) 147 4 = nI e := by rw [pn_uI_ne2 (by omega), pn_uI_ne2 (by omega)]; exact x7
  have h5 : bm_uI (bm_uI J1 147 6 (J1 33 10)) 147 7 (nI (pt_orderly T')) 147 5 = nI L := by rw [pn_uI_ne2 (by omega), pn_uI_ne2 (by omega)]; exact x9
  have gF : ∀ o k, (o ≠ 147 ∨ (k ≠ 6 ∧ k ≠ 7)) → bm_uI (bm_uI J1 147 6 (J1 33 10)) 147 7 (nI (pt_orderly T')) o k = J1 o k := fun o k ho => by rw [pn_uI_off (by omega), pn_uI_off (by omega)]
  refine ⟨bm_uI (bm_uI J1 147 6 (J1 33 10)) 147 7 (nI (pt_orderly T')), Yt, Yc, J2, T', w, L, ?_, e2, e3, x2', hq, ps_congr (fun k => gF 33 k (by omega)) (fun c k h1 h2 => gF c k (by omega)) x3, ?_, ?_, x4, x5, x6, by omega, xz, h5, x10, ?_, ?_, pn_uI_hit rfl, fun k hk => ?_, fun o k h1 h2 => ?_, fun o k h1 h2 h3 h4 => ?_⟩
  · unfold f_X11_tryBook
    rw [e1]
    simp only [Option.bind_some]
    rw [x1']
    simp only [Option.bind_some]
    rw [ho]
    simp only [Option.bind_some]
    rw [h4, h5]
    rcases x13 with ⟨q1, q2⟩ | ⟨q1, q2⟩
    · rw [if_pos (show nI e = 0 by rw [q1]; rfl), q2]
    · rw [if_neg (show ¬ nI e = 0 from nI_ne0 (by omega) (by omega)), q2]
  · exact ps_congr (fun k => by rw [gF 26 k (by omega), x14 26 k (by omega) (by omega)]; exact gX 26 k (by omega)) (fun c k h1 h2 => by rw [gF c k (by omega), x14 c k (by omega) (by omega)]; exact gX c k (by omega)) q26
  · exact pa_congr' (fun o k h1 h2 => by rw [gF o k (by omega), x14 o k (by omega) (by omega)]) A2
  · rw [h4, x8]
  · rw [pn_uI_ne2 (by omega), pn_uI_hit rfl]; exact pg_hour33 x3
  · rw [x15 173 k (by omega) (by omega) (by omega)]; exact (t3 173 k (by omega)).trans (t1 k hk)
  · rw [gF o k (by omega), x14 o k h1 (by omega)]; exact (gX o k (by omega)).trans (f1 o k (by omega))
  · rw [x15 o k h1 h2 h4]; exact (t3 o k h4).trans (t2 o k h3)
