theorem iv_set {I I2 : bm_TI} {J J2 : bm_TJ} {W W2 : bm_TR} (hI : bm_Inv I J W) (f : ∀ o k, (4 ≤ o ∧ o ≤ 14) ∨ (26 ≤ o ∧ o ≤ 31) ∨ (40 ≤ o ∧ o ≤ 146) ∨ (151 ≤ o ∧ o ≤ 154) ∨ o = 166 ∨ o = 172 ∨ o = 178 ∨ o = 180 ∨ (o = 164 ∧ k = 24) → I2 o k = I o k) (fJ : ∀ o k, (4 ≤ o ∧ o ≤ 14) ∨ (99 ≤ o ∧ o ≤ 146) ∨ (o = 169 ∧ k < 15) ∨ o = 170 ∨ o = 179 → J2 o k = J o k) (fW : ∀ o k, o = 152 ∨ o = 119 ∨ o = 143 → W2 o k = W o k) (hT : iv_T I2) (hM : iv_M I2) : bm_Inv I2 J2 W2 := by
  obtain ⟨T, S, hF, hU, hG0, hG1, _, _, hK⟩ := hI
  refine ⟨T, S, iF_congr (fun o k ho => f o k (by omega)) (fun k => fW 152 k (by omega)) (fun k _ => f 166 k (by omega)) (fun o k _ _ => fJ o k (by omega)) (fun k hk => fJ 169 k (by omega)) hF, iU_congr (fun o k ho => f o k (by omega)) hU, iG_congr (by omega) (fun o k ho => f o k (by omega)) (fun o k ho => fJ o k (by omega)) (fun k => fW 119 k (by omega)) hG0, iG_congr (by omega) (fun o k ho => f o k (by omega)) (fun o k ho => fJ o k (by omega)) (fun k => fW 143 k (by omega)) hG1, hT, hM, fun k hk => ?_⟩
  rw [fJ 170 k (by omega)]; exact hK k hk
section EZ
variable {I : bm_TI} {J : bm_TJ} {W : bm_TR}
theorem e_fault (hI : bm_Inv I J W) : ∃ v I2, f_X11_fault I = some v ∧ f_X12_fault I = some (v, I2) ∧ bm_Inv I2 J W := by
  obtain ⟨T, S, hF, hU, hG0, hG1, hT, hM, hK⟩ := id hI
  refine ⟨_, _, rfl, ?_, iv_q (v := 0) hI⟩
  unfold f_X12_fault
  rw [pn_uI_ne2 (by omega), hM.1]
theorem e_wrong (hI : bm_Inv I J W) : ∃ v I2, f_X11_wrong I = some v ∧ f_X12_wrong I = some (v, I2) ∧ bm_Inv I2 J W := by
  obtain ⟨T, S, hF, hU, hG0, hG1, hT, hM, hK⟩ := id hI
  refine ⟨_, _, rfl, ?_, iv_q (v := 0) hI⟩
  unfold f_X12_wrong
  rw [pn_uI_ne2 (by omega), hM.2.2.2.1]
theorem e_look (hI : bm_Inv I J W) : ∃ v I2, f_X11_look I = some v ∧ f_X12_look I = some (v, I2) ∧ bm_Inv I2 J W := by
  obtain ⟨T, S, hF, hU, hG0, hG1, hT, hM, hK⟩ := id hI
  refine ⟨_, _, rfl, ?_, iv_q (v := 0) hI⟩
  unfold f_X12_look
  rw [pn_uI_ne2 (by omega), hM.2.2.2.2.1]
theorem e_ask (hI : bm_Inv I J W) : ∃ v I2, f_X11_ask I = some v ∧ f_X12_ask I = some (v, I2) ∧ bm_Inv I2 J W := by
  obtain ⟨T, S, hF, hU, hG0, hG1, hT, hM, hK⟩ := id hI
  refine ⟨_, _, rfl, ?_, iv_q (v := 0) hI⟩
  unfold f_X12_ask
  rw [pn_uI_ne2 (by omega), pn_uI_ne2 (by omega)]
  rcases hM.2.2.2.2.2.1 with ⟨a, b⟩ | ⟨a, b⟩
  · rw [if_pos a, b]
  · rw [if_neg (by rw [a]; decide), b]
theorem e_cell (hI : bm_Inv I J W) : ∀ a1 : Int32, ∃ v I2, f_X11_cell I a1 = some v ∧ f_X12_cell I a1 = some (v, I2) ∧ bm_Inv I2 J W := by
  intro a1
  obtain ⟨T, S, hF, hU, hG0, hG1, hT, hM, hK⟩ := id hI
  unfold f_X11_cell f_X12_cell
  rw [pn_uI_ne2 (by omega), pn_uI_ne2 (by omega), ← hM.2.1, ← hM.2.2.1]
  by_cases h0 : a1 = 0
  · rw [if_pos h0, if_pos h0]; exact ⟨_, _, rfl, rfl, iv_q hI⟩
  · rw [if_neg h0, if_neg h0]
    by_cases h1 : a1 = 1
    · rw [if_pos h1, if_pos h1]; exact ⟨_, _, rfl, rfl, iv_q hI⟩
    · rw [if_neg h1, if_neg h1]; exact ⟨_, _, rfl, rfl, iv_q hI⟩
/-- no number of the first n -/
theorem pk_out {x : Int32} {n j : Nat} (hn : n < 2 ^ 31) (h : x < 0 ∨ nI n ≤ x) (hj : j < n) : ¬ x = nI j := by
  intro e
  subst e
  rcases h with h | h
  · exact nI_pos (by omega) h
  · exact nI_ge hj hn h
theorem e_told (hI : bm_Inv I J W) : ∀ a1 : Int32, ∃ v I2, f_X11_told I a1 = some v ∧ f_X12_told I a1 = some (v, I2) ∧ bm_Inv I2 J W := by
  intro a1
  obtain ⟨T, S, hF, hU, hG0, hG1, hT, hM, hK⟩ := id hI
  have hh := hM.2.2.2.2.2.2.1
  unfold f_X11_told f_X12_told
  rw [pn_uI_ne2 (by omega), pn_uI_ne (by omega)]
  rcases pk_ix a1 (n := 4) (by omega) with h | h | ⟨j, hj, rfl⟩
  · have hin : f_X12_isIn a1 0 3 = false := pq_belowF (n := 4) (by omega) (Or.inl h)
    rw [if_neg (show ¬ a1 = 0 from pk_out (n := 4) (j := 0) (by omega) (Or.inl h) (by omega)), if_neg (show ¬ a1 = 1 from pk_out (n := 4) (j := 1) (by omega) (Or.inl h) (by omega)), if_neg (show ¬ a1 = 2 from pk_out (n := 4) (j := 2) (by omega) (Or.inl h) (by omega)), if_neg (show ¬ a1 = 3 from pk_out (n := 4) (j := 3) (by omega) (Or.inl h) (by omega)), hin]
    rcases hh with ⟨a, b⟩ | ⟨a, b⟩
    · rw [if_pos a]; exact ⟨_, _, rfl, rfl, iv_q hI⟩
    · rw [if_neg (by rw [a]; decide)]; exact ⟨_, _, rfl, rfl, iv_q hI⟩
  · have hin : f_X12_isIn a1 0 3 = false := pq_belowF (n := 4) (by omega) (Or.inr h)
    rw [if_neg (show ¬ a1 = 0 from pk_out (n := 4) (j := 0) (by omega) (Or.inr h) (by omega)), if_neg (show ¬ a1 = 1 from pk_out (n := 4) (j := 1) (by omega) (Or.inr h) (by omega)), if_neg (show ¬ a1 = 2 from pk_out (n := 4) (j := 2) (by omega) (Or.inr h) (by omega)), if_neg (show ¬ a1 = 3 from pk_out (n := 4) (j := 3) (by omega) (Or.inr h) (by omega)), hin]
    rcases hh with ⟨a, b⟩ | ⟨a, b⟩
    · rw [if_pos a]; exact ⟨_, _, rfl, rfl, iv_q hI⟩
    · rw [if_neg (by rw [a]; decide)]; exact ⟨_, _, rfl, rfl, iv_q hI⟩
  · have hin : f_X12_isIn (nI j) 0 3 = true := pq_belowT (n := 4) (by omega) hj
    have hc : (if nI j = 0 then some (I 147 4) else if nI j = 1 then some (I 147 5) else if nI j = 2 then some (I 147 6) else if nI j = 3 then some (I 147 7) else some (-1)) = some (I 147 (4 + j)) := by
      match j, hj with
      | 0, _ => rfl
      | 1, _ => rfl
      | 2, _ => rfl
      | 3, _ => rfl
      | j + 4, hj => omega
    rw [hc, hin, if_pos rfl, if_pos (bm_ixk hj (by omega)), nI_clamp (by omega)]
    rcases hh with ⟨a, b⟩ | ⟨a, b⟩
    · rw [if_pos a, b j hj]; exact ⟨_, _, rfl, rfl, iv_q hI⟩
    · rw [if_neg (by rw [a]; decide), b j hj]; exact ⟨_, _, rfl, rfl, iv_q hI⟩
theorem e_byteAt (hI : bm_Inv I J W) : ∀ a1 : Int32, ∃ v I2, f_X11_byteAt I a1 = some v ∧ f_X12_byteAt I a1 = some (v, I2) ∧ bm_Inv I2 J W := by
  intro a1
  obtain ⟨T, S, hF, hU, hG0, hG1, hT, hM, hK⟩ := id hI
  obtain ⟨r, hr, h1, h2, h3⟩ := hM.2.2.2.2.2.2.2
  unfold f_X11_byteAt f_X12_byteAt
  rw [pn_uI_ne2 (by omega), pn_uI_ne (by omega), h1, h2]
  rcases pk_ix a1 (n := r) (by omega) with h | h | ⟨j, hj, rfl⟩
  · rw [pq_belowF (by omega) (Or.inl h), if_pos h]; exact ⟨_, _, rfl, rfl, iv_q hI⟩
  · rw [pq_belowF (by omega) (Or.inr h)]
    by_cases h0 : a1 < 0
    · rw [if_pos h0]; exact ⟨_, _, rfl, rfl, iv_q hI⟩
    · rw [if_neg h0, if_pos h]; exact ⟨_, _, rfl, rfl, iv_q hI⟩
  · rw [pq_belowT (by omega) hj, if_neg (nI_pos (by omega)), if_neg (nI_ge hj (by omega)), if_pos (bm_ixk (by omega) (by omega)), if_pos rfl, if_pos (bm_ixk (by omega) (by omega)), nI_clamp (by omega), h3 j hj]
    exact ⟨_, _, rfl, rfl, iv_q hI⟩
theorem e_count (hI : bm_Inv I J W) : ∀ a1 : Int32, ∃ v I2, f_X11_count I a1 = some v ∧ f_X12_count I a1 = some (v, I2) ∧ bm_Inv I2 J W := by
  intro a1
  obtain ⟨T, S, hF, hU, hG0, hG1, hT, hM, hK⟩ := id hI
  obtain ⟨n, B, t1, t2, t3, t4⟩ := hT
  have hR : pp_R I T := hF.1
  have hP : pp_A I 4 T := hF.2.2.1
  unfold f_X11_count f_X12_count
  rw [pn_uI_ne2 (by omega), pn_uI_ne (by omega), pa_men hP, pa_orders hP, pa_foes hP, pa_clear hP, pa_rain hP, t2, t3]
  by_cases h5 : a1 = 5
  · subst h5
    rw [if_pos rfl]
    exact ⟨_, _, rfl, rfl, iv_q hI⟩
  · rw [if_neg h5, if_neg h5]
    rcases pk_ix a1 (n := 5) (by omega) with h | h | ⟨j, hj, rfl⟩
    · have hin : f_X12_isIn a1 0 4 = false := pq_belowF (n := 5) (by omega) (Or.inl h)
      rw [if_neg (show ¬ a1 = 0 from pk_out (n := 5) (j := 0) (by omega) (Or.inl h) (by omega)), if_neg (show ¬ a1 = 1 from pk_out (n := 5) (j := 1) (by omega) (Or.inl h) (by omega)), if_neg (show ¬ a1 = 2 from pk_out (n := 5) (j := 2) (by omega) (Or.inl h) (by omega)), if_neg (show ¬ a1 = 3 from pk_out (n := 5) (j := 3) (by omega) (Or.inl h) (by omega)), if_neg (show ¬ a1 = 4 from pk_out (n := 5) (j := 4) (by omega) (Or.inl h) (by omega)), hin]
      exact ⟨_, _, rfl, rfl, iv_q hI⟩
    · have hin : f_X12_isIn a1 0 4 = false := pq_belowF (n := 5) (by omega) (Or.inr h)
      rw [if_neg (show ¬ a1 = 0 from pk_out (n := 5) (j := 0) (by omega) (Or.inr h) (by omega)), if_neg (show ¬ a1 = 1 from pk_out (n := 5) (j := 1) (by omega) (Or.inr h) (by omega)), if_neg (show ¬ a1 = 2 from pk_out (n := 5) (j := 2) (by omega) (Or.inr h) (by omega)), if_neg (show ¬ a1 = 3 from pk_out (n := 5) (j := 3) (by omega) (Or.inr h) (by omega)), if_neg (show ¬ a1 = 4 from pk_out (n := 5) (j := 4) (by omega) (Or.inr h) (by omega)), hin]
      exact ⟨_, _, rfl, rfl, iv_q hI⟩
    · have hin : f_X12_isIn (nI j) 0 4 = true := pq_belowT (n := 5) (by omega) hj
      rw [hin, if_pos rfl, if_pos (bm_ixk (by omega) (by omega)), nI_clamp (by omega), hR j (by omega)]
      refine ⟨nI (T j), _, ?_, rfl, iv_q hI⟩
      match j, hj with
      | 0, _ => rfl
      | 1, _ => rfl
      | 2, _ => rfl
      | 3, _ => rfl
      | 4, _ => rfl
      | j + 5, hj => omega
theorem e_end (hI : bm_Inv I J W) : ∀ a1 : Int32, ∃ v I1 I2, f_X11_end I a1 = some (v, I1) ∧ f_X12_end I1 a1 = some (v, I2) ∧ bm_Inv I2 J W := by
  intro a1
  obtain ⟨T, S, hF, hU, hG0, hG1, hT, hM, hK⟩ := id hI
  obtain ⟨n, B, t1, t2, t3, t4⟩ := hT
  unfold f_X11_end
  rw [t2]
  by_cases h0 : a1 < 0
  · rw [if_pos h0]
    refine ⟨_, _, bm_uI I 164 0 0, rfl, ?_, iv_q hI⟩
    unfold f_X12_end
    rw [if_pos h0]
  · rw [if_neg h0]
    by_cases h1 : a1 ≤ nI n
    · rw [if_pos h1]
      obtain ⟨j, hj, rfl⟩ := nI_of h0
      rw [nI_leI hj (by omega)] at h1
      refine ⟨_, _, bm_uI (bm_uI (bm_uI I 1 1 (nI j)) 164 0 0) 164 2 (nI j), rfl, ?_, ?_⟩
      · unfold f_X12_end
        rw [pn_uI_ne2 (by omega), pn_uI_ne (by omega), t3, if_neg h0, if_pos (nI_le h1 (by omega))]
      · have ff : ∀ o k, (o ≠ 1 ∨ k ≠ 1) → (o ≠ 164 ∨ (k ≠ 0 ∧ k ≠ 2)) → bm_uI (bm_uI (bm_uI I 1 1 (nI j)) 164 0 0) 164 2 (nI j) o k = I o k := fun o k a b => by rw [pn_uI_off (by omega), pn_uI_off (by omega), pn_uI_off (by omega)]
        refine iv_set hI (fun o k ho => ff o k (by omega) (by omega)) (fun _ _ _ => rfl) (fun _ _ _ => rfl) ⟨j, B, by omega, ?_, pn_uI_hit rfl, fun k hk => ?_⟩ (iM_congr (fun o k ho => ff o k (by omega) (by omega)) hM)
        · rw [pn_uI_ne (by omega), pn_uI_ne (by omega), pn_uI_hit rfl]
        · rw [ff 2 k (by omega) (by omega), ff 165 k (by omega) (by omega)]; exact t4 k (by omega)
    · rw [if_neg h1]
      refine ⟨_, _, bm_uI I 164 0 0, rfl, ?_, iv_q hI⟩
      unfold f_X12_end
      rw [pn_uI_ne2 (by omega), t3, if_neg h0, if_neg h1]
theorem e_sees (hI : bm_Inv I J W) : ∀ a1 : Int32, ∃ v I2, f_X11_sees I a1 = some v ∧ f_X12_sees I a1 = some (v, I2) ∧ bm_Inv I2 J W := by
  intro a1
  obtain ⟨T, S, hF, hU, hG0, hG1, hT, hM, hK⟩ := id hI
  obtain ⟨hR, _, hP, hQ, _, _, hA, hS, _⟩ := hF
  have R0 : pp_R (bm_uI I 164 0 0) T := pr_164 hR
  have Q0 := iv_q (v := 0) hI
  unfold f_X11_sees f_X12_sees
  generalize bm_uI I 164 0 0 = I0 at R0 Q0 ⊢
  have h8 := hA.1
  rcases pk_ix a1 (n := T 0) (by omega) with h | h | ⟨j, hj, rfl⟩
  · rw [kc_isManF hP (Or.inl h), pq_isManF R0 hA (Or.inl h)]; exact ⟨_, _, rfl, rfl, Q0⟩
  · rw [kc_isManF hP (Or.inr h), pq_isManF R0 hA (Or.inr h)]; exact ⟨_, _, rfl, rfl, Q0⟩
  · rw [kc_isManT hP hA hj, pq_isManT R0 hA hj, kc_seen hP hQ hA hS hj, pq_seen R0 hA hS hj]; exact ⟨_, _, rfl, rfl, Q0⟩
theorem e_reads (hI : bm_Inv I J W) : ∀ a1 : Int32, ∃ v I2, f_X11_reads I a1 = some v ∧ f_X12_reads I a1 = some (v, I2) ∧ bm_Inv I2 J W := by
  intro a1
  obtain ⟨T, S, hF, hU, hG0, hG1, hT, hM, hK⟩ := id hI
  obtain ⟨hR, _, hP, hQ, _, _, hA, hS, _⟩ := hF
  have R0 : pp_R (bm_uI I 164 0 0) T := pr_164 hR
  have Q0 := iv_q (v := 0) hI
  unfold f_X11_reads f_X12_reads
  generalize bm_uI I 164 0 0 = I0 at R0 Q0 ⊢
  have h8 := hA.1
  rcases pk_ix a1 (n := T 0) (by omega) with h | h | ⟨j, hj, rfl⟩
  · rw [kc_isManF hP (Or.inl h), pq_isManF R0 hA (Or.inl h)]; exact ⟨_, _, rfl, rfl, Q0⟩
  · rw [kc_isManF hP (Or.inr h), pq_isManF R0 hA (Or.inr h)]; exact ⟨_, _, rfl, rfl, Q0⟩
  · rw [kc_isManT hP hA hj, pq_isManT R0 hA hj, kc_range hP hQ hA hS hj, pq_readers R0 hA hS hj]
    simp only [Option.bind_some, ↓reduceIte]
    rw [kc_readers0 hP hQ hA hS hj]
    exact ⟨_, _, rfl, rfl, Q0⟩
theorem e_foes (hI : bm_Inv I J W) : ∀ a1 : Int32, ∃ v I2, f_X11_foes I a1 = some v ∧ f_X12_foes I a1 = some (v, I2) ∧ bm_Inv I2 J W := by
  intro a1
  obtain ⟨T, S, hF, hU, hG0, hG1, hT, hM, hK⟩ := id hI
  obtain ⟨hR, _, hP, hQ, _, _, hA, hS, _⟩ := hF
  have R0 : pp_R (bm_uI I 164 0 0) T := pr_164 hR
  have Q0 := iv_q (v := 0) hI
  unfold f_X11_foes f_X12_foes
  generalize bm_uI I 164 0 0 = I0 at R0 Q0 ⊢
  have h8 := hA.1
  rcases pk_ix a1 (n := T 0) (by omega) with h | h | ⟨j, hj, rfl⟩
  · rw [kc_isManF hP (Or.inl h), pq_isManF R0 hA (Or.inl h)]; exact ⟨_, _, rfl, rfl, Q0⟩
  · rw [kc_isManF hP (Or.inr h), pq_isManF R0 hA (Or.inr h)]; exact ⟨_, _, rfl, rfl, Q0⟩
  · have hM := hS.2.2.2.2 j hj
    rw [kc_isManT hP hA hj, pq_isManT R0 hA hj]
    simp (disch := omega) only [pn_l0, pn_l1, pn_l2, pn_l3, pn_l4, pn_l5, pn_l6, pn_l7, pn_l8, pn_l9, pn_l10, pn_l11, pn_l12, pn_l13, pn_l15, pn_l20, pn_l21, pn_l22, pn_l23, pn_l24, pn_l30, pn_l31, pn_l32, pn_l39, pn_l40, pn_l41, pn_l45, pn_l46, pn_l48, pn_l53, pn_l57, pn_l58, pn_l59, pn_l60, pn_l61, pn_l62, pn_l63, pn_l64, pn_l65, pn_l66, pn_l74, pn_l82, pn_l90, pn_l97, pn_l98, pn_l99, pn_l106, pn_l107, pn_l120, pn_l122, pn_l135, pn_l255, pn_l287, pn_l300, pn_l315, pn_l360, pn_l400, pn_l900, pn_l940, pn_l1000, pn_l1000000, pn_mone, nI_add, pk_mul, nI_clamp, bm_ixk, pn_ltI, pn_leI, pn_eqI, pn_xeq, pn_xeq2, pn_xx, pn_xltI, pn_xleI, pn_xgtI, pn_xgeI, pn_xadd, pn_subx, pn_addx, Option.bind_some, ↓reduceIte, R0, pg_asleep26 hQ, pg_sooted26 hQ, pg_pass26 hQ, pg_hour26 hQ, pg_lifts26 hQ, pg_x26 hQ, pg_y26 hQ, pg_heard26 hQ, pg_order26 hQ, pg_lost26 hQ]
    rw [kc_foes hP hQ hA hS hj hM.1 hM.2.1, pq_foes R0 hA hS hj hM.1 hM.2.1]
    exact ⟨_, _, rfl, rfl, Q0⟩
theorem e_order (hI : bm_Inv I J W) : ∀ a1 a2 : Int32, ∃ v I2, f_X11_order I a1 a2 = some v ∧ f_X12_order I a1 a2 = some (v, I2) ∧ bm_Inv I2 J W := by
  intro a1 a2
  obtain ⟨T, S, hF, hU, hG0, hG1, hT, hM, hK⟩ := id hI
  obtain ⟨hR, _, hP, hQ, _, _, hA, hS, _⟩ := hF
  have R0 : pp_R (bm_uI I 164 0 0) T := pr_164 hR
  have Q0 := iv_q (v := 0) hI
  unfold f_X11_order f_X12_order
  generalize bm_uI I 164 0 0 = I0 at R0 Q0 ⊢
  have h7 := hA.2.1
  rcases pk_ix a1 (n := T 1) (by omega) with h | h | ⟨j, hj, rfl⟩
  · rw [kc_isOrderF hP (Or.inl h), pq_isOrderF R0 hA (Or.inl h)]; exact ⟨_, _, rfl, rfl, Q0⟩
  · rw [kc_isOrderF hP (Or.inr h), pq_isOrderF R0 hA (Or.inr h)]; exact ⟨_, _, rfl, rfl, Q0⟩
  · rw [kc_isOrderT hP hA hj, pq_isOrderT R0 hA hj, kc_havers_o hP hQ hA hS (by omega), pq_havers R0 hA hS (by omega)]
    simp only [Option.bind_some, ↓reduceIte]
    by_cases h0 : a2 = 0
    · rw [if_pos h0, if_pos h0]
      simp (disch := omega) only [pn_l0, pn_l1, pn_l2, pn_l3, pn_l4, pn_l5, pn_l6, pn_l7, pn_l8, pn_l9, pn_l10, pn_l11, pn_l12, pn_l13, pn_l15, pn_l20, pn_l21, pn_l22, pn_l23, pn_l24, pn_l30, pn_l31, pn_l32, pn_l39, pn_l40, pn_l41, pn_l45, pn_l46, pn_l48, pn_l53, pn_l57, pn_l58, pn_l59, pn_l60, pn_l61, pn_l62, pn_l63, pn_l64, pn_l65, pn_l66, pn_l74, pn_l82, pn_l90, pn_l97, pn_l98, pn_l99, pn_l106, pn_l107, pn_l120, pn_l122, pn_l135, pn_l255, pn_l287, pn_l300, pn_l315, pn_l360, pn_l400, pn_l900, pn_l940, pn_l1000, pn_l1000000, pn_mone, nI_add, pk_mul, nI_clamp, bm_ixk, pn_ltI, pn_leI, pn_eqI, pn_xeq, pn_xeq2, pn_xx, pn_xltI, pn_xleI, pn_xgtI, pn_xgeI, pn_xadd, pn_subx, pn_addx, Option.bind_some, ↓reduceIte, R0, pa_first hP]
      exact ⟨_, _, rfl, rfl, Q0⟩
    · rw [if_neg h0, if_neg h0]
      by_cases h1 : a2 = 1
      · rw [if_pos h1, if_pos h1]
        simp (disch := omega) only [pn_l0, pn_l1, pn_l2, pn_l3, pn_l4, pn_l5, pn_l6, pn_l7, pn_l8, pn_l9, pn_l10, pn_l11, pn_l12, pn_l13, pn_l15, pn_l20, pn_l21, pn_l22, pn_l23, pn_l24, pn_l30, pn_l31, pn_l32, pn_l39, pn_l40, pn_l41, pn_l45, pn_l46, pn_l48, pn_l53, pn_l57, pn_l58, pn_l59, pn_l60, pn_l61, pn_l62, pn_l63, pn_l64, pn_l65, pn_l66, pn_l74, pn_l82, pn_l90, pn_l97, pn_l98, pn_l99, pn_l106, pn_l107, pn_l120, pn_l122, pn_l135, pn_l255, pn_l287, pn_l300, pn_l315, pn_l360, pn_l400, pn_l900, pn_l940, pn_l1000, pn_l1000000, pn_mone, nI_add, pk_mul, nI_clamp, bm_ixk, pn_ltI, pn_leI, pn_eqI, pn_xeq, pn_xeq2, pn_xx, pn_xltI, pn_xleI, pn_xgtI, pn_xgeI, pn_xadd, pn_subx, pn_addx, Option.bind_some, ↓reduceIte, R0, pa_second hP]
        exact ⟨_, _, rfl, rfl, Q0⟩
      · rw [if_neg h1, if_neg h1]
        by_cases h2 : a2 = 2
        · rw [if_pos h2, if_pos h2]; exact ⟨_, _, rfl, rfl, Q0⟩
        · rw [if_neg h2, if_neg h2]; exact ⟨_, _, rfl, rfl, Q0⟩
/-- a sum -/
def pt_sum (n : Nat) (f : Nat → Nat) : Nat := match n with
  | 0 => 0
  | k + 1 => pt_sum k f + f k
theorem e_now (hI : bm_Inv I J W) : ∀ a1 : Int32, ∃ v I2, f_X11_now I a1 = some v ∧ f_X12_now I a1 = some (v, I2) ∧ bm_Inv I2 J W := by
  intro a1
  obtain ⟨T, S, hF, hU, hG0, hG1, hT, hM, hK⟩ := id hI
  obtain ⟨hR, _, hP, hQ, _, _, hA, hS, _⟩ := hF
  have R0 : pp_R (bm_uI I 164 0 0) T := pr_164 hR
  have Q0 := iv_q (v := 0) hI
  unfold f_X11_now f_X12_now
  generalize bm_uI I 164 0 0 = I0 at R0 Q0 ⊢
  have h8 := hA.1
  have hl : f_X12_now_l9 I0 a1 1000 0 0 = some (nI (pt_sum (T 0) (fun j => T (98 + j)))) := by
    refine pl_row (F := fun k j s => f_X12_now_l9 I0 a1 k s (nI j)) (n := T 0) (fun j => nI (pt_sum j (fun j => T (98 + j)))) ?_ ?_ 1000 (by omega)
    · intro k
      show f_X12_now_l9 _ a1 (k + 1) _ (nI (T 0)) = _
      rw [f_X12_now_l9, R0 0 (by omega), if_pos (Int32.le_refl _)]
    · intro k j hj
      show f_X12_now_l9 _ a1 (k + 1) _ (nI j) = f_X12_now_l9 _ a1 k _ (nI (j + 1))
      rw [f_X12_now_l9]
      simp (disch := omega) only [pn_l0, pn_l1, pn_l2, pn_l3, pn_l4, pn_l5, pn_l6, pn_l7, pn_l8, pn_l9, pn_l10, pn_l11, pn_l12, pn_l13, pn_l15, pn_l20, pn_l21, pn_l22, pn_l23, pn_l24, pn_l30, pn_l31, pn_l32, pn_l39, pn_l40, pn_l41, pn_l45, pn_l46, pn_l48, pn_l53, pn_l57, pn_l58, pn_l59, pn_l60, pn_l61, pn_l62, pn_l63, pn_l64, pn_l65, pn_l66, pn_l74, pn_l82, pn_l90, pn_l97, pn_l98, pn_l99, pn_l106, pn_l107, pn_l120, pn_l122, pn_l135, pn_l255, pn_l287, pn_l300, pn_l315, pn_l360, pn_l400, pn_l900, pn_l940, pn_l1000, pn_l1000000, pn_mone, nI_add, pk_mul, nI_clamp, bm_ixk, pn_ltI, pn_leI, pn_eqI, pn_xeq, pn_xeq2, pn_xx, pn_xltI, pn_xleI, pn_xgtI, pn_xgeI, pn_xadd, pn_subx, pn_addx, Option.bind_some, ↓reduceIte, R0, Nat.not_le.mpr hj]
      rfl
  have hk : f_X8_allLost I = some (nI (pt_sum (T 0) (fun j => T (98 + j)))) := by
    have : f_X8_allLost_l4 I 1000 0 0 = some (nI (pt_sum (T 0) (fun j => T (98 + j)))) := by
      refine pl_row (F := fun k j s => f_X8_allLost_l4 I k s (nI j)) (n := T 0) (fun j => nI (pt_sum j (fun j => T (98 + j)))) ?_ ?_ 1000 (by omega)
      · intro k
        show f_X8_allLost_l4 _ (k + 1) _ (nI (T 0)) = _
        rw [f_X8_allLost_l4, pa_men hP, if_pos (Int32.le_refl _)]
      · intro k j hj
        show f_X8_allLost_l4 _ (k + 1) _ (nI j) = f_X8_allLost_l4 _ k _ (nI (j + 1))
        rw [f_X8_allLost_l4]
        simp (disch := omega) only [pn_l0, pn_l1, pn_l2, pn_l3, pn_l4, pn_l5, pn_l6, pn_l7, pn_l8, pn_l9, pn_l10, pn_l11, pn_l12, pn_l13, pn_l15, pn_l20, pn_l21, pn_l22, pn_l23, pn_l24, pn_l30, pn_l31, pn_l32, pn_l39, pn_l40, pn_l41, pn_l45, pn_l46, pn_l48, pn_l53, pn_l57, pn_l58, pn_l59, pn_l60, pn_l61, pn_l62, pn_l63, pn_l64, pn_l65, pn_l66, pn_l74, pn_l82, pn_l90, pn_l97, pn_l98, pn_l99, pn_l106, pn_l107, pn_l120, pn_l122, pn_l135, pn_l255, pn_l287, pn_l300, pn_l315, pn_l360, pn_l400, pn_l900, pn_l940, pn_l1000, pn_l1000000, pn_mone, nI_add, pk_mul, nI_clamp, bm_ixk, pn_ltI, pn_leI, pn_eqI, pn_xeq, pn_xeq2, pn_xx, pn_xltI, pn_xleI, pn_xgtI, pn_xgeI, pn_xadd, pn_subx, pn_addx, Option.bind_some, ↓reduceIte, pa_men hP, pg_asleep26 hQ, pg_sooted26 hQ, pg_pass26 hQ, pg_hour26 hQ, pg_lifts26 hQ, pg_x26 hQ, pg_y26 hQ, pg_heard26 hQ, pg_order26 hQ, pg_lost26 hQ, Nat.not_le.mpr hj]
        rfl
    unfold f_X8_allLost
    rw [this]; rfl
  rw [hl, hk, kc_orderly hP hQ hA hS, pq_orderly R0 hA hS, pg_hour26 hQ, pg_asleep26 hQ, pg_sooted26 hQ, pg_pass26 hQ, pg_lifts26 hQ]
  simp only [Option.bind_some]
  rw [R0 61 (by omega), R0 62 (by omega), R0 63 (by omega), R0 64 (by omega), R0 65 (by omega)]
  by_cases h0 : a1 = 0
  · rw [if_pos h0, if_pos h0]; exact ⟨_, _, rfl, rfl, Q0⟩
  rw [if_neg h0, if_neg h0]
  by_cases h1 : a1 = 1
  · rw [if_pos h1, if_pos h1]; exact ⟨_, _, rfl, rfl, Q0⟩
  rw [if_neg h1, if_neg h1]
  by_cases h2 : a1 = 2
  · rw [if_pos h2, if_pos h2]; exact ⟨_, _, rfl, rfl, Q0⟩
  rw [if_neg h2, if_neg h2]
  by_cases h3 : a1 = 3
  · rw [if_pos h3, if_pos h3]; exact ⟨_, _, rfl, rfl, Q0⟩
  rw [if_neg h3, if_neg h3]
  by_cases h4 : a1 = 4
  · rw [if_pos h4, if_pos h4]; exact ⟨_, _, rfl, rfl, Q0⟩
  rw [if_neg h4, if_neg h4]
  by_cases h5 : a1 = 5
  · rw [if_pos h5, if_pos h5]; exact ⟨_, _, rfl, rfl, Q0⟩
  rw [if_neg h5, if_neg h5]
  by_cases h6 : a1 = 6
  · rw [if_pos h6, if_pos h6]; exact ⟨_, _, rfl, rfl, Q0⟩
  rw [if_neg h6, if_neg h6]; exact ⟨_, _, rfl, rfl, Q0⟩
theorem e_unrest (hI : bm_Inv I J W) : ∃ v I2, f_X11_unrest I = some v ∧ f_X12_unrest I = some (v, I2) ∧ bm_Inv I2 J W := by
  obtain ⟨T, S, hF, hU, hG0, hG1, hT, hM, hK⟩ := id hI
  obtain ⟨hR, _, hP, hQ, _, _, hA, hS, _⟩ := hF
  have R0 : pp_R (bm_uI I 164 0 0) T := pr_164 hR
  have Q0 := iv_q (v := 0) hI
  unfold f_X11_unrest f_X12_unrest
  generalize bm_uI I 164 0 0 = I0 at R0 Q0 ⊢
  have h8 := hA.1
  have hq : f_X12_unrest_l9 I0 1000 0 0 = some (nI (pt_unrest T)) := by
    refine pl_set (F := f_X12_unrest_l9 I0) h8 ?_ ?_
    · intro q s
      rw [f_X12_unrest_l9, R0 0 (by omega), if_pos (Int32.le_refl _)]
    · intro q s j hj
      have hu := hA.2.2.2.2.2.2.2.2.2.2.1 j hj
      have b1 := pt_brow_le hA hj
      rw [f_X12_unrest_l9]
      simp (disch := omega) only [pn_l0, pn_l1, pn_l2, pn_l3, pn_l4, pn_l5, pn_l6, pn_l7, pn_l8, pn_l9, pn_l10, pn_l11, pn_l12, pn_l13, pn_l15, pn_l20, pn_l21, pn_l22, pn_l23, pn_l24, pn_l30, pn_l31, pn_l32, pn_l39, pn_l40, pn_l41, pn_l45, pn_l46, pn_l48, pn_l53, pn_l57, pn_l58, pn_l59, pn_l60, pn_l61, pn_l62, pn_l63, pn_l64, pn_l65, pn_l66, pn_l74, pn_l82, pn_l90, pn_l97, pn_l98, pn_l99, pn_l106, pn_l107, pn_l120, pn_l122, pn_l135, pn_l255, pn_l287, pn_l300, pn_l315, pn_l360, pn_l400, pn_l900, pn_l940, pn_l1000, pn_l1000000, pn_mone, nI_add, pk_mul, nI_clamp, bm_ixk, pn_ltI, pn_leI, pn_eqI, pn_xeq, pn_xeq2, pn_xx, pn_xltI, pn_xleI, pn_xgtI, pn_xgeI, pn_xadd, pn_subx, pn_addx, Option.bind_some, ↓reduceIte, R0, Nat.not_le.mpr hj, pn_or, pn_shlN, Nat.le_zero, Nat.or_zero]
      by_cases h : T (31 + j) = 0
      · simp [h]
      · have b2 := pt_brow_le hA (m := T (31 + j) - 1) (by omega)
        rw [pn_xp (by omega), pq_brow R0 hA hS hj, pq_brow R0 hA hS (m := T (31 + j) - 1) (by omega)]
        simp (disch := omega) only [pn_l0, pn_l1, pn_l2, pn_l3, pn_l4, pn_l5, pn_l6, pn_l7, pn_l8, pn_l9, pn_l10, pn_l11, pn_l12, pn_l13, pn_l15, pn_l20, pn_l21, pn_l22, pn_l23, pn_l24, pn_l30, pn_l31, pn_l32, pn_l39, pn_l40, pn_l41, pn_l45, pn_l46, pn_l48, pn_l53, pn_l57, pn_l58, pn_l59, pn_l60, pn_l61, pn_l62, pn_l63, pn_l64, pn_l65, pn_l66, pn_l74, pn_l82, pn_l90, pn_l97, pn_l98, pn_l99, pn_l106, pn_l107, pn_l120, pn_l122, pn_l135, pn_l255, pn_l287, pn_l300, pn_l315, pn_l360, pn_l400, pn_l900, pn_l940, pn_l1000, pn_l1000000, pn_mone, nI_add, pk_mul, nI_clamp, bm_ixk, pn_ltI, pn_leI, pn_eqI, pn_xeq, pn_xeq2, pn_xx, pn_xltI, pn_xleI, pn_xgtI, pn_xgeI, pn_xadd, pn_subx, pn_addx, Option.bind_some, ↓reduceIte, h]
        have hp : 0 < T (31 + j) := by omega
        by_cases h2 : pt_brow T j ≤ pt_brow T (T (31 + j) - 1)
        · have h3 : ¬ pt_brow T (T (31 + j) - 1) < pt_brow T j := by omega
          simp [h2, h3]
        · have h3 : pt_brow T (T (31 + j) - 1) < pt_brow T j := by omega
          simp [h2, h3, hp]
  have hk : f_X11_unrest_l4 I 1000 0 0 = some (nI (pt_unrest T)) := by
    refine pl_set (F := f_X11_unrest_l4 I) h8 ?_ ?_
    · intro q s
      rw [f_X11_unrest_l4, pa_men hP, if_pos (Int32.le_refl _)]
    · intro q s j hj
      have hu := hA.2.2.2.2.2.2.2.2.2.2.1 j hj
      have b1 := pt_brow_le hA hj
      rw [f_X11_unrest_l4]
      simp (disch := omega) only [pn_l0, pn_l1, pn_l2, pn_l3, pn_l4, pn_l5, pn_l6, pn_l7, pn_l8, pn_l9, pn_l10, pn_l11, pn_l12, pn_l13, pn_l15, pn_l20, pn_l21, pn_l22, pn_l23, pn_l24, pn_l30, pn_l31, pn_l32, pn_l39, pn_l40, pn_l41, pn_l45, pn_l46, pn_l48, pn_l53, pn_l57, pn_l58, pn_l59, pn_l60, pn_l61, pn_l62, pn_l63, pn_l64, pn_l65, pn_l66, pn_l74, pn_l82, pn_l90, pn_l97, pn_l98, pn_l99, pn_l106, pn_l107, pn_l120, pn_l122, pn_l135, pn_l255, pn_l287, pn_l300, pn_l315, pn_l360, pn_l400, pn_l900, pn_l940, pn_l1000, pn_l1000000, pn_mone, nI_add, pk_mul, nI_clamp, bm_ixk, pn_ltI, pn_leI, pn_eqI, pn_xeq, pn_xeq2, pn_xx, pn_xltI, pn_xleI, pn_xgtI, pn_xgeI, pn_xadd, pn_subx, pn_addx, Option.bind_some, ↓reduceIte, pa_men hP, pa_under hP, Nat.not_le.mpr hj, pn_or, pn_shlN]
      by_cases h : T (31 + j) = 0
      · simp [h]
      · have b2 := pt_brow_le hA (m := T (31 + j) - 1) (by omega)
        rw [pn_xp (by omega), kc_brow hP hQ hA hS hj, kc_brow hP hQ hA hS (m := T (31 + j) - 1) (by omega)]
        simp (disch := omega) only [pn_l0, pn_l1, pn_l2, pn_l3, pn_l4, pn_l5, pn_l6, pn_l7, pn_l8, pn_l9, pn_l10, pn_l11, pn_l12, pn_l13, pn_l15, pn_l20, pn_l21, pn_l22, pn_l23, pn_l24, pn_l30, pn_l31, pn_l32, pn_l39, pn_l40, pn_l41, pn_l45, pn_l46, pn_l48, pn_l53, pn_l57, pn_l58, pn_l59, pn_l60, pn_l61, pn_l62, pn_l63, pn_l64, pn_l65, pn_l66, pn_l74, pn_l82, pn_l90, pn_l97, pn_l98, pn_l99, pn_l106, pn_l107, pn_l120, pn_l122, pn_l135, pn_l255, pn_l287, pn_l300, pn_l315, pn_l360, pn_l400, pn_l900, pn_l940, pn_l1000, pn_l1000000, pn_mone, nI_add, pk_mul, nI_clamp, bm_ixk, pn_ltI, pn_leI, pn_eqI, pn_xeq, pn_xeq2, pn_xx, pn_xltI, pn_xleI, pn_xgtI, pn_xgeI, pn_xadd, pn_subx, pn_addx, Option.bind_some, ↓reduceIte, h]
        have hp : 0 < T (31 + j) := by omega
        by_cases h2 : pt_brow T j ≤ pt_brow T (T (31 + j) - 1)
        · have h3 : ¬ pt_brow T (T (31 + j) - 1) < pt_brow T j := by omega
          simp [h2, h3]
        · have h3 : pt_brow T (T (31 + j) - 1) < pt_brow T j := by omega
          simp [h2, h3, hp]
  rw [hq, hk]
  exact ⟨_, _, rfl, rfl, Q0⟩
end EZ
