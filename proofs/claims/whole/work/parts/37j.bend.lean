/-! a book, whole: over the class's memory and any memory of the reference -/
theorem pq_l239 {I0 : bm_TI} {y1 y2 : Int32} {T : pt_T} {u : Nat} (hu : 1 ≤ u) (h8 : u ≤ 8) (h24 : I0 164 24 = nI u) (hB : ∀ k, k < 45 → I0 173 k = nI (T (61 + k))) : ∃ I', f_X12_book_l239 y1 y2 1000 0 I0 = some I' ∧ (∀ k, k < 45 → I' 172 (45 * (u - 1) + k) = nI (T (61 + k))) ∧ (∀ k, k < 45 * (u - 1) → I' 172 k = I0 172 k) ∧ ∀ o k, o ≠ 172 → I' o k = I0 o k := by
  have key : ∀ (i j k : Nat) (I : bm_TI), j + i = 45 → i < k → (∀ q, q < j → I 172 (45 * (u - 1) + q) = nI (T (61 + q))) → (∀ q, q < 45 * (u - 1) → I 172 q = I0 172 q) → (∀ o q, o ≠ 172 → I o q = I0 o q) → ∃ I', f_X12_book_l239 y1 y2 k (nI j) I = some I' ∧ (∀ k, k < 45 → I' 172 (45 * (u - 1) + k) = nI (T (61 + k))) ∧ (∀ k, k < 45 * (u - 1) → I' 172 k = I0 172 k) ∧ ∀ o k, o ≠ 172 → I' o k = I0 o k := by
    intro i
    induction i with
    | zero =>
      intro j k I hj hk h0 hl hf
      obtain ⟨k, rfl⟩ : ∃ q, k = q + 1 := ⟨k - 1, by omega⟩
      have : j = 45 := by omega
      subst this
      rw [f_X12_book_l239, if_pos (by decide)]
      exact ⟨I, rfl, h0, hl, hf⟩
    | succ i ih =>
      intro j k I hj hk h0 hl hf
      obtain ⟨k, rfl⟩ : ∃ q, k = q + 1 := ⟨k - 1, by omega⟩
      have e1 : (45 : Int32) * (I 164 24 - 1) + nI j = nI (45 * (u - 1) + j) := by
        rw [hf 164 24 (by omega), h24, pn_pred hu, show (45 : Int32) = nI 45 from rfl, pk_mul, nI_add]
      rw [f_X12_book_l239, if_neg (show ¬ (45 : Int32) ≤ nI j from nI_ge (b := 45) (by omega) (by omega)), e1, if_pos (bm_ixk (show j < 45 by omega) (by omega)), if_pos (bm_ixk (show 45 * (u - 1) + j < 360 by omega) (by omega)), nI_clamp (by omega), nI_clamp (by omega), nI_1]
      refine ih (j + 1) k _ (by omega) (by omega) (fun q hq => ?_) (fun q hq => ?_) (fun o q ho => (pn_uI_ne ho).trans (hf o q ho))
      · by_cases e : q = j
        · subst e
          rw [pn_uI_hit rfl, hf 173 q (by omega)]; exact hB q (by omega)
        · rw [pn_uI_ne2 (by omega)]; exact h0 q (by omega)
      · rw [pn_uI_ne2 (by omega)]; exact hl q hq
  exact key 45 0 1000 I0 (by omega) (by omega) (fun q hq => by omega) (fun _ _ => rfl) (fun _ _ _ => rfl)
def bf_c (I I1 : bm_TI) : Prop := ∀ o k, o ≠ 3 → (o < 26 ∨ 97 < o) → ¬ (o = 1 ∧ k = 1) → ¬ (o = 0 ∧ k = 13) → (o < 147 ∨ 150 < o) → I1 o k = I o k
def bf_r (I I2 : bm_TI) : Prop := ∀ o k, (o ≠ 166 ∨ k < 61 ∨ 106 ≤ k) → o ≠ 168 → (o < 171 ∨ 173 < o) → o ≠ 175 → (o ≠ 164 ∨ k = 1 ∨ (5 < k ∧ k < 11) ∨ k = 17 ∨ (18 < k ∧ k ≠ 24 ∧ k ≠ 34 ∧ k ≠ 36)) → I2 o k = I o k
def bf_T (I I1 : bm_TI) (r1 I2 : bm_TI) : Prop := (I2 164 36 = 1 ∧ ∀ i, i < 4 → I1 147 (4 + i) = I2 175 i) ∨ (I2 164 36 = r1 164 36 ∧ ∀ i, i < 4 → I1 147 (4 + i) = I 147 (4 + i) ∧ I2 175 i = r1 175 i)
def bf_U (I1 I2 : bm_TI) (T2 : pt_T) : Prop := ∃ (u o : Nat) (U : Nat → pt_T), u ≤ 8 ∧ o < 8 ∧ pp_C I1 u o U ∧ pp_D I2 u U ∧ ∀ i, i < u → pt_VS (U i) ∧ pt_eA T2 (U i)
def bf_R (T : pt_T) (I : bm_TI) (J : bm_TJ) (W : bm_TR) (r : zc_R) (I1 : bm_TI) (J1 : bm_TJ) (W1 : bm_TR) (I2 : bm_TI) (J2 : bm_TJ) : Prop := ∃ T2, bf_U I1 I2 T2 ∧ pp_S I1 26 T2 ∧ pp_R I2 T2 ∧ pt_VS T2 ∧ pt_eA T T2 ∧ I1 1 1 = 0 ∧ I2 164 2 = 0 ∧ I1 0 13 = I2 164 15 ∧ bf_T I I1 r.1 I2 ∧ bf_c I I1 ∧ bf_r r.1 I2 ∧ fk_J J J1 ∧ fk_W W W1 ∧ rk_J r.2 J2
theorem bk_all {I : bm_TI} {J : bm_TJ} {W : bm_TR} {r : zc_R} {n a u o : Nat} {B : Nat → Nat} {T : pt_T} {U : Nat → pt_T} (ha : a ≤ 1) (hn : n ≤ 940) (h11 : I 1 1 = nI n) (hB : ∀ k, k < n → B k < 256 ∧ I 2 k = nI (B k)) (r2 : r.1 164 2 = nI n) (rB : ∀ k, k < n → r.1 165 k &&& 255 = nI (B k)) (hK : iv_K r.2) (hN : bk_A T (I, J, W) r) (hA : pt_VA T) (hS : pt_VS T) (hP : pp_A I 4 T) (hQ : pp_S I 26 T) (hR : pp_R r.1 T) (hu : u ≤ 8) (ho : o < 8) (hC : pp_C I u o U) (hD : pp_D r.1 u U) (hV : ∀ i, i < u → pt_VS (U i) ∧ pt_eA T (U i)) : ∃ v I1 J1 W1 I2 J2, f_X11_book I J W (nI a) = some (v, I1, J1, W1) ∧ f_X12_book r.1 r.2 (nI a) = some (v, I2, J2) ∧ bf_R T I J W r I1 J1 W1 I2 J2 := by
  have h01 : nI a = 0 ∨ (¬ nI a = 0 ∧ nI a = 1) := by
    rcases (show a = 0 ∨ a = 1 by omega) with rfl | rfl
    · exact Or.inl rfl
    · exact Or.inr ⟨by decide, rfl⟩
  have hin : f_X12_isIn (nI a) 0 1 = true := pq_rngT (lo := 0) (hi := 1) (by omega) (Nat.zero_le _) ha
  rcases qb_read (y1 := nI a) hn h11 hB r2 rB hK hN with ⟨c', r', N, e, d, c9, r15, hbP, gc, gr⟩ | ⟨c', r', e, d, zf, gc, gr⟩
  · obtain ⟨_, hN40, c3, r34, hb1⟩ := hbP
    generalize hX : bm_uI (bm_uI c'.1 1 1 0) 0 13 (bm_uI c'.1 1 1 0 3 9) = X
    have xf : ∀ o k, ¬ (o = 1 ∧ k = 1) → ¬ (o = 0 ∧ k = 13) → X o k = c'.1 o k := fun o k h1 h2 => by rw [← hX, pn_uI_off (by omega), pn_uI_off (by omega)]
    have x11 : X 1 1 = 0 := by rw [← hX, pn_uI_ne (by omega), pn_uI_hit rfl]
    have x13 : X 0 13 = 0 := by rw [← hX, pn_uI_hit rfl, pn_uI_ne (by omega)]; exact c9
    have xI : ∀ o k, o ≠ 3 → ¬ (o = 1 ∧ k = 1) → ¬ (o = 0 ∧ k = 13) → (o < 147 ∨ 150 < o) → X o k = I o k := fun o k h0 h1 h2 h3 => (xf o k h1 h2).trans (gc.1 o k h0 (by omega))
    have gR : ∀ o k, o ≠ 168 → (o ≠ 164 ∨ k = 1 ∨ (5 < k ∧ k < 11) ∨ k = 17 ∨ (18 < k ∧ k ≠ 34)) → r'.1 o k = r.1 o k := gr.1
    obtain ⟨X1, Yt, Yc, Y1, T', w, L, eT, eY, e89, e111, eO, s33, s26, sA, sR, sV, sE, sL, sz, s5, t1, s4, s6, s7, y173, fX, fY⟩ := bk_try (c := (X, c'.2)) (r := r') (y1 := nI a) hN40 hA hS (pa_congr' (fun o k h1 h2 => xI o k (by omega) (by omega) (by omega) (by omega)) hP) (ps_congr (fun k => xI 26 k (by omega) (by omega) (by omega) (by omega)) (fun c k h1 h2 => xI c k (by omega) (by omega) (by omega) (by omega)) hQ) (fun k hk => by rw [gR 166 k (by omega) (by omega)]; exact hR k hk) (by dsimp only; rw [xf 147 3 (by omega) (by omega)]; exact c3) r34 (fun i hi => by
      obtain ⟨v, m, q, p⟩ := hb1 i hi
      refine ⟨v, m, q, ?_⟩
      dsimp only
      rw [xf 148 i (by omega) (by omega), xf 149 i (by omega) (by omega), xf 150 i (by omega) (by omega)]
      exact p)
    have eT' : f_X11_tryBook X = some (w, X1) := eT
    have fX' : ∀ o k, (o < 33 ∨ 39 < o) → (o ≠ 147 ∨ k < 4 ∨ 7 < k) → X1 o k = X o k := fX
    generalize hZ : bm_uI (bm_uI (bm_uI Y1 175 2 (Y1 166 61)) 175 3 (nI (pt_orderly T'))) 164 36 (bm_bi true) = Z
    have zf : ∀ o k, (o ≠ 175 ∨ k < 2 ∨ 3 < k) → (o ≠ 164 ∨ k ≠ 36) → Z o k = Y1 o k := fun o k h1 h2 => by rw [← hZ, pn_uI_off (by omega), pn_uI_off (by omega), pn_uI_off (by omega)]
    have z36 : Z 164 36 = 1 := by rw [← hZ, pn_uI_hit rfl]; rfl
    have z2 : Z 175 2 = nI (T' 61) := by rw [← hZ, pn_uI_ne (by omega), pn_uI_ne2 (by omega), pn_uI_hit rfl]; exact sR 61 (by omega)
    have z3 : Z 175 3 = nI (pt_orderly T') := by rw [← hZ, pn_uI_ne (by omega), pn_uI_hit rfl]
    have z1 : Z 175 1 = nI L := by rw [zf 175 1 (by omega) (by omega)]; exact t1
    have zR : pp_R Z T' := fun k hk => by rw [zf 166 k (by omega) (by omega)]; exact sR k hk
    have told : ∀ i, i < 4 → X1 147 (4 + i) = Z 175 i := fun i hi => by
      rcases (show i = 0 ∨ i = 1 ∨ i = 2 ∨ i = 3 by omega) with rfl | rfl | rfl | rfl
      · rw [zf 175 0 (by omega) (by omega)]; exact s4
      · rw [z1]; exact s5
      · rw [z2]; exact s6
      · rw [z3]; exact s7
    have fI : ∀ o k, (o < 33 ∨ 39 < o) → o ≠ 3 → ¬ (o = 1 ∧ k = 1) → ¬ (o = 0 ∧ k = 13) → (o < 147 ∨ 150 < o) → X1 o k = I o k := fun o k h0 h1 h2 h3 h4 => (fX' o k h0 (by omega)).trans (xI o k h1 h2 h3 h4)
    have fZ : ∀ o k, (o ≠ 166 ∨ k < 61 ∨ 106 ≤ k) → o ≠ 168 → o ≠ 171 → o ≠ 173 → o ≠ 175 → (o ≠ 164 ∨ k = 1 ∨ (5 < k ∧ k < 11) ∨ k = 17 ∨ (18 < k ∧ k ≠ 34 ∧ k ≠ 36)) → Z o k = r.1 o k := fun o k h1 h2 h3 h4 h5 h6 => (zf o k (by omega) (by omega)).trans ((fY o k h1 h3 h4 h5).trans (gR o k h2 (by omega)))
    have z22 : Z 164 2 = 0 := by rw [zf 164 2 (by omega) (by omega), fY 164 2 (by omega) (by omega) (by omega) (by omega)]; exact gr.2.1
    have z15 : Z 164 15 = 0 := by rw [zf 164 15 (by omega) (by omega), fY 164 15 (by omega) (by omega) (by omega) (by omega)]; exact r15
    have X11 : X1 1 1 = 0 := by rw [fX' 1 1 (by omega) (by omega)]; exact x11
    have X13 : X1 0 13 = 0 := by rw [fX' 0 13 (by omega) (by omega)]; exact x13
    have z173 : ∀ k, k < 45 → Z 173 k = nI (T (61 + k)) := fun k hk => by rw [zf 173 k (by omega) (by omega)]; exact y173 k hk
    have zD : pp_D Z u U := pD_congr (fZ 164 24 (by omega) (by omega) (by omega) (by omega) (by omega) (by omega)) (fun k => fZ 172 k (by omega) (by omega) (by omega) (by omega) (by omega) (by omega)) hD
    have XC : pp_C X1 u o U := pC_congr (fun c k h1 h2 => fI c k (by omega) (by omega) (by omega) (by omega) (by omega)) hC
    have hcls : f_X11_book I J W (nI a) = if nI a = 1 then (if X1 147 5 ≤ 0 then some (w, X1, c'.2.1, c'.2.2) else (f_X11_settleTrial X1).bind fun v7 => some (w, v7, c'.2.1, c'.2.2)) else some (w, X1, c'.2.1, c'.2.2) := by
      obtain ⟨v1, b1, b2⟩ := Option.bind_eq_some_iff.mp e
      unfold f_X11_book
      rcases h01 with h0 | ⟨h0, h1⟩
      · rw [if_pos h0, b1]
        simp only [Option.bind_some]
        rw [b2]
        simp only [Option.bind_some]
        rw [hX, x13, if_pos rfl, eT']
        rfl
      · rw [if_neg h0, if_pos h1, b1]
        simp only [Option.bind_some]
        rw [b2]
        simp only [Option.bind_some]
        rw [hX, x13, if_pos rfl, eT']
        rfl
    have href : f_X12_book r.1 r.2 (nI a) = (if nI a = 1 then (if Z 175 1 ≤ 0 then (if nI a = 0 then (f_X12_back Z).bind fun v20 => some (w, v20, r'.2) else some (w, Z, r'.2)) else (f_X12_keep Z).bind fun v22 => (f_X12_book_l239 (nI a) w 1000 0 v22).bind fun y26 => if nI a = 0 then (f_X12_back y26).bind fun v27 => some (w, v27, r'.2) else some (w, y26, r'.2)) else (if nI a = 0 then (f_X12_back Z).bind fun v18 => some (w, v18, r'.2) else some (w, Z, r'.2))) := by
      obtain ⟨v1, b1, d⟩ := Option.bind_eq_some_iff.mp d
      obtain ⟨v3, b3, b4⟩ := Option.bind_eq_some_iff.mp d
      unfold f_X12_book
      rw [if_pos hin, b1]
      simp only [Option.bind_some]
      rw [b3]
      simp only [Option.bind_some]
      rw [b4]
      simp only [Option.bind_some]
      rw [eY]
      simp only [Option.bind_some]
      rw [e89]
      simp only [Option.bind_some]
      rw [e111]
      simp only [Option.bind_some]
      rw [eO]
      simp only [Option.bind_some]
      rw [hZ]
    rcases h01 with h0 | ⟨h0, h1⟩
    · have n1 : ¬ nI a = 1 := by rw [h0]; decide
      obtain ⟨Z', eB, bR, bF⟩ := pq_back zR (fun k hk => (sE k hk).symm) z173
      rw [if_neg n1] at hcls
      rw [if_neg n1, if_pos h0, eB] at href
      refine ⟨_, _, _, _, _, _, hcls, href, T, ⟨u, o, U, hu, ho, XC, ?_, hV⟩, s26, bR, hS, te_refl T, X11, ?_, ?_, Or.inl ⟨?_, fun i hi => ?_⟩, fun o k h1 h2 h3 h4 h5 => fI o k (by omega) h1 h3 h4 h5, fun o k h1 h2 h3 h4 h5 => ?_, gc.2.1, gc.2.2, gr.2.2⟩
      · exact pD_congr (bF 164 24 (by omega)) (fun k => bF 172 k (by omega)) zD
      · rw [bF 164 2 (by omega)]; exact z22
      · rw [bF 164 15 (by omega), z15]; exact X13
      · rw [bF 164 36 (by omega)]; exact z36
      · rw [bF 175 i (by omega)]; exact told i hi
      · rw [bF o k h1]; exact fZ o k h1 h2 (by omega) (by omega) h4 (by omega)
    · rw [if_pos h1] at hcls
      rw [if_pos h1, z1, if_neg h0] at href
      by_cases hL : L = 0
      · subst hL
        rw [s5, if_pos (show nI 0 ≤ 0 by decide)] at hcls
        rw [if_pos (show nI 0 ≤ 0 by decide)] at href
        have hTT := sz rfl
        subst hTT
        exact ⟨_, _, _, _, _, _, hcls, href, T', ⟨u, o, U, hu, ho, XC, zD, hV⟩, s26, zR, hS, te_refl T', X11, z22, X13.trans z15.symm, Or.inl ⟨z36, told⟩, fun o k h1 h2 h3 h4 h5 => fI o k (by omega) h1 h3 h4 h5, fun o k h1 h2 h3 h4 h5 => fZ o k h1 h2 (by omega) (by omega) h4 (by omega), gc.2.1, gc.2.2, gr.2.2⟩
      · have hgt : ¬ nI L ≤ 0 := nI_ge (b := L) (a := 0) (by omega) (by omega)
        have h8 := hA.1
        obtain ⟨X2, eS, q26, qC, qF⟩ := kc_settle (I := X1) h8 (by rw [sE 0 (by omega)]; exact h8) hu ho XC s26 s33
        obtain ⟨Z2, eK, kD, kF⟩ := pq_keep zR hu zD
        have hku : 1 ≤ pt_ku u ∧ pt_ku u ≤ 8 := by unfold pt_ku; split <;> omega
        obtain ⟨Z3, eQ, q1, q2, q3⟩ := pq_l239 (y1 := nI a) (y2 := w) (I0 := Z2) (T := T) hku.1 hku.2 kD.1 (fun k hk => by rw [kF 173 k (by omega) (by omega)]; exact z173 k hk)
        rw [s5, if_neg hgt, eS] at hcls
        rw [if_neg hgt, eK] at href
        simp only [Option.bind_some] at hcls href
        rw [eQ] at href
        simp only [Option.bind_some] at href
        rw [if_neg h0] at href
        have g3 : ∀ o k, o ≠ 172 → (o ≠ 164 ∨ k ≠ 24) → Z3 o k = Z o k := fun o k a1 a2 => (q3 o k a1).trans (kF o k a1 a2)
        refine ⟨_, _, _, _, _, _, hcls, href, T', ⟨pt_ku u, pt_ko u o, pt_kU u U T, pt_ku_le u hu, pt_ko_lt u o ho, qC, ⟨?_, fun i hi k hk => ?_⟩, pt_kU_V hu hS sE hV⟩, q26, fun k hk => ?_, sV, sE, ?_, ?_, ?_, Or.inl ⟨?_, fun i hi => ?_⟩, fun o k h1 h2 h3 h4 h5 => ?_, fun o k h1 h2 h3 h4 h5 => ?_, gc.2.1, gc.2.2, gr.2.2⟩
        · rw [q3 164 24 (by omega)]; exact kD.1
        · by_cases hi2 : i = pt_ku u - 1
          · subst hi2
            rw [q1 k hk]
            unfold pt_kU pt_ku
            by_cases hu8 : u < 8
            · rw [if_pos hu8, if_pos hu8, if_pos (by omega)]
            · rw [if_neg hu8, if_neg hu8, if_pos (by omega)]
          · rw [q2 _ (by omega), kD.2 i hi k hk]
            unfold pt_ku at hi hi2
            unfold pt_kU
            by_cases hu8 : u < 8
            · rw [if_pos hu8] at hi hi2
              rw [if_pos hu8, if_pos hu8, if_neg (by omega), if_neg (by omega)]
            · rw [if_neg hu8] at hi hi2
              rw [if_neg hu8, if_neg hu8, if_neg (by omega), if_neg (by omega)]
        · rw [g3 166 k (by omega) (by omega)]; exact zR k hk
        · rw [qF 1 1 (by omega)]; exact X11
        · rw [g3 164 2 (by omega) (by omega)]; exact z22
        · rw [qF 0 13 (by omega), g3 164 15 (by omega) (by omega), X13, z15]
        · rw [g3 164 36 (by omega) (by omega)]; exact z36
        · rw [qF 147 _ (by omega), g3 175 i (by omega) (by omega)]; exact told i hi
        · rw [qF o k (by omega)]; exact fI o k (by omega) h1 h3 h4 h5
        · rw [g3 o k (by omega) (by omega)]; exact fZ o k h1 h2 (by omega) (by omega) h4 (by omega)
  · obtain ⟨x, pl, hx1, hx4, hpl, k9, k10, q15, q16⟩ := zf
    generalize hX : bm_uI (bm_uI c'.1 1 1 0) 0 13 (bm_uI c'.1 1 1 0 3 9) = X
    have xf : ∀ o k, ¬ (o = 1 ∧ k = 1) → ¬ (o = 0 ∧ k = 13) → X o k = c'.1 o k := fun o k h1 h2 => by rw [← hX, pn_uI_off (by omega), pn_uI_off (by omega)]
    have x11 : X 1 1 = 0 := by rw [← hX, pn_uI_ne (by omega), pn_uI_hit rfl]
    have x13 : X 0 13 = nI x := by rw [← hX, pn_uI_hit rfl, pn_uI_ne (by omega)]; exact k9
    have xI : ∀ o k, o ≠ 3 → ¬ (o = 1 ∧ k = 1) → ¬ (o = 0 ∧ k = 13) → (o < 147 ∨ 150 < o ∨ (o = 147 ∧ k ≠ 3)) → X o k = I o k := fun o k h0 h1 h2 h3 => (xf o k h1 h2).trans (gc.1 o k h0 h3)
    have gR : ∀ o k, o ≠ 168 → (o ≠ 164 ∨ k = 1 ∨ (5 < k ∧ k < 11) ∨ k = 17 ∨ (18 < k ∧ k ≠ 34)) → r'.1 o k = r.1 o k := gr.1
    have hne : ¬ nI x = 0 := nI_ne0 (by omega) (by omega)
    have x310 : X 3 10 = nI pl := by rw [xf 3 10 (by omega) (by omega)]; exact k10
    have hcls : f_X11_book I J W (nI a) = some (-2 - nI pl, X, c'.2.1, c'.2.2) := by
      obtain ⟨v1, b1, b2⟩ := Option.bind_eq_some_iff.mp e
      unfold f_X11_book
      rcases h01 with h0 | ⟨h0, h1⟩
      · rw [if_pos h0, b1]
        simp only [Option.bind_some]
        rw [b2]
        simp only [Option.bind_some]
        rw [hX, x13, if_neg hne, x310]
      · rw [if_neg h0, if_pos h1, b1]
        simp only [Option.bind_some]
        rw [b2]
        simp only [Option.bind_some]
        rw [hX, x13, if_neg hne, x310]
    have href : f_X12_book r.1 r.2 (nI a) = some (-2 - nI pl, r'.1, r'.2) := by
      obtain ⟨v1, b1, d⟩ := Option.bind_eq_some_iff.mp d
      obtain ⟨v3, b3, b4⟩ := Option.bind_eq_some_iff.mp d
      unfold f_X12_book
      rw [if_pos hin, b1]
      simp only [Option.bind_some]
      rw [b3]
      simp only [Option.bind_some]
      rw [b4]
      simp only [Option.bind_some]
      rw [q16]
    refine ⟨_, _, _, _, _, _, hcls, href, T, ⟨u, o, U, hu, ho, ?_, ?_, hV⟩, ?_, fun k hk => ?_, hS, te_refl T, x11, gr.2.1, x13.trans q15.symm, Or.inr ⟨?_, fun i hi => ⟨?_, ?_⟩⟩, fun o k h1 h2 h3 h4 h5 => xI o k h1 h3 h4 (by omega), fun o k h1 h2 h3 h4 h5 => gR o k h2 (by omega), gc.2.1, gc.2.2, gr.2.2⟩
    · exact pC_congr (fun c k h1 h2 => xI c k (by omega) (by omega) (by omega) (by omega)) hC
    · exact pD_congr (gR 164 24 (by omega) (by omega)) (fun k => gR 172 k (by omega) (by omega)) hD
    · exact ps_congr (fun k => xI 26 k (by omega) (by omega) (by omega) (by omega)) (fun c k h1 h2 => xI c k (by omega) (by omega) (by omega) (by omega)) hQ
    · rw [gR 166 k (by omega) (by omega)]; exact hR k hk
    · exact gR 164 36 (by omega) (by omega)
    · exact xI 147 _ (by omega) (by omega) (by omega) (by omega)
    · exact gR 175 i (by omega) (by omega)
