/-! a sentence, whole: over the class's memory and any memory of the reference -/
theorem sn_grp {T : pt_T} {n lim : Nat} {B : Nat → Nat} : ∀ k, (∀ d p S M t o c r, sn_H T n lim B p S M t o d c r → t ≤ 3 * (d - 1) + 2 → 3 * (9 - d) + 1 ≤ k → sn_E T n lim B p S M t o d sh_1 c r (f_grp k 2 c.1 c.2.1 c.2.2 (nI d))) ∧ (∀ d p S M t o c r, sn_H T n lim B p S M t o d c r → sn_b 21 t r.1 → t ≤ 3 * (d - 1) + 1 → 3 * (9 - d) + 2 ≤ k → sn_E T n lim B p S M t o d (sh_2 B n lim) c r (f_grp k 1 c.1 c.2.1 c.2.2 (nI d))) ∧ (∀ d p S M t o c r, sn_H T n lim B p S M t o d c r → sn_b 22 t r.1 → t ≤ 3 * (d - 1) → 3 * (9 - d) + 3 ≤ k → sn_E T n lim B p S M t o d (sh_3 B n lim) c r (f_grp k 0 c.1 c.2.1 c.2.2 (nI d))) := by
  intro k
  induction k with
  | zero => exact ⟨fun d p S M t o c r _ _ h => by omega, fun d p S M t o c r _ _ _ h => by omega, fun d p S M t o c r _ _ _ h => by omega⟩
  | succ k ih =>
    obtain ⟨ih1, ih2, ih3⟩ := ih
    refine ⟨fun d p S M t o c r hH ht hk => ?_, fun d p S M t o c r hH hb ht hk => ?_, fun d p S M t o c r hH hb ht hk => ?_⟩
    · show sn_E T n lim B p S M t o d sh_1 c r (f_X7_readOne_B (f_grp k) c.1 c.2.1 c.2.2 (nI d))
      exact sn_one (fun p S M t o c r h8 h1 h2 h3 => ih3 (d + 1) p S M t o c r h1 h2 (by omega) (by omega)) (fun p S M t o c r h8 h1 h3 => ih1 (d + 1) p S M t o c r h1 (by omega) (by omega)) hH ht
    · show sn_E T n lim B p S M t o d (sh_2 B n lim) c r (f_X7_readAll_B (f_grp k) c.1 c.2.1 c.2.2 (nI d))
      exact sn_all (fun p S M t o c r h1 h3 => ih1 d p S M t o c r h1 h3 (by omega)) hH (by omega) hb
    · show sn_E T n lim B p S M t o d (sh_3 B n lim) c r (f_X7_readCondition_B (f_grp k) c.1 c.2.1 c.2.2 (nI d))
      exact sn_cond (fun p S M t o c r h1 h2 h3 => ih2 d p S M t o c r h1 h2 h3 (by omega)) hH (by omega) hb
theorem pq_l145 {I0 : bm_TI} {M : Nat} (hM : M ≤ 40) (h : I0 164 38 = nI M) : ∃ I', f_X12_sentence_l145 1000 0 I0 = some I' ∧ (∀ q, q < 3 * M → I' 166 (107 + q) = I0 168 q) ∧ ∀ o q, (o ≠ 166 ∨ q < 107) → I' o q = I0 o q := by
  have key : ∀ (i j k : Nat) (I : bm_TI), j + i = 3 * M → i < k → (∀ q, q < j → I 166 (107 + q) = I0 168 q) → (∀ o q, (o ≠ 166 ∨ q < 107) → I o q = I0 o q) → ∃ I', f_X12_sentence_l145 k (nI j) I = some I' ∧ (∀ q, q < 3 * M → I' 166 (107 + q) = I0 168 q) ∧ ∀ o q, (o ≠ 166 ∨ q < 107) → I' o q = I0 o q := by
    intro i
    induction i with
    | zero =>
      intro j k I hj hk h0 hf
      obtain ⟨k, rfl⟩ : ∃ q, k = q + 1 := ⟨k - 1, by omega⟩
      have : j = 3 * M := by omega
      subst this
      rw [f_X12_sentence_l145, hf 164 38 (by omega), h, show (3 : Int32) = nI 3 from rfl, pk_mul, if_pos (nI_le (Nat.le_refl _) (by omega))]
      exact ⟨I, rfl, h0, hf⟩
    | succ i ih =>
      intro j k I hj hk h0 hf
      obtain ⟨k, rfl⟩ : ∃ q, k = q + 1 := ⟨k - 1, by omega⟩
      rw [f_X12_sentence_l145, hf 164 38 (by omega), h, show (3 : Int32) = nI 3 from rfl, pk_mul, if_neg (nI_ge (by omega) (by omega)), if_pos (bm_ixk (show j < 135 by omega) (by omega)), show (107 : Int32) = nI 107 from rfl, nI_add, if_pos (bm_ixk (show 107 + j < 287 by omega) (by omega)), nI_clamp (by omega), nI_clamp (by omega), nI_1]
      refine ih (j + 1) k _ (by omega) (by omega) (fun q hq => ?_) (fun o q ho => (pn_uI_off (by omega)).trans (hf o q ho))
      by_cases e : q = j
      · subst e; rw [pn_uI_hit rfl]; exact hf 168 q (by omega)
      · rw [pn_uI_ne2 (by omega)]; exact h0 q (by omega)
  exact key (3 * M) 0 1000 I0 (by omega) (by omega) (fun q hq => by omega) (fun _ _ _ => rfl)
/-- the class's end -/
def sf_x (I : bm_TI) : bm_TI := bm_uI (bm_uI I 1 1 0) 0 13 (bm_uI I 1 1 0 3 9)
def sf_k (I : bm_TI) (J : bm_TJ) (W : bm_TR) : Option (Int32 × bm_TI × bm_TJ × bm_TR) := (if (sf_x I 0 13) = 0 then ((f_X7_copyFrom (sf_x I) W 151 156).bind fun v9 => some ((v9.1 151 5), v9.1, J, v9.2)) else some (((-1) - (sf_x I 3 10)), sf_x I, J, W))
theorem sf_eq (I : bm_TI) (J : bm_TJ) (W : bm_TR) : f_X11_sentence I J W = ((f_X5_begin I J W 200).bind fun v1 => ((f_X7_forget v1.1 156).bind fun v3 => ((f_grp 60 0 v3 v1.2.1 v1.2.2 1).bind fun v5 => (if v5.1 = true then (if (v5.2.1 3 3) = 0 then sf_k v5.2.1 v5.2.2.1 v5.2.2.2 else ((f_X5_refuse v5.2.1 1).bind fun v11 => sf_k v11.2 v5.2.2.1 v5.2.2.2)) else sf_k v5.2.1 v5.2.2.1 v5.2.2.2)))) := rfl
theorem sr_eq (I : bm_TI) (J : bm_TJ) : f_X12_sentence I J = ((f_X12_taken (bm_uI I 164 0 0) 200).bind fun v1 => ((f_X12_next (bm_uI (bm_uI (bm_uI (bm_uI (bm_uI (bm_uI v1 164 15 0) 164 38 0) 164 39 0) 164 40 0) 164 41 1) 164 42 (bm_bi false)) J).bind fun v3 => ((f_X12_sentence_l48 1000 true v3.1 v3.2).bind sn_G))) := rfl
theorem sx_f {I : bm_TI} {o k : Nat} (h1 : ¬ (o = 1 ∧ k = 1)) (h2 : ¬ (o = 0 ∧ k = 13)) : sf_x I o k = I o k := by unfold sf_x; rw [pn_uI_off (by omega), pn_uI_off (by omega)]
theorem sx_1 {I : bm_TI} : sf_x I 1 1 = 0 := by unfold sf_x; rw [pn_uI_ne (by omega), pn_uI_hit rfl]
theorem sx_0 {I : bm_TI} : sf_x I 0 13 = I 3 9 := by unfold sf_x; rw [pn_uI_hit rfl, pn_uI_ne (by omega)]
def se_c (I I1 : bm_TI) : Prop := ∀ o k, o ≠ 3 → ¬ (o = 1 ∧ k = 1) → ¬ (o = 0 ∧ k = 13) → (o < 151 ∨ 160 < o) → I1 o k = I o k
def se_r (I I2 : bm_TI) : Prop := ∀ o k, (o ≠ 164 ∨ k = 1 ∨ (5 < k ∧ k < 11) ∨ k = 17 ∨ (18 < k ∧ k < 38) ∨ 42 < k) → o ≠ 168 → o ≠ 176 → (o ≠ 166 ∨ k < 106) → I2 o k = I o k
def se_W (W W1 : bm_TR) : Prop := ∀ o k, (o ≠ 3 ∨ k ≠ 8) → o ≠ 157 → o ≠ 152 → W1 o k = W o k
def se_S (T : pt_T) (I : bm_TI) (W : bm_TR) (r : bm_TI) (I1 : bm_TI) (W1 : bm_TR) (I2 : bm_TI) : Prop := (∃ S, pp_Q I1 W1 151 S ∧ (∀ k, 106 ≤ k → k < 107 + 3 * S 106 → I2 166 k = nI (S k)) ∧ pt_VQ T S) ∨ ((∀ o k, 151 ≤ o → o ≤ 155 → I1 o k = I o k) ∧ (∀ k, W1 152 k = W 152 k) ∧ ∀ k, I2 166 k = r 166 k)
def se_R (T : pt_T) (I : bm_TI) (J : bm_TJ) (W : bm_TR) (r : zc_R) (I1 : bm_TI) (J1 : bm_TJ) (W1 : bm_TR) (I2 : bm_TI) (J2 : bm_TJ) : Prop := I1 1 1 = 0 ∧ I2 164 2 = 0 ∧ I1 0 13 = I2 164 15 ∧ se_c I I1 ∧ se_r r.1 I2 ∧ fk_J J J1 ∧ se_W W W1 ∧ rk_J r.2 J2 ∧ se_S T I W r.1 I1 W1 I2
theorem se_all {I : bm_TI} {J : bm_TJ} {W : bm_TR} {r : zc_R} {n : Nat} {B : Nat → Nat} {T : pt_T} (hn : n ≤ 940) (h11 : I 1 1 = nI n) (hB : ∀ k, k < n → B k < 256 ∧ I 2 k = nI (B k)) (r2 : r.1 164 2 = nI n) (rB : ∀ k, k < n → r.1 165 k &&& 255 = nI (B k)) (hK : iv_K r.2) (hA : bk_A T (I, J, W) r) : ∃ v I1 J1 W1 I2 J2, f_X11_sentence I J W = some (v, I1, J1, W1) ∧ f_X12_sentence r.1 r.2 = some (v, I2, J2) ∧ se_R T I J W r I1 J1 W1 I2 J2 := by
  rw [sf_eq, sr_eq]
  unfold f_X5_begin f_X12_taken f_X7_forget
  simp only [Option.bind_some]
  generalize hX : bm_uI (bm_uI (bm_uI (bm_uI I 3 1 200) 3 2 0) 3 9 0) 3 10 0 = X
  have x1 : X 3 1 = nI 200 := by rw [← hX, pn_uI_ne2 (by omega), pn_uI_ne2 (by omega), pn_uI_ne2 (by omega), pn_uI_hit rfl]; rfl
  have x2 : X 3 2 = 0 := by rw [← hX, pn_uI_ne2 (by omega), pn_uI_ne2 (by omega), pn_uI_hit rfl]
  have x9 : X 3 9 = 0 := by rw [← hX, pn_uI_ne2 (by omega), pn_uI_hit rfl]
  have xf : ∀ o k, o ≠ 3 → X o k = I o k := fun o k ho => by rw [← hX, pn_uI_ne ho, pn_uI_ne ho, pn_uI_ne ho, pn_uI_ne ho]
  generalize hY0 : bm_uI (bm_uI (bm_uI (bm_uI (bm_uI (bm_uI r.1 164 0 0) 164 3 (bm_uI r.1 164 0 0 164 2)) 164 2 0) 164 4 0) 164 5 200) 164 15 0 = Y0
  have u3 : Y0 164 3 = nI n := by rw [← hY0, pn_uI_ne2 (by omega), pn_uI_ne2 (by omega), pn_uI_ne2 (by omega), pn_uI_ne2 (by omega), pn_uI_hit rfl, pn_uI_ne2 (by omega)]; exact r2
  have u2 : Y0 164 2 = 0 := by rw [← hY0, pn_uI_ne2 (by omega), pn_uI_ne2 (by omega), pn_uI_ne2 (by omega), pn_uI_hit rfl]
  have u4 : Y0 164 4 = 0 := by rw [← hY0, pn_uI_ne2 (by omega), pn_uI_ne2 (by omega), pn_uI_hit rfl]
  have u5 : Y0 164 5 = nI 200 := by rw [← hY0, pn_uI_ne2 (by omega), pn_uI_hit rfl]; rfl
  have u15 : Y0 164 15 = 0 := by rw [← hY0, pn_uI_hit rfl]
  have uf : ∀ o k, (o ≠ 164 ∨ k = 1 ∨ (5 < k ∧ k ≠ 15)) → Y0 o k = r.1 o k := fun o k ho => by rw [← hY0, pn_uI_off (by omega), pn_uI_off (by omega), pn_uI_off (by omega), pn_uI_off (by omega), pn_uI_off (by omega), pn_uI_off (by omega)]
  generalize hY : bm_uI (bm_uI (bm_uI (bm_uI (bm_uI Y0 164 38 0) 164 39 0) 164 40 0) 164 41 1) 164 42 (bm_bi false) = Y
  have y38 : Y 164 38 = 0 := by rw [← hY, pn_uI_ne2 (by omega), pn_uI_ne2 (by omega), pn_uI_ne2 (by omega), pn_uI_ne2 (by omega), pn_uI_hit rfl]
  have y39 : Y 164 39 = 0 := by rw [← hY, pn_uI_ne2 (by omega), pn_uI_ne2 (by omega), pn_uI_ne2 (by omega), pn_uI_hit rfl]
  have y40 : Y 164 40 = 0 := by rw [← hY, pn_uI_ne2 (by omega), pn_uI_ne2 (by omega), pn_uI_hit rfl]
  have y41 : Y 164 41 = 1 := by rw [← hY, pn_uI_ne2 (by omega), pn_uI_hit rfl]
  have y42 : Y 164 42 = 0 := by rw [← hY, pn_uI_hit rfl]; rfl
  have vf : ∀ o k, (o ≠ 164 ∨ k < 38 ∨ 42 < k) → Y o k = Y0 o k := fun o k ho => by rw [← hY, pn_uI_off (by omega), pn_uI_off (by omega), pn_uI_off (by omega), pn_uI_off (by omega), pn_uI_off (by omega)]
  have yf : ∀ o k, (o ≠ 164 ∨ k = 1 ∨ (5 < k ∧ k ≠ 15 ∧ k < 38) ∨ 42 < k) → Y o k = r.1 o k := fun o k ho => (vf o k (by omega)).trans (uf o k (by omega))
  obtain ⟨c1, r1, e1, d1, z1, g1, s1⟩ := zz_start (n := n) (lim := 200) (B := B) (c := (X, J, W)) (r := (Y, r.2)) hn (by omega) ⟨by dsimp only; rw [xf 1 1 (by omega)]; exact h11, fun k hk => by dsimp only; rw [xf 2 k (by omega)]; exact hB k hk, x1⟩ ⟨(vf 164 3 (by omega)).trans u3, fun k hk => ⟨(hB k hk).1, by dsimp only; rw [yf 165 k (by omega)]; exact rB k hk⟩, (vf 164 5 (by omega)).trans u5⟩ x2 ((vf 164 4 (by omega)).trans u4) x9 ((vf 164 15 (by omega)).trans u15) hK
  have e1' : f_X5_advance X J W = some c1 := e1
  have d1' : f_X12_next Y r.2 = some r1 := d1
  rw [e1', d1']
  simp only [Option.bind_some]
  generalize hV : bm_uI (bm_uI c1.1 156 5 0) 156 4 0 = V
  have vv : ∀ o k, o ≠ 156 → V o k = c1.1 o k := fun o k ho => by rw [← hV, pn_uI_ne ho, pn_uI_ne ho]
  have z2 : zz_P n 200 B 0 (V, c1.2) r1 := by rw [← hV]; exact zz_cu (zz_cu z1 (o := 156) (i := 5) (v := 0) (by omega)) (o := 156) (i := 4) (v := 0) (by omega)
  have gc0 : gS_c (X, J, W) (V, c1.2) := gS_ct (gS_cz g1) ⟨fun o k _ h2 _ _ => vv o k h2, fun _ _ _ => rfl, fun _ _ _ _ => rfl⟩
  have gr0 : gS_r (Y, r.2) r1 := gS_rz s1
  have A1 : bk_A T (V, c1.2) r1 := by
    refine bk_AS (c := (X, J, W)) (r := (Y, r.2)) ?_ gc0 gr0
    obtain ⟨a1, a2, a3, a4, a5, a6, a7, a8⟩ := hA
    exact ⟨a1, a2, (xf 4 10 (by omega)).trans a3, (xf 4 13 (by omega)).trans a4, (yf 166 0 (by omega)).trans a5, (yf 166 1 (by omega)).trans a6, a7, a8⟩
  have sf : ∀ k, 18 < k → r1.1 164 k = Y 164 k := fun k hk => s1.1 164 k (by omega)
  have R1 : sn_R T 0 0 [] 0 1 0 r1.1 := ⟨(sf 38 (by omega)).trans y38, fun i hi => absurd hi (Nat.not_lt_zero i), (sf 40 (by omega)).trans y40, trivial, (sf 39 (by omega)).trans y39, (sf 41 (by omega)).trans y41, (sf 42 (by omega)).trans y42⟩
  have H1 : sn_H T n 200 B 0 T 0 0 0 1 (V, c1.2) r1 := by
    refine ⟨z2, A1, ⟨?_, fun i hi => absurd hi (Nat.not_lt_zero i)⟩, ?_, R1, fun i hi => absurd hi (Nat.not_lt_zero i), by omega, by omega, by omega, by omega⟩
    · show V 156 4 = nI 0
      rw [← hV, pn_uI_hit rfl]; rfl
    · show V 156 5 = nI 0
      rw [← hV, pn_uI_ne2 (by omega), pn_uI_hit rfl]; rfl
  -- what all of it may change
  have fc : ∀ c' : zc_C, gS_c (V, c1.2) c' → (∀ o k, o ≠ 3 → (o < 156 ∨ 160 < o) → c'.1 o k = I o k) ∧ fk_J J c'.2.1 ∧ ∀ o k, (o ≠ 3 ∨ k ≠ 8) → o ≠ 157 → c'.2.2 o k = W o k := fun c' g => by
    have g' := gS_ct gc0 g
    exact ⟨fun o k h1 h2 => (g'.1 o k (by omega) (by omega) (by omega) (by omega)).trans (xf o k h1), g'.2.1, g'.2.2⟩
  have fr : ∀ r' : zc_R, gS_r r1 r' → (∀ o k, (o ≠ 164 ∨ k = 1 ∨ (5 < k ∧ k < 11) ∨ k = 17 ∨ (18 < k ∧ k < 38) ∨ 42 < k) → o ≠ 168 → o ≠ 176 → r'.1 o k = r.1 o k) ∧ r'.1 164 2 = 0 ∧ rk_J r.2 r'.2 := fun r' g => by
    have g' := gS_rt gr0 g
    exact ⟨fun o k h1 h2 h3 => (g'.1 o k (by omega) h2 h3).trans (yf o k (by omega)), (g'.1 164 2 (by omega) (by omega) (by omega)).trans ((vf 164 2 (by omega)).trans u2), g'.2⟩
  -- both fail
  have fail : ∀ (c' : zc_C) (r' : zc_R), gS_c (V, c1.2) c' → gS_r r1 r' → zf_P c' r' → (f_X12_sentence_l48 1000 true r1.1 r1.2).bind sn_G = some (-1 - r'.1 164 16, r'.1, r'.2) → ∃ v I1 J1 W1 I2 J2, sf_k c'.1 c'.2.1 c'.2.2 = some (v, I1, J1, W1) ∧ (f_X12_sentence_l48 1000 true r1.1 r1.2).bind sn_G = some (v, I2, J2) ∧ se_R T I J W r I1 J1 W1 I2 J2 := by
    intro c' r' gc gr zf hl
    obtain ⟨x, pl, hx1, hx4, hpl, k9, k10, q15, q16⟩ := zf
    obtain ⟨fc1, fc2, fc3⟩ := fc c' gc
    obtain ⟨fr1, fr2, fr3⟩ := fr r' gr
    have hk : sf_k c'.1 c'.2.1 c'.2.2 = some (-1 - nI pl, sf_x c'.1, c'.2.1, c'.2.2) := by
      unfold sf_k
      rw [sx_0, k9, if_neg (show ¬ nI x = 0 from nI_ne0 (by omega) (by omega)), sx_f (by omega) (by omega), k10]
    rw [q16] at hl
    refine ⟨_, _, _, _, _, _, hk, hl, sx_1, fr2, ?_, fun o k h1 h2 h3 h4 => ?_, fun o k h1 h2 h3 h4 => fr1 o k h1 h2 h3, fc2, fun o k h1 h2 h3 => fc3 o k h1 h2, fr3, Or.inr ⟨fun o k h1 h2 => ?_, fun k => fc3 152 k (by omega) (by omega), fun k => fr1 166 k (by omega) (by omega) (by omega)⟩⟩
    · rw [sx_0, k9, q15]
    · rw [sx_f h2 h3]; exact fc1 o k h1 (by omega)
    · rw [sx_f (by omega) (by omega)]; exact fc1 o k (by omega) (by omega)
  rcases (sn_grp 60).2.2 1 0 T 0 0 0 (V, c1.2) r1 H1 (Or.inl rfl) (by omega) (by omega) with ⟨c3, r3, p3, S3, M3, P, m, o3, x3, ⟨sh1, sh2, sh3⟩, w1, w2, w3, w4, w5, w6, w7, w8, w9, w10, w11, w12, w13, w14, w15, w16, w17, w18, w19⟩ | ⟨c3, r3, x3, w1, w2, w3, w4⟩
  · have x3' : f_grp 60 0 V c1.2.1 c1.2.2 1 = some (true, c3) := x3
    rw [x3']
    simp only [Option.bind_some, ↓reduceIte]
    obtain ⟨Z, RZ, fZ, hE, hN⟩ := sn_bno w2 w6 w8 (by omega) w9 sh2 sh3 sh1 (by omega) (Or.inl rfl)
    obtain ⟨K, hKn, hl⟩ := w1 1000 (by omega)
    obtain ⟨K, rfl⟩ : ∃ q, K = q + 2 := ⟨K - 2, by omega⟩
    by_cases k0 : (lx B n 200 p3).1 = 0
    · -- the end
      rw [if_pos (show c3.1 3 3 = 0 by rw [(zz_end w2).1]; exact k0), hl, hE k0 (K + 1), if_pos rfl]
      have hF : f_X12_sentence_l48 (K + 1) false Z r3.2 = some (Sum.inr (Sum.inr (Sum.inr (Z, r3.2)))) := by rw [f_X12_sentence_l48]; rfl
      rw [hF]
      simp only [Option.bind_some, sn_G]
      obtain ⟨q1, q2, q3, q4, q5, q6, q7⟩ := RZ
      rw [w7] at q1 q2
      obtain ⟨Z2, e4, b1, b2⟩ := pq_l145 (I0 := bm_uI Z 166 106 (Z 164 38)) (M := M3) (by omega) (by rw [pn_uI_ne (by omega)]; exact q1)
      rw [e4]
      simp only [Option.bind_some]
      obtain ⟨fc1, fc2, fc3⟩ := fc c3 w18
      obtain ⟨fr1, fr2, fr3⟩ := fr r3 w19
      have c9 : c3.1 3 9 = 0 := w2.2.2.2.2.2.2.2.1
      have r15 : r3.1 164 15 = 0 := w2.2.2.2.2.2.2.2.2.1
      generalize hS : pt_up S3 106 M3 = S
      have s106 : S 106 = M3 := by rw [← hS, tu_hit rfl]
      have sk : ∀ k, k ≠ 106 → S k = S3 k := fun k hk => by rw [← hS, tu_ne hk]
      have hq : ∀ i, qt_h S i = qt_h S3 i := by
        intro i
        induction i with
        | zero => rfl
        | succ i ih => unfold qt_h; rw [ih, sk _ (by omega)]
      have VQ : pt_VQ T S := by
        unfold pt_VQ
        rw [s106, hq]
        refine ⟨by omega, fun _ => by omega, fun i hi => ?_⟩
        rw [hq, sk _ (by omega), sk _ (by omega), sk _ (by omega)]
        exact w12 i hi
      have hM3 : ¬ M3 = 0 := fun e => by
        rw [e] at w13
        have : (0 : Nat) = 0 + 1 := w13
        omega
      have pQ : pp_Q (sf_x c3.1) c3.2.2 156 S := by
        refine ⟨?_, ⟨o3, ?_, w16, ?_⟩, fun i hi => ?_⟩
        · rw [sx_f (by omega) (by omega), s106]; exact w4.1
        · rw [sx_f (by omega) (by omega)]; exact w5
        · rw [s106]; exact ⟨fun q => by omega, fun q => absurd q hM3⟩
        · rw [s106] at hi
          rw [sx_f (by omega) (by omega), sx_f (by omega) (by omega), sk _ (by omega), sk _ (by omega), sk _ (by omega)]
          exact w4.2 i hi
      obtain ⟨I1, W1, e5, p5, p6, f5, f6⟩ := kc_copyQ (a := 151) (b := 156) (by omega) VQ pQ
      have v5 : I1 151 5 = nI o3 := p6.trans ((sx_f (by omega) (by omega)).trans w5)
      have hk : sf_k c3.1 c3.2.1 c3.2.2 = some (nI o3, I1, c3.2.1, W1) := by
        unfold sf_k
        rw [sx_0, c9, if_pos rfl, e5]
        simp only [Option.bind_some]
        rw [v5]
      have z39 : Z2 164 39 = nI o3 := by rw [b2 164 39 (by omega), pn_uI_ne (by omega)]; exact q5
      have zf : ∀ o k, (o ≠ 166 ∨ k < 106) → Z2 o k = Z o k := fun o k ho => by rw [b2 o k (by omega), pn_uI_off (by omega)]
      have zr : ∀ o k, (o ≠ 166 ∨ k < 106) → (o ≠ 164 ∨ (k ≠ 38 ∧ k ≠ 40 ∧ k ≠ 41)) → o ≠ 168 → Z2 o k = r3.1 o k := fun o k h1 h2 h3 => (zf o k h1).trans (fZ o k h2 h3)
      rw [z39]
      refine ⟨_, _, _, _, _, _, hk, rfl, ?_, ?_, ?_, fun o k h1 h2 h3 h4 => ?_, fun o k h1 h2 h3 h4 => ?_, fc2, fun o k h1 h2 h3 => ?_, fr3, Or.inl ⟨S, p5, fun k h1 h2 => ?_, VQ⟩⟩
      · rw [f5 1 1 (by omega)]; exact sx_1
      · rw [zr 164 2 (by omega) (by omega) (by omega)]; exact fr2
      · rw [f5 0 13 (by omega), sx_0, c9, zr 164 15 (by omega) (by omega) (by omega), r15]
      · rw [f5 o k (by omega), sx_f h2 h3]; exact fc1 o k h1 (by omega)
      · rw [zr o k h4 (by omega) h2]; exact fr1 o k h1 h2 h3
      · rw [f6 o k (by omega)]; exact fc3 o k h1 h2
      · rw [s106] at h2
        by_cases e : k = 106
        · subst e
          rw [b2 166 106 (by omega), pn_uI_hit rfl, s106]; exact q1
        · obtain ⟨q, rfl⟩ : ∃ q, k = 107 + q := ⟨k - 107, by omega⟩
          rw [b1 q (by omega), pn_uI_ne (by omega), sk _ (by omega)]
          have := q2 (q / 3) (by omega)
          rcases (show q = 3 * (q / 3) ∨ q = 3 * (q / 3) + 1 ∨ q = 3 * (q / 3) + 2 by omega) with e1 | e1 | e1
          · have t1 := this.1
            rw [← e1] at t1
            exact t1
          · have t1 := this.2.1
            rw [← e1, show 107 + 3 * (q / 3) + 1 = 107 + q by omega] at t1
            exact t1
          · have t1 := this.2.2
            rw [← e1, show 107 + 3 * (q / 3) + 2 = 107 + q by omega] at t1
            exact t1
    · rw [if_neg (show ¬ c3.1 3 3 = 0 by rw [(zz_end w2).1]; exact k0)]
      obtain ⟨Ic, Ir, b1, b2, b3, b4, b5⟩ := sn_no w2 fZ
      rw [b1]
      simp only [Option.bind_some]
      refine fail (Ic, c3.2) (Ir, r3.2) (gS_ct w18 (gS_cz b4)) (gS_rt w19 b5) b3 ?_
      rw [hl, hN k0 (K + 1), if_neg (fun q => q.2.2 rfl), b2]
      rfl
  · have x3' : f_grp 60 0 V c1.2.1 c1.2.2 1 = some (false, c3) := x3
    rw [x3']
    simp only [Option.bind_some, ↓reduceIte, Bool.false_eq_true]
    exact fail c3 r3 w3 w4 w2 (w1 1000 (by omega))
