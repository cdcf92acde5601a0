/-! a sentence: all, a condition, in both -/
theorem sb_le {t : Nat} {I : bm_TI} (h : sn_b 22 t I) : sn_b 21 t I := by
  rcases h with h | ⟨y, q1, q2, q3, q4, q5⟩
  · exact Or.inl h
  · exact Or.inr ⟨y, q1, q2, q3, q4, fun _ => rfl⟩
section LO
variable {T : pt_T} {n lim : Nat} {B : Nat → Nat}
theorem sn_allL {rec : sn_rec} {d : Nat} (hin : ∀ p S M t o c r, sn_H T n lim B p S M t o d c r → t ≤ 3 * (d - 1) + 2 → sn_E T n lim B p S M t o d (sh_1) c r (rec 2 c.1 c.2.1 c.2.2 (nI d))) {p : Nat} {S : pt_T} {M t o : Nat} {c : zc_C} {r : zc_R} (hA : bk_A T c r) (hM : M ≤ 2 * o) (hd1 : 1 ≤ d) (hd9 : d ≤ 9) (ht : t + 1 ≤ 3 * (d - 1) + 2) (hb : sn_b 21 t r.1) : ∀ (j i k : Nat) (c1 : zc_C) (r1 : zc_R) (p1 : Nat) (S1 : pt_T) (M1 : Nat) (P : List Nat) (m o1 : Nat), i + j = 20 → j < k → sn_dj 21 (sn_dn P) = [] → o + i < o1 → sn_S T n lim B p S M t o d c r c1 r1 p1 S1 M1 P m o1 → (∃ c' r' p' S' M' P m o', f_X7_readAll_B_l15 rec (nI d) k (nI i) c1.1 c1.2.1 c1.2.2 = some (Sum.inr c') ∧ (sh_2 B n lim) P p' ∧ sn_S T n lim B p S M t o d c r c' r' p' S' M' P m o') ∨ ∃ c' r', f_X7_readAll_B_l15 rec (nI d) k (nI i) c1.1 c1.2.1 c1.2.2 = some (Sum.inl c') ∧ sn_f n p r r' ∧ zf_P c' r' ∧ gS_c c c' ∧ gS_r r r' := by
  intro j
  induction j with
  | zero =>
    intro i k c1 r1 p1 S1 M1 P m o1 hi hk hs ho h
    obtain ⟨_, _, _, _, _, _, _, _, _, _, _, _, _, _, _, h16, _⟩ := h
    omega
  | succ j ih =>
    intro i k c1 r1 p1 S1 M1 P m o1 hi hk hs ho h
    obtain ⟨k, rfl⟩ : ∃ q, k = q + 1 := ⟨k - 1, by omega⟩
    obtain ⟨y1, y2, y3, y4, y5, y6, y7, y8, y9, y10, y11, y12, y13, y14, y15, y16, y17, y18, y19⟩ := id h
    rw [f_X7_readAll_B_l15, if_neg (show ¬ (20 : Int32) ≤ nI i from nI_ge (b := 20) (by omega) (by omega)), if_pos (zz_iwq y2)]
    simp only [zz_isWc y2]
    by_cases kw : (lx B n lim p1).1 = 4 ∧ (lx B n lim p1).2.1 = 20
    · rw [if_pos kw]
      have hb1 : sn_b 21 t r1.1 := by
        rcases hb with hb | ⟨y, q1, q2⟩
        · exact Or.inl hb
        · by_cases t0 : t = 0
          · exact Or.inl t0
          · exact Or.inr ⟨y, (y17 _ (by omega)).trans q1, q2⟩
      obtain ⟨c2, r2, p2, a1, a2, z2, a3, R2, X1, X2, g1, g2⟩ := sn_bop (v := 20) (x := 21) y2 y6 y8 (by omega) y9 (Or.inl ⟨rfl, rfl⟩) kw (hs) hb1
      rw [a1]
      simp only [Option.bind_some]
      rw [y7] at R2
      have gc2 : gS_c c c2 := gS_ct y18 (gS_cz g1)
      have gr2 : gS_r r r2 := gS_rt y19 g2
      have C2 : sn_C S1 M1 c2 := sC_congr (g1.1 156 4 (by omega)) (fun k => g1.2.2 157 k (by omega)) (fun k => g1.1 158 k (by omega)) (fun k => g1.1 159 k (by omega)) (se_rfl S1 M1) y4
      have hH2 : sn_H T n lim B p2 S1 M1 (t + 1) o1 d c2 r2 := ⟨z2, bk_AS hA gc2 gr2, C2, (g1.1 156 5 (by omega)).trans y5, R2, y12, by omega, by omega, hd1, hd9⟩
      rcases hin p2 S1 M1 (t + 1) o1 c2 r2 hH2 (by omega) with ⟨c3, r3, p3, S3, M3, P3, m3, o3, x3, sh3, w1, w2, w3, w4, w5, w6, w7, w8, w9, w10, w11, w12, w13, w14, w15, w16, w17, w18, w19⟩ | ⟨c3, r3, x3, w1, w2, w3, w4⟩
      · rw [x3]
        simp only [Option.bind_some, ↓reduceIte]
        obtain ⟨I', W', b1, b2, b3, b4⟩ := sC_add (cd := 21) (a := 0) (b := 0) w4 (show M3 < 40 by omega) (by decide)
        have b1' : f_X7_add c3.1 c3.2.2 (some (1000 + 20)) 0 0 = some (I', W') := b1
        rw [b1']
        simp only [Option.bind_some]
        have gca : gS_c c3 (I', c3.2.1, W') := ⟨fun a k _ h2 h3 h4 => b3 a k (by omega) h3 h4, fun _ _ _ => rfl, fun a k _ h2 => b4 a k h2⟩
        have hl : (P3 ++ [21]).length = P3.length + 1 := by rw [List.length_append]; rfl
        rw [nI_1]
        refine ih (i + 1) k (I', c3.2.1, W') r3 p3 (sn_u S3 M3 21 0 0) (M3 + 1) (P3 ++ [21]) m3 o3 (by omega) (by omega) (dn_21 sh3) (by omega) ⟨sg_tr y1 (sg_tr a2 w1), ?_, by omega, b2 _, ?_, sR_app w6 ((w17 t (by omega)).trans X1) w7 rfl, by omega, fun x hx => ?_, by omega, se_tr (se_tr y10 w10 y11) (se_u S3 M3 21 0 0) (by omega), by omega, sV_u w12 (Or.inr (Or.inr ⟨by omega, by omega⟩)) (fun q => by omega) (fun q => by omega) (by omega) (fun q => by omega), ?_, by omega, by omega, w16, fun i hi => ?_, gS_ct (gS_ct gc2 w18) gca, gS_rt gr2 w19⟩
        · exact zz_to w2 (fun a k h1 h2 => b3 a k (by omega) (by omega) (by omega)) rfl (b4 3 8 (by omega)) (fun _ _ _ => rfl) rfl (fun _ => rfl)
        · dsimp only; rw [b3 156 5 (by omega) (by omega) (by omega)]; exact w5
        · rcases List.mem_append.mp hx with hx | hx
          · exact w8 x hx
          · rw [List.mem_singleton] at hx; omega
        · rw [qh_u, if_neg (by omega), if_neg (by omega)]; omega
        · rw [w17 i (by omega), X2 i hi]; exact y17 i hi
      · rw [x3]
        exact Or.inr ⟨c3, r3, rfl, sg_f y1 (sg_f a2 w1), w2, gS_ct gc2 w3, gS_rt gr2 w4⟩
    · rw [if_neg kw]
      exact Or.inl ⟨c1, r1, p1, S1, M1, P, m, o1, rfl, ⟨hs, kw⟩, h⟩
theorem sn_all {rec : sn_rec} {d : Nat} (hin : ∀ p S M t o c r, sn_H T n lim B p S M t o d c r → t ≤ 3 * (d - 1) + 2 → sn_E T n lim B p S M t o d (sh_1) c r (rec 2 c.1 c.2.1 c.2.2 (nI d))) {p : Nat} {S : pt_T} {M t o : Nat} {c : zc_C} {r : zc_R} (hH : sn_H T n lim B p S M t o d c r) (ht : t + 1 ≤ 3 * (d - 1) + 2) (hb : sn_b 21 t r.1) : sn_E T n lim B p S M t o d (sh_2 B n lim) c r (f_X7_readAll_B rec c.1 c.2.1 c.2.2 (nI d)) := by
  obtain ⟨h, hA, hC, hc5, hR, hV, hM, ho, hd1, hd9⟩ := id hH
  unfold f_X7_readAll_B
  rcases hin p S M t o c r hH (by omega) with ⟨c3, r3, p3, S3, M3, P3, m3, o3, x3, sh3, h3⟩ | ⟨c3, r3, x3, w1, w2, w3, w4⟩
  · rw [x3]
    simp only [Option.bind_some, ↓reduceIte]
    have ho3 := h3.2.2.2.2.2.2.2.2.2.2.2.2.2.2.1
    rcases sn_allL hin hA hM hd1 hd9 ht hb 20 0 1000 c3 r3 p3 S3 M3 P3 m3 o3 (by omega) (by omega) (dn_dj sh3) (by omega) h3 with ⟨c', r', p', S', M', P', m', o', e1, e2, e3⟩ | ⟨c', r', e1, e2, e3, e4, e5⟩
    · have e1' : f_X7_readAll_B_l15 rec (nI d) 1000 0 c3.1 c3.2.1 c3.2.2 = some (Sum.inr c') := e1
      rw [e1']
      exact Or.inl ⟨c', r', p', S', M', P', m', o', rfl, e2, e3⟩
    · have e1' : f_X7_readAll_B_l15 rec (nI d) 1000 0 c3.1 c3.2.1 c3.2.2 = some (Sum.inl c') := e1
      rw [e1']
      exact Or.inr ⟨c', r', rfl, e2, e3, e4, e5⟩
  · rw [x3]
    exact Or.inr ⟨c3, r3, rfl, w1, w2, w3, w4⟩
theorem sn_condL {rec : sn_rec} {d : Nat} (hin : ∀ p S M t o c r, sn_H T n lim B p S M t o d c r → sn_b 21 t r.1 → t ≤ 3 * (d - 1) + 1 → sn_E T n lim B p S M t o d (sh_2 B n lim) c r (rec 1 c.1 c.2.1 c.2.2 (nI d))) {p : Nat} {S : pt_T} {M t o : Nat} {c : zc_C} {r : zc_R} (hA : bk_A T c r) (hM : M ≤ 2 * o) (hd1 : 1 ≤ d) (hd9 : d ≤ 9) (ht : t + 1 ≤ 3 * (d - 1) + 1) (hb : sn_b 22 t r.1) : ∀ (j i k : Nat) (c1 : zc_C) (r1 : zc_R) (p1 : Nat) (S1 : pt_T) (M1 : Nat) (P : List Nat) (m o1 : Nat), i + j = 20 → j < k → sn_dj 22 (sn_dn P) = [] ∧ no_and B n lim p1 → o + i < o1 → sn_S T n lim B p S M t o d c r c1 r1 p1 S1 M1 P m o1 → (∃ c' r' p' S' M' P m o', f_X7_readCondition_B_l15 rec (nI d) k (nI i) c1.1 c1.2.1 c1.2.2 = some (Sum.inr c') ∧ (sh_3 B n lim) P p' ∧ sn_S T n lim B p S M t o d c r c' r' p' S' M' P m o') ∨ ∃ c' r', f_X7_readCondition_B_l15 rec (nI d) k (nI i) c1.1 c1.2.1 c1.2.2 = some (Sum.inl c') ∧ sn_f n p r r' ∧ zf_P c' r' ∧ gS_c c c' ∧ gS_r r r' := by
  intro j
  induction j with
  | zero =>
    intro i k c1 r1 p1 S1 M1 P m o1 hi hk hs ho h
    obtain ⟨_, _, _, _, _, _, _, _, _, _, _, _, _, _, _, h16, _⟩ := h
    omega
  | succ j ih =>
    intro i k c1 r1 p1 S1 M1 P m o1 hi hk hs ho h
    obtain ⟨k, rfl⟩ : ∃ q, k = q + 1 := ⟨k - 1, by omega⟩
    obtain ⟨y1, y2, y3, y4, y5, y6, y7, y8, y9, y10, y11, y12, y13, y14, y15, y16, y17, y18, y19⟩ := id h
    rw [f_X7_readCondition_B_l15, if_neg (show ¬ (20 : Int32) ≤ nI i from nI_ge (b := 20) (by omega) (by omega)), if_pos (zz_iwq y2)]
    simp only [zz_isWc y2]
    by_cases kw : (lx B n lim p1).1 = 4 ∧ (lx B n lim p1).2.1 = 19
    · rw [if_pos kw]
      have hb1 : sn_b 22 t r1.1 := by
        rcases hb with hb | ⟨y, q1, q2⟩
        · exact Or.inl hb
        · by_cases t0 : t = 0
          · exact Or.inl t0
          · exact Or.inr ⟨y, (y17 _ (by omega)).trans q1, q2⟩
      obtain ⟨c2, r2, p2, a1, a2, z2, a3, R2, X1, X2, g1, g2⟩ := sn_bop (v := 19) (x := 22) y2 y6 y8 (by omega) y9 (Or.inr ⟨rfl, rfl⟩) kw (hs.1) hb1
      rw [a1]
      simp only [Option.bind_some]
      rw [y7] at R2
      have gc2 : gS_c c c2 := gS_ct y18 (gS_cz g1)
      have gr2 : gS_r r r2 := gS_rt y19 g2
      have C2 : sn_C S1 M1 c2 := sC_congr (g1.1 156 4 (by omega)) (fun k => g1.2.2 157 k (by omega)) (fun k => g1.1 158 k (by omega)) (fun k => g1.1 159 k (by omega)) (se_rfl S1 M1) y4
      have hH2 : sn_H T n lim B p2 S1 M1 (t + 1) o1 d c2 r2 := ⟨z2, bk_AS hA gc2 gr2, C2, (g1.1 156 5 (by omega)).trans y5, R2, y12, by omega, by omega, hd1, hd9⟩
      rcases hin p2 S1 M1 (t + 1) o1 c2 r2 hH2 (Or.inr ⟨22, X1, by omega, by omega, by omega, fun _ => rfl⟩) (by omega) with ⟨c3, r3, p3, S3, M3, P3, m3, o3, x3, sh3, w1, w2, w3, w4, w5, w6, w7, w8, w9, w10, w11, w12, w13, w14, w15, w16, w17, w18, w19⟩ | ⟨c3, r3, x3, w1, w2, w3, w4⟩
      · rw [x3]
        simp only [Option.bind_some, ↓reduceIte]
        obtain ⟨I', W', b1, b2, b3, b4⟩ := sC_add (cd := 22) (a := 0) (b := 0) w4 (show M3 < 40 by omega) (by decide)
        have b1' : f_X7_add c3.1 c3.2.2 (some (1000 + 19)) 0 0 = some (I', W') := b1
        rw [b1']
        simp only [Option.bind_some]
        have gca : gS_c c3 (I', c3.2.1, W') := ⟨fun a k _ h2 h3 h4 => b3 a k (by omega) h3 h4, fun _ _ _ => rfl, fun a k _ h2 => b4 a k h2⟩
        have hl : (P3 ++ [22]).length = P3.length + 1 := by rw [List.length_append]; rfl
        rw [nI_1]
        refine ih (i + 1) k (I', c3.2.1, W') r3 p3 (sn_u S3 M3 22 0 0) (M3 + 1) (P3 ++ [22]) m3 o3 (by omega) (by omega) (⟨dn_22 sh3.1, sh3.2⟩) (by omega) ⟨sg_tr y1 (sg_tr a2 w1), ?_, by omega, b2 _, ?_, sR_app w6 ((w17 t (by omega)).trans X1) w7 rfl, by omega, fun x hx => ?_, by omega, se_tr (se_tr y10 w10 y11) (se_u S3 M3 22 0 0) (by omega), by omega, sV_u w12 (Or.inr (Or.inr ⟨by omega, by omega⟩)) (fun q => by omega) (fun q => by omega) (by omega) (fun q => by omega), ?_, by omega, by omega, w16, fun i hi => ?_, gS_ct (gS_ct gc2 w18) gca, gS_rt gr2 w19⟩
        · exact zz_to w2 (fun a k h1 h2 => b3 a k (by omega) (by omega) (by omega)) rfl (b4 3 8 (by omega)) (fun _ _ _ => rfl) rfl (fun _ => rfl)
        · dsimp only; rw [b3 156 5 (by omega) (by omega) (by omega)]; exact w5
        · rcases List.mem_append.mp hx with hx | hx
          · exact w8 x hx
          · rw [List.mem_singleton] at hx; omega
        · rw [qh_u, if_neg (by omega), if_neg (by omega)]; omega
        · rw [w17 i (by omega), X2 i hi]; exact y17 i hi
      · rw [x3]
        exact Or.inr ⟨c3, r3, rfl, sg_f y1 (sg_f a2 w1), w2, gS_ct gc2 w3, gS_rt gr2 w4⟩
    · rw [if_neg kw]
      exact Or.inl ⟨c1, r1, p1, S1, M1, P, m, o1, rfl, ⟨hs.1, hs.2, kw⟩, h⟩
theorem sn_cond {rec : sn_rec} {d : Nat} (hin : ∀ p S M t o c r, sn_H T n lim B p S M t o d c r → sn_b 21 t r.1 → t ≤ 3 * (d - 1) + 1 → sn_E T n lim B p S M t o d (sh_2 B n lim) c r (rec 1 c.1 c.2.1 c.2.2 (nI d))) {p : Nat} {S : pt_T} {M t o : Nat} {c : zc_C} {r : zc_R} (hH : sn_H T n lim B p S M t o d c r) (ht : t + 1 ≤ 3 * (d - 1) + 1) (hb : sn_b 22 t r.1) : sn_E T n lim B p S M t o d (sh_3 B n lim) c r (f_X7_readCondition_B rec c.1 c.2.1 c.2.2 (nI d)) := by
  obtain ⟨h, hA, hC, hc5, hR, hV, hM, ho, hd1, hd9⟩ := id hH
  unfold f_X7_readCondition_B
  rcases hin p S M t o c r hH (sb_le hb) (by omega) with ⟨c3, r3, p3, S3, M3, P3, m3, o3, x3, sh3, h3⟩ | ⟨c3, r3, x3, w1, w2, w3, w4⟩
  · rw [x3]
    simp only [Option.bind_some, ↓reduceIte]
    have ho3 := h3.2.2.2.2.2.2.2.2.2.2.2.2.2.2.1
    rcases sn_condL hin hA hM hd1 hd9 ht hb 20 0 1000 c3 r3 p3 S3 M3 P3 m3 o3 (by omega) (by omega) (⟨dj_le sh3.1, sh3.2⟩) (by omega) h3 with ⟨c', r', p', S', M', P', m', o', e1, e2, e3⟩ | ⟨c', r', e1, e2, e3, e4, e5⟩
    · have e1' : f_X7_readCondition_B_l15 rec (nI d) 1000 0 c3.1 c3.2.1 c3.2.2 = some (Sum.inr c') := e1
      rw [e1']
      exact Or.inl ⟨c', r', p', S', M', P', m', o', rfl, e2, e3⟩
    · have e1' : f_X7_readCondition_B_l15 rec (nI d) 1000 0 c3.1 c3.2.1 c3.2.2 = some (Sum.inl c') := e1
      rw [e1']
      exact Or.inr ⟨c', r', rfl, e2, e3, e4, e5⟩
  · rw [x3]
    exact Or.inr ⟨c3, r3, rfl, w1, w2, w3, w4⟩
end LO
