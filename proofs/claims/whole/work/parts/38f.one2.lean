/-! a sentence: one, in both (the whole of it) -/
abbrev sn_rec : Type := Nat → bm_TI → bm_TJ → bm_TR → Int32 → Option (Bool × bm_TI × bm_TJ × bm_TR)
def no_and (B : Nat → Nat) (n lim p : Nat) : Prop := ¬ ((lx B n lim p).1 = 4 ∧ (lx B n lim p).2.1 = 20)
def no_or (B : Nat → Nat) (n lim p : Nat) : Prop := ¬ ((lx B n lim p).1 = 4 ∧ (lx B n lim p).2.1 = 19)
def sh_1 : List Nat → Nat → Prop := fun P _ => sn_dn P = []
def sh_2 (B : Nat → Nat) (n lim : Nat) : List Nat → Nat → Prop := fun P p => sn_dj 21 (sn_dn P) = [] ∧ no_and B n lim p
def sh_3 (B : Nat → Nat) (n lim : Nat) : List Nat → Nat → Prop := fun P p => sn_dj 22 (sn_dn P) = [] ∧ no_and B n lim p ∧ no_or B n lim p
section OW
variable {T : pt_T} {n lim : Nat} {B : Nat → Nat}
theorem zz_tks {p : Nat} {c : zc_C} {r : zc_R} (h : zz_P n lim B p c r) : ((lx B n lim p).1 = 2 ∧ (lx B n lim p).2.1 = 41 → f_X5_takeSign c.1 c.2.1 c.2.2 41 = (f_X5_advance c.1 c.2.1 c.2.2).bind fun v => some (true, v)) ∧ (¬ ((lx B n lim p).1 = 2 ∧ (lx B n lim p).2.1 = 41) → f_X5_takeSign c.1 c.2.1 c.2.2 41 = (f_X5_refuse c.1 1).bind fun v => some (v.1, v.2, c.2)) := by
  have hb := zz_lx h
  have k3 : (c.1 3 3 = 2) = ((lx B n lim p).1 = 2) := by rw [h.2.2.2.2.2.1.2.1]; exact pn_eqI (b := 2) (by omega) (by omega)
  have k6 : (c.1 3 6 = 41) = ((lx B n lim p).1 = 2 ∧ (lx B n lim p).2.1 = 41) := zz_36 h (s := 41) (by omega) (by omega)
  unfold f_X5_takeSign
  simp only [k3, k6]
  refine ⟨fun q => ?_, fun q => ?_⟩
  · rw [if_pos q.1, if_pos q]
  · rw [if_neg q]
    by_cases k : (lx B n lim p).1 = 2
    · rw [if_pos k]
    · rw [if_neg k]
theorem sn_one {rec : sn_rec} {d : Nat} (hcond : ∀ p S M t o c r, d ≤ 8 → sn_H T n lim B p S M t o (d + 1) c r → sn_b 22 t r.1 → t ≤ 3 * d → sn_E T n lim B p S M t o (d + 1) (sh_3 B n lim) c r (rec 0 c.1 c.2.1 c.2.2 (nI (d + 1)))) (hone : ∀ p S M t o c r, d ≤ 8 → sn_H T n lim B p S M t o (d + 1) c r → t ≤ 3 * d + 2 → sn_E T n lim B p S M t o (d + 1) sh_1 c r (rec 2 c.1 c.2.1 c.2.2 (nI (d + 1)))) {p : Nat} {S : pt_T} {M t o : Nat} {c : zc_C} {r : zc_R} (hH : sn_H T n lim B p S M t o d c r) (ht : t ≤ 3 * (d - 1) + 2) : sn_E T n lim B p S M t o d sh_1 c r (f_X7_readOne_B rec c.1 c.2.1 c.2.2 (nI d)) := by
  obtain ⟨h, hA, hC, hc5, hR, hV, hM, ho, hd1, hd9⟩ := id hH
  have hb := zz_lx h
  have hw : r.1 164 42 = 0 := hR.2.2.2.2.2.2
  have h39 : r.1 164 39 = nI o := hR.2.2.2.2.1
  have h41 : r.1 164 41 = nI d := hR.2.2.2.2.2.1
  have z40 : (c.1 3 6 = 40) = ((lx B n lim p).1 = 2 ∧ (lx B n lim p).2.1 = 40) := zz_36 h (s := 40) (by omega) (by omega)
  have oW := zz_isW h (i := 21) (by omega) (show (7237492 : Int64) = nm_8 (wd_w 21) by decide +kernel)
  have oS : f_X12_isSign r.1 40 = some (decide ((lx B n lim p).1 = 2 ∧ (lx B n lim p).2.1 = 40)) := zz_sgn h (s := 40) (by omega) (by decide)
  have oL := zz_leaf h
  unfold f_X7_readOne_B
  simp only [z40, hc5, kc_canB h, Option.bind_some, decide_eq_true_eq]
  have c20 : ((20 : Int32) ≤ nI o) = (20 ≤ o) := pn_leI (a := 20) (by omega) (by omega)
  have c8 : (nI d ≤ (8 : Int32)) = (d ≤ 8) := pn_leI (b := 8) (by omega) (by omega)
  have r20 : (nI o = (20 : Int32)) = (o = 20) := pn_eqI (b := 20) (by omega) (by omega)
  simp only [c20, c8, nI_1]
  by_cases kO : (lx B n lim p).1 = 2 ∧ (lx B n lim p).2.1 = 40
  · -- a bracket
    rw [decide_eq_false (show ¬ ((lx B n lim p).1 = 4 ∧ (lx B n lim p).2.1 = 21) by omega)] at oW
    rw [decide_eq_true kO] at oS
    have op := op_open oW oS oL
    rw [h39, h41] at op
    simp only [r20, c8, nI_1] at op
    rw [if_pos kO]
    by_cases o20 : 20 ≤ o
    · rw [if_pos (show o = 20 by omega)] at op
      rw [if_pos o20]
      exact sn_fail (e := 4) h hw (by omega) (by omega) op
    · rw [if_neg (show ¬ o = 20 by omega)] at op
      rw [if_neg o20]
      by_cases d8 : d ≤ 8
      · rw [if_pos d8] at op ⊢
        obtain ⟨c1, r1, p1, e1, d1, z1, hp1, C1, f1, R1, s1, A1, gc1, gr1⟩ := sn_in hH (by omega)
        obtain ⟨X, e2, z2, R2, X1, X2, gr2⟩ := sn_push (x := 23) z1 R1 (by omega)
        have e2' : sn_ps r1.1 r1.2 23 = some (true, X, r1.2) := e2
        rw [d1] at op
        simp only [Option.bind_some] at op
        rw [e2'] at op
        rw [e1]
        simp only [Option.bind_some]
        have hn1 := z1.2.2.1
        have hg := sg_op hw op hp1 hn1
        have gr12 : gS_r r (X, r1.2) := gS_rt gr1 gr2
        have hH2 : sn_H T n lim B p1 S M (t + 1) (o + 1) (d + 1) c1 (X, r1.2) := ⟨z2, bk_AS A1 (gS_cz (gc_rfl c1)) gr2, C1, f1, R2, hV, by omega, by omega, by omega, by omega⟩
        rcases hcond p1 S M (t + 1) (o + 1) c1 (X, r1.2) d8 hH2 (Or.inr ⟨23, X1, by omega, by omega, by omega, fun q => by omega⟩) (by omega) with ⟨c3, r3, p3, S3, M3, P, m, o3, x3, ⟨sh1, sh2, sh3⟩, y1, y2, y3, y4, y5, y6, y7, y8, y9, y10, y11, y12, y13, y14, y15, y16, y17, y18, y19⟩ | ⟨c3, r3, x3, y1, y2, y3, y4⟩
        · rw [x3]
          simp only [Option.bind_some, ↓reduceIte]
          have hbb : sn_b 22 (t + 1) r3.1 := Or.inr ⟨23, (y17 t (by omega)).trans X1, by omega, by omega, by omega, fun q => by omega⟩
          obtain ⟨Y, RY, fY, hE, hN⟩ := sn_bno y2 y6 y8 (by omega) y9 sh2 sh3 sh1 (by omega) hbb
          have tk := zz_tks y2
          have gcA : gS_c c c3 := gS_ct gc1 y18
          have grA : gS_r r r3 := gS_rt gr12 y19
          obtain ⟨Ic, Ir, b1, b2, b3, b4, b5⟩ := sn_no y2 fY
          by_cases k41 : (lx B n lim p3).1 = 2 ∧ (lx B n lim p3).2.1 = 41
          · rw [tk.1 k41]
            generalize hZ : bm_uI (bm_uI Y 164 40 (nI (t + 1 - 1))) 164 41 (nI (d + 1 - 1)) = Z at hN
            have fZ : ∀ a k, (a ≠ 164 ∨ (k ≠ 40 ∧ k ≠ 41)) → Z a k = Y a k := fun a k ha => by rw [← hZ, pn_uI_off (by omega), pn_uI_off (by omega)]
            have zZ : zz_P n lim B p3 c3 (Z, r3.2) := zz_to (zz_F y2 fY) (fun _ _ _ _ => rfl) rfl rfl (fun a k ha => fZ a k (by omega)) rfl (fun _ => rfl)
            obtain ⟨c4, r4, p4, a1, a2, z4, _, a4, g1, g2, _⟩ := zz_adv zZ
            have a2' : f_X12_next Z r3.2 = some r4 := a2
            rw [a1]
            simp only [Option.bind_some, ↓reduceIte]
            have hn4 := z4.2.2.1
            have hp4 : p3 < p4 := a4 (by omega)
            have hk0 : ¬ (lx B n lim p3).1 = 0 := by omega
            have hg2 : sn_g n p3 r3 p4 r4 := fun K hK => by
              obtain ⟨K, rfl⟩ : ∃ q, K = q + 1 := ⟨K - 1, by omega⟩
              refine ⟨K, by omega, ?_⟩
              rw [hN hk0 K, if_pos ⟨k41.1, k41.2, by omega⟩, a2']
              rfl
            have fr : ∀ a k, (a ≠ 164 ∨ k < 4 ∨ (4 < k ∧ k < 11) ∨ k = 17 ∨ (18 < k ∧ k < 38) ∨ 42 < k) → a ≠ 168 → r4.1 a k = r3.1 a k := fun a k h1 h2 => (g2.1 a k (by omega)).trans ((fZ a k (by omega)).trans (fY a k (by omega) h2))
            obtain ⟨q1, q2, q3, q4, q5, q6, q7⟩ := RY
            rw [y7] at q1 q2
            refine Or.inl ⟨c4, r4, p4, S3, M3, [], M3, o3, rfl, rfl, sg_tr hg (sg_tr y1 hg2), z4, by omega, ?_, ?_, ⟨?_, fun i hi => ?_, ?_, trivial, ?_, ?_, ?_⟩, rfl, fun x hx => absurd hx (List.not_mem_nil), ?_, y10, y11, y12, y13, by omega, by omega, y16, fun i hi => ?_, gS_ct gcA (gS_cz g1), gS_rt grA ⟨fun a k h1 h2 _ => fr a k h1 h2, fun a k h1 => g2.2 a k h1⟩⟩
            · exact sC_congr (g1.1 156 4 (by omega)) (fun k => g1.2.2 157 k (by omega)) (fun k => g1.1 158 k (by omega)) (fun k => g1.1 159 k (by omega)) (se_rfl S3 M3) y4
            · rw [g1.1 156 5 (by omega)]; exact y5
            · rw [g2.1 164 38 (by omega)]; exact (fZ 164 38 (by omega)).trans q1
            · rw [g2.1 168 _ (by omega), g2.1 168 _ (by omega), g2.1 168 _ (by omega)]
              dsimp only
              rw [fZ 168 _ (by omega), fZ 168 _ (by omega), fZ 168 _ (by omega)]
              exact q2 i hi
            · rw [g2.1 164 40 (by omega)]
              show Z 164 40 = nI (t + 0)
              rw [← hZ, pn_uI_ne2 (by omega), pn_uI_hit rfl]; rfl
            · rw [g2.1 164 39 (by omega)]; exact (fZ 164 39 (by omega)).trans q5
            · rw [g2.1 164 41 (by omega)]
              show Z 164 41 = nI (d + 0)
              rw [← hZ, pn_uI_hit rfl]; rfl
            · rw [g2.1 164 42 (by omega)]; exact (fZ 164 42 (by omega)).trans q7
            · show t + 0 ≤ 30; omega
            · rw [fr 176 i (by omega) (by omega), y17 i (by omega)]; exact (X2 i hi).trans (s1 i)
          · rw [tk.2 k41, b1]
            simp only [Option.bind_some, ↓reduceIte, Bool.false_eq_true]
            refine Or.inr ⟨(Ic, c3.2), (Ir, r3.2), rfl, sg_f hg (sg_f y1 (fun K hK => ?_)), b3, gS_ct gcA (gS_cz b4), gS_rt grA b5⟩
            obtain ⟨K, rfl⟩ : ∃ q, K = q + 1 := ⟨K - 1, by omega⟩
            by_cases k0 : (lx B n lim p3).1 = 0
            · rw [hE k0 K, if_neg (by omega)]
              simp only [Option.bind_some, sn_G]
              rw [b2]; rfl
            · rw [hN k0 K, if_neg (fun q => k41 ⟨q.1, q.2.1⟩), b2]; rfl
        · rw [x3]
          exact sE_in hg gc1 gr12 rfl y1 y2 y3 y4
      · rw [if_neg d8] at op ⊢
        exact sn_fail (e := 4) h hw (by omega) (by omega) op
  · rw [if_neg kO]
    rw [decide_eq_false kO] at oS
    by_cases k21 : (lx B n lim p).1 = 4 ∧ 21 ≤ (lx B n lim p).2.1
    · rw [if_pos k21]
      have hW8 : c.2.2 3 8 = some (1000 + (lx B n lim p).2.1) := by rw [zz_W h, if_pos k21.1]
      by_cases kN : (lx B n lim p).2.1 = 21
      · -- not
        rw [decide_eq_true (show (lx B n lim p).1 = 4 ∧ (lx B n lim p).2.1 = 21 by omega)] at oW
        have op := op_not oW oS oL
        rw [h39, h41] at op
        simp only [r20, c8, nI_1] at op
        by_cases o20 : 20 ≤ o
        · rw [if_pos (show o = 20 by omega)] at op
          rw [if_pos o20]
          exact sn_fail (e := 4) h hw (by omega) (by omega) op
        · rw [if_neg (show ¬ o = 20 by omega)] at op
          rw [if_neg o20]
          by_cases d8 : d ≤ 8
          · rw [if_pos d8] at op ⊢
            obtain ⟨c1, r1, p1, e1, d1, z1, hp1, C1, f1, R1, s1, A1, gc1, gr1⟩ := sn_in hH (by omega)
            obtain ⟨X, e2, z2, R2, X1, X2, gr2⟩ := sn_push (x := 20) z1 R1 (by omega)
            have e2' : sn_ps r1.1 r1.2 20 = some (true, X, r1.2) := e2
            rw [d1] at op
            simp only [Option.bind_some] at op
            rw [e2'] at op
            rw [e1]
            simp only [Option.bind_some]
            rw [if_pos (zz_iwq h), if_pos (show c.2.2 3 8 = some (1000 + 21) by rw [hW8, kN])]
            have hn1 := z1.2.2.1
            have hg := sg_op hw op hp1 hn1
            have gr12 : gS_r r (X, r1.2) := gS_rt gr1 gr2
            have hH2 : sn_H T n lim B p1 S M (t + 1) (o + 1) (d + 1) c1 (X, r1.2) := ⟨z2, bk_AS A1 (gS_cz (gc_rfl c1)) gr2, C1, f1, R2, hV, by omega, by omega, by omega, by omega⟩
            rcases hone p1 S M (t + 1) (o + 1) c1 (X, r1.2) d8 hH2 (by omega) with ⟨c3, r3, p3, S3, M3, P, m, o3, x3, sh1, y1, y2, y3, y4, y5, y6, y7, y8, y9, y10, y11, y12, y13, y14, y15, y16, y17, y18, y19⟩ | ⟨c3, r3, x3, y1, y2, y3, y4⟩
            · rw [x3]
              simp only [Option.bind_some, ↓reduceIte]
              obtain ⟨I', W', b1, b2, b3, b4⟩ := sC_add (cd := 20) (a := 0) (b := 0) y4 (show M3 < 40 by omega) (by decide)
              have b1' : f_X7_add c3.1 c3.2.2 (some (1000 + 21)) 0 0 = some (I', W') := b1
              rw [b1']
              have gca : gS_c c3 (I', c3.2.1, W') := ⟨fun a k _ h2 h3 h4 => b3 a k (by omega) h3 h4, fun _ _ _ => rfl, fun a k _ h2 => b4 a k h2⟩
              have hl : (P ++ [20]).length = P.length + 1 := by rw [List.length_append]; rfl
              refine Or.inl ⟨(I', c3.2.1, W'), r3, p3, sn_u S3 M3 20 0 0, M3 + 1, P ++ [20], m, o3, rfl, dn_20 sh1, sg_tr hg y1, ?_, by omega, b2 _, ?_, sR_app y6 ((y17 t (by omega)).trans X1) y7 rfl, by omega, fun x hx => ?_, by omega, se_tr y10 (se_u S3 M3 20 0 0) y11, by omega, sV_u y12 (Or.inr (Or.inl ⟨rfl, by omega⟩)) (fun q => by omega) (fun q => by omega) (by omega) (fun q => by omega), ?_, by omega, by omega, y16, fun i hi => ?_, gS_ct (gS_ct gc1 y18) gca, gS_rt gr12 y19⟩
              · exact zz_to y2 (fun a k h1 h2 => b3 a k (by omega) (by omega) (by omega)) rfl (b4 3 8 (by omega)) (fun _ _ _ => rfl) rfl (fun _ => rfl)
              · dsimp only; rw [b3 156 5 (by omega) (by omega) (by omega)]; exact y5
              · rcases List.mem_append.mp hx with hx | hx
                · exact y8 x hx
                · rw [List.mem_singleton] at hx; omega
              · rw [qh_u, if_neg (by omega), if_pos rfl]; exact y13
              · rw [y17 i (by omega)]; exact (X2 i hi).trans (s1 i)
            · rw [x3]
              exact sE_in hg gc1 gr12 rfl y1 y2 y3 y4
          · rw [if_neg d8] at op ⊢
            exact sn_fail (e := 4) h hw (by omega) (by omega) op
      · -- a plain one
        rw [decide_eq_false (show ¬ ((lx B n lim p).1 = 4 ∧ (lx B n lim p).2.1 = 21) by omega)] at oW
        rw [if_pos (show (lx B n lim p).1 = 4 ∧ 22 ≤ (lx B n lim p).2.1 by omega)] at oL
        have hv34 := hb.2.2.1 k21.1
        obtain ⟨l, hl⟩ : ∃ l, (lx B n lim p).2.1 = 22 + l := ⟨(lx B n lim p).2.1 - 22, by omega⟩
        rw [hl, show 22 + l - 22 = l by omega] at oL
        have op := op_leaf oW oS oL (nI_le (a := 0) (by omega) (by omega))
        rw [h39, h41] at op
        simp only [r20, c8, nI_1] at op
        by_cases o20 : 20 ≤ o
        · rw [if_pos (show o = 20 by omega)] at op
          rw [if_pos o20]
          exact sn_fail (e := 4) h hw (by omega) (by omega) op
        · rw [if_neg (show ¬ o = 20 by omega)] at op
          rw [if_neg o20]
          by_cases d8 : d ≤ 8
          · rw [if_pos d8] at op ⊢
            obtain ⟨c1, r1, p1, e1, d1, z1, hp1, C1, f1, R1, s1, A1, gc1, gr1⟩ := sn_in hH (by omega)
            rw [d1] at op
            simp only [Option.bind_some] at op
            rw [e1]
            simp only [Option.bind_some]
            rw [if_pos (zz_iwq h), if_neg (show ¬ c.2.2 3 8 = some (1000 + 21) by rw [hW8]; intro q; injection q with q; omega), hW8, hl]
            have hn1 := z1.2.2.1
            have z2 : zz_P n lim B p1 c1 (bm_uI r1.1 164 42 (bm_bi true), r1.2) := zz_19 z1 (by omega)
            have gr2 : gS_r r1 (bm_uI r1.1 164 42 (bm_bi true), r1.2) := ⟨fun a k h1 _ _ => pn_uI_off (by omega), fun _ _ _ => rfl⟩
            have R2 : sn_R S M t [] (o + 1) d 1 (bm_uI r1.1 164 42 (bm_bi true)) := by
              obtain ⟨q1, q2, q3, q4, q5, q6, q7⟩ := R1
              refine ⟨?_, fun i hi => ?_, ?_, trivial, ?_, ?_, pn_uI_hit rfl⟩
              · rw [pn_uI_ne2 (by omega)]; exact q1
              · rw [pn_uI_ne (by omega), pn_uI_ne (by omega), pn_uI_ne (by omega)]; exact q2 i hi
              · rw [pn_uI_ne2 (by omega)]; exact q3
              · rw [pn_uI_ne2 (by omega)]; exact q5
              · rw [pn_uI_ne2 (by omega)]; exact q6
            rcases sn_leaf z2 (bk_AS A1 (gS_cz (gc_rfl c1)) gr2) C1 R2 (show M < 40 by omega) (show l < 12 by omega) with ⟨c3, r3, p3, b, e, x1, x2, y2, y3, y4, y5, y6, y7, y8, y9, y10, y11, y12, y13⟩ | ⟨c3, r3, x1, x2, y1, y2, y3⟩
            · have x2' : sn_lf (bm_uI r1.1 164 42 (bm_bi true)) r1.2 (nI l) = some (true, r3) := x2
              rw [x2'] at op
              rw [x1]
              have hn3 := y2.2.2.1
              refine Or.inl ⟨c3, r3, p3, sn_u S M l b e, M + 1, [], M + 1, o + 1, rfl, rfl, sg_op hw op (by omega) hn3, y2, by omega, y4, y11.trans f1, y5, rfl, fun x hx => absurd hx (List.not_mem_nil), ?_, se_u S M l b e, by omega, sV_u hV (Or.inl (by omega)) y6 y7 y8 (fun q _ => y9 q), ?_, by omega, by omega, by omega, fun i hi => ?_, gS_ct gc1 y12, gS_rt gr1 (gS_rt gr2 y13)⟩
              · show t + 0 ≤ 30; omega
              · rw [qh_u, if_pos (by omega)]
              · rw [y10 i]
                exact (show bm_uI r1.1 164 42 (bm_bi true) 176 i = _ from pn_uI_ne (by omega)).trans (s1 i)
            · have x2' : sn_lf (bm_uI r1.1 164 42 (bm_bi true)) r1.2 (nI l) = some (false, r3) := x2
              rw [x2'] at op
              rw [x1]
              refine Or.inr ⟨c3, r3, rfl, fun K hK => ?_, y1, gS_ct gc1 y2, gS_rt gr1 (gS_rt gr2 y3)⟩
              obtain ⟨K, rfl⟩ : ∃ q, K = q + 1 := ⟨K - 1, by omega⟩
              rw [l48_op hw, op]
              rfl
          · rw [if_neg d8] at op ⊢
            exact sn_fail (e := 4) h hw (by omega) (by omega) op
    · rw [if_neg k21]
      rw [decide_eq_false (show ¬ ((lx B n lim p).1 = 4 ∧ (lx B n lim p).2.1 = 21) by omega)] at oW
      rw [if_neg (show ¬ ((lx B n lim p).1 = 4 ∧ 22 ≤ (lx B n lim p).2.1) by omega)] at oL
      exact sn_fail (e := 1) h hw (by omega) (by omega) (op_bad oW oS oL (by decide))
end OW
