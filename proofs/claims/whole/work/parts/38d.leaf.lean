/-! a sentence: a plain one, in both -/
theorem so_tab : ∀ l, l < 12 → bm_wso (1000 + (22 + l)) = nI (if l < 5 then 4 else if l < 7 then 5 else if l < 8 then 6 else 7) := by decide +kernel
theorem qw_lf {l : Nat} (h : l < 12) : qt_w l = 22 + l := by unfold qt_w; rw [if_pos h]
def sl_E (T S : pt_T) (n lim : Nat) (B : Nat → Nat) (p m t o d l : Nat) (c : zc_C) (r : zc_R) (x : Option (Bool × zc_C)) (y : Option (Bool × zc_R)) : Prop := (∃ c' r' p' b e, x = some (true, c') ∧ y = some (true, r') ∧ zz_P n lim B p' c' r' ∧ p ≤ p' ∧ sn_C (sn_u S m l b e) (m + 1) c' ∧ sn_R (sn_u S m l b e) (m + 1) t [] o d 1 r'.1 ∧ ((l = 5 ∨ l = 6) → e < T 0) ∧ (l = 7 → e < T 1) ∧ e ≤ 999 ∧ (8 ≤ l → 60 ≤ b ∧ b ≤ 62) ∧ (∀ k, r'.1 176 k = r.1 176 k) ∧ c'.1 156 5 = c.1 156 5 ∧ gS_c c c' ∧ gS_r r r') ∨ ∃ c' r', x = some (false, c') ∧ y = some (false, r') ∧ zf_P c' r' ∧ gS_c c c' ∧ gS_r r r'
section LF
variable {n lim p : Nat} {B : Nat → Nat} {c : zc_C} {r : zc_R}
/-- laid down by the reference, gone on by both, laid down by the class -/
theorem sl_go {S : pt_T} {m t o d l b e : Nat} (h : zz_P n lim B p c r) (hC : sn_C S m c) (hR : sn_R S m t [] o d 1 r.1) (hm : m < 40) (hl : l < 12) : ∃ Ip c1 r1 p1 I' W', f_X12_putCode r.1 (nI l) (nI b) (nI e) = some Ip ∧ f_X12_next Ip r.2 = some r1 ∧ f_X5_advance c.1 c.2.1 c.2.2 = some c1 ∧ f_X7_add c1.1 c1.2.2 (some (1000 + (22 + l))) (nI e) (nI b) = some (I', W') ∧ zz_P n lim B p1 (I', c1.2.1, W') r1 ∧ p ≤ p1 ∧ sn_C (sn_u S m l b e) (m + 1) (I', c1.2.1, W') ∧ sn_R (sn_u S m l b e) (m + 1) t [] o d 1 r1.1 ∧ (∀ k, r1.1 176 k = r.1 176 k) ∧ I' 156 5 = c.1 156 5 ∧ gS_c c (I', c1.2.1, W') ∧ gS_r r r1 := by
  obtain ⟨Ip, e1, R1, f1, _⟩ := sR_put (l := l) (b := b) (e := e) hR (by omega)
  obtain ⟨c1, r1, p1, a1, a2, z, a3, _, g1, g2, _⟩ := zz_adv (zz_F h f1)
  have hC1 : sn_C S m c1 := sC_congr (g1.1 156 4 (by omega)) (fun k => g1.2.2 157 k (by omega)) (fun k => g1.1 158 k (by omega)) (fun k => g1.1 159 k (by omega)) (se_rfl S m) hC
  obtain ⟨I', W', e2, C2, f2, f3⟩ := sC_add (cd := l) (a := e) (b := b) hC1 hm (by rw [qw_lf hl]; omega)
  rw [qw_lf hl] at e2
  refine ⟨Ip, c1, r1, p1, I', W', e1, a2, a1, e2, ?_, a3, C2 _, ?_, fun k => ?_, ?_, ⟨fun o k h1 h2 h3 h4 => ?_, fun o k h1 => g1.2.1 o k h1, fun o k h1 h2 => ?_⟩, ⟨fun o k h1 h2 h3 => ?_, fun o k h1 => g2.2 o k h1⟩⟩
  · exact zz_to z (fun o k h1 h2 => f2 o k (by omega) (by omega) (by omega)) rfl (f3 3 8 (by omega)) (fun _ _ _ => rfl) rfl (fun _ => rfl)
  · exact sR_congr (fun k h1 h2 => g2.1 164 k (by omega)) (fun k hk => g2.1 168 k (by omega)) (fun k _ _ => g2.1 176 k (by omega)) (se_rfl _ _) R1
  · rw [g2.1 176 k (by omega)]; exact f1 176 k (by omega) (by omega)
  · rw [f2 156 5 (by omega) (by omega) (by omega)]; exact g1.1 156 5 (by omega)
  · exact (f2 o k (by omega) h3 h4).trans (g1.1 o k h1)
  · exact (f3 o k h2).trans (g1.2.2 o k h1)
  · rw [g2.1 o k (by omega)]; exact f1 o k (by omega) h2
theorem sn_leaf {T S : pt_T} {m t o d l : Nat} (h : zz_P n lim B p c r) (hA : bk_A T c r) (hC : sn_C S m c) (hR : sn_R S m t [] o d 1 r.1) (hm : m < 40) (hl : l < 12) : sl_E T S n lim B p m t o d l c r (f_X7_readPlain c.1 c.2.1 c.2.2 (some (1000 + (22 + l)))) (sn_lf r.1 r.2 (nI l)) := by
  have hb := zz_lx h
  have hiw : bm_iw (1000 + (22 + l)) = true := by
    show (decide _ && decide _) = true
    rw [decide_eq_true (by omega), decide_eq_true (by omega)]; rfl
  have hso := so_tab l hl
  obtain ⟨h0, h7, h3, h4, h5, h6, hn1, hn2⟩ := hA
  unfold f_X7_readPlain sn_lf
  simp only [Option.bind_some, hiw, ↓reduceIte]
  by_cases l5 : l < 5
  · rw [if_pos l5] at hso
    rw [hso, if_neg (show ¬ nI 4 = 5 by decide), if_neg (show ¬ nI 4 = 6 by decide), if_neg (show ¬ nI 4 = 7 by decide), if_pos (show nI 4 = 4 from rfl), if_neg (show ¬ (5 : Int32) ≤ nI l from nI_ge (b := 5) (by omega) (by omega))]
    obtain ⟨Ip, e1, R1, f1, _⟩ := sR_put (l := l) (b := 0) (e := 0) hR (by omega)
    obtain ⟨I', W', e2, C2, f2, f3⟩ := sC_add (cd := l) (a := 0) (b := 0) hC hm (by rw [qw_lf hl]; omega)
    rw [qw_lf hl] at e2
    have e1' : f_X12_putCode r.1 (nI l) 0 0 = some Ip := e1
    have e2' : f_X7_add c.1 c.2.2 (some (1000 + (22 + l))) 0 0 = some (I', W') := e2
    rw [e1', e2']
    refine Or.inl ⟨(I', c.2.1, W'), (Ip, r.2), p, 0, 0, rfl, rfl, ?_, Nat.le_refl _, C2 _, R1, fun q => by omega, fun q => by omega, by omega, fun q => by omega, fun k => f1 176 k (by omega) (by omega), f2 156 5 (by omega) (by omega) (by omega), ⟨fun o k _ h2 h3 h4 => f2 o k (by omega) h3 h4, fun _ _ _ => rfl, fun o k _ h2 => f3 o k h2⟩, ⟨fun o k h1 h2 h3 => f1 o k (by omega) h2, fun _ _ _ => rfl⟩⟩
    exact zz_to (zz_F h f1) (fun o k h1 h2 => f2 o k (by omega) (by omega) (by omega)) rfl (f3 3 8 (by omega)) (fun _ _ _ => rfl) rfl (fun _ => rfl)
  · rw [if_neg l5] at hso
    rw [if_pos (show (5 : Int32) ≤ nI l from nI_le (a := 5) (by omega) (by omega))]
    have h18 : ∀ v, sn_R S m t [] o d 1 (bm_uI r.1 164 18 v) := fun v => sR_congr (fun k h1 h2 => pn_uI_ne2 (by omega)) (fun k _ => pn_uI_ne (by omega)) (fun k _ _ => pn_uI_ne (by omega)) (se_rfl _ _) hR
    by_cases l8 : l < 8
    · rw [if_neg (show ¬ (8 : Int32) ≤ nI l from nI_ge (b := 8) (by omega) (by omega))]
      by_cases l7 : l < 7
      · rw [if_pos l7] at hso
        rw [hso, if_neg (show ¬ (7 : Int32) ≤ nI l from nI_ge (b := 7) (by omega) (by omega)), if_pos (show nI 5 = 5 from rfl), h5]
        rcases zz_man h h3 h0 (fr := 0) (by omega) (fun j hj => by rw [Nat.zero_add]; exact hn1 j hj) with ⟨x, hx, hk, e1, d1⟩ | ⟨Ic, Ir, e1, d1, zf, g1, s1⟩
        · have d1' : f_X12_looksAt r.1 r.2 0 (nI (T 0)) = some (true, bm_uI r.1 164 18 (nI x)) := d1
          obtain ⟨Ip, c1, r1, p1, I', W', q1, q2, q3, q4, q5, q6, q7, q8, q9, q10, q11, q12⟩ := sl_go (l := l) (b := 0) (e := x) (zz_18 h (nI x)) hC (h18 (nI x)) hm hl
          have q1' : f_X12_putCode (bm_uI r.1 164 18 (nI x)) (nI l) 0 (nI x) = some Ip := q1
          have q2' : f_X12_next Ip r.2 = some r1 := q2
          have q4' : f_X7_add c1.1 c1.2.2 (some (1000 + (22 + l))) (nI x) 0 = some (I', W') := q4
          rw [e1, d1']
          simp only [Option.bind_some, ↓reduceIte]
          rw [if_neg (show ¬ nI x = -1 by rw [pn_neg (by omega)]; exact not_false), if_neg (show ¬ nI 5 = 4 by decide), pn_uI_hit rfl, q1', q3]
          simp only [Option.bind_some]
          rw [q2', q4']
          exact Or.inl ⟨_, r1, p1, 0, x, rfl, rfl, q5, q6, q7, q8, fun _ => hx, fun q => by omega, by omega, fun q => by omega, fun k => (q9 k).trans (show bm_uI r.1 164 18 (nI x) 176 k = _ from pn_uI_ne (by omega)), q10, q11, gS_rt (gS_rz (gr_18 r (nI x))) q12⟩
        · have d1' : f_X12_looksAt r.1 r.2 0 (nI (T 0)) = some (false, Ir) := d1
          rw [e1, d1']
          exact Or.inr ⟨(Ic, c.2), (Ir, r.2), rfl, rfl, zf, gS_cz g1, gS_rz s1⟩
      · rw [if_neg l7, if_pos l8] at hso
        rw [hso, if_pos (show (7 : Int32) ≤ nI l from nI_le (a := 7) (by omega) (by omega)), if_neg (show ¬ nI 6 = 5 by decide), if_pos (show nI 6 = 6 from rfl), h6]
        rcases zz_ord h h4 h7 (fr := 8) (by omega) hn2 with ⟨x, hx, hk, e1, d1⟩ | ⟨Ic, Ir, e1, d1, zf, g1, s1⟩
        · have d1' : f_X12_looksAt r.1 r.2 8 (nI (T 1)) = some (true, bm_uI r.1 164 18 (nI x)) := d1
          obtain ⟨Ip, c1, r1, p1, I', W', q1, q2, q3, q4, q5, q6, q7, q8, q9, q10, q11, q12⟩ := sl_go (l := l) (b := 0) (e := x) (zz_18 h (nI x)) hC (h18 (nI x)) hm hl
          have q1' : f_X12_putCode (bm_uI r.1 164 18 (nI x)) (nI l) 0 (nI x) = some Ip := q1
          have q2' : f_X12_next Ip r.2 = some r1 := q2
          have q4' : f_X7_add c1.1 c1.2.2 (some (1000 + (22 + l))) (nI x) 0 = some (I', W') := q4
          rw [e1, d1']
          simp only [Option.bind_some, ↓reduceIte]
          rw [if_neg (show ¬ nI x = -1 by rw [pn_neg (by omega)]; exact not_false), if_neg (show ¬ nI 6 = 4 by decide), pn_uI_hit rfl, q1', q3]
          simp only [Option.bind_some]
          rw [q2', q4']
          exact Or.inl ⟨_, r1, p1, 0, x, rfl, rfl, q5, q6, q7, q8, fun q => by omega, fun _ => hx, by omega, fun q => by omega, fun k => (q9 k).trans (show bm_uI r.1 164 18 (nI x) 176 k = _ from pn_uI_ne (by omega)), q10, q11, gS_rt (gS_rz (gr_18 r (nI x))) q12⟩
        · have d1' : f_X12_looksAt r.1 r.2 8 (nI (T 1)) = some (false, Ir) := d1
          rw [e1, d1']
          exact Or.inr ⟨(Ic, c.2), (Ir, r.2), rfl, rfl, zf, gS_cz g1, gS_rz s1⟩
    · rw [if_neg (show ¬ l < 7 by omega), if_neg l8] at hso
      rw [hso, if_pos (show (8 : Int32) ≤ nI l from nI_le (a := 8) (by omega) (by omega)), if_neg (show ¬ nI 7 = 5 by decide), if_neg (show ¬ nI 7 = 6 by decide), if_pos (show nI 7 = 7 from rfl)]
      simp only [if_neg (show ¬ nI 7 = 4 by decide)]
      have z60 := zz_36 h (s := 60) (by omega) (by omega)
      have z61 := zz_36 h (s := 61) (by omega) (by omega)
      have z62 := zz_36 h (s := 62) (by omega) (by omega)
      have z60' : (c.1 3 6 = 60) = ((lx B n lim p).1 = 2 ∧ (lx B n lim p).2.1 = 60) := z60
      have z61' : (c.1 3 6 = 61) = ((lx B n lim p).1 = 2 ∧ (lx B n lim p).2.1 = 61) := z61
      have z62' : (c.1 3 6 = 62) = ((lx B n lim p).1 = 2 ∧ (lx B n lim p).2.1 = 62) := z62
      simp only [z60', z61', z62']
      by_cases k : (lx B n lim p).1 = 2 ∧ 60 ≤ (lx B n lim p).2.1 ∧ (lx B n lim p).2.1 ≤ 62
      · obtain ⟨k2, k60, k62⟩ := k
        have hts : tk_s (lx B n lim p).2.1 = true := by
          unfold tk_s
          rw [decide_eq_true k60, decide_eq_true k62]
          simp
        have hr14 := h.2.2.2.2.2.2.1.2.2.2.1 k2
        have hc6 : c.1 3 6 = nI (lx B n lim p).2.1 := by
          have := h.2.2.2.2.2.1.2.2.2.1
          rw [if_pos k2] at this; exact this
        rw [if_pos (show r.1 164 11 = 3 by rw [zz_tok3 h]; exact ⟨k2, hts⟩), hr14, if_neg (show ¬ nI (lx B n lim p).2.1 < 60 from nI_nlt (b := 60) k60 (by omega)), if_pos (show nI (lx B n lim p).2.1 ≤ 62 from nI_le (b := 62) k62 (by omega)), hc6]
        generalize hsg : (lx B n lim p).2.1 = sg at k60 k62
        obtain ⟨c1, r1, p1, a1, a2, z, a3, _, g1, g2, _⟩ := zz_adv h
        rw [a1, a2]
        simp only [Option.bind_some]
        have hb1 := zz_lx z
        have hC1 : sn_C S m c1 := sC_congr (g1.1 156 4 (by omega)) (fun k => g1.2.2 157 k (by omega)) (fun k => g1.1 158 k (by omega)) (fun k => g1.1 159 k (by omega)) (se_rfl S m) hC
        have hR1 : sn_R S m t [] o d 1 r1.1 := sR_congr (fun k h1 h2 => g2.1 164 k (by omega)) (fun k hk => g2.1 168 k (by omega)) (fun k _ _ => g2.1 176 k (by omega)) (se_rfl _ _) hR
        have hend : ∀ (X : Option (Bool × zc_C)) (Y : Option (Bool × zc_R)), sl_E T S n lim B p1 m t o d l c1 r1 X Y → sl_E T S n lim B p m t o d l c r X Y := fun X Y hE => by
          rcases hE with ⟨c', r', p', b, e, x1, x2, x3, x4, x5, x6, x7, x8, x9, x10, x11, x12, x13, x14⟩ | ⟨c', r', x1, x2, x3, x4, x5⟩
          · exact Or.inl ⟨c', r', p', b, e, x1, x2, x3, by omega, x5, x6, x7, x8, x9, x10, fun k => (x11 k).trans (g2.1 176 k (by omega)), x12.trans (g1.1 156 5 (by omega)), gS_ct (gS_cz g1) x13, gS_rt (gS_rz g2) x14⟩
          · exact Or.inr ⟨c', r', x1, x2, x3, gS_ct (gS_cz g1) x4, gS_rt (gS_rz g2) x5⟩
        refine hend _ _ ?_
        have k3 : (c1.1 3 3 = 3) = ((lx B n lim p1).1 = 3) := by rw [z.2.2.2.2.2.1.2.1]; exact pn_eqI (b := 3) (by omega) (by omega)
        -- the class's answer is the same in all three
        have hcl : ∀ (X : Option (Bool × zc_C)), (if (lx B n lim p).1 = 2 ∧ sg = 60 then X else if (lx B n lim p).1 = 2 ∧ sg = 61 then X else if (lx B n lim p).1 = 2 ∧ sg = 62 then X else ((f_X5_refuse c.1 1).bind fun v58 => some (v58.1, v58.2, c.2.1, c.2.2))) = X := fun X => by
          by_cases y0 : sg = 60
          · rw [if_pos ⟨k2, y0⟩]
          · rw [if_neg (fun q => y0 q.2)]
            by_cases y1 : sg = 61
            · rw [if_pos ⟨k2, y1⟩]
            · rw [if_neg (fun q => y1 q.2), if_pos ⟨k2, by omega⟩]
        rw [hcl]
        by_cases kn : (lx B n lim p1).1 = 3
        · have hc5 := z.2.2.2.2.2.1.2.2.2.2.2.1 kn
          have hr4 := z.2.2.2.2.2.2.1.2.2.2.2.1 kn
          generalize hnu : (lx B n lim p1).2.1 = nu at hc5 hr4 hb1
          have hnH : f_X5_numberHere c1.1 0 999 = some (nI nu, c1.1) := by
            unfold f_X5_numberHere
            rw [if_pos (show c1.1 3 3 = 3 by rw [k3]; exact kn), hc5, if_neg (show ¬ nI nu < 0 from nI_nlt (b := 0) (by omega) (by omega)), if_pos (show nI nu ≤ 999 from nI_le (b := 999) (by omega) (by omega))]
          obtain ⟨Ip, c2, r2, p2, I', W', q1, q2, q3, q4, q5, q6, q7, q8, q9, q10, q11, q12⟩ := sl_go (l := l) (b := sg) (e := nu) z hC1 hR1 hm hl
          rw [hnH, if_pos (show r1.1 164 11 = 2 by rw [zz_tok2 z]; exact kn), hr4, q1]
          simp only [Option.bind_some]
          rw [if_neg (show ¬ nI nu = -1 by rw [pn_neg (by omega)]; exact not_false), q3, q2]
          simp only [Option.bind_some]
          rw [q4]
          exact Or.inl ⟨_, r2, p2, sg, nu, rfl, rfl, q5, q6, q7, q8, fun q => by omega, fun q => by omega, by omega, fun _ => ⟨k60, k62⟩, q9, q10, q11, q12⟩
        · obtain ⟨Ic, Ir, y1, y2, y3, zf, g3, g4⟩ := zz_bad z (e := 1) (by omega) (by omega)
          have y2' : f_X5_refuseNumber c1.1 1 = some (-1, Ic) := y2
          have y3' : f_X12_bad r1.1 1 = some (false, Ir) := y3
          have hnH : f_X5_numberHere c1.1 0 999 = some (-1, Ic) := by
            unfold f_X5_numberHere
            rw [if_neg (show ¬ c1.1 3 3 = 3 by rw [k3]; exact kn), y2']; rfl
          rw [hnH, if_neg (show ¬ r1.1 164 11 = 2 by rw [zz_tok2 z]; exact kn), y3']
          exact Or.inr ⟨(Ic, c1.2), (Ir, r1.2), rfl, rfl, zf, gS_cz g3, gS_rz g4⟩
      · obtain ⟨Ic, Ir, y1, y2, y3, zf, g3, g4⟩ := zz_bad h (e := 1) (by omega) (by omega)
        have y1' : f_X5_refuse c.1 1 = some (false, Ic) := y1
        have y3' : f_X12_bad r.1 1 = some (false, Ir) := y3
        rw [if_neg (show ¬ ((lx B n lim p).1 = 2 ∧ (lx B n lim p).2.1 = 60) by omega), if_neg (show ¬ ((lx B n lim p).1 = 2 ∧ (lx B n lim p).2.1 = 61) by omega), if_neg (show ¬ ((lx B n lim p).1 = 2 ∧ (lx B n lim p).2.1 = 62) by omega), y1', y3']
        refine Or.inr ⟨(Ic, c.2), (Ir, r.2), rfl, ?_, zf, gS_cz g3, gS_rz g4⟩
        by_cases k2 : r.1 164 11 = 3
        · rw [if_pos k2]
          rw [zz_tok3 h] at k2
          have hr14 := h.2.2.2.2.2.2.1.2.2.2.1 k2.1
          rw [hr14]
          by_cases y : (lx B n lim p).2.1 < 60
          · rw [if_pos (show nI (lx B n lim p).2.1 < 60 from nI_lt (b := 60) y (by omega))]; rfl
          · rw [if_neg (show ¬ nI (lx B n lim p).2.1 < 60 from nI_nlt (b := 60) (by omega) (by omega)), if_neg (show ¬ nI (lx B n lim p).2.1 ≤ 62 from nI_ge (a := 62) (by omega) (by omega))]; rfl
        · rw [if_neg k2]; rfl
end LF
