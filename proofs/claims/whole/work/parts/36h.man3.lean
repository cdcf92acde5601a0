/-! lines: a man, whole -/
section AP
variable {n lim p : Nat} {B : Nat → Nat} {c : zc_C} {r : zc_R}
theorem up_ne {T : pt_T} {k v j : Nat} (h : j ≠ k) : pt_up T k v j = T j := by unfold pt_up; rw [if_neg h]
theorem up_eq {T : pt_T} {k v : Nat} : pt_up T k v k = v := by unfold pt_up; rw [if_pos rfl]
theorem zl_man {a b : Bool} {T : pt_T} (h : zz_P n lim B p c r) (ha : ar_P a b T c r) (hk : (lx B n lim p).1 = 4) : ln_E n lim B p c r (f_X0_readMan c.1 c.2.1 c.2.2) (f_X12_readMan r.1 r.2) := by
  have hf : ∃ f, T 0 = f := ⟨_, rfl⟩
  obtain ⟨m, hm⟩ := hf
  have hV := ha.2.2.2.2.1
  have hq1 := hV.2.1
  have hq2 := hV.2.2.1
  have f4 : m ≤ 8 := hm ▸ hV.1
  have k10 : c.1 15 10 = nI m := hm ▸ ha.2.2.1.1
  have k0 : r.1 167 0 = nI m := hm ▸ ha.1 0 (by omega)
  unfold f_X0_readMan f_X12_readMan
  rw [k10, k0]
  by_cases f3 : m < 8
  · rw [if_pos (show nI m < 8 from nI_lt (b := 8) f3 (by omega)), if_neg (show ¬ nI m = 8 by rw [show (8 : Int32) = nI 8 from rfl, pn_eqI (by omega) (by omega)]; omega)]
    obtain ⟨c1, r1, p1, e1, d1, z1, q0, q1, g1, s1, _⟩ := zz_adv h
    have a1 := ar_gz ha g1 s1
    have k101 : c1.1 15 10 = nI m := by rw [g1.1 15 10 (by omega)]; exact k10
    have r10 : r1.1 167 0 = nI m := by rw [s1.1 167 0 (by omega)]; exact k0
    rw [e1, d1]
    simp only [Option.bind_some]
    rw [show (15 : Int32) = nI 15 from rfl, show (13 : Int32) = nI 13 from rfl, show (21 : Int32) = nI 21 from rfl, show (5 : Int32) = nI 5 from rfl, nI_add, nI_add, nI_add, nI_add, show (30 : Int32) = nI 30 from rfl, show (9 : Int32) = nI 9 from rfl]
    rcases zz_fresh (b := 16) (j := m) (to := 15 + m) z1 k101 f4 a1.2.2.1.2.2.2.1 hq1 r10 (a1.1 1 (by omega)) (hm ▸ a1.2.2.2.1.1) a1.2.2.2.1.2 (by omega) (by omega) with ⟨c2, r2, p2, e2, en, ea, d2, z2, q2, g2, s2⟩ | ⟨Ic, Ir, e2, d2, zf, g2, s2⟩
    · rw [e2, d2]
      simp only [Option.bind_some, ↓reduceIte]
      rw [k101, if_pos (bm_ixk f3 (by omega)), nI_clamp (by omega), ea]
      simp only [Option.bind_some]
      have a2 := ar_gz (ar_layN (o := 16) (i := m) (K := 15 + m) (x := c1.2.1 3 7) (y := r1.2 164 17) a1 (by omega) (by omega)) g2 s2
      have k102 : c2.1 15 10 = nI m := by rw [g2.1 15 10 (by omega)]; exact k101
      have nm2 : nm_E (c2.2.1 16 m) (r2.2 169 (15 + m)) := by
        have w1 : c2.2.1 16 m = c1.2.1 3 7 := (g2.2.1 16 m (by omega)).trans (show bm_uJ c1.2.1 16 m (c1.2.1 3 7) 16 m = _ from pn_uJ_hit rfl)
        have w2 : r2.2 169 (15 + m) = r1.2 164 17 := (s2.2 169 (15 + m) (by omega)).trans (show bm_uJ r1.2 169 (15 + m) (r1.2 164 17) 169 (15 + m) = _ from pn_uJ_hit rfl)
        rw [w1, w2]; exact en
      have ga2 : ga_c c c2 := ga_ct (ga_cr g1) (ga_ct (b := (c1.1, bm_uJ c1.2.1 16 m (c1.2.1 3 7), c1.2.2)) ⟨fun _ _ _ _ => rfl, fun o k h1 h2 h3 => pn_uJ_off (by omega), fun _ _ _ => rfl⟩ (ga_cr g2))
      have gs2 : ga_r r r2 := ga_rt (ga_rr s1) (ga_rt (b := (r1.1, bm_uJ r1.2 169 (15 + m) (r1.2 164 17))) ⟨fun _ _ _ _ => rfl, fun o k h1 h2 => pn_uJ_off (by omega)⟩ (ga_rr s2))
      rw [k102, nI_clamp (by omega)]
      rcases zz_num z2 (lo := 0) (hi := 30) (by omega) (by omega) with ⟨x, c3, r3, p3, _, hx, e3, d3, z3, q3, t3, g3, s3⟩ | ⟨c3, r3, e3, d3, f3', g3, s3⟩
      · have e3' : f_X5_takeNumber c2.1 c2.2.1 c2.2.2 0 (nI 30) = some (nI x, c3) := e3
        have d3' : f_X12_puts r2.1 r2.2 (nI (5 + m)) 0 (nI 30) = some (true, bm_uI r3.1 167 (5 + m) (nI x), r3.2) := pq_puts1 d3 t3 (by omega)
        have a3 := ar_lay (o := 17) (i := m) (K := 5 + m) (v := x) (ar_gz a2 g3 s3) (by unfold ar_w; omega) (by unfold ar_u; omega)
        have z3' := zz_ru (zz_cu z3 (o := 17) (i := m) (v := nI x) (by omega)) (k := 5 + m) (v := nI x)
        have k103 : bm_uI c3.1 17 m (nI x) 15 10 = nI m := by rw [pn_uI_ne (by omega), g3.1 15 10 (by omega)]; exact k102
        have ga3 : ga_c c (bm_uI c3.1 17 m (nI x), c3.2) := ga_ct (ga_ct ga2 (ga_cr g3)) (ga_cu (by omega) (by omega))
        have gs3 : ga_r r (bm_uI r3.1 167 (5 + m) (nI x), r3.2) := ga_rt (ga_rt gs2 (ga_rr s3)) ga_ru
        rw [e3', d3']
        simp only [Option.bind_some, ↓reduceIte]
        rw [if_pos (bm_ixk f3 (by omega)), k103, if_pos (bm_ixk f3 (by omega)), nI_clamp (by omega), pn_uI_hit rfl, if_neg (show ¬ nI x = -1 by rw [pn_neg (by omega)]; exact not_false)]
        rcases zz_num z3' (lo := 0) (hi := 30) (by omega) (by omega) with ⟨y, c4, r4, p4, _, hy, e4, d4, z4, q4, t4, g4, s4⟩ | ⟨c4, r4, e4, d4, f4', g4, s4⟩
        · have e4' : f_X5_takeNumber (bm_uI c3.1 17 m (nI x)) c3.2.1 c3.2.2 0 (nI 30) = some (nI y, c4) := e4
          have d4' : f_X12_puts (bm_uI r3.1 167 (5 + m) (nI x)) r3.2 (nI (13 + m)) 0 (nI 30) = some (true, bm_uI r4.1 167 (13 + m) (nI y), r4.2) := pq_puts1 d4 t4 (by omega)
          have a4 := ar_lay (o := 18) (i := m) (K := 13 + m) (v := y) (ar_gz a3 g4 s4) (by unfold ar_w; rw [up_ne (by omega), up_ne (by omega), up_ne (by omega)]; omega) (by unfold ar_u; rw [up_ne (by omega), up_ne (by omega), up_ne (by omega)]; omega)
          have z4' := zz_ru (zz_cu z4 (o := 18) (i := m) (v := nI y) (by omega)) (k := 13 + m) (v := nI y)
          have k104 : bm_uI c4.1 18 m (nI y) 15 10 = nI m := by rw [pn_uI_ne (by omega), g4.1 15 10 (by omega)]; exact k103
          have k174 : c4.1 17 m = nI x := (g4.1 17 m (by omega)).trans (show bm_uI c3.1 17 m (nI x) 17 m = _ from pn_uI_hit rfl)
          have ga4 : ga_c c (bm_uI c4.1 18 m (nI y), c4.2) := ga_ct (ga_ct ga3 (ga_cr g4)) (ga_cu (by omega) (by omega))
          have gs4 : ga_r r (bm_uI r4.1 167 (13 + m) (nI y), r4.2) := ga_rt (ga_rt gs3 (ga_rr s4)) ga_ru
          rw [e4', d4']
          simp only [Option.bind_some, ↓reduceIte]
          rw [k104, if_pos (bm_ixk f3 (by omega)), nI_clamp (by omega), pn_uI_hit rfl, if_neg (show ¬ nI y = -1 by rw [pn_neg (by omega)]; exact not_false)]
          rcases zz_num z4' (lo := 0) (hi := 9) (by omega) (by omega) with ⟨w, c5, r5, p5, _, hw, e5, d5, z5, q5, t5, g5, s5⟩ | ⟨c5, r5, e5, d5, f5', g5, s5⟩
          · have e5' : f_X5_takeNumber (bm_uI c4.1 18 m (nI y)) c4.2.1 c4.2.2 0 (nI 9) = some (nI w, c5) := e5
            have d5' : f_X12_puts (bm_uI r4.1 167 (13 + m) (nI y)) r4.2 (nI (21 + m)) 0 (nI 9) = some (true, bm_uI r5.1 167 (21 + m) (nI w), r5.2) := pq_puts1 d5 t5 (by omega)
            have a5 := ar_lay (o := 19) (i := m) (K := 21 + m) (v := w) (ar_gz a4 g5 s5) (by unfold ar_w; rw [up_ne (by omega), up_ne (by omega), up_ne (by omega), up_ne (by omega), up_ne (by omega), up_ne (by omega)]; omega) (by unfold ar_u; rw [up_ne (by omega), up_ne (by omega), up_ne (by omega), up_ne (by omega), up_ne (by omega), up_ne (by omega)]; omega)
            have z5' := zz_ru (zz_cu z5 (o := 19) (i := m) (v := nI w) (by omega)) (k := 21 + m) (v := nI w)
            have k105 : bm_uI c5.1 19 m (nI w) 15 10 = nI m := by rw [pn_uI_ne (by omega), g5.1 15 10 (by omega)]; exact k104
            have k175 : bm_uI c5.1 19 m (nI w) 17 m = nI x := by rw [pn_uI_ne (by omega), g5.1 17 m (by omega)]; exact (show bm_uI c4.1 18 m (nI y) 17 m = c4.1 17 m from pn_uI_ne (by omega)).trans k174
            have k185 : bm_uI c5.1 19 m (nI w) 18 m = nI y := by rw [pn_uI_ne (by omega), g5.1 18 m (by omega)]; exact (show bm_uI c4.1 18 m (nI y) 18 m = nI y from pn_uI_hit rfl)
            have ga5 : ga_c c (bm_uI c5.1 19 m (nI w), c5.2) := ga_ct (ga_ct ga4 (ga_cr g5)) (ga_cu (by omega) (by omega))
            have gs5 : ga_r r (bm_uI r5.1 167 (21 + m) (nI w), r5.2) := ga_rt (ga_rt gs4 (ga_rr s5)) ga_ru
            have w1 : c5.2.1 16 m = c2.2.1 16 m := (g5.2.1 16 m (by omega)).trans ((g4.2.1 16 m (by omega)).trans (g3.2.1 16 m (by omega)))
            have w2 : r5.2 169 (15 + m) = r2.2 169 (15 + m) := (s5.2 169 _ (by omega)).trans ((s4.2 169 _ (by omega)).trans (s3.2 169 _ (by omega)))
            have nm5 : nm_E (c5.2.1 16 m) (r5.2 169 (15 + m)) := by rw [w1, w2]; exact nm2
            rw [e5', d5']
            simp only [Option.bind_some, ↓reduceIte]
            rw [if_pos (show bm_ix 8 (bm_uI c5.1 19 m (nI w) 15 10) = true by rw [k105]; exact bm_ixk f3 (by omega)), if_neg (show ¬ bm_uI c5.1 19 m (nI w) 19 (bm_uI c5.1 19 m (nI w) 15 10).toNatClampNeg = -1 by rw [k105, nI_clamp (by omega), pn_uI_hit rfl, pn_neg (by omega)]; exact not_false)]
            obtain ⟨c6, r6, p6, a', b', T', e6, d6, z6, a6, q6, g6, s6⟩ := zl_flags (m := m) z5' a5 (by rw [up_ne (by omega), up_ne (by omega), up_ne (by omega)]; exact hm) f3 (by rw [up_ne (by omega), up_ne (by omega), up_eq]; exact hx) (by rw [up_ne (by omega), up_eq]; exact hy) (by rw [up_eq]; exact hw) (by rw [up_ne (by omega), up_ne (by omega), up_eq]; exact k175) (by rw [up_ne (by omega), up_eq]; exact k185) (by rw [up_eq]; exact (show bm_uI c5.1 19 m (nI w) 19 m = nI w from pn_uI_hit rfl)) nm5
            exact Or.inl ⟨c6, r6, p6, a', b', T', e6, d6, z6, a6, by omega, ga_ct ga5 g6, ga_rt gs5 s6⟩
          · have e5' : f_X5_takeNumber (bm_uI c4.1 18 m (nI y)) c4.2.1 c4.2.2 0 (nI 9) = some (-1, c5) := e5
            have d5' : f_X12_puts (bm_uI r4.1 167 (13 + m) (nI y)) r4.2 (nI (21 + m)) 0 (nI 9) = some (false, r5) := pq_puts0 d5
            have k105 : bm_uI c5.1 19 m (-1) 15 10 = nI m := by rw [pn_uI_ne (by omega), g5.1 15 10 (by omega)]; exact k104
            rw [e5', d5']
            simp only [Option.bind_some, ↓reduceIte]
            rw [k105, if_pos (bm_ixk f3 (by omega)), nI_clamp (by omega), pn_uI_hit rfl, if_pos rfl, if_neg (by decide)]
            exact Or.inr ⟨(bm_uI c5.1 19 m (-1), c5.2), r5, rfl, rfl, zf_cu f5' (by omega), ga_ct (ga_ct ga4 (ga_cr g5)) (ga_cu (by omega) (by omega)), ga_rt gs4 (ga_rr s5)⟩
        · have e4' : f_X5_takeNumber (bm_uI c3.1 17 m (nI x)) c3.2.1 c3.2.2 0 (nI 30) = some (-1, c4) := e4
          have d4' : f_X12_puts (bm_uI r3.1 167 (5 + m) (nI x)) r3.2 (nI (13 + m)) 0 (nI 30) = some (false, r4) := pq_puts0 d4
          have k104 : bm_uI c4.1 18 m (-1) 15 10 = nI m := by rw [pn_uI_ne (by omega), g4.1 15 10 (by omega)]; exact k103
          rw [e4', d4']
          simp only [Option.bind_some, ↓reduceIte]
          rw [k104, if_pos (bm_ixk f3 (by omega)), nI_clamp (by omega), pn_uI_hit rfl, if_pos rfl, if_neg (by decide)]
          exact Or.inr ⟨(bm_uI c4.1 18 m (-1), c4.2), r4, rfl, rfl, zf_cu f4' (by omega), ga_ct (ga_ct ga3 (ga_cr g4)) (ga_cu (by omega) (by omega)), ga_rt gs3 (ga_rr s4)⟩
      · have e3' : f_X5_takeNumber c2.1 c2.2.1 c2.2.2 0 (nI 30) = some (-1, c3) := e3
        have d3' : f_X12_puts r2.1 r2.2 (nI (5 + m)) 0 (nI 30) = some (false, r3) := pq_puts0 d3
        have k103 : bm_uI c3.1 17 m (-1) 15 10 = nI m := by rw [pn_uI_ne (by omega), g3.1 15 10 (by omega)]; exact k102
        rw [e3', d3']
        simp only [Option.bind_some, ↓reduceIte]
        rw [if_pos (bm_ixk f3 (by omega)), k103, if_pos (bm_ixk f3 (by omega)), nI_clamp (by omega), pn_uI_hit rfl, if_pos rfl, if_neg (by decide)]
        exact Or.inr ⟨(bm_uI c3.1 17 m (-1), c3.2), r3, rfl, rfl, zf_cu f3' (by omega), ga_ct (ga_ct ga2 (ga_cr g3)) (ga_cu (by omega) (by omega)), ga_rt gs2 (ga_rr s3)⟩
    · rw [e2, d2]
      simp only [Option.bind_some, Bool.false_eq_true, ↓reduceIte]
      exact Or.inr ⟨(Ic, c1.2), (Ir, r1.2), rfl, rfl, zf, ga_ct (ga_cr g1) (ga_cr g2), ga_rt (ga_rr s1) (ga_rr s2)⟩
  · obtain ⟨Ic, Ir, e1, e2, e3, z, g1, g2⟩ := zz_bad h (e := 4) (by omega) (by omega)
    have e1' : f_X5_refuse c.1 4 = some (false, Ic) := e1
    have e3' : f_X12_bad r.1 4 = some (false, Ir) := e3
    have : m = 8 := by omega
    subst this
    rw [if_neg (show ¬ nI 8 < 8 by decide), if_pos (show nI 8 = 8 from rfl), e1', e3']
    exact Or.inr ⟨(Ic, c.2), (Ir, r.2), rfl, rfl, z, ga_cr g1, ga_rr g2⟩
end AP
