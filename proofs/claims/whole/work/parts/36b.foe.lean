/-! lines: a foe; what is told once -/
def nf_foe (I : bm_TI) (J : bm_TJ) : Option (Bool × bm_TI × bm_TJ) := (if (I 167 2) = 4 then ((f_X12_bad I 4).bind fun v25 => some (v25.1, v25.2, J)) else ((f_X12_next I J).bind fun v19 => ((f_X12_puts v19.1 v19.2 (53 + (I 167 2)) 0 30).bind fun v21 => (if v21.1 = true then ((f_X12_puts v21.2.1 v21.2.2 (57 + (I 167 2)) 0 30).bind fun v23 => (if v23.1 = true then some (true, (bm_uI v23.2.1 167 2 ((v23.2.1 167 2) + 1)), v23.2.2) else some (false, v23.2.1, v23.2.2))) else some (false, v21.2.1, v21.2.2)))))
section AF
variable {n lim p : Nat} {B : Nat → Nat} {c : zc_C} {r : zc_R}
theorem zf_cu (h : zf_P c r) {o i : Nat} {v : Int32} (ho : 4 ≤ o) : zf_P (bm_uI c.1 o i v, c.2) r := by
  obtain ⟨e, pl, h1, h2, h3, h4, h5, h6, h7⟩ := h
  exact ⟨e, pl, h1, h2, h3, (pn_uI_ne (by omega)).trans h4, (pn_uI_ne (by omega)).trans h5, h6, h7⟩
theorem zl_foe {a b : Bool} {T : pt_T} (h : zz_P n lim B p c r) (ha : ar_P a b T c r) (hk : (lx B n lim p).1 = 4) : ln_E n lim B p c r (f_X0_readFoe c.1 c.2.1 c.2.2) (nf_foe r.1 r.2) := by
  have hf : ∃ f, T 2 = f := ⟨_, rfl⟩
  obtain ⟨f, hf⟩ := hf
  have f4 : f ≤ 4 := hf ▸ ha.2.2.2.2.1.2.2.1
  have k14 : c.1 15 14 = nI f := hf ▸ ha.2.2.1.2.2.2.2.1
  have k2 : r.1 167 2 = nI f := hf ▸ ha.1 2 (by omega)
  unfold f_X0_readFoe nf_foe
  rw [k14, k2]
  by_cases f3 : f < 4
  · rw [if_pos (show nI f < 4 from nI_lt (b := 4) f3 (by omega)), if_neg (show ¬ nI f = 4 by rw [show (4 : Int32) = nI 4 from rfl, pn_eqI (by omega) (by omega)]; omega)]
    obtain ⟨c1, r1, p1, e1, d1, z1, q0, q1, g1, s1, _⟩ := zz_adv h
    have a1 := ar_gz ha g1 s1
    have k141 : c1.1 15 14 = nI f := by rw [g1.1 15 14 (by omega)]; exact k14
    rw [e1, d1]
    simp only [Option.bind_some]
    rw [k141, nI_clamp (by omega), show (53 : Int32) = nI 53 from rfl, show (57 : Int32) = nI 57 from rfl, show (30 : Int32) = nI 30 from rfl, nI_add, nI_add]
    rcases zz_num z1 (lo := 0) (hi := 30) (by omega) (by omega) with ⟨x, c2, r2, p2, _, hx, e2, d2, z2, q2, t2, g2, s2⟩ | ⟨c2, r2, e2, d2, f2, g2, s2⟩
    · have e2' : f_X5_takeNumber c1.1 c1.2.1 c1.2.2 0 (nI 30) = some (nI x, c2) := e2
      have d2' : f_X12_puts r1.1 r1.2 (nI (53 + f)) 0 (nI 30) = some (true, bm_uI r2.1 167 (53 + f) (nI x), r2.2) := pq_puts1 d2 t2 (by omega)
      have a2 := ar_gz a1 g2 s2
      have a2' := ar_lay (o := 24) (i := f) (K := 53 + f) (v := x) a2 (by unfold ar_w; omega) (by have := ha.2.2.2.2.1.1; have := ha.2.2.2.2.1.2.1; unfold ar_u; omega)
      have z2' := zz_ru (zz_cu z2 (o := 24) (i := f) (v := nI x) (by omega)) (k := 53 + f) (v := nI x)
      have k142 : bm_uI c2.1 24 f (nI x) 15 14 = nI f := by rw [pn_uI_ne (by omega), g2.1 15 14 (by omega)]; exact k141
      rw [e2', d2']
      simp only [Option.bind_some, ↓reduceIte]
      rw [k142, if_pos (bm_ixk f3 (by omega)), if_pos (bm_ixk f3 (by omega)), nI_clamp (by omega), pn_uI_hit rfl, if_neg (show ¬ nI x = -1 by rw [pn_neg (by omega)]; exact not_false)]
      rcases zz_num z2' (lo := 0) (hi := 30) (by omega) (by omega) with ⟨y, c3, r3, p3, _, hy, e3, d3, z3, q3, t3, g3, s3⟩ | ⟨c3, r3, e3, d3, f3', g3, s3⟩
      · have e3' : f_X5_takeNumber (bm_uI c2.1 24 f (nI x)) c2.2.1 c2.2.2 0 (nI 30) = some (nI y, c3) := e3
        have d3' : f_X12_puts (bm_uI r2.1 167 (53 + f) (nI x)) r2.2 (nI (57 + f)) 0 (nI 30) = some (true, bm_uI r3.1 167 (57 + f) (nI y), r3.2) := pq_puts1 d3 t3 (by omega)
        have a3 := ar_gz a2' g3 s3
        have u2 : pt_up T (53 + f) x 2 = f := by unfold pt_up; rw [if_neg (by omega)]; exact hf
        have u0 : pt_up T (53 + f) x 0 = T 0 := by unfold pt_up; rw [if_neg (by omega)]
        have u1 : pt_up T (53 + f) x 1 = T 1 := by unfold pt_up; rw [if_neg (by omega)]
        have a3' := ar_lay (o := 25) (i := f) (K := 57 + f) (v := y) a3 (by unfold ar_w; omega) (by have := ha.2.2.2.2.1.1; have := ha.2.2.2.2.1.2.1; unfold ar_u; omega)
        have k24 : bm_uI c3.1 25 f (nI y) 24 f = nI x := by rw [pn_uI_ne (by omega), g3.1 24 f (by omega)]; show bm_uI c2.1 24 f (nI x) 24 f = nI x; exact pn_uI_hit rfl
        have k143 : bm_uI c3.1 25 f (nI y) 15 14 = nI f := by rw [pn_uI_ne (by omega), g3.1 15 14 (by omega)]; exact k142
        have k23 : bm_uI r3.1 167 (57 + f) (nI y) 167 2 = nI f := by refine (a3'.1 2 (by omega)).trans ?_; unfold pt_up; rw [if_neg (by omega), if_neg (by omega), hf]
        rw [e3', d3']
        simp only [Option.bind_some, ↓reduceIte]
        rw [k143, if_pos (bm_ixk f3 (by omega)), nI_clamp (by omega), pn_uI_hit rfl, if_neg (show ¬ nI y = -1 by rw [pn_neg (by omega)]; exact not_false), k23, nI_1]
        have a4 := ar_foe (f := f) a3' (by unfold pt_up; rw [if_neg (by omega), if_neg (by omega)]; exact hf) f3 (by unfold pt_up; rw [if_neg (by omega), if_pos rfl]; exact hx) (by unfold pt_up; rw [if_pos rfl]; exact hy) (by unfold pt_up; rw [if_neg (by omega), if_pos rfl]; exact k24) (by unfold pt_up; rw [if_pos rfl]; show bm_uI c3.1 25 f (nI y) 25 f = nI y; exact pn_uI_hit rfl)
        exact Or.inl ⟨(bm_uI (bm_uI c3.1 25 f (nI y)) 15 14 (nI (f + 1)), c3.2), (bm_uI (bm_uI r3.1 167 (57 + f) (nI y)) 167 2 (nI (f + 1)), r3.2), p3, a, b, _, rfl, rfl, zz_ru (zz_cu (zz_ru (zz_cu z3 (by omega))) (by omega)), a4, by omega, ga_ct (ga_ct (ga_ct (ga_ct (ga_cr (gc_tr g1 g2)) (ga_cu (by omega) (by omega))) (ga_cr g3)) (ga_cu (by omega) (by omega))) (ga_cu (by omega) (by omega)), ga_rt (ga_rt (ga_rt (ga_rt (ga_rr (gr_tr s1 s2)) ga_ru) (ga_rr s3)) ga_ru) ga_ru⟩
      · have e3' : f_X5_takeNumber (bm_uI c2.1 24 f (nI x)) c2.2.1 c2.2.2 0 (nI 30) = some (-1, c3) := e3
        have d3' : f_X12_puts (bm_uI r2.1 167 (53 + f) (nI x)) r2.2 (nI (57 + f)) 0 (nI 30) = some (false, r3) := pq_puts0 d3
        have k143 : bm_uI c3.1 25 f (-1) 15 14 = nI f := by rw [pn_uI_ne (by omega), g3.1 15 14 (by omega)]; exact k142
        rw [e3', d3']
        simp only [Option.bind_some, ↓reduceIte]
        rw [k143, if_pos (bm_ixk f3 (by omega)), nI_clamp (by omega), pn_uI_hit rfl, if_pos rfl, if_neg (by decide)]
        exact Or.inr ⟨(bm_uI c3.1 25 f (-1), c3.2), r3, rfl, rfl, zf_cu f3' (by omega), ga_ct (ga_ct (ga_ct (ga_cr (gc_tr g1 g2)) (ga_cu (by omega) (by omega))) (ga_cr g3)) (ga_cu (by omega) (by omega)), ga_rt (ga_rt (ga_rr (gr_tr s1 s2)) ga_ru) (ga_rr s3)⟩
    · have e2' : f_X5_takeNumber c1.1 c1.2.1 c1.2.2 0 (nI 30) = some (-1, c2) := e2
      have d2' : f_X12_puts r1.1 r1.2 (nI (53 + f)) 0 (nI 30) = some (false, r2) := pq_puts0 d2
      have k142 : bm_uI c2.1 24 f (-1) 15 14 = nI f := by rw [pn_uI_ne (by omega), g2.1 15 14 (by omega)]; exact k141
      rw [e2', d2']
      simp only [Option.bind_some, ↓reduceIte]
      rw [k142, if_pos (bm_ixk f3 (by omega)), if_pos (bm_ixk f3 (by omega)), nI_clamp (by omega), pn_uI_hit rfl, if_pos rfl, if_neg (by decide)]
      exact Or.inr ⟨(bm_uI c2.1 24 f (-1), c2.2), r2, rfl, rfl, zf_cu f2 (by omega), ga_ct (ga_cr (gc_tr g1 g2)) (ga_cu (by omega) (by omega)), ga_rr (gr_tr s1 s2)⟩
  · obtain ⟨Ic, Ir, e1, e2, e3, z, g1, g2⟩ := zz_bad h (e := 4) (by omega) (by omega)
    have e1' : f_X5_refuse c.1 4 = some (false, Ic) := e1
    have e3' : f_X12_bad r.1 4 = some (false, Ir) := e3
    have : f = 4 := by omega
    subst this
    rw [if_neg (show ¬ nI 4 < 4 by decide), if_pos (show nI 4 = 4 from rfl), e1', e3']
    exact Or.inr ⟨(Ic, c.2), (Ir, r.2), rfl, rfl, z, ga_cr g1, ga_rr g2⟩
end AF
