/-! a book's line -/
theorem op_i4 (x : Option (Int32 × bm_TI × bm_TJ × bm_TR)) : (x.bind fun v => some (v.1, v.2.1, v.2.2.1, v.2.2.2)) = x := by cases x <;> rfl
theorem kc_obj6 {I : bm_TI} {J : bm_TJ} {W : bm_TR} : f_X1_readObject I J W 6 = f_X5_takeNumber I J W 1 60 := by
  unfold f_X1_readObject
  rw [if_neg (by decide), if_neg (by decide), if_neg (by decide), if_neg (by decide), if_neg (by decide), if_neg (by decide), if_pos rfl, op_i4]
def bk_E (T : pt_T) (N : Nat) (n lim : Nat) (B : Nat → Nat) (p : Nat) (c : zc_C) (r : zc_R) (x : Option (Bool × zc_C)) (y : Option (Bool × zc_R)) : Prop := (∃ c' r' p', x = some (true, c') ∧ y = some (true, r') ∧ zz_P n lim B p' c' r' ∧ p < p' ∧ N < 40 ∧ bk_1 T c' r' N ∧ gk_c N c c' ∧ gk_r N r r') ∨ ∃ c' r', x = some (false, c') ∧ y = some (false, r') ∧ zf_P c' r' ∧ gk_c N c c' ∧ gk_r N r r'
section BL
variable {n lim p : Nat} {B : Nat → Nat} {c : zc_C} {r : zc_R}
theorem zk_line {T : pt_T} {N : Nat} (h : zz_P n lim B p c r) (hP : bk_P T N c r) : bk_E T N n lim B p c r (f_X1_readLine c.1 c.2.1 c.2.2) (f_X12_bookLine r.1 r.2) := by
  have w14 : (1752135026 : Int64) = nm_8 (wd_w 14) := by decide +kernel
  obtain ⟨hA, hN, k3, r34, _⟩ := hP
  have ix0 : N < 40 → bm_ix 135 (3 * nI N) = true := fun q => by rw [show (3 : Int32) = nI 3 from rfl, pk_mul]; exact bm_ixk (by omega) (by omega)
  have ix1 : N < 40 → bm_ix 135 (3 * nI N + 1) = true := fun q => by rw [show (3 : Int32) = nI 3 from rfl, pk_mul, nI_1]; exact bm_ixk (by omega) (by omega)
  have cl0 : N < 40 → (3 * nI N).toNatClampNeg = 3 * N := fun q => by rw [show (3 : Int32) = nI 3 from rfl, pk_mul, nI_clamp (by omega)]
  have cl1 : N < 40 → (3 * nI N + 1).toNatClampNeg = 3 * N + 1 := fun q => by rw [show (3 : Int32) = nI 3 from rfl, pk_mul, nI_1, nI_clamp (by omega)]
  unfold f_X1_readLine f_X12_bookLine
  rw [if_pos (zz_iwq h), zz_isW h (i := 14) (by omega) w14, k3, r34]
  simp only [Option.bind_some, zz_isWc h, decide_eq_true_eq]
  by_cases k14 : (lx B n lim p).1 = 4 ∧ (lx B n lim p).2.1 = 14
  · simp only [if_pos k14]
    by_cases h40 : N < 40
    · rw [if_pos (show nI N < 40 from nI_lt (b := 40) h40 (by omega)), if_pos (bm_ixk h40 (by omega)), nI_clamp (by omega), if_neg (show ¬ nI N = 40 by rw [show (40 : Int32) = nI 40 from rfl, pn_eqI (by omega) (by omega)]; omega)]
      obtain ⟨c1, r1, p1, e1, d1, z1, q0, q1, g1, s1, _⟩ := zz_adv (zz_cu h (o := 149) (i := N) (v := 0) (by omega))
      have e1' : f_X5_advance (bm_uI c.1 149 N 0) c.2.1 c.2.2 = some c1 := e1
      rw [e1', d1]
      simp only [Option.bind_some]
      have k31 : c1.1 147 3 = nI N := (g1.1 147 3 (by omega)).trans ((show bm_uI c.1 149 N 0 147 3 = _ from pn_uI_ne (by omega)).trans k3)
      have k32 : bm_uI c1.1 148 N 6 147 3 = nI N := by rw [pn_uI_ne (by omega)]; exact k31
      rw [k31, if_pos (bm_ixk h40 (by omega)), nI_clamp (by omega), k32, if_pos (bm_ixk h40 (by omega)), nI_clamp (by omega), pn_uI_hit rfl, if_neg (by decide), kc_obj6, ix0 h40, if_pos rfl, cl0 h40]
      have z2 := zk_ru (zz_cu z1 (o := 148) (i := N) (v := 6) (by omega)) (k := 3 * N) (v := 6)
      have ga : gk_c N c (bm_uI c1.1 148 N 6, c1.2) := gk_ct (gk_ct (gk_cu (o := 149) (v := 0) (by omega) (by omega)) (gk_cr g1)) (gk_cu (by omega) (by omega))
      have gs : gk_r N r (bm_uI r1.1 168 (3 * N) 6, r1.2) := gk_rt (gk_rr s1) (gk_ru (by omega) (by omega))
      rcases zz_num z2 (lo := 1) (hi := 60) (by omega) (by omega) with ⟨o, c3, r3, p3, ho1, ho, e3, d3, z3, q3, t3, g3, s3⟩ | ⟨c3, r3, e3, d3, f3, g3, s3⟩
      · have e3' : f_X5_takeNumber (bm_uI c1.1 148 N 6) c1.2.1 c1.2.2 1 60 = some (nI o, c3) := e3
        have d3' : f_X12_takes (bm_uI r1.1 168 (3 * N) 6) r1.2 1 60 = some (true, r3) := d3
        have k33 : bm_uI c3.1 150 N (nI o) 147 3 = nI N := by rw [pn_uI_ne (by omega), g3.1 147 3 (by omega)]; exact k32
        rw [e3', d3']
        simp only [Option.bind_some, ↓reduceIte]
        rw [k33, if_pos (bm_ixk h40 (by omega)), nI_clamp (by omega), pn_uI_hit rfl, if_neg (show ¬ nI o = -1 by rw [pn_neg (by omega)]; exact not_false), ix1 h40, if_pos rfl, cl1 h40, t3]
        refine Or.inl ⟨(bm_uI c3.1 150 N (nI o), c3.2), (bm_uI r3.1 168 (3 * N + 1) (nI o), r3.2), p3, rfl, rfl, zk_ru (zz_cu z3 (by omega)), by omega, h40, ⟨6, 0, o, ?_, ?_, ?_, ?_, by omega, fun _ => ⟨?_, ho1, ho⟩, fun q => absurd rfl q, fun q => absurd q (by decide), fun q => absurd q (by decide), fun q => absurd q (by decide)⟩, gk_ct (gk_ct ga (gk_cr g3)) (gk_cu (by omega) (by omega)), gk_rt (gk_rt gs (gk_rr s3)) (gk_ru (by omega) (by omega))⟩
        · show bm_uI c3.1 150 N (nI o) 148 N = _
          rw [pn_uI_ne (by omega), g3.1 148 N (by omega)]
          exact (show bm_uI c1.1 148 N 6 148 N = 6 from pn_uI_hit rfl)
        · show bm_uI c3.1 150 N (nI o) 149 N = _
          rw [pn_uI_ne (by omega), g3.1 149 N (by omega)]
          refine (show bm_uI c1.1 148 N 6 149 N = c1.1 149 N from pn_uI_ne (by omega)).trans ((g1.1 149 N (by omega)).trans ?_)
          exact (show bm_uI c.1 149 N 0 149 N = 0 from pn_uI_hit rfl)
        · show bm_uI c3.1 150 N (nI o) 150 N = _
          exact pn_uI_hit rfl
        · show bm_uI r3.1 168 (3 * N + 1) (nI o) 168 (3 * N) = _
          rw [pn_uI_ne2 (by omega), s3.1 168 _ (by omega)]
          exact (show bm_uI r1.1 168 (3 * N) 6 168 (3 * N) = 6 from pn_uI_hit rfl)
        · show bm_uI r3.1 168 (3 * N + 1) (nI o) 168 (3 * N + 1) = _
          exact pn_uI_hit rfl
      · have e3' : f_X5_takeNumber (bm_uI c1.1 148 N 6) c1.2.1 c1.2.2 1 60 = some (-1, c3) := e3
        have d3' : f_X12_takes (bm_uI r1.1 168 (3 * N) 6) r1.2 1 60 = some (false, r3) := d3
        have k33 : bm_uI c3.1 150 N (-1) 147 3 = nI N := by rw [pn_uI_ne (by omega), g3.1 147 3 (by omega)]; exact k32
        rw [e3', d3']
        simp only [Option.bind_some, ↓reduceIte]
        rw [k33, if_pos (bm_ixk h40 (by omega)), nI_clamp (by omega), pn_uI_hit rfl, if_pos rfl, if_neg (by decide)]
        exact Or.inr ⟨(bm_uI c3.1 150 N (-1), c3.2), r3, rfl, rfl, zf_cu f3 (by omega), gk_ct (gk_ct ga (gk_cr g3)) (gk_cu (by omega) (by omega)), gk_rt gs (gk_rr s3)⟩
    · obtain ⟨Ic, Ir, e1, e2, e3, z, g1, g2⟩ := zz_bad h (e := 4) (by omega) (by omega)
      have e1' : f_X5_refuse c.1 4 = some (false, Ic) := e1
      have e3' : f_X12_bad r.1 4 = some (false, Ir) := e3
      have : N = 40 := by omega
      subst this
      rw [if_neg (show ¬ nI 40 < 40 by decide), if_pos (show nI 40 = 40 from rfl), e1', e3']
      exact Or.inr ⟨(Ic, c.2), (Ir, r.2), rfl, rfl, z, gk_cr g1, gk_rr g2⟩
  · simp only [if_neg k14]
    rw [hA.2.2.2.2.1]
    rcases zz_man (a := 4) (fr := 0) (m := T 0) h hA.2.2.1 hA.1 (by have := hA.1; omega) (fun j hj => by rw [Nat.zero_add]; exact hA.2.2.2.2.2.2.1 j hj) with ⟨m, hm, hk, e0, d0⟩ | ⟨Ic, Ir, e0, d0, zf, g0, s0⟩
    · have hm8 := hA.1
      have d0' : f_X12_looksAt r.1 r.2 0 (nI (T 0)) = some (true, bm_uI r.1 164 18 (nI m)) := d0
      have r34' : bm_uI r.1 164 18 (nI m) 164 34 = nI N := by rw [pn_uI_ne2 (by omega)]; exact r34
      rw [e0, d0']
      simp only [Option.bind_some, ↓reduceIte]
      rw [if_neg (show ¬ nI m = -1 by rw [pn_neg (by omega)]; exact not_false), k3, r34', pn_uI_hit rfl]
      by_cases h40 : N < 40
      · rw [if_pos (show nI N < 40 from nI_lt (b := 40) h40 (by omega)), if_pos (bm_ixk h40 (by omega)), nI_clamp (by omega), if_neg (show ¬ nI N = 40 by rw [show (40 : Int32) = nI 40 from rfl, pn_eqI (by omega) (by omega)]; omega)]
        obtain ⟨c1, r1, p1, e1, d1, z1, q0, q1, g1, s1, _⟩ := zz_adv (zz_cu (zz_18 h (nI m)) (o := 149) (i := N) (v := nI m) (by omega))
        have e1' : f_X5_advance (bm_uI c.1 149 N (nI m)) c.2.1 c.2.2 = some c1 := e1
        have d1' : f_X12_next (bm_uI r.1 164 18 (nI m)) r.2 = some r1 := d1
        rw [e1', d1']
        simp only [Option.bind_some]
        have k31 : c1.1 147 3 = nI N := (g1.1 147 3 (by omega)).trans ((show bm_uI c.1 149 N (nI m) 147 3 = _ from pn_uI_ne (by omega)).trans k3)
        rw [k31, ix0 h40, cl0 h40, nI_clamp (by omega)]
        simp only [↓reduceIte]
        have z2 := zk_ru z1 (k := 3 * N) (v := 6)
        have ga : gk_c N c c1 := gk_ct (gk_cu (o := 149) (v := nI m) (by omega) (by omega)) (gk_cr g1)
        have gs : gk_r N r (bm_uI r1.1 168 (3 * N) 6, r1.2) := gk_rt (gk_rt (gk_rr (gr_18 r (nI m))) (gk_rr s1)) (gk_ru (by omega) (by omega))
        unfold f_X5_takeWord
        rcases zz_verb z2 with ⟨v, hv, hk2, e2, d2⟩ | ⟨Ic, Ir, e2, d2, zf, g2, s2⟩
        · have d2' : f_X12_isOneOf (bm_uI r1.1 168 (3 * N) 6) r1.2 11 6 = some (true, bm_uI (bm_uI r1.1 168 (3 * N) 6) 164 18 (nI v)) := d2
          rw [Nat.zero_add] at e2
          rw [e2, d2']
          simp only [Option.bind_some, ↓reduceIte]
          rw [if_neg (show ¬ nI v = -1 by rw [pn_neg (by omega)]; exact not_false)]
          obtain ⟨c3, r3, p3, e3, d3, z3, q30, q31, g3, s3, _⟩ := zz_adv (zz_18 z2 (nI v))
          have d3' : f_X12_next (bm_uI (bm_uI r1.1 168 (3 * N) 6) 164 18 (nI v)) r1.2 = some r3 := d3
          rw [e3, d3']
          simp only [Option.bind_some]
          have k33 : bm_uI c3.1 148 N (nI v) 147 3 = nI N := by rw [pn_uI_ne (by omega), g3.1 147 3 (by omega)]; exact k31
          rw [if_pos (bm_ixk h40 (by omega)), k33, if_pos (bm_ixk h40 (by omega)), nI_clamp (by omega), pn_uI_hit rfl, if_neg (show ¬ nI v = -1 by rw [pn_neg (by omega)]; exact not_false), if_pos (ix1 h40), cl1 h40]
          have hg : bm_uI (bm_uI r1.1 168 (3 * N) 6) 164 18 (nI v) 164 18 = nI v := pn_uI_hit rfl
          simp only [hg]
          have z4 := zk_ru (zk_ru (zz_cu z3 (o := 148) (i := N) (v := nI v) (by omega)) (k := 3 * N) (v := nI v)) (k := 3 * N + 1) (v := nI m)
          have ga4 : gk_c N c (bm_uI c3.1 148 N (nI v), c3.2) := gk_ct (gk_ct ga (gk_cr g3)) (gk_cu (by omega) (by omega))
          have gs4 : gk_r N r (bm_uI (bm_uI r3.1 168 (3 * N) (nI v)) 168 (3 * N + 1) (nI m), r3.2) := gk_rt (gk_rt (gk_rt (gk_rt gs (gk_rr (gr_18 _ (nI v)))) (gk_rr s3)) (gk_ru (k := 3 * N) (v := nI v) (by omega) (by omega))) (gk_ru (by omega) (by omega))
          rcases zk_obj (T := T) (N := N) (v := v) z4 (bk_Ag hA ga4 gs4) h40 hv with ⟨c5, r5, p5, o, e5, d5, ho, z5, q5, g5, s5, f5, w0, w1, w5⟩ | ⟨c5, r5, e5, d5, f5, g5, s5⟩
          · have e5' : f_X1_readObject (bm_uI c3.1 148 N (nI v)) c3.2.1 c3.2.2 (nI v) = some (nI o, c5) := e5
            have k35 : bm_uI c5.1 150 N (nI o) 147 3 = nI N := by rw [pn_uI_ne (by omega), g5.1 147 3 (by omega)]; exact k33
            rw [e5']
            simp only [Option.bind_some]
            rw [k35, if_pos (bm_ixk h40 (by omega)), nI_clamp (by omega), pn_uI_hit rfl, if_neg (show ¬ nI o = -1 by rw [pn_neg (by omega)]; exact not_false)]
            have y0 : r5.1 168 (3 * N) = nI v := (f5 _ (by omega)).trans (show bm_uI (bm_uI r3.1 168 (3 * N) (nI v)) 168 (3 * N + 1) (nI m) 168 (3 * N) = _ by rw [pn_uI_ne2 (by omega)]; exact pn_uI_hit rfl)
            have y1 : r5.1 168 (3 * N + 1) = nI m := (f5 _ (by omega)).trans (show bm_uI (bm_uI r3.1 168 (3 * N) (nI v)) 168 (3 * N + 1) (nI m) 168 (3 * N + 1) = _ from pn_uI_hit rfl)
            refine Or.inl ⟨(bm_uI c5.1 150 N (nI o), c5.2), r5, p5, rfl, d5, zz_cu z5 (by omega), by omega, h40, ⟨v, m, o, ?_, ?_, ?_, y0, by omega, fun q => by omega, fun _ => ⟨y1, hm⟩, w0, w1, w5⟩, gk_ct (gk_ct ga4 (gk_cr g5)) (gk_cu (by omega) (by omega)), gk_rt gs4 s5⟩
            · show bm_uI c5.1 150 N (nI o) 148 N = _
              rw [pn_uI_ne (by omega), g5.1 148 N (by omega)]
              exact (show bm_uI c3.1 148 N (nI v) 148 N = _ from pn_uI_hit rfl)
            · show bm_uI c5.1 150 N (nI o) 149 N = _
              rw [pn_uI_ne (by omega), g5.1 149 N (by omega)]
              refine (show bm_uI c3.1 148 N (nI v) 149 N = c3.1 149 N from pn_uI_ne (by omega)).trans ((g3.1 149 N (by omega)).trans ((g1.1 149 N (by omega)).trans ?_))
              exact (show bm_uI c.1 149 N (nI m) 149 N = _ from pn_uI_hit rfl)
            · show bm_uI c5.1 150 N (nI o) 150 N = _
              exact pn_uI_hit rfl
          · have e5' : f_X1_readObject (bm_uI c3.1 148 N (nI v)) c3.2.1 c3.2.2 (nI v) = some (-1, c5) := e5
            have k35 : bm_uI c5.1 150 N (-1) 147 3 = nI N := by rw [pn_uI_ne (by omega), g5.1 147 3 (by omega)]; exact k33
            rw [e5']
            simp only [Option.bind_some]
            rw [k35, if_pos (bm_ixk h40 (by omega)), nI_clamp (by omega), pn_uI_hit rfl, if_pos rfl]
            exact Or.inr ⟨(bm_uI c5.1 150 N (-1), c5.2), r5, rfl, d5, zf_cu f5 (by omega), gk_ct (gk_ct ga4 (gk_cr g5)) (gk_cu (by omega) (by omega)), gk_rt gs4 s5⟩
        · have d2' : f_X12_isOneOf (bm_uI r1.1 168 (3 * N) 6) r1.2 11 6 = some (false, Ir) := d2
          have k32 : bm_uI Ic 148 N (-1) 147 3 = nI N := by rw [pn_uI_ne (by omega)]; exact (g2.1 147 3 (by omega)).trans k31
          rw [e2, d2']
          simp only [Option.bind_some, ↓reduceIte]
          rw [if_pos (bm_ixk h40 (by omega)), k32, if_pos (bm_ixk h40 (by omega)), nI_clamp (by omega), pn_uI_hit rfl, if_pos rfl, if_neg (by decide)]
          exact Or.inr ⟨(bm_uI Ic 148 N (-1), c1.2), (Ir, r1.2), rfl, rfl, zf_cu zf (by omega), gk_ct (gk_ct ga (gk_cr g2)) (gk_cu (c := (Ic, c1.2)) (by omega) (by omega)), gk_rt gs (gk_rr s2)⟩
      · obtain ⟨Ic, Ir, e1, e2, e3, z, g1, g2⟩ := zz_bad (zz_18 h (nI m)) (e := 4) (by omega) (by omega)
        have e1' : f_X5_refuse c.1 4 = some (false, Ic) := e1
        have e3' : f_X12_bad (bm_uI r.1 164 18 (nI m)) 4 = some (false, Ir) := e3
        have : N = 40 := by omega
        subst this
        rw [if_neg (show ¬ nI 40 < 40 by decide), if_pos (show nI 40 = 40 from rfl), e1', e3']
        exact Or.inr ⟨(Ic, c.2), (Ir, r.2), rfl, rfl, z, gk_cr g1, gk_rt (gk_rr (gr_18 r (nI m))) (gk_rr g2)⟩
    · have d0' : f_X12_looksAt r.1 r.2 0 (nI (T 0)) = some (false, Ir) := d0
      rw [e0, d0']
      simp only [Option.bind_some, ↓reduceIte, Bool.false_eq_true]
      exact Or.inr ⟨(Ic, c.2), (Ir, r.2), rfl, rfl, zf, gk_cr g0, gk_rr s0⟩
end BL
