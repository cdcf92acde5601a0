/-! lines: one under another -/
theorem pt_anc_tr {T : pt_T} {c : Nat → Nat → Bool} (h : pt_anc T c) (hu : ∀ j, j < T 0 → T (31 + j) ≤ T 0) {j l : Nat} (hj : c j l = true) : ∀ d u, u < T 0 → pt_cnt (T 0) (c u) = d → c u j = true → c u l = true := by
  intro d
  induction d with
  | zero =>
    intro u hu0 hd hc
    rw [h.1 u hu0 j] at hc
    by_cases hz : 0 < T (31 + u)
    · have := pt_anc_cnt h hu0 (hu u hu0) hz
      omega
    · rw [decide_eq_false hz, Bool.false_and] at hc; cases hc
  | succ d ih =>
    intro u hu0 hd hc
    rw [h.1 u hu0 j] at hc
    by_cases hz : 0 < T (31 + u)
    · have h1 := pt_anc_cnt h hu0 (hu u hu0) hz
      have h2 := hu u hu0
      rw [decide_eq_true hz, Bool.true_and] at hc
      rw [h.1 u hu0 l, decide_eq_true hz, Bool.true_and]
      by_cases e : j + 1 = T (31 + u)
      · rw [show T (31 + u) - 1 = j by omega, hj, Bool.or_true]
      · rw [decide_eq_false e, Bool.false_or] at hc
        rw [ih (T (31 + u) - 1) (by omega) (by omega) hc, Bool.or_true]
    · rw [decide_eq_false hz, Bool.false_and] at hc; cases hc
theorem pt_anc_add {T : pt_T} {c : Nat → Nat → Bool} (h : pt_anc T c) (hu : ∀ j, j < T 0 → T (31 + j) ≤ T 0) {l u : Nat} (hl : l < T 0) (hu0 : u < T 0) (hz : T (31 + l) = 0) (hne : u ≠ l) (hc : c u l = false) : pt_anc (pt_up T (31 + l) (u + 1)) (fun j i => c j i || ((decide (j = l) || c j l) && (decide (i = u) || c u i))) := by
  have u0 : pt_up T (31 + l) (u + 1) 0 = T 0 := by unfold pt_up; rw [if_neg (by omega)]
  refine ⟨fun j hj i => ?_, fun j hj => ?_⟩
  · rw [u0] at hj
    by_cases e : j = l
    · subst e
      have hcl : ∀ i, c j i = false := fun i => by rw [h.1 j hl i, hz]; rfl
      have up : pt_up T (31 + j) (u + 1) (31 + j) = u + 1 := by unfold pt_up; rw [if_pos rfl]
      simp only [up, hcl, hc]
      have e1 : (i + 1 = u + 1) = (i = u) := propext ⟨fun q => by omega, fun q => by omega⟩
      simp [e1, hne, hc]
    · have up : pt_up T (31 + l) (u + 1) (31 + j) = T (31 + j) := by unfold pt_up; rw [if_neg (by omega)]
      simp only [up]
      rw [h.1 j hj i, h.1 j hj l]
      by_cases z : 0 < T (31 + j)
      · have e2 : (l + 1 = T (31 + j)) = (T (31 + j) - 1 = l) := propext ⟨fun q => by omega, fun q => by omega⟩
        simp only [e2, decide_eq_true z, Bool.true_and, decide_eq_false e, Bool.false_or, Bool.or_assoc]
      · simp only [decide_eq_false z, Bool.false_and, decide_eq_false e, Bool.or_false]
  · rw [u0] at hj
    show (c j j || ((decide (j = l) || c j l) && (decide (j = u) || c u j))) = false
    rw [h.2 j hj, Bool.false_or]
    by_cases e1 : j = l
    · subst e1
      have hne' : ¬ j = u := fun q => hne q.symm
      rw [hc, decide_eq_false hne']; simp
    · by_cases e2 : j = u
      · subst e2
        rw [hc, decide_eq_false e1]; simp
      · rw [decide_eq_false e1, decide_eq_false e2, Bool.false_or, Bool.false_or]
        cases q1 : c j l
        · rfl
        · cases q2 : c u j
          · rfl
          · have := pt_anc_tr h hu q1 _ u hu0 rfl q2
            rw [hc] at this; cases this
section AU
variable {n lim p : Nat} {B : Nat → Nat} {c : zc_C} {r : zc_R}
theorem pq_underL {I : bm_TI} {T : pt_T} (hR : ∀ k, k < 61 → I 167 k = nI (T k)) (hA : pt_VA T) {cc : Nat → Nat → Bool} (hc : pt_anc T cc) {l : Nat} (hl : l < T 0) : ∀ d k u, u < T 0 → pt_cnt (T 0) (cc u) = d → d + 1 < k → f_X12_readUnder_l70 I (nI l) k (nI u) = some (if (decide (u = l) || cc u l) = true then .inl () else .inr ()) := by
  have h8 := hA.1
  have hu := hA.2.2.2.2.2.2.2.2.2.2.1
  intro d
  induction d with
  | zero =>
    intro k u hu0 hd hk
    obtain ⟨k, rfl⟩ : ∃ q, k = q + 1 := ⟨k - 1, by omega⟩
    obtain ⟨k, rfl⟩ : ∃ q, k = q + 1 := ⟨k - 1, by omega⟩
    have huj := hu u hu0
    have hz : T (31 + u) = 0 := by
      apply Classical.byContradiction
      intro h
      have := pt_anc_cnt hc hu0 huj (by omega)
      omega
    have hcx : cc u l = false := by rw [hc.1 u hu0, hz]; rfl
    rw [f_X12_readUnder_l70, if_neg (show ¬ nI u < 0 from nI_pos (by omega)), hcx, Bool.or_false, show (31 : Int32) = nI 31 from rfl, nI_add, if_pos (bm_ixk (by omega) (by omega)), nI_clamp (by omega), hR _ (by omega), hz]
    simp (disch := omega) only [pn_eqI]
    by_cases e : u = l
    · rw [if_pos e, decide_eq_true e, if_pos rfl]
    · rw [if_neg e, decide_eq_false e, if_neg (by decide), f_X12_readUnder_l70, if_pos (by decide)]
  | succ d ih =>
    intro k u hu0 hd hk
    obtain ⟨k, rfl⟩ : ∃ q, k = q + 1 := ⟨k - 1, by omega⟩
    have huj := hu u hu0
    rw [f_X12_readUnder_l70, if_neg (show ¬ nI u < 0 from nI_pos (by omega)), show (31 : Int32) = nI 31 from rfl, nI_add, if_pos (bm_ixk (by omega) (by omega)), nI_clamp (by omega), hR _ (by omega)]
    simp (disch := omega) only [pn_eqI]
    by_cases e : u = l
    · rw [if_pos e, decide_eq_true e, Bool.true_or, if_pos rfl]
    · by_cases hz : T (31 + u) = 0
      · obtain ⟨k, rfl⟩ : ∃ q, k = q + 1 := ⟨k - 1, by omega⟩
        have hcx : cc u l = false := by rw [hc.1 u hu0, hz]; rfl
        rw [if_neg e, decide_eq_false e, hcx, hz, if_neg (by decide), f_X12_readUnder_l70, if_pos (by decide)]
      · have h1 := pt_anc_cnt hc hu0 huj (by omega)
        have := ih k (T (31 + u) - 1) (by omega) (by omega) (by omega)
        rw [if_neg e, pn_pred (by omega), this, decide_eq_false e, Bool.false_or, hc.1 u hu0 l, decide_eq_true (show 0 < T (31 + u) by omega), Bool.true_and]
        have e2 : (l + 1 = T (31 + u)) = (T (31 + u) - 1 = l) := propext ⟨fun q => by omega, fun q => by omega⟩
        simp only [e2]
theorem ar_under {a b : Bool} {T : pt_T} {l u : Nat} {cc : Nat → Nat → Bool} (h : ar_P a b T c r) (hcc : pt_anc T cc) (hl : l < T 0) (hu0 : u < T 0) (hz0 : T (31 + l) = 0) (hne : u ≠ l) (hc : cc u l = false) : ar_P a b (pt_up T (31 + l) (u + 1)) (bm_uI c.1 20 l (nI u), c.2) (bm_uI r.1 167 (31 + l) (nI (u + 1)), r.2) := by
  obtain ⟨p1, ⟨o1, o2, o3, o4, o5⟩, ⟨c1, c2, c3, c4, c5, c6, c7, c8⟩, ⟨n1, n2⟩, ⟨⟨a0, a1, a2, a3, a4, a5, a6, a7, a8, a9, a10, a11, a13, a14⟩, hxx, hz⟩⟩ := h
  have uu : ∀ k, k ≠ 31 + l → pt_up T (31 + l) (u + 1) k = T k := fun k hk => by unfold pt_up; rw [if_neg hk]
  have u2 : pt_up T (31 + l) (u + 1) (31 + l) = u + 1 := by unfold pt_up; rw [if_pos rfl]
  have u0 := uu 0 (by omega)
  have u1 := uu 1 (by omega)
  have u22 := uu 2 (by omega)
  have w : ∀ o i, o ≠ 20 → bm_uI c.1 20 l (nI u) o i = c.1 o i := fun o i ho => pn_uI_ne ho
  have hanc := pt_anc_add hcc a10 hl hu0 hz0 hne hc
  refine ⟨fun k hk => ?_, ⟨?_, ?_, ?_, ?_, ?_⟩, ⟨?_, ?_, ?_, ?_, ?_, fun j hj => ?_, fun q hq => ?_, fun f hf => ?_⟩, ⟨fun j hj => ?_, fun q hq => ?_⟩, ⟨?_, fun j hj => ?_, fun j hj hj8 => ?_⟩⟩
  · by_cases q : k = 31 + l
    · rw [q, u2]; show bm_uI r.1 167 (31 + l) (nI (u + 1)) 167 (31 + l) = _; exact pn_uI_hit rfl
    · rw [uu k q]; dsimp only; rw [pn_uI_ne2 q]; exact p1 k hk
  · exact (show bm_uI r.1 167 (31 + l) (nI (u + 1)) 164 20 = _ from pn_uI_ne (by decide)).trans o1
  · rw [uu 3 (by omega)]; exact (w 15 15 (by decide)).trans o2
  · rw [uu 4 (by omega)]; exact (w 15 16 (by decide)).trans o3
  · rw [uu 3 (by omega)]; exact o4
  · rw [uu 4 (by omega)]; exact o5
  · rw [u0]; exact (w 15 10 (by decide)).trans c1
  · rw [uu 29 (by omega)]; exact (w 15 11 (by decide)).trans c2
  · rw [uu 30 (by omega)]; exact (w 15 12 (by decide)).trans c3
  · rw [u1]; exact (w 15 13 (by decide)).trans c4
  · rw [u22]; exact (w 15 14 (by decide)).trans c5
  · rw [u0] at hj
    have cj := c6 j hj
    refine ⟨by rw [uu _ (by omega)]; exact (w 17 j (by decide)).trans cj.1, by rw [uu _ (by omega)]; exact (w 18 j (by decide)).trans cj.2.1, by rw [uu _ (by omega)]; exact (w 19 j (by decide)).trans cj.2.2.1, ?_⟩
    by_cases e : j = l
    · rw [e, u2, pn_xs]; show bm_uI c.1 20 l (nI u) 20 l = _; exact pn_uI_hit rfl
    · rw [uu _ (by omega)]; exact (show bm_uI c.1 20 l (nI u) 20 j = _ from pn_uI_ne2 e).trans cj.2.2.2
  · rw [u1] at hq
    rw [uu _ (by omega), uu _ (by omega)]
    exact ⟨(w 22 q (by decide)).trans (c7 q hq).1, (w 23 q (by decide)).trans (c7 q hq).2⟩
  · rw [u22] at hf
    rw [uu _ (by omega), uu _ (by omega)]
    exact ⟨(w 24 f (by decide)).trans (c8 f hf).1, (w 25 f (by decide)).trans (c8 f hf).2⟩
  · rw [u0] at hj; exact n1 j hj
  · rw [u1] at hq; exact n2 q hq
  · unfold pt_VA
    rw [u0, u1, u22, uu 3 (by omega), uu 4 (by omega), uu 29 (by omega), uu 30 (by omega)]
    refine ⟨a0, a1, a2, a3, a4, a5, a6, fun j hj => by rw [uu _ (by omega)]; exact a7 j hj, a8, a9, fun j hj => ?_, ⟨fun j i => cc j i || ((decide (j = l) || cc j l) && (decide (i = u) || cc u i)), fun j hj i => hanc.1 j (by rw [u0]; exact hj) i, fun j hj => hanc.2 j (by rw [u0]; exact hj)⟩, fun q hq => by rw [uu _ (by omega), uu _ (by omega)]; exact a13 q hq, fun f hf => by rw [uu _ (by omega), uu _ (by omega)]; exact a14 f hf⟩
    · by_cases e : j = l
      · rw [e, u2]; omega
      · rw [uu _ (by omega)]; exact a10 j hj
  · rw [u0] at hj
    rw [uu _ (by omega), uu _ (by omega)]; exact hxx j hj
  · rw [u0] at hj
    rw [uu _ (by omega)]; exact hz j hj hj8
theorem zl_under {a b : Bool} {T : pt_T} (h : zz_P n lim B p c r) (ha : ar_P a b T c r) (hk : (lx B n lim p).1 = 4) : ln_E n lim B p c r (f_X0_readUnder c.1 c.2.1 c.2.2) (f_X12_readUnder r.1 r.2) := by
  have hV := ha.2.2.2.2.1
  have h8 := hV.1
  have hup := hV.2.2.2.2.2.2.2.2.2.2.1
  obtain ⟨cc, hcc1, hcc2⟩ := hV.2.2.2.2.2.2.2.2.2.2.2.1
  have hcc : pt_anc T cc := ⟨hcc1, hcc2⟩
  unfold f_X0_readUnder f_X12_readUnder
  obtain ⟨c1, r1, p1, e1, d1, z1, q0, q1, g1, s1, _⟩ := zz_adv h
  have a1 := ar_gz ha g1 s1
  have r10 : r1.1 167 0 = nI (T 0) := a1.1 0 (by omega)
  rw [e1, d1]
  simp only [Option.bind_some]
  rw [r10, show (15 : Int32) = nI 15 from rfl]
  rcases zz_man (a := 15) (fr := 15) (m := T 0) z1 a1.2.2.1.1 h8 (by omega) a1.2.2.2.1.1 with ⟨l, hl, hk1, e2, d2⟩ | ⟨Ic, Ir, e2, d2, zf, g2, s2⟩
  · have hul := hup l hl
    have c20 : c1.1 20 l = pn_x (T (31 + l)) := (a1.2.2.1.2.2.2.2.2.1 l hl).2.2.2
    have r31 : bm_uI r1.1 164 18 (nI l) 167 (31 + l) = nI (T (31 + l)) := by rw [pn_uI_ne (by omega)]; exact a1.1 _ (by omega)
    have z2 := zz_18 z1 (nI l)
    rw [e2, d2]
    simp only [Option.bind_some, ↓reduceIte]
    rw [pn_uI_hit rfl, if_neg (show ¬ nI l = -1 by rw [pn_neg (by omega)]; exact not_false), if_pos (bm_ixk (show l < 8 by omega) (by omega)), nI_clamp (by omega), c20, show (31 : Int32) = nI 31 from rfl, nI_add, if_pos (bm_ixk (show 31 + l < 61 by omega) (by omega)), nI_clamp (by omega), r31]
    by_cases hz : T (31 + l) = 0
    · rw [hz, if_pos (show pn_x 0 = -1 from rfl), if_pos (show nI 0 ≤ 0 by decide)]
      obtain ⟨c3, r3, p3, e3, d3, z3, q30, q31, g3, s3, _⟩ := zz_adv z2
      have d3' : f_X12_next (bm_uI r1.1 164 18 (nI l)) r1.2 = some r3 := d3
      have a3 := ar_gz (ar_18 a1 (nI l)) g3 s3
      have r30 : r3.1 167 0 = nI (T 0) := a3.1 0 (by omega)
      rw [e3, d3']
      simp only [Option.bind_some]
      rw [r30]
      have ga3 : ga_c c c3 := ga_ct (ga_cr g1) (ga_cr g3)
      have gs3 : ga_r r r3 := ga_rt (ga_rt (ga_rr s1) (ga_rr (gr_18 r1 (nI l)))) (ga_rr s3)
      rcases zz_man (a := 15) (fr := 15) (m := T 0) z3 a3.2.2.1.1 h8 (by omega) a3.2.2.2.1.1 with ⟨u, hu, hk3, e4, d4⟩ | ⟨Ic, Ir, e4, d4, zf, g4, s4⟩
      · rw [e4, d4]
        simp only [Option.bind_some, ↓reduceIte]
        have z4 := zz_18 z3 (nI u)
        have a4 := ar_18 a3 (nI u)
        obtain ⟨Ic, Ir, b1, b2, b3, bz, bg, bs⟩ := zz_bad z4 (e := 3) (by omega) (by omega)
        have b1' : f_X5_refuse c3.1 3 = some (false, Ic) := b1
        have b3' : f_X12_bad (bm_uI r3.1 164 18 (nI u)) 3 = some (false, Ir) := b3
        have hcl := pt_cnt_le (T 0) (cc u)
        have hL := pq_underL (I := bm_uI r3.1 164 18 (nI u)) (T := T) (fun k hk => a4.1 k hk) hV hcc hl _ 1000 u hu rfl (by omega)
        have hU := kc_isUnder (I := c3.1) (a := 15) hV hcc (fun j hj => (a3.2.2.1.2.2.2.2.2.1 j hj).2.2.2) hu (x := l) (by omega)
        rw [pn_uI_hit rfl, if_neg (show ¬ nI u = -1 by rw [pn_neg (by omega)]; exact not_false), hL, hU, b1', b3']
        simp (disch := omega) only [Option.bind_some, pn_eqI]
        have bad : ln_E n lim B p c r (some (false, Ic, c3.2.1, c3.2.2)) (some (false, Ir, r3.2)) := Or.inr ⟨(Ic, c3.2), (Ir, r3.2), rfl, rfl, bz, ga_ct ga3 (ga_cr bg), ga_rt (ga_rt gs3 (ga_rr (gr_18 r3 (nI u)))) (ga_rr bs)⟩
        by_cases e : u = l
        · rw [if_pos e, decide_eq_true e, Bool.true_or, if_pos rfl]
          exact bad
        · rw [if_neg e, decide_eq_false e, Bool.false_or]
          cases hx : cc u l
          · rw [if_neg (by decide), if_neg (by decide)]
            simp only []
            have a5 := ar_under a4 hcc hl hu hz e hx
            have z5 := zz_ru (zz_cu z4 (o := 20) (i := l) (v := nI u) (by omega)) (k := 31 + l) (v := nI (u + 1))
            obtain ⟨c6, r6, p6, e6, d6, z6, q60, q61, g6, s6, _⟩ := zz_adv z5
            have e6' : f_X5_advance (bm_uI c3.1 20 l (nI u)) c3.2.1 c3.2.2 = some c6 := e6
            have d6' : f_X12_next (bm_uI (bm_uI r3.1 164 18 (nI u)) 167 (31 + l) (nI (u + 1))) r3.2 = some r6 := d6
            rw [nI_1, e6', d6']
            exact Or.inl ⟨c6, r6, p6, a, b, _, rfl, rfl, z6, ar_gz a5 g6 s6, by omega, ga_ct (ga_ct ga3 (ga_cu (by omega) (by omega))) (ga_cr g6), ga_rt (ga_rt (ga_rt gs3 (ga_rr (gr_18 r3 (nI u)))) ga_ru) (ga_rr s6)⟩
          · rw [if_pos rfl, if_pos rfl]
            exact bad
      · rw [e4, d4]
        simp only [Option.bind_some, ↓reduceIte, Bool.false_eq_true]
        exact Or.inr ⟨(Ic, c3.2), (Ir, r3.2), rfl, rfl, zf, ga_ct ga3 (ga_cr g4), ga_rt gs3 (ga_rr s4)⟩
    · obtain ⟨Ic, Ir, b1, b2, b3, bz, bg, bs⟩ := zz_bad z2 (e := 3) (by omega) (by omega)
      have b1' : f_X5_refuse c1.1 3 = some (false, Ic) := b1
      have b3' : f_X12_bad (bm_uI r1.1 164 18 (nI l)) 3 = some (false, Ir) := b3
      rw [if_neg (show ¬ pn_x (T (31 + l)) = -1 by rw [pn_xm1 (by omega)]; exact hz), if_neg (show ¬ nI (T (31 + l)) ≤ 0 from nI_ge (b := T (31 + l)) (a := 0) (by omega) (by omega)), b1', b3']
      exact Or.inr ⟨(Ic, c1.2), (Ir, r1.2), rfl, rfl, bz, ga_ct (ga_cr g1) (ga_cr bg), ga_rt (ga_rt (ga_rr s1) (ga_rr (gr_18 r1 (nI l)))) (ga_rr bs)⟩
  · rw [e2, d2]
    simp only [Option.bind_some, ↓reduceIte, Bool.false_eq_true]
    exact Or.inr ⟨(Ic, c1.2), (Ir, r1.2), rfl, rfl, zf, ga_ct (ga_cr g1) (ga_cr g2), ga_rt (ga_rr s1) (ga_rr s2)⟩
end AU
