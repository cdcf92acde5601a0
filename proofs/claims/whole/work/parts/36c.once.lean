/-! what is told once -/
theorem ga_r20 {r : zc_R} (v : Int32) : ga_r r (bm_uI r.1 164 20 v, r.2) := ⟨fun o' k h3 h4 => pn_uI_off (by omega), fun _ _ _ _ => rfl⟩
section AO
variable {n lim p : Nat} {B : Nat → Nat} {c : zc_C} {r : zc_R}
theorem ar_clear {b : Bool} {T : pt_T} {c2 : zc_C} {r2 : zc_R} {v : Nat} (h : ar_P false b T c r) (g : gz_c c c2) (g' : gz_r (bm_uI r.1 164 20 (nI (1 + 2 * b.toNat)), r.2) r2) (h1 : 1 ≤ v) (h2 : v ≤ 5) : ar_P true b (pt_up T 3 v) (bm_uI c2.1 15 15 (nI v), c2.2) (bm_uI r2.1 167 3 (nI v), r2.2) := by
  have hr : ar_P false b T c2 (bm_uI r2.1 164 20 (r.1 164 20), r2.2) := by
    refine ar_gz h g ⟨fun o k ho => ?_, fun o k ho => g'.2 o k ho⟩
    by_cases q : o = 164 ∧ k = 20
    · rw [q.1, q.2]; show bm_uI r2.1 164 20 (r.1 164 20) 164 20 = r.1 164 20; exact pn_uI_hit rfl
    · refine (pn_uI_off (by omega)).trans ((g'.1 o k ho).trans (pn_uI_off (by omega)))
  have h20 : r2.1 164 20 = nI (1 + 2 * b.toNat) := (g'.1 164 20 (by omega)).trans (show bm_uI r.1 164 20 (nI (1 + 2 * b.toNat)) 164 20 = _ from pn_uI_hit rfl)
  obtain ⟨p1, ⟨o1, o2, o3, o4, o5⟩, ⟨c1, c2', c3, c4, c5, c6, c7, c8⟩, ⟨n1, n2⟩, ⟨⟨a0, a1, a2, a3, a4, a5, a6, a7, a8, a9, a10, a11, a13, a14⟩, hxx, hz⟩⟩ := hr
  have u : ∀ k, k ≠ 3 → pt_up T 3 v k = T k := fun k hk => by unfold pt_up; rw [if_neg hk]
  have u2 : pt_up T 3 v 3 = v := by unfold pt_up; rw [if_pos rfl]
  have uj : ∀ b j, 3 < b → pt_up T 3 v (b + j) = T (b + j) := fun b j hb => u _ (by omega)
  have w15 : ∀ i, i ≠ 15 → bm_uI c2.1 15 15 (nI v) 15 i = c2.1 15 i := fun i hi => pn_uI_ne2 hi
  have w : ∀ o i, o ≠ 15 → bm_uI c2.1 15 15 (nI v) o i = c2.1 o i := fun o i ho => pn_uI_ne ho
  refine ⟨fun k hk => ?_, ⟨?_, ?_, ?_, ?_, ?_⟩, ⟨?_, ?_, ?_, ?_, ?_, ?_, ?_, ?_⟩, ⟨?_, ?_⟩, ?_⟩
  · by_cases q : k = 3
    · rw [q, u2]; show bm_uI r2.1 167 3 (nI v) 167 3 = _; exact pn_uI_hit rfl
    · rw [u k q]; dsimp only; rw [pn_uI_ne2 q]; have hp := p1 k hk; dsimp only at hp; rw [pn_uI_ne (by decide)] at hp; exact hp
  all_goals try unfold ar_V pt_VA
  all_goals try dsimp only
  all_goals try simp (disch := omega) only [u, uj, u2, w15, w, pn_uI_hit, pn_uI_ne, ↓reduceIte]
  · exact h20
  · exact o3
  · exact fun q => absurd q (by decide)
  · exact o5
  · exact c1
  · exact c2'
  · exact c3
  · exact c4
  · exact c5
  · exact c6
  · exact c7
  · exact c8
  · exact n1
  · exact n2
  · refine ⟨⟨a0, a1, a2, h1, h2, a5, a6, a7, a8, a9, a10, a11, a13, a14⟩, hxx, hz⟩
theorem zl_clear {a b : Bool} {T : pt_T} (h : zz_P n lim B p c r) (ha : ar_P a b T c r) (hk : (lx B n lim p).1 = 4) : ln_E n lim B p c r ((f_X0_readOnce c.1 c.2.1 c.2.2 (c.1 15 15) 5).bind fun v6 => (if ((bm_uI v6.2.1 15 15 v6.1) 15 15) = (-1) then some (false, (bm_uI v6.2.1 15 15 v6.1), v6.2.2.1, v6.2.2.2) else some (true, (bm_uI v6.2.1 15 15 v6.1), v6.2.2.1, v6.2.2.2))) (f_X12_once r.1 r.2 0 3 1 5) := by
  have kO := ha.2.1
  unfold f_X0_readOnce f_X12_once
  have hs : a.toNat + 2 * b.toNat < 256 := by cases a <;> cases b <;> decide
  have hbit : f_X12_bitOf (r.1 164 20) 0 = a := by
    rw [kO.1]
    show f_X12_bitOf (nI _) (nI 0) = a
    rw [pn_bitOf hs (by omega)]
    cases a <;> cases b <;> decide
  rw [hbit]
  cases hv_a : a
  · subst hv_a
    have k15 : c.1 15 15 = -1 := by rw [kO.2.1]; rfl
    have hor : r.1 164 20 ||| bm_ishl 1 0 = nI (1 + 2 * b.toNat) := by
      rw [kO.1]
      cases b <;> rfl
    rw [k15, if_pos rfl, if_neg (by decide), hor]
    have z0 := zz_19 h (k := 20) (v := nI (1 + 2 * b.toNat)) (by omega)
    obtain ⟨c1, r1, p1, e1, d1, z1, q0, q1, g1, s1, _⟩ := zz_adv z0
    have d1' : f_X12_next (bm_uI r.1 164 20 (nI (1 + 2 * b.toNat))) r.2 = some r1 := d1
    rw [e1, d1']
    simp only [Option.bind_some]
    rcases zz_num z1 (lo := 1) (hi := 5) (by omega) (by omega) with ⟨x, c2, r2, p2, hx1, hx, e2, d2, z2, q2, t2, g2, s2⟩ | ⟨c2, r2, e2, d2, f2, g2, s2⟩
    · have e2' : f_X5_takeNumber c1.1 c1.2.1 c1.2.2 1 5 = some (nI x, c2) := e2
      have d2' : f_X12_puts r1.1 r1.2 3 1 5 = some (true, bm_uI r2.1 167 3 (nI x), r2.2) := pq_puts1 (to := 3) d2 t2 (by omega)
      rw [e2', d2']
      simp only [Option.bind_some]
      rw [pn_uI_hit rfl, if_neg (show ¬ nI x = -1 by rw [pn_neg (by omega)]; exact not_false)]
      exact Or.inl ⟨(bm_uI c2.1 15 15 (nI x), c2.2), (bm_uI r2.1 167 3 (nI x), r2.2), p2, true, b, _, rfl, rfl, zz_ru (zz_cu z2 (by omega)), ar_clear ha (gc_tr g1 g2) (gr_tr s1 s2) hx1 hx, by omega, ga_ct (ga_cr (gc_tr g1 g2)) (ga_cu (by omega) (by omega)), ga_rt (ga_rt (ga_r20 _) (ga_rr (gr_tr s1 s2))) ga_ru⟩
    · have e2' : f_X5_takeNumber c1.1 c1.2.1 c1.2.2 1 5 = some (-1, c2) := e2
      have d2' : f_X12_puts r1.1 r1.2 3 1 5 = some (false, r2) := pq_puts0 (to := 3) d2
      rw [e2', d2']
      simp only [Option.bind_some]
      rw [pn_uI_hit rfl, if_pos rfl]
      exact Or.inr ⟨(bm_uI c2.1 15 15 (-1), c2.2), r2, rfl, rfl, zf_cu f2 (by omega), ga_ct (ga_cr (gc_tr g1 g2)) (ga_cu (by omega) (by omega)), ga_rt (ga_r20 _) (ga_rr (gr_tr s1 s2))⟩
  · have hT : T 3 ≤ 5 := ha.2.2.2.2.1.2.2.2.2.1
    have k15 : c.1 15 15 = nI (T 3) := by rw [kO.2.1, if_pos hv_a]
    obtain ⟨Ic, Ir, e1, e2, e3, z, g1, g2⟩ := zz_bad h (e := 3) (by omega) (by omega)
    have e2' : f_X5_refuseNumber c.1 3 = some (-1, Ic) := e2
    have e3' : f_X12_bad r.1 3 = some (false, Ir) := e3
    rw [k15, if_neg (show ¬ nI (T 3) = -1 by rw [pn_neg (by omega)]; exact not_false), if_pos rfl, e2', e3']
    simp only [Option.bind_some]
    rw [pn_uI_hit rfl, if_pos rfl]
    exact Or.inr ⟨(bm_uI Ic 15 15 (-1), c.2), (Ir, r.2), rfl, rfl, zf_cu z (by omega), ga_ct (ga_cr g1) (ga_cu (c := (Ic, c.2)) (by omega) (by omega)), ga_rr g2⟩
theorem ar_rain {b : Bool} {T : pt_T} {c2 : zc_C} {r2 : zc_R} {v : Nat} (h : ar_P b false T c r) (g : gz_c c c2) (g' : gz_r (bm_uI r.1 164 20 (nI (b.toNat + 2 * 1)), r.2) r2) (h1 : 1 ≤ v) (h2 : v ≤ 30) : ar_P b true (pt_up T 4 v) (bm_uI c2.1 15 16 (nI v), c2.2) (bm_uI r2.1 167 4 (nI v), r2.2) := by
  have hr : ar_P b false T c2 (bm_uI r2.1 164 20 (r.1 164 20), r2.2) := by
    refine ar_gz h g ⟨fun o k ho => ?_, fun o k ho => g'.2 o k ho⟩
    by_cases q : o = 164 ∧ k = 20
    · rw [q.1, q.2]; show bm_uI r2.1 164 20 (r.1 164 20) 164 20 = r.1 164 20; exact pn_uI_hit rfl
    · refine (pn_uI_off (by omega)).trans ((g'.1 o k ho).trans (pn_uI_off (by omega)))
  have h20 : r2.1 164 20 = nI (b.toNat + 2 * 1) := (g'.1 164 20 (by omega)).trans (show bm_uI r.1 164 20 (nI (b.toNat + 2 * 1)) 164 20 = _ from pn_uI_hit rfl)
  obtain ⟨p1, ⟨o1, o2, o3, o4, o5⟩, ⟨c1, c2', c3, c4, c5, c6, c7, c8⟩, ⟨n1, n2⟩, ⟨⟨a0, a1, a2, a3, a4, a5, a6, a7, a8, a9, a10, a11, a13, a14⟩, hxx, hz⟩⟩ := hr
  have u : ∀ k, k ≠ 4 → pt_up T 4 v k = T k := fun k hk => by unfold pt_up; rw [if_neg hk]
  have u2 : pt_up T 4 v 4 = v := by unfold pt_up; rw [if_pos rfl]
  have uj : ∀ b j, 4 < b → pt_up T 4 v (b + j) = T (b + j) := fun b j hb => u _ (by omega)
  have w15 : ∀ i, i ≠ 16 → bm_uI c2.1 15 16 (nI v) 15 i = c2.1 15 i := fun i hi => pn_uI_ne2 hi
  have w : ∀ o i, o ≠ 15 → bm_uI c2.1 15 16 (nI v) o i = c2.1 o i := fun o i ho => pn_uI_ne ho
  refine ⟨fun k hk => ?_, ⟨?_, ?_, ?_, ?_, ?_⟩, ⟨?_, ?_, ?_, ?_, ?_, ?_, ?_, ?_⟩, ⟨?_, ?_⟩, ?_⟩
  · by_cases q : k = 4
    · rw [q, u2]; show bm_uI r2.1 167 4 (nI v) 167 4 = _; exact pn_uI_hit rfl
    · rw [u k q]; dsimp only; rw [pn_uI_ne2 q]; have hp := p1 k hk; dsimp only at hp; rw [pn_uI_ne (by decide)] at hp; exact hp
  all_goals try unfold ar_V pt_VA
  all_goals try dsimp only
  all_goals try simp (disch := omega) only [u, uj, u2, w15, w, pn_uI_hit, pn_uI_ne, ↓reduceIte]
  · exact h20
  · exact o2
  · exact o4
  · exact fun q => absurd q (by decide)
  · exact c1
  · exact c2'
  · exact c3
  · exact c4
  · exact c5
  · exact c6
  · exact c7
  · exact c8
  · exact n1
  · exact n2
  · refine ⟨⟨a0, a1, a2, a3, a4, h1, h2, a7, a8, a9, a10, a11, a13, a14⟩, hxx, hz⟩
theorem zl_rain {a b : Bool} {T : pt_T} (h : zz_P n lim B p c r) (ha : ar_P a b T c r) (hk : (lx B n lim p).1 = 4) : ln_E n lim B p c r ((f_X0_readOnce c.1 c.2.1 c.2.2 (c.1 15 16) 30).bind fun v6 => (if ((bm_uI v6.2.1 15 16 v6.1) 15 16) = (-1) then some (false, (bm_uI v6.2.1 15 16 v6.1), v6.2.2.1, v6.2.2.2) else some (true, (bm_uI v6.2.1 15 16 v6.1), v6.2.2.1, v6.2.2.2))) (f_X12_once r.1 r.2 1 4 1 30) := by
  have kO := ha.2.1
  unfold f_X0_readOnce f_X12_once
  have hs : a.toNat + 2 * b.toNat < 256 := by cases a <;> cases b <;> decide
  have hbit : f_X12_bitOf (r.1 164 20) 1 = b := by
    rw [kO.1]
    show f_X12_bitOf (nI _) (nI 1) = b
    rw [pn_bitOf hs (by omega)]
    cases a <;> cases b <;> decide
  rw [hbit]
  cases hv_b : b
  · subst hv_b
    have k15 : c.1 15 16 = -1 := by rw [kO.2.2.1]; rfl
    have hor : r.1 164 20 ||| bm_ishl 1 1 = nI (a.toNat + 2 * 1) := by
      rw [kO.1]
      cases a <;> rfl
    rw [k15, if_pos rfl, if_neg (by decide), hor]
    have z0 := zz_19 h (k := 20) (v := nI (a.toNat + 2 * 1)) (by omega)
    obtain ⟨c1, r1, p1, e1, d1, z1, q0, q1, g1, s1, _⟩ := zz_adv z0
    have d1' : f_X12_next (bm_uI r.1 164 20 (nI (a.toNat + 2 * 1))) r.2 = some r1 := d1
    rw [e1, d1']
    simp only [Option.bind_some]
    rcases zz_num z1 (lo := 1) (hi := 30) (by omega) (by omega) with ⟨x, c2, r2, p2, hx1, hx, e2, d2, z2, q2, t2, g2, s2⟩ | ⟨c2, r2, e2, d2, f2, g2, s2⟩
    · have e2' : f_X5_takeNumber c1.1 c1.2.1 c1.2.2 1 30 = some (nI x, c2) := e2
      have d2' : f_X12_puts r1.1 r1.2 4 1 30 = some (true, bm_uI r2.1 167 4 (nI x), r2.2) := pq_puts1 (to := 4) d2 t2 (by omega)
      rw [e2', d2']
      simp only [Option.bind_some]
      rw [pn_uI_hit rfl, if_neg (show ¬ nI x = -1 by rw [pn_neg (by omega)]; exact not_false)]
      exact Or.inl ⟨(bm_uI c2.1 15 16 (nI x), c2.2), (bm_uI r2.1 167 4 (nI x), r2.2), p2, a, true, _, rfl, rfl, zz_ru (zz_cu z2 (by omega)), ar_rain ha (gc_tr g1 g2) (gr_tr s1 s2) hx1 hx, by omega, ga_ct (ga_cr (gc_tr g1 g2)) (ga_cu (by omega) (by omega)), ga_rt (ga_rt (ga_r20 _) (ga_rr (gr_tr s1 s2))) ga_ru⟩
    · have e2' : f_X5_takeNumber c1.1 c1.2.1 c1.2.2 1 30 = some (-1, c2) := e2
      have d2' : f_X12_puts r1.1 r1.2 4 1 30 = some (false, r2) := pq_puts0 (to := 4) d2
      rw [e2', d2']
      simp only [Option.bind_some]
      rw [pn_uI_hit rfl, if_pos rfl]
      exact Or.inr ⟨(bm_uI c2.1 15 16 (-1), c2.2), r2, rfl, rfl, zf_cu f2 (by omega), ga_ct (ga_cr (gc_tr g1 g2)) (ga_cu (by omega) (by omega)), ga_rt (ga_r20 _) (ga_rr (gr_tr s1 s2))⟩
  · have hT : T 4 ≤ 30 := ha.2.2.2.2.1.2.2.2.2.2.2.1
    have k15 : c.1 15 16 = nI (T 4) := by rw [kO.2.2.1, if_pos hv_b]
    obtain ⟨Ic, Ir, e1, e2, e3, z, g1, g2⟩ := zz_bad h (e := 3) (by omega) (by omega)
    have e2' : f_X5_refuseNumber c.1 3 = some (-1, Ic) := e2
    have e3' : f_X12_bad r.1 3 = some (false, Ir) := e3
    rw [k15, if_neg (show ¬ nI (T 4) = -1 by rw [pn_neg (by omega)]; exact not_false), if_pos rfl, e2', e3']
    simp only [Option.bind_some]
    rw [pn_uI_hit rfl, if_pos rfl]
    exact Or.inr ⟨(bm_uI Ic 15 16 (-1), c.2), (Ir, r.2), rfl, rfl, zf_cu z (by omega), ga_ct (ga_cr g1) (ga_cu (c := (Ic, c.2)) (by omega) (by omega)), ga_rr g2⟩
end AO
