/-! lines: an order -/
section AR
variable {n lim p : Nat} {B : Nat → Nat} {c : zc_C} {r : zc_R}
theorem ar_layR {a b : Bool} {T : pt_T} {K v : Nat} (h : ar_P a b T c r) (h2 : ¬ ar_u T K) : ar_P a b (pt_up T K v) c (bm_uI r.1 167 K (nI v), r.2) := by
  have e : ∀ k, ar_u T k → pt_up T K v k = T k := fun k hk => by
    unfold pt_up
    rw [if_neg]
    intro q; rw [q] at hk; exact h2 hk
  refine ar_cg h e (fun k hk => ?_) ?_ (fun o' i' ho => rfl) (fun j => ⟨fun _ => ⟨rfl, rfl⟩, fun _ => ⟨rfl, rfl⟩⟩)
  · unfold pt_up
    by_cases q : k = K
    · rw [if_pos q]; show bm_uI r.1 167 K (nI v) 167 k = nI v; exact pn_uI_hit q
    · rw [if_neg q]; dsimp only; rw [pn_uI_ne2 q]; exact h.1 k hk
  · show bm_uI r.1 167 K (nI v) 164 20 = r.1 164 20
    exact pn_uI_ne (by decide)
theorem ar_layC {a b : Bool} {T : pt_T} {o i : Nat} {v : Int32} (h : ar_P a b T c r) (h1 : ¬ ar_w T o i) : ar_P a b T (bm_uI c.1 o i v, c.2) r := by
  refine ar_cg h (fun _ _ => rfl) h.1 rfl (fun o' i' ho => ?_) (fun j => ⟨fun _ => ⟨rfl, rfl⟩, fun _ => ⟨rfl, rfl⟩⟩)
  refine pn_uI_off (Classical.byContradiction fun q => ?_)
  have q1 : o' = o := Classical.byContradiction fun z => q (Or.inl z)
  have q2 : i' = i := Classical.byContradiction fun z => q (Or.inr z)
  rw [q1, q2] at ho
  exact h1 ho
theorem ar_18 {a b : Bool} {T : pt_T} (h : ar_P a b T c r) (v : Int32) : ar_P a b T c (bm_uI r.1 164 18 v, r.2) := ar_gz h (gc_rfl c) (gr_18 r v)
theorem gr_u {r r' : zc_R} {k : Nat} {v : Int32} (g : gz_r r r') : gz_r (bm_uI r.1 167 k v, r.2) (bm_uI r'.1 167 k v, r'.2) := ⟨fun o i ho => by
  by_cases q : o = 167 ∧ i = k
  · show bm_uI r'.1 167 k v o i = bm_uI r.1 167 k v o i
    rw [q.1, pn_uI_hit q.2, pn_uI_hit q.2]
  · show bm_uI r'.1 167 k v o i = bm_uI r.1 167 k v o i
    rw [pn_uI_off (by omega), pn_uI_off (by omega)]; exact g.1 o i ho, g.2⟩
/-- a name laid down where nothing is spoken of yet -/
theorem ar_layN {a b : Bool} {T : pt_T} {o i K : Nat} {x y : Int64} (h : ar_P a b T c r) (h1 : (o = 16 → T 0 ≤ i) ∧ (o = 21 → T 1 ≤ i)) (h2 : (15 ≤ K → K < 23 → T 0 ≤ K - 15) ∧ (23 ≤ K → T 1 ≤ K - 23)) : ar_P a b T (c.1, bm_uJ c.2.1 o i x, c.2.2) (r.1, bm_uJ r.2 169 K y) := by
  have h8 := h.2.2.2.2.1.1
  refine ar_cg h (fun _ _ => rfl) h.1 rfl (fun _ _ _ => rfl) (fun j => ⟨fun hj => ⟨show bm_uJ c.2.1 o i x 16 j = c.2.1 16 j from pn_uJ_off (by omega), show bm_uJ r.2 169 K y 169 (15 + j) = _ from pn_uJ_off (by omega)⟩, fun hj => ⟨show bm_uJ c.2.1 o i x 21 j = c.2.1 21 j from pn_uJ_off (by omega), show bm_uJ r.2 169 K y 169 (23 + j) = _ from pn_uJ_off (by omega)⟩⟩)
theorem ar_ord {a b : Bool} {T : pt_T} {f : Nat} (h : ar_P a b T c r) (hf : T 1 = f) (f4 : f < 7) (hx : 1 ≤ T (39 + f) ∧ T (39 + f) ≤ 3) (hy : 1 ≤ T (46 + f) ∧ T (46 + f) ≤ 3) (k1 : c.1 22 f = nI (T (39 + f))) (k2 : c.1 23 f = nI (T (46 + f))) (hn : nm_E (c.2.1 21 f) (r.2 169 (23 + f))) : ar_P a b (pt_up T 1 (f + 1)) (bm_uI c.1 15 13 (nI (f + 1)), c.2) (bm_uI r.1 167 1 (nI (f + 1)), r.2) := by
  obtain ⟨p1, ⟨o1, o2, o3, o4, o5⟩, ⟨c1, c2, c3, c4, c5, c6, c7, c8⟩, ⟨n1, n2⟩, ⟨⟨a0, a1, a2, a3, a4, a5, a6, a7, a8, a9, a10, a11, a13, a14⟩, hxx, hz⟩⟩ := h
  have u : ∀ k, k ≠ 1 → pt_up T 1 (f + 1) k = T k := fun k hk => by unfold pt_up; rw [if_neg hk]
  have u2 : pt_up T 1 (f + 1) 1 = f + 1 := by unfold pt_up; rw [if_pos rfl]
  have uj : ∀ b j, 2 < b → pt_up T 1 (f + 1) (b + j) = T (b + j) := fun b j hb => u _ (by omega)
  have w15 : ∀ i, i ≠ 13 → bm_uI c.1 15 13 (nI (f + 1)) 15 i = c.1 15 i := fun i hi => pn_uI_ne2 hi
  have w : ∀ o i, o ≠ 15 → bm_uI c.1 15 13 (nI (f + 1)) o i = c.1 o i := fun o i ho => pn_uI_ne ho
  refine ⟨fun k hk => ?_, ⟨?_, ?_, ?_, ?_, ?_⟩, ⟨?_, ?_, ?_, ?_, ?_, ?_, ?_, ?_⟩, ⟨?_, ?_⟩, ?_⟩
  · by_cases q : k = 1
    · rw [q, u2]; show bm_uI r.1 167 1 (nI (f + 1)) 167 1 = _; exact pn_uI_hit rfl
    · rw [u k q]; dsimp only; rw [pn_uI_ne2 q]; exact p1 k hk
  all_goals try rw [u2]
  all_goals try unfold ar_V pt_VA
  all_goals try dsimp only
  all_goals try simp (disch := omega) only [u, uj, u2, w15, w, pn_uI_hit, pn_uI_ne]
  · exact o1
  · exact o2
  · exact o3
  · exact o4
  · exact o5
  · exact c1
  · exact c2
  · exact c3
  · exact c5
  · exact c6
  · intro g hg
    by_cases q : g = f
    · rw [q]; exact ⟨k1, k2⟩
    · exact c7 g (by omega)
  · exact c8
  · exact n1
  · intro g hg
    by_cases q : g = f
    · rw [q]; exact hn
    · exact n2 g (by omega)
  · refine ⟨⟨a0, by omega, a2, a3, a4, a5, a6, a7, a8, a9, a10, a11, fun g hg => ?_, a14⟩, hxx, hz⟩
    by_cases q : g = f
    · rw [q]; exact ⟨hx.1, hx.2, hy.1, hy.2⟩
    · exact a13 g (by omega)
/-- a lift -/
theorem zz_lift (h : zz_P n lim B p c r) : (∃ v, v < 3 ∧ (lx B n lim p).1 = 4 ∧ f_X5_wordHere c.1 c.2.2 1 = some (nI (1 + v), c.1) ∧ f_X12_isOneOf r.1 r.2 5 3 = some (true, bm_uI r.1 164 18 (nI v))) ∨ ∃ Ic Ir, f_X5_wordHere c.1 c.2.2 1 = some (-1, Ic) ∧ f_X12_isOneOf r.1 r.2 5 3 = some (false, Ir) ∧ zf_P (Ic, c.2) (Ir, r.2) ∧ gz_c c (Ic, c.2) ∧ gz_r r (Ir, r.2) :=
  zz_one (fa := 5) (b := 5) (m := 3) (of := 1) (so := 1) h (by omega) (by decide +kernel) (fun i hi => propext ((by decide +kernel : ∀ i, i < 34 → (bm_wso (1000 + i) = nI 1 ↔ (5 ≤ i ∧ i < 5 + 3))) i hi)) (by decide +kernel)
theorem kc_orderOf15 {I : bm_TI} {T : pt_T} {m x y : Nat} (h : I 15 13 = nI m) (hm : m ≤ 7) (hx : x < 1000) (hy : y < 1000) (hC : ∀ q, q < m → I 22 q = nI (T (39 + q)) ∧ I 23 q = nI (T (46 + q))) (hT : ∀ q, q < m → T (39 + q) ≤ 3 ∧ T (46 + q) ≤ 3) : f_X0_orderOf I 15 (nI x) (nI y) = some (pn_x (pt_fnd m (fun q => decide (T (39 + q) = x) && decide (T (46 + q) = y)))) := by
  unfold f_X0_orderOf
  rw [pl_find (F := f_X0_orderOf_l2 I 15 (nI x) (nI y)) (n := m) (p := fun q => decide (T (39 + q) = x) && decide (T (46 + q) = y)) (by omega)]
  · simp only [Option.bind_some]
    have := tf_le m (fun q => decide (T (39 + q) = x) && decide (T (46 + q) = y))
    by_cases e : pt_fnd m (fun q => decide (T (39 + q) = x) && decide (T (46 + q) = y)) = 0
    · rw [if_pos e, e]; rfl
    · rw [if_neg e, pn_xp (by omega)]
  · intro k
    rw [f_X0_orderOf_l2, h, if_pos (nI_le (Nat.le_refl _) (by omega))]
  · intro k j hj
    have h1 : I (15 + 7) j = nI (T (39 + j)) := (hC j hj).1
    have h2 : I (15 + 8) j = nI (T (46 + j)) := (hC j hj).2
    have h3 := hT j hj
    rw [f_X0_orderOf_l2, h, if_neg (nI_ge hj (by omega)), if_pos (bm_ixk (by omega) (by omega)), nI_clamp (by omega), nI_1, h1, h2]
    simp (disch := omega) only [pn_eqI]
    by_cases e1 : T (39 + j) = x <;> by_cases e2 : T (46 + j) = y <;> simp [e1, e2]
theorem pq_orderL {I : bm_TI} {T : pt_T} {m : Nat} (hm : m ≤ 6) (hR : ∀ k, k < 61 → I 167 k = nI (T k)) (hT : ∀ q, q ≤ m → T (39 + q) ≤ 3 ∧ T (46 + q) ≤ 3) : f_X12_readOrder_l92 I (nI m) 1000 0 = some (if pt_fnd m (fun q => decide (T (39 + q) = T (39 + m)) && decide (T (46 + q) = T (46 + m))) = 0 then .inr () else .inl ()) := by
  refine pl_any (F := f_X12_readOrder_l92 I (nI m)) (n := m) (p := fun q => decide (T (39 + q) = T (39 + m)) && decide (T (46 + q) = T (46 + m))) (by omega) (fun k => ?_) (fun k j hj => ?_)
  · rw [f_X12_readOrder_l92, if_pos (nI_le (Nat.le_refl _) (by omega))]
  · have h3 := hT j (by omega)
    have h4 := hT m (by omega)
    rw [f_X12_readOrder_l92, if_neg (nI_ge hj (by omega)), show (39 : Int32) = nI 39 from rfl, show (46 : Int32) = nI 46 from rfl, nI_1]
    simp (disch := omega) only [nI_add, bm_ixk, nI_clamp, ↓reduceIte, hR, pn_eqI]
    by_cases e1 : T (39 + j) = T (39 + m) <;> by_cases e2 : T (46 + j) = T (46 + m) <;> simp [e1, e2]
theorem zl_order {a b : Bool} {T : pt_T} (h : zz_P n lim B p c r) (ha : ar_P a b T c r) (hk : (lx B n lim p).1 = 4) : ln_E n lim B p c r (f_X0_readOrder c.1 c.2.1 c.2.2) (f_X12_readOrder r.1 r.2) := by
  have hf : ∃ f, T 1 = f := ⟨_, rfl⟩
  obtain ⟨f, hf⟩ := hf
  have hV := ha.2.2.2.2.1
  have h0 := hV.1
  have f4 : f ≤ 7 := hf ▸ hV.2.1
  have k13 : c.1 15 13 = nI f := hf ▸ ha.2.2.1.2.2.2.1
  have k1 : r.1 167 1 = nI f := hf ▸ ha.1 1 (by omega)
  unfold f_X0_readOrder f_X12_readOrder
  rw [k13, k1]
  by_cases f3 : f < 7
  · rw [if_pos (show nI f < 7 from nI_lt (b := 7) f3 (by omega)), if_neg (show ¬ nI f = 7 by rw [show (7 : Int32) = nI 7 from rfl, pn_eqI (by omega) (by omega)]; omega)]
    obtain ⟨c1, r1, p1, e1, d1, z1, q0, q1, g1, s1, _⟩ := zz_adv h
    have a1 := ar_gz ha g1 s1
    have k131 : c1.1 15 13 = nI f := by rw [g1.1 15 13 (by omega)]; exact k13
    have r11 : r1.1 167 1 = nI f := by rw [s1.1 167 1 (by omega)]; exact k1
    rw [e1, d1]
    simp only [Option.bind_some]
    rw [show (23 : Int32) = nI 23 from rfl, show (39 : Int32) = nI 39 from rfl, show (46 : Int32) = nI 46 from rfl, nI_add, nI_add, nI_add]
    rcases zz_fresh (b := 21) (j := f) (to := 23 + f) z1 (a1.2.2.1.1) h0 k131 f4 (a1.1 0 (by omega)) r11 a1.2.2.2.1.1 (hf ▸ a1.2.2.2.1.2) (by omega) (by omega) with ⟨c2, r2, p2, e2, en, ea, d2, z2, q2, g2, s2⟩ | ⟨Ic, Ir, e2, d2, zf, g2, s2⟩
    · rw [e2, d2]
      simp only [Option.bind_some, ↓reduceIte]
      rw [k131, if_pos (bm_ixk f3 (by omega)), nI_clamp (by omega), ea]
      simp only [Option.bind_some]
      have a2 := ar_gz (ar_layN (o := 21) (i := f) (K := 23 + f) (x := c1.2.1 3 7) (y := r1.2 164 17) a1 (by omega) (by omega)) g2 s2
      have k132 : c2.1 15 13 = nI f := by rw [g2.1 15 13 (by omega)]; exact k131
      have nm2 : nm_E (c2.2.1 21 f) (r2.2 169 (23 + f)) := by
        have w1 : c2.2.1 21 f = c1.2.1 3 7 := (g2.2.1 21 f (by omega)).trans (show bm_uJ c1.2.1 21 f (c1.2.1 3 7) 21 f = _ from pn_uJ_hit rfl)
        have w2 : r2.2 169 (23 + f) = r1.2 164 17 := (s2.2 169 (23 + f) (by omega)).trans (show bm_uJ r1.2 169 (23 + f) (r1.2 164 17) 169 (23 + f) = _ from pn_uJ_hit rfl)
        rw [w1, w2]; exact en
      have ga2 : ga_c c c2 := ga_ct (ga_cr g1) (ga_ct (b := (c1.1, bm_uJ c1.2.1 21 f (c1.2.1 3 7), c1.2.2)) ⟨fun _ _ _ _ => rfl, fun o k h1 h2 h3 => pn_uJ_off (by omega), fun _ _ _ => rfl⟩ (ga_cr g2))
      have gs2 : ga_r r r2 := ga_rt (ga_rr s1) (ga_rt (b := (r1.1, bm_uJ r1.2 169 (23 + f) (r1.2 164 17))) ⟨fun _ _ _ _ => rfl, fun o k h1 h2 => pn_uJ_off (by omega)⟩ (ga_rr s2))
      unfold f_X5_takeWord
      rcases zz_lift z2 with ⟨v, hv, hk2, e3, d3⟩ | ⟨Ic, Ir, e3, d3, zf, g3, s3⟩
      · rw [e3, d3]
        simp only [Option.bind_some, ↓reduceIte]
        rw [if_neg (show ¬ nI (1 + v) = -1 by rw [pn_neg (by omega)]; exact not_false), if_pos (bm_ixk (show 39 + f < 61 by omega) (by omega)), nI_clamp (by omega), pn_uI_hit rfl, nI_1]
        have z3 := zz_ru (zz_18 z2 (nI v)) (k := 39 + f) (v := nI (v + 1))
        have a3 := ar_layR (K := 39 + f) (v := v + 1) (ar_18 a2 (nI v)) (by have := hV.2.2.1; unfold ar_u; omega)
        obtain ⟨c4, r4, p4, e4, d4, z4, q40, q41, g4, s4, _⟩ := zz_adv z3
        have d4' : f_X12_next (bm_uI (bm_uI r2.1 164 18 (nI v)) 167 (39 + f) (nI (v + 1))) r2.2 = some r4 := d4
        rw [e4, d4']
        simp only [Option.bind_some]
        have k134 : c4.1 15 13 = nI f := by rw [g4.1 15 13 (by omega)]; exact k132
        have k134' : bm_uI c4.1 22 f (nI (1 + v)) 15 13 = nI f := by rw [pn_uI_ne (by omega)]; exact k134
        have a4 := ar_layC (o := 22) (i := f) (v := nI (1 + v)) (ar_gz a3 g4 s4) (by unfold ar_w; unfold pt_up; rw [if_neg (by omega), if_neg (by omega), if_neg (by omega)]; omega)
        have z4' := zz_cu z4 (o := 22) (i := f) (v := nI (1 + v)) (by omega)
        have ga4 : ga_c c (bm_uI c4.1 22 f (nI (1 + v)), c4.2) := ga_ct (ga_ct ga2 (ga_cr g4)) (ga_cu (by omega) (by omega))
        have gs4 : ga_r r r4 := ga_rt gs2 (ga_rt (ga_rt (ga_rr (gr_18 r2 (nI v))) ga_ru) (ga_rr s4))
        rw [k132, if_pos (bm_ixk f3 (by omega)), nI_clamp (by omega), k134', if_pos (bm_ixk f3 (by omega)), nI_clamp (by omega), pn_uI_hit rfl, if_neg (show ¬ nI (1 + v) = -1 by rw [pn_neg (by omega)]; exact not_false)]
        rcases zz_lift z4' with ⟨w, hw, hk5, e5, d5⟩ | ⟨Ic, Ir, e5, d5, zf, g5, s5⟩
        · have e5' : f_X5_wordHere (bm_uI c4.1 22 f (nI (1 + v))) c4.2.2 1 = some (nI (1 + w), bm_uI c4.1 22 f (nI (1 + v))) := e5
          rw [e5', d5]
          simp only [Option.bind_some, ↓reduceIte]
          have a5 := ar_layC (o := 23) (i := f) (v := nI (1 + w)) (ar_layR (K := 46 + f) (v := w + 1) (ar_18 a4 (nI w)) (by have := hV.2.2.1; unfold ar_u; unfold pt_up; rw [if_neg (by omega), if_neg (by omega), if_neg (by omega)]; omega)) (by unfold ar_w; unfold pt_up; rw [if_neg (by omega), if_neg (by omega), if_neg (by omega), if_neg (by omega), if_neg (by omega), if_neg (by omega)]; omega)
          have z5 := zz_cu (zz_ru (zz_18 z4' (nI w)) (k := 46 + f) (v := nI (w + 1))) (o := 23) (i := f) (v := nI (1 + w)) (by omega)
          have k135 : bm_uI (bm_uI c4.1 22 f (nI (1 + v))) 23 f (nI (1 + w)) 15 13 = nI f := by rw [pn_uI_ne (by omega)]; exact k134'
          have k225 : bm_uI (bm_uI c4.1 22 f (nI (1 + v))) 23 f (nI (1 + w)) 22 f = nI (1 + v) := by rw [pn_uI_ne (by omega), pn_uI_hit rfl]
          rw [k135, if_pos (bm_ixk f3 (by omega)), nI_clamp (by omega), pn_uI_hit rfl, if_neg (show ¬ nI (1 + w) = -1 by rw [pn_neg (by omega)]; exact not_false), k225, if_pos (bm_ixk (show 46 + f < 61 by omega) (by omega)), nI_clamp (by omega), pn_uI_hit rfl, nI_1, nI_1]
          generalize hU : pt_up (pt_up T (39 + f) (v + 1)) (46 + f) (w + 1) = U at a5
          have U1 : U 1 = f := by rw [← hU]; unfold pt_up; rw [if_neg (by omega), if_neg (by omega)]; exact hf
          have Ux : U (39 + f) = v + 1 := by rw [← hU]; unfold pt_up; rw [if_neg (by omega), if_pos rfl]
          have Uy : U (46 + f) = w + 1 := by rw [← hU]; unfold pt_up; rw [if_pos rfl]
          have hT : ∀ q, q ≤ f → U (39 + q) ≤ 3 ∧ U (46 + q) ≤ 3 := fun q hq => by
            by_cases e : q = f
            · rw [e, Ux, Uy]; omega
            · have := a5.2.2.2.2.1.2.2.2.2.2.2.2.2.2.2.2.2.1 q (by omega)
              omega
          have hC : ∀ q, q < f → bm_uI (bm_uI c4.1 22 f (nI (1 + v))) 23 f (nI (1 + w)) 22 q = nI (U (39 + q)) ∧ bm_uI (bm_uI c4.1 22 f (nI (1 + v))) 23 f (nI (1 + w)) 23 q = nI (U (46 + q)) := fun q hq => a5.2.2.1.2.2.2.2.2.2.1 q (by omega)
          have hL := pq_orderL (I := bm_uI (bm_uI r4.1 164 18 (nI w)) 167 (46 + f) (nI (w + 1))) (T := U) (m := f) (by omega) (fun k hk => a5.1 k hk) hT
          rw [kc_orderOf15 (T := U) k135 f4 (by omega) (by omega) hC (fun q hq => hT q (by omega)), hL, Ux, Uy, Nat.add_comm 1 v, Nat.add_comm 1 w]
          simp only [Option.bind_some]
          have hle := tf_le f (fun q => decide (U (39 + q) = v + 1) && decide (U (46 + q) = w + 1))
          rw [Nat.add_comm 1 v] at k225
          rw [Nat.add_comm 1 v, Nat.add_comm 1 w] at z5 a5 k135
          rw [Nat.add_comm 1 w] at k225
          by_cases e : pt_fnd f (fun q => decide (U (39 + q) = v + 1) && decide (U (46 + q) = w + 1)) = 0
          · rw [if_pos (show pn_x _ = -1 by rw [e]; rfl), if_pos e]
            simp only []
            have a6 := ar_ord a5 U1 f3 (by rw [Ux]; omega) (by rw [Uy]; omega) (by rw [Ux]; exact k225) (by rw [Uy]; show bm_uI (bm_uI c4.1 22 f (nI (v + 1))) 23 f (nI (w + 1)) 23 f = _; exact pn_uI_hit rfl) (by
              have w1 : c4.2.1 21 f = c2.2.1 21 f := g4.2.1 21 f (by omega)
              have w2 : r4.2 169 (23 + f) = r2.2 169 (23 + f) := s4.2 169 (23 + f) (by omega)
              show nm_E (c4.2.1 21 f) (r4.2 169 (23 + f))
              rw [w1, w2]; exact nm2)
            have z6 := zz_cu z5 (o := 15) (i := 13) (v := nI (f + 1)) (by omega)
            obtain ⟨c7, r7, p7, e7, d7, z7, q70, q71, g7, s7, _⟩ := zz_adv z6
            have e7' : f_X5_advance (bm_uI (bm_uI (bm_uI c4.1 22 f (nI (v + 1))) 23 f (nI (w + 1))) 15 13 (nI (f + 1))) c4.2.1 c4.2.2 = some c7 := e7
            have d7' : f_X12_next (bm_uI (bm_uI r4.1 164 18 (nI w)) 167 (46 + f) (nI (w + 1))) r4.2 = some r7 := d7
            rw [e7', d7']
            simp only [Option.bind_some]
            have a7 := ar_gz a6 g7 (gr_u (k := 1) (v := nI (f + 1)) s7)
            have k17 : r7.1 167 1 = nI f := by
              rw [s7.1 167 1 (by omega)]
              exact (a5.1 1 (by omega)).trans (by rw [U1])
            rw [k17, nI_1]
            rw [Nat.add_comm 1 v] at ga4
            exact Or.inl ⟨c7, (bm_uI r7.1 167 1 (nI (f + 1)), r7.2), p7, a, b, _, rfl, rfl, zz_ru z7, a7, by omega, ga_ct (ga_ct (ga_ct ga4 (ga_cu (by omega) (by omega))) (ga_cu (by omega) (by omega))) (ga_cr g7), ga_rt (ga_rt (ga_rt (ga_rt gs4 (ga_rr (gr_18 r4 (nI w)))) ga_ru) (ga_rr s7)) ga_ru⟩
          · obtain ⟨Ic, Ir, e1, e2, e3, z, g6, s6⟩ := zz_bad z5 (e := 3) (by omega) (by omega)
            have e1' : f_X5_refuse (bm_uI (bm_uI c4.1 22 f (nI (v + 1))) 23 f (nI (w + 1))) 3 = some (false, Ic) := e1
            have e3' : f_X12_bad (bm_uI (bm_uI r4.1 164 18 (nI w)) 167 (46 + f) (nI (w + 1))) 3 = some (false, Ir) := e3
            rw [if_neg (show ¬ pn_x _ = -1 by rw [pn_xm1 (by omega)]; exact e), if_neg e, e1', e3']
            rw [Nat.add_comm 1 v] at ga4
            exact Or.inr ⟨(Ic, c4.2), (Ir, r4.2), rfl, rfl, z, ga_ct (ga_ct ga4 (ga_cu (by omega) (by omega))) (ga_cr g6), ga_rt (ga_rt (ga_rt gs4 (ga_rr (gr_18 r4 (nI w)))) ga_ru) (ga_rr s6)⟩
        · have e5' : f_X5_wordHere (bm_uI c4.1 22 f (nI (1 + v))) c4.2.2 1 = some (-1, Ic) := e5
          have k135 : bm_uI Ic 23 f (-1) 15 13 = nI f := by rw [pn_uI_ne (by omega)]; exact (g5.1 15 13 (by omega)).trans k134'
          rw [e5', d5]
          simp only [Option.bind_some, ↓reduceIte]
          rw [k135, if_pos (bm_ixk f3 (by omega)), nI_clamp (by omega), pn_uI_hit rfl, if_pos rfl, if_neg (by decide)]
          exact Or.inr ⟨(bm_uI Ic 23 f (-1), c4.2), (Ir, r4.2), rfl, rfl, zf_cu zf (by omega), ga_ct (ga_ct ga4 (ga_cr g5)) (ga_cu (c := (Ic, c4.2)) (by omega) (by omega)), ga_rt gs4 (ga_rr s5)⟩
      · have k133 : bm_uI Ic 22 f (-1) 15 13 = nI f := by rw [pn_uI_ne (by omega)]; exact (g3.1 15 13 (by omega)).trans k132
        rw [e3, d3]
        simp only [Option.bind_some, ↓reduceIte]
        rw [k132, if_pos (bm_ixk f3 (by omega)), nI_clamp (by omega), k133, if_pos (bm_ixk f3 (by omega)), nI_clamp (by omega), pn_uI_hit rfl, if_pos rfl, if_neg (by decide)]
        exact Or.inr ⟨(bm_uI Ic 22 f (-1), c2.2), (Ir, r2.2), rfl, rfl, zf_cu zf (by omega), ga_ct (ga_ct ga2 (ga_cr g3)) (ga_cu (c := (Ic, c2.2)) (by omega) (by omega)), ga_rt gs2 (ga_rr s3)⟩
    · rw [e2, d2]
      simp only [Option.bind_some, Bool.false_eq_true, ↓reduceIte]
      exact Or.inr ⟨(Ic, c1.2), (Ir, r1.2), rfl, rfl, zf, ga_ct (ga_cr g1) (ga_cr g2), ga_rt (ga_rr s1) (ga_rr s2)⟩
  · obtain ⟨Ic, Ir, e1, e2, e3, z, g1, g2⟩ := zz_bad h (e := 4) (by omega) (by omega)
    have e1' : f_X5_refuse c.1 4 = some (false, Ic) := e1
    have e3' : f_X12_bad r.1 4 = some (false, Ir) := e3
    have : f = 7 := by omega
    subst this
    rw [if_neg (show ¬ nI 7 < 7 by decide), if_pos (show nI 7 = 7 from rfl), e1', e3']
    exact Or.inr ⟨(Ic, c.2), (Ir, r.2), rfl, rfl, z, ga_cr g1, ga_rr g2⟩
end AR
