/-! the lines of an army -/
theorem op_e4 (x : Option (Bool × bm_TI × bm_TJ × bm_TR)) : (x.bind fun v => some (v.1, v.2.1, v.2.2.1, v.2.2.2)) = x := by cases x <;> rfl
theorem op_e3 (x : Option (Bool × bm_TI × bm_TJ)) : (x.bind fun v => some (v.1, v.2.1, v.2.2)) = x := by cases x <;> rfl
section AL
variable {n lim p : Nat} {B : Nat → Nat} {c : zc_C} {r : zc_R}
theorem zl_line {a b : Bool} {T : pt_T} (h : zz_P n lim B p c r) (ha : ar_P a b T c r) : ln_E n lim B p c r (f_X0_readLine c.1 c.2.1 c.2.2) (f_X12_line r.1 r.2) := by
  have w0 : (7168366 : Int64) = nm_8 (wd_w 0) := by decide +kernel
  have w27 : (504363246962 : Int64) = nm_8 (wd_w 27) := by decide +kernel
  have w1 : (478660552050 : Int64) = nm_8 (wd_w 1) := by decide +kernel
  have w2 : (6713189 : Int64) = nm_8 (wd_w 2) := by decide +kernel
  have w3 : (427020345714 : Int64) = nm_8 (wd_w 3) := by decide +kernel
  have w4 : (1918986606 : Int64) = nm_8 (wd_w 4) := by decide +kernel
  unfold f_X0_readLine f_X12_line
  rw [if_pos (zz_iwq h), zz_isW h (i := 0) (by omega) w0, zz_isW h (i := 27) (by omega) w27, zz_isW h (i := 1) (by omega) w1, zz_isW h (i := 2) (by omega) w2, zz_isW h (i := 3) (by omega) w3, zz_isW h (i := 4) (by omega) w4]
  simp only [Option.bind_some, op_e4, op_e3, zz_isWc h, decide_eq_true_eq]
  by_cases k0 : (lx B n lim p).1 = 4 ∧ (lx B n lim p).2.1 = 0
  · rw [if_pos k0, if_pos k0]; exact zl_man h ha k0.1
  · rw [if_neg k0, if_neg k0]
    by_cases k27 : (lx B n lim p).1 = 4 ∧ (lx B n lim p).2.1 = 27
    · rw [if_pos k27, if_pos k27]; exact zl_under h ha k27.1
    · rw [if_neg k27, if_neg k27]
      by_cases k1 : (lx B n lim p).1 = 4 ∧ (lx B n lim p).2.1 = 1
      · rw [if_pos k1, if_pos k1]; exact zl_order h ha k1.1
      · rw [if_neg k1, if_neg k1]
        by_cases k2 : (lx B n lim p).1 = 4 ∧ (lx B n lim p).2.1 = 2
        · rw [if_pos k2, if_pos k2]; exact zl_foe h ha k2.1
        · rw [if_neg k2, if_neg k2]
          by_cases k3 : (lx B n lim p).1 = 4 ∧ (lx B n lim p).2.1 = 3
          · rw [if_pos k3, if_pos k3]; exact zl_clear h ha k3.1
          · rw [if_neg k3, if_neg k3]
            by_cases k4 : (lx B n lim p).1 = 4 ∧ (lx B n lim p).2.1 = 4
            · rw [if_pos k4, if_pos k4]; exact zl_rain h ha k4.1
            · rw [if_neg k4, if_neg k4]
              obtain ⟨Ic, Ir, e1, e2, e3, z, g1, g2⟩ := zz_bad h (e := 1) (by omega) (by omega)
              have e1' : f_X5_refuse c.1 1 = some (false, Ic) := e1
              have e3' : f_X12_bad r.1 1 = some (false, Ir) := e3
              rw [e1', e3']
              exact Or.inr ⟨(Ic, c.2), (Ir, r.2), rfl, rfl, z, ga_cr g1, ga_rr g2⟩
/-- what all lines may change -/
def gb_r (r r' : zc_R) : Prop := (∀ o k, o ≠ 167 → (o ≠ 164 ∨ k < 4 ∨ (4 < k ∧ k < 11) ∨ k = 17 ∨ 20 < k) → r'.1 o k = r.1 o k) ∧ ∀ o k, (o ≠ 164 ∨ k ≠ 17) → (o ≠ 169 ∨ k < 15) → r'.2 o k = r.2 o k
theorem gb_ra {r r' : zc_R} (g : ga_r r r') : gb_r r r' := ⟨fun o k h1 h2 => g.1 o k h1 (by omega), g.2⟩
theorem gb_rt {a b c : zc_R} (h : gb_r a b) (g : gb_r b c) : gb_r a c := ⟨fun o k h1 h2 => (g.1 o k h1 h2).trans (h.1 o k h1 h2), fun o k h1 h2 => (g.2 o k h1 h2).trans (h.2 o k h1 h2)⟩
theorem gb_19 {r : zc_R} (v : Int32) : gb_r r (bm_uI r.1 164 19 v, r.2) := ⟨fun o' k h3 h4 => pn_uI_off (by omega), fun _ _ _ _ => rfl⟩
def lp_E (c : zc_C) (r : zc_R) (x : Option ((Int32 × zc_C) ⊕ (Int32 × zc_C))) (y : Option (zc_R ⊕ zc_R)) : Prop := (∃ c' r' L a b T, x = some (.inr (nI L, c')) ∧ y = some (.inr r') ∧ L < 1000 ∧ c'.1 3 9 = 0 ∧ r'.1 164 15 = 0 ∧ r'.1 164 19 = nI L ∧ ar_P a b T c' r' ∧ ga_c c c' ∧ gb_r r r') ∨ ∃ c' r' v, x = some (.inl (v, c')) ∧ y = some (.inl r') ∧ zf_P c' r' ∧ ga_c c c' ∧ gb_r r r'
theorem zl_loop : ∀ (i p L k k' : Nat) (a b : Bool) (T : pt_T) (c : zc_C) (r : zc_R), n - p ≤ i → i < k → i < k' → zz_P n lim B p c r → ar_P a b T c r → 2 * L ≤ p → r.1 164 19 = nI L → lp_E c r (f_X0_readFrom_l37 k (nI L) c.1 c.2.1 c.2.2) (f_X12_army_l35 k' r.1 r.2) := by
  intro i
  induction i with
  | zero =>
    intro p L k k' a b T c r hi hk hk' h ha hL h19
    obtain ⟨k, rfl⟩ : ∃ q, k = q + 1 := ⟨k - 1, by omega⟩
    obtain ⟨k', rfl⟩ : ∃ q, k' = q + 1 := ⟨k' - 1, by omega⟩
    have hn := h.1
    have hp := h.2.2.1
    have hgr := fun q => lx_gr (lim := lim) (B := B) hp q
    have hb := zz_lx h
    have he := zz_end h
    rw [f_X0_readFrom_l37, f_X12_army_l35, if_neg (show ¬ (900 : Int32) ≤ nI L from nI_ge (b := 900) (by omega) (by omega))]
    simp only [he.1, he.2]
    by_cases e0 : (lx B n lim p).1 = 0
    · rw [if_pos e0, if_pos e0]
      exact Or.inl ⟨c, r, L, a, b, T, rfl, rfl, by omega, h.2.2.2.2.2.2.2.1, h.2.2.2.2.2.2.2.2.1, h19, ha, ga_cr (gc_rfl c), gb_ra (ga_rr (gr_rfl r))⟩
    · rw [if_neg e0, if_neg e0]
      rcases zl_line h ha with ⟨c1, r1, p1, a1, b1, T1, e1, d1, z1, ar1, q1, g1, s1⟩ | ⟨c1, r1, e1, d1, f1, g1, s1⟩
      · have := z1.2.2.1
        omega
      · rw [e1, d1]
        exact Or.inr ⟨c1, r1, nI L, rfl, rfl, f1, g1, gb_ra s1⟩
  | succ i ih =>
    intro p L k k' a b T c r hi hk hk' h ha hL h19
    obtain ⟨k, rfl⟩ : ∃ q, k = q + 1 := ⟨k - 1, by omega⟩
    obtain ⟨k', rfl⟩ : ∃ q, k' = q + 1 := ⟨k' - 1, by omega⟩
    have hn := h.1
    have hp := h.2.2.1
    have he := zz_end h
    rw [f_X0_readFrom_l37, f_X12_army_l35, if_neg (show ¬ (900 : Int32) ≤ nI L from nI_ge (b := 900) (by omega) (by omega))]
    simp only [he.1, he.2]
    by_cases e0 : (lx B n lim p).1 = 0
    · rw [if_pos e0, if_pos e0]
      exact Or.inl ⟨c, r, L, a, b, T, rfl, rfl, by omega, h.2.2.2.2.2.2.2.1, h.2.2.2.2.2.2.2.2.1, h19, ha, ga_cr (gc_rfl c), gb_ra (ga_rr (gr_rfl r))⟩
    · rw [if_neg e0, if_neg e0]
      rcases zl_line h ha with ⟨c1, r1, p1, a1, b1, T1, e1, d1, z1, ar1, q1, g1, s1⟩ | ⟨c1, r1, e1, d1, f1, g1, s1⟩
      · rw [e1, d1]
        simp only [Option.bind_some, ↓reduceIte]
        rcases zz_sign z1 (s := 59) (by omega) (by decide) with ⟨c2, r2, p2, e2, d2, z2, q2, g2, s2⟩ | ⟨c2, r2, e2, d2, f2, g2, s2⟩
        · have e2' : f_X5_takeSign c1.1 c1.2.1 c1.2.2 59 = some (true, c2) := e2
          have d2' : f_X12_sign r1.1 r1.2 59 = some (true, r2) := d2
          rw [e2', d2']
          simp only [Option.bind_some, ↓reduceIte]
          have h192 : r2.1 164 19 = nI L := by rw [s2.1 164 19 (by omega), s1.1 164 19 (by omega) (by omega)]; exact h19
          rw [h192, nI_1]
          have z3 := zz_19 z2 (k := 19) (v := nI (L + 1)) (by omega)
          have ar2 := ar_gz ar1 g2 s2
          have ar3 : ar_P a1 b1 T1 c2 (bm_uI r2.1 164 19 (nI (L + 1)), r2.2) := ar_cg ar2 (fun _ _ => rfl) (fun k hk => by show bm_uI r2.1 164 19 (nI (L + 1)) 167 k = _; rw [pn_uI_ne (by omega)]; exact ar2.1 k hk) (by show bm_uI r2.1 164 19 (nI (L + 1)) 164 20 = _; exact pn_uI_ne2 (by omega)) (fun _ _ _ => rfl) (fun j => ⟨fun _ => ⟨rfl, rfl⟩, fun _ => ⟨rfl, rfl⟩⟩)
          have hz := z2.2.2.1
          have fc : ga_c c c2 := ga_ct g1 (ga_cr g2)
          have fr : gb_r r (bm_uI r2.1 164 19 (nI (L + 1)), r2.2) := gb_rt (gb_rt (gb_ra s1) (gb_ra (ga_rr s2))) (gb_19 _)
          have := ih p2 (L + 1) k k' a1 b1 T1 c2 (bm_uI r2.1 164 19 (nI (L + 1)), r2.2) (by omega) (by omega) (by omega) z3 ar3 (by omega) (by show bm_uI r2.1 164 19 (nI (L + 1)) 164 19 = _; exact pn_uI_hit rfl)
          rcases this with ⟨c', r', L', a', b', T', x1, x2, x3, x4, x5, x6, x7, x8, x9⟩ | ⟨c', r', v, x1, x2, x3, x4, x5⟩
          · exact Or.inl ⟨c', r', L', a', b', T', x1, x2, x3, x4, x5, x6, x7, ga_ct fc x8, gb_rt fr x9⟩
          · exact Or.inr ⟨c', r', v, x1, x2, x3, ga_ct fc x4, gb_rt fr x5⟩
        · have e2' : f_X5_takeSign c1.1 c1.2.1 c1.2.2 59 = some (false, c2) := e2
          have d2' : f_X12_sign r1.1 r1.2 59 = some (false, r2) := d2
          rw [e2', d2']
          exact Or.inr ⟨c2, r2, nI L, rfl, rfl, f2, ga_ct g1 (ga_cr g2), gb_rt (gb_ra s1) (gb_ra (ga_rr s2))⟩
      · rw [e1, d1]
        exact Or.inr ⟨c1, r1, nI L, rfl, rfl, f1, g1, gb_ra s1⟩
/-- as both begin to read -/
theorem zz_start (hn : n ≤ 940) (hlim : lim ≤ 940) (hc : tk_c c.1 n lim B) (hd : tk_d r.1 n lim B) (c2 : c.1 3 2 = 0) (r4 : r.1 164 4 = 0) (c9 : c.1 3 9 = 0) (r15 : r.1 164 15 = 0) (hK : iv_K r.2) : ∃ c' r', f_X5_advance c.1 c.2.1 c.2.2 = some c' ∧ f_X12_next r.1 r.2 = some r' ∧ zz_P n lim B 0 c' r' ∧ gz_c c c' ∧ gz_r r r' := by
  obtain ⟨I', J', W', e1, t1, f1, g1, w1⟩ := kc_advance (J := c.2.1) (W := c.2.2) hn hlim hc (Nat.zero_le n) c2
  obtain ⟨I2, J2, e2, t2, f2, g2⟩ := pq_next (J := r.2) hn hlim hd (Nat.zero_le n) r4
  refine ⟨(I', J', W'), (I2, J2), e1, e2, ⟨hn, hlim, Nat.zero_le n, ⟨by dsimp only; rw [f1 1 1 (by omega)]; exact hc.1, fun k hk => by dsimp only; rw [f1 2 k (by omega)]; exact hc.2.1 k hk, by dsimp only; rw [f1 3 1 (by omega)]; exact hc.2.2⟩, ⟨by dsimp only; rw [f2 164 3 (by omega)]; exact hd.1, fun k hk => by dsimp only; rw [f2 165 k (by omega)]; exact hd.2.1 k hk, by dsimp only; rw [f2 164 5 (by omega)]; exact hd.2.2⟩, t1, t2, by dsimp only; rw [f1 3 9 (by omega)]; exact c9, by dsimp only; rw [f2 164 15 (by omega)]; exact r15, fun k hk => by dsimp only; rw [g2 170 k (by omega)]; exact hK k hk⟩, ⟨fun o k ho => f1 o k (by omega), g1, w1⟩, ⟨fun o k ho => f2 o k (by omega), g2⟩⟩
end AL
