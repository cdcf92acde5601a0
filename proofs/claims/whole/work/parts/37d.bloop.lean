/-! a book's lines -/
def gB_c (c c' : zc_C) : Prop := (∀ o k, o ≠ 3 → (o < 147 ∨ 150 < o ∨ (o = 147 ∧ k ≠ 3)) → c'.1 o k = c.1 o k) ∧ fk_J c.2.1 c'.2.1 ∧ fk_W c.2.2 c'.2.2
def gB_r (r r' : zc_R) : Prop := (∀ o k, o ≠ 168 → (o ≠ 164 ∨ k < 4 ∨ (4 < k ∧ k < 11) ∨ k = 17 ∨ (18 < k ∧ k ≠ 34)) → r'.1 o k = r.1 o k) ∧ rk_J r.2 r'.2
theorem gB_ck {N : Nat} {c c' : zc_C} (g : gk_c N c c') : gB_c c c' := ⟨fun o k h1 h2 => g.1 o k h1 (by omega), g.2⟩
theorem gB_rk {N : Nat} {r r' : zc_R} (g : gk_r N r r') : gB_r r r' := ⟨fun o k h1 h2 => g.1 o k (by omega) (by omega), g.2⟩
theorem gB_ct {a b c : zc_C} (h : gB_c a b) (g : gB_c b c) : gB_c a c := ⟨fun o k h1 h2 => (g.1 o k h1 h2).trans (h.1 o k h1 h2), fun o k h1 => (g.2.1 o k h1).trans (h.2.1 o k h1), fun o k h1 => (g.2.2 o k h1).trans (h.2.2 o k h1)⟩
theorem gB_rt {a b c : zc_R} (h : gB_r a b) (g : gB_r b c) : gB_r a c := ⟨fun o k h1 h2 => (g.1 o k h1 h2).trans (h.1 o k h1 h2), fun o k h1 => (g.2 o k h1).trans (h.2 o k h1)⟩
theorem bk_1g {T : pt_T} {i : Nat} {c c' : zc_C} {r r' : zc_R} (h : bk_1 T c r i) (g : gz_c c c') (s : gz_r r r') : bk_1 T c' r' i := by
  obtain ⟨v, m, o, p⟩ := h
  refine ⟨v, m, o, ?_⟩
  rw [g.1 148 i (by omega), g.1 149 i (by omega), g.1 150 i (by omega), s.1 168 (3 * i) (by omega), s.1 168 (3 * i + 1) (by omega), s.1 168 (3 * i + 2) (by omega)]
  exact p
theorem bk_up {T : pt_T} {N : Nat} {c : zc_C} {r : zc_R} (h : bk_P T N c r) (h1 : bk_1 T c r N) (hN : N < 40) : bk_P T (N + 1) (bm_uI c.1 147 3 (nI (N + 1)), c.2) (bm_uI r.1 164 34 (nI (N + 1)), r.2) := by
  obtain ⟨⟨a1, a2, a3, a4, a5, a6, a7, a8⟩, _, _, _, h5⟩ := h
  refine ⟨⟨a1, a2, ?_, ?_, ?_, ?_, a7, a8⟩, by omega, ?_, ?_, fun i hi => ?_⟩
  · exact (show bm_uI c.1 147 3 (nI (N + 1)) 4 10 = _ from pn_uI_ne (by omega)).trans a3
  · exact (show bm_uI c.1 147 3 (nI (N + 1)) 4 13 = _ from pn_uI_ne (by omega)).trans a4
  · exact (show bm_uI r.1 164 34 (nI (N + 1)) 166 0 = _ from pn_uI_ne (by omega)).trans a5
  · exact (show bm_uI r.1 164 34 (nI (N + 1)) 166 1 = _ from pn_uI_ne (by omega)).trans a6
  · exact (show bm_uI c.1 147 3 (nI (N + 1)) 147 3 = _ from pn_uI_hit rfl)
  · exact (show bm_uI r.1 164 34 (nI (N + 1)) 164 34 = _ from pn_uI_hit rfl)
  · have hx : bk_1 T c r i := by
      by_cases e : i = N
      · rw [e]; exact h1
      · exact h5 i (by omega)
    obtain ⟨v, m, o, p⟩ := hx
    refine ⟨v, m, o, ?_⟩
    dsimp only
    rw [pn_uI_ne (by omega), pn_uI_ne (by omega), pn_uI_ne (by omega), pn_uI_ne (by omega), pn_uI_ne (by omega), pn_uI_ne (by omega)]
    exact p
def bl_E (T : pt_T) (c : zc_C) (r : zc_R) (x : Option (zc_C ⊕ zc_C)) (y : Option (zc_R ⊕ zc_R)) : Prop := (∃ c' r' N, x = some (.inr c') ∧ y = some (.inr r') ∧ c'.1 3 9 = 0 ∧ r'.1 164 15 = 0 ∧ bk_P T N c' r' ∧ gB_c c c' ∧ gB_r r r') ∨ ∃ c' r', x = some (.inl c') ∧ y = some (.inl r') ∧ zf_P c' r' ∧ gB_c c c' ∧ gB_r r r'
section BM
variable {n lim : Nat} {B : Nat → Nat}
theorem zk_loop {T : pt_T} {y1 : Int32} : ∀ (i p N k k' : Nat) (c : zc_C) (r : zc_R), n - p ≤ i → i < k → i < k' → zz_P n lim B p c r → bk_P T N c r → bl_E T c r (f_X1_readFrom_l7 k (nI N) c.1 c.2.1 c.2.2) (f_X12_book_l39 y1 k' r.1 r.2) := by
  intro i
  induction i with
  | zero =>
    intro p N k k' c r hi hk hk' h hP
    obtain ⟨k, rfl⟩ : ∃ q, k = q + 1 := ⟨k - 1, by omega⟩
    obtain ⟨k', rfl⟩ : ∃ q, k' = q + 1 := ⟨k' - 1, by omega⟩
    have hp := h.2.2.1
    have hN := hP.2.1
    have he := zz_end h
    rw [f_X1_readFrom_l7, f_X12_book_l39, if_neg (show ¬ (40 : Int32) < nI N from nI_nlt (a := 40) (by omega) (by omega))]
    simp only [he.1, he.2]
    by_cases e0 : (lx B n lim p).1 = 0
    · rw [if_pos e0, if_pos e0]
      exact Or.inl ⟨c, r, N, rfl, rfl, h.2.2.2.2.2.2.2.1, h.2.2.2.2.2.2.2.2.1, hP, gB_ck (N := 0) (gk_cr (gc_rfl c)), gB_rk (N := 0) (gk_rr (gr_rfl r))⟩
    · rw [if_neg e0, if_neg e0]
      rcases zk_line h hP with ⟨c1, r1, p1, e1, d1, z1, q1, _⟩ | ⟨c1, r1, e1, d1, f1, g1, s1⟩
      · have := z1.2.2.1
        omega
      · rw [e1, d1]
        exact Or.inr ⟨c1, r1, rfl, rfl, f1, gB_ck g1, gB_rk s1⟩
  | succ i ih =>
    intro p N k k' c r hi hk hk' h hP
    obtain ⟨k, rfl⟩ : ∃ q, k = q + 1 := ⟨k - 1, by omega⟩
    obtain ⟨k', rfl⟩ : ∃ q, k' = q + 1 := ⟨k' - 1, by omega⟩
    have hp := h.2.2.1
    have hN := hP.2.1
    have he := zz_end h
    rw [f_X1_readFrom_l7, f_X12_book_l39, if_neg (show ¬ (40 : Int32) < nI N from nI_nlt (a := 40) (by omega) (by omega))]
    simp only [he.1, he.2]
    by_cases e0 : (lx B n lim p).1 = 0
    · rw [if_pos e0, if_pos e0]
      exact Or.inl ⟨c, r, N, rfl, rfl, h.2.2.2.2.2.2.2.1, h.2.2.2.2.2.2.2.2.1, hP, gB_ck (N := 0) (gk_cr (gc_rfl c)), gB_rk (N := 0) (gk_rr (gr_rfl r))⟩
    · rw [if_neg e0, if_neg e0]
      rcases zk_line h hP with ⟨c1, r1, p1, e1, d1, z1, q1, h40, b1, g1, s1⟩ | ⟨c1, r1, e1, d1, f1, g1, s1⟩
      · rw [e1, d1]
        simp only [Option.bind_some, ↓reduceIte]
        have P1 := bk_Pg hP g1 s1
        rcases zz_sign z1 (s := 59) (by omega) (by decide) with ⟨c2, r2, p2, e2, d2, z2, q2, g2, s2⟩ | ⟨c2, r2, e2, d2, f2, g2, s2⟩
        · have e2' : f_X5_takeSign c1.1 c1.2.1 c1.2.2 59 = some (true, c2) := e2
          have d2' : f_X12_sign r1.1 r1.2 59 = some (true, r2) := d2
          rw [e2', d2']
          simp only [Option.bind_some, ↓reduceIte]
          have P2 := bk_Pg P1 (gk_cr g2) (gk_rr s2)
          have P3 := bk_up P2 (bk_1g b1 g2 s2) h40
          rw [P2.2.2.1, P2.2.2.2.1, nI_1]
          have z3 := zz_19 (zz_cu z2 (o := 147) (i := 3) (v := nI (N + 1)) (by omega)) (k := 34) (v := nI (N + 1)) (by omega)
          have hz := z2.2.2.1
          have fc : gB_c c (bm_uI c2.1 147 3 (nI (N + 1)), c2.2) := gB_ct (gB_ct (gB_ck g1) (gB_ck (N := N) (gk_cr g2))) ⟨fun o k h1 h2 => pn_uI_off (by omega), fun _ _ _ => rfl, fun _ _ _ => rfl⟩
          have fr : gB_r r (bm_uI r2.1 164 34 (nI (N + 1)), r2.2) := gB_rt (gB_rt (gB_rk s1) (gB_rk (N := N) (gk_rr s2))) ⟨fun o k h1 h2 => pn_uI_off (by omega), fun _ _ _ => rfl⟩
          rcases ih p2 (N + 1) k k' (bm_uI c2.1 147 3 (nI (N + 1)), c2.2) (bm_uI r2.1 164 34 (nI (N + 1)), r2.2) (by omega) (by omega) (by omega) z3 P3 with ⟨c', r', N', x1, x2, x3, x4, x5, x6, x7⟩ | ⟨c', r', x1, x2, x3, x4, x5⟩
          · exact Or.inl ⟨c', r', N', x1, x2, x3, x4, x5, gB_ct fc x6, gB_rt fr x7⟩
          · exact Or.inr ⟨c', r', x1, x2, x3, gB_ct fc x4, gB_rt fr x5⟩
        · have e2' : f_X5_takeSign c1.1 c1.2.1 c1.2.2 59 = some (false, c2) := e2
          have d2' : f_X12_sign r1.1 r1.2 59 = some (false, r2) := d2
          rw [e2', d2']
          exact Or.inr ⟨c2, r2, rfl, rfl, f2, gB_ct (gB_ck g1) (gB_ck (N := N) (gk_cr g2)), gB_rt (gB_rk s1) (gB_rk (N := N) (gk_rr s2))⟩
      · rw [e1, d1]
        exact Or.inr ⟨c1, r1, rfl, rfl, f1, gB_ck g1, gB_rk s1⟩
end BM
