/-! a book's text, from its begin -/
def qb_c (I : bm_TI) (J : bm_TJ) (W : bm_TR) : Option (bm_TI × bm_TJ × bm_TR) := ((f_X5_begin I J W 400).bind fun v1 => f_X1_readFrom v1.1 v1.2.1 v1.2.2)
def qb_r (x1 : Int32) (I : bm_TI) (J : bm_TJ) : Option ((bm_TI × bm_TJ) ⊕ (bm_TI × bm_TJ)) := ((f_X12_taken (bm_uI I 164 0 0) 400).bind fun v1 => ((f_X12_next (bm_uI (bm_uI v1 164 15 0) 164 34 0) J).bind fun v3 => f_X12_book_l39 x1 1000 v3.1 v3.2))
def gB_R (r r' : zc_R) : Prop := (∀ o k, o ≠ 168 → (o ≠ 164 ∨ k = 1 ∨ (5 < k ∧ k < 11) ∨ k = 17 ∨ (18 < k ∧ k ≠ 34)) → r'.1 o k = r.1 o k) ∧ r'.1 164 2 = 0 ∧ rk_J r.2 r'.2
section BR
variable {I : bm_TI} {J : bm_TJ} {W : bm_TR} {r : zc_R} {n : Nat} {B : Nat → Nat} {T : pt_T} {y1 : Int32}
theorem qb_read (hn : n ≤ 940) (h11 : I 1 1 = nI n) (hB : ∀ k, k < n → B k < 256 ∧ I 2 k = nI (B k)) (r2 : r.1 164 2 = nI n) (rB : ∀ k, k < n → r.1 165 k &&& 255 = nI (B k)) (hK : iv_K r.2) (hA : bk_A T (I, J, W) r) : (∃ c' r' N, qb_c I J W = some c' ∧ qb_r y1 r.1 r.2 = some (.inr r') ∧ c'.1 3 9 = 0 ∧ r'.1 164 15 = 0 ∧ bk_P T N c' r' ∧ gB_c (I, J, W) c' ∧ gB_R r r') ∨ ∃ c' r', qb_c I J W = some c' ∧ qb_r y1 r.1 r.2 = some (.inl r') ∧ zf_P c' r' ∧ gB_c (I, J, W) c' ∧ gB_R r r' := by
  unfold qb_c qb_r f_X5_begin f_X12_taken f_X1_readFrom
  simp only [Option.bind_some]
  generalize hX : bm_uI (bm_uI (bm_uI (bm_uI I 3 1 400) 3 2 0) 3 9 0) 3 10 0 = X
  have x1 : X 3 1 = nI 400 := by rw [← hX, pn_uI_ne2 (by omega), pn_uI_ne2 (by omega), pn_uI_ne2 (by omega), pn_uI_hit rfl]; rfl
  have x2 : X 3 2 = 0 := by rw [← hX, pn_uI_ne2 (by omega), pn_uI_ne2 (by omega), pn_uI_hit rfl]
  have x9 : X 3 9 = 0 := by rw [← hX, pn_uI_ne2 (by omega), pn_uI_hit rfl]
  have xf : ∀ o k, o ≠ 3 → X o k = I o k := fun o k ho => by rw [← hX, pn_uI_ne ho, pn_uI_ne ho, pn_uI_ne ho, pn_uI_ne ho]
  generalize hY : bm_uI (bm_uI (bm_uI (bm_uI (bm_uI (bm_uI (bm_uI r.1 164 0 0) 164 3 (bm_uI r.1 164 0 0 164 2)) 164 2 0) 164 4 0) 164 5 400) 164 15 0) 164 34 0 = Y
  have y3 : Y 164 3 = nI n := by rw [← hY, pn_uI_ne2 (by omega), pn_uI_ne2 (by omega), pn_uI_ne2 (by omega), pn_uI_ne2 (by omega), pn_uI_ne2 (by omega), pn_uI_hit rfl, pn_uI_ne2 (by omega)]; exact r2
  have y2 : Y 164 2 = 0 := by rw [← hY, pn_uI_ne2 (by omega), pn_uI_ne2 (by omega), pn_uI_ne2 (by omega), pn_uI_ne2 (by omega), pn_uI_hit rfl]
  have y4 : Y 164 4 = 0 := by rw [← hY, pn_uI_ne2 (by omega), pn_uI_ne2 (by omega), pn_uI_ne2 (by omega), pn_uI_hit rfl]
  have y5 : Y 164 5 = nI 400 := by rw [← hY, pn_uI_ne2 (by omega), pn_uI_ne2 (by omega), pn_uI_hit rfl]; rfl
  have y15 : Y 164 15 = 0 := by rw [← hY, pn_uI_ne2 (by omega), pn_uI_hit rfl]
  have y34 : Y 164 34 = 0 := by rw [← hY, pn_uI_hit rfl]
  have yf : ∀ o k, (o ≠ 164 ∨ k = 1 ∨ (5 < k ∧ k < 11) ∨ k = 17 ∨ (18 < k ∧ k ≠ 34)) → Y o k = r.1 o k := fun o k ho => by rw [← hY, pn_uI_off (by omega), pn_uI_off (by omega), pn_uI_off (by omega), pn_uI_off (by omega), pn_uI_off (by omega), pn_uI_off (by omega), pn_uI_off (by omega)]
  obtain ⟨c1, r1, e1, d1, z1, g1, s1⟩ := zz_start (n := n) (lim := 400) (B := B) (c := (X, J, W)) (r := (Y, r.2)) hn (by omega) ⟨by dsimp only; rw [xf 1 1 (by omega)]; exact h11, fun k hk => by dsimp only; rw [xf 2 k (by omega)]; exact hB k hk, x1⟩ ⟨y3, fun k hk => ⟨(hB k hk).1, by dsimp only; rw [yf 165 k (by omega)]; exact rB k hk⟩, y5⟩ x2 y4 x9 y15 hK
  have e1' : f_X5_advance X J W = some c1 := e1
  have d1' : f_X12_next Y r.2 = some r1 := d1
  rw [e1', d1']
  simp only [Option.bind_some]
  have z2 := zz_cu z1 (o := 147) (i := 3) (v := 0) (by omega)
  have P2 : bk_P T 0 (bm_uI c1.1 147 3 0, c1.2) r1 := by
    obtain ⟨a1, a2, a3, a4, a5, a6, a7, a8⟩ := hA
    refine ⟨⟨a1, a2, ?_, ?_, ?_, ?_, fun j hj => ?_, fun j hj => ?_⟩, by omega, (show bm_uI c1.1 147 3 0 147 3 = _ from pn_uI_hit rfl), ?_, fun i hi => absurd hi (Nat.not_lt_zero i)⟩
    · exact (show bm_uI c1.1 147 3 0 4 10 = _ from pn_uI_ne (by omega)).trans ((g1.1 4 10 (by omega)).trans ((xf 4 10 (by omega)).trans a3))
    · exact (show bm_uI c1.1 147 3 0 4 13 = _ from pn_uI_ne (by omega)).trans ((g1.1 4 13 (by omega)).trans ((xf 4 13 (by omega)).trans a4))
    · exact (s1.1 166 0 (by omega)).trans ((yf 166 0 (by omega)).trans a5)
    · exact (s1.1 166 1 (by omega)).trans ((yf 166 1 (by omega)).trans a6)
    · dsimp only; rw [g1.2.1 5 j (by omega), s1.2 169 j (by omega)]; exact a7 j hj
    · dsimp only; rw [g1.2.1 10 j (by omega), s1.2 169 (8 + j) (by omega)]; exact a8 j hj
    · exact (s1.1 164 34 (by omega)).trans y34
  have fc : gB_c (I, J, W) (bm_uI c1.1 147 3 0, c1.2) := ⟨fun o k h1 h2 => (show bm_uI c1.1 147 3 0 o k = _ from pn_uI_off (by omega)).trans ((g1.1 o k (by omega)).trans (xf o k h1)), g1.2.1, g1.2.2⟩
  have fr : ∀ r' : zc_R, gB_r r1 r' → gB_R r r' := fun r' g => ⟨fun o k h1 h2 => (g.1 o k h1 (by omega)).trans ((s1.1 o k (by omega)).trans (yf o k h2)), (g.1 164 2 (by omega) (by omega)).trans ((s1.1 164 2 (by omega)).trans y2), fun o k h1 => (g.2 o k h1).trans (s1.2 o k h1)⟩
  rcases zk_loop (y1 := y1) n 0 0 1000 1000 (bm_uI c1.1 147 3 0, c1.2) r1 (by omega) (by omega) (by omega) z2 P2 with ⟨c', r', N, l1, l2, l3, l4, l5, l6, l7⟩ | ⟨c', r', l1, l2, l3, l4, l5⟩
  · have l1' : f_X1_readFrom_l7 1000 0 (bm_uI c1.1 147 3 0) c1.2.1 c1.2.2 = some (.inr c') := l1
    rw [l1', l2]
    exact Or.inl ⟨c', r', N, rfl, rfl, l3, l4, l5, gB_ct fc l6, fr r' l7⟩
  · have l1' : f_X1_readFrom_l7 1000 0 (bm_uI c1.1 147 3 0) c1.2.1 c1.2.2 = some (.inl c') := l1
    rw [l1', l2]
    exact Or.inr ⟨c', r', rfl, rfl, l3, gB_ct fc l4, fr r' l5⟩
end BR
