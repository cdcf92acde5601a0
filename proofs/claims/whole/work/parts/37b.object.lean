/-! a book's line: what it is done with -/
def bo_r (X : bm_TI) (J : bm_TJ) (g N : Int32) : Option (Bool × bm_TI × bm_TJ) := (if (f_X12_isIn g 2 4) = true then some (true, X, J) else (if g = 1 then ((f_X12_takesName X J 8 (X 166 1)).bind fun v61 => (if v61.1 = true then (if bm_ix 135 ((3 * N) + 2) = true then some (true, (bm_uI v61.2.1 168 (((3 * N) + 2).toNatClampNeg) (v61.2.1 164 18)), v61.2.2) else none) else some (false, v61.2.1, v61.2.2))) else (if g = 0 then ((f_X12_isOneOf X J 5 3).bind fun v53 => (if v53.1 = true then (if g = 0 then (if bm_ix 135 ((3 * N) + 2) = true then ((f_X12_next (bm_uI v53.2 168 (((3 * N) + 2).toNatClampNeg) ((v53.2 164 18) + 1)) J).bind fun v59 => some (true, v59.1, v59.2)) else none) else (if bm_ix 135 ((3 * N) + 2) = true then ((f_X12_next (bm_uI v53.2 168 (((3 * N) + 2).toNatClampNeg) (v53.2 164 18)) J).bind fun v56 => some (true, v56.1, v56.2)) else none)) else some (false, v53.2, J))) else ((f_X12_isOneOf X J 17 4).bind fun v45 => (if v45.1 = true then (if g = 0 then (if bm_ix 135 ((3 * N) + 2) = true then ((f_X12_next (bm_uI v45.2 168 (((3 * N) + 2).toNatClampNeg) ((v45.2 164 18) + 1)) J).bind fun v51 => some (true, v51.1, v51.2)) else none) else (if bm_ix 135 ((3 * N) + 2) = true then ((f_X12_next (bm_uI v45.2 168 (((3 * N) + 2).toNatClampNeg) (v45.2 164 18)) J).bind fun v48 => some (true, v48.1, v48.2)) else none)) else some (false, v45.2, J))))))
section BO
variable {n lim p : Nat} {B : Nat → Nat} {c : zc_C} {r : zc_R}
theorem zk_obj {T : pt_T} {N v : Nat} (h : zz_P n lim B p c r) (hA : bk_A T c r) (hN : N < 40) (hv : v < 6) : (∃ c' r' p' o, f_X1_readObject c.1 c.2.1 c.2.2 (nI v) = some (nI o, c') ∧ bo_r r.1 r.2 (nI v) (nI N) = some (true, r') ∧ o < 1000 ∧ zz_P n lim B p' c' r' ∧ p ≤ p' ∧ gz_c c c' ∧ gk_r N r r' ∧ (∀ k, k ≠ 3 * N + 2 → r'.1 168 k = r.1 168 k) ∧ (v = 0 → r'.1 168 (3 * N + 2) = nI o ∧ 1 ≤ o ∧ o ≤ 3) ∧ (v = 1 → r'.1 168 (3 * N + 2) = nI o ∧ o < T 1) ∧ (v = 5 → r'.1 168 (3 * N + 2) = nI o ∧ o ≤ 3)) ∨ ∃ c' r', f_X1_readObject c.1 c.2.1 c.2.2 (nI v) = some (-1, c') ∧ bo_r r.1 r.2 (nI v) (nI N) = some (false, r') ∧ zf_P c' r' ∧ gz_c c c' ∧ gk_r N r r' := by
  obtain ⟨h0, h7, h3, h4, h5, h6, hn1, hn2⟩ := hA
  unfold f_X1_readObject bo_r
  rw [show (2 : Int32) = nI 2 from rfl, show (4 : Int32) = nI 4 from rfl, pq_inN (by omega) (by omega) (by omega)]
  have ix : bm_ix 135 (3 * nI N + nI 2) = true := by rw [show (3 : Int32) = nI 3 from rfl, pk_mul, nI_add]; exact bm_ixk (by omega) (by omega)
  have cl : (3 * nI N + nI 2).toNatClampNeg = 3 * N + 2 := by rw [show (3 : Int32) = nI 3 from rfl, pk_mul, nI_add, nI_clamp (by omega)]
  rw [ix, cl]
  simp only [↓reduceIte]
  -- behind a word: it is laid down, and both go on
  have go : ∀ (g o : Nat), 4 ≤ (lx B n lim p).1 → o < 1000 → ∃ c' r' p', f_X5_advance c.1 c.2.1 c.2.2 = some c' ∧ f_X12_next (bm_uI (bm_uI r.1 164 18 (nI g)) 168 (3 * N + 2) (nI o)) r.2 = some r' ∧ zz_P n lim B p' c' r' ∧ p ≤ p' ∧ gz_c c c' ∧ gk_r N r r' ∧ (∀ k, k ≠ 3 * N + 2 → r'.1 168 k = r.1 168 k) ∧ r'.1 168 (3 * N + 2) = nI o := by
    intro g o hk ho
    obtain ⟨c', r', p', e1, d1, z1, q0, q1, g1, s1, _⟩ := zz_adv (zk_ru (zz_18 h (nI g)) (k := 3 * N + 2) (v := nI o))
    refine ⟨c', r', p', e1, d1, z1, q0, g1, gk_rt (gk_rt (gk_rr (gr_18 r (nI g))) (gk_ru (by omega) (by omega))) (gk_rr s1), fun k hk => ?_, ?_⟩
    · rw [s1.1 168 k (by omega)]
      show bm_uI (bm_uI r.1 164 18 (nI g)) 168 (3 * N + 2) (nI o) 168 k = _
      rw [pn_uI_ne2 hk, pn_uI_ne (by omega)]
    · rw [s1.1 168 _ (by omega)]
      show bm_uI (bm_uI r.1 164 18 (nI g)) 168 (3 * N + 2) (nI o) 168 (3 * N + 2) = _
      exact pn_uI_hit rfl
  have cs : v = 0 ∨ v = 1 ∨ v = 2 ∨ v = 3 ∨ v = 4 ∨ v = 5 := by omega
  rcases cs with e | e | e | e | e | e
  · subst e
    rw [if_pos (show nI 0 = 0 from rfl), if_neg (by decide), if_neg (show ¬ nI 0 = 1 by decide), if_pos (show nI 0 = 0 from rfl)]
    unfold f_X5_takeWord
    rcases zz_lift h with ⟨x, hx, hk, e1, d1⟩ | ⟨Ic, Ir, e1, d1, zf, g1, s1⟩
    · obtain ⟨c', r', p', e2, d2, z, q0, g2, s2, f2, f3⟩ := go x (x + 1) (by omega) (by omega)
      rw [e1, d1]
      simp only [Option.bind_some, ↓reduceIte]
      rw [if_neg (show ¬ nI (1 + x) = -1 by rw [pn_neg (by omega)]; exact not_false), pn_uI_hit rfl, nI_1, e2, d2]
      exact Or.inl ⟨c', r', p', 1 + x, rfl, rfl, by omega, z, q0, g2, s2, f2, fun _ => ⟨by rw [f3, Nat.add_comm], by omega, by omega⟩, fun q => absurd q (by decide), fun q => absurd q (by decide)⟩
    · rw [e1, d1]
      exact Or.inr ⟨(Ic, c.2), (Ir, r.2), rfl, rfl, zf, g1, gk_rr s1⟩
  · subst e
    rw [if_neg (show ¬ nI 1 = 0 by decide), if_pos (show nI 1 = 1 from rfl), if_neg (by decide), if_pos (show nI 1 = 1 from rfl)]
    unfold f_X5_takeOrder f_X12_takesName
    rw [h6, show (8 : Int32) = nI 8 from rfl]
    rcases zz_ord h h4 h7 (fr := 8) (by omega) hn2 with ⟨x, hx, hk, e1, d1⟩ | ⟨Ic, Ir, e1, d1, zf, g1, s1⟩
    · obtain ⟨c', r', p', e2, d2, z, q0, q1, g2, s2, r18⟩ := zz_adv (zz_18 h (nI x))
      have d2' : f_X12_next (bm_uI r.1 164 18 (nI x)) r.2 = some r' := d2
      have r18' : r'.1 164 18 = nI x := r18.trans (show bm_uI r.1 164 18 (nI x) 164 18 = _ from pn_uI_hit rfl)
      rw [e1, d1]
      simp only [Option.bind_some, ↓reduceIte]
      rw [if_neg (show ¬ nI x = -1 by rw [pn_neg (by omega)]; exact not_false), e2, d2']
      simp only [Option.bind_some, ↓reduceIte]
      rw [r18']
      refine Or.inl ⟨c', (bm_uI r'.1 168 (3 * N + 2) (nI x), r'.2), p', x, rfl, rfl, by omega, zk_ru z, q0, g2, gk_rt (gk_rr (gr_tr (gr_18 r (nI x)) s2)) (gk_ru (by omega) (by omega)), fun k hk => ?_, fun q => absurd q (by decide), fun _ => ⟨?_, hx⟩, fun q => absurd q (by decide)⟩
      · show bm_uI r'.1 168 (3 * N + 2) (nI x) 168 k = _
        rw [pn_uI_ne2 hk, s2.1 168 k (by omega)]
        show bm_uI r.1 164 18 (nI x) 168 k = _
        exact pn_uI_ne (by omega)
      · show bm_uI r'.1 168 (3 * N + 2) (nI x) 168 (3 * N + 2) = _
        exact pn_uI_hit rfl
    · rw [e1, d1]
      exact Or.inr ⟨(Ic, c.2), (Ir, r.2), rfl, rfl, zf, g1, gk_rr s1⟩
  · subst e
    rw [if_neg (show ¬ nI 2 = 0 by decide), if_neg (show ¬ nI 2 = 1 by decide), if_pos rfl, if_pos (by decide)]
    exact Or.inl ⟨c, r, p, 0, rfl, rfl, by omega, h, by omega, gc_rfl c, gk_rr (gr_rfl r), fun _ _ => rfl, fun q => absurd q (by decide), fun q => absurd q (by decide), fun q => absurd q (by decide)⟩
  · subst e
    rw [if_neg (show ¬ nI 3 = 0 by decide), if_neg (show ¬ nI 3 = 1 by decide), if_neg (show ¬ nI 3 = nI 2 by decide), if_pos (show nI 3 = 3 from rfl), if_pos (by decide)]
    exact Or.inl ⟨c, r, p, 0, rfl, rfl, by omega, h, by omega, gc_rfl c, gk_rr (gr_rfl r), fun _ _ => rfl, fun q => absurd q (by decide), fun q => absurd q (by decide), fun q => absurd q (by decide)⟩
  · subst e
    rw [if_neg (show ¬ nI 4 = 0 by decide), if_neg (show ¬ nI 4 = 1 by decide), if_neg (show ¬ nI 4 = nI 2 by decide), if_neg (show ¬ nI 4 = 3 by decide), if_pos rfl, if_pos (by decide)]
    exact Or.inl ⟨c, r, p, 0, rfl, rfl, by omega, h, by omega, gc_rfl c, gk_rr (gr_rfl r), fun _ _ => rfl, fun q => absurd q (by decide), fun q => absurd q (by decide), fun q => absurd q (by decide)⟩
  · subst e
    rw [if_neg (show ¬ nI 5 = 0 by decide), if_neg (show ¬ nI 5 = 1 by decide), if_neg (show ¬ nI 5 = nI 2 by decide), if_neg (show ¬ nI 5 = 3 by decide), if_neg (show ¬ nI 5 = nI 4 by decide), if_pos (show nI 5 = 5 from rfl), if_neg (show ¬ (decide (2 ≤ 5) && decide (5 ≤ 4)) = true by decide), if_neg (show ¬ nI 5 = 1 by decide), if_neg (show ¬ nI 5 = 0 by decide)]
    unfold f_X5_takeWord
    rcases zz_side h with ⟨x, hx, hk, e1, d1⟩ | ⟨Ic, Ir, e1, d1, zf, g1, s1⟩
    · obtain ⟨c', r', p', e2, d2, z, q0, g2, s2, f2, f3⟩ := go x x (by omega) (by omega)
      have e1' : f_X5_wordHere c.1 c.2.2 (nI 2) = some (nI (0 + x), c.1) := e1
      have d1' : f_X12_isOneOf r.1 r.2 17 (nI 4) = some (true, bm_uI r.1 164 18 (nI x)) := d1
      rw [e1', d1']
      simp only [Option.bind_some, ↓reduceIte]
      rw [if_neg (show ¬ nI (0 + x) = -1 by rw [pn_neg (by omega)]; exact not_false), pn_uI_hit rfl, if_neg (show ¬ nI 5 = 0 by decide), e2, d2]
      exact Or.inl ⟨c', r', p', 0 + x, rfl, rfl, by omega, z, q0, g2, s2, f2, fun q => absurd q (by decide), fun q => absurd q (by decide), fun _ => ⟨by rw [f3, Nat.zero_add], by omega⟩⟩
    · have e1' : f_X5_wordHere c.1 c.2.2 (nI 2) = some (-1, Ic) := e1
      have d1' : f_X12_isOneOf r.1 r.2 17 (nI 4) = some (false, Ir) := d1
      rw [e1', d1']
      exact Or.inr ⟨(Ic, c.2), (Ir, r.2), rfl, rfl, zf, g1, gk_rr s1⟩
end BO
