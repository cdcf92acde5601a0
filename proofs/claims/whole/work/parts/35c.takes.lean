/-! a man, an order, a new name, one of some words: in both -/
section ZX
variable {n lim p : Nat} {B : Nat → Nat} {c : zc_C} {r : zc_R}
theorem zz_18 (h : zz_P n lim B p c r) (v : Int32) : zz_P n lim B p c (bm_uI r.1 164 18 v, r.2) := zz_to h (fun _ _ _ _ => rfl) rfl rfl (fun o k ho => pn_uI_off (by omega)) rfl (fun _ => rfl)
theorem gr_18 (r : zc_R) (v : Int32) : gz_r r (bm_uI r.1 164 18 v, r.2) := ⟨fun o k ho => pn_uI_off (by omega), fun _ _ _ => rfl⟩
theorem pq_look (h : zz_P n lim B p c r) {fr m : Nat} (hm : fr + m ≤ 30) : ((lx B n lim p).1 = 5 → 0 < pt_fnd m (fun j => decide (r.2 169 (fr + j) = r.2 164 17)) → f_X12_looksAt r.1 r.2 (nI fr) (nI m) = some (true, bm_uI r.1 164 18 (nI (pt_fnd m (fun j => decide (r.2 169 (fr + j) = r.2 164 17)) - 1)))) ∧ (((lx B n lim p).1 = 5 → pt_fnd m (fun j => decide (r.2 169 (fr + j) = r.2 164 17)) = 0) → f_X12_looksAt r.1 r.2 (nI fr) (nI m) = if (lx B n lim p).1 = 5 then (f_X12_bad (bm_uI r.1 164 18 (-1)) 3).bind fun v => some (v.1, v.2) else (f_X12_bad r.1 1).bind fun v => some (v.1, v.2)) := by
  have hle := tf_le m (fun j => decide (r.2 169 (fr + j) = r.2 164 17))
  unfold f_X12_looksAt
  rw [zz_isN h, pq_find hm]
  simp only [Option.bind_some, decide_eq_true_eq]
  refine ⟨fun k f => ?_, fun f => ?_⟩
  · rw [if_pos k, pn_uI_hit rfl, if_pos (show (0 : Int32) ≤ pn_x _ by rw [pn_xp f]; exact nI_le (a := 0) (by omega) (by omega)), pn_xp f]
  · by_cases k : (lx B n lim p).1 = 5
    · rw [if_pos k, if_pos k, f k, pn_uI_hit rfl, pn_x0, if_neg (by decide)]
      rfl
    · rw [if_neg k, if_neg k]
theorem zz_man (h : zz_P n lim B p c r) {a fr m : Nat} (h10 : c.1 a 10 = nI m) (hm8 : m ≤ 8) (hf : fr + m ≤ 30) (hN : ∀ j, j < m → nm_E (c.2.1 (a + 1) j) (r.2 169 (fr + j))) : (∃ v, v < m ∧ (lx B n lim p).1 = 5 ∧ f_X5_manHere c.1 c.2.1 a = some (nI v, c.1) ∧ f_X12_looksAt r.1 r.2 (nI fr) (nI m) = some (true, bm_uI r.1 164 18 (nI v))) ∨ ∃ Ic Ir, f_X5_manHere c.1 c.2.1 a = some (-1, Ic) ∧ f_X12_looksAt r.1 r.2 (nI fr) (nI m) = some (false, Ir) ∧ zf_P (Ic, c.2) (Ir, r.2) ∧ gz_c c (Ic, c.2) ∧ gz_r r (Ir, r.2) := by
  have hle := tf_le m (fun j => decide (r.2 169 (fr + j) = r.2 164 17))
  have hl := pq_look h hf
  unfold f_X5_manHere
  rw [kc_manNamed h10 hm8]
  simp only [Option.bind_some, zz_isNc h]
  by_cases k : (lx B n lim p).1 = 5
  · rw [if_pos k, zz_find h k hN]
    by_cases f : pt_fnd m (fun j => decide (r.2 169 (fr + j) = r.2 164 17)) = 0
    · obtain ⟨Ic, Ir, e1, e2, e3, z, g1, g2⟩ := zz_bad (zz_18 h (-1)) (e := 3) (by omega) (by omega)
      have e2' : f_X5_refuseNumber c.1 3 = some (-1, Ic) := e2
      have e3' : f_X12_bad (bm_uI r.1 164 18 (-1)) 3 = some (false, Ir) := e3
      rw [hl.2 (fun _ => f), if_pos k, e3', f, pn_x0, if_pos rfl, e2']
      exact Or.inr ⟨Ic, Ir, rfl, rfl, z, g1, gr_tr (gr_18 r (-1)) g2⟩
    · rw [hl.1 k (by omega), pn_xp (by omega), if_neg (by rw [pn_neg (by omega)]; exact not_false)]
      exact Or.inl ⟨_, by omega, k, rfl, rfl⟩
  · obtain ⟨Ic, Ir, e1, e2, e3, z, g1, g2⟩ := zz_bad h (e := 1) (by omega) (by omega)
    have e2' : f_X5_refuseNumber c.1 1 = some (-1, Ic) := e2
    have e3' : f_X12_bad r.1 1 = some (false, Ir) := e3
    rw [if_neg k, hl.2 (fun q => absurd q k), if_neg k, e2', e3']
    exact Or.inr ⟨Ic, Ir, rfl, rfl, z, g1, g2⟩
theorem zz_ord (h : zz_P n lim B p c r) {fr m : Nat} (h13 : c.1 4 13 = nI m) (hm8 : m ≤ 7) (hf : fr + m ≤ 30) (hN : ∀ j, j < m → nm_E (c.2.1 10 j) (r.2 169 (fr + j))) : (∃ v, v < m ∧ (lx B n lim p).1 = 5 ∧ f_X5_orderHere c.1 c.2.1 = some (nI v, c.1) ∧ f_X12_looksAt r.1 r.2 (nI fr) (nI m) = some (true, bm_uI r.1 164 18 (nI v))) ∨ ∃ Ic Ir, f_X5_orderHere c.1 c.2.1 = some (-1, Ic) ∧ f_X12_looksAt r.1 r.2 (nI fr) (nI m) = some (false, Ir) ∧ zf_P (Ic, c.2) (Ir, r.2) ∧ gz_c c (Ic, c.2) ∧ gz_r r (Ir, r.2) := by
  have hle := tf_le m (fun j => decide (r.2 169 (fr + j) = r.2 164 17))
  have hl := pq_look h hf
  unfold f_X5_orderHere
  rw [kc_orderNamed h13 hm8]
  simp only [Option.bind_some, zz_isNc h]
  by_cases k : (lx B n lim p).1 = 5
  · rw [if_pos k, zz_find (N := fun j => c.2.1 (4 + 6) j) h k hN]
    by_cases f : pt_fnd m (fun j => decide (r.2 169 (fr + j) = r.2 164 17)) = 0
    · obtain ⟨Ic, Ir, e1, e2, e3, z, g1, g2⟩ := zz_bad (zz_18 h (-1)) (e := 3) (by omega) (by omega)
      have e2' : f_X5_refuseNumber c.1 3 = some (-1, Ic) := e2
      have e3' : f_X12_bad (bm_uI r.1 164 18 (-1)) 3 = some (false, Ir) := e3
      rw [hl.2 (fun _ => f), if_pos k, e3', f, pn_x0, if_pos rfl, e2']
      exact Or.inr ⟨Ic, Ir, rfl, rfl, z, g1, gr_tr (gr_18 r (-1)) g2⟩
    · rw [hl.1 k (by omega), pn_xp (by omega), if_neg (by rw [pn_neg (by omega)]; exact not_false)]
      exact Or.inl ⟨_, by omega, k, rfl, rfl⟩
  · obtain ⟨Ic, Ir, e1, e2, e3, z, g1, g2⟩ := zz_bad h (e := 1) (by omega) (by omega)
    have e2' : f_X5_refuseNumber c.1 1 = some (-1, Ic) := e2
    have e3' : f_X12_bad r.1 1 = some (false, Ir) := e3
    rw [if_neg k, hl.2 (fun q => absurd q k), if_neg k, e2', e3']
    exact Or.inr ⟨Ic, Ir, rfl, rfl, z, g1, g2⟩
/-- a new name, laid down at (b, j) and at 169, to -/
theorem zz_fresh (h : zz_P n lim B p c r) {m q b j to : Nat} (h10 : c.1 15 10 = nI m) (hm : m ≤ 8) (h13 : c.1 15 13 = nI q) (hq : q ≤ 7) (r0 : r.1 167 0 = nI m) (r1 : r.1 167 1 = nI q) (hN : ∀ j, j < m → nm_E (c.2.1 16 j) (r.2 169 (15 + j))) (hO : ∀ j, j < q → nm_E (c.2.1 21 j) (r.2 169 (23 + j))) (hb : b ≠ 3) (ht : to < 30) : (∃ c' r' p', f_X0_isNewName c.1 c.2.1 = some (true, c.1) ∧ nm_E (c.2.1 3 7) (r.2 164 17) ∧ f_X5_advance c.1 (bm_uJ c.2.1 b j (c.2.1 3 7)) c.2.2 = some c' ∧ f_X12_fresh r.1 r.2 (nI to) = some (true, r') ∧ zz_P n lim B p' c' r' ∧ p < p' ∧ gz_c (c.1, bm_uJ c.2.1 b j (c.2.1 3 7), c.2.2) c' ∧ gz_r (r.1, bm_uJ r.2 169 to (r.2 164 17)) r') ∨ ∃ Ic Ir, f_X0_isNewName c.1 c.2.1 = some (false, Ic) ∧ f_X12_fresh r.1 r.2 (nI to) = some (false, Ir, r.2) ∧ zf_P (Ic, c.2) (Ir, r.2) ∧ gz_c c (Ic, c.2) ∧ gz_r r (Ir, r.2) := by
  have hle := tf_le m (fun j => decide (r.2 169 (15 + j) = r.2 164 17))
  have hle2 := tf_le q (fun j => decide (r.2 169 (23 + j) = r.2 164 17))
  unfold f_X0_isNewName f_X12_fresh
  rw [kc_manNamed h10 hm, kc_orderNamed h13 hq, zz_isN h, r0, r1, show (15 : Int32) = nI 15 from rfl, show (23 : Int32) = nI 23 from rfl, pq_find (by omega), pq_find (by omega)]
  simp only [Option.bind_some, zz_isNc h, decide_eq_true_eq]
  obtain ⟨Ic, Ir, e1, e2, e3, z, g1, g2⟩ := zz_bad h (e := 3) (by omega) (by omega)
  have e1' : f_X5_refuse c.1 3 = some (false, Ic) := e1
  have e3' : f_X12_bad r.1 3 = some (false, Ir) := e3
  obtain ⟨Ic1, Ir1, d1, d2, d3, z1, y1, y2⟩ := zz_bad h (e := 1) (by omega) (by omega)
  have d1' : f_X5_refuse c.1 1 = some (false, Ic1) := d1
  have d3' : f_X12_bad r.1 1 = some (false, Ir1) := d3
  rw [e1', e3', d1', d3']
  by_cases k : (lx B n lim p).1 = 5
  · rw [if_pos k, if_pos k, zz_find (N := fun j => c.2.1 (15 + 1) j) h k hN, zz_find (N := fun j => c.2.1 (15 + 6) j) h k hO]
    simp only [Option.bind_some]
    have hx : ∀ x, x ≤ 8 → ((0 : Int32) ≤ pn_x x) = (0 < x) := fun x hx => pn_xge (by omega)
    have hy : ∀ x, x ≤ 8 → (pn_x x = -1) = (x = 0) := fun x hx => pn_xm1 (by omega)
    have hz : ∀ x, x ≤ 8 → (pn_x x < 0) = (x = 0) := fun x hx => pn_xlt (by omega)
    simp (disch := omega) only [hx, hy, hz]
    by_cases f : pt_fnd m (fun j => decide (r.2 169 (15 + j) = r.2 164 17)) = 0
    · rw [if_pos f, if_neg (show ¬ 0 < pt_fnd m (fun j => decide (r.2 169 (15 + j) = r.2 164 17)) by omega)]
      by_cases f2 : pt_fnd q (fun j => decide (r.2 169 (23 + j) = r.2 164 17)) = 0
      · rw [if_pos f2, if_pos f2, if_pos (bm_ixk ht (by omega)), nI_clamp (by omega)]
        have hbb := zz_lx h
        have u1 : bm_uJ r.2 169 to (r.2 164 17) 164 17 = r.2 164 17 := pn_uJ_off (Or.inl (by decide))
        have u2 : ∀ k, bm_uJ r.2 169 to (r.2 164 17) 170 k = r.2 170 k := fun k => pn_uJ_off (Or.inl (by decide))
        have h' : zz_P n lim B p (c.1, bm_uJ c.2.1 b j (c.2.1 3 7), c.2.2) (r.1, bm_uJ r.2 169 to (r.2 164 17)) := zz_to h (fun _ _ _ _ => rfl) (pn_uJ_off (by omega)) rfl (fun _ _ _ => rfl) u1 u2
        obtain ⟨c', r', p', a1, a2, zz, q1, q2, x1, x2, x3⟩ := zz_adv h'
        have a1' : f_X5_advance c.1 (bm_uJ c.2.1 b j (c.2.1 3 7)) c.2.2 = some c' := a1
        have a2' : f_X12_next r.1 (bm_uJ r.2 169 to (r.2 164 17)) = some r' := a2
        rw [a2']
        exact Or.inl ⟨c', r', p', rfl, ⟨(lx B n lim p).2.2.1, (hbb.2.2.2.1 k).1, h.2.2.2.2.2.1.2.2.2.2.2.2 k, h.2.2.2.2.2.2.1.2.2.2.2.2 (by omega)⟩, a1', rfl, zz, q2 (by omega), x1, x2⟩
      · rw [if_neg f2, if_neg f2]
        exact Or.inr ⟨Ic, Ir, rfl, rfl, z, g1, g2⟩
    · rw [if_neg f, if_pos (show 0 < pt_fnd m (fun j => decide (r.2 169 (15 + j) = r.2 164 17)) by omega)]
      exact Or.inr ⟨Ic, Ir, rfl, rfl, z, g1, g2⟩
  · rw [if_neg k, if_neg k]
    exact Or.inr ⟨Ic1, Ir1, rfl, rfl, z1, y1, y2⟩
/-- one of some words -/
theorem pq_oneL (h : zz_P n lim B p c r) {fa b m : Nat} (hfa : fa + m ≤ 34) (hp : ∀ k, k < m → rs_l.getD (fa + k) 0 = b + k ∧ b + k < 34) : ∀ (i j k : Nat), j + i = m → i < k → f_X12_isOneOf_l7 r.2 (nI fa) (nI m) k (nI j) (bm_uI r.1 164 18 (if (lx B n lim p).1 = 4 ∧ b ≤ (lx B n lim p).2.1 ∧ (lx B n lim p).2.1 < b + j then nI ((lx B n lim p).2.1 - b) else -1)) = some (bm_uI r.1 164 18 (if (lx B n lim p).1 = 4 ∧ b ≤ (lx B n lim p).2.1 ∧ (lx B n lim p).2.1 < b + m then nI ((lx B n lim p).2.1 - b) else -1)) := by
  have hK : iv_K r.2 := h.2.2.2.2.2.2.2.2.2
  have uu : ∀ (x y : Int32), bm_uI (bm_uI r.1 164 18 x) 164 18 y = bm_uI r.1 164 18 y := fun x y => by
    funext o k
    by_cases e : o = 164 ∧ k = 18
    · rw [e.1, pn_uI_hit e.2, pn_uI_hit e.2]
    · rw [pn_uI_off (by omega), pn_uI_off (by omega), pn_uI_off (by omega)]
  intro i
  induction i with
  | zero =>
    intro j k hj hk
    obtain ⟨k, rfl⟩ : ∃ q, k = q + 1 := ⟨k - 1, by omega⟩
    have : j = m := by omega
    subst this
    rw [f_X12_isOneOf_l7, if_pos (nI_le (Nat.le_refl _) (by omega))]
  | succ i ih =>
    intro j k hj hk
    obtain ⟨k, rfl⟩ : ∃ q, k = q + 1 := ⟨k - 1, by omega⟩
    have := ih (j + 1) k (by omega) (by omega)
    have h11 : ∀ x, bm_uI r.1 164 18 x 164 11 = r.1 164 11 := fun x => pn_uI_ne2 (by omega)
    rw [f_X12_isOneOf_l7, if_neg (nI_ge (by omega) (by omega)), nI_1, nI_add, if_pos (bm_ixk (by omega) (by omega)), nI_clamp (by omega), h11, pn_uI_hit rfl, uu, uu]
    simp only [zz_tok1 h, pn_lgcmp]
    rw [hK _ (by omega), (rs_ok _ (by omega)).1, (hp j (by omega)).1]
    by_cases k4 : 4 ≤ (lx B n lim p).1
    · rw [if_pos k4]
      simp only [zz_w8 h k4 (hp j (by omega)).2]
      by_cases e : (lx B n lim p).1 = 4 ∧ (lx B n lim p).2.1 = b + j
      · rw [if_pos e]
        rw [if_pos (show (lx B n lim p).1 = 4 ∧ b ≤ (lx B n lim p).2.1 ∧ (lx B n lim p).2.1 < b + (j + 1) by omega), show (lx B n lim p).2.1 - b = j by omega] at this
        rw [show (lx B n lim p).2.1 - b = j by omega]
        exact this
      · rw [if_neg e]
        have eq : ((lx B n lim p).1 = 4 ∧ b ≤ (lx B n lim p).2.1 ∧ (lx B n lim p).2.1 < b + (j + 1)) = ((lx B n lim p).1 = 4 ∧ b ≤ (lx B n lim p).2.1 ∧ (lx B n lim p).2.1 < b + j) := propext ⟨fun q => by omega, fun q => by omega⟩
        simp only [eq] at this
        exact this
    · rw [if_neg k4]
      have eq : ((lx B n lim p).1 = 4 ∧ b ≤ (lx B n lim p).2.1 ∧ (lx B n lim p).2.1 < b + (j + 1)) = ((lx B n lim p).1 = 4 ∧ b ≤ (lx B n lim p).2.1 ∧ (lx B n lim p).2.1 < b + j) := propext ⟨fun q => by omega, fun q => by omega⟩
      simp only [eq] at this
      exact this
theorem zz_one (h : zz_P n lim B p c r) {fa b m of so : Nat} (hfa : fa + m ≤ 34) (hp : ∀ k, k < m → rs_l.getD (fa + k) 0 = b + k ∧ b + k < 34) (hw : ∀ i, i < 34 → (bm_wso (1000 + i) = nI so) = (b ≤ i ∧ i < b + m)) (hv : ∀ k, k < m → bm_wnu (1000 + (b + k)) = nI (of + k)) : (∃ v, v < m ∧ (lx B n lim p).1 = 4 ∧ f_X5_wordHere c.1 c.2.2 (nI so) = some (nI (of + v), c.1) ∧ f_X12_isOneOf r.1 r.2 (nI fa) (nI m) = some (true, bm_uI r.1 164 18 (nI v))) ∨ ∃ Ic Ir, f_X5_wordHere c.1 c.2.2 (nI so) = some (-1, Ic) ∧ f_X12_isOneOf r.1 r.2 (nI fa) (nI m) = some (false, Ir) ∧ zf_P (Ic, c.2) (Ir, r.2) ∧ gz_c c (Ic, c.2) ∧ gz_r r (Ir, r.2) := by
  have hb := zz_lx h
  have hl : f_X12_isOneOf_l7 r.2 (nI fa) (nI m) 1000 0 (bm_uI r.1 164 18 (-1)) = some (bm_uI r.1 164 18 (if (lx B n lim p).1 = 4 ∧ b ≤ (lx B n lim p).2.1 ∧ (lx B n lim p).2.1 < b + m then nI ((lx B n lim p).2.1 - b) else -1)) := by
    have := pq_oneL h hfa hp m 0 1000 (by omega) (by omega)
    rw [if_neg (show ¬ ((lx B n lim p).1 = 4 ∧ b ≤ (lx B n lim p).2.1 ∧ (lx B n lim p).2.1 < b + 0) by omega)] at this
    exact this
  unfold f_X5_wordHere f_X12_isOneOf
  rw [hl]
  simp only [Option.bind_some]
  rw [pn_uI_hit rfl, zz_W h]
  obtain ⟨Ic, Ir, e1, e2, e3, z, g1, g2⟩ := zz_bad (zz_18 h (-1)) (e := 1) (by omega) (by omega)
  have e2' : f_X5_refuseNumber c.1 1 = some (-1, Ic) := e2
  have e3' : f_X12_bad (bm_uI r.1 164 18 (-1)) 1 = some (false, Ir) := e3
  rw [e2']
  by_cases k4 : (lx B n lim p).1 = 4
  · have h34 := hb.2.2.1 k4
    rw [if_pos k4, if_neg (by simp)]
    simp only [Option.bind_some]
    have hiw : bm_iw (1000 + (lx B n lim p).2.1) = true := by
      show (decide _ && decide _) = true
      rw [decide_eq_true (by omega), decide_eq_true (by omega)]; rfl
    rw [if_pos hiw]
    simp only [hw _ h34]
    by_cases e : b ≤ (lx B n lim p).2.1 ∧ (lx B n lim p).2.1 < b + m
    · have ev := hv ((lx B n lim p).2.1 - b) (by omega)
      rw [show b + ((lx B n lim p).2.1 - b) = (lx B n lim p).2.1 by omega] at ev
      rw [if_pos e, if_pos hiw, ev, if_pos (show (lx B n lim p).1 = 4 ∧ b ≤ (lx B n lim p).2.1 ∧ (lx B n lim p).2.1 < b + m from ⟨k4, e⟩), if_pos (show (0 : Int32) ≤ nI ((lx B n lim p).2.1 - b) from nI_le (a := 0) (by omega) (by omega))]
      exact Or.inl ⟨_, by omega, k4, rfl, rfl⟩
    · rw [if_neg e, if_neg (show ¬ ((lx B n lim p).1 = 4 ∧ b ≤ (lx B n lim p).2.1 ∧ (lx B n lim p).2.1 < b + m) from fun q => e q.2), if_neg (by decide), e3']
      exact Or.inr ⟨Ic, Ir, rfl, rfl, z, g1, gr_tr (gr_18 r (-1)) g2⟩
  · rw [if_neg k4, if_pos rfl, if_neg (show ¬ ((lx B n lim p).1 = 4 ∧ b ≤ (lx B n lim p).2.1 ∧ (lx B n lim p).2.1 < b + m) from fun q => k4 q.1), if_neg (by decide), e3']
    exact Or.inr ⟨Ic, Ir, rfl, rfl, z, g1, gr_tr (gr_18 r (-1)) g2⟩
end ZX
