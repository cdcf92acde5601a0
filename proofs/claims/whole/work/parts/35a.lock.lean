/-! both read the same text: what they have in common -/
abbrev zc_C : Type := bm_TI × bm_TJ × bm_TR
abbrev zc_R : Type := bm_TI × bm_TJ
def gz_c (c c' : zc_C) : Prop := (∀ o k, (o ≠ 3 ∨ k < 2 ∨ 10 < k) → c'.1 o k = c.1 o k) ∧ fk_J c.2.1 c'.2.1 ∧ fk_W c.2.2 c'.2.2
def gz_r (r r' : zc_R) : Prop := (∀ o k, (o ≠ 164 ∨ k < 4 ∨ (4 < k ∧ k < 11) ∨ k = 17 ∨ 18 < k) → r'.1 o k = r.1 o k) ∧ rk_J r.2 r'.2
theorem gc_rfl (c : zc_C) : gz_c c c := ⟨fun _ _ _ => rfl, fun _ _ _ => rfl, fun _ _ _ => rfl⟩
theorem gr_rfl (r : zc_R) : gz_r r r := ⟨fun _ _ _ => rfl, fun _ _ _ => rfl⟩
theorem gc_tr {a b c : zc_C} (h : gz_c a b) (g : gz_c b c) : gz_c a c := ⟨fun o k ho => (g.1 o k ho).trans (h.1 o k ho), fun o k ho => (g.2.1 o k ho).trans (h.2.1 o k ho), fun o k ho => (g.2.2 o k ho).trans (h.2.2 o k ho)⟩
theorem gr_tr {a b c : zc_R} (h : gz_r a b) (g : gz_r b c) : gz_r a c := ⟨fun o k ho => (g.1 o k ho).trans (h.1 o k ho), fun o k ho => (g.2 o k ho).trans (h.2 o k ho)⟩
def zz_P (n lim : Nat) (B : Nat → Nat) (p : Nat) (c : zc_C) (r : zc_R) : Prop := n ≤ 940 ∧ lim ≤ 940 ∧ p ≤ n ∧ tk_c c.1 n lim B ∧ tk_d r.1 n lim B ∧ tk_K c.1 c.2.1 c.2.2 (lx B n lim p) ∧ tk_Q r.1 r.2 (lx B n lim p) ∧ c.1 3 9 = 0 ∧ r.1 164 15 = 0 ∧ iv_K r.2
def zf_P (c : zc_C) (r : zc_R) : Prop := ∃ e pl, 1 ≤ e ∧ e ≤ 4 ∧ pl ≤ 940 ∧ c.1 3 9 = nI e ∧ c.1 3 10 = nI pl ∧ r.1 164 15 = nI e ∧ r.1 164 16 = nI pl
theorem lx_w4 {B : Nat → Nat} {n lim p : Nat} (h : (lx B n lim p).1 = 4) : (lx B n lim p).2.2.1 = wd_w (lx B n lim p).2.1 := by
  unfold lx at h ⊢
  split at h
  · cases h
  · rename_i c1
    rw [if_neg c1]
    split at h
    · cases h
    · rename_i c2
      rw [if_neg c2]
      split at h
      · rename_i c3
        rw [if_pos c3]
        split at h
        · rename_i c4
          rw [if_pos c4]
          split at h
          · cases h
          · rename_i c5
            rw [if_neg c5]
            show lx_l _ _ _ = wd_w (wd_f _ - 1)
            generalize hq : wd_f (lx_l B (lx_e lc_b B n p) (lx_e lc_a B n (lx_e lc_b B n p) - lx_e lc_b B n p)) = q at c5 ⊢
            have := (tf_some (j := q - 1) (show pt_fnd 34 (fun i => decide (wd_w i = lx_l B (lx_e lc_b B n p) (lx_e lc_a B n (lx_e lc_b B n p) - lx_e lc_b B n p))) = q - 1 + 1 by rw [show q - 1 + 1 = q by omega]; exact hq)).2
            exact (of_decide_eq_true this).symm
        · split at h <;> cases h
      · cases h
theorem lx_gr {B : Nat → Nat} {n lim p : Nat} (hp : p ≤ n) (h : 2 ≤ (lx B n lim p).1) : p < (lx B n lim p).2.2.2.2 := by
  have h1 := le_bd (pr := lc_b) (B := B) (n := n) (n - p) p (by omega)
  unfold lx at h ⊢
  generalize hs : lx_e lc_b B n p = s at h1 h ⊢
  split at h
  · exact absurd (show 2 ≤ 1 from h) (by decide)
  · rename_i c1
    rw [if_neg c1]
    split at h
    · exact absurd (show 2 ≤ 0 from h) (by decide)
    · rename_i c2
      rw [if_neg c2]
      have h2 := le_bd (pr := lc_a) (B := B) (n := n) (n - s) s (by omega)
      split at h
      · rename_i c3
        rw [if_pos c3]
        have hes : s < lx_e lc_a B n s := by
          rcases Nat.lt_or_ge s (lx_e lc_a B n s) with h | h
          · exact h
          · have e1 : lx_e lc_a B n s = s := by omega
            have := h2.2.2.2 (by omega)
            rw [e1, c3] at this; cases this
        generalize lx_e lc_a B n s = e at hes h
        split at h
        · rename_i c4
          rw [if_pos c4]
          split at h
          · rename_i c5
            rw [if_pos c5]
            show p < e; omega
          · rename_i c5
            rw [if_neg c5]
            show p < e; omega
        · rename_i c4
          rw [if_neg c4]
          split at h
          · rename_i c5
            rw [if_pos c5]
            show p < e; omega
          · exact absurd (show 2 ≤ 1 from h) (by decide)
      · rename_i c3
        rw [if_neg c3]
        show p < s + 1; omega
theorem tk_k4 (r : Nat × Nat × List Nat × Nat × Nat) : tk_k r ≤ 4 := by
  unfold tk_k
  by_cases h0 : r.1 = 0
  · rw [if_pos h0]; omega
  · rw [if_neg h0]
    by_cases h1 : r.1 = 1
    · rw [if_pos h1]; omega
    · rw [if_neg h1]
      by_cases h2 : r.1 = 2
      · rw [if_pos h2]
        cases tk_s r.2.1
        · show 4 ≤ 4; omega
        · show 3 ≤ 4; omega
      · rw [if_neg h2]
        by_cases h3 : r.1 = 3
        · rw [if_pos h3]; omega
        · rw [if_neg h3]; omega
section ZZ
variable {n lim p : Nat} {B : Nat → Nat} {c : zc_C} {r : zc_R}
theorem zz_to {c2 : zc_C} {r2 : zc_R} (h : zz_P n lim B p c r) (h1 : ∀ o k, 1 ≤ o → o ≤ 3 → c2.1 o k = c.1 o k) (h2 : c2.2.1 3 7 = c.2.1 3 7) (h3 : c2.2.2 3 8 = c.2.2 3 8) (h4 : ∀ o k, (o = 164 ∧ (k ≤ 5 ∨ (11 ≤ k ∧ k ≤ 15))) ∨ o = 165 → r2.1 o k = r.1 o k) (h5 : r2.2 164 17 = r.2 164 17) (h6 : ∀ k, r2.2 170 k = r.2 170 k) : zz_P n lim B p c2 r2 := by
  obtain ⟨a1, a2, a3, a4, a5, a6, a7, a8, a9, a10⟩ := h
  refine ⟨a1, a2, a3, ⟨by rw [h1 1 1 (by omega) (by omega)]; exact a4.1, fun k hk => by rw [h1 2 k (by omega) (by omega)]; exact a4.2.1 k hk, by rw [h1 3 1 (by omega) (by omega)]; exact a4.2.2⟩, ⟨by rw [h4 164 3 (by omega)]; exact a5.1, fun k hk => by rw [h4 165 k (by omega)]; exact a5.2.1 k hk, by rw [h4 164 5 (by omega)]; exact a5.2.2⟩, ?_, ?_, by rw [h1 3 9 (by omega) (by omega)]; exact a8, by rw [h4 164 15 (by omega)]; exact a9, fun k hk => by rw [h6]; exact a10 k hk⟩
  · obtain ⟨b1, b2, b3, b4, b5, b6, b7⟩ := a6
    exact ⟨by rw [h1 3 2 (by omega) (by omega)]; exact b1, by rw [h1 3 3 (by omega) (by omega)]; exact b2, by rw [h1 3 4 (by omega) (by omega)]; exact b3, by rw [h1 3 6 (by omega) (by omega)]; exact b4, by rw [h3]; exact b5, fun hh => by rw [h1 3 5 (by omega) (by omega)]; exact b6 hh, fun hh => by rw [h2]; exact b7 hh⟩
  · obtain ⟨b1, b2, b3, b4, b5, b6⟩ := a7
    exact ⟨by rw [h4 164 4 (by omega)]; exact b1, by rw [h4 164 12 (by omega)]; exact b2, by rw [h4 164 11 (by omega)]; exact b3, fun hh => by rw [h4 164 14 (by omega)]; exact b4 hh, fun hh => by rw [h4 164 14 (by omega)]; exact b5 hh, fun hh => by rw [h5]; exact b6 hh⟩
theorem zz_lx (h : zz_P n lim B p c r) : (lx B n lim p).1 ≤ 5 ∧ (lx B n lim p).2.1 < 1000 ∧ ((lx B n lim p).1 = 4 → (lx B n lim p).2.1 < 34) ∧ ((lx B n lim p).1 = 5 → nm_L (lx B n lim p).2.2.1 ∧ ∀ i, i < 34 → wd_w i ≠ (lx B n lim p).2.2.1) ∧ (lx B n lim p).2.2.2.1 ≤ 940 ∧ (lx B n lim p).2.2.2.2 ≤ n ∧ p ≤ (lx B n lim p).2.2.2.2 := lx_ok h.1 h.2.1 h.2.2.1 (fun k hk => (h.2.2.2.1.2.1 k hk).1)
theorem zz_adv (h : zz_P n lim B p c r) : ∃ c' r' p', f_X5_advance c.1 c.2.1 c.2.2 = some c' ∧ f_X12_next r.1 r.2 = some r' ∧ zz_P n lim B p' c' r' ∧ p ≤ p' ∧ (2 ≤ (lx B n lim p).1 → p < p') ∧ gz_c c c' ∧ gz_r r r' ∧ r'.1 164 18 = r.1 164 18 := by
  have hb := zz_lx h
  obtain ⟨a1, a2, a3, a4, a5, a6, a7, a8, a9, a10⟩ := h
  obtain ⟨I', J', W', e1, t1, f1, g1, w1⟩ := kc_advance (J := c.2.1) (W := c.2.2) a1 a2 a4 hb.2.2.2.2.2.1 a6.1
  obtain ⟨I2, J2, e2, t2, f2, g2⟩ := pq_next (J := r.2) a1 a2 a5 hb.2.2.2.2.2.1 a7.1
  refine ⟨(I', J', W'), (I2, J2), (lx B n lim p).2.2.2.2, e1, e2, ⟨a1, a2, hb.2.2.2.2.2.1, ⟨by dsimp only; rw [f1 1 1 (by omega)]; exact a4.1, fun k hk => by dsimp only; rw [f1 2 k (by omega)]; exact a4.2.1 k hk, by dsimp only; rw [f1 3 1 (by omega)]; exact a4.2.2⟩, ⟨by dsimp only; rw [f2 164 3 (by omega)]; exact a5.1, fun k hk => by dsimp only; rw [f2 165 k (by omega)]; exact a5.2.1 k hk, by dsimp only; rw [f2 164 5 (by omega)]; exact a5.2.2⟩, t1, t2, by dsimp only; rw [f1 3 9 (by omega)]; exact a8, by dsimp only; rw [f2 164 15 (by omega)]; exact a9, fun k hk => by dsimp only; rw [g2 170 k (by omega)]; exact a10 k hk⟩, hb.2.2.2.2.2.2, lx_gr a3, ⟨fun o k ho => f1 o k (by omega), g1, w1⟩, ⟨fun o k ho => f2 o k (by omega), g2⟩, f2 164 18 (by omega)⟩
theorem zz_bad (h : zz_P n lim B p c r) {e : Nat} (h1 : 1 ≤ e) (h4 : e ≤ 4) : ∃ Ic Ir, f_X5_refuse c.1 (nI e) = some (false, Ic) ∧ f_X5_refuseNumber c.1 (nI e) = some (-1, Ic) ∧ f_X12_bad r.1 (nI e) = some (false, Ir) ∧ zf_P (Ic, c.2) (Ir, r.2) ∧ gz_c c (Ic, c.2) ∧ gz_r r (Ir, r.2) := by
  have hb := zz_lx h
  obtain ⟨a1, a2, a3, a4, a5, a6, a7, a8, a9, a10⟩ := h
  refine ⟨_, _, rfl, rfl, rfl, ⟨e, (lx B n lim p).2.2.2.1, h1, h4, hb.2.2.2.2.1, ?_, ?_, ?_, ?_⟩, ⟨fun o k ho => ?_, fun _ _ _ => rfl, fun _ _ _ => rfl⟩, ⟨fun o k ho => ?_, fun _ _ _ => rfl⟩⟩
  · show bm_uI (bm_uI c.1 3 9 (nI e)) 3 10 (bm_uI c.1 3 9 (nI e) 3 4) 3 9 = _
    rw [pn_uI_ne2 (by omega), pn_uI_hit rfl]
  · show bm_uI (bm_uI c.1 3 9 (nI e)) 3 10 (bm_uI c.1 3 9 (nI e) 3 4) 3 10 = _
    rw [pn_uI_hit rfl, pn_uI_ne2 (by omega)]; exact a6.2.2.1
  · show bm_uI (bm_uI r.1 164 15 (nI e)) 164 16 (bm_uI r.1 164 15 (nI e) 164 12) 164 15 = _
    rw [pn_uI_ne2 (by omega), pn_uI_hit rfl]
  · show bm_uI (bm_uI r.1 164 15 (nI e)) 164 16 (bm_uI r.1 164 15 (nI e) 164 12) 164 16 = _
    rw [pn_uI_hit rfl, pn_uI_ne2 (by omega)]; exact a7.2.1
  · show bm_uI (bm_uI c.1 3 9 (nI e)) 3 10 (bm_uI c.1 3 9 (nI e) 3 4) o k = _
    rw [pn_uI_off (by omega), pn_uI_off (by omega)]
  · show bm_uI (bm_uI r.1 164 15 (nI e)) 164 16 (bm_uI r.1 164 15 (nI e) 164 12) o k = _
    rw [pn_uI_off (by omega), pn_uI_off (by omega)]
/-- a number -/
theorem zz_num (h : zz_P n lim B p c r) {lo hi : Nat} (hh : hi < 1000) (hl : lo ≤ hi) : (∃ v c' r' p', lo ≤ v ∧ v ≤ hi ∧ f_X5_takeNumber c.1 c.2.1 c.2.2 (nI lo) (nI hi) = some (nI v, c') ∧ f_X12_takes r.1 r.2 (nI lo) (nI hi) = some (true, r') ∧ zz_P n lim B p' c' r' ∧ p < p' ∧ r'.1 164 18 = nI v ∧ gz_c c c' ∧ gz_r r r') ∨ ∃ c' r', f_X5_takeNumber c.1 c.2.1 c.2.2 (nI lo) (nI hi) = some (-1, c') ∧ f_X12_takes r.1 r.2 (nI lo) (nI hi) = some (false, r') ∧ zf_P c' r' ∧ gz_c c c' ∧ gz_r r r' := by
  have hb := zz_lx h
  have k3 : (c.1 3 3 = 3) = ((lx B n lim p).1 = 3) := by rw [h.2.2.2.2.2.1.2.1]; exact pn_eqI (b := 3) (by omega) (by omega)
  have k2 : (r.1 164 11 = 2) = ((lx B n lim p).1 = 3) := by
    rw [h.2.2.2.2.2.2.1.2.2.1]
    have := tk_k4 (lx B n lim p)
    show (nI _ = nI 2) = _
    rw [pn_eqI (by omega) (by omega)]
    unfold tk_k
    refine propext ⟨fun q => ?_, fun q => ?_⟩
    · split at q
      · omega
      · split at q
        · omega
        · split at q
          · split at q <;> omega
          · split at q
            · assumption
            · omega
    · rw [q]; rfl
  unfold f_X5_takeNumber f_X5_numberHere f_X12_takes
  by_cases hk : (lx B n lim p).1 = 3
  · have hc5 := h.2.2.2.2.2.1.2.2.2.2.2.1 hk
    have hr14 := h.2.2.2.2.2.2.1.2.2.2.2.1 hk
    rw [if_pos (show c.1 3 3 = 3 by rw [k3]; exact hk), if_pos (show r.1 164 11 = 2 by rw [k2]; exact hk), hc5, hr14, pq_inN (by omega) (by omega) (by omega)]
    simp (disch := omega) only [pn_ltI, pn_leI]
    generalize hv : (lx B n lim p).2.1 = v at hb hc5 hr14 ⊢
    by_cases h1 : lo ≤ v ∧ v ≤ hi
    · have h' : zz_P n lim B p c (bm_uI r.1 164 18 (nI v), r.2) := zz_to h (fun _ _ _ _ => rfl) rfl rfl (fun o k ho => pn_uI_off (by omega)) rfl (fun _ => rfl)
      obtain ⟨c', r', p', e1, e2, z, q1, q2, g1, g2, g3⟩ := zz_adv h'
      refine Or.inl ⟨v, c', r', p', h1.1, h1.2, ?_, ?_, z, q2 (by omega), ?_, g1, gr_tr (b := (bm_uI r.1 164 18 (nI v), r.2)) ⟨fun o k ho => pn_uI_off (by omega), fun _ _ _ => rfl⟩ g2⟩
      · rw [if_neg (by omega), if_pos h1.2]
        simp only [Option.bind_some]
        rw [if_neg (show ¬ nI v = -1 by rw [pn_neg (by omega)]; exact not_false), e1]; rfl
      · rw [decide_eq_true h1.1, decide_eq_true h1.2, if_pos (show (true && true) = true from rfl)]
        have e2' : f_X12_next (bm_uI r.1 164 18 (nI v)) r.2 = some r' := e2
        rw [e2']; rfl
      · rw [g3]; show bm_uI r.1 164 18 (nI v) 164 18 = nI v; exact pn_uI_hit rfl
    · obtain ⟨Ic, Ir, e1, e2, e3, z, g1, g2⟩ := zz_bad h (e := 2) (by omega) (by omega)
      have e2' : f_X5_refuseNumber c.1 2 = some (-1, Ic) := e2
      have e3' : f_X12_bad r.1 2 = some (false, Ir) := e3
      refine Or.inr ⟨(Ic, c.2), (Ir, r.2), ?_, ?_, z, g1, g2⟩
      · rw [e2']
        by_cases q1 : v < lo
        · rw [if_pos q1]; rfl
        · rw [if_neg q1, if_neg (by omega)]; rfl
      · rw [e3', if_neg (by
          intro hx
          rw [Bool.and_eq_true, decide_eq_true_eq, decide_eq_true_eq] at hx
          exact h1 hx)]; rfl
  · obtain ⟨Ic, Ir, e1, e2, e3, z, g1, g2⟩ := zz_bad h (e := 1) (by omega) (by omega)
    have e2' : f_X5_refuseNumber c.1 1 = some (-1, Ic) := e2
    have e3' : f_X12_bad r.1 1 = some (false, Ir) := e3
    rw [if_neg (show ¬ c.1 3 3 = 3 by rw [k3]; exact hk), if_neg (show ¬ r.1 164 11 = 2 by rw [k2]; exact hk), e2', e3']
    exact Or.inr ⟨(Ic, c.2), (Ir, r.2), rfl, rfl, z, g1, g2⟩
/-- a sign -/
theorem zz_sign (h : zz_P n lim B p c r) {s : Nat} (hs : s < 256) (ht : tk_s s = true) : (∃ c' r' p', f_X5_takeSign c.1 c.2.1 c.2.2 (nI s) = some (true, c') ∧ f_X12_sign r.1 r.2 (nI s) = some (true, r') ∧ zz_P n lim B p' c' r' ∧ p < p' ∧ gz_c c c' ∧ gz_r r r') ∨ ∃ c' r', f_X5_takeSign c.1 c.2.1 c.2.2 (nI s) = some (false, c') ∧ f_X12_sign r.1 r.2 (nI s) = some (false, r') ∧ zf_P c' r' ∧ gz_c c c' ∧ gz_r r r' := by
  have hb := zz_lx h
  have k3 : (c.1 3 3 = 2) = ((lx B n lim p).1 = 2) := by rw [h.2.2.2.2.2.1.2.1]; exact pn_eqI (b := 2) (by omega) (by omega)
  have k2 : (r.1 164 11 = 3) = ((lx B n lim p).1 = 2 ∧ tk_s (lx B n lim p).2.1 = true) := by
    rw [h.2.2.2.2.2.2.1.2.2.1]
    have := tk_k4 (lx B n lim p)
    show (nI _ = nI 3) = _
    rw [pn_eqI (by omega) (by omega)]
    unfold tk_k
    refine propext ⟨fun q => ?_, fun q => ?_⟩
    · split at q
      · omega
      · split at q
        · omega
        · split at q
          · split at q
            · exact ⟨by assumption, by assumption⟩
            · omega
          · split at q <;> omega
    · rw [q.1, q.2]; rfl
  obtain ⟨Ic, Ir, e1, e2, e3, z, g1, g2⟩ := zz_bad h (e := 1) (by omega) (by omega)
  have e1' : f_X5_refuse c.1 1 = some (false, Ic) := e1
  have e3' : f_X12_bad r.1 1 = some (false, Ir) := e3
  unfold f_X5_takeSign f_X12_sign f_X12_isSign
  rw [e1', e3']
  by_cases hk : (lx B n lim p).1 = 2
  · have hc6 := h.2.2.2.2.2.1.2.2.2.1
    rw [if_pos hk] at hc6
    have hr14 := h.2.2.2.2.2.2.1.2.2.2.1 hk
    rw [if_pos (show c.1 3 3 = 2 by rw [k3]; exact hk), hc6, hr14]
    simp (disch := omega) only [pn_eqI]
    by_cases hv : (lx B n lim p).2.1 = s
    · rw [if_pos hv, if_pos (show r.1 164 11 = 3 by rw [k2]; exact ⟨hk, by rw [hv]; exact ht⟩), if_pos hv]
      obtain ⟨c', r', p', d1, d2, z, q1, q2, y1, y2, y3⟩ := zz_adv h
      refine Or.inl ⟨c', r', p', ?_, ?_, z, q2 (by omega), y1, y2⟩
      · rw [d1]; rfl
      · simp only [Option.bind_some, ↓reduceIte]; rw [d2]; rfl
    · rw [if_neg hv]
      refine Or.inr ⟨(Ic, c.2), (Ir, r.2), rfl, ?_, z, g1, g2⟩
      by_cases q : r.1 164 11 = 3
      · rw [if_pos q, if_neg hv]; rfl
      · rw [if_neg q]; rfl
  · rw [if_neg (show ¬ c.1 3 3 = 2 by rw [k3]; exact hk), if_neg (show ¬ r.1 164 11 = 3 by rw [k2]; exact fun q => hk q.1)]
    exact Or.inr ⟨(Ic, c.2), (Ir, r.2), rfl, rfl, z, g1, g2⟩
end ZZ
