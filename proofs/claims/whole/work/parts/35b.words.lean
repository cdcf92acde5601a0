/-! words and names, in both -/
def rs_l : List Nat := [0, 24, 25, 27, 1, 5, 6, 7, 2, 3, 4, 8, 9, 10, 11, 12, 13, 15, 16, 17, 18, 14, 19, 20, 21, 22, 23, 26, 28, 29, 30, 31, 32, 33]
def rs_m : List Nat := [0, 4, 8, 9, 10, 5, 6, 7, 11, 12, 13, 14, 15, 16, 21, 17, 18, 19, 20, 22, 23, 24, 25, 26, 1, 2, 27, 3, 28, 29, 30, 31, 32, 33]
theorem rs_ok : ∀ k, k < 34 → nm_res.getD k 0 = nm_8 (wd_w (rs_l.getD k 0)) ∧ rs_l.getD k 0 < 34 := by decide +kernel
theorem rs_inv : ∀ i, i < 34 → rs_l.getD (rs_m.getD i 0) 0 = i ∧ rs_m.getD i 0 < 34 := by decide +kernel
theorem wd_inj : ∀ i, i < 34 → ∀ j, j < 34 → wd_w i = wd_w j → i = j := by decide +kernel
theorem pn_uI_self (I : bm_TI) (o k : Nat) : bm_uI I o k (I o k) = I := by
  funext a b
  unfold bm_uI
  by_cases h : a = o
  · rw [if_pos h]
    by_cases g : b = k
    · rw [if_pos g, h, g]
    · rw [if_neg g]
  · rw [if_neg h]
/-- no reserved word is it -/
def rs_a (J : bm_TJ) (m : Nat) : Bool := match m with
  | 0 => true
  | m + 1 => rs_a J m && !decide (J 164 17 = J 170 m)
theorem pq_isNameL {J : bm_TJ} {x : Bool} : ∀ (i j k : Nat), j + i = 34 → i < k → f_X12_isName_l16 J k (x && rs_a J j) (nI j) = some (x && rs_a J 34) := by
  intro i
  induction i with
  | zero =>
    intro j k hj hk
    obtain ⟨k, rfl⟩ : ∃ q, k = q + 1 := ⟨k - 1, by omega⟩
    have : j = 34 := by omega
    subst this
    rw [f_X12_isName_l16, if_pos (show (34 : Int32) ≤ nI 34 by decide)]
  | succ i ih =>
    intro j k hj hk
    obtain ⟨k, rfl⟩ : ∃ q, k = q + 1 := ⟨k - 1, by omega⟩
    have := ih (j + 1) k (by omega) (by omega)
    rw [f_X12_isName_l16, if_neg (show ¬ (34 : Int32) ≤ nI j from nI_ge (b := 34) (by omega) (by omega)), nI_1, if_pos (bm_ixk (by omega) (by omega)), nI_clamp (by omega)]
    simp only [pn_lgcmp]
    rw [rs_a] at this
    by_cases e : J 164 17 = J 170 j
    · rw [if_pos e]
      rw [decide_eq_true e] at this
      simp only [Bool.not_true, Bool.and_false] at this
      cases hx : (x && rs_a J j)
      · rw [if_neg (by decide)]; exact this
      · rw [if_pos rfl]; exact this
    · rw [if_neg e]
      rw [decide_eq_false e] at this
      simp only [Bool.not_false, Bool.and_true] at this
      cases hx : (x && rs_a J j)
      · rw [if_neg (by decide)]; rw [hx] at this; exact this
      · rw [if_pos rfl]; rw [hx] at this; exact this
theorem rs_aT {J : bm_TJ} : ∀ m, (∀ k, k < m → J 164 17 ≠ J 170 k) → rs_a J m = true := by
  intro m
  induction m with
  | zero => intro _; rfl
  | succ m ih => intro h; rw [rs_a, ih (fun k hk => h k (by omega)), decide_eq_false (h m (by omega))]; rfl
theorem rs_aF {J : bm_TJ} {k : Nat} : ∀ m, k < m → J 164 17 = J 170 k → rs_a J m = false := by
  intro m
  induction m with
  | zero => intro h; omega
  | succ m ih =>
    intro hk h
    rw [rs_a]
    by_cases e : k = m
    · subst e; rw [decide_eq_true h, Bool.not_true, Bool.and_false]
    · rw [ih (by omega) h, Bool.false_and]
section ZW
variable {n lim p : Nat} {B : Nat → Nat} {c : zc_C} {r : zc_R}
theorem zz_tok1 (h : zz_P n lim B p c r) : (r.1 164 11 = 1) = (4 ≤ (lx B n lim p).1) := by
  have hb := zz_lx h
  rw [h.2.2.2.2.2.2.1.2.2.1]
  have := tk_k4 (lx B n lim p)
  show (nI _ = nI 1) = _
  rw [pn_eqI (by omega) (by omega)]
  unfold tk_k
  refine propext ⟨fun q => ?_, fun q => ?_⟩
  · split at q
    · omega
    · split at q
      · omega
      · split at q
        · split at q <;> omega
        · split at q
          · omega
          · omega
  · rw [if_neg (by omega), if_neg (by omega), if_neg (by omega), if_neg (by omega)]
theorem zz_W (h : zz_P n lim B p c r) : c.2.2 3 8 = (if (lx B n lim p).1 = 4 then some (1000 + (lx B n lim p).2.1) else none) := h.2.2.2.2.2.1.2.2.2.2.1
theorem zz_iwq (h : zz_P n lim B p c r) : bm_iwq (c.2.2 3 8) = true := by
  rw [zz_W h]
  by_cases k : (lx B n lim p).1 = 4
  · have := (zz_lx h).2.2.1 k
    rw [if_pos k]
    show (decide _ && decide _) = true
    rw [decide_eq_true (by omega), decide_eq_true (by omega)]; rfl
  · rw [if_neg k]; rfl
theorem zz_isWc (h : zz_P n lim B p c r) (i : Nat) : (c.2.2 3 8 = some (1000 + i)) = ((lx B n lim p).1 = 4 ∧ (lx B n lim p).2.1 = i) := by
  rw [zz_W h]
  by_cases k : (lx B n lim p).1 = 4
  · rw [if_pos k]
    refine propext ⟨fun q => ⟨k, by injection q with q; omega⟩, fun q => by rw [q.2]⟩
  · rw [if_neg k]
    exact propext ⟨fun q => (by cases q), fun q => absurd q.1 k⟩
/-- the word of the reference, if it is one -/
theorem zz_w8 (h : zz_P n lim B p c r) (k : 4 ≤ (lx B n lim p).1) {i : Nat} (hi : i < 34) : (r.2 164 17 = nm_8 (wd_w i)) = ((lx B n lim p).1 = 4 ∧ (lx B n lim p).2.1 = i) := by
  have hb := zz_lx h
  rw [h.2.2.2.2.2.2.1.2.2.2.2.2 k]
  by_cases k4 : (lx B n lim p).1 = 4
  · rw [lx_w4 k4]
    refine propext ⟨fun q => ⟨k4, ?_⟩, fun q => by rw [q.2]⟩
    exact wd_inj _ (hb.2.2.1 k4) _ hi (nm_8_inj (wd_L _ (hb.2.2.1 k4)) (wd_L _ hi) q)
  · have k5 : (lx B n lim p).1 = 5 := by omega
    refine propext ⟨fun q => ?_, fun q => absurd q.1 k4⟩
    exact absurd (nm_8_inj (hb.2.2.2.1 k5).1 (wd_L _ hi) q).symm ((hb.2.2.2.1 k5).2 i hi)
theorem zz_isW (h : zz_P n lim B p c r) {i : Nat} (hi : i < 34) {w : Int64} (hw : w = nm_8 (wd_w i)) : f_X12_isWord r.1 r.2 w = some (decide ((lx B n lim p).1 = 4 ∧ (lx B n lim p).2.1 = i)) := by
  unfold f_X12_isWord
  simp only [zz_tok1 h, pn_lgcmp]
  by_cases k : 4 ≤ (lx B n lim p).1
  · rw [if_pos k]
    rw [hw]
    simp only [zz_w8 h k hi]
    by_cases e : (lx B n lim p).1 = 4 ∧ (lx B n lim p).2.1 = i
    · rw [if_pos e, decide_eq_true e]
    · rw [if_neg e, decide_eq_false e]
  · rw [if_neg k, decide_eq_false (by omega)]
theorem zz_isN (h : zz_P n lim B p c r) : f_X12_isName r.1 r.2 = some (decide ((lx B n lim p).1 = 5)) := by
  have hb := zz_lx h
  have hK : iv_K r.2 := h.2.2.2.2.2.2.2.2.2
  unfold f_X12_isName
  simp only [zz_tok1 h]
  by_cases k : 4 ≤ (lx B n lim p).1
  · rw [if_pos k]
    have e : f_X12_isName_l16 r.2 1000 true 0 = some (true && rs_a r.2 34) := pq_isNameL (x := true) 34 0 1000 (by omega) (by omega)
    rw [e]
    show some (true && rs_a r.2 34) = _
    by_cases k5 : (lx B n lim p).1 = 5
    · rw [decide_eq_true k5, rs_aT 34 (fun m hm => ?_)]; rfl
      rw [hK m hm, (rs_ok m hm).1]
      intro q
      rw [zz_w8 h k (rs_ok m hm).2] at q
      omega
    · have k4 : (lx B n lim p).1 = 4 := by omega
      have hv := hb.2.2.1 k4
      rw [decide_eq_false k5, rs_aF 34 (rs_inv _ hv).2 ?_]; rfl
      rw [hK _ (rs_inv _ hv).2, (rs_ok _ (rs_inv _ hv).2).1, (rs_inv _ hv).1, zz_w8 h k hv]
      exact ⟨k4, rfl⟩
  · rw [if_neg k]
    have e : f_X12_isName_l16 r.2 1000 false 0 = some (false && rs_a r.2 34) := pq_isNameL (x := false) 34 0 1000 (by omega) (by omega)
    rw [e, decide_eq_false (by omega)]; rfl
theorem zz_isNc (h : zz_P n lim B p c r) : (c.1 3 3 = 5) = ((lx B n lim p).1 = 5) := by
  have hb := zz_lx h
  rw [h.2.2.2.2.2.1.2.1]
  exact pn_eqI (b := 5) (by omega) (by omega)
theorem zz_end (h : zz_P n lim B p c r) : (c.1 3 3 = 0) = ((lx B n lim p).1 = 0) ∧ (r.1 164 11 = 0) = ((lx B n lim p).1 = 0) := by
  have hb := zz_lx h
  refine ⟨by rw [h.2.2.2.2.2.1.2.1]; exact pn_eqI (b := 0) (by omega) (by omega), ?_⟩
  rw [h.2.2.2.2.2.2.1.2.2.1]
  have := tk_k4 (lx B n lim p)
  show (nI _ = nI 0) = _
  rw [pn_eqI (by omega) (by omega)]
  unfold tk_k
  refine propext ⟨fun q => ?_, fun q => by rw [q]; rfl⟩
  split at q
  · assumption
  · split at q
    · omega
    · split at q
      · split at q <;> omega
      · split at q <;> omega
/-- names -/
theorem kc_manNamed {I : bm_TI} {J : bm_TJ} {a m : Nat} {x : Int64} (h : I a 10 = nI m) (hm : m ≤ 8) : f_X0_manNamed I J a x = some (pn_x (pt_fnd m (fun j => decide (J (a + 1) j = x)))) := by
  unfold f_X0_manNamed
  rw [pl_find (F := f_X0_manNamed_l2 I J a x) (n := m) (p := fun j => decide (J (a + 1) j = x)) (by omega)]
  · simp only [Option.bind_some]
    have := tf_le m (fun j => decide (J (a + 1) j = x))
    by_cases e : pt_fnd m (fun j => decide (J (a + 1) j = x)) = 0
    · rw [if_pos e, e]; rfl
    · rw [if_neg e, pn_xp (by omega)]
  · intro k
    rw [f_X0_manNamed_l2, h, if_pos (nI_le (Nat.le_refl _) (by omega))]
  · intro k j hj
    rw [f_X0_manNamed_l2, h, if_neg (nI_ge hj (by omega)), if_pos (bm_ixk (by omega) (by omega)), nI_clamp (by omega), nI_1]
    simp only [pn_lgcmp, decide_eq_true_eq]
theorem kc_orderNamed {I : bm_TI} {J : bm_TJ} {a m : Nat} {x : Int64} (h : I a 13 = nI m) (hm : m ≤ 7) : f_X0_orderNamed I J a x = some (pn_x (pt_fnd m (fun j => decide (J (a + 6) j = x)))) := by
  unfold f_X0_orderNamed
  rw [pl_find (F := f_X0_orderNamed_l2 I J a x) (n := m) (p := fun j => decide (J (a + 6) j = x)) (by omega)]
  · simp only [Option.bind_some]
    have := tf_le m (fun j => decide (J (a + 6) j = x))
    by_cases e : pt_fnd m (fun j => decide (J (a + 6) j = x)) = 0
    · rw [if_pos e, e]; rfl
    · rw [if_neg e, pn_xp (by omega)]
  · intro k
    rw [f_X0_orderNamed_l2, h, if_pos (nI_le (Nat.le_refl _) (by omega))]
  · intro k j hj
    rw [f_X0_orderNamed_l2, h, if_neg (nI_ge hj (by omega)), if_pos (bm_ixk (by omega) (by omega)), nI_clamp (by omega), nI_1]
    simp only [pn_lgcmp, decide_eq_true_eq]
theorem pq_find {J : bm_TJ} {fr m : Nat} (hm : fr + m ≤ 30) : f_X12_find J (nI fr) (nI m) = some (pn_x (pt_fnd m (fun j => decide (J 169 (fr + j) = J 164 17)))) := by
  unfold f_X12_find
  rw [pl_find (F := f_X12_find_l2 J (nI fr) (nI m)) (n := m) (p := fun j => decide (J 169 (fr + j) = J 164 17)) (by omega)]
  · simp only [Option.bind_some]
    have := tf_le m (fun j => decide (J 169 (fr + j) = J 164 17))
    by_cases e : pt_fnd m (fun j => decide (J 169 (fr + j) = J 164 17)) = 0
    · rw [if_pos e, e]; rfl
    · rw [if_neg e, pn_xp (by omega)]
  · intro k
    rw [f_X12_find_l2, if_pos (nI_le (Nat.le_refl _) (by omega))]
  · intro k j hj
    rw [f_X12_find_l2, if_neg (nI_ge hj (by omega)), nI_add, if_pos (bm_ixk (by omega) (by omega)), nI_clamp (by omega), nI_1]
    simp only [pn_lgcmp, decide_eq_true_eq]
/-- the same name is found in the same place -/
theorem zz_find (h : zz_P n lim B p c r) (k : (lx B n lim p).1 = 5) {N M : Nat → Int64} {m : Nat} (hN : ∀ j, j < m → nm_E (N j) (M j)) : pt_fnd m (fun j => decide (N j = c.2.1 3 7)) = pt_fnd m (fun j => decide (M j = r.2 164 17)) := by
  have hb := zz_lx h
  have hE : nm_E (c.2.1 3 7) (r.2 164 17) := ⟨(lx B n lim p).2.2.1, (hb.2.2.2.1 k).1, h.2.2.2.2.2.1.2.2.2.2.2.2 k, h.2.2.2.2.2.2.1.2.2.2.2.2 (by omega)⟩
  refine tf_congr (fun j hj => ?_)
  simp only [nm_E_iff (hN j hj) hE]
end ZW
