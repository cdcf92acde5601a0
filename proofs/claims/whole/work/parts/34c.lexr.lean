/-! the reference's tokens -/
def tk_d (I : bm_TI) (n lim : Nat) (B : Nat → Nat) : Prop := I 164 3 = nI n ∧ (∀ k, k < n → B k < 256 ∧ I 165 k &&& 255 = nI (B k)) ∧ I 164 5 = nI lim
def tk_s (v : Nat) : Bool := decide (v = 59) || decide (v = 40) || decide (v = 41) || (decide (60 ≤ v) && decide (v ≤ 62))
def tk_k (r : Nat × Nat × List Nat × Nat × Nat) : Nat := if r.1 = 0 then 0 else if r.1 = 1 then 4 else if r.1 = 2 then (if tk_s r.2.1 = true then 3 else 4) else if r.1 = 3 then 2 else 1
def tk_Q (I : bm_TI) (J : bm_TJ) (r : Nat × Nat × List Nat × Nat × Nat) : Prop := I 164 4 = nI r.2.2.2.2 ∧ I 164 12 = nI r.2.2.2.1 ∧ I 164 11 = nI (tk_k r) ∧ (r.1 = 2 → I 164 14 = nI r.2.1) ∧ (r.1 = 3 → I 164 14 = nI r.2.1) ∧ (4 ≤ r.1 → J 164 17 = nm_8 r.2.2.1)
def rk_I (I I' : bm_TI) : Prop := ∀ o k, (o ≠ 164 ∨ (k ≠ 4 ∧ k ≠ 11 ∧ k ≠ 12 ∧ k ≠ 13 ∧ k ≠ 14)) → I' o k = I o k
def rk_J (J J' : bm_TJ) : Prop := ∀ o k, (o ≠ 164 ∨ k ≠ 17) → J' o k = J o k
section LR
variable {I : bm_TI} {J : bm_TJ} {n lim : Nat} {B : Nat → Nat}
theorem pq_peekA (hc : tk_d I n lim B) (hn : n ≤ 940) {I1 : bm_TI} {p : Nat} (h3 : I1 164 3 = I 164 3) (h5 : I1 165 = I 165) (h4 : I1 164 4 = nI p) (hp : p < n) : f_X12_peek I1 = some (nI (B p)) := by
  unfold f_X12_peek
  rw [h3, hc.1, h4, if_neg (nI_ge hp (by omega)), if_pos (bm_ixk (by omega) (by omega)), nI_clamp (by omega), h5, (hc.2.1 p hp).2]
theorem pq_peekB (hc : tk_d I n lim B) (hn : n ≤ 940) {I1 : bm_TI} {p : Nat} (h3 : I1 164 3 = I 164 3) (h4 : I1 164 4 = nI p) (hp : n ≤ p) (hq : p ≤ 1000) : f_X12_peek I1 = some (-1) := by
  unfold f_X12_peek
  rw [h3, hc.1, h4, if_pos (nI_le hp (by omega))]
theorem pq_skip (hn : n ≤ 940) (hc : tk_d I n lim B) : ∀ (i p k : Nat) (I1 : bm_TI), p + i = n → i < k → I1 164 4 = nI p → (∀ o k, (o ≠ 164 ∨ k ≠ 4) → I1 o k = I o k) → ∃ I', f_X12_next_l0 k I1 = some I' ∧ I' 164 4 = nI (lx_e lc_b B n p) ∧ ∀ o k, (o ≠ 164 ∨ k ≠ 4) → I' o k = I o k := by
  intro i
  induction i with
  | zero =>
    intro p k I1 hp hk h2 hf
    obtain ⟨k, rfl⟩ : ∃ q, k = q + 1 := ⟨k - 1, by omega⟩
    refine ⟨I1, ?_, by rw [le_stop (Or.inl (by omega))]; exact h2, hf⟩
    rw [f_X12_next_l0, pq_peekB hc hn (hf 164 3 (by omega)) h2 (by omega) (by omega)]
    rfl
  | succ i ih =>
    intro p k I1 hp hk h2 hf
    obtain ⟨k, rfl⟩ : ∃ q, k = q + 1 := ⟨k - 1, by omega⟩
    have hb := hc.2.1 p (by omega)
    rw [f_X12_next_l0, pq_peekA hc hn (hf 164 3 (by omega)) (funext fun k => hf 165 k (by omega)) h2 (by omega)]
    simp only [Option.bind_some]
    rw [show (32 : Int32) = nI 32 from rfl, show (10 : Int32) = nI 10 from rfl]
    simp (disch := omega) only [pn_eqI]
    have go : lc_b (B p) = true → ∃ I', f_X12_next_l0 k (bm_uI I1 164 4 (I1 164 4 + 1)) = some I' ∧ I' 164 4 = nI (lx_e lc_b B n p) ∧ ∀ o k, (o ≠ 164 ∨ k ≠ 4) → I' o k = I o k := fun hx => by
      rw [le_step (by omega) hx, h2, nI_1]
      exact ih (p + 1) k _ (by omega) (by omega) (pn_uI_hit rfl) (fun o k ho => (pn_uI_off ho).trans (hf o k ho))
    by_cases h32 : B p = 32
    · rw [if_pos h32]
      exact go (by unfold lc_b; rw [decide_eq_true h32]; rfl)
    · rw [if_neg h32]
      by_cases h10 : B p = 10
      · rw [if_pos h10]
        exact go (by unfold lc_b; rw [decide_eq_true h10, Bool.or_true])
      · rw [if_neg h10, le_stop (Or.inr (by unfold lc_b; rw [decide_eq_false h32, decide_eq_false h10]; rfl))]
        exact ⟨I1, rfl, h2, hf⟩
theorem pq_runS {x2 x3 : Bool} {k : Nat} {c : Int32} (h : f_X12_peek I = some c) : f_X12_next_l181 x2 (k + 1) x3 I J = if (f_X12_isSmall c || f_X12_isDigit c) = true then f_X12_next_l181 x2 k (x3 && (f_X12_isSmall c == x2)) (bm_uI (bm_uI (if 3 ≤ I 164 13 then I else bm_uI I 164 14 (10 * I 164 14 + c - 48)) 164 13 ((if 3 ≤ I 164 13 then I else bm_uI I 164 14 (10 * I 164 14 + c - 48)) 164 13 + 1)) 164 4 (bm_uI (if 3 ≤ I 164 13 then I else bm_uI I 164 14 (10 * I 164 14 + c - 48)) 164 13 ((if 3 ≤ I 164 13 then I else bm_uI I 164 14 (10 * I 164 14 + c - 48)) 164 13 + 1) 164 4 + 1)) (if 7 ≤ I 164 13 then J else bm_uJ J 164 17 (bm_lshl (J 164 17) 8 ||| c.toInt64)) else some (x3, I, J) := by
  rw [f_X12_next_l181, h]
  simp only [Option.bind_some]
  have hbi : ∀ a b : Bool, (bm_bi a = bm_bi b) = ((a == b) = true) := by decide
  simp only [hbi]
  cases hs : f_X12_isSmall c <;> cases hd : f_X12_isDigit c <;> cases x3 <;> cases x2 <;> by_cases h7 : 7 ≤ I 164 13 <;> by_cases h3 : 3 ≤ I 164 13 <;> simp [h7, h3]
def lr_a (x2 : Bool) (B : Nat → Nat) (s j : Nat) : Bool := match j with
  | 0 => true
  | j + 1 => lr_a x2 B s j && (lc_l (B (s + j)) == x2)
def lr_w (B : Nat → Nat) (s j : Nat) : Int64 := match j with
  | 0 => 0
  | j + 1 => if 7 ≤ j then lr_w B s j else bm_lshl (lr_w B s j) 8 ||| (nI (B (s + j))).toInt64
def lr_d (B : Nat → Nat) (s j : Nat) : Int32 := match j with
  | 0 => 0
  | j + 1 => if 3 ≤ j then lr_d B s j else 10 * lr_d B s j + nI (B (s + j)) - 48
theorem lr_aT (s j : Nat) : lr_a true B s j = decide (pt_cnt j (fun i => lc_l (B (s + i))) = j) := by
  induction j with
  | zero => rfl
  | succ j ih =>
    have := pt_cnt_le j (fun i => lc_l (B (s + i)))
    rw [lr_a, ih, pt_cnt]
    cases lc_l (B (s + j))
    · rw [decide_eq_false (show ¬ pt_cnt j (fun i => lc_l (B (s + i))) + false.toNat = j + 1 by simp; omega)]; simp
    · have e : (pt_cnt j (fun i => lc_l (B (s + i))) + true.toNat = j + 1) = (pt_cnt j (fun i => lc_l (B (s + i))) = j) := by simp
      simp only [e]; simp
theorem lr_aF (s j : Nat) : lr_a false B s j = decide (pt_cnt j (fun i => lc_l (B (s + i))) = 0) := by
  induction j with
  | zero => rfl
  | succ j ih =>
    rw [lr_a, ih, pt_cnt]
    cases lc_l (B (s + j))
    · simp
    · rw [decide_eq_false (show ¬ pt_cnt j (fun i => lc_l (B (s + i))) + true.toNat = 0 by simp)]; simp
theorem lr_w8 (s : Nat) : ∀ j, j ≤ 7 → lr_w B s j = nm_8 (lx_l B s j) := by
  intro j
  induction j with
  | zero => intro _; rfl
  | succ j ih => intro h; rw [lr_w, if_neg (by omega), ih (by omega), lx_l, nm_8_snoc]
theorem lr_dv (s : Nat) : ∀ j, j ≤ 3 → (∀ i, i < j → lc_d (B (s + i)) = true) → lr_d B s j = nI (lx_v B s j) := by
  intro j
  induction j with
  | zero => intro _ _; rfl
  | succ j ih =>
    intro h hd
    have h2 := hd j (by omega)
    unfold lc_d at h2
    simp only [Bool.and_eq_true, decide_eq_true_eq] at h2
    rw [lr_d, if_neg (by omega), ih (by omega) (fun i hi => hd i (by omega)), lx_v, pn_dec h2.1]
theorem pq_run (hn : n ≤ 940) (hc : tk_d I n lim B) {s : Nat} (x2 : Bool) : ∀ (i j k : Nat) (I1 : bm_TI) (J1 : bm_TJ), s + j + i = n → i < k → I1 164 4 = nI (s + j) → I1 164 13 = nI j → I1 164 14 = lr_d B s j → J1 164 17 = lr_w B s j → (∀ o k, (o ≠ 164 ∨ (k ≠ 4 ∧ k ≠ 13 ∧ k ≠ 14)) → I1 o k = I o k) → rk_J J J1 → ∃ I' J', f_X12_next_l181 x2 k (lr_a x2 B s j) I1 J1 = some (lr_a x2 B s (lx_e lc_a B n (s + j) - s), I', J') ∧ I' 164 4 = nI (lx_e lc_a B n (s + j)) ∧ I' 164 13 = nI (lx_e lc_a B n (s + j) - s) ∧ I' 164 14 = lr_d B s (lx_e lc_a B n (s + j) - s) ∧ J' 164 17 = lr_w B s (lx_e lc_a B n (s + j) - s) ∧ (∀ o k, (o ≠ 164 ∨ (k ≠ 4 ∧ k ≠ 13 ∧ k ≠ 14)) → I' o k = I o k) ∧ rk_J J J' := by
  intro i
  induction i with
  | zero =>
    intro j k I1 J1 hp hk h4 h13 h14 h17 hf hg
    obtain ⟨k, rfl⟩ : ∃ q, k = q + 1 := ⟨k - 1, by omega⟩
    rw [pq_runS (pq_peekB hc hn (hf 164 3 (by omega)) h4 (by omega) (by omega)), if_neg (by decide), le_stop (Or.inl (by omega)), show s + j - s = j by omega]
    exact ⟨I1, J1, rfl, h4, h13, h14, h17, hf, hg⟩
  | succ i ih =>
    intro j k I1 J1 hp hk h4 h13 h14 h17 hf hg
    obtain ⟨k, rfl⟩ : ∃ q, k = q + 1 := ⟨k - 1, by omega⟩
    have hb := hc.2.1 (s + j) (by omega)
    rw [pq_runS (pq_peekA hc hn (hf 164 3 (by omega)) (funext fun k => hf 165 k (by omega)) h4 (by omega)), pq_small (by omega), pq_digit (by omega)]
    cases ha : lc_a (B (s + j))
    · have ha' : (lc_l (B (s + j)) || lc_d (B (s + j))) = false := ha
      rw [ha', if_neg (by decide), le_stop (Or.inr ha), show s + j - s = j by omega]
      exact ⟨I1, J1, rfl, h4, h13, h14, h17, hf, hg⟩
    · have ha' : (lc_l (B (s + j)) || lc_d (B (s + j))) = true := ha
      rw [ha', if_pos rfl, le_step (by omega) ha, show s + j + 1 = s + (j + 1) by omega]
      have e3 : (3 ≤ I1 164 13) = (3 ≤ j) := by rw [h13]; exact pn_leI (a := 3) (by omega) (by omega)
      have e7 : (7 ≤ I1 164 13) = (7 ≤ j) := by rw [h13]; exact pn_leI (a := 7) (by omega) (by omega)
      have key : ∀ (I2 : bm_TI), I2 = (if 3 ≤ I1 164 13 then I1 else bm_uI I1 164 14 (10 * I1 164 14 + nI (B (s + j)) - 48)) → I2 164 4 = nI (s + j) ∧ I2 164 13 = nI j ∧ I2 164 14 = lr_d B s (j + 1) ∧ ∀ o k, (o ≠ 164 ∨ (k ≠ 4 ∧ k ≠ 13 ∧ k ≠ 14)) → I2 o k = I o k := fun I2 h2 => by
        subst h2
        simp only [e3, lr_d]
        by_cases c : 3 ≤ j
        · rw [if_pos c, if_pos c]; exact ⟨h4, h13, h14, hf⟩
        · rw [if_neg c, if_neg c]
          exact ⟨by rw [pn_uI_ne2 (by omega)]; exact h4, by rw [pn_uI_ne2 (by omega)]; exact h13, by rw [pn_uI_hit rfl, h14], fun o k ho => by rw [pn_uI_off (by omega)]; exact hf o k ho⟩
      generalize hI2 : (if 3 ≤ I1 164 13 then I1 else bm_uI I1 164 14 (10 * I1 164 14 + nI (B (s + j)) - 48)) = I2
      obtain ⟨k4, k13, k14, kf⟩ := key I2 hI2.symm
      have keyJ : ∀ (J2 : bm_TJ), J2 = (if 7 ≤ I1 164 13 then J1 else bm_uJ J1 164 17 (bm_lshl (J1 164 17) 8 ||| (nI (B (s + j))).toInt64)) → J2 164 17 = lr_w B s (j + 1) ∧ rk_J J J2 := fun J2 h2 => by
        subst h2
        simp only [e7, lr_w]
        by_cases c : 7 ≤ j
        · rw [if_pos c, if_pos c]; exact ⟨h17, hg⟩
        · rw [if_neg c, if_neg c]
          exact ⟨by rw [pn_uJ_hit rfl, h17], fun o k ho => by rw [pn_uJ_off ho]; exact hg o k ho⟩
      generalize hJ2 : (if 7 ≤ I1 164 13 then J1 else bm_uJ J1 164 17 (bm_lshl (J1 164 17) 8 ||| (nI (B (s + j))).toInt64)) = J2
      obtain ⟨k17, kg⟩ := keyJ J2 hJ2.symm
      rw [k13, nI_1, pn_uI_ne2 (show 4 ≠ 13 by decide), k4, nI_1]
      exact ih (j + 1) k _ J2 (by omega) (by omega) (pn_uI_hit (by rfl)) (by rw [pn_uI_ne2 (by omega), pn_uI_hit rfl]) (by rw [pn_uI_ne2 (by omega), pn_uI_ne2 (by omega)]; exact k14) k17 (fun o k ho => by rw [pn_uI_off (by omega), pn_uI_off (by omega)]; exact kf o k ho) kg
end LR
