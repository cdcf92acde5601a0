/-! the tokens of a text -/
def lc_l (c : Nat) : Bool := decide (97 ≤ c) && decide (c ≤ 122)
def lc_d (c : Nat) : Bool := decide (48 ≤ c) && decide (c ≤ 57)
def lc_a (c : Nat) : Bool := lc_l c || lc_d c
def lc_b (c : Nat) : Bool := decide (c = 32) || decide (c = 10)
def lx_go (pr : Nat → Bool) (B : Nat → Nat) (f p : Nat) : Nat := match f with
  | 0 => p
  | f + 1 => if pr (B p) = true then lx_go pr B f (p + 1) else p
/-- as far as it holds -/
def lx_e (pr : Nat → Bool) (B : Nat → Nat) (n p : Nat) : Nat := lx_go pr B (n - p) p
theorem le_stop {pr : Nat → Bool} {B : Nat → Nat} {n p : Nat} (h : n ≤ p ∨ pr (B p) = false) : lx_e pr B n p = p := by
  unfold lx_e
  rcases h with h | h
  · rw [show n - p = 0 by omega]; rfl
  · cases n - p with
    | zero => rfl
    | succ f => unfold lx_go; rw [h]; rfl
theorem le_step {pr : Nat → Bool} {B : Nat → Nat} {n p : Nat} (hp : p < n) (h : pr (B p) = true) : lx_e pr B n p = lx_e pr B n (p + 1) := by
  unfold lx_e
  rw [show n - p = (n - (p + 1)) + 1 by omega, lx_go, if_pos h]
theorem le_bd {pr : Nat → Bool} {B : Nat → Nat} {n : Nat} : ∀ (i p : Nat), p + i = n → p ≤ lx_e pr B n p ∧ lx_e pr B n p ≤ n ∧ (∀ k, p ≤ k → k < lx_e pr B n p → pr (B k) = true) ∧ (lx_e pr B n p < n → pr (B (lx_e pr B n p)) = false) := by
  intro i
  induction i with
  | zero =>
    intro p hp
    rw [le_stop (Or.inl (by omega))]
    exact ⟨Nat.le_refl _, by omega, fun k h1 h2 => by omega, fun h => by omega⟩
  | succ i ih =>
    intro p hp
    cases hb : pr (B p)
    · rw [le_stop (Or.inr hb)]
      exact ⟨Nat.le_refl _, by omega, fun k h1 h2 => by omega, fun _ => hb⟩
    · rw [le_step (by omega) hb]
      have := ih (p + 1) (by omega)
      refine ⟨by omega, this.2.1, fun k h1 h2 => ?_, this.2.2.2⟩
      by_cases e : k = p
      · rw [e]; exact hb
      · exact this.2.2.1 k (by omega) h2
/-- the letters from s on, k of them -/
def lx_l (B : Nat → Nat) (s k : Nat) : List Nat := match k with
  | 0 => []
  | k + 1 => lx_l B s k ++ [B (s + k)]
def lx_v (B : Nat → Nat) (s k : Nat) : Nat := match k with
  | 0 => 0
  | k + 1 => 10 * lx_v B s k + (B (s + k) - 48)
/-- the words, by their numbers in the class -/
def wd_l : List (List Nat) := [[109, 97, 110], [111, 114, 100, 101, 114], [102, 111, 101], [99, 108, 101, 97, 114], [114, 97, 105, 110], [108, 101, 102, 116], [114, 105, 103, 104, 116], [98, 111, 116, 104], [108, 105, 102, 116, 115], [103, 105, 118, 101, 115], [115, 108, 101, 101, 112, 115], [119, 97, 107, 101, 115], [115, 111, 111, 116, 115], [103, 111, 101, 115], [104, 111, 117, 114], [101, 97, 115, 116], [115, 111, 117, 116, 104], [119, 101, 115, 116], [110, 111, 114, 116, 104], [111, 114], [97, 110, 100], [110, 111, 116], [97, 115, 108, 101, 101, 112], [115, 111, 111, 116, 101, 100], [106, 111, 105, 110, 101, 100], [103, 114, 101, 121], [105, 100, 108, 101], [117, 110, 100, 101, 114], [115, 101, 101, 115], [104, 97, 115], [98, 114, 111, 119], [104, 101, 97, 114, 100], [108, 111, 115, 116], [110, 117, 109, 98, 101, 114]]
def wd_w (i : Nat) : List Nat := wd_l.getD i []
theorem wd_L : ∀ i, i < 34 → nm_L (wd_w i) := fun i hi => nm_L_of ((by decide +kernel : ∀ i, i < 34 → nm_Lb (wd_w i) = true) i hi)
theorem wd_5 : ∀ i, i < 34 → bm_wpa (1000 + i) = nm_5 (wd_w i) := by decide +kernel
/-- which word it is, and 1; 0: a name -/
def wd_f (l : List Nat) : Nat := pt_fnd 34 (fun i => decide (wd_w i = l))
/-- kind (0 the end, 1 none, 2 a sign, 3 a number, 4 a word, 5 a name), value, letters, place, next -/
def lx (B : Nat → Nat) (n lim p : Nat) : Nat × Nat × List Nat × Nat × Nat :=
  if lim < n ∧ lim ≤ lx_e lc_b B n p then (1, 0, [], lim, lx_e lc_b B n p)
  else if n ≤ lx_e lc_b B n p then (0, 0, [], lx_e lc_b B n p, lx_e lc_b B n p)
  else if lc_a (B (lx_e lc_b B n p)) = true then
    (if pt_cnt (lx_e lc_a B n (lx_e lc_b B n p) - lx_e lc_b B n p) (fun i => lc_l (B (lx_e lc_b B n p + i))) = lx_e lc_a B n (lx_e lc_b B n p) - lx_e lc_b B n p ∧ lx_e lc_a B n (lx_e lc_b B n p) - lx_e lc_b B n p ≤ 7 then
      (if wd_f (lx_l B (lx_e lc_b B n p) (lx_e lc_a B n (lx_e lc_b B n p) - lx_e lc_b B n p)) = 0 then (5, 0, lx_l B (lx_e lc_b B n p) (lx_e lc_a B n (lx_e lc_b B n p) - lx_e lc_b B n p), lx_e lc_b B n p, lx_e lc_a B n (lx_e lc_b B n p))
       else (4, wd_f (lx_l B (lx_e lc_b B n p) (lx_e lc_a B n (lx_e lc_b B n p) - lx_e lc_b B n p)) - 1, lx_l B (lx_e lc_b B n p) (lx_e lc_a B n (lx_e lc_b B n p) - lx_e lc_b B n p), lx_e lc_b B n p, lx_e lc_a B n (lx_e lc_b B n p)))
     else if pt_cnt (lx_e lc_a B n (lx_e lc_b B n p) - lx_e lc_b B n p) (fun i => lc_l (B (lx_e lc_b B n p + i))) = 0 ∧ lx_e lc_a B n (lx_e lc_b B n p) - lx_e lc_b B n p ≤ 3 then (3, lx_v B (lx_e lc_b B n p) (lx_e lc_a B n (lx_e lc_b B n p) - lx_e lc_b B n p), [], lx_e lc_b B n p, lx_e lc_a B n (lx_e lc_b B n p))
     else (1, 0, [], lx_e lc_b B n p, lx_e lc_a B n (lx_e lc_b B n p)))
  else (2, B (lx_e lc_b B n p), [], lx_e lc_b B n p, lx_e lc_b B n p + 1)
theorem pt_cnt_all {n : Nat} {p : Nat → Bool} (h : pt_cnt n p = n) : ∀ j, j < n → p j = true := by
  induction n with
  | zero => intro j hj; omega
  | succ k ih =>
    intro j hj
    unfold pt_cnt at h
    have h1 := pt_cnt_le k p
    have h2 : (p k).toNat ≤ 1 := Bool.toNat_le _
    by_cases e : j = k
    · subst e
      cases hp : p j
      · rw [hp] at h; simp at h; omega
      · rfl
    · exact ih (by omega) j (by omega)
theorem pt_cnt_none {n : Nat} {p : Nat → Bool} (h : pt_cnt n p = 0) : ∀ j, j < n → p j = false := by
  induction n with
  | zero => intro j hj; omega
  | succ k ih =>
    intro j hj
    unfold pt_cnt at h
    by_cases e : j = k
    · subst e
      cases hp : p j
      · rfl
      · rw [hp] at h; simp at h
    · exact ih (by omega) j (by omega)
theorem lx_l_len (B : Nat → Nat) (s k : Nat) : (lx_l B s k).length = k := by
  induction k with
  | zero => rfl
  | succ k ih => rw [lx_l, List.length_append, ih]; rfl
theorem lx_l_L {B : Nat → Nat} {s k : Nat} (h1 : 1 ≤ k) (h7 : k ≤ 7) (h : ∀ j, j < k → lc_l (B (s + j)) = true) : nm_L (lx_l B s k) := by
  refine ⟨by rw [lx_l_len]; exact h1, by rw [lx_l_len]; exact h7, ?_⟩
  have : ∀ k, (∀ j, j < k → lc_l (B (s + j)) = true) → ∀ c, c ∈ lx_l B s k → 97 ≤ c ∧ c ≤ 122 := by
    intro k
    induction k with
    | zero => intro _ c hc; cases hc
    | succ k ih =>
      intro h c hc
      rw [lx_l] at hc
      rcases List.mem_append.mp hc with hc | hc
      · exact ih (fun j hj => h j (by omega)) c hc
      · have e : c = B (s + k) := by simpa using hc
        have := h k (by omega)
        unfold lc_l at this
        simp only [Bool.and_eq_true, decide_eq_true_eq] at this
        omega
  exact this k h
theorem nm_5_snoc (l : List Nat) (c : Nat) : nm_5 (l ++ [c]) = f_X10_packLetter (nm_5 l) (nI c) := by unfold nm_5; rw [List.foldl_append]; rfl
theorem nm_8_snoc (l : List Nat) (c : Nat) : nm_8 (l ++ [c]) = bm_lshl (nm_8 l) 8 ||| (nI c).toInt64 := by unfold nm_8; rw [List.foldl_append]; rfl
theorem lx_v_lt {B : Nat → Nat} {s : Nat} : ∀ k, (∀ j, j < k → lc_d (B (s + j)) = true) → lx_v B s k < 10 ^ k := by
  intro k
  induction k with
  | zero => intro _; exact Nat.one_pos
  | succ k ih =>
    intro h
    have := ih (fun j hj => h j (by omega))
    have h2 := h k (by omega)
    unfold lc_d at h2
    simp only [Bool.and_eq_true, decide_eq_true_eq] at h2
    rw [lx_v, Nat.pow_succ]
    omega
theorem lx_mk {t v pl q n p : Nat} {l : List Nat} (h1 : t ≤ 5) (h2 : v < 1000) (h3 : t = 4 → v < 34) (h4 : t = 5 → nm_L l ∧ ∀ i, i < 34 → wd_w i ≠ l) (h5 : pl ≤ 940) (h6 : q ≤ n) (h7 : p ≤ q) : (t, v, l, pl, q).1 ≤ 5 ∧ (t, v, l, pl, q).2.1 < 1000 ∧ ((t, v, l, pl, q).1 = 4 → (t, v, l, pl, q).2.1 < 34) ∧ ((t, v, l, pl, q).1 = 5 → nm_L (t, v, l, pl, q).2.2.1 ∧ ∀ i, i < 34 → wd_w i ≠ (t, v, l, pl, q).2.2.1) ∧ (t, v, l, pl, q).2.2.2.1 ≤ 940 ∧ (t, v, l, pl, q).2.2.2.2 ≤ n ∧ p ≤ (t, v, l, pl, q).2.2.2.2 := ⟨h1, h2, h3, h4, h5, h6, h7⟩
/-- what the tokens are -/
theorem lx_ok {B : Nat → Nat} {n lim p : Nat} (hn : n ≤ 940) (hlim : lim ≤ 940) (hp : p ≤ n) (hB : ∀ k, k < n → B k < 256) : (lx B n lim p).1 ≤ 5 ∧ (lx B n lim p).2.1 < 1000 ∧ ((lx B n lim p).1 = 4 → (lx B n lim p).2.1 < 34) ∧ ((lx B n lim p).1 = 5 → nm_L (lx B n lim p).2.2.1 ∧ ∀ i, i < 34 → wd_w i ≠ (lx B n lim p).2.2.1) ∧ (lx B n lim p).2.2.2.1 ≤ 940 ∧ (lx B n lim p).2.2.2.2 ≤ n ∧ p ≤ (lx B n lim p).2.2.2.2 := by
  have h1 := le_bd (pr := lc_b) (B := B) (n := n) (n - p) p (by omega)
  have h2 := le_bd (pr := lc_a) (B := B) (n := n) (n - lx_e lc_b B n p) (lx_e lc_b B n p) (by omega)
  unfold lx
  generalize hs : lx_e lc_b B n p = s at h1 h2 ⊢
  generalize he : lx_e lc_a B n s = e at h2 ⊢
  by_cases c1 : lim < n ∧ lim ≤ s
  · rw [if_pos c1]; exact lx_mk (by decide) (by decide) (fun h => absurd h (by decide)) (fun h => absurd h (by decide)) hlim h1.2.1 h1.1
  · rw [if_neg c1]
    by_cases c2 : n ≤ s
    · rw [if_pos c2]; exact lx_mk (by decide) (by decide) (fun h => absurd h (by decide)) (fun h => absurd h (by decide)) (by omega) h1.2.1 h1.1
    · rw [if_neg c2]
      by_cases c3 : lc_a (B s) = true
      · rw [if_pos c3]
        have hes : s < e := by
          rcases Nat.lt_or_ge s e with h | h
          · exact h
          · have e1 : e = s := by omega
            have := h2.2.2.2 (by omega)
            rw [e1, c3] at this; cases this
        by_cases c4 : pt_cnt (e - s) (fun i => lc_l (B (s + i))) = e - s ∧ e - s ≤ 7
        · rw [if_pos c4]
          have hL := lx_l_L (B := B) (s := s) (by omega) c4.2 (pt_cnt_all c4.1)
          by_cases c5 : wd_f (lx_l B s (e - s)) = 0
          · rw [if_pos c5]
            refine lx_mk (by decide) (by decide) (fun h => absurd h (by decide)) (fun _ => ⟨hL, fun i hi => ?_⟩) (by omega) h2.2.1 (by omega)
            have := tf_none c5 i hi
            exact fun q => by rw [decide_eq_true q] at this; cases this
          · rw [if_neg c5]
            have hle : wd_f (lx_l B s (e - s)) ≤ 34 := tf_le _ _
            exact lx_mk (by decide) (by omega) (fun _ => by omega) (fun h => absurd h (by decide)) (by omega) h2.2.1 (by omega)
        · rw [if_neg c4]
          by_cases c5 : pt_cnt (e - s) (fun i => lc_l (B (s + i))) = 0 ∧ e - s ≤ 3
          · rw [if_pos c5]
            have hd : ∀ j, j < e - s → lc_d (B (s + j)) = true := fun j hj => by
              have q1 := pt_cnt_none c5.1 j hj
              have q2 := h2.2.2.1 (s + j) (by omega) (by omega)
              unfold lc_a at q2
              rw [show lc_l (B (s + j)) = false from q1, Bool.false_or] at q2
              exact q2
            have hv := lx_v_lt (e - s) hd
            have h10 : 10 ^ (e - s) ≤ 10 ^ 3 := Nat.pow_le_pow_right (by omega) c5.2
            exact lx_mk (by decide) (by omega) (fun h => absurd h (by decide)) (fun h => absurd h (by decide)) (by omega) h2.2.1 (by omega)
          · rw [if_neg c5]; exact lx_mk (by decide) (by decide) (fun h => absurd h (by decide)) (fun h => absurd h (by decide)) (by omega) h2.2.1 (by omega)
      · rw [if_neg c3]
        have := hB s (by omega)
        exact lx_mk (by decide) (by omega) (fun h => absurd h (by decide)) (fun h => absurd h (by decide)) (by omega) (by omega) (by omega)
/-! the class -/
def tk_c (I : bm_TI) (n lim : Nat) (B : Nat → Nat) : Prop := I 1 1 = nI n ∧ (∀ k, k < n → B k < 256 ∧ I 2 k = nI (B k)) ∧ I 3 1 = nI lim
def tk_K (I : bm_TI) (J : bm_TJ) (W : bm_TR) (r : Nat × Nat × List Nat × Nat × Nat) : Prop := I 3 2 = nI r.2.2.2.2 ∧ I 3 3 = nI r.1 ∧ I 3 4 = nI r.2.2.2.1 ∧ I 3 6 = nI (if r.1 = 2 then r.2.1 else 0) ∧ W 3 8 = (if r.1 = 4 then some (1000 + r.2.1) else none) ∧ (r.1 = 3 → I 3 5 = nI r.2.1) ∧ (r.1 = 5 → J 3 7 = nm_5 r.2.2.1)
def fk_I (I I' : bm_TI) : Prop := ∀ o k, (o ≠ 3 ∨ (k ≠ 2 ∧ k ≠ 3 ∧ k ≠ 4 ∧ k ≠ 5 ∧ k ≠ 6)) → I' o k = I o k
def fk_J (J J' : bm_TJ) : Prop := ∀ o k, (o ≠ 3 ∨ k ≠ 7) → J' o k = J o k
def fk_W (W W' : bm_TR) : Prop := ∀ o k, (o ≠ 3 ∨ k ≠ 8) → W' o k = W o k
theorem kc_letter {c : Nat} (hc : c < 2 ^ 31) : f_X5_isLetter (nI c) = lc_l c := by
  unfold f_X5_isLetter lc_l
  simp (disch := omega) only [pn_l0, pn_l1, pn_l2, pn_l3, pn_l4, pn_l5, pn_l6, pn_l7, pn_l8, pn_l9, pn_l10, pn_l11, pn_l12, pn_l13, pn_l15, pn_l20, pn_l21, pn_l22, pn_l23, pn_l24, pn_l30, pn_l31, pn_l32, pn_l39, pn_l40, pn_l41, pn_l45, pn_l46, pn_l48, pn_l53, pn_l57, pn_l58, pn_l59, pn_l60, pn_l61, pn_l62, pn_l63, pn_l64, pn_l65, pn_l66, pn_l74, pn_l82, pn_l90, pn_l97, pn_l98, pn_l99, pn_l106, pn_l107, pn_l120, pn_l122, pn_l135, pn_l255, pn_l287, pn_l300, pn_l315, pn_l360, pn_l400, pn_l900, pn_l940, pn_l1000, pn_l1000000, pn_mone, nI_add, pk_mul, nI_clamp, bm_ixk, pn_ltI, pn_leI, pn_eqI, pn_xeq, pn_xeq2, pn_xx, pn_xltI, pn_xleI, pn_xgtI, pn_xgeI, pn_xadd, pn_subx, pn_addx, Option.bind_some, ↓reduceIte]
  by_cases h1 : c < 97
  · rw [if_pos h1, decide_eq_false (by omega)]; rfl
  · rw [if_neg h1, decide_eq_true (by omega)]
    by_cases h2 : 122 < c
    · rw [if_pos h2, decide_eq_false (by omega)]; rfl
    · rw [if_neg h2, decide_eq_true (by omega)]; rfl
theorem kc_digit {c : Nat} (hc : c < 2 ^ 31) : f_X5_isDigit (nI c) = lc_d c := by
  unfold f_X5_isDigit lc_d
  rw [show (48 : Int32) = nI 48 from rfl, show (57 : Int32) = nI 57 from rfl]
  simp (disch := omega) only [pn_ltI]
  by_cases h1 : c < 48
  · rw [if_pos h1, decide_eq_false (by omega)]; rfl
  · rw [if_neg h1, decide_eq_true (by omega)]
    by_cases h2 : 57 < c
    · rw [if_pos h2, decide_eq_false (by omega)]; rfl
    · rw [if_neg h2, decide_eq_true (by omega)]; rfl
theorem kc_blank {c : Nat} (hc : c < 2 ^ 31) : f_X5_isBlank (nI c) = lc_b c := by
  unfold f_X5_isBlank lc_b
  simp (disch := omega) only [pn_l0, pn_l1, pn_l2, pn_l3, pn_l4, pn_l5, pn_l6, pn_l7, pn_l8, pn_l9, pn_l10, pn_l11, pn_l12, pn_l13, pn_l15, pn_l20, pn_l21, pn_l22, pn_l23, pn_l24, pn_l30, pn_l31, pn_l32, pn_l39, pn_l40, pn_l41, pn_l45, pn_l46, pn_l48, pn_l53, pn_l57, pn_l58, pn_l59, pn_l60, pn_l61, pn_l62, pn_l63, pn_l64, pn_l65, pn_l66, pn_l74, pn_l82, pn_l90, pn_l97, pn_l98, pn_l99, pn_l106, pn_l107, pn_l120, pn_l122, pn_l135, pn_l255, pn_l287, pn_l300, pn_l315, pn_l360, pn_l400, pn_l900, pn_l940, pn_l1000, pn_l1000000, pn_mone, nI_add, pk_mul, nI_clamp, bm_ixk, pn_ltI, pn_leI, pn_eqI, pn_xeq, pn_xeq2, pn_xx, pn_xltI, pn_xleI, pn_xgtI, pn_xgeI, pn_xadd, pn_subx, pn_addx, Option.bind_some, ↓reduceIte]
  by_cases h1 : c = 32
  · rw [if_pos h1, decide_eq_true h1]; rfl
  · rw [if_neg h1, decide_eq_false h1]
    by_cases h2 : c = 10
    · rw [if_pos h2, decide_eq_true h2]; rfl
    · rw [if_neg h2, decide_eq_false h2]; rfl
theorem pq_small {c : Nat} (hc : c < 2 ^ 31) : f_X12_isSmall (nI c) = lc_l c := kc_letter hc
theorem pq_digit {c : Nat} (hc : c < 2 ^ 31) : f_X12_isDigit (nI c) = lc_d c := kc_digit hc
section LK
variable {I : bm_TI} {J : bm_TJ} {W : bm_TR} {n lim : Nat} {B : Nat → Nat}
theorem kc_skip (hn : n ≤ 940) (hc : tk_c I n lim B) : ∀ (i p k : Nat) (I1 : bm_TI), p + i = n → i < k → I1 3 2 = nI p → (∀ o k, (o ≠ 3 ∨ k ≠ 2) → I1 o k = I o k) → ∃ I', f_X5_advance_l0 k I1 = some I' ∧ I' 3 2 = nI (lx_e lc_b B n p) ∧ ∀ o k, (o ≠ 3 ∨ k ≠ 2) → I' o k = I o k := by
  intro i
  induction i with
  | zero =>
    intro p k I1 hp hk h2 hf
    obtain ⟨k, rfl⟩ : ∃ q, k = q + 1 := ⟨k - 1, by omega⟩
    refine ⟨I1, ?_, by rw [le_stop (Or.inl (by omega))]; exact h2, hf⟩
    rw [f_X5_advance_l0, hf 1 1 (by omega), hc.1, h2, if_pos (nI_le (by omega) (by omega))]
  | succ i ih =>
    intro p k I1 hp hk h2 hf
    obtain ⟨k, rfl⟩ : ∃ q, k = q + 1 := ⟨k - 1, by omega⟩
    have hb := hc.2.1 p (by omega)
    rw [f_X5_advance_l0, hf 1 1 (by omega), hc.1, h2, if_neg (nI_ge (by omega) (by omega)), if_pos (bm_ixk (by omega) (by omega)), nI_clamp (by omega), hf 2 p (by omega), hb.2, kc_blank (by omega)]
    cases hx : lc_b (B p)
    · rw [if_neg (by decide), le_stop (Or.inr hx)]
      exact ⟨I1, rfl, h2, hf⟩
    · rw [if_pos rfl, le_step (by omega) hx, nI_1]
      exact ih (p + 1) k _ (by omega) (by omega) (pn_uI_hit rfl) (fun o k ho => (pn_uI_off ho).trans (hf o k ho))
/-- the name as the class packs it; the number as it counts it -/
def lx_N (B : Nat → Nat) (s k : Nat) : Int64 := match k with
  | 0 => 0
  | k + 1 => if lc_l (B (s + k)) = true then f_X10_packLetter (lx_N B s k) (nI (B (s + k))) else lx_N B s k
def lx_D (B : Nat → Nat) (s k : Nat) : Int32 := match k with
  | 0 => 0
  | k + 1 => if lc_l (B (s + k)) = true then lx_D B s k else 10 * lx_D B s k + nI (B (s + k)) - 48
theorem lx_N_5 {s : Nat} : ∀ k, (∀ j, j < k → lc_l (B (s + j)) = true) → lx_N B s k = nm_5 (lx_l B s k) := by
  intro k
  induction k with
  | zero => intro _; rfl
  | succ k ih => intro h; rw [lx_N, if_pos (h k (by omega)), ih (fun j hj => h j (by omega)), lx_l, nm_5_snoc]
theorem pn_dec {v b : Nat} (hb : 48 ≤ b) : (10 : Int32) * nI v + nI b - 48 = nI (10 * v + (b - 48)) := by
  rw [show (10 : Int32) = nI 10 from rfl, pk_mul, nI_add, show (48 : Int32) = nI 48 from rfl, pk_sub (by omega)]
  congr 1
  omega
theorem lx_D_v {s : Nat} : ∀ k, (∀ j, j < k → lc_l (B (s + j)) = false ∧ lc_d (B (s + j)) = true) → lx_D B s k = nI (lx_v B s k) := by
  intro k
  induction k with
  | zero => intro _; rfl
  | succ k ih =>
    intro h
    have h1 := h k (by omega)
    have h2 := h1.2
    unfold lc_d at h2
    simp only [Bool.and_eq_true, decide_eq_true_eq] at h2
    rw [lx_D, if_neg (by rw [h1.1]; decide), ih (fun j hj => h j (by omega)), lx_v, pn_dec (by omega)]
theorem kc_run (hn : n ≤ 940) (hc : tk_c I n lim B) {s : Nat} (hs : s ≤ n) (x1 : Int32) : ∀ (i j k : Nat) (I1 : bm_TI) (J1 : bm_TJ), s + j + i = n → i < k → (∀ q, q < j → lc_a (B (s + q)) = true) → I1 3 2 = nI (s + j) → I1 3 5 = lx_D B s j → J1 3 7 = lx_N B s j → (∀ o k, (o ≠ 3 ∨ (k ≠ 2 ∧ k ≠ 5)) → I1 o k = I o k) → fk_J J J1 → ∃ I' J', f_X5_readRun_l17 x1 k (nI (pt_cnt j (fun i => lc_l (B (s + i))))) I1 J1 = some (nI (pt_cnt (lx_e lc_a B n (s + j) - s) (fun i => lc_l (B (s + i)))), I', J') ∧ I' 3 2 = nI (lx_e lc_a B n (s + j)) ∧ I' 3 5 = lx_D B s (lx_e lc_a B n (s + j) - s) ∧ J' 3 7 = lx_N B s (lx_e lc_a B n (s + j) - s) ∧ (∀ o k, (o ≠ 3 ∨ (k ≠ 2 ∧ k ≠ 5)) → I' o k = I o k) ∧ fk_J J J' := by
  intro i
  induction i with
  | zero =>
    intro j k I1 J1 hp hk hq h2 h5 h7 hf hJ
    obtain ⟨k, rfl⟩ : ∃ q, k = q + 1 := ⟨k - 1, by omega⟩
    rw [le_stop (Or.inl (by omega)), show s + j - s = j by omega]
    refine ⟨I1, J1, ?_, h2, h5, h7, hf, hJ⟩
    rw [f_X5_readRun_l17, hf 1 1 (by omega), hc.1, h2, if_pos (nI_le (by omega) (by omega))]
  | succ i ih =>
    intro j k I1 J1 hp hk hq h2 h5 h7 hf hJ
    obtain ⟨k, rfl⟩ : ∃ q, k = q + 1 := ⟨k - 1, by omega⟩
    have hb := hc.2.1 (s + j) (by omega)
    rw [f_X5_readRun_l17, hf 1 1 (by omega), hc.1, h2, if_neg (nI_ge (by omega) (by omega)), if_pos (bm_ixk (by omega) (by omega)), nI_clamp (by omega), hf 2 (s + j) (by omega), hb.2, kc_letter (by omega), kc_digit (by omega), h5, h7, pn_uI_ne2 (show 2 ≠ 5 by decide), h2, nI_1 (s + j), show s + j + 1 = s + (j + 1) by omega]
    cases hl : lc_l (B (s + j))
    · cases hd : lc_d (B (s + j))
      · have ha : lc_a (B (s + j)) = false := by unfold lc_a; rw [hl, hd]; rfl
        rw [le_stop (Or.inr ha), show s + j - s = j by omega]
        exact ⟨I1, J1, rfl, h2, h5, h7, hf, hJ⟩
      · have ha : lc_a (B (s + j)) = true := by unfold lc_a; rw [hl, hd]; rfl
        rw [le_step (by omega) ha, show s + j + 1 = s + (j + 1) by omega]
        simp only [Bool.false_eq_true, ↓reduceIte]
        have := ih (j + 1) k (bm_uI (bm_uI I1 3 5 (10 * lx_D B s j + nI (B (s + j)) - 48)) 3 2 (nI (s + (j + 1)))) J1 (by omega) (by omega) (fun q hq' => (Nat.lt_succ_iff_lt_or_eq.mp hq').elim (fun h => hq q h) (fun h => by rw [h]; exact ha)) (pn_uI_hit rfl) (by rw [pn_uI_ne2 (by omega), pn_uI_hit rfl, lx_D, if_neg (by rw [hl]; decide)]) (by rw [h7, lx_N, if_neg (by rw [hl]; decide)]) (fun o k ho => by rw [pn_uI_off (by omega), pn_uI_off (by omega)]; exact hf o k ho) hJ
        rw [pt_cnt, hl] at this
        exact this
    · have ha : lc_a (B (s + j)) = true := by unfold lc_a; rw [hl]; rfl
      rw [le_step (by omega) ha, show s + j + 1 = s + (j + 1) by omega]
      simp only [↓reduceIte]
      rw [nI_1]
      have := ih (j + 1) k (bm_uI I1 3 2 (nI (s + (j + 1)))) (bm_uJ J1 3 7 (f_X10_packLetter (lx_N B s j) (nI (B (s + j))))) (by omega) (by omega) (fun q hq' => (Nat.lt_succ_iff_lt_or_eq.mp hq').elim (fun h => hq q h) (fun h => by rw [h]; exact ha)) (pn_uI_hit rfl) (by rw [pn_uI_ne2 (by omega), h5, lx_D, if_pos hl]) (by rw [pn_uJ_hit rfl, lx_N, if_pos hl]) (fun o k ho => by rw [pn_uI_off (by omega)]; exact hf o k ho) (fun o k ho => (pn_uJ_off ho).trans (hJ o k ho))
      rw [pt_cnt, hl] at this
      exact this
end LK
