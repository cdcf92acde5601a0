/-! the pure part: numbers, sets, loops -/
theorem pn_l0 : (0 : Int32) = nI 0 := rfl
theorem pn_l1 : (1 : Int32) = nI 1 := rfl
theorem pn_l2 : (2 : Int32) = nI 2 := rfl
theorem pn_l3 : (3 : Int32) = nI 3 := rfl
theorem pn_l4 : (4 : Int32) = nI 4 := rfl
theorem pn_l5 : (5 : Int32) = nI 5 := rfl
theorem pn_l6 : (6 : Int32) = nI 6 := rfl
theorem pn_l7 : (7 : Int32) = nI 7 := rfl
theorem pn_l8 : (8 : Int32) = nI 8 := rfl
theorem pn_l9 : (9 : Int32) = nI 9 := rfl
theorem pn_l10 : (10 : Int32) = nI 10 := rfl
theorem pn_l11 : (11 : Int32) = nI 11 := rfl
theorem pn_l12 : (12 : Int32) = nI 12 := rfl
theorem pn_l13 : (13 : Int32) = nI 13 := rfl
theorem pn_l15 : (15 : Int32) = nI 15 := rfl
theorem pn_l20 : (20 : Int32) = nI 20 := rfl
theorem pn_l21 : (21 : Int32) = nI 21 := rfl
theorem pn_l22 : (22 : Int32) = nI 22 := rfl
theorem pn_l23 : (23 : Int32) = nI 23 := rfl
theorem pn_l24 : (24 : Int32) = nI 24 := rfl
theorem pn_l30 : (30 : Int32) = nI 30 := rfl
theorem pn_l31 : (31 : Int32) = nI 31 := rfl
theorem pn_l32 : (32 : Int32) = nI 32 := rfl
theorem pn_l39 : (39 : Int32) = nI 39 := rfl
theorem pn_l40 : (40 : Int32) = nI 40 := rfl
theorem pn_l41 : (41 : Int32) = nI 41 := rfl
theorem pn_l45 : (45 : Int32) = nI 45 := rfl
theorem pn_l46 : (46 : Int32) = nI 46 := rfl
theorem pn_l48 : (48 : Int32) = nI 48 := rfl
theorem pn_l53 : (53 : Int32) = nI 53 := rfl
theorem pn_l57 : (57 : Int32) = nI 57 := rfl
theorem pn_l58 : (58 : Int32) = nI 58 := rfl
theorem pn_l59 : (59 : Int32) = nI 59 := rfl
theorem pn_l60 : (60 : Int32) = nI 60 := rfl
theorem pn_l61 : (61 : Int32) = nI 61 := rfl
theorem pn_l62 : (62 : Int32) = nI 62 := rfl
theorem pn_l63 : (63 : Int32) = nI 63 := rfl
theorem pn_l64 : (64 : Int32) = nI 64 := rfl
theorem pn_l65 : (65 : Int32) = nI 65 := rfl
theorem pn_l66 : (66 : Int32) = nI 66 := rfl
theorem pn_l74 : (74 : Int32) = nI 74 := rfl
theorem pn_l82 : (82 : Int32) = nI 82 := rfl
theorem pn_l90 : (90 : Int32) = nI 90 := rfl
theorem pn_l97 : (97 : Int32) = nI 97 := rfl
theorem pn_l98 : (98 : Int32) = nI 98 := rfl
theorem pn_l99 : (99 : Int32) = nI 99 := rfl
theorem pn_l106 : (106 : Int32) = nI 106 := rfl
theorem pn_l107 : (107 : Int32) = nI 107 := rfl
theorem pn_l120 : (120 : Int32) = nI 120 := rfl
theorem pn_l122 : (122 : Int32) = nI 122 := rfl
theorem pn_l135 : (135 : Int32) = nI 135 := rfl
theorem pn_l255 : (255 : Int32) = nI 255 := rfl
theorem pn_l287 : (287 : Int32) = nI 287 := rfl
theorem pn_l300 : (300 : Int32) = nI 300 := rfl
theorem pn_l315 : (315 : Int32) = nI 315 := rfl
theorem pn_l360 : (360 : Int32) = nI 360 := rfl
theorem pn_l400 : (400 : Int32) = nI 400 := rfl
theorem pn_l900 : (900 : Int32) = nI 900 := rfl
theorem pn_l940 : (940 : Int32) = nI 940 := rfl
theorem pn_l1000 : (1000 : Int32) = nI 1000 := rfl
theorem pn_l1000000 : (1000000 : Int32) = nI 1000000 := rfl
theorem bm_ixk {len j : Nat} (hj : j < len) (hl : len < 2 ^ 31) : bm_ix len (nI j) = true := bm_ix_nI hj hl
theorem pn_ifB {b : Bool} {s t : Nat} : (if b = true then nI s else nI t) = nI (if b = true then s else t) := by cases b <;> rfl
theorem pn_or (a b : Nat) : nI a ||| nI b = nI (a ||| b) := by
  apply Int32.toBitVec_inj.1
  show BitVec.ofNat 32 a ||| BitVec.ofNat 32 b = BitVec.ofNat 32 (a ||| b)
  apply BitVec.eq_of_getLsbD_eq
  intro i hi
  simp [hi]
theorem pn_and (a b : Nat) : nI a &&& nI b = nI (a &&& b) := by
  apply Int32.toBitVec_inj.1
  show BitVec.ofNat 32 a &&& BitVec.ofNat 32 b = BitVec.ofNat 32 (a &&& b)
  apply BitVec.eq_of_getLsbD_eq
  intro i hi
  simp [hi]
theorem pn_xor (a b : Nat) : nI a ^^^ nI b = nI (a ^^^ b) := by
  apply Int32.toBitVec_inj.1
  show BitVec.ofNat 32 a ^^^ BitVec.ofNat 32 b = BitVec.ofNat 32 (a ^^^ b)
  apply BitVec.eq_of_getLsbD_eq
  intro i hi
  simp [hi]
theorem pn_shl0 : ∀ m : Nat, m < 31 → bm_ishl 1 (nI m) = nI (2 ^ m) := by decide +kernel
theorem pn_shl {m : Nat} (h : m < 31) : bm_ishl 1 (nI m) = nI (2 ^ m) := pn_shl0 m h
theorem pn_bit0 : ∀ s : Nat, s < 256 → ∀ m : Nat, m < 8 → (bm_ishr (nI s) (nI m) &&& 1) = nI (s.testBit m).toNat := by decide +kernel
theorem pn_bit {s m : Nat} (hs : s < 256) (hm : m < 8) : (bm_ishr (nI s) (nI m) &&& 1) = nI (s.testBit m).toNat := pn_bit0 s hs m hm
theorem pn_bitX {s m : Nat} (hs : s < 256) (hm : m < 8) : f_X11_bit (nI s) (nI m) = nI (s.testBit m).toNat := pn_bit0 s hs m hm
theorem pn_b1 (b : Bool) : (nI b.toNat = 1) = (b = true) := by cases b <;> simp <;> decide
theorem pn_bitOf {s m : Nat} (hs : s < 256) (hm : m < 8) : f_X12_bitOf (nI s) (nI m) = s.testBit m := by
  unfold f_X12_bitOf
  rw [pn_bit hs hm]
  cases s.testBit m <;> rfl
theorem pn_m1 : nI 4294967295 = -1 := rfl
theorem pn_0 : (0 : Int32) = nI 0 := rfl
theorem pn_pred {n : Nat} (h : 0 < n) : nI n - 1 = nI (n - 1) := by
  obtain ⟨k, rfl⟩ : ∃ k, n = k + 1 := ⟨n - 1, by omega⟩
  exact nI_pred k
theorem pn_eqI {a b : Nat} (ha : a < 2 ^ 31) (hb : b < 2 ^ 31) : (nI a = nI b) = (a = b) := propext (nI_eq ha hb)
theorem pn_leI {a b : Nat} (ha : a < 2 ^ 31) (hb : b < 2 ^ 31) : (nI a ≤ nI b) = (a ≤ b) := propext (nI_leI ha hb)
theorem pn_ltI {a b : Nat} (ha : a < 2 ^ 31) (hb : b < 2 ^ 31) : (nI a < nI b) = (a < b) := propext (nI_ltI ha hb)
theorem pn_neg {a : Nat} (ha : a < 2 ^ 31) : (nI a = -1) = False := by
  refine eq_false fun h => ?_
  have := nI_toInt ha
  rw [h] at this
  have e : (-1 : Int32).toInt = -1 := rfl
  omega
/-- an index that may be NONE: n - 1 -/
def pn_x (n : Nat) : Int32 := nI n - 1
theorem pn_x0 : pn_x 0 = -1 := rfl
theorem pn_xs (n : Nat) : pn_x (n + 1) = nI n := nI_pred n
theorem pn_xp {n : Nat} (h : 0 < n) : pn_x n = nI (n - 1) := pn_pred h
theorem pn_x1 (n : Nat) : pn_x n + 1 = nI n := by unfold pn_x; simp
theorem pn_xeq0 {a b : Nat} (ha : a < 2 ^ 31) (hb : b < 2 ^ 31) (h : nI a = nI (b + 1)) : a = b + 1 := by
  have h1 : (nI a).toBitVec.toNat = (nI (b + 1)).toBitVec.toNat := by rw [h]
  rw [pk_tn (by omega), pk_tn (by omega)] at h1
  exact h1
theorem pn_xeq {a b : Nat} (ha : a < 2 ^ 31) (hb : b < 2 ^ 31) : (pn_x a = nI b) = (a = b + 1) := by
  refine propext ⟨fun h => ?_, fun h => ?_⟩
  · have h2 : pn_x a + 1 = nI b + 1 := by rw [h]
    rw [pn_x1, nI_1] at h2
    exact pn_xeq0 ha hb h2
  · rw [h, pn_xs]
theorem pn_xm1 {a : Nat} (ha : a < 2 ^ 31) : (pn_x a = -1) = (a = 0) := by
  refine propext ⟨fun h => ?_, fun h => by rw [h]; rfl⟩
  cases a with
  | zero => rfl
  | succ k => rw [pn_xs, pn_neg (by omega)] at h; exact h.elim

theorem pn_256 {i : Nat} (h : 8 ≤ i) : 256 ≤ 2 ^ i := Nat.pow_le_pow_right (n := 2) (by omega) h
/-- a set of men as a number -/
def pt_set (n : Nat) (p : Nat → Bool) : Nat := match n with
  | 0 => 0
  | k + 1 => pt_set k p ||| (if p k = true then 2 ^ k else 0)
theorem tz_lt (n : Nat) (p : Nat → Bool) : pt_set n p < 2 ^ n := by
  induction n with
  | zero => exact Nat.one_pos
  | succ k ih =>
    unfold pt_set
    refine Nat.or_lt_two_pow (Nat.lt_trans ih (Nat.pow_lt_pow_right (by omega) (by omega))) ?_
    split
    · exact Nat.pow_lt_pow_right (by omega) (by omega)
    · exact Nat.two_pow_pos _
theorem tz_256 {n : Nat} {p : Nat → Bool} (h : n ≤ 8) : pt_set n p < 256 := Nat.lt_of_lt_of_le (tz_lt n p) (Nat.pow_le_pow_right (n := 2) (by omega) h)
theorem tz_bit (n : Nat) (p : Nat → Bool) (j : Nat) : (pt_set n p).testBit j = (decide (j < n) && p j) := by
  induction n with
  | zero => simp [pt_set]
  | succ k ih =>
    unfold pt_set
    rw [Nat.testBit_or, ih]
    by_cases hj : j = k
    · subst hj
      cases hp : p j <;> simp [hp, Nat.testBit_two_pow_self]
    · have h1 : (if p k = true then 2 ^ k else 0).testBit j = false := by
        split
        · exact Nat.testBit_two_pow_of_ne (fun q => hj q.symm)
        · simp
      rw [h1]
      have h2 : decide (j < k + 1) = decide (j < k) := by
        apply decide_eq_decide.mpr
        omega
      rw [h2, Bool.or_false]
theorem tz_congr {n : Nat} {p q : Nat → Bool} (h : ∀ j, j < n → p j = q j) : pt_set n p = pt_set n q := by
  induction n with
  | zero => rfl
  | succ k ih =>
    unfold pt_set
    rw [ih (fun j hj => h j (by omega)), h k (by omega)]
theorem tz_ext {a b : Nat} (ha : a < 256) (hb : b < 256) (h : ∀ j, j < 8 → a.testBit j = b.testBit j) : a = b := by
  apply Nat.eq_of_testBit_eq
  intro i
  by_cases hi : i < 8
  · exact h i hi
  · have e : (256 : Nat) ≤ 2 ^ i := pn_256 (show 8 ≤ i by omega)
    rw [Nat.testBit_lt_two_pow (Nat.lt_of_lt_of_le ha e), Nat.testBit_lt_two_pow (Nat.lt_of_lt_of_le hb e)]
/-- a loop that gathers a set -/
theorem pl_set {F : Nat → Int32 → Int32 → Option Int32} {n : Nat} {p : Nat → Bool} (hn : n ≤ 8) (h0 : ∀ k s, F (k + 1) s (nI n) = some s) (h1 : ∀ k s j, j < n → F (k + 1) (nI s) (nI j) = F k (nI (s ||| (if p j = true then 2 ^ j else 0))) (nI (j + 1))) : F 1000 0 0 = some (nI (pt_set n p)) := by
  have key : ∀ i j k, j + i = n → i < k → F k (nI (pt_set j p)) (nI j) = some (nI (pt_set n p)) := by
    intro i
    induction i with
    | zero =>
      intro j k hj hk
      obtain ⟨k, rfl⟩ : ∃ q, k = q + 1 := ⟨k - 1, by omega⟩
      rw [show j = n by omega, h0]
    | succ i ih =>
      intro j k hj hk
      obtain ⟨k, rfl⟩ : ∃ q, k = q + 1 := ⟨k - 1, by omega⟩
      rw [h1 k _ j (by omega)]
      exact ih (j + 1) k (by omega) (by omega)
  exact key n 0 1000 (by omega) (by omega)
/-- a loop over a state -/
theorem pl_rel {σ τ : Type} {F : Nat → Int32 → σ → Option τ} {n : Nat} (P : Nat → σ → Prop) {Q : τ → Prop}
    (h0 : ∀ k s, P n s → ∃ t, F (k + 1) (nI n) s = some t ∧ Q t)
    (h1 : ∀ k j s, j < n → P j s → ∃ s', F (k + 1) (nI j) s = F k (nI (j + 1)) s' ∧ P (j + 1) s') :
    ∀ (k : Nat) (s : σ), n < k → P 0 s → ∃ t, F k 0 s = some t ∧ Q t := by
  have key : ∀ i j k s, j + i = n → i < k → P j s → ∃ t, F k (nI j) s = some t ∧ Q t := by
    intro i
    induction i with
    | zero =>
      intro j k s hj hk hP
      obtain ⟨k, rfl⟩ : ∃ q, k = q + 1 := ⟨k - 1, by omega⟩
      obtain rfl : j = n := by omega
      exact h0 k s hP
    | succ i ih =>
      intro j k s hj hk hP
      obtain ⟨k, rfl⟩ : ∃ q, k = q + 1 := ⟨k - 1, by omega⟩
      obtain ⟨s', e, hP'⟩ := h1 k j s (by omega) hP
      rw [e]
      exact ih (j + 1) k s' (by omega) (by omega) hP'
  intro k s hk hP
  exact key n 0 k s (by omega) hk hP
/-- the same with a measure, from any j on -/
theorem pl_from {σ τ : Type} {F : Nat → Int32 → σ → Option τ} {n : Nat} (P : Nat → σ → Prop) {Q : τ → Prop}
    (h0 : ∀ k s, P n s → ∃ t, F (k + 1) (nI n) s = some t ∧ Q t)
    (h1 : ∀ k j s, j < n → P j s → (∃ t, F (k + 1) (nI j) s = some t ∧ Q t) ∨ ∃ s', F (k + 1) (nI j) s = F k (nI (j + 1)) s' ∧ P (j + 1) s') :
    ∀ (k j : Nat) (s : σ), n < j + k → j ≤ n → P j s → ∃ t, F k (nI j) s = some t ∧ Q t := by
  intro k
  induction k with
  | zero => intro j s h hj; omega
  | succ k ih =>
    intro j s h hj hP
    by_cases e : j = n
    · subst e; exact h0 k s hP
    · rcases h1 k j s (by omega) hP with q | ⟨s', e, hP'⟩
      · exact q
      · rw [e]; exact ih (j + 1) s' (by omega) (by omega) hP'
theorem pb_t {b : Bool} {α : Sort _} {x y : α} (h : b = true) : (if b = true then x else y) = x := if_pos h
theorem pb_f {b : Bool} {α : Sort _} {x y : α} (h : b = false) : (if b = true then x else y) = y := if_neg (by rw [h]; decide)
theorem pn_uI_ne {I : bm_TI} {o k : Nat} {v : Int32} {a b : Nat} (h : a ≠ o) : bm_uI I o k v a b = I a b := by unfold bm_uI; rw [if_neg h]
theorem pn_uI_ne2 {I : bm_TI} {o k : Nat} {v : Int32} {b : Nat} (h : b ≠ k) : bm_uI I o k v o b = I o b := by unfold bm_uI; rw [if_pos rfl, if_neg h]
theorem pn_uI_eq {I : bm_TI} {o k : Nat} {v : Int32} : bm_uI I o k v o k = v := by unfold bm_uI; rw [if_pos rfl, if_pos rfl]
theorem pn_uI_row {I : bm_TI} {o k : Nat} {v : Int32} {a : Nat} (h : a ≠ o) : bm_uI I o k v a = I a := by funext b; exact pn_uI_ne h
theorem pn_uI_at {I : bm_TI} {o k : Nat} {v : Int32} (b : Nat) : bm_uI I o k v o b = if b = k then v else I o b := by unfold bm_uI; rw [if_pos rfl]
theorem pn_yI_ne {I : bm_TI} {a b sp dp z o j : Nat} (h : o ≠ b) : bm_yI I a b sp dp z o j = I o j := by unfold bm_yI; rw [if_neg h]
theorem pn_yI_row {I : bm_TI} {a b sp dp z o : Nat} (h : o ≠ b) : bm_yI I a b sp dp z o = I o := by funext j; exact pn_yI_ne h
theorem pn_yI_at {I : bm_TI} {a b z j : Nat} (h : j < z) : bm_yI I a b 0 0 z b j = I a j := by
  unfold bm_yI
  rw [if_pos rfl]
  unfold va_cpy
  rw [if_pos (by omega)]
  congr 1
  omega
theorem pn_yI_hi {I : bm_TI} {a b z j : Nat} (h : z ≤ j) : bm_yI I a b 0 0 z b j = I b j := by
  unfold bm_yI
  rw [if_pos rfl]
  unfold va_cpy
  rw [if_neg (by omega)]

theorem pn_shlN {m : Nat} (h : m < 31) : bm_ishl (nI 1) (nI m) = nI (2 ^ m) := pn_shl h
theorem pn_mone : -nI 1 = pn_x 0 := rfl
theorem pn_xeq2 {a b : Nat} (ha : a < 2 ^ 31) (hb : b < 2 ^ 31) : (nI b = pn_x a) = (a = b + 1) := by
  rw [← pn_xeq ha hb]
  exact propext ⟨fun h => h.symm, fun h => h.symm⟩
theorem pn_xx {a b : Nat} (ha : a < 2 ^ 31) (hb : b < 2 ^ 31) : (pn_x a = pn_x b) = (a = b) := by
  cases b with
  | zero => rw [pn_x0, pn_xm1 ha]
  | succ b => rw [pn_xs, pn_xeq ha (by omega)]
theorem pn_xT {a : Nat} (ha : a < 2 ^ 31) : (pn_x a).toInt = (a : Int) - 1 := by
  cases a with
  | zero => rfl
  | succ a => rw [pn_xs, nI_toInt (by omega)]; omega
theorem pn_xlt {a : Nat} (ha : a < 2 ^ 31) : (pn_x a < nI 0) = (a = 0) := by
  rw [Int32.lt_iff_toInt_lt, pn_xT ha, nI_toInt (by omega)]
  exact propext ⟨fun h => by omega, fun h => by omega⟩
theorem pn_xge {a : Nat} (ha : a < 2 ^ 31) : (nI 0 ≤ pn_x a) = (0 < a) := by
  rw [Int32.le_iff_toInt_le, pn_xT ha, nI_toInt (by omega)]
  exact propext ⟨fun h => by omega, fun h => by omega⟩
theorem pn_xadd (a : Nat) : pn_x a + nI 1 = nI a := pn_x1 a
theorem pn_uI_hit {I : bm_TI} {o k : Nat} {v : Int32} {b : Nat} (h : b = k) : bm_uI I o k v o b = v := by subst h; exact pn_uI_eq
/-- the first one of which it holds, and 1; 0: none -/
def pt_fnd (n : Nat) (p : Nat → Bool) : Nat := match n with
  | 0 => 0
  | k + 1 => if pt_fnd k p = 0 then (if p k = true then k + 1 else 0) else pt_fnd k p
theorem tf_le (n : Nat) (p : Nat → Bool) : pt_fnd n p ≤ n := by
  induction n with
  | zero => exact Nat.le_refl _
  | succ k ih => unfold pt_fnd; split <;> (try split) <;> omega
theorem tf_some {n j : Nat} {p : Nat → Bool} (h : pt_fnd n p = j + 1) : j < n ∧ p j = true := by
  induction n with
  | zero => cases h
  | succ k ih =>
    unfold pt_fnd at h
    by_cases h0 : pt_fnd k p = 0
    · rw [if_pos h0] at h
      by_cases hp : p k = true
      · rw [if_pos hp] at h
        obtain rfl : k = j := by omega
        exact ⟨by omega, hp⟩
      · rw [if_neg hp] at h; cases h
    · rw [if_neg h0] at h
      have := ih h
      exact ⟨by omega, this.2⟩
theorem tf_none {n : Nat} {p : Nat → Bool} (h : pt_fnd n p = 0) : ∀ j, j < n → p j = false := by
  induction n with
  | zero => intro j hj; omega
  | succ k ih =>
    unfold pt_fnd at h
    by_cases h0 : pt_fnd k p = 0
    · rw [if_pos h0] at h
      by_cases hp : p k = true
      · rw [if_pos hp] at h; omega
      · intro j hj
        by_cases e : j = k
        · subst e; simpa using hp
        · exact ih h0 j (by omega)
    · rw [if_neg h0] at h; exact absurd h h0
theorem tf_congr {n : Nat} {p q : Nat → Bool} (h : ∀ j, j < n → p j = q j) : pt_fnd n p = pt_fnd n q := by
  induction n with
  | zero => rfl
  | succ k ih =>
    unfold pt_fnd
    rw [ih (fun j hj => h j (by omega)), h k (by omega)]
/-- from j on: nothing found ahead of j -/
theorem tf_step {n j : Nat} {p : Nat → Bool} (hj : j < n) (h0 : pt_fnd j p = 0) (hp : p j = true) : pt_fnd n p = j + 1 := by
  induction n with
  | zero => omega
  | succ k ih =>
    by_cases e : j = k
    · subst e; unfold pt_fnd; rw [if_pos h0, if_pos hp]
    · have := ih (by omega)
      unfold pt_fnd
      rw [this, if_neg (by omega)]
theorem pl_find {F : Nat → Int32 → Option (Int32 ⊕ Unit)} {n : Nat} {p : Nat → Bool} (hn : n < 1000) (h0 : ∀ k, F (k + 1) (nI n) = some (.inr ())) (h1 : ∀ k j, j < n → F (k + 1) (nI j) = if p j = true then some (.inl (nI j)) else F k (nI (j + 1))) : F 1000 0 = some (if pt_fnd n p = 0 then .inr () else .inl (nI (pt_fnd n p - 1))) := by
  have key : ∀ i j k, j + i = n → i < k → pt_fnd j p = 0 → F k (nI j) = some (if pt_fnd n p = 0 then .inr () else .inl (nI (pt_fnd n p - 1))) := by
    intro i
    induction i with
    | zero =>
      intro j k hj hk hf
      obtain ⟨k, rfl⟩ : ∃ q, k = q + 1 := ⟨k - 1, by omega⟩
      obtain rfl : j = n := by omega
      rw [h0, if_pos hf]
    | succ i ih =>
      intro j k hj hk hf
      obtain ⟨k, rfl⟩ : ∃ q, k = q + 1 := ⟨k - 1, by omega⟩
      rw [h1 k j (by omega)]
      by_cases hp : p j = true
      · rw [if_pos hp, tf_step (by omega) hf hp, if_neg (by omega), Nat.add_sub_cancel]
      · rw [if_neg hp]
        refine ih (j + 1) k (by omega) (by omega) ?_
        unfold pt_fnd
        rw [if_pos hf, if_neg hp]
  exact key n 0 1000 (by omega) hn rfl
/-- a loop whose states are a row -/
theorem pl_row {σ τ : Type} {F : Nat → Nat → σ → Option τ} {n : Nat} {t : τ} (acc : Nat → σ) (h0 : ∀ k, F (k + 1) n (acc n) = some t) (h1 : ∀ k j, j < n → F (k + 1) j (acc j) = F k (j + 1) (acc (j + 1))) : ∀ k, n < k → F k 0 (acc 0) = some t := by
  have key : ∀ i j k, j + i = n → i < k → F k j (acc j) = some t := by
    intro i
    induction i with
    | zero =>
      intro j k hj hk
      obtain ⟨k, rfl⟩ : ∃ q, k = q + 1 := ⟨k - 1, by omega⟩
      obtain rfl : j = n := by omega
      exact h0 k
    | succ i ih =>
      intro j k hj hk
      obtain ⟨k, rfl⟩ : ∃ q, k = q + 1 := ⟨k - 1, by omega⟩
      rw [h1 k j (by omega)]
      exact ih (j + 1) k (by omega) (by omega)
  intro k hk
  exact key n 0 k (by omega) hk
theorem pn_subx (n : Nat) : nI n - nI 1 = pn_x n := rfl
theorem pn_addx (n : Nat) : nI n + pn_x 0 = pn_x n := by
  show nI n + (nI 0 - 1) = nI n - 1
  rw [show (nI 0 - 1 : Int32) = -1 from rfl, Int32.sub_eq_add_neg]
theorem pn_add0 (n : Nat) : nI n + nI 0 = nI n := by rw [nI_add, Nat.add_zero]
theorem pn_xltI {a b : Nat} (ha : a < 2 ^ 31) (hb : b < 2 ^ 31) : (pn_x a < nI b) = (a ≤ b) := by
  rw [Int32.lt_iff_toInt_lt, pn_xT ha, nI_toInt hb]
  exact propext ⟨fun h => by omega, fun h => by omega⟩
theorem pn_xleI {a b : Nat} (ha : a < 2 ^ 31) (hb : b < 2 ^ 31) : (nI b ≤ pn_x a) = (b < a) := by
  rw [Int32.le_iff_toInt_le, pn_xT ha, nI_toInt hb]
  exact propext ⟨fun h => by omega, fun h => by omega⟩
theorem pn_xgtI {a b : Nat} (ha : a < 2 ^ 31) (hb : b < 2 ^ 31) : (nI b < pn_x a) = (b + 1 < a) := by
  rw [Int32.lt_iff_toInt_lt, pn_xT ha, nI_toInt hb]
  exact propext ⟨fun h => by omega, fun h => by omega⟩
theorem pn_xgeI {a b : Nat} (ha : a < 2 ^ 31) (hb : b < 2 ^ 31) : (pn_x a ≤ nI b) = (a ≤ b + 1) := by
  rw [Int32.le_iff_toInt_le, pn_xT ha, nI_toInt hb]
  exact propext ⟨fun h => by omega, fun h => by omega⟩
