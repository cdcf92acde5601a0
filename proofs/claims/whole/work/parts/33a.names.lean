/-! names as numbers -/
theorem lz_c : ∀ k, k < 64 → ((nI k).toInt64 &&& 63) = lN k := by decide +kernel
theorem lz_sm : ∀ k, k < 64 → (BitVec.ofNat 64 k).smod 64 = BitVec.ofNat 64 k := by decide +kernel
theorem lz_or {a k : Nat} (b : Nat) (h : a < 2 ^ k) : lN (b * 2 ^ k) ||| lN a = lN (b * 2 ^ k + a) := by
  have e : lN (b * 2 ^ k) ||| lN a = lN (b * 2 ^ k ||| a) := by
    apply Int64.toBitVec_inj.1
    show BitVec.ofNat 64 _ ||| BitVec.ofNat 64 a = BitVec.ofNat 64 _
    apply BitVec.eq_of_getLsbD_eq
    intro i hi
    simp [hi]
  rw [e, Nat.mul_comm b, Nat.two_pow_add_eq_or_of_lt h]
theorem lz_shl {n k : Nat} (hk : k < 64) (h : n * 2 ^ k < 2 ^ 63) : bm_lshl (lN n) (nI k) = lN (n * 2 ^ k) := by
  have hn : n < 2 ^ 63 := Nat.lt_of_le_of_lt (Nat.le_mul_of_pos_right n (Nat.two_pow_pos k)) h
  unfold bm_lshl
  rw [lz_c k hk]
  apply Int64.toBitVec_inj.1
  rw [Int64.toBitVec_shiftLeft]
  show BitVec.ofNat 64 n <<< (BitVec.ofNat 64 k).smod 64 = BitVec.ofNat 64 (n * 2 ^ k)
  rw [lz_sm k hk]
  apply BitVec.eq_of_toNat_eq
  rw [BitVec.shiftLeft_eq', BitVec.toNat_shiftLeft, BitVec.toNat_ofNat, BitVec.toNat_ofNat, BitVec.toNat_ofNat, Nat.mod_eq_of_lt (show k < 2 ^ 64 by omega), Nat.shiftLeft_eq, Nat.mod_eq_of_lt (show n < 2 ^ 64 by omega)]
theorem lz_shr {n k : Nat} (hn : n < 2 ^ 62) (hk : k < 64) : bm_lshr (lN n) (nI k) = lN (n / 2 ^ k) := by
  have hq : n / 2 ^ k ≤ n := Nat.div_le_self _ _
  unfold bm_lshr
  rw [lz_c k hk]
  apply Int64.toInt_inj.mp
  have e : (lN n >>> lN k).toInt = (lN n).toInt >>> k := by
    have h1 : (((lN k).toBitVec).smod 64).toNat = k := by
      show ((BitVec.ofNat 64 k).smod 64).toNat = k
      rw [lz_sm k hk, BitVec.toNat_ofNat, Nat.mod_eq_of_lt (by omega)]
    have h2 : (lN n >>> lN k).toInt = (lN n).toInt >>> (((lN k).toBitVec).smod 64).toNat := BitVec.toInt_sshiftRight ..
    rw [h2, h1]
  rw [e, Int.shiftRight_eq_div_pow, pk_lT (by omega), pk_lT (by omega)]
  rfl
theorem lz_mask (n k : Nat) : lN n &&& lN (2 ^ k - 1) = lN (n % 2 ^ k) := by
  rw [← Nat.and_two_pow_sub_one_eq_mod]
  generalize 2 ^ k - 1 = m
  apply Int64.toBitVec_inj.1
  show BitVec.ofNat 64 n &&& BitVec.ofNat 64 m = BitVec.ofNat 64 (n &&& m)
  apply BitVec.eq_of_getLsbD_eq
  intro i hi
  simp [hi]
theorem lz_31 (n : Nat) : lN n &&& 31 = lN (n % 32) := lz_mask n 5
theorem lz_255 (n : Nat) : lN n &&& 255 = lN (n % 256) := lz_mask n 8
/-- a list of figures as a number -/
def nm_v (b : Nat) (l : List Nat) : Nat := l.foldl (fun x d => x * b + d) 0
theorem nm_v_snoc (b : Nat) (l : List Nat) (d : Nat) : nm_v b (l ++ [d]) = nm_v b l * b + d := by unfold nm_v; rw [List.foldl_append]; rfl
/-- its figures that are not 0, the last n -/
def nm_o (b N n : Nat) : List Nat := match n with
  | 0 => []
  | k + 1 => nm_o b (N / b) k ++ (if N % b = 0 then [] else [N % b])
theorem nm_o_0 (b n : Nat) : nm_o b 0 n = [] := by
  induction n with
  | zero => rfl
  | succ k ih => unfold nm_o; rw [Nat.zero_div, ih, Nat.zero_mod]; rfl
theorem nm_o_v {b : Nat} (hb : 0 < b) : ∀ (n : Nat) (l : List Nat), (∀ d, d ∈ l → 0 < d ∧ d < b) → l.length ≤ n → nm_o b (nm_v b l) n = l := by
  intro n
  induction n with
  | zero => intro l _ hl; obtain rfl : l = [] := List.length_eq_zero_iff.mp (by omega); rfl
  | succ k ih =>
    intro l hd hl
    rcases List.eq_nil_or_concat l with rfl | ⟨L, d, rfl⟩
    · exact nm_o_0 b _
    · rw [List.concat_eq_append] at hd hl ⊢
      rw [List.length_append] at hl
      have h1 := hd d (by simp)
      rw [nm_v_snoc, nm_o, Nat.mul_comm, Nat.mul_add_div hb, Nat.mul_add_mod, Nat.div_eq_of_lt h1.2, Nat.mod_eq_of_lt h1.2, Nat.add_zero, if_neg (by omega), ih L (fun q hq => hd q (by simp [hq])) (by simp at hl; omega)]
/-- the same, from the first figure on -/
def nm_t (b N n : Nat) : List Nat := match n with
  | 0 => []
  | k + 1 => (if (N / b ^ k) % b = 0 then [] else [(N / b ^ k) % b]) ++ nm_t b N k
theorem nm_t_last (b N n : Nat) : nm_t b N (n + 1) = nm_t b (N / b) n ++ (if N % b = 0 then [] else [N % b]) := by
  induction n with
  | zero => unfold nm_t nm_t; rw [Nat.pow_zero, Nat.div_one, List.append_nil, List.nil_append]
  | succ k ih =>
    rw [nm_t, ih, nm_t, show N / b ^ (k + 1) = N / b / b ^ k by rw [Nat.div_div_eq_div_mul, Nat.pow_succ, Nat.mul_comm], List.append_assoc]
theorem nm_t_o (b n : Nat) : ∀ N, nm_t b N n = nm_o b N n := by
  induction n with
  | zero => intro N; rfl
  | succ k ih => intro N; rw [nm_t_last, ih, nm_o]
theorem nm_v_inj {b : Nat} (hb : 0 < b) {l m : List Nat} (hl : ∀ d, d ∈ l → 0 < d ∧ d < b) (hm : ∀ d, d ∈ m → 0 < d ∧ d < b) (h : nm_v b l = nm_v b m) : l = m := by
  have e1 := nm_o_v hb (l.length + m.length) l hl (by omega)
  have e2 := nm_o_v hb (l.length + m.length) m hm (by omega)
  rw [h] at e1
  exact e1.symm.trans e2
theorem pack_1 {x c : Nat} (hx : x < 2 ^ 57) (h1 : 97 ≤ c) (h2 : c ≤ 122) : f_X10_packLetter (lN x) (nI c) = lN (x * 32 + (c - 96)) := by
  unfold f_X10_packLetter
  rw [show (97 : Int32) = nI 97 from rfl, pk_sub h1, nI_1, show (5 : Int32) = nI 5 from rfl, lz_shl (by omega) (by omega), nI_l (by omega), show (2 : Nat) ^ 5 = 32 from rfl, show x * 32 = x * 2 ^ 5 from rfl, lz_or x (by omega), show c - 97 + 1 = c - 96 by omega]
theorem pack_2 {x c : Nat} (hx : x < 2 ^ 54) (h2 : c < 256) : bm_lshl (lN x) 8 ||| (nI c).toInt64 = lN (x * 256 + c) := by
  rw [show (8 : Int32) = nI 8 from rfl, lz_shl (by omega) (by omega), nI_l (by omega), lz_or x (by omega)]
theorem nm_5_fold : ∀ (l : List Nat) (x n : Nat), (∀ c, c ∈ l → 97 ≤ c ∧ c ≤ 122) → x < 32 ^ n → n + l.length ≤ 8 → l.foldl (fun x c => f_X10_packLetter x (nI c)) (lN x) = lN ((l.map (· - 96)).foldl (fun x d => x * 32 + d) x) ∧ (l.map (· - 96)).foldl (fun x d => x * 32 + d) x < 32 ^ (n + l.length) := by
  intro l
  induction l with
  | nil => intro x n _ hx _; exact ⟨rfl, hx⟩
  | cons c l ih =>
    intro x n hc hx hn
    have h1 := hc c (by simp)
    have hn' : n + 1 + l.length ≤ 8 := by simp at hn; omega
    have hb : x < 2 ^ 57 := Nat.lt_of_lt_of_le hx (Nat.le_trans (Nat.pow_le_pow_right (n := 32) (by omega) (show n ≤ 8 by omega)) (by decide))
    have h2 : x * 32 + (c - 96) < 32 ^ (n + 1) := by rw [Nat.pow_succ]; omega
    have := ih (x * 32 + (c - 96)) (n + 1) (fun q hq => hc q (by simp [hq])) h2 hn'
    rw [List.foldl_cons, List.map_cons, List.foldl_cons, pack_1 hb h1.1 h1.2]
    refine ⟨this.1, ?_⟩
    rw [show n + (c :: l).length = n + 1 + l.length by simp; omega]
    exact this.2
theorem nm_8_fold : ∀ (l : List Nat) (x n : Nat), (∀ c, c ∈ l → c < 256) → x < 256 ^ n → n + l.length ≤ 7 → l.foldl (fun w c => bm_lshl w 8 ||| (nI c).toInt64) (lN x) = lN (l.foldl (fun x d => x * 256 + d) x) ∧ l.foldl (fun x d => x * 256 + d) x < 256 ^ (n + l.length) := by
  intro l
  induction l with
  | nil => intro x n _ hx _; exact ⟨rfl, hx⟩
  | cons c l ih =>
    intro x n hc hx hn
    have h1 := hc c (by simp)
    have hn' : n + 1 + l.length ≤ 7 := by simp at hn; omega
    have hb : x < 2 ^ 54 := Nat.lt_of_lt_of_le hx (Nat.le_trans (Nat.pow_le_pow_right (n := 256) (by omega) (show n ≤ 6 by omega)) (by decide))
    have h2 : x * 256 + c < 256 ^ (n + 1) := by rw [Nat.pow_succ]; omega
    have := ih (x * 256 + c) (n + 1) (fun q hq => hc q (by simp [hq])) h2 hn'
    rw [List.foldl_cons, List.foldl_cons, pack_2 hb h1]
    refine ⟨this.1, ?_⟩
    rw [show n + (c :: l).length = n + 1 + l.length by simp; omega]
    exact this.2
theorem nm_5_v {l : List Nat} (h : nm_L l) : nm_5 l = lN (nm_v 32 (l.map (· - 96))) ∧ nm_v 32 (l.map (· - 96)) < 2 ^ 35 := by
  have := nm_5_fold l 0 0 h.2.2 (by decide) (by have := h.2.1; omega)
  refine ⟨this.1, Nat.lt_of_lt_of_le this.2 (Nat.le_trans (Nat.pow_le_pow_right (n := 32) (by omega) (show 0 + l.length ≤ 7 by have := h.2.1; omega)) (by decide))⟩
theorem nm_8_v {l : List Nat} (h : nm_L l) : nm_8 l = lN (nm_v 256 l) ∧ nm_v 256 l < 2 ^ 56 := by
  have := nm_8_fold l 0 0 (fun c hc => by have := h.2.2 c hc; omega) (by decide) (by have := h.2.1; omega)
  refine ⟨this.1, Nat.lt_of_lt_of_le this.2 (Nat.le_trans (Nat.pow_le_pow_right (n := 256) (by omega) (show 0 + l.length ≤ 7 by have := h.2.1; omega)) (by decide))⟩
theorem nm_d5 {l : List Nat} (h : nm_L l) : ∀ d, d ∈ l.map (· - 96) → 0 < d ∧ d < 32 := by
  intro d hd
  obtain ⟨c, hc, rfl⟩ := List.mem_map.mp hd
  have := h.2.2 c hc
  omega
theorem nm_d8 {l : List Nat} (h : nm_L l) : ∀ d, d ∈ l → 0 < d ∧ d < 256 := by
  intro d hd
  have := h.2.2 d hd
  omega
theorem nm_map {l : List Nat} (h : nm_L l) : (l.map (· - 96)).map (· + 96) = l := by
  rw [List.map_map]
  conv => rhs; rw [← List.map_id l]
  apply List.map_congr_left
  intro c hc
  have := h.2.2 c hc
  show c - 96 + 96 = c
  omega
theorem nm_5_inj {l m : List Nat} (hl : nm_L l) (hm : nm_L m) (h : nm_5 l = nm_5 m) : l = m := by
  have h1 := nm_5_v hl
  have h2 := nm_5_v hm
  rw [h1.1, h2.1, pk_lEQ (by omega) (by omega)] at h
  have := nm_v_inj (by omega) (nm_d5 hl) (nm_d5 hm) h
  rw [← nm_map hl, ← nm_map hm, this]
theorem nm_8_inj {l m : List Nat} (hl : nm_L l) (hm : nm_L m) (h : nm_8 l = nm_8 m) : l = m := by
  have h1 := nm_8_v hl
  have h2 := nm_8_v hm
  rw [h1.1, h2.1, pk_lEQ (by omega) (by omega)] at h
  exact nm_v_inj (by omega) (nm_d8 hl) (nm_d8 hm) h
theorem nm_E_iff {x y x' y' : Int64} (h : nm_E x y) (h' : nm_E x' y') : (x = x') = (y = y') := by
  obtain ⟨l, hl, rfl, rfl⟩ := h
  obtain ⟨m, hm, rfl, rfl⟩ := h'
  exact propext ⟨fun e => by rw [nm_5_inj hl hm e], fun e => by rw [nm_8_inj hl hm e]⟩
