/-! reports -/
def tx_c (I : bm_TI) (l : List Nat) : Prop := I 162 1 = nI l.length ∧ ∀ k, k < l.length → I 163 k = nI (l.getD k 0)
def tx_q (I : bm_TI) (l : List Nat) : Prop := I 164 32 = nI l.length ∧ ∀ k, k < l.length → I 174 k = nI (l.getD k 0)
def fx_c (I I' : bm_TI) : Prop := ∀ o k, o ≠ 163 → (o ≠ 162 ∨ k ≠ 1) → I' o k = I o k
def fx_q (I I' : bm_TI) : Prop := ∀ o k, o ≠ 174 → (o ≠ 164 ∨ k ≠ 32) → I' o k = I o k
theorem fc_trans {I I1 I2 : bm_TI} (h1 : fx_c I I1) (h2 : fx_c I1 I2) : fx_c I I2 := fun o k a b => (h2 o k a b).trans (h1 o k a b)
theorem fq_trans {I I1 I2 : bm_TI} (h1 : fx_q I I1) (h2 : fx_q I1 I2) : fx_q I I2 := fun o k a b => (h2 o k a b).trans (h1 o k a b)
theorem fc_refl (I : bm_TI) : fx_c I I := fun _ _ _ _ => rfl
theorem fq_refl (I : bm_TI) : fx_q I I := fun _ _ _ _ => rfl
theorem getD_snoc (l : List Nat) (c k : Nat) : (l ++ [c]).getD k 0 = if k < l.length then l.getD k 0 else if k = l.length then c else 0 := by
  rw [List.getD_eq_getElem?_getD, List.getD_eq_getElem?_getD]
  by_cases h : k < l.length
  · rw [if_pos h, List.getElem?_append_left h]
  · rw [if_neg h]
    by_cases e : k = l.length
    · rw [if_pos e, e]; simp
    · rw [if_neg e, List.getElem?_eq_none (by rw [List.length_append]; show l.length + 1 ≤ k; omega)]; rfl
theorem kc_addByte {I : bm_TI} {l : List Nat} {c : Nat} (hl : l.length < 64) (h : tx_c I l) : ∃ I', f_X6_addByte I (nI c) = some I' ∧ tx_c I' (l ++ [c]) ∧ fx_c I I' := by
  unfold f_X6_addByte
  rw [h.1, if_neg (show ¬ (64 : Int32) ≤ nI l.length from nI_ge (b := 64) hl (by omega)), if_pos (bm_ixk hl (by omega)), nI_clamp (by omega), pn_uI_ne (show 162 ≠ 163 by decide), h.1, nI_1]
  refine ⟨_, rfl, ⟨?_, fun k hk => ?_⟩, fun o k a b => by rw [pn_uI_off b, pn_uI_ne a]⟩
  · rw [pn_uI_hit rfl, List.length_append]; rfl
  · rw [List.length_append] at hk
    have hk' : k < l.length + 1 := hk
    rw [pn_uI_ne (by omega), getD_snoc]
    by_cases e : k = l.length
    · rw [pn_uI_hit e, if_neg (by omega), if_pos e]
    · rw [pn_uI_ne2 e, if_pos (by omega)]; exact h.2 k (by omega)
theorem pn_nar7 : ∀ c, c < 128 → vp_nar .byte (nI c).toInt8.toInt32 = nI c := by
  intro c hc
  rw [pk_vb]
  exact (by decide +kernel : ∀ c, c < 128 → (nI c).toInt8.toInt32 = nI c) c hc
theorem pq_lays {I : bm_TI} {l : List Nat} {c : Nat} (hc : c < 128) (hl : l.length < 48) (h : tx_q I l) : ∃ I', f_X12_lays I (nI c) = some I' ∧ tx_q I' (l ++ [c]) ∧ fx_q I I' := by
  unfold f_X12_lays
  rw [h.1, if_pos (bm_ixk hl (by omega)), nI_clamp (by omega), pn_uI_ne (show 164 ≠ 174 by decide), h.1, nI_1, pn_nar7 c hc]
  refine ⟨_, rfl, ⟨?_, fun k hk => ?_⟩, fun o k a b => by rw [pn_uI_off b, pn_uI_ne a]⟩
  · rw [pn_uI_hit rfl, List.length_append]; rfl
  · rw [List.length_append] at hk
    have hk' : k < l.length + 1 := hk
    rw [pn_uI_ne (by omega), getD_snoc]
    by_cases e : k = l.length
    · rw [pn_uI_hit e, if_neg (by omega), if_pos e]
    · rw [pn_uI_ne2 e, if_pos (by omega)]; exact h.2 k (by omega)
theorem kc_name_l {N : Nat} (hN : N < 2 ^ 35) : ∀ (n k : Nat) (I : bm_TI) (l : List Nat), n < k → n ≤ 7 → l.length + n ≤ 64 → tx_c I l → ∃ I', f_X6_addName_l3 (lN N) k (nI (5 * n) + (-5)) I = some I' ∧ tx_c I' (l ++ (nm_t 32 N n).map (· + 96)) ∧ fx_c I I' := by
  intro n
  induction n with
  | zero =>
    intro k I l hk _ hl h
    obtain ⟨k, rfl⟩ : ∃ q, k = q + 1 := ⟨k - 1, by omega⟩
    rw [f_X6_addName_l3, if_pos (show nI (5 * 0) + (-5) < 0 by decide)]
    exact ⟨I, rfl, by rw [nm_t, List.map_nil, List.append_nil]; exact h, fc_refl I⟩
  | succ n ih =>
    intro k I l hk hn hl h
    obtain ⟨k, rfl⟩ : ∃ q, k = q + 1 := ⟨k - 1, by omega⟩
    have es : nI (5 * (n + 1)) + (-5) = nI (5 * n) := by
      rw [show 5 * (n + 1) = 5 * n + 5 by omega, ← nI_add]
      rw [Int32.add_assoc, show nI 5 + (-5) = 0 from rfl, Int32.add_zero]
    have ed : ((bm_lshr (lN N) (nI (5 * n))) &&& 31).toInt32 = nI ((N / 32 ^ n) % 32) := by
      rw [lz_shr (by omega) (by omega), lz_31, lN_i, Nat.pow_mul]
    have hm : (N / 32 ^ n) % 32 < 32 := Nat.mod_lt _ (by omega)
    rw [f_X6_addName_l3, es, if_neg (nI_pos (by omega)), ed, nm_t]
    by_cases hz : (N / 32 ^ n) % 32 = 0
    · rw [if_pos (show nI _ ≤ 0 by rw [hz]; decide), if_pos hz, List.nil_append]
      exact ih k I l (by omega) (by omega) (by omega) h
    · rw [if_neg (nI_nle (by omega) (by omega)), if_neg hz, show (97 : Int32) + nI ((N / 32 ^ n) % 32) - 1 = nI ((N / 32 ^ n) % 32 + 96) from by rw [show (97 : Int32) = nI 97 from rfl, nI_add, pn_pred (by omega)]; congr 1; omega]
      obtain ⟨I1, e1, t1, f1⟩ := kc_addByte (c := (N / 32 ^ n) % 32 + 96) (by omega) h
      rw [e1]
      simp only [Option.bind_some]
      obtain ⟨I2, e2, t2, f2⟩ := ih k I1 _ (by omega) (by omega) (by rw [List.length_append]; show l.length + 1 + n ≤ 64; omega) t1
      refine ⟨I2, e2, ?_, fc_trans f1 f2⟩
      rw [List.map_append, ← List.append_assoc]
      exact t2
theorem nm_t_mem {b N i n : Nat} (hi : i < n) (h : (N / b ^ i) % b ≠ 0) : (N / b ^ i) % b ∈ nm_t b N n := by
  induction n with
  | zero => omega
  | succ k ih =>
    rw [nm_t]
    by_cases e : i = k
    · subst e; rw [if_neg h]; simp
    · exact List.mem_append_right _ (ih (by omega))
theorem pq_name_l {N : Nat} (hN : N < 2 ^ 56) (hd : ∀ i, i < 8 → (N / 256 ^ i) % 256 < 128) : ∀ (n k : Nat) (I : bm_TI) (l : List Nat), n < k → n ≤ 8 → l.length + (nm_t 256 N n).length ≤ 48 → tx_q I l → ∃ I', f_X12_spells_l3 (lN N) k (nI (8 * n) + (-8)) I = some I' ∧ tx_q I' (l ++ nm_t 256 N n) ∧ fx_q I I' := by
  intro n
  induction n with
  | zero =>
    intro k I l hk _ hl h
    obtain ⟨k, rfl⟩ : ∃ q, k = q + 1 := ⟨k - 1, by omega⟩
    rw [f_X12_spells_l3, if_pos (show nI (8 * 0) + (-8) < 0 by decide)]
    exact ⟨I, rfl, by rw [nm_t, List.append_nil]; exact h, fq_refl I⟩
  | succ n ih =>
    intro k I l hk hn hl h
    obtain ⟨k, rfl⟩ : ∃ q, k = q + 1 := ⟨k - 1, by omega⟩
    have es : nI (8 * (n + 1)) + (-8) = nI (8 * n) := by
      rw [show 8 * (n + 1) = 8 * n + 8 by omega, ← nI_add]
      rw [Int32.add_assoc, show nI 8 + (-8) = 0 from rfl, Int32.add_zero]
    have ed : (bm_lshr (lN N) (nI (8 * n))) &&& 255 = lN ((N / 256 ^ n) % 256) := by
      rw [lz_shr (by omega) (by omega), lz_255, Nat.pow_mul]
    have hm : (N / 256 ^ n) % 256 < 256 := Nat.mod_lt _ (by omega)
    have hc : (lg_cmp (lN ((N / 256 ^ n) % 256)) 0 = 0) = ((N / 256 ^ n) % 256 = 0) := by
      unfold lg_cmp
      refine propext ⟨fun e => ?_, fun e => by rw [e]; decide⟩
      apply Classical.byContradiction
      intro hz
      have h1 : lN ((N / 256 ^ n) % 256) > 0 := (pk_lLT (a := 0) (by omega) (by omega)).mpr (by omega)
      rw [if_pos h1] at e
      exact absurd e (by decide)
    rw [f_X12_spells_l3, es, if_neg (nI_pos (by omega)), ed, lN_i]
    rw [nm_t] at hl ⊢
    simp only [hc]
    by_cases hz : (N / 256 ^ n) % 256 = 0
    · rw [if_pos hz, List.nil_append] at hl
      rw [if_pos hz, if_pos hz, List.nil_append]
      exact ih k I l (by omega) (by omega) hl h
    · rw [if_neg hz] at hl
      rw [if_neg hz, if_neg hz]
      rw [List.length_append] at hl
      have hl' : l.length + (1 + (nm_t 256 N n).length) ≤ 48 := hl
      obtain ⟨I1, e1, t1, f1⟩ := pq_lays (hd n (by omega)) (by omega) h
      rw [e1]
      simp only [Option.bind_some]
      obtain ⟨I2, e2, t2, f2⟩ := ih k I1 _ (by omega) (by omega) (by rw [List.length_append]; show l.length + 1 + _ ≤ 48; omega) t1
      refine ⟨I2, e2, ?_, fq_trans f1 f2⟩
      rw [← List.append_assoc]
      exact t2
theorem kc_name {I : bm_TI} {l w : List Nat} (hw : nm_L w) (hl : l.length + 7 ≤ 64) (h : tx_c I l) : ∃ I', f_X6_addName I (nm_5 w) = some I' ∧ tx_c I' (l ++ w) ∧ fx_c I I' := by
  have hv := nm_5_v hw
  obtain ⟨I1, e1, t1, f1⟩ := kc_name_l hv.2 7 1000 I l (by omega) (by omega) hl h
  have et : (nm_t 32 (nm_v 32 (w.map (· - 96))) 7).map (· + 96) = w := by
    rw [nm_t_o, nm_o_v (by omega) 7 _ (nm_d5 hw) (by rw [List.length_map]; exact hw.2.1), nm_map hw]
  rw [et] at t1
  refine ⟨I1, ?_, t1, f1⟩
  unfold f_X6_addName
  rw [hv.1, show f_X6_addName_l3 (lN (nm_v 32 (w.map (· - 96)))) 1000 30 I = some I1 from e1]; rfl
theorem pq_name {I : bm_TI} {l w : List Nat} (hw : nm_L w) (hl : l.length + w.length ≤ 48) (h : tx_q I l) : ∃ I', f_X12_spells I (nm_8 w) = some I' ∧ tx_q I' (l ++ w) ∧ fx_q I I' := by
  have hv := nm_8_v hw
  have et : nm_t 256 (nm_v 256 w) 8 = w := by
    rw [nm_t_o, nm_o_v (by omega) 8 _ (nm_d8 hw) (by have := hw.2.1; omega)]
  have hd : ∀ i, i < 8 → (nm_v 256 w / 256 ^ i) % 256 < 128 := fun i hi => by
    by_cases hz : (nm_v 256 w / 256 ^ i) % 256 = 0
    · omega
    · have := nm_t_mem hi hz
      rw [et] at this
      have := hw.2.2 _ this
      omega
  obtain ⟨I1, e1, t1, f1⟩ := pq_name_l hv.2 hd 8 1000 I l (by omega) (by omega) (by rw [et]; exact hl) h
  rw [et] at t1
  refine ⟨I1, ?_, t1, f1⟩
  unfold f_X12_spells
  rw [hv.1, show f_X12_spells_l3 (lN (nm_v 256 w)) 1000 56 I = some I1 from e1]; rfl
theorem pq_says {I : bm_TI} {l w : List Nat} {x : Int64} (hw : nm_L w) (hx : x = nm_8 w) (hl : l.length + 1 + w.length ≤ 48) (h : tx_q I l) : ∃ I', f_X12_says I x = some I' ∧ tx_q I' (l ++ 32 :: w) ∧ fx_q I I' := by
  obtain ⟨I1, e1, t1, f1⟩ := pq_lays (c := 32) (by omega) (by omega) h
  obtain ⟨I2, e2, t2, f2⟩ := pq_name hw (by rw [List.length_append]; show l.length + 1 + _ ≤ 48; omega) t1
  refine ⟨I2, ?_, ?_, fq_trans f1 f2⟩
  · unfold f_X12_says
    rw [show f_X12_lays I 32 = some I1 from e1]
    simp only [Option.bind_some]
    rw [hx, e2]; rfl
  · rw [List.append_assoc] at t2; exact t2
theorem kc_text_l {x : Nat} {w : List Nat} (hx : bm_is x = true) (hw : bm_tx x = w.map nI) (hwl : w.length < 20) : ∀ (n j k : Nat) (I : bm_TI) (l : List Nat), j + n = w.length → n < k → l.length + n ≤ 64 → tx_c I l → ∃ I', f_X6_addText_l2 x k (nI j) I = some I' ∧ tx_c I' (l ++ w.drop j) ∧ fx_c I I' := by
  have hlen : a_strlen x = some (nI w.length) := by
    unfold a_strlen
    rw [if_pos hx, hw, List.length_map]
    exact congrArg some ((by decide +kernel : ∀ n, n < 20 → bm_ishr (Int32.ofNat n) 0 = nI n) _ hwl)
  intro n
  induction n with
  | zero =>
    intro j k I l hj hk _ h
    obtain ⟨k, rfl⟩ : ∃ q, k = q + 1 := ⟨k - 1, by omega⟩
    rw [f_X6_addText_l2, hlen]
    simp only [Option.bind_some]
    rw [if_pos (nI_le (by omega) (by omega))]
    exact ⟨I, rfl, by rw [List.drop_of_length_le (by omega), List.append_nil]; exact h, fc_refl I⟩
  | succ n ih =>
    intro j k I l hj hk hl h
    obtain ⟨k, rfl⟩ : ∃ q, k = q + 1 := ⟨k - 1, by omega⟩
    have hat : a_strat x (nI j) = some (nI (w.getD j 0)) := by
      unfold a_strat
      rw [hx, hw, nI_clamp (by omega), decide_eq_true (nI_pos (by omega)), List.length_map, decide_eq_true (show j < w.length by omega)]
      rw [if_pos (by rfl)]
      exact congrArg some (by simp [List.getD_eq_getElem?_getD, show j < w.length by omega])
    obtain ⟨I1, e1, t1, f1⟩ := kc_addByte (c := w.getD j 0) (by omega) h
    rw [f_X6_addText_l2, hlen]
    simp only [Option.bind_some]
    rw [if_neg (nI_ge (by omega) (by omega)), hat]
    simp only [Option.bind_some]
    rw [e1]
    simp only [Option.bind_some]
    rw [nI_1]
    obtain ⟨I2, e2, t2, f2⟩ := ih (j + 1) k I1 _ (by omega) (by omega) (by rw [List.length_append]; show l.length + 1 + n ≤ 64; omega) t1
    refine ⟨I2, e2, ?_, fc_trans f1 f2⟩
    rw [List.append_assoc] at t2
    have hdr : w.drop j = w.getD j 0 :: w.drop (j + 1) := by
      rw [List.drop_eq_getElem_cons (show j < w.length by omega)]
      simp [List.getD_eq_getElem?_getD, show j < w.length by omega]
    rw [hdr]; exact t2
theorem kc_text {I : bm_TI} {l w : List Nat} {x : Nat} (hx : bm_is x = true) (hw : bm_tx x = w.map nI) (hwl : w.length < 20) (hl : l.length + w.length ≤ 64) (h : tx_c I l) : ∃ I', f_X6_addText I x = some I' ∧ tx_c I' (l ++ w) ∧ fx_c I I' := by
  obtain ⟨I1, e1, t1, f1⟩ := kc_text_l hx hw hwl w.length 0 1000 I l (by omega) (by omega) hl h
  rw [List.drop_zero] at t1
  refine ⟨I1, ?_, t1, f1⟩
  unfold f_X6_addText
  rw [show f_X6_addText_l2 x 1000 0 I = some I1 from e1]; rfl
/-! the words in it -/
def wd_idle : List Nat := [105, 100, 108, 101]
def wd_has : List Nat := [104, 97, 115]
def wd_heard : List Nat := [104, 101, 97, 114, 100]
def wd_asleep : List Nat := [97, 115, 108, 101, 101, 112]
def wd_lift (n : Nat) : List Nat := if n = 1 then [108, 101, 102, 116] else if n = 2 then [114, 105, 103, 104, 116] else [98, 111, 116, 104]
def nm_Lb (l : List Nat) : Bool := decide (1 ≤ l.length) && (decide (l.length ≤ 7) && l.all (fun c => decide (97 ≤ c) && decide (c ≤ 122)))
theorem nm_L_of {l : List Nat} (h : nm_Lb l = true) : nm_L l := by
  unfold nm_Lb at h
  simp only [Bool.and_eq_true, decide_eq_true_eq, List.all_eq_true] at h
  exact ⟨h.1, h.2.1, h.2.2⟩
/-- what follows the order: by lift and sleep -/
def rp_rest (hd : Nat) (sl : Bool) : List Nat := (if hd = 0 then [] else 32 :: (wd_heard ++ 32 :: wd_lift hd)) ++ (if sl = true then 32 :: wd_asleep else [])
theorem rp_rest_le (hd : Nat) (sl : Bool) : (rp_rest hd sl).length ≤ 19 := by
  unfold rp_rest wd_lift
  rw [List.length_append]
  have h1 : (if hd = 0 then [] else 32 :: (wd_heard ++ 32 :: (if hd = 1 then [108, 101, 102, 116] else if hd = 2 then [114, 105, 103, 104, 116] else [98, 111, 116, 104]))).length ≤ 12 := by
    split
    · exact Nat.zero_le _
    · split
      · decide
      · split <;> decide
  have h2 : (if sl = true then 32 :: wd_asleep else []).length ≤ 7 := by cases sl <;> decide
  omega
section RP
variable {T : pt_T} {m : Nat}
theorem kc_rest {V : bm_TI} {l : List Nat} (hl : l.length ≤ 40) (hd : T (82 + m) ≤ 3) (h : tx_c V l) (h29 : V 29 m = nI (T (82 + m))) (h7 : V 26 7 = nI (T 63)) (h63 : T 63 < 256) (hm : m < 8) : ∃ V', (if V 29 m = 0 then (if f_X11_bit (V 26 7) (nI m) = 1 then (f_X6_addText V 1243).bind fun v21 => some v21 else some V) else (f_X6_addText V 1242).bind fun v23 => (f_X6_liftText (v23 29 m)).bind fun v25 => (f_X6_addText v23 v25).bind fun v27 => (if f_X11_bit (v27 26 7) (nI m) = 1 then (f_X6_addText v27 1243).bind fun v29 => some v29 else some v27)) = some V' ∧ tx_c V' (l ++ rp_rest (T (82 + m)) ((T 63).testBit m)) ∧ fx_c V V' := by
  have hsl : ∀ (V : bm_TI) (l : List Nat), l.length ≤ 57 → tx_c V l → V 26 7 = nI (T 63) → ∃ V', (if f_X11_bit (V 26 7) (nI m) = 1 then (f_X6_addText V 1243).bind fun v21 => some v21 else some V) = some V' ∧ tx_c V' (l ++ (if (T 63).testBit m = true then 32 :: wd_asleep else [])) ∧ fx_c V V' := by
    intro V l hl h h7
    rw [h7, pn_bitX h63 hm]
    simp only [pn_b1]
    cases (T 63).testBit m
    · simp only [Bool.false_eq_true, ↓reduceIte, List.append_nil]
      exact ⟨V, rfl, h, fc_refl V⟩
    · simp only [↓reduceIte]
      obtain ⟨V1, e1, t1, f1⟩ := kc_text (x := 1243) (w := 32 :: wd_asleep) (by decide) (by rfl) (by decide) (by show l.length + 7 ≤ 64; omega) h
      rw [e1]
      exact ⟨V1, rfl, t1, f1⟩
  rw [h29]
  unfold rp_rest
  by_cases hz : T (82 + m) = 0
  · rw [hz, if_pos (show nI 0 = 0 from rfl), if_pos rfl, List.nil_append]
    exact hsl V l (by omega) h h7
  · rw [if_neg (nI_ne0 (by omega) (by omega)), if_neg hz]
    obtain ⟨V1, e1, t1, f1⟩ := kc_text (x := 1242) (w := 32 :: (wd_heard ++ [32])) (by decide) (by rfl) (by decide) (by show l.length + 7 ≤ 64; omega) h
    rw [e1]
    simp only [Option.bind_some]
    rw [f1 29 m (by omega) (by omega), h29]
    have hlt : ∃ x, f_X6_liftText (nI (T (82 + m))) = some x ∧ bm_is x = true ∧ bm_tx x = (wd_lift (T (82 + m))).map nI := by
      generalize T (82 + m) = q at hd hz
      match q, hd, hz with
      | 0, _, hz => exact absurd rfl hz
      | 1, _, _ => exact ⟨1205, rfl, by decide, rfl⟩
      | 2, _, _ => exact ⟨1206, rfl, by decide, rfl⟩
      | 3, _, _ => exact ⟨1207, rfl, by decide, rfl⟩
      | q + 4, hd, _ => omega
    obtain ⟨x, ex, hx1, hx2⟩ := hlt
    have hwl : (wd_lift (T (82 + m))).length ≤ 5 := by unfold wd_lift; split <;> (try split) <;> decide
    rw [ex]
    simp only [Option.bind_some]
    have hl1 : (l ++ 32 :: (wd_heard ++ [32])).length = l.length + 7 := by rw [List.length_append]; rfl
    obtain ⟨V2, e2, t2, f2⟩ := kc_text hx1 hx2 (by omega) (by rw [hl1]; omega) t1
    rw [e2]
    simp only [Option.bind_some]
    obtain ⟨V3, e3, t3, f3⟩ := hsl V2 _ (by rw [List.length_append, hl1]; omega) t2 (by rw [f2 26 7 (by omega) (by omega), f1 26 7 (by omega) (by omega)]; exact h7)
    refine ⟨V3, e3, ?_, fc_trans f1 (fc_trans f2 f3)⟩
    have ee : l ++ 32 :: (wd_heard ++ [32]) ++ wd_lift (T (82 + m)) = l ++ 32 :: (wd_heard ++ 32 :: wd_lift (T (82 + m))) := by simp
    rw [ee, List.append_assoc] at t3
    exact t3
theorem pq_rest {J : bm_TJ} {V : bm_TI} {l : List Nat} (hK : iv_K J) (hl : l.length ≤ 25) (hd : T (82 + m) ≤ 3) (h : tx_q V l) (hR : pp_R V T) (h63 : T 63 < 256) (hm : m < 8) : ∃ V', (if bm_ix 287 (82 + nI m) = true then (if V 166 (82 + nI m).toNatClampNeg ≤ 0 then (if f_X12_bitOf (V 166 63) (nI m) = true then (f_X12_says V 107148367717744).bind fun v35 => some (v35 164 32, v35) else some (V 164 32, V)) else (f_X12_says V 448377483876).bind fun v37 => (if bm_ix 34 (4 + v37 166 (82 + nI m).toNatClampNeg) = true then (f_X12_says v37 (J 170 (4 + v37 166 (82 + nI m).toNatClampNeg).toNatClampNeg)).bind fun v40 => (if f_X12_bitOf (v40 166 63) (nI m) = true then (f_X12_says v40 107148367717744).bind fun v42 => some (v42 164 32, v42) else some (v40 164 32, v40)) else none)) else none) = some (nI (l ++ rp_rest (T (82 + m)) ((T 63).testBit m)).length, V') ∧ tx_q V' (l ++ rp_rest (T (82 + m)) ((T 63).testBit m)) ∧ fx_q V V' := by
  have hsl : ∀ (V : bm_TI) (l : List Nat), l.length ≤ 41 → tx_q V l → pp_R V T → ∃ V', (if f_X12_bitOf (V 166 63) (nI m) = true then (f_X12_says V 107148367717744).bind fun v35 => some (v35 164 32, v35) else some (V 164 32, V)) = some (nI (l ++ (if (T 63).testBit m = true then 32 :: wd_asleep else [])).length, V') ∧ tx_q V' (l ++ (if (T 63).testBit m = true then 32 :: wd_asleep else [])) ∧ fx_q V V' := by
    intro V l hl h hR
    rw [hR 63 (by omega), pn_bitOf h63 hm]
    cases (T 63).testBit m
    · simp only [Bool.false_eq_true, ↓reduceIte, List.append_nil]
      exact ⟨V, by rw [h.1], h, fq_refl V⟩
    · simp only [↓reduceIte]
      obtain ⟨V1, e1, t1, f1⟩ := pq_says (w := wd_asleep) (x := 107148367717744) (nm_L_of (by decide)) (by decide +kernel) (by show l.length + 1 + 6 ≤ 48; omega) h
      rw [e1]
      exact ⟨V1, by simp only [Option.bind_some]; rw [t1.1], t1, f1⟩
  rw [show (82 : Int32) + nI m = nI (82 + m) from nI_add 82 m, if_pos (bm_ixk (by omega) (by omega)), nI_clamp (by omega), hR (82 + m) (by omega)]
  unfold rp_rest
  by_cases hz : T (82 + m) = 0
  · rw [hz, if_pos (show nI 0 ≤ 0 by decide), if_pos rfl, List.nil_append]
    exact hsl V l (by omega) h hR
  · rw [if_neg (nI_nle (by omega) (by omega)), if_neg hz]
    obtain ⟨V1, e1, t1, f1⟩ := pq_says (w := wd_heard) (x := 448377483876) (nm_L_of (by decide)) (by decide +kernel) (by show l.length + 1 + 5 ≤ 48; omega) h
    rw [e1]
    simp only [Option.bind_some]
    have R1 : pp_R V1 T := fun k hk => by rw [f1 166 k (by omega) (by omega)]; exact hR k hk
    rw [R1 (82 + m) (by omega), show (4 : Int32) + nI (T (82 + m)) = nI (4 + T (82 + m)) from nI_add 4 _, if_pos (bm_ixk (by omega) (by omega)), nI_clamp (by omega), hK (4 + T (82 + m)) (by omega)]
    have hlt : nm_L (wd_lift (T (82 + m))) ∧ nm_res.getD (4 + T (82 + m)) 0 = nm_8 (wd_lift (T (82 + m))) := by
      generalize T (82 + m) = q at hd hz
      match q, hd, hz with
      | 0, _, hz => exact absurd rfl hz
      | 1, _, _ => exact ⟨nm_L_of (by decide), by decide +kernel⟩
      | 2, _, _ => exact ⟨nm_L_of (by decide), by decide +kernel⟩
      | 3, _, _ => exact ⟨nm_L_of (by decide), by decide +kernel⟩
      | q + 4, hd, _ => omega
    have hwl : (wd_lift (T (82 + m))).length ≤ 5 := by unfold wd_lift; split <;> (try split) <;> decide
    have hl1 : (l ++ 32 :: wd_heard).length = l.length + 6 := by rw [List.length_append]; rfl
    obtain ⟨V2, e2, t2, f2⟩ := pq_says hlt.1 hlt.2 (by rw [hl1]; omega) t1
    rw [e2]
    simp only [Option.bind_some]
    have R2 : pp_R V2 T := fun k hk => by rw [f2 166 k (by omega) (by omega)]; exact R1 k hk
    obtain ⟨V3, e3, t3, f3⟩ := hsl V2 _ (by rw [List.length_append, hl1]; show l.length + 6 + (wd_lift (T (82 + m))).length.succ ≤ 41; omega) t2 R2
    have ee : l ++ 32 :: wd_heard ++ 32 :: wd_lift (T (82 + m)) = l ++ 32 :: (wd_heard ++ 32 :: wd_lift (T (82 + m))) := by simp
    rw [ee, List.append_assoc] at t3 e3
    exact ⟨V3, e3, t3, fq_trans f1 (fq_trans f2 f3)⟩
end RP
section EM
variable {I : bm_TI} {J : bm_TJ} {W : bm_TR}
theorem e_report (hI : bm_Inv I J W) : ∀ a1 : Int32, ∃ v I1 I2, f_X11_report I J a1 = some (v, I1) ∧ f_X12_report I1 J a1 = some (v, I2) ∧ bm_Inv I2 J W := by
  intro a1
  obtain ⟨T, S, hF, hU, hG0, hG1, hT, hM, hK⟩ := id hI
  obtain ⟨hR, _, hP, hQ, _, hN, hA, hS, _⟩ := id hF
  have h8 := hA.1
  have h7 := hA.2.1
  have R0 : pp_R (bm_uI I 164 0 0) T := pr_164 hR
  unfold f_X11_report
  rcases pk_ix a1 (n := T 0) (by omega) with h | h | ⟨m, hm, rfl⟩
  · rw [kc_isManF hP (Or.inl h)]
    refine ⟨_, _, bm_uI I 164 0 0, rfl, ?_, iv_q hI⟩
    unfold f_X12_report
    rw [pq_isManF R0 hA (Or.inl h)]; rfl
  · rw [kc_isManF hP (Or.inr h)]
    refine ⟨_, _, bm_uI I 164 0 0, rfl, ?_, iv_q hI⟩
    unfold f_X12_report
    rw [pq_isManF R0 hA (Or.inr h)]; rfl
  have h63 : T 63 < 256 := pt_256 h8 hS.2.1
  have hMm := hS.2.2.2.2 m hm
  obtain ⟨w, hw, x5, x8⟩ := hN.1 m hm
  have x5' : J 5 m = nm_5 w := x5
  -- the class
  have t0 : tx_c (bm_uI I 162 1 0) [] := ⟨pn_uI_hit rfl, fun k hk => by cases hk⟩
  have f0 : fx_c I (bm_uI I 162 1 0) := fun o k _ b => pn_uI_off b
  have hwl := hw.2.1
  obtain ⟨V1, e1, t1, f1⟩ := kc_name hw (by decide) t0
  rw [List.nil_append] at t1
  have fx1 := fc_trans f0 f1
  have p30 : V1 30 m = pn_x (T (90 + m)) := by rw [fx1 30 m (by omega) (by omega)]; exact pg_order26 hQ hm
  rw [kc_isManT hP hA hm]
  simp only [Option.bind_some, ↓reduceIte]
  -- the text, whoever writes it
  have main : ∃ (L : List Nat) (VK : bm_TI), L.length ≤ 38 ∧ f_X6_write I J (nI m) = some VK ∧ tx_c VK L ∧ fx_c I VK ∧ (∀ I1 : bm_TI, fx_c I I1 → ∃ VQ, f_X12_report I1 J (nI m) = some (nI L.length, VQ) ∧ tx_q VQ L ∧ fx_q (bm_uI I1 164 0 0) VQ) := by
    have hstart : ∀ I1 : bm_TI, fx_c I I1 → ∃ Q1, f_X12_spells (bm_uI (bm_uI I1 164 0 0) 164 32 0) (J 169 m) = some Q1 ∧ tx_q Q1 w ∧ fx_q (bm_uI I1 164 0 0) Q1 ∧ pp_R Q1 T := fun I1 g => by
      have q0 : tx_q (bm_uI (bm_uI I1 164 0 0) 164 32 0) [] := ⟨pn_uI_hit rfl, fun k hk => by cases hk⟩
      obtain ⟨Q1, a1, b1, c1⟩ := pq_name (l := []) hw (by show 0 + w.length ≤ 48; omega) q0
      have c2 : fx_q (bm_uI I1 164 0 0) Q1 := fq_trans (fun o k _ b => pn_uI_off b) c1
      exact ⟨Q1, by rw [x8]; exact a1, b1, c2, fun k hk => by rw [c2 166 k (by omega) (by omega), pn_uI_ne (by omega), g 166 k (by omega) (by omega)]; exact hR k hk⟩
    by_cases hz : T (90 + m) = 0
    · obtain ⟨V2, e2, t2, f2⟩ := kc_text (x := 1240) (w := 32 :: wd_idle) (by decide) (by rfl) (by decide) (by show w.length + 5 ≤ 64; omega) t1
      have hl2 : (w ++ 32 :: wd_idle).length = w.length + 5 := by rw [List.length_append]; rfl
      have hrl := rp_rest_le (T (82 + m)) ((T 63).testBit m)
      obtain ⟨V3, e3, t3, f3⟩ := kc_rest (m := m) (T := T) (by rw [hl2]; omega) hMm.2.2.1 t2 (by rw [f2 29 m (by omega) (by omega), fx1 29 m (by omega) (by omega)]; exact pg_heard26 hQ hm) (by rw [f2 26 7 (by omega) (by omega), fx1 26 7 (by omega) (by omega)]; exact pg_asleep26 hQ) h63 (by omega)
      refine ⟨_, V3, by rw [List.length_append, hl2]; omega, ?_, t3, fc_trans fx1 (fc_trans f2 f3), fun I1 g => ?_⟩
      · unfold f_X6_write
        rw [if_pos (bm_ixk (by omega) (by omega)), nI_clamp (by omega), x5', e1]
        simp only [Option.bind_some]
        rw [p30, hz, if_pos (show pn_x 0 = -1 from rfl), e2]
        simp only [Option.bind_some]
        exact e3
      · obtain ⟨Q1, a1, b1, c1, r1⟩ := hstart I1 g
        obtain ⟨Q2, a2, b2, c2⟩ := pq_says (w := wd_idle) (x := 1768189029) (nm_L_of (by decide)) (by decide +kernel) (by show w.length + 1 + 4 ≤ 48; omega) b1
        have r2 : pp_R Q2 T := fun k hk => by rw [c2 166 k (by omega) (by omega)]; exact r1 k hk
        obtain ⟨Q3, a3, b3, c3⟩ := pq_rest (m := m) (T := T) hK (by rw [hl2]; omega) hMm.2.2.1 b2 r2 h63 (by omega)
        have R1 : pp_R (bm_uI I1 164 0 0) T := pr_164 (fun k hk => by rw [g 166 k (by omega) (by omega)]; exact hR k hk)
        refine ⟨Q3, ?_, b3, fq_trans c1 (fq_trans c2 c3)⟩
        unfold f_X12_report
        rw [pq_isManT R1 hA hm]
        simp only [Option.bind_some, ↓reduceIte]
        rw [if_pos (bm_ixk (by omega) (by omega)), nI_clamp (by omega), a1]
        simp only [Option.bind_some]
        rw [show (90 : Int32) + nI m = nI (90 + m) from nI_add 90 m, if_pos (bm_ixk (by omega) (by omega)), nI_clamp (by omega), r1 (90 + m) (by omega), hz, if_pos (show nI 0 ≤ 0 by decide), a2]
        simp only [Option.bind_some]
        rw [r2 (90 + m) (by omega), hz, if_pos (show nI 0 ≤ 0 by decide)]
        exact a3
    · obtain ⟨w2, hw2, y5, y8⟩ := hN.2 (T (90 + m) - 1) (by omega)
      have y5' : J 10 (T (90 + m) - 1) = nm_5 w2 := y5
      have hwl2 := hw2.2.1
      obtain ⟨V2, e2, t2, f2⟩ := kc_text (x := 1241) (w := 32 :: (wd_has ++ [32])) (by decide) (by rfl) (by decide) (by show w.length + 5 ≤ 64; omega) t1
      have hl2 : (w ++ 32 :: (wd_has ++ [32])).length = w.length + 5 := by rw [List.length_append]; rfl
      obtain ⟨V2b, e2b, t2b, f2b⟩ := kc_name hw2 (by rw [hl2]; omega) t2
      have ee : w ++ 32 :: (wd_has ++ [32]) ++ w2 = w ++ 32 :: wd_has ++ 32 :: w2 := by simp
      rw [ee] at t2b
      have hl3 : (w ++ 32 :: wd_has ++ 32 :: w2).length = w.length + 5 + w2.length := by rw [List.length_append, List.length_append]; show w.length + 4 + (w2.length + 1) = _; omega
      have hrl := rp_rest_le (T (82 + m)) ((T 63).testBit m)
      have g2 := fc_trans fx1 (fc_trans f2 f2b)
      obtain ⟨V3, e3, t3, f3⟩ := kc_rest (m := m) (T := T) (by rw [hl3]; omega) hMm.2.2.1 t2b (by rw [g2 29 m (by omega) (by omega)]; exact pg_heard26 hQ hm) (by rw [g2 26 7 (by omega) (by omega)]; exact pg_asleep26 hQ) h63 (by omega)
      refine ⟨_, V3, by rw [List.length_append, hl3]; omega, ?_, t3, fc_trans g2 f3, fun I1 g => ?_⟩
      · unfold f_X6_write
        rw [if_pos (bm_ixk (by omega) (by omega)), nI_clamp (by omega), x5', e1]
        simp only [Option.bind_some]
        rw [p30, if_neg (show ¬ pn_x (T (90 + m)) = -1 by rw [pn_xm1 (by omega)]; exact hz), e2]
        simp only [Option.bind_some]
        rw [pn_xp (by omega), if_pos (bm_ixk (by omega) (by omega)), nI_clamp (by omega), y5', e2b]
        simp only [Option.bind_some]
        exact e3
      · obtain ⟨Q1, a1, b1, c1, r1⟩ := hstart I1 g
        obtain ⟨Q2, a2, b2, c2⟩ := pq_says (w := wd_has) (x := 6840691) (nm_L_of (by decide)) (by decide +kernel) (by show w.length + 1 + 3 ≤ 48; omega) b1
        have r2 : pp_R Q2 T := fun k hk => by rw [c2 166 k (by omega) (by omega)]; exact r1 k hk
        have hl4 : (w ++ 32 :: wd_has).length = w.length + 4 := by rw [List.length_append]; rfl
        obtain ⟨Q2b, a2b, b2b, c2b⟩ := pq_says hw2 rfl (by rw [hl4]; omega) b2
        have r2b : pp_R Q2b T := fun k hk => by rw [c2b 166 k (by omega) (by omega)]; exact r2 k hk
        obtain ⟨Q3, a3, b3, c3⟩ := pq_rest (m := m) (T := T) hK (by rw [hl3]; omega) hMm.2.2.1 b2b r2b h63 (by omega)
        have R1 : pp_R (bm_uI I1 164 0 0) T := pr_164 (fun k hk => by rw [g 166 k (by omega) (by omega)]; exact hR k hk)
        have y8' : J 169 (7 + T (90 + m)) = nm_8 w2 := by rw [show 7 + T (90 + m) = 8 + (T (90 + m) - 1) by omega]; exact y8
        refine ⟨Q3, ?_, b3, fq_trans c1 (fq_trans c2 (fq_trans c2b c3))⟩
        unfold f_X12_report
        rw [pq_isManT R1 hA hm]
        simp only [Option.bind_some, ↓reduceIte]
        rw [if_pos (bm_ixk (by omega) (by omega)), nI_clamp (by omega), a1]
        simp only [Option.bind_some]
        rw [show (90 : Int32) + nI m = nI (90 + m) from nI_add 90 m, if_pos (bm_ixk (by omega) (by omega)), nI_clamp (by omega), r1 (90 + m) (by omega), if_neg (nI_nle (by omega) (by omega)), a2]
        simp only [Option.bind_some]
        rw [r2 (90 + m) (by omega), if_neg (nI_nle (by omega) (by omega)), show (7 : Int32) + nI (T (90 + m)) = nI (7 + T (90 + m)) from nI_add 7 _, if_pos (bm_ixk (by omega) (by omega)), nI_clamp (by omega), y8', a2b]
        simp only [Option.bind_some]
        exact a3
  obtain ⟨L, VK, hL, eK, tK, fK, hQ3⟩ := main
  obtain ⟨VQ, eQ, tQ, fQ⟩ := hQ3 VK fK
  rw [eK]
  have ff : ∀ o k, o ≠ 163 → (o ≠ 162 ∨ k ≠ 1) → o ≠ 174 → (o ≠ 164 ∨ (k ≠ 0 ∧ k ≠ 32)) → VQ o k = I o k := fun o k c1 c2 c3 c4 => by rw [fQ o k c3 (by omega), pn_uI_off (by omega), fK o k c1 c2]
  obtain ⟨q1, q2, q3, q4, q5, q6, q7, r, q8, q9, q10, q11⟩ := hM
  refine ⟨_, _, VQ, rfl, by rw [tK.1]; exact eQ, iv_set hI (fun o k ho => ff o k (by omega) (by omega) (by omega) (by omega)) (fun _ _ _ => rfl) (fun _ _ _ => rfl) (iT_congr (fun o k ho => ff o k (by omega) (by omega) (by omega) (by omega)) hT) ⟨?_, ?_, ?_, ?_, ?_, ?_, ?_, L.length, by omega, ?_, tQ.1, fun k hk => ?_⟩⟩
  · rw [ff 0 13 (by omega) (by omega) (by omega) (by omega), ff 164 15 (by omega) (by omega) (by omega) (by omega)]; exact q1
  · rw [ff 0 14 (by omega) (by omega) (by omega) (by omega), ff 164 25 (by omega) (by omega) (by omega) (by omega)]; exact q2
  · rw [ff 0 15 (by omega) (by omega) (by omega) (by omega), ff 164 26 (by omega) (by omega) (by omega) (by omega)]; exact q3
  · rw [ff 161 0 (by omega) (by omega) (by omega) (by omega), ff 164 27 (by omega) (by omega) (by omega) (by omega)]; exact q4
  · rw [ff 161 1 (by omega) (by omega) (by omega) (by omega), ff 164 28 (by omega) (by omega) (by omega) (by omega)]; exact q5
  · rw [ff 164 30 (by omega) (by omega) (by omega) (by omega), ff 0 16 (by omega) (by omega) (by omega) (by omega), ff 164 29 (by omega) (by omega) (by omega) (by omega)]; exact q6
  · rw [ff 164 36 (by omega) (by omega) (by omega) (by omega)]
    rcases q7 with ⟨a, b⟩ | ⟨a, b⟩
    · exact Or.inl ⟨a, fun i hi => by rw [ff 147 _ (by omega) (by omega) (by omega) (by omega)]; exact b i hi⟩
    · exact Or.inr ⟨a, fun i hi => by rw [ff 147 _ (by omega) (by omega) (by omega) (by omega), ff 175 _ (by omega) (by omega) (by omega) (by omega)]; exact b i hi⟩
  · rw [fQ 162 1 (by omega) (by omega), pn_uI_ne (by omega)]; exact tK.1
  · rw [fQ 163 k (by omega) (by omega), pn_uI_ne (by omega), tK.2 k hk, tQ.2 k hk]
end EM
