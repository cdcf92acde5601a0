/-! what holds between the calls -/
def nm_L (l : List Nat) : Prop := 1 ≤ l.length ∧ l.length ≤ 7 ∧ ∀ c, c ∈ l → 97 ≤ c ∧ c ≤ 122
def nm_5 (l : List Nat) : Int64 := l.foldl (fun x c => f_X10_packLetter x (nI c)) 0
def nm_8 (l : List Nat) : Int64 := l.foldl (fun w c => bm_lshl w 8 ||| (nI c).toInt64) 0
/-- one name, by the class and by the reference -/
def nm_E (x y : Int64) : Prop := ∃ l, nm_L l ∧ x = nm_5 l ∧ y = nm_8 l
def nm_R (J : bm_TJ) (a : Nat) (nrow : Nat → Int64) (T : pt_T) : Prop := (∀ j, j < T 0 → nm_E (J (a + 1) j) (nrow j)) ∧ ∀ q, q < T 1 → nm_E (J (a + 6) q) (nrow (8 + q))
/-- the word of a code -/
def qt_w (c : Nat) : Nat := if c < 12 then 22 + c else 41 - c
/-- a sentence of the class at cell q -/
def pp_Q (I : bm_TI) (W : bm_TR) (q : Nat) (S : pt_T) : Prop := I q 4 = nI (S 106) ∧ (∃ n, I q 5 = nI n ∧ n ≤ 20 ∧ (n = 0 ↔ S 106 = 0)) ∧ ∀ i, i < S 106 → W (q + 1) i = some (1000 + qt_w (S (107 + 3 * i))) ∧ I (q + 2) i = nI (S (107 + 3 * i + 2)) ∧ I (q + 3) i = nI (S (107 + 3 * i + 1))
/-- how many stand, behind i codes -/
def qt_h (S : pt_T) (i : Nat) : Nat := match i with
  | 0 => 0
  | k + 1 => if S (107 + 3 * k) < 12 then qt_h S k + 1 else if S (107 + 3 * k) = 20 then qt_h S k else qt_h S k - 1
def pt_VQ (T S : pt_T) : Prop := S 106 ≤ 40 ∧ (0 < S 106 → 1 ≤ qt_h S (S 106)) ∧ ∀ i, i < S 106 → (S (107 + 3 * i) < 12 ∨ (S (107 + 3 * i) = 20 ∧ 1 ≤ qt_h S i) ∨ ((S (107 + 3 * i) = 21 ∨ S (107 + 3 * i) = 22) ∧ 2 ≤ qt_h S i)) ∧ ((S (107 + 3 * i) = 5 ∨ S (107 + 3 * i) = 6) → S (107 + 3 * i + 2) < T 0) ∧ (S (107 + 3 * i) = 7 → S (107 + 3 * i + 2) < T 1) ∧ S (107 + 3 * i + 2) ≤ 999 ∧ (8 ≤ S (107 + 3 * i) → S (107 + 3 * i) < 12 → 60 ≤ S (107 + 3 * i + 1) ∧ S (107 + 3 * i + 1) ≤ 62)
/-- army, state, sentence and names: the class's at a, s, q; the reference's rows -/
def iv_F (I : bm_TI) (J : bm_TJ) (W : bm_TR) (a s q : Nat) (row : Nat → Int32) (nrow : Nat → Int64) (T S : pt_T) : Prop :=
  (∀ k, k < 106 → row k = nI (T k)) ∧ (∀ k, 106 ≤ k → k < 107 + 3 * S 106 → row k = nI (S k)) ∧ pp_A I a T ∧ pp_S I s T ∧ pp_Q I W q S ∧ nm_R J a nrow T ∧ pt_VA T ∧ pt_VS T ∧ pt_VQ T S
def iv_U (I : bm_TI) (T : pt_T) : Prop := ∃ (u o : Nat) (U : Nat → pt_T), u ≤ 8 ∧ o < 8 ∧ pp_C I u o U ∧ pp_D I u U ∧ ∀ i, i < u → pt_VS (U i) ∧ pt_eA T (U i)
def iv_G (I : bm_TI) (J : bm_TJ) (W : bm_TR) (k : Nat) : Prop := (I (99 + 24 * k) 3 = 0 ∧ I 180 k = 0) ∨ (I (99 + 24 * k) 3 = 1 ∧ I 180 k = 1 ∧ ∃ T S, iv_F I J W (100 + 24 * k) (111 + 24 * k) (118 + 24 * k) (fun j => I 178 (287 * k + j)) (fun j => J 179 (15 * k + j)) T S)
def iv_T (I : bm_TI) : Prop := ∃ (n : Nat) (B : Nat → Nat), n ≤ 940 ∧ I 1 1 = nI n ∧ I 164 2 = nI n ∧ ∀ k, k < n → B k < 256 ∧ I 2 k = nI (B k) ∧ I 165 k &&& 255 = nI (B k)
def iv_M (I : bm_TI) : Prop := I 0 13 = I 164 15 ∧ I 0 14 = I 164 25 ∧ I 0 15 = I 164 26 ∧ I 161 0 = I 164 27 ∧ I 161 1 = I 164 28 ∧ ((I 164 30 = 0 ∧ I 0 16 = -1) ∨ (I 164 30 = 1 ∧ I 0 16 = I 164 29)) ∧ ((I 164 36 = 0 ∧ ∀ i, i < 4 → I 147 (4 + i) = -1) ∨ (I 164 36 = 1 ∧ ∀ i, i < 4 → I 147 (4 + i) = I 175 i)) ∧ ∃ r, r ≤ 48 ∧ I 162 1 = nI r ∧ I 164 32 = nI r ∧ ∀ k, k < r → I 163 k = I 174 k
def nm_res : List Int64 := [0x6d616e, 0x6a6f696e6564, 0x67726579, 0x756e646572, 0x6f72646572, 0x6c656674, 0x7269676874, 0x626f7468, 0x666f65, 0x636c656172, 0x7261696e, 0x6c69667473, 0x6769766573, 0x736c65657073, 0x77616b6573, 0x736f6f7473, 0x676f6573, 0x65617374, 0x736f757468, 0x77657374, 0x6e6f727468, 0x686f7572, 0x6f72, 0x616e64, 0x6e6f74, 0x61736c656570, 0x736f6f746564, 0x69646c65, 0x73656573, 0x686173, 0x62726f77, 0x6865617264, 0x6c6f7374, 0x6e756d626572]
def iv_K (J : bm_TJ) : Prop := ∀ k, k < 34 → J 170 k = nm_res.getD k 0
def bm_Inv (I : bm_TI) (J : bm_TJ) (W : bm_TR) : Prop := ∃ T S, iv_F I J W 4 26 151 (I 166) (J 169) T S ∧ iv_U I T ∧ iv_G I J W 0 ∧ iv_G I J W 1 ∧ iv_T I ∧ iv_M I ∧ iv_K J
/-! what each rests on -/
theorem pa_congr' {I I' : bm_TI} {T : pt_T} {a : Nat} (h : ∀ o k, a ≤ o → o ≤ a + 10 → I' o k = I o k) (hP : pp_A I a T) : pp_A I' a T := by
  obtain ⟨a1, a2, a3, a4, a5, a6, a7, a8, a9, a10⟩ := hP
  refine ⟨?_, ?_, ?_, ?_, ?_, ?_, ?_, fun j hj => ?_, fun j hj => ?_, fun j hj => ?_⟩
  · rw [h a 10 (by omega) (by omega)]; exact a1
  · rw [h a 11 (by omega) (by omega)]; exact a2
  · rw [h a 12 (by omega) (by omega)]; exact a3
  · rw [h a 13 (by omega) (by omega)]; exact a4
  · rw [h a 14 (by omega) (by omega)]; exact a5
  · rw [h a 15 (by omega) (by omega)]; exact a6
  · rw [h a 16 (by omega) (by omega)]; exact a7
  · rw [h (a + 4) j (by omega) (by omega), h (a + 5) j (by omega) (by omega)]; exact a8 j hj
  · rw [h (a + 7) j (by omega) (by omega), h (a + 8) j (by omega) (by omega)]; exact a9 j hj
  · rw [h (a + 9) j (by omega) (by omega), h (a + 10) j (by omega) (by omega)]; exact a10 j hj
theorem pQ_congr {I I' : bm_TI} {W W' : bm_TR} {q : Nat} {S : pt_T} (h : ∀ o k, q ≤ o → o ≤ q + 3 → I' o k = I o k) (hW : ∀ k, W' (q + 1) k = W (q + 1) k) (hQ : pp_Q I W q S) : pp_Q I' W' q S := by
  obtain ⟨h1, ⟨n, h2, h3⟩, h4⟩ := hQ
  refine ⟨?_, ⟨n, ?_, h3⟩, fun i hi => ?_⟩
  · rw [h q 4 (by omega) (by omega)]; exact h1
  · rw [h q 5 (by omega) (by omega)]; exact h2
  · rw [hW, h (q + 2) i (by omega) (by omega), h (q + 3) i (by omega) (by omega)]; exact h4 i hi
theorem iF_congr {I I' : bm_TI} {J J' : bm_TJ} {W W' : bm_TR} {a s q : Nat} {row row' : Nat → Int32} {nrow nrow' : Nat → Int64} {T S : pt_T} (hI : ∀ o k, (a ≤ o ∧ o ≤ a + 10) ∨ (s ≤ o ∧ o ≤ s + 5) ∨ (q ≤ o ∧ o ≤ q + 3) → I' o k = I o k) (hW : ∀ k, W' (q + 1) k = W (q + 1) k) (hr : ∀ k, k < 287 → row' k = row k) (hJ : ∀ o k, a ≤ o → o ≤ a + 10 → J' o k = J o k) (hn : ∀ k, k < 15 → nrow' k = nrow k) (h : iv_F I J W a s q row nrow T S) : iv_F I' J' W' a s q row' nrow' T S := by
  obtain ⟨h1, h2, h3, h4, h5, h6, h7, h8, h9⟩ := h
  have hq := h9.1
  have b8 := h7.1
  have b7 := h7.2.1
  refine ⟨fun k hk => ?_, fun k hk hk2 => ?_, pa_congr' (fun o k _ _ => hI o k (by omega)) h3, ps_congr (fun k => hI s k (by omega)) (fun c k _ _ => hI c k (by omega)) h4, pQ_congr (fun o k _ _ => hI o k (by omega)) hW h5, ⟨fun j hj => ?_, fun j hj => ?_⟩, h7, h8, h9⟩
  · rw [hr k (by omega)]; exact h1 k hk
  · rw [hr k (by omega)]; exact h2 k hk hk2
  · rw [hJ (a + 1) j (by omega) (by omega), hn j (by omega)]; exact h6.1 j hj
  · rw [hJ (a + 6) j (by omega) (by omega), hn (8 + j) (by omega)]; exact h6.2 j hj
theorem iU_congr {I I' : bm_TI} {T : pt_T} (h : ∀ o k, (40 ≤ o ∧ o ≤ 97) ∨ o = 172 ∨ (o = 164 ∧ k = 24) → I' o k = I o k) (hU : iv_U I T) : iv_U I' T := by
  obtain ⟨u, o, U, h1, h2, ⟨c1, c2, c3⟩, ⟨d1, d2⟩, h5⟩ := hU
  refine ⟨u, o, U, h1, h2, ⟨?_, ?_, fun i hi => ?_⟩, ⟨?_, fun i hi k hk => ?_⟩, h5⟩
  · rw [h 40 1 (by omega)]; exact c1
  · rw [h 40 2 (by omega)]; exact c2
  · exact ps_congr (fun k => h _ k (by omega)) (fun c k _ _ => h c k (by omega)) (c3 i hi)
  · rw [h 164 24 (by omega)]; exact d1
  · rw [h 172 _ (by omega)]; exact d2 i hi k hk
theorem iG_congr {I I' : bm_TI} {J J' : bm_TJ} {W W' : bm_TR} {k : Nat} (hk : k < 2) (h : ∀ o j, (99 + 24 * k ≤ o ∧ o ≤ 122 + 24 * k) ∨ (o = 178 ∧ 287 * k ≤ j ∧ j < 287 * k + 287) ∨ (o = 180 ∧ j = k) → I' o j = I o j) (hJ : ∀ o j, (99 + 24 * k ≤ o ∧ o ≤ 122 + 24 * k) ∨ (o = 179 ∧ 15 * k ≤ j ∧ j < 15 * k + 15) → J' o j = J o j) (hW : ∀ j, W' (119 + 24 * k) j = W (119 + 24 * k) j) (hG : iv_G I J W k) : iv_G I' J' W' k := by
  rcases hG with ⟨h1, h2⟩ | ⟨h1, h2, T, S, h3⟩
  · exact Or.inl ⟨by rw [h _ _ (by omega)]; exact h1, by rw [h _ _ (by omega)]; exact h2⟩
  · refine Or.inr ⟨by rw [h _ _ (by omega)]; exact h1, by rw [h _ _ (by omega)]; exact h2, T, S, ?_⟩
    refine iF_congr (fun o j ho => h o j (by omega)) (fun j => ?_) (fun j hj => h 178 _ (by omega)) (fun o j _ _ => hJ o j (by omega)) (fun j hj => hJ 179 _ (by omega)) h3
    rw [show 118 + 24 * k + 1 = 119 + 24 * k by omega]; exact hW j
theorem iT_congr {I I' : bm_TI} (h : ∀ o k, (o = 1 ∧ k = 1) ∨ o = 2 ∨ o = 165 ∨ (o = 164 ∧ k = 2) → I' o k = I o k) (hT : iv_T I) : iv_T I' := by
  obtain ⟨n, B, h1, h2, h3, h4⟩ := hT
  refine ⟨n, B, h1, ?_, ?_, fun k hk => ?_⟩
  · rw [h 1 1 (by omega)]; exact h2
  · rw [h 164 2 (by omega)]; exact h3
  · rw [h 2 k (by omega), h 165 k (by omega)]; exact h4 k hk
theorem iM_congr {I I' : bm_TI} (h : ∀ o k, (o = 0 ∧ 13 ≤ k) ∨ o = 161 ∨ o = 162 ∨ o = 163 ∨ o = 174 ∨ (o = 147 ∧ 4 ≤ k) ∨ o = 175 ∨ (o = 164 ∧ (k = 15 ∨ (25 ≤ k ∧ k ≤ 30) ∨ k = 32 ∨ k = 36)) → I' o k = I o k) (hM : iv_M I) : iv_M I' := by
  obtain ⟨h1, h2, h3, h4, h5, h6, h7, r, h8, h9, h10, h11⟩ := hM
  refine ⟨?_, ?_, ?_, ?_, ?_, ?_, ?_, r, h8, ?_, ?_, fun k hk => ?_⟩
  · rw [h 0 13 (by omega), h 164 15 (by omega)]; exact h1
  · rw [h 0 14 (by omega), h 164 25 (by omega)]; exact h2
  · rw [h 0 15 (by omega), h 164 26 (by omega)]; exact h3
  · rw [h 161 0 (by omega), h 164 27 (by omega)]; exact h4
  · rw [h 161 1 (by omega), h 164 28 (by omega)]; exact h5
  · rw [h 164 30 (by omega), h 0 16 (by omega), h 164 29 (by omega)]; exact h6
  · rw [h 164 36 (by omega)]
    rcases h7 with ⟨a, b⟩ | ⟨a, b⟩
    · exact Or.inl ⟨a, fun i hi => by rw [h 147 _ (by omega)]; exact b i hi⟩
    · exact Or.inr ⟨a, fun i hi => by rw [h 147 _ (by omega), h 175 _ (by omega)]; exact b i hi⟩
  · rw [h 162 1 (by omega)]; exact h9
  · rw [h 164 32 (by omega)]; exact h10
  · rw [h 163 k (by omega), h 174 k (by omega)]; exact h11 k hk
/-- what acts and trials may change -/
def iv_fr (I I2 : bm_TI) : Prop := ∀ o k, (o < 26 ∨ 97 < o) → (o ≠ 166 ∨ k < 61 ∨ 106 ≤ k) → o ≠ 171 → o ≠ 172 → o ≠ 173 → (o ≠ 164 ∨ (k ≠ 0 ∧ k ≠ 24 ∧ k ≠ 33)) → I2 o k = I o k
theorem iv_act {I I2 : bm_TI} {J : bm_TJ} {W : bm_TR} {T S T2 : pt_T} (hF : iv_F I J W 4 26 151 (I 166) (J 169) T S) (hG0 : iv_G I J W 0) (hG1 : iv_G I J W 1) (hT : iv_T I) (hM : iv_M I) (hK : iv_K J) (f : iv_fr I I2) (e : pt_eA T T2) (hR : pp_R I2 T2) (hS : pp_S I2 26 T2) (hV : pt_VS T2) (hU : iv_U I2 T2) : bm_Inv I2 J W := by
  obtain ⟨h1, h2, h3, h4, h5, h6, h7, h8, h9⟩ := hF
  refine ⟨T2, S, ⟨hR, fun k hk hk2 => ?_, ?_, hS, ?_, ?_, va_congr e h7, hV, ?_⟩, hU, ?_, ?_, ?_, ?_, hK⟩
  · rw [f 166 k (by omega) (by omega) (by omega) (by omega) (by omega) (by omega)]; exact h2 k hk hk2
  · exact pa_VA e h7 (pa_congr (fun o k _ _ => f o k (by omega) (by omega) (by omega) (by omega) (by omega) (by omega)) h3)
  · exact pQ_congr (fun o k _ _ => f o k (by omega) (by omega) (by omega) (by omega) (by omega) (by omega)) (fun _ => rfl) h5
  · unfold nm_R; rw [e 0 (by omega), e 1 (by omega)]; exact h6
  · unfold pt_VQ; rw [e 0 (by omega), e 1 (by omega)]; exact h9
  · exact iG_congr (by omega) (fun o j hj => f o j (by omega) (by omega) (by omega) (by omega) (by omega) (by omega)) (fun _ _ _ => rfl) (fun _ => rfl) hG0
  · exact iG_congr (by omega) (fun o j hj => f o j (by omega) (by omega) (by omega) (by omega) (by omega) (by omega)) (fun _ _ _ => rfl) (fun _ => rfl) hG1
  · exact iT_congr (fun o j hj => f o j (by omega) (by omega) (by omega) (by omega) (by omega) (by omega)) hT
  · exact iM_congr (fun o j hj => f o j (by omega) (by omega) (by omega) (by omega) (by omega) (by omega)) hM
theorem iv_same {I I2 : bm_TI} {J : bm_TJ} {W : bm_TR} (hI : bm_Inv I J W) (f : ∀ o k, (o < 32 ∨ 39 < o) → o ≠ 171 → o ≠ 173 → (o ≠ 164 ∨ (k ≠ 0 ∧ k ≠ 33)) → I2 o k = I o k) : bm_Inv I2 J W := by
  obtain ⟨T, S, hF, hU, hG0, hG1, hT, hM, hK⟩ := hI
  refine iv_act (T2 := T) hF hG0 hG1 hT hM hK (fun o k a b c d e g => f o k (by omega) c e (by omega)) (te_refl T) (fun k hk => ?_) ?_ hF.2.2.2.2.2.2.2.1 ?_
  · rw [f 166 k (by omega) (by omega) (by omega) (by omega)]; exact hF.1 k hk
  · exact ps_congr (fun k => f 26 k (by omega) (by omega) (by omega) (by omega)) (fun c k _ _ => f c k (by omega) (by omega) (by omega) (by omega)) hF.2.2.2.1
  · exact iU_congr (fun o k ho => f o k (by omega) (by omega) (by omega) (by omega)) hU
theorem iv_q {I : bm_TI} {J : bm_TJ} {W : bm_TR} {v : Int32} (hI : bm_Inv I J W) : bm_Inv (bm_uI I 164 0 v) J W := iv_same hI (fun o k _ _ _ h => pn_uI_off (by omega))
