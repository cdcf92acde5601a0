def bm_trl : List (Nat × Nat × Nat) := [(0, 0, 1), (0, 1, 3), (0, 2, 4), (0, 3, 15), (0, 4, 26), (0, 5, 33), (0, 6, 40), (0, 7, 98), (0, 8, 147), (0, 9, 151), (0, 10, 156), (0, 11, 161), (0, 12, 162), (1, 0, 2), (3, 0, 1), (4, 0, 5), (4, 1, 6), (4, 2, 7), (4, 3, 8), (4, 4, 9), (4, 5, 10), (4, 6, 11), (4, 7, 12), (4, 8, 13), (4, 9, 14), (15, 0, 16), (15, 1, 17), (15, 2, 18), (15, 3, 19), (15, 4, 20), (15, 5, 21), (15, 6, 22), (15, 7, 23), (15, 8, 24), (15, 9, 25), (26, 0, 4), (26, 1, 27), (26, 2, 28), (26, 3, 29), (26, 4, 30), (26, 5, 31), (26, 6, 32), (33, 0, 4), (33, 1, 34), (33, 2, 35), (33, 3, 36), (33, 4, 37), (33, 5, 38), (33, 6, 39), (40, 0, 41), (41, 0, 42), (41, 1, 49), (41, 2, 56), (41, 3, 63), (41, 4, 70), (41, 5, 77), (41, 6, 84), (41, 7, 91), (42, 0, 4), (42, 1, 43), (42, 2, 44), (42, 3, 45), (42, 4, 46), (42, 5, 47), (42, 6, 48), (49, 0, 4), (49, 1, 50), (49, 2, 51), (49, 3, 52), (49, 4, 53), (49, 5, 54), (49, 6, 55), (56, 0, 4), (56, 1, 57), (56, 2, 58), (56, 3, 59), (56, 4, 60), (56, 5, 61), (56, 6, 62), (63, 0, 4), (63, 1, 64), (63, 2, 65), (63, 3, 66), (63, 4, 67), (63, 5, 68), (63, 6, 69), (70, 0, 4), (70, 1, 71), (70, 2, 72), (70, 3, 73), (70, 4, 74), (70, 5, 75), (70, 6, 76), (77, 0, 4), (77, 1, 78), (77, 2, 79), (77, 3, 80), (77, 4, 81), (77, 5, 82), (77, 6, 83), (84, 0, 4), (84, 1, 85), (84, 2, 86), (84, 3, 87), (84, 4, 88), (84, 5, 89), (84, 6, 90), (91, 0, 4), (91, 1, 92), (91, 2, 93), (91, 3, 94), (91, 4, 95), (91, 5, 96), (91, 6, 97), (98, 0, 99), (98, 1, 123), (99, 0, 100), (99, 1, 111), (99, 2, 118), (100, 0, 101), (100, 1, 102), (100, 2, 103), (100, 3, 104), (100, 4, 105), (100, 5, 106), (100, 6, 107), (100, 7, 108), (100, 8, 109), (100, 9, 110), (111, 0, 100), (111, 1, 112), (111, 2, 113), (111, 3, 114), (111, 4, 115), (111, 5, 116), (111, 6, 117), (118, 0, 119), (118, 1, 120), (118, 2, 121), (118, 3, 122), (123, 0, 124), (123, 1, 135), (123, 2, 142), (124, 0, 125), (124, 1, 126), (124, 2, 127), (124, 3, 128), (124, 4, 129), (124, 5, 130), (124, 6, 131), (124, 7, 132), (124, 8, 133), (124, 9, 134), (135, 0, 124), (135, 1, 136), (135, 2, 137), (135, 3, 138), (135, 4, 139), (135, 5, 140), (135, 6, 141), (142, 0, 143), (142, 1, 144), (142, 2, 145), (142, 3, 146), (147, 0, 148), (147, 1, 149), (147, 2, 150), (151, 0, 152), (151, 1, 153), (151, 2, 154), (151, 3, 155), (156, 0, 157), (156, 1, 158), (156, 2, 159), (156, 3, 160), (162, 0, 163), (164, 1, 165), (164, 6, 166), (164, 7, 167), (164, 8, 168), (164, 9, 169), (164, 10, 170), (164, 21, 171), (164, 22, 172), (164, 23, 173), (164, 31, 174), (164, 35, 175), (164, 37, 176), (164, 43, 177), (164, 44, 178), (164, 45, 179), (164, 46, 180)]
def bm_tr (o f : Nat) : Option Nat := (bm_trl.find? (fun q => q.1 == o && q.2.1 == f)).map (fun q => q.2.2)
/-- the references that the constructors have laid -/
def bm_RR (R : bm_TR) : Prop := ∀ o f a, bm_tr o f = some a → R o f = some a
theorem bm_all181 {p : Nat → Prop} (h : ∀ o, o < 181 → p o) : ∀ o, o < 181 → p o := h
theorem tr_past_n : ∀ j, j < 8 → bm_tr 41 j = some (42 + 7 * j) := by decide +kernel
theorem tr_image_n : ∀ j, j < 2 → bm_tr 98 j = some (99 + 24 * j) := by decide +kernel
theorem ok_past_n : ∀ j, j < 8 → bm_OK (42 + 7 * j) 8 := by decide +kernel
theorem ok_image_n : ∀ j, j < 2 → bm_OK (99 + 24 * j) 3 := by decide +kernel
theorem vp_in_lt {i : Int32} {l : Nat} (h : vp_in i l) : i.toNatClampNeg < l := by
  rcases Nat.lt_or_ge i.toNatClampNeg l with q | q
  · exact q
  · exact absurd (Or.inr q) h
theorem tr_past {i : Int32} (h : vp_in i 8) : bm_tr 41 i.toNatClampNeg = some (42 + 7 * i.toNatClampNeg) := tr_past_n _ (vp_in_lt h)
theorem tr_image {i : Int32} (h : vp_in i 2) : bm_tr 98 i.toNatClampNeg = some (99 + 24 * i.toNatClampNeg) := tr_image_n _ (vp_in_lt h)
theorem ok_past {i : Int32} (h : vp_in i 8) : bm_OK (42 + 7 * i.toNatClampNeg) 8 := ok_past_n _ (vp_in_lt h)
theorem ok_image {i : Int32} (h : vp_in i 2) : bm_OK (99 + 24 * i.toNatClampNeg) 3 := ok_image_n _ (vp_in_lt h)
def a_strlen (x : Nat) : Option Int32 := if bm_is x = true then some (bm_ishr (Int32.ofNat (bm_tx x).length) 0) else none
def a_strat (x : Nat) (i : Int32) : Option Int32 := if (bm_is x && (decide (¬ i < 0) && decide (i.toNatClampNeg < (bm_tx x).length))) = true then some ((bm_tx x).getD i.toNatClampNeg 0) else none
theorem ca_strlen_is {x : Nat} {v : Int32} (h : a_strlen x = some v) : bm_is x = true := (bu_g h).1
theorem ca_strat_is {x : Nat} {i v : Int32} (h : a_strat x i = some v) : bm_is x = true := c_strat_is (M := ((fun _ _ => 0), (fun _ _ => 0), (fun _ _ => none), fun _ _ => none)) h
theorem ca_strlen {L : bm_L} {d n : Nat} {M : bm_M} {x : Nat} {v : Int32} (hN : 181 ≤ n) (h : a_strlen x = some v) : bm_C L m_J0_length_8abf5 (d + 4) n n [.ref x] M (fun r M' => r = some (.int v) ∧ M' = M) := c_strlen hN (show f_strlen M x = some v from h)
theorem ca_strat {L : bm_L} {d n : Nat} {M : bm_M} {x : Nat} {i v : Int32} (hN : 181 ≤ n) (h : a_strat x i = some v) : bm_C L m_J0_charAt_5068e (d + 4) n n [.ref x, .int i] M (fun r M' => r = some (.int v) ∧ M' = M) := c_strat hN (show f_strat M x i = some v from h)
theorem oc_3_0 {o : Nat} (h : bm_OK o 3) : bm_OK (o + 1) 0 := bm_all181 (p := fun o => decide (bm_SH o = .inl 3) → bm_SH (o + 1) = .inl 0 ∧ o + 1 < 181) (by decide +kernel) o h.2 (by simpa using h.1)
theorem oc_3_1 {o : Nat} (h : bm_OK o 3) : bm_OK (o + 12) 8 := bm_all181 (p := fun o => decide (bm_SH o = .inl 3) → bm_SH (o + 12) = .inl 8 ∧ o + 12 < 181) (by decide +kernel) o h.2 (by simpa using h.1)
theorem oc_3_2 {o : Nat} (h : bm_OK o 3) : bm_OK (o + 19) 7 := bm_all181 (p := fun o => decide (bm_SH o = .inl 3) → bm_SH (o + 19) = .inl 7 ∧ o + 19 < 181) (by decide +kernel) o h.2 (by simpa using h.1)
theorem okL_0 : bm_OK 0 10 := ⟨rfl, by decide⟩
theorem okL_1 : bm_OK 1 9 := ⟨rfl, by decide⟩
theorem okL_147 : bm_OK 147 1 := ⟨rfl, by decide⟩
theorem okL_15 : bm_OK 15 0 := ⟨rfl, by decide⟩
theorem okL_151 : bm_OK 151 7 := ⟨rfl, by decide⟩
theorem okL_156 : bm_OK 156 7 := ⟨rfl, by decide⟩
theorem okL_161 : bm_OK 161 2 := ⟨rfl, by decide⟩
theorem okL_162 : bm_OK 162 6 := ⟨rfl, by decide⟩
theorem okL_164 : bm_OK 164 11 := ⟨rfl, by decide⟩
theorem okL_26 : bm_OK 26 8 := ⟨rfl, by decide⟩
theorem okL_3 : bm_OK 3 5 := ⟨rfl, by decide⟩
theorem okL_33 : bm_OK 33 8 := ⟨rfl, by decide⟩
theorem okL_4 : bm_OK 4 0 := ⟨rfl, by decide⟩
theorem okL_40 : bm_OK 40 4 := ⟨rfl, by decide⟩
theorem r0_0_0 : bm_tr 0 0 = some 1 := rfl
theorem r0_0_1 : bm_tr 0 1 = some 3 := rfl
theorem r0_0_10 : bm_tr 0 10 = some 156 := rfl
theorem r0_0_11 : bm_tr 0 11 = some 161 := rfl
theorem r0_0_12 : bm_tr 0 12 = some 162 := rfl
theorem r0_0_2 : bm_tr 0 2 = some 4 := rfl
theorem r0_0_3 : bm_tr 0 3 = some 15 := rfl
theorem r0_0_4 : bm_tr 0 4 = some 26 := rfl
theorem r0_0_5 : bm_tr 0 5 = some 33 := rfl
theorem r0_0_6 : bm_tr 0 6 = some 40 := rfl
theorem r0_0_7 : bm_tr 0 7 = some 98 := rfl
theorem r0_0_8 : bm_tr 0 8 = some 147 := rfl
theorem r0_0_9 : bm_tr 0 9 = some 151 := rfl
theorem r0_147_0 : bm_tr 147 0 = some 148 := rfl
theorem r0_147_1 : bm_tr 147 1 = some 149 := rfl
theorem r0_147_2 : bm_tr 147 2 = some 150 := rfl
theorem r0_151_0 : bm_tr 151 0 = some 152 := rfl
theorem r0_151_1 : bm_tr 151 1 = some 153 := rfl
theorem r0_151_2 : bm_tr 151 2 = some 154 := rfl
theorem r0_151_3 : bm_tr 151 3 = some 155 := rfl
theorem r0_156_0 : bm_tr 156 0 = some 157 := rfl
theorem r0_156_1 : bm_tr 156 1 = some 158 := rfl
theorem r0_156_2 : bm_tr 156 2 = some 159 := rfl
theorem r0_15_0 : bm_tr 15 0 = some 16 := rfl
theorem r0_15_1 : bm_tr 15 1 = some 17 := rfl
theorem r0_15_2 : bm_tr 15 2 = some 18 := rfl
theorem r0_15_3 : bm_tr 15 3 = some 19 := rfl
theorem r0_15_4 : bm_tr 15 4 = some 20 := rfl
theorem r0_15_5 : bm_tr 15 5 = some 21 := rfl
theorem r0_15_6 : bm_tr 15 6 = some 22 := rfl
theorem r0_15_7 : bm_tr 15 7 = some 23 := rfl
theorem r0_15_8 : bm_tr 15 8 = some 24 := rfl
theorem r0_15_9 : bm_tr 15 9 = some 25 := rfl
theorem r0_162_0 : bm_tr 162 0 = some 163 := rfl
theorem r0_164_1 : bm_tr 164 1 = some 165 := rfl
theorem r0_164_10 : bm_tr 164 10 = some 170 := rfl
theorem r0_164_21 : bm_tr 164 21 = some 171 := rfl
theorem r0_164_22 : bm_tr 164 22 = some 172 := rfl
theorem r0_164_23 : bm_tr 164 23 = some 173 := rfl
theorem r0_164_31 : bm_tr 164 31 = some 174 := rfl
theorem r0_164_35 : bm_tr 164 35 = some 175 := rfl
theorem r0_164_37 : bm_tr 164 37 = some 176 := rfl
theorem r0_164_43 : bm_tr 164 43 = some 177 := rfl
theorem r0_164_44 : bm_tr 164 44 = some 178 := rfl
theorem r0_164_45 : bm_tr 164 45 = some 179 := rfl
theorem r0_164_46 : bm_tr 164 46 = some 180 := rfl
theorem r0_164_6 : bm_tr 164 6 = some 166 := rfl
theorem r0_164_7 : bm_tr 164 7 = some 167 := rfl
theorem r0_164_8 : bm_tr 164 8 = some 168 := rfl
theorem r0_164_9 : bm_tr 164 9 = some 169 := rfl
theorem r0_1_0 : bm_tr 1 0 = some 2 := rfl
theorem r0_26_0 : bm_tr 26 0 = some 4 := rfl
theorem r0_26_1 : bm_tr 26 1 = some 27 := rfl
theorem r0_26_2 : bm_tr 26 2 = some 28 := rfl
theorem r0_26_3 : bm_tr 26 3 = some 29 := rfl
theorem r0_26_4 : bm_tr 26 4 = some 30 := rfl
theorem r0_26_5 : bm_tr 26 5 = some 31 := rfl
theorem r0_33_0 : bm_tr 33 0 = some 4 := rfl
theorem r0_33_1 : bm_tr 33 1 = some 34 := rfl
theorem r0_33_2 : bm_tr 33 2 = some 35 := rfl
theorem r0_33_3 : bm_tr 33 3 = some 36 := rfl
theorem r0_33_4 : bm_tr 33 4 = some 37 := rfl
theorem r0_33_5 : bm_tr 33 5 = some 38 := rfl
theorem r0_33_6 : bm_tr 33 6 = some 39 := rfl
theorem r0_3_0 : bm_tr 3 0 = some 1 := rfl
theorem r0_40_0 : bm_tr 40 0 = some 41 := rfl
theorem r0_4_0 : bm_tr 4 0 = some 5 := rfl
theorem r0_4_1 : bm_tr 4 1 = some 6 := rfl
theorem r0_4_2 : bm_tr 4 2 = some 7 := rfl
theorem r0_4_3 : bm_tr 4 3 = some 8 := rfl
theorem r0_4_4 : bm_tr 4 4 = some 9 := rfl
theorem r0_4_5 : bm_tr 4 5 = some 10 := rfl
theorem r0_4_6 : bm_tr 4 6 = some 11 := rfl
theorem r0_4_7 : bm_tr 4 7 = some 12 := rfl
theorem r0_4_8 : bm_tr 4 8 = some 13 := rfl
theorem r0_4_9 : bm_tr 4 9 = some 14 := rfl
theorem rkL_10 : bm_RK 10 2 7 := ⟨rfl, by decide⟩
theorem rkL_11 : bm_RK 11 0 7 := ⟨rfl, by decide⟩
theorem rkL_12 : bm_RK 12 0 7 := ⟨rfl, by decide⟩
theorem rkL_13 : bm_RK 13 0 4 := ⟨rfl, by decide⟩
theorem rkL_14 : bm_RK 14 0 4 := ⟨rfl, by decide⟩
theorem rkL_148 : bm_RK 148 0 40 := ⟨rfl, by decide⟩
theorem rkL_149 : bm_RK 149 0 40 := ⟨rfl, by decide⟩
theorem rkL_150 : bm_RK 150 0 40 := ⟨rfl, by decide⟩
theorem rkL_152 : bm_RK 152 4 40 := ⟨rfl, by decide⟩
theorem rkL_153 : bm_RK 153 0 40 := ⟨rfl, by decide⟩
theorem rkL_154 : bm_RK 154 0 40 := ⟨rfl, by decide⟩
theorem rkL_155 : bm_RK 155 0 40 := ⟨rfl, by decide⟩
theorem rkL_157 : bm_RK 157 4 40 := ⟨rfl, by decide⟩
theorem rkL_158 : bm_RK 158 0 40 := ⟨rfl, by decide⟩
theorem rkL_159 : bm_RK 159 0 40 := ⟨rfl, by decide⟩
theorem rkL_16 : bm_RK 16 2 8 := ⟨rfl, by decide⟩
theorem rkL_163 : bm_RK 163 0 64 := ⟨rfl, by decide⟩
theorem rkL_165 : bm_RK 165 1 940 := ⟨rfl, by decide⟩
theorem rkL_166 : bm_RK 166 0 287 := ⟨rfl, by decide⟩
theorem rkL_167 : bm_RK 167 0 61 := ⟨rfl, by decide⟩
theorem rkL_168 : bm_RK 168 0 135 := ⟨rfl, by decide⟩
theorem rkL_169 : bm_RK 169 2 30 := ⟨rfl, by decide⟩
theorem rkL_17 : bm_RK 17 0 8 := ⟨rfl, by decide⟩
theorem rkL_170 : bm_RK 170 2 34 := ⟨rfl, by decide⟩
theorem rkL_171 : bm_RK 171 0 8 := ⟨rfl, by decide⟩
theorem rkL_172 : bm_RK 172 0 360 := ⟨rfl, by decide⟩
theorem rkL_173 : bm_RK 173 0 45 := ⟨rfl, by decide⟩
theorem rkL_174 : bm_RK 174 1 48 := ⟨rfl, by decide⟩
theorem rkL_175 : bm_RK 175 0 4 := ⟨rfl, by decide⟩
theorem rkL_176 : bm_RK 176 0 45 := ⟨rfl, by decide⟩
theorem rkL_177 : bm_RK 177 3 45 := ⟨rfl, by decide⟩
theorem rkL_178 : bm_RK 178 0 574 := ⟨rfl, by decide⟩
theorem rkL_179 : bm_RK 179 2 30 := ⟨rfl, by decide⟩
theorem rkL_18 : bm_RK 18 0 8 := ⟨rfl, by decide⟩
theorem rkL_180 : bm_RK 180 3 2 := ⟨rfl, by decide⟩
theorem rkL_19 : bm_RK 19 0 8 := ⟨rfl, by decide⟩
theorem rkL_2 : bm_RK 2 0 940 := ⟨rfl, by decide⟩
theorem rkL_20 : bm_RK 20 0 8 := ⟨rfl, by decide⟩
theorem rkL_21 : bm_RK 21 2 7 := ⟨rfl, by decide⟩
theorem rkL_22 : bm_RK 22 0 7 := ⟨rfl, by decide⟩
theorem rkL_23 : bm_RK 23 0 7 := ⟨rfl, by decide⟩
theorem rkL_24 : bm_RK 24 0 4 := ⟨rfl, by decide⟩
theorem rkL_25 : bm_RK 25 0 4 := ⟨rfl, by decide⟩
theorem rkL_27 : bm_RK 27 0 8 := ⟨rfl, by decide⟩
theorem rkL_28 : bm_RK 28 0 8 := ⟨rfl, by decide⟩
theorem rkL_29 : bm_RK 29 0 8 := ⟨rfl, by decide⟩
theorem rkL_30 : bm_RK 30 0 8 := ⟨rfl, by decide⟩
theorem rkL_31 : bm_RK 31 0 8 := ⟨rfl, by decide⟩
theorem rkL_34 : bm_RK 34 0 8 := ⟨rfl, by decide⟩
theorem rkL_35 : bm_RK 35 0 8 := ⟨rfl, by decide⟩
theorem rkL_36 : bm_RK 36 0 8 := ⟨rfl, by decide⟩
theorem rkL_37 : bm_RK 37 0 8 := ⟨rfl, by decide⟩
theorem rkL_38 : bm_RK 38 0 8 := ⟨rfl, by decide⟩
theorem rkL_39 : bm_RK 39 0 8 := ⟨rfl, by decide⟩
theorem rkL_41 : bm_RK 41 5 8 := ⟨rfl, by decide⟩
theorem rkL_5 : bm_RK 5 2 8 := ⟨rfl, by decide⟩
theorem rkL_6 : bm_RK 6 0 8 := ⟨rfl, by decide⟩
theorem rkL_7 : bm_RK 7 0 8 := ⟨rfl, by decide⟩
theorem rkL_8 : bm_RK 8 0 8 := ⟨rfl, by decide⟩
theorem rkL_9 : bm_RK 9 0 8 := ⟨rfl, by decide⟩
theorem rkL_98 : bm_RK 98 6 2 := ⟨rfl, by decide⟩
theorem rk_0_0 {o : Nat} (h : bm_OK o 0) : bm_RK (o + 1) 2 8 := bm_all181 (p := fun o => decide (bm_SH o = .inl 0) → bm_SH (o + 1) = .inr (2, 8) ∧ o + 1 < 181) (by decide +kernel) o h.2 (by simpa using h.1)
theorem rk_0_1 {o : Nat} (h : bm_OK o 0) : bm_RK (o + 2) 0 8 := bm_all181 (p := fun o => decide (bm_SH o = .inl 0) → bm_SH (o + 2) = .inr (0, 8) ∧ o + 2 < 181) (by decide +kernel) o h.2 (by simpa using h.1)
theorem rk_0_2 {o : Nat} (h : bm_OK o 0) : bm_RK (o + 3) 0 8 := bm_all181 (p := fun o => decide (bm_SH o = .inl 0) → bm_SH (o + 3) = .inr (0, 8) ∧ o + 3 < 181) (by decide +kernel) o h.2 (by simpa using h.1)
theorem rk_0_3 {o : Nat} (h : bm_OK o 0) : bm_RK (o + 4) 0 8 := bm_all181 (p := fun o => decide (bm_SH o = .inl 0) → bm_SH (o + 4) = .inr (0, 8) ∧ o + 4 < 181) (by decide +kernel) o h.2 (by simpa using h.1)
theorem rk_0_4 {o : Nat} (h : bm_OK o 0) : bm_RK (o + 5) 0 8 := bm_all181 (p := fun o => decide (bm_SH o = .inl 0) → bm_SH (o + 5) = .inr (0, 8) ∧ o + 5 < 181) (by decide +kernel) o h.2 (by simpa using h.1)
theorem rk_0_5 {o : Nat} (h : bm_OK o 0) : bm_RK (o + 6) 2 7 := bm_all181 (p := fun o => decide (bm_SH o = .inl 0) → bm_SH (o + 6) = .inr (2, 7) ∧ o + 6 < 181) (by decide +kernel) o h.2 (by simpa using h.1)
theorem rk_0_6 {o : Nat} (h : bm_OK o 0) : bm_RK (o + 7) 0 7 := bm_all181 (p := fun o => decide (bm_SH o = .inl 0) → bm_SH (o + 7) = .inr (0, 7) ∧ o + 7 < 181) (by decide +kernel) o h.2 (by simpa using h.1)
theorem rk_0_7 {o : Nat} (h : bm_OK o 0) : bm_RK (o + 8) 0 7 := bm_all181 (p := fun o => decide (bm_SH o = .inl 0) → bm_SH (o + 8) = .inr (0, 7) ∧ o + 8 < 181) (by decide +kernel) o h.2 (by simpa using h.1)
theorem rk_0_8 {o : Nat} (h : bm_OK o 0) : bm_RK (o + 9) 0 4 := bm_all181 (p := fun o => decide (bm_SH o = .inl 0) → bm_SH (o + 9) = .inr (0, 4) ∧ o + 9 < 181) (by decide +kernel) o h.2 (by simpa using h.1)
theorem rk_0_9 {o : Nat} (h : bm_OK o 0) : bm_RK (o + 10) 0 4 := bm_all181 (p := fun o => decide (bm_SH o = .inl 0) → bm_SH (o + 10) = .inr (0, 4) ∧ o + 10 < 181) (by decide +kernel) o h.2 (by simpa using h.1)
theorem rk_7_0 {o : Nat} (h : bm_OK o 7) : bm_RK (o + 1) 4 40 := bm_all181 (p := fun o => decide (bm_SH o = .inl 7) → bm_SH (o + 1) = .inr (4, 40) ∧ o + 1 < 181) (by decide +kernel) o h.2 (by simpa using h.1)
theorem rk_7_1 {o : Nat} (h : bm_OK o 7) : bm_RK (o + 2) 0 40 := bm_all181 (p := fun o => decide (bm_SH o = .inl 7) → bm_SH (o + 2) = .inr (0, 40) ∧ o + 2 < 181) (by decide +kernel) o h.2 (by simpa using h.1)
theorem rk_7_2 {o : Nat} (h : bm_OK o 7) : bm_RK (o + 3) 0 40 := bm_all181 (p := fun o => decide (bm_SH o = .inl 7) → bm_SH (o + 3) = .inr (0, 40) ∧ o + 3 < 181) (by decide +kernel) o h.2 (by simpa using h.1)
theorem rk_8_1 {o : Nat} (h : bm_OK o 8) : bm_RK (o + 1) 0 8 := bm_all181 (p := fun o => decide (bm_SH o = .inl 8) → bm_SH (o + 1) = .inr (0, 8) ∧ o + 1 < 181) (by decide +kernel) o h.2 (by simpa using h.1)
theorem rk_8_2 {o : Nat} (h : bm_OK o 8) : bm_RK (o + 2) 0 8 := bm_all181 (p := fun o => decide (bm_SH o = .inl 8) → bm_SH (o + 2) = .inr (0, 8) ∧ o + 2 < 181) (by decide +kernel) o h.2 (by simpa using h.1)
theorem rk_8_3 {o : Nat} (h : bm_OK o 8) : bm_RK (o + 3) 0 8 := bm_all181 (p := fun o => decide (bm_SH o = .inl 8) → bm_SH (o + 3) = .inr (0, 8) ∧ o + 3 < 181) (by decide +kernel) o h.2 (by simpa using h.1)
theorem rk_8_4 {o : Nat} (h : bm_OK o 8) : bm_RK (o + 4) 0 8 := bm_all181 (p := fun o => decide (bm_SH o = .inl 8) → bm_SH (o + 4) = .inr (0, 8) ∧ o + 4 < 181) (by decide +kernel) o h.2 (by simpa using h.1)
theorem rk_8_5 {o : Nat} (h : bm_OK o 8) : bm_RK (o + 5) 0 8 := bm_all181 (p := fun o => decide (bm_SH o = .inl 8) → bm_SH (o + 5) = .inr (0, 8) ∧ o + 5 < 181) (by decide +kernel) o h.2 (by simpa using h.1)
theorem tr_0_0 {o : Nat} (h : bm_OK o 0) : bm_tr o 0 = some (o + 1) := bm_all181 (p := fun o => decide (bm_SH o = .inl 0) → bm_tr o 0 = some (o + 1)) (by decide +kernel) o h.2 (by simpa using h.1)
theorem tr_0_1 {o : Nat} (h : bm_OK o 0) : bm_tr o 1 = some (o + 2) := bm_all181 (p := fun o => decide (bm_SH o = .inl 0) → bm_tr o 1 = some (o + 2)) (by decide +kernel) o h.2 (by simpa using h.1)
theorem tr_0_2 {o : Nat} (h : bm_OK o 0) : bm_tr o 2 = some (o + 3) := bm_all181 (p := fun o => decide (bm_SH o = .inl 0) → bm_tr o 2 = some (o + 3)) (by decide +kernel) o h.2 (by simpa using h.1)
theorem tr_0_3 {o : Nat} (h : bm_OK o 0) : bm_tr o 3 = some (o + 4) := bm_all181 (p := fun o => decide (bm_SH o = .inl 0) → bm_tr o 3 = some (o + 4)) (by decide +kernel) o h.2 (by simpa using h.1)
theorem tr_0_4 {o : Nat} (h : bm_OK o 0) : bm_tr o 4 = some (o + 5) := bm_all181 (p := fun o => decide (bm_SH o = .inl 0) → bm_tr o 4 = some (o + 5)) (by decide +kernel) o h.2 (by simpa using h.1)
theorem tr_0_5 {o : Nat} (h : bm_OK o 0) : bm_tr o 5 = some (o + 6) := bm_all181 (p := fun o => decide (bm_SH o = .inl 0) → bm_tr o 5 = some (o + 6)) (by decide +kernel) o h.2 (by simpa using h.1)
theorem tr_0_6 {o : Nat} (h : bm_OK o 0) : bm_tr o 6 = some (o + 7) := bm_all181 (p := fun o => decide (bm_SH o = .inl 0) → bm_tr o 6 = some (o + 7)) (by decide +kernel) o h.2 (by simpa using h.1)
theorem tr_0_7 {o : Nat} (h : bm_OK o 0) : bm_tr o 7 = some (o + 8) := bm_all181 (p := fun o => decide (bm_SH o = .inl 0) → bm_tr o 7 = some (o + 8)) (by decide +kernel) o h.2 (by simpa using h.1)
theorem tr_0_8 {o : Nat} (h : bm_OK o 0) : bm_tr o 8 = some (o + 9) := bm_all181 (p := fun o => decide (bm_SH o = .inl 0) → bm_tr o 8 = some (o + 9)) (by decide +kernel) o h.2 (by simpa using h.1)
theorem tr_0_9 {o : Nat} (h : bm_OK o 0) : bm_tr o 9 = some (o + 10) := bm_all181 (p := fun o => decide (bm_SH o = .inl 0) → bm_tr o 9 = some (o + 10)) (by decide +kernel) o h.2 (by simpa using h.1)
theorem tr_3_0 {o : Nat} (h : bm_OK o 3) : bm_tr o 0 = some (o + 1) := bm_all181 (p := fun o => decide (bm_SH o = .inl 3) → bm_tr o 0 = some (o + 1)) (by decide +kernel) o h.2 (by simpa using h.1)
theorem tr_3_1 {o : Nat} (h : bm_OK o 3) : bm_tr o 1 = some (o + 12) := bm_all181 (p := fun o => decide (bm_SH o = .inl 3) → bm_tr o 1 = some (o + 12)) (by decide +kernel) o h.2 (by simpa using h.1)
theorem tr_3_2 {o : Nat} (h : bm_OK o 3) : bm_tr o 2 = some (o + 19) := bm_all181 (p := fun o => decide (bm_SH o = .inl 3) → bm_tr o 2 = some (o + 19)) (by decide +kernel) o h.2 (by simpa using h.1)
theorem tr_7_0 {o : Nat} (h : bm_OK o 7) : bm_tr o 0 = some (o + 1) := bm_all181 (p := fun o => decide (bm_SH o = .inl 7) → bm_tr o 0 = some (o + 1)) (by decide +kernel) o h.2 (by simpa using h.1)
theorem tr_7_1 {o : Nat} (h : bm_OK o 7) : bm_tr o 1 = some (o + 2) := bm_all181 (p := fun o => decide (bm_SH o = .inl 7) → bm_tr o 1 = some (o + 2)) (by decide +kernel) o h.2 (by simpa using h.1)
theorem tr_7_2 {o : Nat} (h : bm_OK o 7) : bm_tr o 2 = some (o + 3) := bm_all181 (p := fun o => decide (bm_SH o = .inl 7) → bm_tr o 2 = some (o + 3)) (by decide +kernel) o h.2 (by simpa using h.1)
theorem tr_8_1 {o : Nat} (h : bm_OK o 8) : bm_tr o 1 = some (o + 1) := bm_all181 (p := fun o => decide (bm_SH o = .inl 8) → bm_tr o 1 = some (o + 1)) (by decide +kernel) o h.2 (by simpa using h.1)
theorem tr_8_2 {o : Nat} (h : bm_OK o 8) : bm_tr o 2 = some (o + 2) := bm_all181 (p := fun o => decide (bm_SH o = .inl 8) → bm_tr o 2 = some (o + 2)) (by decide +kernel) o h.2 (by simpa using h.1)
theorem tr_8_3 {o : Nat} (h : bm_OK o 8) : bm_tr o 3 = some (o + 3) := bm_all181 (p := fun o => decide (bm_SH o = .inl 8) → bm_tr o 3 = some (o + 3)) (by decide +kernel) o h.2 (by simpa using h.1)
theorem tr_8_4 {o : Nat} (h : bm_OK o 8) : bm_tr o 4 = some (o + 4) := bm_all181 (p := fun o => decide (bm_SH o = .inl 8) → bm_tr o 4 = some (o + 4)) (by decide +kernel) o h.2 (by simpa using h.1)
theorem tr_8_5 {o : Nat} (h : bm_OK o 8) : bm_tr o 5 = some (o + 5) := bm_all181 (p := fun o => decide (bm_SH o = .inl 8) → bm_tr o 5 = some (o + 5)) (by decide +kernel) o h.2 (by simpa using h.1)
