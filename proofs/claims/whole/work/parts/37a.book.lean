/-! a book's text: what both have read so far -/
def bk_1 (T : pt_T) (c : zc_C) (r : zc_R) (i : Nat) : Prop := ∃ v m o, c.1 148 i = nI v ∧ c.1 149 i = nI m ∧ c.1 150 i = nI o ∧ r.1 168 (3 * i) = nI v ∧ v ≤ 6 ∧ (v = 6 → r.1 168 (3 * i + 1) = nI o ∧ 1 ≤ o ∧ o ≤ 60) ∧ (v ≠ 6 → r.1 168 (3 * i + 1) = nI m ∧ m < T 0) ∧ (v = 0 → r.1 168 (3 * i + 2) = nI o ∧ 1 ≤ o ∧ o ≤ 3) ∧ (v = 1 → r.1 168 (3 * i + 2) = nI o ∧ o < T 1) ∧ (v = 5 → r.1 168 (3 * i + 2) = nI o ∧ o ≤ 3)
def bk_A (T : pt_T) (c : zc_C) (r : zc_R) : Prop := T 0 ≤ 8 ∧ T 1 ≤ 7 ∧ c.1 4 10 = nI (T 0) ∧ c.1 4 13 = nI (T 1) ∧ r.1 166 0 = nI (T 0) ∧ r.1 166 1 = nI (T 1) ∧ (∀ j, j < T 0 → nm_E (c.2.1 5 j) (r.2 169 j)) ∧ ∀ q, q < T 1 → nm_E (c.2.1 10 q) (r.2 169 (8 + q))
def bk_P (T : pt_T) (N : Nat) (c : zc_C) (r : zc_R) : Prop := bk_A T c r ∧ N ≤ 40 ∧ c.1 147 3 = nI N ∧ r.1 164 34 = nI N ∧ ∀ i, i < N → bk_1 T c r i
/-- what a line may change -/
def gk_c (N : Nat) (c c' : zc_C) : Prop := (∀ o k, o ≠ 3 → (o < 148 ∨ 150 < o ∨ k ≠ N) → c'.1 o k = c.1 o k) ∧ fk_J c.2.1 c'.2.1 ∧ fk_W c.2.2 c'.2.2
def gk_r (N : Nat) (r r' : zc_R) : Prop := (∀ o k, (o ≠ 168 ∨ k < 3 * N ∨ 3 * N + 2 < k) → (o ≠ 164 ∨ k < 4 ∨ (4 < k ∧ k < 11) ∨ k = 17 ∨ 18 < k) → r'.1 o k = r.1 o k) ∧ rk_J r.2 r'.2
theorem gk_cr {N : Nat} {c c' : zc_C} (g : gz_c c c') : gk_c N c c' := ⟨fun o k h1 _ => g.1 o k (by omega), g.2⟩
theorem gk_rr {N : Nat} {r r' : zc_R} (g : gz_r r r') : gk_r N r r' := ⟨fun o k _ h2 => g.1 o k h2, g.2⟩
theorem gk_ct {N : Nat} {a b c : zc_C} (h : gk_c N a b) (g : gk_c N b c) : gk_c N a c := ⟨fun o k h1 h2 => (g.1 o k h1 h2).trans (h.1 o k h1 h2), fun o k h1 => (g.2.1 o k h1).trans (h.2.1 o k h1), fun o k h1 => (g.2.2 o k h1).trans (h.2.2 o k h1)⟩
theorem gk_rt {N : Nat} {a b c : zc_R} (h : gk_r N a b) (g : gk_r N b c) : gk_r N a c := ⟨fun o k h1 h2 => (g.1 o k h1 h2).trans (h.1 o k h1 h2), fun o k h1 => (g.2 o k h1).trans (h.2 o k h1)⟩
theorem gk_cu {N : Nat} {c : zc_C} {o : Nat} {v : Int32} (h1 : 148 ≤ o) (h2 : o ≤ 150) : gk_c N c (bm_uI c.1 o N v, c.2) := ⟨fun o' k h3 h4 => pn_uI_off (by omega), fun _ _ _ => rfl, fun _ _ _ => rfl⟩
theorem gk_ru {N : Nat} {r : zc_R} {k : Nat} {v : Int32} (h1 : 3 * N ≤ k) (h2 : k ≤ 3 * N + 2) : gk_r N r (bm_uI r.1 168 k v, r.2) := ⟨fun o' k h3 h4 => pn_uI_off (by omega), fun _ _ _ => rfl⟩
theorem bk_Ag {T : pt_T} {N : Nat} {c c' : zc_C} {r r' : zc_R} (h : bk_A T c r) (g : gk_c N c c') (s : gk_r N r r') : bk_A T c' r' := by
  obtain ⟨h1, h2, h3, h4, h5, h6, h7, h8⟩ := h
  exact ⟨h1, h2, by rw [g.1 4 10 (by omega) (by omega)]; exact h3, by rw [g.1 4 13 (by omega) (by omega)]; exact h4, by rw [s.1 166 0 (by omega) (by omega)]; exact h5, by rw [s.1 166 1 (by omega) (by omega)]; exact h6, fun j hj => by rw [g.2.1 5 j (by omega), s.2 169 j (by omega)]; exact h7 j hj, fun j hj => by rw [g.2.1 10 j (by omega), s.2 169 (8 + j) (by omega)]; exact h8 j hj⟩
theorem bk_Pg {T : pt_T} {N : Nat} {c c' : zc_C} {r r' : zc_R} (h : bk_P T N c r) (g : gk_c N c c') (s : gk_r N r r') : bk_P T N c' r' := by
  obtain ⟨h1, h2, h3, h4, h5⟩ := h
  refine ⟨bk_Ag h1 g s, h2, by rw [g.1 147 3 (by omega) (by omega)]; exact h3, by rw [s.1 164 34 (by omega) (by omega)]; exact h4, fun i hi => ?_⟩
  obtain ⟨v, m, o, p⟩ := h5 i hi
  refine ⟨v, m, o, ?_⟩
  rw [g.1 148 i (by omega) (by omega), g.1 149 i (by omega) (by omega), g.1 150 i (by omega) (by omega), s.1 168 (3 * i) (by omega) (by omega), s.1 168 (3 * i + 1) (by omega) (by omega), s.1 168 (3 * i + 2) (by omega) (by omega)]
  exact p
section BK
variable {n lim p : Nat} {B : Nat → Nat} {c : zc_C} {r : zc_R}
theorem zk_ru (h : zz_P n lim B p c r) {k : Nat} {v : Int32} : zz_P n lim B p c (bm_uI r.1 168 k v, r.2) := zz_to h (fun _ _ _ _ => rfl) rfl rfl (fun o k ho => pn_uI_ne (by omega)) rfl (fun _ => rfl)
/-- a side -/
theorem zz_side (h : zz_P n lim B p c r) : (∃ v, v < 4 ∧ (lx B n lim p).1 = 4 ∧ f_X5_wordHere c.1 c.2.2 2 = some (nI (0 + v), c.1) ∧ f_X12_isOneOf r.1 r.2 17 4 = some (true, bm_uI r.1 164 18 (nI v))) ∨ ∃ Ic Ir, f_X5_wordHere c.1 c.2.2 2 = some (-1, Ic) ∧ f_X12_isOneOf r.1 r.2 17 4 = some (false, Ir) ∧ zf_P (Ic, c.2) (Ir, r.2) ∧ gz_c c (Ic, c.2) ∧ gz_r r (Ir, r.2) :=
  zz_one (fa := 17) (b := 15) (m := 4) (of := 0) (so := 2) h (by omega) (by decide +kernel) (fun i hi => propext ((by decide +kernel : ∀ i, i < 34 → (bm_wso (1000 + i) = nI 2 ↔ (15 ≤ i ∧ i < 15 + 4))) i hi)) (by decide +kernel)
/-- a verb -/
theorem zz_verb (h : zz_P n lim B p c r) : (∃ v, v < 6 ∧ (lx B n lim p).1 = 4 ∧ f_X5_wordHere c.1 c.2.2 3 = some (nI (0 + v), c.1) ∧ f_X12_isOneOf r.1 r.2 11 6 = some (true, bm_uI r.1 164 18 (nI v))) ∨ ∃ Ic Ir, f_X5_wordHere c.1 c.2.2 3 = some (-1, Ic) ∧ f_X12_isOneOf r.1 r.2 11 6 = some (false, Ir) ∧ zf_P (Ic, c.2) (Ir, r.2) ∧ gz_c c (Ic, c.2) ∧ gz_r r (Ir, r.2) :=
  zz_one (fa := 11) (b := 8) (m := 6) (of := 0) (so := 3) h (by omega) (by decide +kernel) (fun i hi => propext ((by decide +kernel : ∀ i, i < 34 → (bm_wso (1000 + i) = nI 3 ↔ (8 ≤ i ∧ i < 8 + 6))) i hi)) (by decide +kernel)
end BK
