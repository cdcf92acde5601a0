/-! an army's text: what both have read so far -/
def ar_V (T : pt_T) : Prop := pt_VA T ∧ (∀ j, j < T 0 → T (5 + j) ≤ 30 ∧ T (13 + j) ≤ 30) ∧ ∀ j, T 0 ≤ j → j < 8 → T (31 + j) = 0
def ar_C (c : zc_C) (T : pt_T) : Prop := c.1 15 10 = nI (T 0) ∧ c.1 15 11 = nI (T 29) ∧ c.1 15 12 = nI (T 30) ∧ c.1 15 13 = nI (T 1) ∧ c.1 15 14 = nI (T 2) ∧ (∀ j, j < T 0 → c.1 17 j = nI (T (5 + j)) ∧ c.1 18 j = nI (T (13 + j)) ∧ c.1 19 j = nI (T (21 + j)) ∧ c.1 20 j = pn_x (T (31 + j))) ∧ (∀ q, q < T 1 → c.1 22 q = nI (T (39 + q)) ∧ c.1 23 q = nI (T (46 + q))) ∧ ∀ f, f < T 2 → c.1 24 f = nI (T (53 + f)) ∧ c.1 25 f = nI (T (57 + f))
def ar_O (a b : Bool) (T : pt_T) (c : zc_C) (r : zc_R) : Prop := r.1 164 20 = nI (a.toNat + 2 * b.toNat) ∧ c.1 15 15 = (if a = true then nI (T 3) else -1) ∧ c.1 15 16 = (if b = true then nI (T 4) else -1) ∧ (a = false → T 3 = 2) ∧ (b = false → T 4 = 6)
def ar_N (c : zc_C) (r : zc_R) (T : pt_T) : Prop := (∀ j, j < T 0 → nm_E (c.2.1 16 j) (r.2 169 (15 + j))) ∧ ∀ q, q < T 1 → nm_E (c.2.1 21 q) (r.2 169 (23 + q))
def ar_P (a b : Bool) (T : pt_T) (c : zc_C) (r : zc_R) : Prop := (∀ k, k < 61 → r.1 167 k = nI (T k)) ∧ ar_O a b T c r ∧ ar_C c T ∧ ar_N c r T ∧ ar_V T
/-- what it speaks of -/
def ar_u (T : pt_T) (k : Nat) : Prop := k < 5 ∨ k = 29 ∨ k = 30 ∨ (5 ≤ k ∧ k < 5 + T 0) ∨ (13 ≤ k ∧ k < 13 + T 0) ∨ (21 ≤ k ∧ k < 21 + T 0) ∨ (31 ≤ k ∧ k < 39) ∨ (39 ≤ k ∧ k < 39 + T 1) ∨ (46 ≤ k ∧ k < 46 + T 1) ∨ (53 ≤ k ∧ k < 53 + T 2) ∨ (57 ≤ k ∧ k < 57 + T 2)
def ar_w (T : pt_T) (o i : Nat) : Prop := (o = 15 ∧ 10 ≤ i ∧ i ≤ 16) ∨ (17 ≤ o ∧ o ≤ 20 ∧ i < T 0) ∨ ((o = 22 ∨ o = 23) ∧ i < T 1) ∨ ((o = 24 ∨ o = 25) ∧ i < T 2)
theorem ar_Vcg {T T' : pt_T} (h : ar_V T) (e : ∀ k, ar_u T k → T' k = T k) : ar_V T' := by
  obtain ⟨⟨a0, a1, a2, a3, a4, a5, a6, a7, a8, a9, a10, ⟨c, a11, a12⟩, a13, a14⟩, hx, hz⟩ := h
  have e0 : T' 0 = T 0 := e 0 (by unfold ar_u; omega)
  have e1 : T' 1 = T 1 := e 1 (by unfold ar_u; omega)
  have e2 : T' 2 = T 2 := e 2 (by unfold ar_u; omega)
  have e3 : T' 3 = T 3 := e 3 (by unfold ar_u; omega)
  have e4 : T' 4 = T 4 := e 4 (by unfold ar_u; omega)
  have e29 : T' 29 = T 29 := e 29 (by unfold ar_u; omega)
  have e30 : T' 30 = T 30 := e 30 (by unfold ar_u; omega)
  have e5 : ∀ j, j < T 0 → T' (5 + j) = T (5 + j) := fun j hj => e _ (by unfold ar_u; omega)
  have e13 : ∀ j, j < T 0 → T' (13 + j) = T (13 + j) := fun j hj => e _ (by unfold ar_u; omega)
  have e21 : ∀ j, j < T 0 → T' (21 + j) = T (21 + j) := fun j hj => e _ (by unfold ar_u; omega)
  have e31 : ∀ j, j < 8 → T' (31 + j) = T (31 + j) := fun j hj => e _ (by unfold ar_u; omega)
  have e39 : ∀ j, j < T 1 → T' (39 + j) = T (39 + j) := fun j hj => e _ (by unfold ar_u; omega)
  have e46 : ∀ j, j < T 1 → T' (46 + j) = T (46 + j) := fun j hj => e _ (by unfold ar_u; omega)
  have e53 : ∀ j, j < T 2 → T' (53 + j) = T (53 + j) := fun j hj => e _ (by unfold ar_u; omega)
  have e57 : ∀ j, j < T 2 → T' (57 + j) = T (57 + j) := fun j hj => e _ (by unfold ar_u; omega)
  unfold ar_V pt_VA
  rw [e0, e1, e2, e3, e4, e29, e30]
  refine ⟨⟨a0, a1, a2, a3, a4, a5, a6, fun j hj => by rw [e21 j hj]; exact a7 j hj, a8, a9, fun j hj => by rw [e31 j (by omega)]; exact a10 j hj, ⟨c, fun j hj i => by rw [e31 j (by omega)]; exact a11 j hj i, a12⟩, fun q hq => by rw [e39 q hq, e46 q hq]; exact a13 q hq, fun f hf => by rw [e53 f hf, e57 f hf]; exact a14 f hf⟩, fun j hj => by rw [e5 j hj, e13 j hj]; exact hx j hj, fun j h1 h2 => by rw [e31 j h2]; exact hz j h1 h2⟩
theorem ar_cg {a b : Bool} {T T' : pt_T} {c c' : zc_C} {r r' : zc_R} (h : ar_P a b T c r) (e : ∀ k, ar_u T k → T' k = T k) (hR : ∀ k, k < 61 → r'.1 167 k = nI (T' k)) (h20 : r'.1 164 20 = r.1 164 20) (hC : ∀ o i, ar_w T o i → c'.1 o i = c.1 o i) (hN : ∀ j, (j < T 0 → c'.2.1 16 j = c.2.1 16 j ∧ r'.2 169 (15 + j) = r.2 169 (15 + j)) ∧ (j < T 1 → c'.2.1 21 j = c.2.1 21 j ∧ r'.2 169 (23 + j) = r.2 169 (23 + j))) : ar_P a b T' c' r' := by
  obtain ⟨p1, ⟨o1, o2, o3, o4, o5⟩, ⟨c1, c2, c3, c4, c5, c6, c7, c8⟩, ⟨n1, n2⟩, v⟩ := h
  have h8 := v.1.1
  have e0 : T' 0 = T 0 := e 0 (by unfold ar_u; omega)
  have e1 : T' 1 = T 1 := e 1 (by unfold ar_u; omega)
  have e2 : T' 2 = T 2 := e 2 (by unfold ar_u; omega)
  have e3 : T' 3 = T 3 := e 3 (by unfold ar_u; omega)
  have e4 : T' 4 = T 4 := e 4 (by unfold ar_u; omega)
  have e29 : T' 29 = T 29 := e 29 (by unfold ar_u; omega)
  have e30 : T' 30 = T 30 := e 30 (by unfold ar_u; omega)
  have w15 : ∀ i, 10 ≤ i → i ≤ 16 → c'.1 15 i = c.1 15 i := fun i h1 h2 => hC 15 i (by unfold ar_w; omega)
  refine ⟨hR, ⟨by rw [h20]; exact o1, by rw [w15 15 (by omega) (by omega), e3]; exact o2, by rw [w15 16 (by omega) (by omega), e4]; exact o3, by rw [e3]; exact o4, by rw [e4]; exact o5⟩, ⟨by rw [w15 10 (by omega) (by omega), e0]; exact c1, by rw [w15 11 (by omega) (by omega), e29]; exact c2, by rw [w15 12 (by omega) (by omega), e30]; exact c3, by rw [w15 13 (by omega) (by omega), e1]; exact c4, by rw [w15 14 (by omega) (by omega), e2]; exact c5, fun j hj => ?_, fun q hq => ?_, fun f hf => ?_⟩, ⟨fun j hj => ?_, fun q hq => ?_⟩, ar_Vcg v e⟩
  · rw [e0] at hj
    rw [hC 17 j (by unfold ar_w; omega), hC 18 j (by unfold ar_w; omega), hC 19 j (by unfold ar_w; omega), hC 20 j (by unfold ar_w; omega), e (5 + j) (by unfold ar_u; omega), e (13 + j) (by unfold ar_u; omega), e (21 + j) (by unfold ar_u; omega), e (31 + j) (by unfold ar_u; omega)]
    exact c6 j hj
  · rw [e1] at hq
    rw [hC 22 q (by unfold ar_w; omega), hC 23 q (by unfold ar_w; omega), e (39 + q) (by unfold ar_u; omega), e (46 + q) (by unfold ar_u; omega)]
    exact c7 q hq
  · rw [e2] at hf
    rw [hC 24 f (by unfold ar_w; omega), hC 25 f (by unfold ar_w; omega), e (53 + f) (by unfold ar_u; omega), e (57 + f) (by unfold ar_u; omega)]
    exact c8 f hf
  · rw [e0] at hj
    rw [((hN j).1 hj).1, ((hN j).1 hj).2]; exact n1 j hj
  · rw [e1] at hq
    rw [((hN q).2 hq).1, ((hN q).2 hq).2]; exact n2 q hq
theorem ar_gz {a b : Bool} {T : pt_T} {c c' : zc_C} {r r' : zc_R} (h : ar_P a b T c r) (g : gz_c c c') (g' : gz_r r r') : ar_P a b T c' r' :=
  ar_cg h (fun _ _ => rfl) (fun k hk => by rw [g'.1 167 k (by omega)]; exact h.1 k hk) (g'.1 164 20 (by omega)) (fun o i ho => g.1 o i (by unfold ar_w at ho; omega)) (fun j => ⟨fun _ => ⟨g.2.1 16 j (by omega), g'.2 169 _ (by omega)⟩, fun _ => ⟨g.2.1 21 j (by omega), g'.2 169 _ (by omega)⟩⟩)
/-- a number laid down where nothing is spoken of yet -/
theorem ar_lay {a b : Bool} {T : pt_T} {c : zc_C} {r : zc_R} {o i K v : Nat} (h : ar_P a b T c r) (h1 : ¬ ar_w T o i) (h2 : ¬ ar_u T K) : ar_P a b (pt_up T K v) (bm_uI c.1 o i (nI v), c.2) (bm_uI r.1 167 K (nI v), r.2) := by
  have e : ∀ k, ar_u T k → pt_up T K v k = T k := fun k hk => by
    unfold pt_up
    rw [if_neg]
    intro q; rw [q] at hk; exact h2 hk
  refine ar_cg h e (fun k hk => ?_) ?_ (fun o' i' ho => ?_) (fun j => ⟨fun _ => ⟨rfl, rfl⟩, fun _ => ⟨rfl, rfl⟩⟩)
  · unfold pt_up
    by_cases q : k = K
    · rw [if_pos q]; show bm_uI r.1 167 K (nI v) 167 k = nI v; exact pn_uI_hit q
    · rw [if_neg q]; dsimp only; rw [pn_uI_ne2 q]; exact h.1 k hk
  · show bm_uI r.1 167 K (nI v) 164 20 = r.1 164 20
    exact pn_uI_ne (by decide)
  · refine pn_uI_off (Classical.byContradiction fun q => ?_)
    have q1 : o' = o := Classical.byContradiction fun z => q (Or.inl z)
    have q2 : i' = i := Classical.byContradiction fun z => q (Or.inr z)
    rw [q1, q2] at ho
    exact h1 ho
/-- what a line may change -/
def ga_c (c c' : zc_C) : Prop := (∀ o k, o ≠ 3 → (o < 15 ∨ 25 < o) → c'.1 o k = c.1 o k) ∧ (∀ o k, o ≠ 3 → o ≠ 16 → o ≠ 21 → c'.2.1 o k = c.2.1 o k) ∧ ∀ o k, o ≠ 3 → c'.2.2 o k = c.2.2 o k
def ga_r (r r' : zc_R) : Prop := (∀ o k, o ≠ 167 → (o ≠ 164 ∨ k < 4 ∨ (4 < k ∧ k < 11) ∨ k = 17 ∨ k = 19 ∨ 20 < k) → r'.1 o k = r.1 o k) ∧ ∀ o k, (o ≠ 164 ∨ k ≠ 17) → (o ≠ 169 ∨ k < 15) → r'.2 o k = r.2 o k
theorem ga_cr {c c' : zc_C} (g : gz_c c c') : ga_c c c' := ⟨fun o k h1 _ => g.1 o k (by omega), fun o k h1 _ _ => g.2.1 o k (by omega), fun o k h1 => g.2.2 o k (by omega)⟩
theorem ga_rr {r r' : zc_R} (g : gz_r r r') : ga_r r r' := ⟨fun o k h1 h2 => g.1 o k (by omega), fun o k h1 _ => g.2 o k h1⟩
theorem ga_ct {a b c : zc_C} (h : ga_c a b) (g : ga_c b c) : ga_c a c := ⟨fun o k h1 h2 => (g.1 o k h1 h2).trans (h.1 o k h1 h2), fun o k h1 h2 h3 => (g.2.1 o k h1 h2 h3).trans (h.2.1 o k h1 h2 h3), fun o k h1 => (g.2.2 o k h1).trans (h.2.2 o k h1)⟩
theorem ga_rt {a b c : zc_R} (h : ga_r a b) (g : ga_r b c) : ga_r a c := ⟨fun o k h1 h2 => (g.1 o k h1 h2).trans (h.1 o k h1 h2), fun o k h1 h2 => (g.2 o k h1 h2).trans (h.2 o k h1 h2)⟩
theorem ga_cu {c : zc_C} {o i : Nat} {v : Int32} (h1 : 15 ≤ o) (h2 : o ≤ 25) : ga_c c (bm_uI c.1 o i v, c.2) := ⟨fun o' k h3 h4 => pn_uI_ne (by omega), fun _ _ _ _ _ => rfl, fun _ _ _ => rfl⟩
theorem ga_ru {r : zc_R} {k : Nat} {v : Int32} : ga_r r (bm_uI r.1 167 k v, r.2) := ⟨fun o' k h3 h4 => pn_uI_ne h3, fun _ _ _ _ => rfl⟩
section AZ
variable {n lim p : Nat} {B : Nat → Nat} {c : zc_C} {r : zc_R}
theorem zz_cu (h : zz_P n lim B p c r) {o i : Nat} {v : Int32} (ho : 4 ≤ o) : zz_P n lim B p (bm_uI c.1 o i v, c.2) r := zz_to h (fun o' k h1 h2 => pn_uI_ne (by omega)) rfl rfl (fun _ _ _ => rfl) rfl (fun _ => rfl)
theorem zz_ru (h : zz_P n lim B p c r) {k : Nat} {v : Int32} : zz_P n lim B p c (bm_uI r.1 167 k v, r.2) := zz_to h (fun _ _ _ _ => rfl) rfl rfl (fun o k ho => pn_uI_ne (by omega)) rfl (fun _ => rfl)
theorem zz_19 (h : zz_P n lim B p c r) {k : Nat} {v : Int32} (hk : 19 ≤ k) : zz_P n lim B p c (bm_uI r.1 164 k v, r.2) := zz_to h (fun _ _ _ _ => rfl) rfl rfl (fun o k ho => pn_uI_off (by omega)) rfl (fun _ => rfl)
theorem pq_puts1 {I : bm_TI} {J : bm_TJ} {to lo hi v : Nat} {r' : zc_R} (e : f_X12_takes I J (nI lo) (nI hi) = some (true, r')) (h : r'.1 164 18 = nI v) (ht : to < 61) : f_X12_puts I J (nI to) (nI lo) (nI hi) = some (true, bm_uI r'.1 167 to (nI v), r'.2) := by
  unfold f_X12_puts
  rw [e]
  simp only [Option.bind_some, ↓reduceIte]
  rw [if_pos (bm_ixk ht (by omega)), nI_clamp (by omega), h]
theorem pq_puts0 {I : bm_TI} {J : bm_TJ} {to lo hi : Nat} {r' : zc_R} (e : f_X12_takes I J (nI lo) (nI hi) = some (false, r')) : f_X12_puts I J (nI to) (nI lo) (nI hi) = some (false, r') := by
  unfold f_X12_puts
  rw [e]
  rfl
/-- how a line ends -/
def ln_E (n lim : Nat) (B : Nat → Nat) (p : Nat) (c : zc_C) (r : zc_R) (x : Option (Bool × zc_C)) (y : Option (Bool × zc_R)) : Prop := (∃ c' r' p' a b T, x = some (true, c') ∧ y = some (true, r') ∧ zz_P n lim B p' c' r' ∧ ar_P a b T c' r' ∧ p < p' ∧ ga_c c c' ∧ ga_r r r') ∨ ∃ c' r', x = some (false, c') ∧ y = some (false, r') ∧ zf_P c' r' ∧ ga_c c c' ∧ ga_r r r'
theorem ar_foe {a b : Bool} {T : pt_T} {f : Nat} (h : ar_P a b T c r) (hf : T 2 = f) (f4 : f < 4) (hx : T (53 + f) ≤ 30) (hy : T (57 + f) ≤ 30) (k1 : c.1 24 f = nI (T (53 + f))) (k2 : c.1 25 f = nI (T (57 + f))) : ar_P a b (pt_up T 2 (f + 1)) (bm_uI c.1 15 14 (nI (f + 1)), c.2) (bm_uI r.1 167 2 (nI (f + 1)), r.2) := by
  obtain ⟨p1, ⟨o1, o2, o3, o4, o5⟩, ⟨c1, c2, c3, c4, c5, c6, c7, c8⟩, ⟨n1, n2⟩, ⟨⟨a0, a1, a2, a3, a4, a5, a6, a7, a8, a9, a10, a11, a13, a14⟩, hxx, hz⟩⟩ := h
  have u : ∀ k, k ≠ 2 → pt_up T 2 (f + 1) k = T k := fun k hk => by unfold pt_up; rw [if_neg hk]
  have u2 : pt_up T 2 (f + 1) 2 = f + 1 := by unfold pt_up; rw [if_pos rfl]
  have uj : ∀ b j, 2 < b → pt_up T 2 (f + 1) (b + j) = T (b + j) := fun b j hb => u _ (by omega)
  have w15 : ∀ i, i ≠ 14 → bm_uI c.1 15 14 (nI (f + 1)) 15 i = c.1 15 i := fun i hi => pn_uI_ne2 hi
  have w : ∀ o i, o ≠ 15 → bm_uI c.1 15 14 (nI (f + 1)) o i = c.1 o i := fun o i ho => pn_uI_ne ho
  refine ⟨fun k hk => ?_, ⟨?_, ?_, ?_, ?_, ?_⟩, ⟨?_, ?_, ?_, ?_, ?_, ?_, ?_, ?_⟩, ⟨?_, ?_⟩, ?_⟩
  · by_cases q : k = 2
    · rw [q, u2]; show bm_uI r.1 167 2 (nI (f + 1)) 167 2 = _; exact pn_uI_hit rfl
    · rw [u k q]; dsimp only; rw [pn_uI_ne2 q]; exact p1 k hk
  all_goals try rw [u2]
  all_goals try unfold ar_V pt_VA
  all_goals try dsimp only
  all_goals try simp (disch := omega) only [u, uj, u2, w15, w, pn_uI_hit, pn_uI_ne]
  · exact o1
  · exact o2
  · exact o3
  · exact o4
  · exact o5
  · exact c1
  · exact c2
  · exact c3
  · exact c4
  · exact c6
  · exact c7
  · intro g hg
    by_cases q : g = f
    · rw [q]; exact ⟨k1, k2⟩
    · exact c8 g (by omega)
  · exact n1
  · exact n2
  · refine ⟨⟨a0, a1, by omega, a3, a4, a5, a6, a7, a8, a9, a10, a11, a13, fun g hg => ?_⟩, hxx, hz⟩
    by_cases q : g = f
    · rw [q]; exact ⟨hx, hy⟩
    · exact a14 g (by omega)
end AZ
