/-! a sentence: codes and what waits -/
/-- nots that wait are done; what binds as much is done -/
def sn_dn : List Nat → List Nat
  | [] => []
  | x :: P => if x = 20 then sn_dn P else x :: P
def sn_dj (tl : Nat) : List Nat → List Nat
  | [] => []
  | x :: P => if x = 21 ∨ (x = 22 ∧ tl = 22) then sn_dj tl P else x :: P
/-- how many nots wait -/
def sn_n : List Nat → Nat
  | [] => 0
  | x :: P => (if x = 20 then 1 else 0) + sn_n P
theorem sn_n_app (P : List Nat) (x : Nat) : sn_n (P ++ [x]) = sn_n P + (if x = 20 then 1 else 0) := by
  induction P with
  | nil => show (if x = 20 then 1 else 0) + 0 = 0 + _; omega
  | cons y P ih => show (if y = 20 then 1 else 0) + sn_n (P ++ [x]) = (if y = 20 then 1 else 0) + sn_n P + _; rw [ih]; omega
theorem dn_20 {P : List Nat} (h : sn_dn P = []) : sn_dn (P ++ [20]) = [] := by
  induction P with
  | nil => rfl
  | cons y P ih =>
    unfold sn_dn at h
    show (if y = 20 then sn_dn (P ++ [20]) else y :: (P ++ [20])) = []
    by_cases e : y = 20
    · rw [if_pos e] at h ⊢; exact ih h
    · rw [if_neg e] at h; cases h
theorem dn_21 {P : List Nat} (h : sn_dn P = []) : sn_dj 21 (sn_dn (P ++ [21])) = [] := by
  induction P with
  | nil => rfl
  | cons y P ih =>
    unfold sn_dn at h
    show sn_dj 21 (if y = 20 then sn_dn (P ++ [21]) else y :: (P ++ [21])) = []
    by_cases e : y = 20
    · rw [if_pos e] at h ⊢; exact ih h
    · rw [if_neg e] at h; cases h
theorem dj_22a {P : List Nat} (h : sn_dj 21 P = []) : sn_dj 22 (P ++ [22]) = [] := by
  induction P with
  | nil => rfl
  | cons y P ih =>
    unfold sn_dj at h
    show (if y = 21 ∨ (y = 22 ∧ 22 = 22) then sn_dj 22 (P ++ [22]) else y :: (P ++ [22])) = []
    by_cases e : y = 21 ∨ (y = 22 ∧ 21 = 22)
    · rw [if_pos e] at h; rw [if_pos (by omega)]; exact ih h
    · rw [if_neg e] at h; cases h
theorem dn_22 {P : List Nat} (h : sn_dj 21 (sn_dn P) = []) : sn_dj 22 (sn_dn (P ++ [22])) = [] := by
  induction P with
  | nil => rfl
  | cons y P ih =>
    unfold sn_dn at h
    show sn_dj 22 (if y = 20 then sn_dn (P ++ [22]) else y :: (P ++ [22])) = []
    by_cases e : y = 20
    · rw [if_pos e] at h ⊢; exact ih h
    · rw [if_neg e] at h ⊢
      exact dj_22a (P := y :: P) h
theorem dj_le {P : List Nat} (h : sn_dj 21 P = []) : sn_dj 22 P = [] := by
  induction P with
  | nil => rfl
  | cons y P ih =>
    unfold sn_dj at h ⊢
    by_cases e : y = 21 ∨ (y = 22 ∧ 21 = 22)
    · rw [if_pos e] at h; rw [if_pos (by omega)]; exact ih h
    · rw [if_neg e] at h; cases h
theorem dn_dj {P : List Nat} (h : sn_dn P = []) : sn_dj 21 (sn_dn P) = [] := by rw [h]; rfl
/-- the picture with one code more -/
def sn_u (S : pt_T) (m a b e : Nat) : pt_T := pt_up (pt_up (pt_up S (107 + 3 * m) a) (107 + 3 * m + 1) b) (107 + 3 * m + 2) e
theorem su_0 (S : pt_T) (m a b e : Nat) : sn_u S m a b e (107 + 3 * m) = a := by unfold sn_u; rw [tu_ne (by omega), tu_ne (by omega), tu_hit rfl]
theorem su_1 (S : pt_T) (m a b e : Nat) : sn_u S m a b e (107 + 3 * m + 1) = b := by unfold sn_u; rw [tu_ne (by omega), tu_hit rfl]
theorem su_2 (S : pt_T) (m a b e : Nat) : sn_u S m a b e (107 + 3 * m + 2) = e := by unfold sn_u; rw [tu_hit rfl]
theorem su_lt {S : pt_T} {m a b e k : Nat} (h : k < 107 + 3 * m) : sn_u S m a b e k = S k := by unfold sn_u; rw [tu_ne (by omega), tu_ne (by omega), tu_ne (by omega)]
/-- the same as far as m codes -/
def sn_e (S S' : pt_T) (m : Nat) : Prop := ∀ k, k < 107 + 3 * m → S' k = S k
theorem se_rfl (S : pt_T) (m : Nat) : sn_e S S m := fun _ _ => rfl
theorem se_tr {S S' S'' : pt_T} {m m' : Nat} (h : sn_e S S' m) (g : sn_e S' S'' m') (hm : m ≤ m') : sn_e S S'' m := fun k hk => (g k (by omega)).trans (h k hk)
theorem se_u (S : pt_T) (m a b e : Nat) : sn_e S (sn_u S m a b e) m := fun _ hk => su_lt hk
/-- what waits: its head stands uppermost, and will be code m -/
def sn_P (I : bm_TI) (S : pt_T) (t : Nat) : Nat → List Nat → Prop
  | _, [] => True
  | m, x :: P => I 176 (t + P.length) = nI x ∧ S (107 + 3 * m) = x ∧ S (107 + 3 * m + 1) = 0 ∧ S (107 + 3 * m + 2) = 0 ∧ sn_P I S t (m + 1) P
theorem sp_congr {I I' : bm_TI} {S S' : pt_T} {t : Nat} : ∀ {P : List Nat} {m : Nat}, (∀ k, t ≤ k → k < t + P.length → I' 176 k = I 176 k) → sn_e S S' (m + P.length) → sn_P I S t m P → sn_P I' S' t m P := by
  intro P
  induction P with
  | nil => intro m _ _ _; trivial
  | cons x P ih =>
    intro m h1 h2 h3
    obtain ⟨a1, a2, a3, a4, a5⟩ := h3
    have hl : (x :: P).length = P.length + 1 := rfl
    refine ⟨?_, ?_, ?_, ?_, ih (m := m + 1) (fun k k1 k2 => h1 k k1 (by omega)) (fun k hk => h2 k (by omega)) a5⟩
    · rw [h1 _ (by omega) (by omega)]; exact a1
    · rw [h2 _ (by omega)]; exact a2
    · rw [h2 _ (by omega)]; exact a3
    · rw [h2 _ (by omega)]; exact a4
/-- one more waits, under all -/
theorem sp_app {I : bm_TI} {S : pt_T} {t x : Nat} (hx : I 176 t = nI x) : ∀ {P : List Nat} {m : Nat}, sn_P I S (t + 1) m P → sn_P I (sn_u S (m + P.length) x 0 0) t m (P ++ [x]) := by
  intro P
  induction P with
  | nil => intro m _; exact ⟨hx, su_0 _ _ _ _ _, su_1 _ _ _ _ _, su_2 _ _ _ _ _, trivial⟩
  | cons y P ih =>
    intro m h3
    obtain ⟨a1, a2, a3, a4, a5⟩ := h3
    have hl : (y :: P).length = P.length + 1 := rfl
    have hl2 : (P ++ [x]).length = P.length + 1 := by rw [List.length_append]; rfl
    refine ⟨?_, ?_, ?_, ?_, ?_⟩
    · show I 176 (t + (P ++ [x]).length) = nI y
      rw [hl2, show t + (P.length + 1) = t + 1 + P.length by omega]; exact a1
    · rw [su_lt (by omega)]; exact a2
    · rw [su_lt (by omega)]; exact a3
    · rw [su_lt (by omega)]; exact a4
    · have := ih (m := m + 1) a5
      rw [hl, show m + (P.length + 1) = m + 1 + P.length by omega]; exact this
/-- the class's codes -/
def sn_C (S : pt_T) (m : Nat) (c : zc_C) : Prop := c.1 156 4 = nI m ∧ ∀ i, i < m → c.2.2 157 i = some (1000 + qt_w (S (107 + 3 * i))) ∧ c.1 158 i = nI (S (107 + 3 * i + 2)) ∧ c.1 159 i = nI (S (107 + 3 * i + 1))
/-- the reference's: codes, what waits above t, how many ones, how deep, whether it is whole -/
def sn_R (S : pt_T) (m t : Nat) (P : List Nat) (o d : Nat) (w : Int32) (I : bm_TI) : Prop := I 164 38 = nI m ∧ (∀ i, i < m → I 168 (3 * i) = nI (S (107 + 3 * i)) ∧ I 168 (3 * i + 1) = nI (S (107 + 3 * i + 1)) ∧ I 168 (3 * i + 2) = nI (S (107 + 3 * i + 2))) ∧ I 164 40 = nI (t + P.length) ∧ sn_P I S t m P ∧ I 164 39 = nI o ∧ I 164 41 = nI (d + sn_n P) ∧ I 164 42 = w
theorem sR_congr {S S' : pt_T} {m t o d : Nat} {P : List Nat} {w : Int32} {I I' : bm_TI} (hf : ∀ k, 38 ≤ k → k ≤ 42 → I' 164 k = I 164 k) (h8 : ∀ k, k < 3 * m → I' 168 k = I 168 k) (h6 : ∀ k, t ≤ k → k < t + P.length → I' 176 k = I 176 k) (hs : sn_e S S' (m + P.length)) (h : sn_R S m t P o d w I) : sn_R S' m t P o d w I' := by
  obtain ⟨h1, h2, h3, h4, h5, h7, h9⟩ := h
  refine ⟨?_, fun i hi => ?_, ?_, sp_congr h6 hs h4, ?_, ?_, ?_⟩
  · rw [hf 38 (by omega) (by omega)]; exact h1
  · rw [h8 _ (by omega), h8 _ (by omega), h8 _ (by omega), hs _ (by omega), hs _ (by omega), hs _ (by omega)]; exact h2 i hi
  · rw [hf 40 (by omega) (by omega)]; exact h3
  · rw [hf 39 (by omega) (by omega)]; exact h5
  · rw [hf 41 (by omega) (by omega)]; exact h7
  · rw [hf 42 (by omega) (by omega)]; exact h9
theorem sC_congr {S S' : pt_T} {m : Nat} {c c' : zc_C} (h4 : c'.1 156 4 = c.1 156 4) (hW : ∀ k, c'.2.2 157 k = c.2.2 157 k) (h8 : ∀ k, c'.1 158 k = c.1 158 k) (h9 : ∀ k, c'.1 159 k = c.1 159 k) (hs : sn_e S S' m) (h : sn_C S m c) : sn_C S' m c' := by
  refine ⟨h4.trans h.1, fun i hi => ?_⟩
  rw [hW, h8, h9, hs _ (by omega), hs _ (by omega), hs _ (by omega)]
  exact h.2 i hi
/-- one code is put down -/
theorem pq_put {I : bm_TI} {m a b e : Nat} (h : I 164 38 = nI m) (hm : m < 45) : ∃ I', f_X12_putCode I (nI a) (nI b) (nI e) = some I' ∧ I' 164 38 = nI (m + 1) ∧ I' 168 (3 * m) = nI a ∧ I' 168 (3 * m + 1) = nI b ∧ I' 168 (3 * m + 2) = nI e ∧ ∀ o k, (o ≠ 168 ∨ k < 3 * m ∨ 3 * m + 2 < k) → (o ≠ 164 ∨ k ≠ 38) → I' o k = I o k := by
  have i0 : bm_ix 135 (3 * nI m) = true := by rw [show (3 : Int32) = nI 3 from rfl, pk_mul]; exact bm_ixk (by omega) (by omega)
  have i1 : bm_ix 135 (3 * nI m + 1) = true := by rw [show (3 : Int32) = nI 3 from rfl, pk_mul, nI_1]; exact bm_ixk (by omega) (by omega)
  have i2 : bm_ix 135 (3 * nI m + 2) = true := by rw [show (3 : Int32) = nI 3 from rfl, pk_mul, show (2 : Int32) = nI 2 from rfl, nI_add]; exact bm_ixk (by omega) (by omega)
  have l0 : (3 * nI m).toNatClampNeg = 3 * m := by rw [show (3 : Int32) = nI 3 from rfl, pk_mul, nI_clamp (by omega)]
  have l1 : (3 * nI m + 1).toNatClampNeg = 3 * m + 1 := by rw [show (3 : Int32) = nI 3 from rfl, pk_mul, nI_1, nI_clamp (by omega)]
  have l2 : (3 * nI m + 2).toNatClampNeg = 3 * m + 2 := by rw [show (3 : Int32) = nI 3 from rfl, pk_mul, show (2 : Int32) = nI 2 from rfl, nI_add, nI_clamp (by omega)]
  have h1 : ∀ k v, bm_uI I 168 k v 164 38 = nI m := fun k v => by rw [pn_uI_ne (by omega)]; exact h
  have h2 : ∀ k v k' v', bm_uI (bm_uI I 168 k v) 168 k' v' 164 38 = nI m := fun k v k' v' => by rw [pn_uI_ne (by omega)]; exact h1 k v
  have h3 : ∀ k v k' v' k'' v'', bm_uI (bm_uI (bm_uI I 168 k v) 168 k' v') 168 k'' v'' 164 38 = nI m := fun k v k' v' k'' v'' => by rw [pn_uI_ne (by omega)]; exact h2 k v k' v'
  unfold f_X12_putCode
  simp only [h, h1, h2, h3, i0, i1, i2, l0, l1, l2, nI_1, ↓reduceIte]
  refine ⟨_, rfl, pn_uI_hit rfl, ?_, ?_, ?_, fun o k ho hk => ?_⟩
  · rw [pn_uI_ne (by omega), pn_uI_ne2 (by omega), pn_uI_ne2 (by omega), pn_uI_hit rfl]
  · rw [pn_uI_ne (by omega), pn_uI_ne2 (by omega), pn_uI_hit rfl]
  · rw [pn_uI_ne (by omega), pn_uI_hit rfl]
  · rw [pn_uI_off (by omega), pn_uI_off (by omega), pn_uI_off (by omega), pn_uI_off (by omega)]
/-- what doing those that wait may change -/
def sn_F (I I' : bm_TI) : Prop := ∀ o k, (o ≠ 164 ∨ (k ≠ 38 ∧ k ≠ 40 ∧ k ≠ 41)) → o ≠ 168 → I' o k = I o k
/-- the uppermost is done -/
theorem sn_pop {S : pt_T} {m t o d x : Nat} {P : List Nat} {w : Int32} {I I0 : bm_TI} (h : sn_R S m t (x :: P) o d w I) (hm : m < 45) (h40 : I0 164 40 = nI (t + P.length)) (h41 : I0 164 41 = nI (d + sn_n P)) (hf : ∀ o k, (o ≠ 164 ∨ (k ≠ 40 ∧ k ≠ 41)) → I0 o k = I o k) : ∃ I', f_X12_putCode I0 (nI x) 0 0 = some I' ∧ sn_R S (m + 1) t P o d w I' ∧ sn_F I I' := by
  obtain ⟨h1, h2, h3, ⟨b1, b2, b3, b4, b5⟩, h5, h7, h9⟩ := h
  obtain ⟨I', e, e1, e2, e3, e4, ef⟩ := pq_put (I := I0) (a := x) (b := 0) (e := 0) ((hf 164 38 (by omega)).trans h1) hm
  refine ⟨I', e, ⟨e1, fun i hi => ?_, ?_, sp_congr (fun k _ _ => by rw [ef 176 k (by omega) (by omega)]; exact hf 176 k (by omega)) (se_rfl _ _) b5, ?_, ?_, ?_⟩, fun o k ho h8 => by rw [ef o k (by omega) (by omega)]; exact hf o k (by omega)⟩
  · by_cases q : i = m
    · subst q; rw [e2, e3, e4, b2, b3, b4]; exact ⟨rfl, rfl, rfl⟩
    · rw [ef 168 _ (by omega) (by omega), ef 168 _ (by omega) (by omega), ef 168 _ (by omega) (by omega), hf 168 _ (by omega), hf 168 _ (by omega), hf 168 _ (by omega)]; exact h2 i (by omega)
  · rw [ef 164 40 (by omega) (by omega)]; exact h40
  · rw [ef 164 39 (by omega) (by omega), hf 164 39 (by omega)]; exact h5
  · rw [ef 164 41 (by omega) (by omega)]; exact h41
  · rw [ef 164 42 (by omega) (by omega), hf 164 42 (by omega)]; exact h9
theorem sn_nots {S : pt_T} {t o d : Nat} {w : Int32} : ∀ {P : List Nat} {m k : Nat} {I : bm_TI}, sn_R S m t P o d w I → (∀ x, x ∈ P → 20 ≤ x ∧ x ≤ 22) → m + P.length ≤ 45 → t + P.length ≤ 45 → P.length < k → (t = 0 ∨ ∃ y, I 176 (t - 1) = nI y ∧ y < 1000 ∧ y ≠ 20) → ∃ m' I', f_X12_nots_l0 k I = some I' ∧ sn_R S m' t (sn_dn P) o d w I' ∧ m' + (sn_dn P).length = m + P.length ∧ sn_F I I' := by
  intro P
  induction P with
  | nil =>
    intro m k I h hx hm ht hk hb
    obtain ⟨k, rfl⟩ : ∃ q, k = q + 1 := ⟨k - 1, by omega⟩
    have h40 : I 164 40 = nI t := h.2.2.1
    refine ⟨m, I, ?_, h, rfl, fun _ _ _ _ => rfl⟩
    have hl : ([] : List Nat).length = 0 := rfl
    rw [f_X12_nots_l0, h40]
    by_cases t0 : t = 0
    · rw [if_pos (by rw [t0]; decide)]
    · rw [if_neg (show ¬ nI t ≤ 0 from nI_ge (b := t) (a := 0) (by omega) (by omega)), pn_pred (by omega), if_pos (bm_ixk (show t - 1 < 45 by omega) (by omega)), nI_clamp (by omega)]
      rcases hb with hb | ⟨y, y1, y2, y3⟩
      · exact absurd hb t0
      · rw [y1, if_neg (show ¬ nI y = 20 by rw [show (20 : Int32) = nI 20 from rfl, pn_eqI (by omega) (by omega)]; exact y3)]
  | cons x P ih =>
    intro m k I h hx hm ht hk hb
    have hl : (x :: P).length = P.length + 1 := rfl
    obtain ⟨k, rfl⟩ : ∃ q, k = q + 1 := ⟨k - 1, by omega⟩
    have h40 : I 164 40 = nI (t + (P.length + 1)) := h.2.2.1
    have hx0 := hx x (List.mem_cons_self ..)
    have h176 : I 176 (t + P.length) = nI x := h.2.2.2.1.1
    rw [f_X12_nots_l0, h40, if_neg (show ¬ nI (t + (P.length + 1)) ≤ 0 from nI_ge (b := t + (P.length + 1)) (a := 0) (by omega) (by omega)), pn_pred (by omega), show t + (P.length + 1) - 1 = t + P.length by omega, if_pos (bm_ixk (show t + P.length < 45 by omega) (by omega)), nI_clamp (by omega), h176]
    unfold sn_dn
    by_cases e : x = 20
    · rw [if_pos e, if_pos (show nI x = 20 by rw [e]; rfl)]
      have h41 : I 164 41 = nI (d + (1 + sn_n P)) := by
        have := h.2.2.2.2.2.1
        unfold sn_n at this
        rw [if_pos e] at this
        exact this
      obtain ⟨I1, e1, r1, f1⟩ := sn_pop (I0 := bm_uI (bm_uI I 164 40 (nI (t + P.length))) 164 41 (bm_uI I 164 40 (nI (t + P.length)) 164 41 - 1)) h (by omega) (by rw [pn_uI_ne2 (by omega), pn_uI_hit rfl]) (by rw [pn_uI_hit rfl, pn_uI_ne2 (by omega), h41, pn_pred (by omega)]; exact congrArg nI (by omega)) (fun o k ho => by rw [pn_uI_off (by omega), pn_uI_off (by omega)])
      rw [e] at e1
      have e1' : f_X12_putCode (bm_uI (bm_uI I 164 40 (nI (t + P.length))) 164 41 (bm_uI I 164 40 (nI (t + P.length)) 164 41 - 1)) 20 0 0 = some I1 := e1
      rw [e1']
      simp only [Option.bind_some]
      obtain ⟨m', I', e2, r2, l2, f2⟩ := ih (m := m + 1) (k := k) r1 (fun y hy => hx y (List.mem_cons_of_mem _ hy)) (by omega) (by omega) (by omega) (by
        rcases hb with hb | ⟨y, y1, y2⟩
        · exact Or.inl hb
        · exact Or.inr ⟨y, (f1 176 _ (by omega) (by omega)).trans y1, y2⟩)
      exact ⟨m', I', e2, r2, by omega, fun o k ho h8 => (f2 o k ho h8).trans (f1 o k ho h8)⟩
    · rw [if_neg e, if_neg (show ¬ nI x = 20 by rw [show (20 : Int32) = nI 20 from rfl, pn_eqI (by omega) (by omega)]; exact e)]
      exact ⟨m, I, rfl, h, rfl, fun _ _ _ _ => rfl⟩
theorem sn_joins {S : pt_T} {t o d tl : Nat} {w : Int32} (htl : tl = 21 ∨ tl = 22) : ∀ {P : List Nat} {m k : Nat} {I : bm_TI}, sn_R S m t P o d w I → (∀ x, x ∈ P → 20 ≤ x ∧ x ≤ 22) → m + P.length ≤ 45 → t + P.length ≤ 45 → P.length < k → (t = 0 ∨ ∃ y, I 176 (t - 1) = nI y ∧ y < 1000 ∧ y ≠ 21 ∧ (y = 22 → tl = 21)) → ∃ m' I', f_X12_joins_l0 (nI tl) k I = some I' ∧ sn_R S m' t (sn_dj tl P) o d w I' ∧ m' + (sn_dj tl P).length = m + P.length ∧ sn_F I I' := by
  intro P
  induction P with
  | nil =>
    intro m k I h hx hm ht hk hb
    obtain ⟨k, rfl⟩ : ∃ q, k = q + 1 := ⟨k - 1, by omega⟩
    have h40 : I 164 40 = nI t := h.2.2.1
    refine ⟨m, I, ?_, h, rfl, fun _ _ _ _ => rfl⟩
    have hl : ([] : List Nat).length = 0 := rfl
    rw [f_X12_joins_l0, h40]
    by_cases t0 : t = 0
    · rw [if_pos (by rw [t0]; decide)]
    · rw [if_neg (show ¬ nI t ≤ 0 from nI_ge (b := t) (a := 0) (by omega) (by omega)), pn_pred (by omega), if_pos (bm_ixk (show t - 1 < 45 by omega) (by omega)), nI_clamp (by omega)]
      rcases hb with hb | ⟨y, y1, y2, y3, y4⟩
      · exact absurd hb t0
      · rw [y1, if_neg (show ¬ nI y = 21 by rw [show (21 : Int32) = nI 21 from rfl, pn_eqI (by omega) (by omega)]; exact y3)]
        by_cases y5 : y = 22
        · rw [if_pos (show nI y = 22 by rw [y5]; rfl), if_neg (show ¬ nI tl = 22 by rw [y4 y5]; decide)]
        · rw [if_neg (show ¬ nI y = 22 by rw [show (22 : Int32) = nI 22 from rfl, pn_eqI (by omega) (by omega)]; exact y5)]
  | cons x P ih =>
    intro m k I h hx hm ht hk hb
    have hl : (x :: P).length = P.length + 1 := rfl
    obtain ⟨k, rfl⟩ : ∃ q, k = q + 1 := ⟨k - 1, by omega⟩
    have h40 : I 164 40 = nI (t + (P.length + 1)) := h.2.2.1
    have hx0 := hx x (List.mem_cons_self ..)
    have h176 : I 176 (t + P.length) = nI x := h.2.2.2.1.1
    have g40 : bm_uI I 164 40 (nI (t + P.length)) 164 40 = nI (t + P.length) := pn_uI_hit rfl
    have g176 : bm_uI I 164 40 (nI (t + P.length)) 176 (t + P.length) = nI x := by rw [pn_uI_ne (by omega)]; exact h176
    rw [f_X12_joins_l0, h40, if_neg (show ¬ nI (t + (P.length + 1)) ≤ 0 from nI_ge (b := t + (P.length + 1)) (a := 0) (by omega) (by omega)), pn_pred (by omega), show t + (P.length + 1) - 1 = t + P.length by omega, if_pos (bm_ixk (show t + P.length < 45 by omega) (by omega)), nI_clamp (by omega), h176, g40, if_pos (bm_ixk (show t + P.length < 45 by omega) (by omega)), nI_clamp (by omega), g176]
    unfold sn_dj
    by_cases e : x = 21 ∨ (x = 22 ∧ tl = 22)
    · have h41 : I 164 41 = nI (d + sn_n P) := by
        have := h.2.2.2.2.2.1
        unfold sn_n at this
        rw [if_neg (by omega), Nat.zero_add] at this
        exact this
      obtain ⟨I1, e1, r1, f1⟩ := sn_pop (I0 := bm_uI I 164 40 (nI (t + P.length))) h (by omega) (pn_uI_hit rfl) (by rw [pn_uI_ne2 (by omega)]; exact h41) (fun o k ho => by rw [pn_uI_off (by omega)])
      rw [e1]
      simp only [Option.bind_some]
      obtain ⟨m', I', e2, r2, l2, f2⟩ := ih (m := m + 1) (k := k) r1 (fun y hy => hx y (List.mem_cons_of_mem _ hy)) (by omega) (by omega) (by omega) (by
        rcases hb with hb | ⟨y, y1, y2⟩
        · exact Or.inl hb
        · exact Or.inr ⟨y, (f1 176 _ (by omega) (by omega)).trans y1, y2⟩)
      rw [if_pos e]
      refine ⟨m', I', ?_, r2, by omega, fun o k ho h8 => (f2 o k ho h8).trans (f1 o k ho h8)⟩
      rcases e with e | ⟨e, e'⟩
      · rw [if_pos (show nI x = 21 by rw [e]; rfl)]; exact e2
      · rw [if_neg (show ¬ nI x = 21 by rw [e]; decide), if_pos (show nI x = 22 by rw [e]; rfl), if_pos (show nI tl = 22 by rw [e']; rfl)]; exact e2
    · rw [if_neg e]
      refine ⟨m, I, ?_, h, rfl, fun _ _ _ _ => rfl⟩
      rw [if_neg (show ¬ nI x = 21 by rw [show (21 : Int32) = nI 21 from rfl, pn_eqI (by omega) (by omega)]; omega)]
      by_cases e2 : x = 22
      · rw [if_pos (show nI x = 22 by rw [e2]; rfl), if_neg (show ¬ nI tl = 22 by rw [show (22 : Int32) = nI 22 from rfl, pn_eqI (by omega) (by omega)]; omega)]
      · rw [if_neg (show ¬ nI x = 22 by rw [show (22 : Int32) = nI 22 from rfl, pn_eqI (by omega) (by omega)]; exact e2)]
