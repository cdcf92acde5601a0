/-! a sentence: one, in both -/
def sn_V (T S : pt_T) (M : Nat) : Prop := ∀ i, i < M → (S (107 + 3 * i) < 12 ∨ (S (107 + 3 * i) = 20 ∧ 1 ≤ qt_h S i) ∨ ((S (107 + 3 * i) = 21 ∨ S (107 + 3 * i) = 22) ∧ 2 ≤ qt_h S i)) ∧ ((S (107 + 3 * i) = 5 ∨ S (107 + 3 * i) = 6) → S (107 + 3 * i + 2) < T 0) ∧ (S (107 + 3 * i) = 7 → S (107 + 3 * i + 2) < T 1) ∧ S (107 + 3 * i + 2) ≤ 999 ∧ (8 ≤ S (107 + 3 * i) → S (107 + 3 * i) < 12 → 60 ≤ S (107 + 3 * i + 1) ∧ S (107 + 3 * i + 1) ≤ 62)
theorem qh_congr {S S' : pt_T} : ∀ {i : Nat}, sn_e S S' i → qt_h S' i = qt_h S i := by
  intro i
  induction i with
  | zero => intro _; rfl
  | succ i ih =>
    intro h
    unfold qt_h
    rw [ih (fun k hk => h k (by omega)), h _ (by omega)]
theorem sV_u {T S : pt_T} {M a b e : Nat} (h : sn_V T S M) (h0 : a < 12 ∨ (a = 20 ∧ 1 ≤ qt_h S M) ∨ ((a = 21 ∨ a = 22) ∧ 2 ≤ qt_h S M)) (h1 : (a = 5 ∨ a = 6) → e < T 0) (h2 : a = 7 → e < T 1) (h3 : e ≤ 999) (h4 : 8 ≤ a → a < 12 → 60 ≤ b ∧ b ≤ 62) : sn_V T (sn_u S M a b e) (M + 1) := by
  intro i hi
  have hq : qt_h (sn_u S M a b e) i = qt_h S i := qh_congr (fun k hk => su_lt (by omega))
  rw [hq]
  by_cases q : i = M
  · subst q
    rw [su_0, su_1, su_2]
    exact ⟨h0, h1, h2, h3, h4⟩
  · rw [su_lt (by omega), su_lt (by omega), su_lt (by omega)]
    exact h i (by omega)
theorem qh_u (S : pt_T) (M a b e : Nat) : qt_h (sn_u S M a b e) (M + 1) = if a < 12 then qt_h S M + 1 else if a = 20 then qt_h S M else qt_h S M - 1 := by
  show (if sn_u S M a b e (107 + 3 * M) < 12 then qt_h (sn_u S M a b e) M + 1 else if sn_u S M a b e (107 + 3 * M) = 20 then qt_h (sn_u S M a b e) M else qt_h (sn_u S M a b e) M - 1) = _
  rw [su_0, qh_congr (se_u S M a b e)]
/-- what stands below is one more that waits -/
theorem sR_app {S : pt_T} {m t o d d' M x : Nat} {P : List Nat} {w : Int32} {I : bm_TI} (h : sn_R S m (t + 1) P o d' w I) (hx : I 176 t = nI x) (hM : m + P.length = M) (hd : d' = d + (if x = 20 then 1 else 0)) : sn_R (sn_u S M x 0 0) m t (P ++ [x]) o d w I := by
  subst hM
  obtain ⟨h1, h2, h3, h4, h5, h7, h9⟩ := h
  refine ⟨h1, fun i hi => ?_, ?_, sp_app hx h4, h5, ?_, h9⟩
  · rw [su_lt (by omega), su_lt (by omega), su_lt (by omega)]; exact h2 i hi
  · rw [h3, List.length_append]; exact congrArg nI (show t + 1 + P.length = t + (P.length + 1) by omega)
  · rw [h7, sn_n_app, hd]; exact congrArg nI (by omega)
/-- what is so behind a condition that is read -/
def sn_S (T : pt_T) (n lim : Nat) (B : Nat → Nat) (p : Nat) (S : pt_T) (M t o d : Nat) (c : zc_C) (r : zc_R) (c' : zc_C) (r' : zc_R) (p' : Nat) (S' : pt_T) (M' : Nat) (P : List Nat) (m o' : Nat) : Prop := sn_g n p r p' r' ∧ zz_P n lim B p' c' r' ∧ p < p' ∧ sn_C S' M' c' ∧ c'.1 156 5 = nI o' ∧ sn_R S' m t P o' d 1 r'.1 ∧ m + P.length = M' ∧ (∀ x, x ∈ P → 20 ≤ x ∧ x ≤ 22) ∧ t + P.length ≤ 30 ∧ sn_e S S' M ∧ M ≤ M' ∧ sn_V T S' M' ∧ qt_h S' M' = qt_h S M + 1 ∧ M' + 1 + 2 * o ≤ M + 2 * o' ∧ o < o' ∧ o' ≤ 20 ∧ (∀ i, i < t → r'.1 176 i = r.1 176 i) ∧ gS_c c c' ∧ gS_r r r'
def sn_E (T : pt_T) (n lim : Nat) (B : Nat → Nat) (p : Nat) (S : pt_T) (M t o d : Nat) (sh : List Nat → Nat → Prop) (c : zc_C) (r : zc_R) (x : Option (Bool × zc_C)) : Prop := (∃ c' r' p' S' M' P m o', x = some (true, c') ∧ sh P p' ∧ sn_S T n lim B p S M t o d c r c' r' p' S' M' P m o') ∨ ∃ c' r', x = some (false, c') ∧ sn_f n p r r' ∧ zf_P c' r' ∧ gS_c c c' ∧ gS_r r r'
def sn_H (T : pt_T) (n lim : Nat) (B : Nat → Nat) (p : Nat) (S : pt_T) (M t o d : Nat) (c : zc_C) (r : zc_R) : Prop := zz_P n lim B p c r ∧ bk_A T c r ∧ sn_C S M c ∧ c.1 156 5 = nI o ∧ sn_R S M t [] o d 0 r.1 ∧ sn_V T S M ∧ M ≤ 2 * o ∧ o ≤ 20 ∧ 1 ≤ d ∧ d ≤ 9
section ON
variable {T : pt_T} {n lim p : Nat} {B : Nat → Nat} {S : pt_T} {M t o d : Nat} {c : zc_C} {r : zc_R}
/-- both refuse -/
theorem sn_fail {e : Nat} (h : zz_P n lim B p c r) (w : r.1 164 42 = 0) (h1 : 1 ≤ e) (h4 : e ≤ 4) (ho : f_X12_operand r.1 r.2 = (f_X12_bad r.1 (nI e)).bind fun v => some (v.1, v.2, r.2)) {sh : List Nat → Nat → Prop} : sn_E T n lim B p S M t o d sh c r ((f_X5_refuse c.1 (nI e)).bind fun v => some (v.1, v.2, c.2.1, c.2.2)) := by
  obtain ⟨Ic, Ir, e1, e2, e3, z, g1, g2⟩ := zz_bad h h1 h4
  rw [e1]
  refine Or.inr ⟨(Ic, c.2), (Ir, r.2), rfl, fun K hK => ?_, z, gS_cz g1, gS_rz g2⟩
  obtain ⟨K, rfl⟩ : ∃ q, K = q + 1 := ⟨K - 1, by omega⟩
  rw [l48_op w, ho, e3]
  rfl
/-- both go in -/
theorem sn_in (hH : sn_H T n lim B p S M t o d c r) (hk : 2 ≤ (lx B n lim p).1) : ∃ c1 r1 p1, f_X5_advance (bm_uI c.1 156 5 (nI (o + 1))) c.2.1 c.2.2 = some c1 ∧ f_X12_next (bm_uI r.1 164 39 (nI (o + 1))) r.2 = some r1 ∧ zz_P n lim B p1 c1 r1 ∧ p < p1 ∧ sn_C S M c1 ∧ c1.1 156 5 = nI (o + 1) ∧ sn_R S M t [] (o + 1) d 0 r1.1 ∧ (∀ i, r1.1 176 i = r.1 176 i) ∧ bk_A T c1 r1 ∧ gS_c c c1 ∧ gS_r r r1 := by
  obtain ⟨h, hA, hC, hc5, hR, hV, _⟩ := hH
  have h1 := zz_19 (zz_cu h (o := 156) (i := 5) (v := nI (o + 1)) (by omega)) (k := 39) (v := nI (o + 1)) (by omega)
  obtain ⟨c1, r1, p1, a1, a2, z, _, a4, g1, g2, _⟩ := zz_adv h1
  have gc : gS_c c c1 := gS_ct (b := (bm_uI c.1 156 5 (nI (o + 1)), c.2)) ⟨fun o k _ h2 _ _ => pn_uI_ne h2, fun _ _ _ => rfl, fun _ _ _ _ => rfl⟩ (gS_cz g1)
  have gr : gS_r r r1 := gS_rt (b := (bm_uI r.1 164 39 (nI (o + 1)), r.2)) ⟨fun o k h1 _ _ => pn_uI_off (by omega), fun _ _ _ => rfl⟩ (gS_rz g2)
  refine ⟨c1, r1, p1, a1, a2, z, a4 hk, ?_, ?_, ?_, fun i => ?_, bk_AS hA gc gr, gc, gr⟩
  · refine sC_congr ?_ (fun k => g1.2.2 157 k (by omega)) (fun k => ?_) (fun k => ?_) (se_rfl S M) hC
    · exact (g1.1 156 4 (by omega)).trans (show bm_uI c.1 156 5 (nI (o + 1)) 156 4 = _ from pn_uI_ne2 (by omega))
    · exact (g1.1 158 k (by omega)).trans (show bm_uI c.1 156 5 (nI (o + 1)) 158 k = _ from pn_uI_ne (by omega))
    · exact (g1.1 159 k (by omega)).trans (show bm_uI c.1 156 5 (nI (o + 1)) 159 k = _ from pn_uI_ne (by omega))
  · exact (g1.1 156 5 (by omega)).trans (show bm_uI c.1 156 5 (nI (o + 1)) 156 5 = _ from pn_uI_hit rfl)
  · have f : ∀ a k, (a ≠ 164 ∨ k < 4 ∨ (4 < k ∧ k < 11) ∨ k = 17 ∨ (18 < k ∧ k ≠ 39)) → r1.1 a k = r.1 a k := fun a k ha => (g2.1 a k (by omega)).trans (show bm_uI r.1 164 39 (nI (o + 1)) a k = _ from pn_uI_off (by omega))
    obtain ⟨q1, q2, q3, q4, q5, q6, q7⟩ := hR
    refine ⟨?_, fun i hi => ?_, ?_, trivial, ?_, ?_, ?_⟩
    · rw [f 164 38 (by omega)]; exact q1
    · rw [f 168 _ (by omega), f 168 _ (by omega), f 168 _ (by omega)]; exact q2 i hi
    · rw [f 164 40 (by omega)]; exact q3
    · exact (g2.1 164 39 (by omega)).trans (show bm_uI r.1 164 39 (nI (o + 1)) 164 39 = _ from pn_uI_hit rfl)
    · rw [f 164 41 (by omega)]; exact q6
    · rw [f 164 42 (by omega)]; exact q7
  · exact (g2.1 176 i (by omega)).trans (show bm_uI r.1 164 39 (nI (o + 1)) 176 i = _ from pn_uI_ne (by omega))
/-- one stands uppermost -/
theorem sn_push {x : Nat} (h : zz_P n lim B p c r) (hR : sn_R S M t [] o d 0 r.1) (ht : t < 45) : ∃ X, sn_ps r.1 r.2 (nI x) = some (true, X, r.2) ∧ zz_P n lim B p c (X, r.2) ∧ sn_R S M (t + 1) [] o (d + 1) 0 X ∧ X 176 t = nI x ∧ (∀ i, i < t → X 176 i = r.1 176 i) ∧ gS_r r (X, r.2) := by
  obtain ⟨q1, q2, q3, q4, q5, q6, q7⟩ := hR
  have q3' : r.1 164 40 = nI t := q3
  have q6' : r.1 164 41 = nI d := q6
  unfold sn_ps
  rw [q3', if_pos (bm_ixk ht (by omega)), nI_clamp (by omega), pn_uI_ne (by omega), q3', nI_1, pn_uI_ne2 (by omega), pn_uI_ne (by omega), q6', nI_1]
  generalize hX : bm_uI (bm_uI (bm_uI r.1 176 t (nI x)) 164 40 (nI (t + 1))) 164 41 (nI (d + 1)) = X
  have f : ∀ a k, (a ≠ 176 ∨ k ≠ t) → (a ≠ 164 ∨ (k ≠ 40 ∧ k ≠ 41)) → X a k = r.1 a k := fun a k h1 h2 => by rw [← hX, pn_uI_off (by omega), pn_uI_off (by omega), pn_uI_off (by omega)]
  refine ⟨X, rfl, zz_to h (fun _ _ _ _ => rfl) rfl rfl (fun a k ha => f a k (by omega) (by omega)) rfl (fun _ => rfl), ⟨?_, fun i hi => ?_, ?_, trivial, ?_, ?_, ?_⟩, ?_, fun i hi => f 176 i (by omega) (by omega), ⟨fun a k h1 h2 h3 => f a k (by omega) (by omega), fun _ _ _ => rfl⟩⟩
  · rw [f 164 38 (by omega) (by omega)]; exact q1
  · rw [f 168 _ (by omega) (by omega), f 168 _ (by omega) (by omega), f 168 _ (by omega) (by omega)]; exact q2 i hi
  · rw [← hX, pn_uI_ne2 (by omega), pn_uI_hit rfl]; rfl
  · rw [f 164 39 (by omega) (by omega)]; exact q5
  · rw [← hX, pn_uI_hit rfl]; rfl
  · rw [f 164 42 (by omega) (by omega)]; exact q7
  · rw [← hX, pn_uI_ne (by omega), pn_uI_ne (by omega), pn_uI_hit rfl]
theorem cb_tab : ∀ v, v < 34 → (if bm_iwq (some (1000 + v)) = true then (if some (1000 + v) = some (1000 + 21) then some true else (if (some (1000 + v)) = none then some false else ((some (1000 + v)).bind fun a2 => (if bm_iw a2 = true then (if (bm_wso a2) < 4 then some false else some true) else none)))) else none) = some (decide (21 ≤ v)) := by decide +kernel
theorem kc_canB (h : zz_P n lim B p c r) : f_X7_canBegin (c.2.2 3 8) = some (decide ((lx B n lim p).1 = 4 ∧ 21 ≤ (lx B n lim p).2.1)) := by
  have hb := zz_lx h
  unfold f_X7_canBegin
  rw [zz_W h]
  by_cases k : (lx B n lim p).1 = 4
  · rw [if_pos k, cb_tab _ (hb.2.2.1 k)]
    simp only [k, true_and]
  · rw [if_neg k]
    simp only [k, false_and]
    rfl
/-- a refusal behind, told on -/
theorem sE_in {sh : List Nat → Nat → Prop} {p1 : Nat} {c1 : zc_C} {r1 : zc_R} {c' : zc_C} {r' : zc_R} {x : Option (Bool × zc_C)} (hg : sn_g n p r p1 r1) (gc : gS_c c c1) (gr : gS_r r r1) (hx : x = some (false, c')) (hf : sn_f n p1 r1 r') (hz : zf_P c' r') (g1 : gS_c c1 c') (g2 : gS_r r1 r') : sn_E T n lim B p S M t o d sh c r x := Or.inr ⟨c', r', hx, sg_f hg hf, hz, gS_ct gc g1, gS_rt gr g2⟩
/-- one step of the reference's loop -/
theorem sg_op {X : bm_TI} {J1 : bm_TJ} {p1 : Nat} (w : r.1 164 42 = 0) (ho : f_X12_operand r.1 r.2 = some (true, X, J1)) (hp : p < p1) (hn : p1 ≤ n) : sn_g n p r p1 (X, J1) := fun K hK => by
  obtain ⟨K, rfl⟩ : ∃ q, K = q + 1 := ⟨K - 1, by omega⟩
  refine ⟨K, by omega, ?_⟩
  rw [l48_op w, ho]
  rfl
end ON
