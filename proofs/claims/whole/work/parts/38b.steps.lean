/-! a sentence: the reference goes on by one -/
def sn_G (rr : ((bm_TI × bm_TJ) ⊕ (((bm_TI × bm_TJ) ⊕ (((bm_TI × bm_TJ) ⊕ (bm_TI × bm_TJ))))))) : Option (Int32 × bm_TI × bm_TJ) := match rr with | (Sum.inl y7) => ((f_X12_bad y7.1 1).bind fun v8 => some (((-1) - (v8.2 164 16)), v8.2, y7.2)) | (Sum.inr (Sum.inl y7)) => some (((-1) - (y7.1 164 16)), y7.1, y7.2) | (Sum.inr (Sum.inr (Sum.inl y7))) => some (((-1) - (y7.1 164 16)), y7.1, y7.2) | (Sum.inr (Sum.inr (Sum.inr y7))) => ((f_X12_sentence_l145 1000 0 (bm_uI y7.1 166 106 (y7.1 164 38))).bind fun y12 => some ((y12 164 39), y12, y7.2))
def sn_g (n p : Nat) (r : zc_R) (p' : Nat) (r' : zc_R) : Prop := ∀ K, n - p + 1 < K → ∃ K', n - p' + 1 < K' ∧ f_X12_sentence_l48 K true r.1 r.2 = f_X12_sentence_l48 K' true r'.1 r'.2
def sn_f (n p : Nat) (r r' : zc_R) : Prop := ∀ K, n - p + 1 < K → (f_X12_sentence_l48 K true r.1 r.2).bind sn_G = some (-1 - r'.1 164 16, r'.1, r'.2)
theorem sg_tr {n p p' p'' : Nat} {r r' r'' : zc_R} (h : sn_g n p r p' r') (g : sn_g n p' r' p'' r'') : sn_g n p r p'' r'' := fun K hK => by
  obtain ⟨K1, h1, e1⟩ := h K hK
  obtain ⟨K2, h2, e2⟩ := g K1 h1
  exact ⟨K2, h2, e1.trans e2⟩
theorem sg_f {n p p' : Nat} {r r' r'' : zc_R} (h : sn_g n p r p' r') (g : sn_f n p' r' r'') : sn_f n p r r'' := fun K hK => by
  obtain ⟨K1, h1, e1⟩ := h K hK
  rw [e1]; exact g K1 h1
theorem l48_op {I : bm_TI} {J : bm_TJ} (w : I 164 42 = 0) (K : Nat) : f_X12_sentence_l48 (K + 1) true I J = (f_X12_operand I J).bind fun v1 => (if v1.1 = true then f_X12_sentence_l48 K true v1.2.1 v1.2.2 else some (Sum.inr (Sum.inr (Sum.inl (v1.2.1, v1.2.2))))) := by
  rw [f_X12_sentence_l48, if_pos rfl, if_pos w, if_pos w]
theorem l48_be {I : bm_TI} {J : bm_TJ} (w : I 164 42 = 1) (e : ¬ I 164 11 = 0) (K : Nat) : f_X12_sentence_l48 (K + 1) true I J = (f_X12_behind I J).bind fun v3 => (if v3.1 = true then f_X12_sentence_l48 K true v3.2.1 v3.2.2 else some (Sum.inr (Sum.inl (v3.2.1, v3.2.2)))) := by
  have w' : ¬ I 164 42 = 0 := by rw [w]; decide
  rw [f_X12_sentence_l48, if_pos rfl, if_neg w', if_neg e, if_neg w']
theorem l48_en {I : bm_TI} {J : bm_TJ} (w : I 164 42 = 1) (e : I 164 11 = 0) (K : Nat) : f_X12_sentence_l48 (K + 1) true I J = (f_X12_nots I).bind fun v9 => ((f_X12_joins v9 22).bind fun v11 => (if (v11 164 40) ≤ 0 then f_X12_sentence_l48 K false v11 J else some (Sum.inl (v11, J)))) := by
  have w' : ¬ I 164 42 = 0 := by rw [w]; decide
  rw [f_X12_sentence_l48, if_pos rfl, if_neg w', if_pos e]
def gS_c (c c' : zc_C) : Prop := (∀ o k, (o ≠ 3 ∨ k < 2 ∨ 10 < k) → o ≠ 156 → o ≠ 158 → o ≠ 159 → c'.1 o k = c.1 o k) ∧ fk_J c.2.1 c'.2.1 ∧ ∀ o k, (o ≠ 3 ∨ k ≠ 8) → o ≠ 157 → c'.2.2 o k = c.2.2 o k
def gS_r (r r' : zc_R) : Prop := (∀ o k, (o ≠ 164 ∨ k < 4 ∨ (4 < k ∧ k < 11) ∨ k = 17 ∨ (18 < k ∧ k < 38) ∨ 42 < k) → o ≠ 168 → o ≠ 176 → r'.1 o k = r.1 o k) ∧ rk_J r.2 r'.2
theorem gS_cz {c c' : zc_C} (g : gz_c c c') : gS_c c c' := ⟨fun o k h1 _ _ _ => g.1 o k h1, g.2.1, fun o k h1 _ => g.2.2 o k h1⟩
theorem gS_rz {r r' : zc_R} (g : gz_r r r') : gS_r r r' := ⟨fun o k h1 _ _ => g.1 o k (by omega), g.2⟩
theorem gS_ct {a b c : zc_C} (h : gS_c a b) (g : gS_c b c) : gS_c a c := ⟨fun o k h1 h2 h3 h4 => (g.1 o k h1 h2 h3 h4).trans (h.1 o k h1 h2 h3 h4), fun o k h1 => (g.2.1 o k h1).trans (h.2.1 o k h1), fun o k h1 h2 => (g.2.2 o k h1 h2).trans (h.2.2 o k h1 h2)⟩
theorem gS_rt {a b c : zc_R} (h : gS_r a b) (g : gS_r b c) : gS_r a c := ⟨fun o k h1 h2 h3 => (g.1 o k h1 h2 h3).trans (h.1 o k h1 h2 h3), fun o k h1 => (g.2 o k h1).trans (h.2 o k h1)⟩
theorem bk_AS {T : pt_T} {c c' : zc_C} {r r' : zc_R} (h : bk_A T c r) (g : gS_c c c') (s : gS_r r r') : bk_A T c' r' := by
  obtain ⟨a1, a2, a3, a4, a5, a6, a7, a8⟩ := h
  refine ⟨a1, a2, ?_, ?_, ?_, ?_, fun j hj => ?_, fun j hj => ?_⟩
  · rw [g.1 4 10 (by omega) (by omega) (by omega) (by omega)]; exact a3
  · rw [g.1 4 13 (by omega) (by omega) (by omega) (by omega)]; exact a4
  · rw [s.1 166 0 (by omega) (by omega) (by omega)]; exact a5
  · rw [s.1 166 1 (by omega) (by omega) (by omega)]; exact a6
  · rw [g.2.1 5 j (by omega), s.2 169 j (by omega)]; exact a7 j hj
  · rw [g.2.1 10 j (by omega), s.2 169 (8 + j) (by omega)]; exact a8 j hj
theorem dn_mem {x : Nat} {P : List Nat} (h : x ∈ sn_dn P) : x ∈ P := by
  induction P with
  | nil => exact h
  | cons y P ih =>
    unfold sn_dn at h
    by_cases e : y = 20
    · rw [if_pos e] at h; exact List.mem_cons_of_mem _ (ih h)
    · rw [if_neg e] at h; exact h
theorem dn_len (P : List Nat) : (sn_dn P).length ≤ P.length := by
  induction P with
  | nil => exact Nat.le_refl _
  | cons y P ih =>
    unfold sn_dn
    have hl : (y :: P).length = P.length + 1 := rfl
    by_cases e : y = 20
    · rw [if_pos e]; omega
    · rw [if_neg e]; exact Nat.le_refl _
/-- what stands uppermost below: no not, nothing that is joined -/
def sn_b (q t : Nat) (I : bm_TI) : Prop := t = 0 ∨ ∃ y, I 176 (t - 1) = nI y ∧ y < 1000 ∧ y ≠ 20 ∧ y ≠ 21 ∧ (y = 22 → q = 21)
/-- nots and joins, one behind the other: nothing waits -/
theorem sn_both {S : pt_T} {m t o d tl : Nat} {P : List Nat} {w : Int32} {I : bm_TI} (htl : tl = 21 ∨ tl = 22) (h : sn_R S m t P o d w I) (hx : ∀ x, x ∈ P → 20 ≤ x ∧ x ≤ 22) (hm : m + P.length ≤ 45) (ht : t + P.length ≤ 45) (hd : sn_dj tl (sn_dn P) = []) (hb : sn_b tl t I) : ∃ I1 I2, f_X12_nots I = some I1 ∧ f_X12_joins I1 (nI tl) = some I2 ∧ sn_R S (m + P.length) t [] o d w I2 ∧ sn_F I I1 ∧ sn_F I I2 := by
  obtain ⟨m1, I1, e1, R1, l1, f1⟩ := sn_nots (k := 1000) h hx hm ht (by omega) (by
    rcases hb with hb | ⟨y, y1, y2, y3, y4⟩
    · exact Or.inl hb
    · exact Or.inr ⟨y, y1, y2, y3⟩)
  have hl := dn_len P
  obtain ⟨m2, I2, e2, R2, l2, f2⟩ := sn_joins (k := 1000) htl R1 (fun x hx' => hx x (dn_mem hx')) (by omega) (by omega) (by omega) (by
    rcases hb with hb | ⟨y, y1, y2, y3, y4⟩
    · exact Or.inl hb
    · exact Or.inr ⟨y, (f1 176 _ (by omega) (by omega)).trans y1, y2, y4⟩)
  rw [hd] at R2 l2
  have l2' : m2 + 0 = m1 + (sn_dn P).length := l2
  have hm2 : m2 = m + P.length := by omega
  rw [hm2] at R2
  refine ⟨I1, I2, ?_, ?_, R2, f1, fun o k ho h8 => (f2 o k ho h8).trans (f1 o k ho h8)⟩
  · unfold f_X12_nots; rw [e1]; rfl
  · unfold f_X12_joins; rw [e2]; rfl
section SN
variable {n lim p : Nat} {B : Nat → Nat} {c : zc_C} {r : zc_R}
theorem zz_F (h : zz_P n lim B p c r) {I : bm_TI} (f : sn_F r.1 I) : zz_P n lim B p c (I, r.2) := zz_to h (fun _ _ _ _ => rfl) rfl rfl (fun o k ho => f o k (by omega) (by omega)) rfl (fun _ => rfl)
theorem zz_sgn (h : zz_P n lim B p c r) {s : Nat} (hs : s < 256) (ht : tk_s s = true) : f_X12_isSign r.1 (nI s) = some (decide ((lx B n lim p).1 = 2 ∧ (lx B n lim p).2.1 = s)) := by
  have hb := zz_lx h
  have k2 : (r.1 164 11 = 3) = ((lx B n lim p).1 = 2 ∧ tk_s (lx B n lim p).2.1 = true) := by
    rw [h.2.2.2.2.2.2.1.2.2.1]
    have := tk_k4 (lx B n lim p)
    show (nI _ = nI 3) = _
    rw [pn_eqI (by omega) (by omega)]
    unfold tk_k
    refine propext ⟨fun q => ?_, fun q => ?_⟩
    · split at q
      · omega
      · split at q
        · omega
        · split at q
          · split at q
            · exact ⟨by assumption, by assumption⟩
            · omega
          · split at q <;> omega
    · rw [q.1, q.2]; rfl
  unfold f_X12_isSign
  by_cases hk : (lx B n lim p).1 = 2
  · have hr14 := h.2.2.2.2.2.2.1.2.2.2.1 hk
    rw [hr14]
    simp (disch := omega) only [pn_eqI]
    by_cases hv : (lx B n lim p).2.1 = s
    · rw [if_pos (show r.1 164 11 = 3 by rw [k2]; exact ⟨hk, by rw [hv]; exact ht⟩), if_pos hv, decide_eq_true ⟨hk, hv⟩]
    · rw [if_neg hv, ite_self, decide_eq_false (fun q => hv q.2)]
  · rw [if_neg (show ¬ r.1 164 11 = 3 by rw [k2]; exact fun q => hk q.1), decide_eq_false (fun q => hk q.1)]
theorem zz_36 (h : zz_P n lim B p c r) {s : Nat} (h1 : 1 ≤ s) (h2 : s < 256) : (c.1 3 6 = nI s) = ((lx B n lim p).1 = 2 ∧ (lx B n lim p).2.1 = s) := by
  have hb := zz_lx h
  rw [h.2.2.2.2.2.1.2.2.2.1]
  by_cases k : (lx B n lim p).1 = 2
  · rw [if_pos k, pn_eqI (by omega) (by omega)]
    exact propext ⟨fun q => ⟨k, q⟩, fun q => q.2⟩
  · rw [if_neg k, pn_eqI (by omega) (by omega)]
    exact propext ⟨fun q => absurd q (by omega), fun q => absurd q.1 k⟩
/-- behind an operand: and, or -/
theorem sn_bop {S : pt_T} {m t o d v x : Nat} {P : List Nat} (h : zz_P n lim B p c r) (hR : sn_R S m t P o d 1 r.1) (hx : ∀ x, x ∈ P → 20 ≤ x ∧ x ≤ 22) (hm : m + P.length ≤ 45) (ht : t + P.length ≤ 30) (hv : (v = 20 ∧ x = 21) ∨ (v = 19 ∧ x = 22)) (hk : (lx B n lim p).1 = 4 ∧ (lx B n lim p).2.1 = v) (hd : sn_dj x (sn_dn P) = []) (hb : sn_b x t r.1) : ∃ c' r' p', f_X5_advance c.1 c.2.1 c.2.2 = some c' ∧ sn_g n p r p' r' ∧ zz_P n lim B p' c' r' ∧ p < p' ∧ sn_R S (m + P.length) (t + 1) [] o d 0 r'.1 ∧ r'.1 176 t = nI x ∧ (∀ i, i < t → r'.1 176 i = r.1 176 i) ∧ gz_c c c' ∧ gS_r r r' := by
  have wA : (6385252 : Int64) = nm_8 (wd_w 20) := by decide +kernel
  have wO : (28530 : Int64) = nm_8 (wd_w 19) := by decide +kernel
  obtain ⟨I1, I2, e1, e2, R2, f1, f2⟩ := sn_both (tl := x) (by omega) hR hx hm (by omega) hd hb
  have h1 := zz_F h f1
  have h2 := zz_F h f2
  obtain ⟨q38, q8, q40, _, q39, q41, q42⟩ := R2
  have q40' : I2 164 40 = nI t := q40
  generalize hX : bm_uI (bm_uI (bm_uI I2 176 t (nI x)) 164 40 (nI (t + 1))) 164 42 0 = X
  have xf : ∀ o k, (o ≠ 176 ∨ k ≠ t) → (o ≠ 164 ∨ (k ≠ 40 ∧ k ≠ 42)) → X o k = I2 o k := fun o k a1 a2 => by rw [← hX, pn_uI_off (by omega), pn_uI_off (by omega), pn_uI_off (by omega)]
  have hz : zz_P n lim B p c (X, r.2) := zz_to h2 (fun _ _ _ _ => rfl) rfl rfl (fun o k ho => xf o k (by omega) (by omega)) rfl (fun _ => rfl)
  obtain ⟨c', r', p', a1, a2, z, a3, a4, g1, g2, _⟩ := zz_adv hz
  have hp : p < p' := a4 (by omega)
  have hn := z.2.2.1
  have a2' : f_X12_next X r.2 = some r' := a2
  have hwA := zz_isW h1 (i := 20) (by omega) wA
  have hwO := zz_isW h1 (i := 19) (by omega) wO
  have hwA2 := zz_isW h2 (i := 20) (by omega) wA
  dsimp only at hwA hwO hwA2
  have hbe : f_X12_behind r.1 r.2 = some (true, r'.1, r'.2) := by
    unfold f_X12_behind
    rw [e1]
    simp only [Option.bind_some]
    rw [hwA, hwO]
    rcases hv with ⟨v1, v2⟩ | ⟨v1, v2⟩
    · rw [v2] at e2
      have e2' : f_X12_joins I1 21 = some I2 := e2
      rw [decide_eq_true (show (lx B n lim p).1 = 4 ∧ (lx B n lim p).2.1 = 20 by omega)]
      simp only [Option.bind_some, ↓reduceIte]
      rw [e2']
      simp only [Option.bind_some]
      rw [hwA2, decide_eq_true (show (lx B n lim p).1 = 4 ∧ (lx B n lim p).2.1 = 20 by omega)]
      simp only [Option.bind_some, ↓reduceIte]
      rw [q40', if_pos (bm_ixk (show t < 45 by omega) (by omega)), nI_clamp (by omega), pn_uI_ne (by omega), q40', nI_1, show (21 : Int32) = nI x by rw [v2]; rfl, show bm_bi false = 0 from rfl, hX, a2']
      rfl
    · rw [v2] at e2
      have e2' : f_X12_joins I1 22 = some I2 := e2
      rw [decide_eq_false (show ¬ ((lx B n lim p).1 = 4 ∧ (lx B n lim p).2.1 = 20) by omega), decide_eq_true (show (lx B n lim p).1 = 4 ∧ (lx B n lim p).2.1 = 19 by omega)]
      simp only [Option.bind_some, ↓reduceIte, Bool.false_eq_true]
      rw [e2']
      simp only [Option.bind_some]
      rw [hwA2, decide_eq_false (show ¬ ((lx B n lim p).1 = 4 ∧ (lx B n lim p).2.1 = 20) by omega)]
      simp only [Option.bind_some, ↓reduceIte, Bool.false_eq_true]
      rw [q40', if_pos (bm_ixk (show t < 45 by omega) (by omega)), nI_clamp (by omega), pn_uI_ne (by omega), q40', nI_1, show (22 : Int32) = nI x by rw [v2]; rfl, show bm_bi false = 0 from rfl, hX, a2']
      rfl
  have hne : ¬ r.1 164 11 = 0 := by rw [(zz_end h).2]; omega
  refine ⟨c', r', p', a1, fun K hK => ?_, z, hp, ⟨?_, fun i hi => ?_, ?_, trivial, ?_, ?_, ?_⟩, ?_, fun i hi => ?_, g1, ⟨fun o k h1 h2 h3 => ?_, fun o k h1 => g2.2 o k h1⟩⟩
  · obtain ⟨K, rfl⟩ : ∃ q, K = q + 1 := ⟨K - 1, by omega⟩
    refine ⟨K, by omega, ?_⟩
    rw [l48_be hR.2.2.2.2.2.2 hne, hbe]
    rfl
  · rw [g2.1 164 38 (by omega)]; exact (xf 164 38 (by omega) (by omega)).trans q38
  · rw [g2.1 168 _ (by omega), g2.1 168 _ (by omega), g2.1 168 _ (by omega)]
    dsimp only
    rw [xf 168 _ (by omega) (by omega), xf 168 _ (by omega) (by omega), xf 168 _ (by omega) (by omega)]
    exact q8 i hi
  · rw [g2.1 164 40 (by omega)]
    show X 164 40 = nI (t + 1)
    rw [← hX, pn_uI_ne2 (by omega), pn_uI_hit rfl]
  · rw [g2.1 164 39 (by omega)]; exact (xf 164 39 (by omega) (by omega)).trans q39
  · rw [g2.1 164 41 (by omega)]; exact (xf 164 41 (by omega) (by omega)).trans q41
  · rw [g2.1 164 42 (by omega)]
    show X 164 42 = 0
    rw [← hX, pn_uI_hit rfl]
  · rw [g2.1 176 t (by omega)]
    show X 176 t = nI x
    rw [← hX, pn_uI_ne (by omega), pn_uI_ne (by omega), pn_uI_hit rfl]
  · rw [g2.1 176 i (by omega)]; exact (xf 176 i (by omega) (by omega)).trans (f2 176 i (by omega) (by omega))
  · rw [g2.1 o k (by omega)]; exact (xf o k (by omega) (by omega)).trans (f2 o k (by omega) (by omega))
/-- what both do where nothing can come -/
theorem sn_no {I : bm_TI} (h : zz_P n lim B p c r) (f : sn_F r.1 I) : ∃ Ic Ir, f_X5_refuse c.1 1 = some (false, Ic) ∧ f_X12_bad I 1 = some (false, Ir) ∧ zf_P (Ic, c.2) (Ir, r.2) ∧ gz_c c (Ic, c.2) ∧ gS_r r (Ir, r.2) := by
  obtain ⟨Ic, Ir, e1, e2, e3, z, g1, g2⟩ := zz_bad (zz_F h f) (e := 1) (by omega) (by omega)
  exact ⟨Ic, Ir, e1, e3, z, g1, ⟨fun o k h1 h2 h3 => (g2.1 o k (by omega)).trans (f o k (by omega) (by omega)), fun o k h1 => g2.2 o k h1⟩⟩
/-- behind an operand: nothing that joins -/
theorem sn_bno {S : pt_T} {m t o d : Nat} {P : List Nat} (h : zz_P n lim B p c r) (hR : sn_R S m t P o d 1 r.1) (hx : ∀ x, x ∈ P → 20 ≤ x ∧ x ≤ 22) (hm : m + P.length ≤ 45) (ht : t + P.length ≤ 30) (hka : ¬ ((lx B n lim p).1 = 4 ∧ (lx B n lim p).2.1 = 20)) (hko : ¬ ((lx B n lim p).1 = 4 ∧ (lx B n lim p).2.1 = 19)) (hd : sn_dj 22 (sn_dn P) = []) (hd1 : 1 ≤ d) (hb : sn_b 22 t r.1) : ∃ I, sn_R S (m + P.length) t [] o d 1 I ∧ sn_F r.1 I ∧ ((lx B n lim p).1 = 0 → ∀ K, f_X12_sentence_l48 (K + 1) true r.1 r.2 = if t = 0 then f_X12_sentence_l48 K false I r.2 else some (Sum.inl (I, r.2))) ∧ (¬ (lx B n lim p).1 = 0 → ∀ K, f_X12_sentence_l48 (K + 1) true r.1 r.2 = if (lx B n lim p).1 = 2 ∧ (lx B n lim p).2.1 = 41 ∧ t ≠ 0 then (f_X12_next (bm_uI (bm_uI I 164 40 (nI (t - 1))) 164 41 (nI (d - 1))) r.2).bind fun v => f_X12_sentence_l48 K true v.1 v.2 else (f_X12_bad I 1).bind fun v => some (Sum.inr (Sum.inl (v.2, r.2)))) := by
  have wA : (6385252 : Int64) = nm_8 (wd_w 20) := by decide +kernel
  have wO : (28530 : Int64) = nm_8 (wd_w 19) := by decide +kernel
  obtain ⟨I1, I2, e1, e2, R2, f1, f2⟩ := sn_both (tl := 22) (Or.inr rfl) hR hx hm (by omega) hd hb
  have h1 := zz_F h f1
  have h2 := zz_F h f2
  have e2' : f_X12_joins I1 22 = some I2 := e2
  have q40' : I2 164 40 = nI t := R2.2.2.1
  have q41' : I2 164 41 = nI d := R2.2.2.2.2.2.1
  have hwA := zz_isW h1 (i := 20) (by omega) wA
  have hwO := zz_isW h1 (i := 19) (by omega) wO
  have hs := zz_sgn h2 (s := 41) (by omega) (by decide)
  dsimp only at hwA hwO hs
  have hs' : f_X12_isSign I2 41 = some (decide ((lx B n lim p).1 = 2 ∧ (lx B n lim p).2.1 = 41)) := hs
  refine ⟨I2, R2, f2, fun h0 K => ?_, fun h0 K => ?_⟩
  · rw [l48_en hR.2.2.2.2.2.2 (by rw [(zz_end h).2]; exact h0), e1]
    simp only [Option.bind_some]
    rw [e2']
    simp only [Option.bind_some]
    rw [q40']
    by_cases t0 : t = 0
    · rw [if_pos t0, if_pos (by rw [t0]; decide)]
    · rw [if_neg t0, if_neg (show ¬ nI t ≤ 0 from nI_ge (b := t) (a := 0) (by omega) (by omega))]
  · rw [l48_be hR.2.2.2.2.2.2 (by rw [(zz_end h).2]; exact h0)]
    unfold f_X12_behind
    rw [e1]
    simp only [Option.bind_some]
    rw [hwA, hwO, decide_eq_false hka, decide_eq_false hko]
    simp only [Option.bind_some, ↓reduceIte, Bool.false_eq_true]
    rw [e2']
    simp only [Option.bind_some]
    rw [hs']
    simp only [Option.bind_some, decide_eq_true_eq]
    rw [q40']
    by_cases k41 : (lx B n lim p).1 = 2 ∧ (lx B n lim p).2.1 = 41
    · rw [if_pos k41]
      by_cases t0 : t = 0
      · rw [if_pos (show nI t = 0 by rw [t0]; rfl), if_neg (by omega)]
        cases hbad : f_X12_bad I2 1 with
        | none => rfl
        | some v =>
          have : v.1 = false := by
            unfold f_X12_bad at hbad
            injection hbad with hbad
            rw [← hbad]
          simp only [Option.bind_some]
          rw [this]; rfl
      · rw [if_neg (show ¬ nI t = 0 from nI_ne0 (by omega) (by omega)), if_pos (by omega), pn_pred (by omega), pn_uI_ne2 (by omega), q41']
        rw [pn_pred (by omega)]
        cases f_X12_next (bm_uI (bm_uI I2 164 40 (nI (t - 1))) 164 41 (nI (d - 1))) r.2 with
        | none => rfl
        | some v => rfl
    · rw [if_neg k41, if_neg (fun q => k41 ⟨q.1, q.2.1⟩)]
      cases hbad : f_X12_bad I2 1 with
      | none => rfl
      | some v =>
        have : v.1 = false := by
          unfold f_X12_bad at hbad
          injection hbad with hbad
          rw [← hbad]
        simp only [Option.bind_some]
        rw [this]; rfl
end SN
