/-! an army's text, from its begin -/
def pa_c (I : bm_TI) (J : bm_TJ) (W : bm_TR) : Option (Int32 × bm_TI × bm_TJ × bm_TR) := ((f_X5_begin I J W 900).bind fun v1 => f_X0_readFrom v1.1 v1.2.1 v1.2.2)
def pa_r (I : bm_TI) (J : bm_TJ) : Option ((bm_TI × bm_TJ) ⊕ (bm_TI × bm_TJ)) := ((f_X12_taken (bm_uI I 164 0 0) 900).bind fun v1 => ((f_X12_clears (bm_uI (bm_uI (bm_uI v1 164 15 0) 164 19 0) 164 20 0)).bind fun v3 => ((f_X12_next v3 J).bind fun v5 => (f_X12_army_l35 1000 v5.1 v5.2))))
theorem pq_clearL {I0 : bm_TI} : ∀ (i j k : Nat) (I : bm_TI), j + i = 61 → i < k → (∀ q, q < j → I 167 q = 0) → (∀ o q, o ≠ 167 → I o q = I0 o q) → ∃ I', f_X12_clears_l2 k (nI j) I = some I' ∧ (∀ q, q < 61 → I' 167 q = 0) ∧ ∀ o q, o ≠ 167 → I' o q = I0 o q := by
  intro i
  induction i with
  | zero =>
    intro j k I hj hk h0 hf
    obtain ⟨k, rfl⟩ : ∃ q, k = q + 1 := ⟨k - 1, by omega⟩
    have : j = 61 := by omega
    subst this
    rw [f_X12_clears_l2, if_pos (by decide)]
    exact ⟨I, rfl, h0, hf⟩
  | succ i ih =>
    intro j k I hj hk h0 hf
    obtain ⟨k, rfl⟩ : ∃ q, k = q + 1 := ⟨k - 1, by omega⟩
    rw [f_X12_clears_l2, if_neg (show ¬ (61 : Int32) ≤ nI j from nI_ge (b := 61) (by omega) (by omega)), if_pos (bm_ixk (by omega) (by omega)), nI_clamp (by omega), nI_1]
    refine ih (j + 1) k _ (by omega) (by omega) (fun q hq => ?_) (fun o q ho => (pn_uI_ne ho).trans (hf o q ho))
    by_cases e : q = j
    · exact pn_uI_hit e
    · rw [pn_uI_ne2 e]; exact h0 q (by omega)
theorem pq_clears {I : bm_TI} : ∃ I', f_X12_clears I = some I' ∧ (∀ q, q < 61 → I' 167 q = nI (pt_T0 q)) ∧ ∀ o q, o ≠ 167 → I' o q = I o q := by
  obtain ⟨I', e, h0, hf⟩ := pq_clearL (I0 := I) 61 0 1000 I (by omega) (by omega) (fun q hq => by omega) (fun _ _ _ => rfl)
  have e' : f_X12_clears_l2 1000 0 I = some I' := e
  unfold f_X12_clears
  rw [e']
  refine ⟨_, rfl, fun q hq => ?_, fun o q ho => ?_⟩
  · unfold pt_T0
    by_cases q4 : q = 4
    · subst q4; rw [pn_uI_hit rfl]; rfl
    · rw [pn_uI_ne2 q4]
      by_cases q3 : q = 3
      · subst q3; rw [pn_uI_hit rfl]; rfl
      · rw [pn_uI_ne2 q3, h0 q hq, if_neg q3, if_neg q4]; rfl
  · rw [pn_uI_ne ho, pn_uI_ne ho]; exact hf o q ho
def ga_R (r r' : zc_R) : Prop := (∀ o k, o ≠ 167 → (o ≠ 164 ∨ k = 1 ∨ (5 < k ∧ k < 11) ∨ k = 17 ∨ 20 < k) → r'.1 o k = r.1 o k) ∧ r'.1 164 2 = 0 ∧ ∀ o k, (o ≠ 164 ∨ k ≠ 17) → (o ≠ 169 ∨ k < 15) → r'.2 o k = r.2 o k
section AJ
variable {I : bm_TI} {J : bm_TJ} {W : bm_TR} {r : zc_R} {n : Nat} {B : Nat → Nat}
theorem pa_read (hn : n ≤ 940) (h11 : I 1 1 = nI n) (hB : ∀ k, k < n → B k < 256 ∧ I 2 k = nI (B k)) (r2 : r.1 164 2 = nI n) (rB : ∀ k, k < n → r.1 165 k &&& 255 = nI (B k)) (hK : iv_K r.2) : (∃ c' r' L T, pa_c I J W = some (nI L, c') ∧ pa_r r.1 r.2 = some (.inr r') ∧ L < 1000 ∧ c'.1 3 9 = 0 ∧ r'.1 164 15 = 0 ∧ r'.1 164 19 = nI L ∧ (∀ k, k < 61 → r'.1 167 k = nI (T k)) ∧ ar_C c' T ∧ c'.1 15 15 = nI (T 3) ∧ c'.1 15 16 = nI (T 4) ∧ ar_N c' r' T ∧ ar_V T ∧ ga_c (I, J, W) c' ∧ ga_R r r') ∨ ∃ c' r' v, pa_c I J W = some (v, c') ∧ pa_r r.1 r.2 = some (.inl r') ∧ zf_P c' r' ∧ ga_c (I, J, W) c' ∧ ga_R r r' := by
  unfold pa_c pa_r f_X5_begin f_X12_taken f_X0_readFrom
  simp only [Option.bind_some]
  generalize hX : bm_uI (bm_uI (bm_uI (bm_uI I 3 1 900) 3 2 0) 3 9 0) 3 10 0 = X
  have x1 : X 3 1 = nI 900 := by rw [← hX, pn_uI_ne2 (by omega), pn_uI_ne2 (by omega), pn_uI_ne2 (by omega), pn_uI_hit rfl]; rfl
  have x2 : X 3 2 = 0 := by rw [← hX, pn_uI_ne2 (by omega), pn_uI_ne2 (by omega), pn_uI_hit rfl]
  have x9 : X 3 9 = 0 := by rw [← hX, pn_uI_ne2 (by omega), pn_uI_hit rfl]
  have xf : ∀ o k, o ≠ 3 → X o k = I o k := fun o k ho => by rw [← hX, pn_uI_ne ho, pn_uI_ne ho, pn_uI_ne ho, pn_uI_ne ho]
  generalize hY : bm_uI (bm_uI (bm_uI (bm_uI (bm_uI (bm_uI (bm_uI (bm_uI r.1 164 0 0) 164 3 (bm_uI r.1 164 0 0 164 2)) 164 2 0) 164 4 0) 164 5 900) 164 15 0) 164 19 0) 164 20 0 = Y
  have y3 : Y 164 3 = nI n := by rw [← hY, pn_uI_ne2 (by omega), pn_uI_ne2 (by omega), pn_uI_ne2 (by omega), pn_uI_ne2 (by omega), pn_uI_ne2 (by omega), pn_uI_ne2 (by omega), pn_uI_hit rfl, pn_uI_ne2 (by omega)]; exact r2
  have y2 : Y 164 2 = 0 := by rw [← hY, pn_uI_ne2 (by omega), pn_uI_ne2 (by omega), pn_uI_ne2 (by omega), pn_uI_ne2 (by omega), pn_uI_ne2 (by omega), pn_uI_hit rfl]
  have y4 : Y 164 4 = 0 := by rw [← hY, pn_uI_ne2 (by omega), pn_uI_ne2 (by omega), pn_uI_ne2 (by omega), pn_uI_ne2 (by omega), pn_uI_hit rfl]
  have y5 : Y 164 5 = nI 900 := by rw [← hY, pn_uI_ne2 (by omega), pn_uI_ne2 (by omega), pn_uI_ne2 (by omega), pn_uI_hit rfl]; rfl
  have y15 : Y 164 15 = 0 := by rw [← hY, pn_uI_ne2 (by omega), pn_uI_ne2 (by omega), pn_uI_hit rfl]
  have y19 : Y 164 19 = 0 := by rw [← hY, pn_uI_ne2 (by omega), pn_uI_hit rfl]
  have y20 : Y 164 20 = 0 := by rw [← hY, pn_uI_hit rfl]
  have yf : ∀ o k, (o ≠ 164 ∨ k = 1 ∨ (5 < k ∧ k < 11) ∨ k = 17 ∨ 20 < k) → Y o k = r.1 o k := fun o k ho => by rw [← hY, pn_uI_off (by omega), pn_uI_off (by omega), pn_uI_off (by omega), pn_uI_off (by omega), pn_uI_off (by omega), pn_uI_off (by omega), pn_uI_off (by omega), pn_uI_off (by omega)]
  obtain ⟨Z, e0, z0, zf⟩ := pq_clears (I := Y)
  rw [e0]
  simp only [Option.bind_some]
  obtain ⟨c1, r1, e1, d1, z1, g1, s1⟩ := zz_start (n := n) (lim := 900) (B := B) (c := (X, J, W)) (r := (Z, r.2)) hn (by omega) ⟨by dsimp only; rw [xf 1 1 (by omega)]; exact h11, fun k hk => by dsimp only; rw [xf 2 k (by omega)]; exact hB k hk, x1⟩ ⟨by dsimp only; rw [zf 164 3 (by omega)]; exact y3, fun k hk => ⟨(hB k hk).1, by dsimp only; rw [zf 165 k (by omega), yf 165 k (by omega)]; exact rB k hk⟩, by dsimp only; rw [zf 164 5 (by omega)]; exact y5⟩ x2 (by dsimp only; rw [zf 164 4 (by omega)]; exact y4) x9 (by dsimp only; rw [zf 164 15 (by omega)]; exact y15) hK
  have e1' : f_X5_advance X J W = some c1 := e1
  have d1' : f_X12_next Z r.2 = some r1 := d1
  rw [e1', d1']
  simp only [Option.bind_some]
  generalize hV : bm_uI (bm_uI (bm_uI (bm_uI (bm_uI (bm_uI (bm_uI c1.1 15 10 0) 15 11 0) 15 12 0) 15 13 0) 15 14 0) 15 15 (-1)) 15 16 (-1) = V
  have v10 : V 15 10 = 0 := by rw [← hV, pn_uI_ne2 (by omega), pn_uI_ne2 (by omega), pn_uI_ne2 (by omega), pn_uI_ne2 (by omega), pn_uI_ne2 (by omega), pn_uI_ne2 (by omega), pn_uI_hit rfl]
  have v11 : V 15 11 = 0 := by rw [← hV, pn_uI_ne2 (by omega), pn_uI_ne2 (by omega), pn_uI_ne2 (by omega), pn_uI_ne2 (by omega), pn_uI_ne2 (by omega), pn_uI_hit rfl]
  have v12 : V 15 12 = 0 := by rw [← hV, pn_uI_ne2 (by omega), pn_uI_ne2 (by omega), pn_uI_ne2 (by omega), pn_uI_ne2 (by omega), pn_uI_hit rfl]
  have v13 : V 15 13 = 0 := by rw [← hV, pn_uI_ne2 (by omega), pn_uI_ne2 (by omega), pn_uI_ne2 (by omega), pn_uI_hit rfl]
  have v14 : V 15 14 = 0 := by rw [← hV, pn_uI_ne2 (by omega), pn_uI_ne2 (by omega), pn_uI_hit rfl]
  have v15 : V 15 15 = -1 := by rw [← hV, pn_uI_ne2 (by omega), pn_uI_hit rfl]
  have v16 : V 15 16 = -1 := by rw [← hV, pn_uI_hit rfl]
  have vf : ∀ o k, o ≠ 15 → V o k = c1.1 o k := fun o k ho => by rw [← hV, pn_uI_ne ho, pn_uI_ne ho, pn_uI_ne ho, pn_uI_ne ho, pn_uI_ne ho, pn_uI_ne ho, pn_uI_ne ho]
  have z2 : zz_P n 900 B 0 (V, c1.2) r1 := zz_to z1 (fun o k h1 h2 => vf o k (by omega)) rfl rfl (fun _ _ _ => rfl) rfl (fun _ => rfl)
  have r20 : r1.1 164 20 = 0 := by rw [s1.1 164 20 (by omega)]; exact (zf 164 20 (by omega)).trans y20
  have r19 : r1.1 164 19 = nI 0 := by rw [s1.1 164 19 (by omega)]; exact (zf 164 19 (by omega)).trans y19
  have a2 : ar_P false false pt_T0 (V, c1.2) r1 := by
    refine ⟨fun k hk => by rw [s1.1 167 k (by omega)]; exact z0 k hk, ⟨r20, v15, v16, fun _ => rfl, fun _ => rfl⟩, ⟨v10, v11, v12, v13, v14, fun j hj => absurd hj (Nat.not_lt_zero j), fun j hj => absurd hj (Nat.not_lt_zero j), fun j hj => absurd hj (Nat.not_lt_zero j)⟩, ⟨fun j hj => absurd hj (Nat.not_lt_zero j), fun j hj => absurd hj (Nat.not_lt_zero j)⟩, ⟨?_, fun j hj => absurd hj (Nat.not_lt_zero j), fun j _ hj => ?_⟩⟩
    · exact ⟨by decide, by decide, by decide, by decide, by decide, by decide, by decide, fun j hj => absurd hj (Nat.not_lt_zero j), by decide, by decide, fun j hj => absurd hj (Nat.not_lt_zero j), ⟨fun _ _ => false, fun j hj => absurd hj (Nat.not_lt_zero j), fun j hj => absurd hj (Nat.not_lt_zero j)⟩, fun j hj => absurd hj (Nat.not_lt_zero j), fun j hj => absurd hj (Nat.not_lt_zero j)⟩
    · unfold pt_T0; rw [if_neg (by omega), if_neg (by omega)]
  have fc : ga_c (I, J, W) (V, c1.2) := ⟨fun o k h1 h2 => (vf o k (by omega)).trans ((g1.1 o k (by omega)).trans (xf o k h1)), fun o k h1 h2 h3 => g1.2.1 o k (by omega), fun o k h1 => g1.2.2 o k (by omega)⟩
  have fr : ∀ r' : zc_R, gb_r r1 r' → ga_R r r' := fun r' g => ⟨fun o k h1 h2 => (g.1 o k h1 (by omega)).trans ((s1.1 o k (by omega)).trans ((zf o k h1).trans (yf o k h2))), (g.1 164 2 (by omega) (by omega)).trans ((s1.1 164 2 (by omega)).trans ((zf 164 2 (by omega)).trans y2)), fun o k h1 h2 => (g.2 o k h1 h2).trans (s1.2 o k h1)⟩
  have hl := zl_loop n 0 0 1000 1000 false false pt_T0 (V, c1.2) r1 (by omega) (by omega) (by omega) z2 a2 (by omega) r19
  rcases hl with ⟨c', r', L, a, b, T, l1, l2, l3, l4, l5, l6, l7, l8, l9⟩ | ⟨c', r', v, l1, l2, l3, l4, l5⟩
  · have l1' : f_X0_readFrom_l37 1000 0 V c1.2.1 c1.2.2 = some (.inr (nI L, c')) := l1
    rw [l1', l2]
    simp only [Option.bind_some]
    obtain ⟨p1, ⟨o1, o2, o3, o4, o5⟩, hC, hN, hV'⟩ := l7
    have h3 : T 3 ≤ 5 := hV'.1.2.2.2.2.1
    have h4 : T 4 ≤ 30 := hV'.1.2.2.2.2.2.2.1
    -- both are laid down
    have fin : ∀ Q : bm_TI, Q 15 15 = nI (T 3) → Q 15 16 = nI (T 4) → (∀ o k, (o ≠ 15 ∨ (k ≠ 15 ∧ k ≠ 16)) → Q o k = c'.1 o k) → Q 3 9 = 0 ∧ ar_C (Q, c'.2) T ∧ ar_N (Q, c'.2) r' T ∧ ga_c (I, J, W) (Q, c'.2) := fun Q q1 q2 qf => by
      refine ⟨by rw [qf 3 9 (by omega)]; exact l4, ?_, hN, ⟨fun o k h1 h2 => (qf o k (by omega)).trans ((l8.1 o k h1 h2).trans (fc.1 o k h1 h2)), fun o k h1 h2 h3 => (l8.2.1 o k h1 h2 h3).trans (fc.2.1 o k h1 h2 h3), fun o k h1 => (l8.2.2 o k h1).trans (fc.2.2 o k h1)⟩⟩
      obtain ⟨c1, c2, c3, c4, c5, c6, c7, c8⟩ := hC
      exact ⟨(qf 15 10 (by omega)).trans c1, (qf 15 11 (by omega)).trans c2, (qf 15 12 (by omega)).trans c3, (qf 15 13 (by omega)).trans c4, (qf 15 14 (by omega)).trans c5, fun j hj => by dsimp only; rw [qf 17 j (by omega), qf 18 j (by omega), qf 19 j (by omega), qf 20 j (by omega)]; exact c6 j hj, fun j hj => by dsimp only; rw [qf 22 j (by omega), qf 23 j (by omega)]; exact c7 j hj, fun j hj => by dsimp only; rw [qf 24 j (by omega), qf 25 j (by omega)]; exact c8 j hj⟩
    have done : ∀ Q : bm_TI, Q 15 15 = nI (T 3) → Q 15 16 = nI (T 4) → (∀ o k, (o ≠ 15 ∨ (k ≠ 15 ∧ k ≠ 16)) → Q o k = c'.1 o k) → ∃ c2 r2 L2 T2, some (nI L, Q, c'.2.1, c'.2.2) = some (nI L2, c2) ∧ some (Sum.inr (α := zc_R) r') = some (.inr r2) ∧ L2 < 1000 ∧ c2.1 3 9 = 0 ∧ r2.1 164 15 = 0 ∧ r2.1 164 19 = nI L2 ∧ (∀ k, k < 61 → r2.1 167 k = nI (T2 k)) ∧ ar_C c2 T2 ∧ c2.1 15 15 = nI (T2 3) ∧ c2.1 15 16 = nI (T2 4) ∧ ar_N c2 r2 T2 ∧ ar_V T2 ∧ ga_c (I, J, W) c2 ∧ ga_R r r2 := fun Q q1 q2 qf => by
      obtain ⟨f1, f2, f3, f4⟩ := fin Q q1 q2 qf
      exact ⟨(Q, c'.2), r', L, T, rfl, rfl, l3, f1, l5, l6, p1, f2, q1, q2, f3, hV', f4, fr r' l9⟩
    refine Or.inl ?_
    cases a
    · have t3 : c'.1 15 15 = -1 := o2
      rw [if_pos t3]
      have t16 : bm_uI c'.1 15 15 2 15 16 = c'.1 15 16 := pn_uI_ne2 (by omega)
      cases b
      · have t4 : c'.1 15 16 = -1 := o3
        rw [t16, if_pos t4]
        exact done _ (by rw [pn_uI_ne2 (by omega), pn_uI_hit rfl, o4 rfl]; rfl) (by rw [pn_uI_hit rfl, o5 rfl]; rfl) (fun o k ho => by rw [pn_uI_off (by omega), pn_uI_off (by omega)])
      · have t4 : c'.1 15 16 = nI (T 4) := o3
        rw [t16, t4, if_neg (show ¬ nI (T 4) = -1 by rw [pn_neg (by omega)]; exact not_false)]
        exact done _ (by rw [pn_uI_ne2 (by omega), pn_uI_hit rfl, o4 rfl]; rfl) (by rw [pn_uI_hit rfl]) (fun o k ho => by rw [pn_uI_off (by omega), pn_uI_off (by omega)])
    · have t3 : c'.1 15 15 = nI (T 3) := o2
      rw [t3, if_neg (show ¬ nI (T 3) = -1 by rw [pn_neg (by omega)]; exact not_false)]
      have t16 : bm_uI c'.1 15 15 (nI (T 3)) 15 16 = c'.1 15 16 := pn_uI_ne2 (by omega)
      cases b
      · have t4 : c'.1 15 16 = -1 := o3
        rw [t16, if_pos t4]
        exact done _ (by rw [pn_uI_ne2 (by omega), pn_uI_hit rfl]) (by rw [pn_uI_hit rfl, o5 rfl]; rfl) (fun o k ho => by rw [pn_uI_off (by omega), pn_uI_off (by omega)])
      · have t4 : c'.1 15 16 = nI (T 4) := o3
        rw [t16, t4, if_neg (show ¬ nI (T 4) = -1 by rw [pn_neg (by omega)]; exact not_false)]
        exact done _ (by rw [pn_uI_ne2 (by omega), pn_uI_hit rfl]) (by rw [pn_uI_hit rfl]) (fun o k ho => by rw [pn_uI_off (by omega), pn_uI_off (by omega)])
  · have l1' : f_X0_readFrom_l37 1000 0 V c1.2.1 c1.2.2 = some (.inl (v, c')) := l1
    rw [l1', l2]
    exact Or.inr ⟨c', r', v, rfl, rfl, l3, ga_ct fc l4, fr r' l5⟩
end AJ
