/-! lines: a man -/
def mn_t (X : bm_TI) (J : bm_TJ) (W : bm_TR) : Option (Bool × bm_TI × bm_TJ × bm_TR) := (if bm_iwq (W 3 8) = true then (if (W 3 8) = (some (1000 + 24)) then ((f_X5_advance (bm_uI X 15 11 ((X 15 11) ||| (bm_ishl 1 (X 15 10)))) J W).bind fun v22 => (if bm_iwq (v22.2.2 3 8) = true then (if (v22.2.2 3 8) = (some (1000 + 25)) then ((f_X5_advance (bm_uI v22.1 15 12 ((v22.1 15 12) ||| (bm_ishl 1 (v22.1 15 10)))) v22.2.1 v22.2.2).bind fun v26 => (if bm_ix 8 (v26.1 15 10) = true then some (true, (bm_uI (bm_uI v26.1 20 ((v26.1 15 10).toNatClampNeg) (-1)) 15 10 (((bm_uI v26.1 20 ((v26.1 15 10).toNatClampNeg) (-1)) 15 10) + 1)), v26.2.1, v26.2.2) else none)) else (if bm_ix 8 (v22.1 15 10) = true then some (true, (bm_uI (bm_uI v22.1 20 ((v22.1 15 10).toNatClampNeg) (-1)) 15 10 (((bm_uI v22.1 20 ((v22.1 15 10).toNatClampNeg) (-1)) 15 10) + 1)), v22.2.1, v22.2.2) else none)) else none)) else (if (W 3 8) = (some (1000 + 25)) then ((f_X5_advance (bm_uI X 15 12 ((X 15 12) ||| (bm_ishl 1 (X 15 10)))) J W).bind fun v19 => (if bm_ix 8 (v19.1 15 10) = true then some (true, (bm_uI (bm_uI v19.1 20 ((v19.1 15 10).toNatClampNeg) (-1)) 15 10 (((bm_uI v19.1 20 ((v19.1 15 10).toNatClampNeg) (-1)) 15 10) + 1)), v19.2.1, v19.2.2) else none)) else some (true, (bm_uI (bm_uI X 20 ((X 15 10).toNatClampNeg) (-1)) 15 10 (((bm_uI X 20 ((X 15 10).toNatClampNeg) (-1)) 15 10) + 1)), J, W))) else none)
def mn_r (I : bm_TI) (J : bm_TJ) (x : Int32) : Option (Bool × bm_TI × bm_TJ) := ((f_X12_flag I J 117026742756708 x).bind fun v11 => ((f_X12_flag (bm_uI v11.2.1 167 29 ((I 167 29) ||| v11.1)) v11.2.2 1735550329 x).bind fun v13 => some (true, (bm_uI (bm_uI v13.2.1 167 30 (((bm_uI v11.2.1 167 29 ((I 167 29) ||| v11.1)) 167 30) ||| v13.1)) 167 0 (((bm_uI v13.2.1 167 30 (((bm_uI v11.2.1 167 29 ((I 167 29) ||| v11.1)) 167 30) ||| v13.1)) 167 0) + 1)), v13.2.2)))
section AM
variable {n lim p : Nat} {B : Nat → Nat} {c : zc_C} {r : zc_R}
theorem zz_flY (h : zz_P n lim B p c r) {i s m : Nat} {w : Int64} {x : Int32} (hi : i < 34) (hw : w = nm_8 (wd_w i)) (hq : (lx B n lim p).1 = 4 ∧ (lx B n lim p).2.1 = i) (hm : m < 8) : ∃ c' r' p', f_X5_advance (bm_uI c.1 15 s x) c.2.1 c.2.2 = some c' ∧ f_X12_flag r.1 r.2 w (nI m) = some (nI (2 ^ m), r') ∧ zz_P n lim B p' c' r' ∧ p < p' ∧ gz_c (bm_uI c.1 15 s x, c.2) c' ∧ gz_r r r' ∧ c.2.2 3 8 = some (1000 + i) := by
  obtain ⟨c', r', p', e1, e2, z, q0, q1, g, s', _⟩ := zz_adv (zz_cu h (o := 15) (i := s) (v := x) (by omega))
  refine ⟨c', r', p', e1, ?_, z, q1 (by omega), g, s', by rw [zz_isWc h]; exact hq⟩
  unfold f_X12_flag
  rw [zz_isW h hi hw, decide_eq_true hq, e2, pn_shl (by omega)]
  rfl
theorem zz_flN (h : zz_P n lim B p c r) {i m : Nat} {w : Int64} (hi : i < 34) (hw : w = nm_8 (wd_w i)) (hq : ¬ ((lx B n lim p).1 = 4 ∧ (lx B n lim p).2.1 = i)) : f_X12_flag r.1 r.2 w (nI m) = some (0, r) ∧ ¬ c.2.2 3 8 = some (1000 + i) := by
  refine ⟨?_, by rw [zz_isWc h]; exact hq⟩
  unfold f_X12_flag
  rw [zz_isW h hi hw, decide_eq_false hq]
  rfl
theorem pt_anc_man {T T' : pt_T} {cc : Nat → Nat → Bool} {m : Nat} (h : pt_anc T cc) (hu : ∀ j, j < T 0 → T (31 + j) ≤ T 0) (hm : T 0 = m) (h0 : T' 0 = m + 1) (hz : T' (31 + m) = 0) (hT : ∀ j, j < m → T' (31 + j) = T (31 + j)) : pt_anc T' (fun j i => decide (j < m) && cc j i) := by
  refine ⟨fun j hj i => ?_, fun j hj => ?_⟩
  · rw [h0] at hj
    by_cases e : j = m
    · subst e
      simp only [hz]
      simp
    · have hj' : j < m := by omega
      have hp := hu j (by omega)
      simp only [hT j hj', decide_eq_true hj', Bool.true_and]
      rw [h.1 j (by omega) i]
      by_cases z : 0 < T (31 + j)
      · simp only [decide_eq_true (show T (31 + j) - 1 < m by omega), Bool.true_and]
      · simp only [decide_eq_false z, Bool.false_and]
  · rw [h0] at hj
    by_cases e : j < m
    · simp only [h.2 j (by omega), Bool.and_false]
    · simp only [decide_eq_false e, Bool.false_and]
theorem ar_man {a b : Bool} {T : pt_T} {m g1 g2 : Nat} {c' : zc_C} {r' : zc_R} (h : ar_P a b T c r) (hm : T 0 = m) (m8 : m < 8) (hx : T (5 + m) ≤ 30) (hy : T (13 + m) ≤ 30) (hb : T (21 + m) ≤ 9) (k17 : c.1 17 m = nI (T (5 + m))) (k18 : c.1 18 m = nI (T (13 + m))) (k19 : c.1 19 m = nI (T (21 + m))) (hn : nm_E (c.2.1 16 m) (r.2 169 (15 + m))) (hg1 : g1 < 2 ^ (m + 1)) (hg2 : g2 < 2 ^ (m + 1)) (fc : ∀ o i, (o ≠ 3 ∨ i < 2 ∨ 10 < i) → ¬ (o = 15 ∧ 10 ≤ i ∧ i ≤ 12) → ¬ (o = 20 ∧ i = m) → c'.1 o i = c.1 o i) (f10 : c'.1 15 10 = nI (m + 1)) (f11 : c'.1 15 11 = nI (T 29 ||| g1)) (f12 : c'.1 15 12 = nI (T 30 ||| g2)) (f20 : c'.1 20 m = -1) (fJ : fk_J c.2.1 c'.2.1) (rr : ∀ k, k < 61 → k ≠ 0 → k ≠ 29 → k ≠ 30 → r'.1 167 k = r.1 167 k) (r0 : r'.1 167 0 = nI (m + 1)) (r29 : r'.1 167 29 = nI (T 29 ||| g1)) (r30 : r'.1 167 30 = nI (T 30 ||| g2)) (r20 : r'.1 164 20 = r.1 164 20) (rJ : rk_J r.2 r'.2) : ar_P a b (pt_up (pt_up (pt_up T 29 (T 29 ||| g1)) 30 (T 30 ||| g2)) 0 (m + 1)) c' r' := by
  obtain ⟨p1, ⟨o1, o2, o3, o4, o5⟩, ⟨c1, c2, c3, c4, c5, c6, c7, c8⟩, ⟨n1, n2⟩, ⟨⟨a0, a1, a2, a3, a4, a5, a6, a7, a8, a9, a10, ⟨cc, a11, a12⟩, a13, a14⟩, hxx, hz⟩⟩ := h
  have hz0 : T (31 + m) = 0 := hz m (by omega) m8
  have U0 : pt_up (pt_up (pt_up T 29 (T 29 ||| g1)) 30 (T 30 ||| g2)) 0 (m + 1) 0 = m + 1 := by unfold pt_up; rw [if_pos rfl]
  have U29 : pt_up (pt_up (pt_up T 29 (T 29 ||| g1)) 30 (T 30 ||| g2)) 0 (m + 1) 29 = T 29 ||| g1 := by unfold pt_up; rw [if_neg (by omega), if_neg (by omega), if_pos rfl]
  have U30 : pt_up (pt_up (pt_up T 29 (T 29 ||| g1)) 30 (T 30 ||| g2)) 0 (m + 1) 30 = T 30 ||| g2 := by unfold pt_up; rw [if_neg (by omega), if_pos rfl]
  have U : ∀ k, k ≠ 0 → k ≠ 29 → k ≠ 30 → pt_up (pt_up (pt_up T 29 (T 29 ||| g1)) 30 (T 30 ||| g2)) 0 (m + 1) k = T k := fun k h1 h2 h3 => by unfold pt_up; rw [if_neg h1, if_neg h3, if_neg h2]
  generalize pt_up (pt_up (pt_up T 29 (T 29 ||| g1)) 30 (T 30 ||| g2)) 0 (m + 1) = V at U0 U29 U30 U
  have hpow : 2 ^ m < 2 ^ (m + 1) := Nat.pow_lt_pow_right (by omega) (by omega)
  have anc := pt_anc_man (T' := V) ⟨a11, a12⟩ a10 hm U0 (by rw [U _ (by omega) (by omega) (by omega)]; exact hz0) (fun j hj => U _ (by omega) (by omega) (by omega))
  refine ⟨fun k hk => ?_, ⟨r20.trans o1, ?_, ?_, ?_, ?_⟩, ⟨?_, ?_, ?_, ?_, ?_, fun j hj => ?_, fun q hq => ?_, fun f hf => ?_⟩, ⟨fun j hj => ?_, fun q hq => ?_⟩, ⟨⟨?_, ?_, ?_, ?_, ?_, ?_, ?_, fun j hj => ?_, ?_, ?_, fun j hj => ?_, ⟨_, anc.1, anc.2⟩, fun q hq => ?_, fun f hf => ?_⟩, fun j hj => ?_, fun j hj hj8 => ?_⟩⟩
  · by_cases q0 : k = 0
    · rw [q0, U0]; exact r0
    · by_cases q1 : k = 29
      · rw [q1, U29]; exact r29
      · by_cases q2 : k = 30
        · rw [q2, U30]; exact r30
        · rw [U k q0 q1 q2, rr k hk q0 q1 q2]; exact p1 k hk
  · rw [U 3 (by omega) (by omega) (by omega), fc 15 15 (by omega) (by omega) (by omega)]; exact o2
  · rw [U 4 (by omega) (by omega) (by omega), fc 15 16 (by omega) (by omega) (by omega)]; exact o3
  · rw [U 3 (by omega) (by omega) (by omega)]; exact o4
  · rw [U 4 (by omega) (by omega) (by omega)]; exact o5
  · rw [U0]; exact f10
  · rw [U29]; exact f11
  · rw [U30]; exact f12
  · rw [U 1 (by omega) (by omega) (by omega), fc 15 13 (by omega) (by omega) (by omega)]; exact c4
  · rw [U 2 (by omega) (by omega) (by omega), fc 15 14 (by omega) (by omega) (by omega)]; exact c5
  · rw [U0] at hj
    rw [U (5 + j) (by omega) (by omega) (by omega), U (13 + j) (by omega) (by omega) (by omega), U (21 + j) (by omega) (by omega) (by omega), U (31 + j) (by omega) (by omega) (by omega), fc 17 j (by omega) (by omega) (by omega), fc 18 j (by omega) (by omega) (by omega), fc 19 j (by omega) (by omega) (by omega)]
    by_cases e : j = m
    · rw [e]; exact ⟨k17, k18, k19, by rw [f20, hz0]; rfl⟩
    · rw [fc 20 j (by omega) (by omega) (by omega)]; exact c6 j (by omega)
  · rw [U 1 (by omega) (by omega) (by omega)] at hq
    rw [U (39 + q) (by omega) (by omega) (by omega), U (46 + q) (by omega) (by omega) (by omega), fc 22 q (by omega) (by omega) (by omega), fc 23 q (by omega) (by omega) (by omega)]; exact c7 q hq
  · rw [U 2 (by omega) (by omega) (by omega)] at hf
    rw [U (53 + f) (by omega) (by omega) (by omega), U (57 + f) (by omega) (by omega) (by omega), fc 24 f (by omega) (by omega) (by omega), fc 25 f (by omega) (by omega) (by omega)]; exact c8 f hf
  · rw [U0] at hj
    rw [fJ 16 j (by omega), rJ 169 (15 + j) (by omega)]
    by_cases e : j = m
    · rw [e]; exact hn
    · exact n1 j (by omega)
  · rw [U 1 (by omega) (by omega) (by omega)] at hq
    rw [fJ 21 q (by omega), rJ 169 (23 + q) (by omega)]; exact n2 q hq
  · rw [U0]; omega
  · rw [U 1 (by omega) (by omega) (by omega)]; exact a1
  · rw [U 2 (by omega) (by omega) (by omega)]; exact a2
  · rw [U 3 (by omega) (by omega) (by omega)]; exact a3
  · rw [U 3 (by omega) (by omega) (by omega)]; exact a4
  · rw [U 4 (by omega) (by omega) (by omega)]; exact a5
  · rw [U 4 (by omega) (by omega) (by omega)]; exact a6
  · rw [U0] at hj
    rw [U (21 + j) (by omega) (by omega) (by omega)]
    by_cases e : j = m
    · rw [e]; exact hb
    · exact a7 j (by omega)
  · rw [U29, U0]; rw [hm] at a8; exact Nat.or_lt_two_pow (by omega) hg1
  · rw [U30, U0]; rw [hm] at a9; exact Nat.or_lt_two_pow (by omega) hg2
  · rw [U0] at hj
    rw [U (31 + j) (by omega) (by omega) (by omega), U0]
    by_cases e : j = m
    · rw [e, hz0]; omega
    · have := a10 j (by omega); omega
  · rw [U 1 (by omega) (by omega) (by omega)] at hq
    rw [U (39 + q) (by omega) (by omega) (by omega), U (46 + q) (by omega) (by omega) (by omega)]; exact a13 q hq
  · rw [U 2 (by omega) (by omega) (by omega)] at hf
    rw [U (53 + f) (by omega) (by omega) (by omega), U (57 + f) (by omega) (by omega) (by omega)]; exact a14 f hf
  · rw [U0] at hj
    rw [U (5 + j) (by omega) (by omega) (by omega), U (13 + j) (by omega) (by omega) (by omega)]
    by_cases e : j = m
    · rw [e]; exact ⟨hx, hy⟩
    · exact hxx j (by omega)
  · rw [U0] at hj
    rw [U (31 + j) (by omega) (by omega) (by omega)]; exact hz j (by omega) hj8
end AM
