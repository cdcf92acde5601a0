/-! a line of a book is lived -/
def cf_b (I I' : bm_TI) : Prop := ∀ o k, (o < 33 ∨ 39 < o) → I' o k = I o k
theorem cb_r {I I' : bm_TI} (h : cf_r I I') : cf_b I I' := fun o k ho => h o k (by omega)
theorem cb_h {I I' : bm_TI} (h : cf_h I I') : cf_b I I' := fun o k ho => h o k (by omega)
theorem rh_r {I I' : bm_TI} (h : rf_r I I') : rf_h I I' := fun o k ho _ => h o k ho
def lv_E (T : pt_T) (v : Nat) (I I' : bm_TI) (x y : Option (Int32 × bm_TI)) : Prop := (∃ I1 I2 T', x = some (0, I1) ∧ y = some (0, I2) ∧ pp_S I1 33 T' ∧ pp_R I2 T' ∧ pt_VS T' ∧ pt_eA T T' ∧ cf_b I I1 ∧ rf_h I' I2) ∨ ∃ I1, x = some (1, I1) ∧ y = some (nI (10 * v + 1), I') ∧ pp_S I1 33 T ∧ cf_b I I1
theorem pt_orS {s m : Nat} (hb : s.testBit m = true) : s ||| 2 ^ m = s := by
  apply Nat.eq_of_testBit_eq
  intro i
  rw [Nat.testBit_or]
  by_cases q : m = i
  · subst q; rw [hb]; rfl
  · rw [Nat.testBit_two_pow_of_ne q, Bool.or_false]
theorem pt_andS {s m : Nat} (hs : s < 256) (hb : s.testBit m = false) : s &&& (2 ^ m ^^^ 255) = s := by
  apply Nat.eq_of_testBit_eq
  intro i
  rw [Nat.testBit_and, Nat.testBit_xor]
  by_cases hi : i < 8
  · rw [pn_255 hi]
    by_cases q : m = i
    · subst q; rw [hb]; rfl
    · rw [Nat.testBit_two_pow_of_ne q]; simp
  · rw [Nat.testBit_lt_two_pow (Nat.lt_of_lt_of_le hs (pn_256 (show 8 ≤ i by omega)))]; rfl
theorem pt_upS (T : pt_T) (k : Nat) : pt_up T k (T k) = T := by
  funext j
  unfold pt_up
  by_cases q : j = k
  · rw [if_pos q, q]
  · rw [if_neg q]
section LV
variable {I I' : bm_TI} {T : pt_T}
theorem zv_live (hP : pp_A I 4 T) (hQ : pp_S I 33 T) (hR : pp_R I' T) (hA : pt_VA T) (hS : pt_VS T) {v m o : Nat} {x : Int32} (hv : v < 6) (hm : m < T 0) (h0 : v = 0 → x = nI o ∧ 1 ≤ o ∧ o ≤ 3) (h1 : v = 1 → x = nI o ∧ o < T 1) (h5 : v = 5 → x = nI o ∧ o ≤ 3) : lv_E T v I I' (f_X8_live I (nI v) (nI m) (nI o)) (f_X12_does I' (nI v) (nI m) x) := by
  have h8 := hA.1
  have h63 : T 63 < 256 := pt_256 h8 hS.2.1
  have h64 : T 64 < 256 := pt_256 h8 hS.2.2.1
  have cs : v = 0 ∨ v = 1 ∨ v = 2 ∨ v = 3 ∨ v = 4 ∨ v = 5 := by omega
  have hbrow : pt_brow T m ≤ 9 := by
    unfold pt_brow
    have := hA.2.2.2.2.2.2.2.1 m hm
    split <;> omega
  rcases cs with e | e | e | e | e | e
  · subst e
    obtain ⟨rfl, o1, o3⟩ := h0 rfl
    have hd : f_X12_does I' (nI 0) (nI m) (nI o) = (f_X12_browOf I' (nI m)).bind fun v2 => (if v2 = 0 then some (1, I') else ((f_X12_lifts I' (nI m) (nI o)).bind fun v4 => some (0, v4))) := rfl
    rw [hd, pq_brow hR hA hS hm, show f_X8_live I (nI 0) (nI m) (nI o) = _ from lv_0 I (nI m) (nI o)]
    simp only [Option.bind_some]
    by_cases hb : pt_brow T m = 0
    · rw [kc_liftBy0 hP hQ hA hS _ hm hb, hb, if_pos (show nI 0 = 0 from rfl)]
      exact Or.inr ⟨I, rfl, rfl, hQ, fun _ _ _ => rfl⟩
    · obtain ⟨I1, e1, c1, c2⟩ := kc_liftBy hP hQ hA hS (l := o) hm (by omega) hb
      obtain ⟨I2, e2, r1, r2⟩ := pq_lifts hR hA hS (l := o) hm (by omega)
      rw [e1, if_neg (show ¬ nI (pt_brow T m) = 0 from nI_ne0 (by omega) (by omega)), e2]
      exact Or.inl ⟨I1, I2, _, rfl, rfl, c1, r1, vs_lift hA hS (by omega), te_lift T m o, cb_r c2, rh_r r2⟩
  · subst e
    obtain ⟨rfl, o1⟩ := h1 rfl
    have hd : f_X12_does I' (nI 1) (nI m) (nI o) = (f_X12_browOf I' (nI m)).bind fun v2 => (if v2 = 0 then some (11, I') else ((f_X12_gives I' (nI m) (nI o)).bind fun v4 => some (0, v4))) := rfl
    rw [hd, pq_brow hR hA hS hm, show f_X8_live I (nI 1) (nI m) (nI o) = _ from lv_1 I (nI m) (nI o)]
    simp only [Option.bind_some]
    by_cases hb : pt_brow T m = 0
    · rw [kc_giveBy0 hP hQ hA hS hm o1 hb, hb, if_pos (show nI 0 = 0 from rfl)]
      exact Or.inr ⟨I, rfl, rfl, hQ, fun _ _ _ => rfl⟩
    · obtain ⟨I1, e1, c1, c2⟩ := kc_giveBy hP hQ hA hS hm o1 hb
      obtain ⟨I2, e2, r1, r2⟩ := pq_gives hR hA hS hm o1
      rw [e1, if_neg (show ¬ nI (pt_brow T m) = 0 from nI_ne0 (by omega) (by omega)), e2]
      exact Or.inl ⟨I1, I2, _, rfl, rfl, c1, r1, vs_give hA hS o1, te_give T m o, cb_r c2, rh_r r2⟩
  · subst e
    have hd : f_X12_does I' (nI 2) (nI m) x = (if (bm_bi (f_X12_bitOf (I' 166 63) (nI m))) = 1 then some (((10 * (nI 2)) + 1), I') else some (0, (bm_uI I' 166 63 ((I' 166 63) ^^^ (bm_ishl 1 (nI m)))))) := rfl
    rw [hd, hR 63 (by omega), pn_bitOf h63 (by omega), pn_shl (by omega), pn_xor, show f_X8_live I (nI 2) (nI m) (nI o) = _ from lv_2 I (nI m) (nI o)]
    unfold f_X8_sleepBy
    rw [pg_asleep33 hQ, pn_bitX h63 (by omega), pn_shl (by omega), pn_or]
    cases hb : (T 63).testBit m
    · rw [if_neg (by decide), pt_orx hb]
      exact Or.inl ⟨_, _, _, rfl, rfl, ps_asleep h8 hQ _, pr_up hR _ _, vs_up63 hS h8 (Nat.xor_lt_two_pow hS.2.1 (pt_pow_lt hm)), te_up (by omega), fun o k ho => pn_uI_ne (by omega), fun o k h1 h2 => pn_uI_off (by omega)⟩
    · rw [if_pos (by decide)]
      refine Or.inr ⟨_, rfl, rfl, ?_, fun o k ho => pn_uI_ne (by omega)⟩
      rw [pt_orS hb]
      have := ps_asleep h8 hQ (T 63)
      rw [pt_upS] at this
      exact this
  · subst e
    have hd : f_X12_does I' (nI 3) (nI m) x = (if (bm_bi (f_X12_bitOf (I' 166 63) (nI m))) = 0 then some (((10 * (nI 3)) + 1), I') else some (0, (bm_uI I' 166 63 ((I' 166 63) ^^^ (bm_ishl 1 (nI m)))))) := rfl
    rw [hd, hR 63 (by omega), pn_bitOf h63 (by omega), pn_shl (by omega), pn_xor, show f_X8_live I (nI 3) (nI m) (nI o) = _ from lv_3 I (nI m) (nI o)]
    unfold f_X8_wakeBy
    rw [pg_asleep33 hQ, pn_bitX h63 (by omega), pn_shl (by omega), pn_nand h63]
    cases hb : (T 63).testBit m
    · rw [if_pos (by decide), pt_andS h63 hb]
      refine Or.inr ⟨_, rfl, rfl, ?_, fun o k ho => pn_uI_ne (by omega)⟩
      have := ps_asleep h8 hQ (T 63)
      rw [pt_upS] at this
      exact this
    · rw [if_neg (by decide), pt_andx h63 (by omega) hb]
      exact Or.inl ⟨_, _, _, rfl, rfl, ps_asleep h8 hQ _, pr_up hR _ _, vs_up63 hS h8 (Nat.xor_lt_two_pow hS.2.1 (pt_pow_lt hm)), te_up (by omega), fun o k ho => pn_uI_ne (by omega), fun o k h1 h2 => pn_uI_off (by omega)⟩
  · subst e
    have hd : f_X12_does I' (nI 4) (nI m) x = (if (f_X12_bitOf (I' 166 64) (nI m)) = true then some (41, I') else some (0, (bm_uI I' 166 64 ((I' 166 64) ||| (bm_ishl 1 (nI m)))))) := rfl
    rw [hd, hR 64 (by omega), pn_bitOf h64 (by omega), pn_shl (by omega), pn_or, show f_X8_live I (nI 4) (nI m) (nI o) = _ from lv_4 I (nI m) (nI o)]
    unfold f_X8_sootBy
    rw [pg_sooted33 hQ, pn_bitX h64 (by omega), pn_shl (by omega), pn_or]
    cases hb : (T 64).testBit m
    · rw [if_neg (by decide)]
      exact Or.inl ⟨_, _, _, rfl, rfl, ps_sooted h8 hQ _, pr_up hR _ _, vs_up64 hS h8 (Nat.or_lt_two_pow hS.2.2.1 (pt_pow_lt hm)), te_up (by omega), fun o k ho => pn_uI_ne (by omega), fun o k h1 h2 => pn_uI_off (by omega)⟩
    · rw [if_pos rfl, pt_orS hb]
      refine Or.inr ⟨_, rfl, rfl, ?_, fun o k ho => pn_uI_ne (by omega)⟩
      have := ps_sooted h8 hQ (T 64)
      rw [pt_upS] at this
      exact this
  · subst e
    obtain ⟨rfl, o3⟩ := h5 rfl
    have hd : f_X12_does I' (nI 5) (nI m) (nI o) = ((f_X12_whyGo I' (nI m) (nI o)).bind fun v15 => (if v15 ≤ 0 then ((f_X12_goes I' (nI m) (nI o)).bind fun v17 => some (0, v17)) else some (51, I'))) := rfl
    rw [hd, show f_X8_live I (nI 5) (nI m) (nI o) = _ from lv_5 I (nI m) (nI o)]
    have hg := kc_goBy hQ h8 hS (s := o) hm (by omega)
    have hw := pq_whyGo hR h8 hS (s := o) hm (by omega)
    by_cases hc : pt_can T m o
    · obtain ⟨I1, e1, c1, c2⟩ := hg.1 hc
      obtain ⟨I2, e2, r1, r2⟩ := pq_goes hR h8 (s := o) hm (by omega) hc
      rw [e1, hw.1 hc]
      simp only [Option.bind_some]
      rw [if_pos (by decide), e2]
      exact Or.inl ⟨I1, I2, _, rfl, rfl, c1, r1, vs_go hS h8 hm hc, te_go T m o, cb_r c2, rh_r r2⟩
    · rw [hg.2 hc, hw.2 hc]
      exact Or.inr ⟨I, rfl, rfl, hQ, fun _ _ _ => rfl⟩
end LV
