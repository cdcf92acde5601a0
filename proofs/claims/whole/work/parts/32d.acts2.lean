/-! asleep, awake, sooted -/
theorem pt_orx {s m : Nat} (h : s.testBit m = false) : s ||| 2 ^ m = s ^^^ 2 ^ m := by
  apply Nat.eq_of_testBit_eq
  intro i
  rw [Nat.testBit_or, Nat.testBit_xor]
  by_cases e : m = i
  · subst e; rw [h, Nat.testBit_two_pow_self]; rfl
  · rw [Nat.testBit_two_pow_of_ne e]; simp
theorem pt_andx {s m : Nat} (hs : s < 256) (hm : m < 8) (h : s.testBit m = true) : s &&& (2 ^ m ^^^ 255) = s ^^^ 2 ^ m := by
  apply Nat.eq_of_testBit_eq
  intro i
  rw [Nat.testBit_and, Nat.testBit_xor, Nat.testBit_xor]
  by_cases hi : i < 8
  · rw [pn_255 hi]
    by_cases e : m = i
    · subst e; rw [h, Nat.testBit_two_pow_self]; rfl
    · rw [Nat.testBit_two_pow_of_ne e]; simp
  · rw [Nat.testBit_lt_two_pow (Nat.lt_of_lt_of_le hs (pn_256 (show 8 ≤ i by omega))), Nat.testBit_two_pow_of_ne (by omega)]; rfl
section EB
variable {I : bm_TI} {J : bm_TJ} {W : bm_TR}
/-- the reference turns a bit -/
theorem pq_turns {T : pt_T} (hR : pp_R I T) (hA : pt_VA T) {m row to : Nat} (hm : m < T 0) (hrow : row = 63 ∨ row = 64) (hto : to ≤ 1) (hr : T row < 256) : (((T row).testBit m).toNat = to → f_X12_turns I (nI row) (nI m) (nI to) = some (1, bm_uI I 164 0 0)) ∧ (((T row).testBit m).toNat ≠ to → ∀ {u : Nat} {U : Nat → pt_T}, u ≤ 8 → pp_D I u U → ∃ I4 I5, f_X12_turns I (nI row) (nI m) (nI to) = some (0, I5) ∧ pp_R I5 (pt_up T row (T row ^^^ 2 ^ m)) ∧ pp_D I4 (pt_ku u) (pt_kU u U T) ∧ (∀ o k, o ≠ 172 → (o ≠ 164 ∨ k ≠ 24) → I4 o k = bm_uI I 164 0 0 o k) ∧ rf_d I4 I5) := by
  have h8 := hA.1
  have R0 : pp_R (bm_uI I 164 0 0) T := pr_164 hR
  have hb : ((T row).testBit m).toNat ≤ 1 := Bool.toNat_le _
  have hbit : (bm_ishr (nI (T row)) (nI m) &&& 1) = nI ((T row).testBit m).toNat := pn_bit hr (by omega)
  have key : f_X12_turns I (nI row) (nI m) (nI to) = if ((T row).testBit m).toNat = to then some (1, bm_uI I 164 0 0) else ((f_X12_keep (bm_uI I 164 0 0)).bind fun v4 => some (0, (bm_uI v4 166 row ((v4 166 row) ^^^ (bm_ishl 1 (nI m)))))) := by
    unfold f_X12_turns
    rw [pq_isManT R0 hA hm]
    simp only [Option.bind_some, ↓reduceIte]
    rw [if_pos (bm_ixk (by omega) (by omega)), nI_clamp (by omega), R0 row (by omega), hbit]
    simp only [pn_eqI (show ((T row).testBit m).toNat < 2 ^ 31 by omega) (show to < 2 ^ 31 by omega)]
  refine ⟨fun h => by rw [key, if_pos h], fun h u U hu hD => ?_⟩
  have D3 : pp_D (bm_uI I 164 0 0) u U := pD_congr (pn_uI_ne2 (by omega)) (fun k => pn_uI_ne (by omega)) hD
  obtain ⟨I4, e4, r2, r3⟩ := pq_keep R0 hu D3
  have R4 : pp_R I4 T := fun k hk => by rw [r3 166 k (by omega) (by omega)]; exact R0 k hk
  refine ⟨I4, bm_uI I4 166 row (nI (T row ^^^ 2 ^ m)), ?_, pr_up R4 _ _, r2, r3, rd_r (rf_up (by omega) (by omega))⟩
  rw [key, if_neg h, e4]
  simp only [Option.bind_some]
  rw [R4 row (by omega), pn_shl (by omega), pn_xor]
theorem e_sleep (hI : bm_Inv I J W) : ∀ a1 : Int32, ∃ v I1 I2, f_X11_sleep I a1 = some (v, I1) ∧ f_X12_sleep I1 a1 = some (v, I2) ∧ bm_Inv I2 J W := by
  intro a1
  obtain ⟨T, S, hF, hU, hG0, hG1, hT, hM, hK⟩ := id hI
  obtain ⟨hR, _, hP, hQ, _, _, hA, hS, _⟩ := id hF
  obtain ⟨u, o, U, hu, ho, hC, hD, hV⟩ := hU
  have h8 := hA.1
  have h63 : T 63 < 256 := pt_256 h8 hS.2.1
  have R0 : pp_R (bm_uI I 164 0 0) T := pr_164 hR
  unfold f_X11_sleep
  have hF0 : (a1 < 0 ∨ nI (T 0) ≤ a1) → ∃ v I1 I2, (f_X11_isMan I a1).bind (fun v1 => if v1 = true then (f_X11_act I 2 a1 0).bind fun v3 => some (v3.1, v3.2) else some (-1, I)) = some (v, I1) ∧ f_X12_sleep I1 a1 = some (v, I2) ∧ bm_Inv I2 J W := fun h => by
    rw [kc_isManF hP h]
    refine ⟨_, _, bm_uI I 164 0 0, rfl, ?_, iv_q hI⟩
    unfold f_X12_sleep f_X12_turns
    rw [pq_isManF R0 hA h]; rfl
  rcases pk_ix a1 (n := T 0) (by omega) with h | h | ⟨m, hm, rfl⟩
  · exact hF0 (Or.inl h)
  · exact hF0 (Or.inr h)
  rw [kc_isManT hP hA hm]
  simp only [Option.bind_some, ↓reduceIte]
  have hlive : ∀ I1, pp_S I1 33 T → f_X8_live I1 2 (nI m) 0 = some (nI ((T 63).testBit m).toNat, bm_uI I1 33 7 (nI (T 63 ||| 2 ^ m))) := fun I1 q1 => by
    rw [lv_2]
    unfold f_X8_sleepBy
    rw [pg_asleep33 q1, pn_bitX h63 (by omega), pn_shl (by omega), pn_or]
  cases hb : (T 63).testBit m
  · obtain ⟨I3, e3, c1, c2, c3⟩ := kc_act0 (T2 := pt_up T 63 (T 63 ^^^ 2 ^ m)) hA hP hQ hu ho hC (te_up (by omega)) (v := 2) (x := nI m) (y := 0) (fun I1 p1 q1 => ⟨_, by rw [hlive I1 q1, hb]; rfl, cd_s _ _ _, by rw [pt_orx hb]; exact ps_asleep h8 q1 _⟩)
    rw [e3]
    have R3 : pp_R I3 T := fun k hk => by rw [c3 166 k (by omega)]; exact hR k hk
    have D3 : pp_D I3 u U := pD_congr (c3 164 24 (by omega)) (fun k => c3 172 k (by omega)) hD
    obtain ⟨I4, I5, e5, r1, r2, r3, r4⟩ := (pq_turns R3 hA (row := 63) (to := 1) hm (by omega) (by omega) h63).2 (by rw [hb]; decide) hu D3
    refine ⟨_, _, I5, rfl, ?_, iv_done hF hG0 hG1 hT hM hK hu ho hV (te_up (by omega)) (vs_up63 hS h8 (Nat.xor_lt_two_pow hS.2.1 (pt_pow_lt hm))) c1 c2 c3 r1 r2 r3 r4⟩
    unfold f_X12_sleep
    rw [show f_X12_turns I3 63 (nI m) 1 = some (0, I5) from e5]; rfl
  · obtain ⟨I1, e1, f1⟩ := kc_act1 hA hP hQ (v := 2) (x := nI m) (y := 0) (fun I1 p1 q1 => ⟨_, by rw [hlive I1 q1, hb]; rfl, cd_s _ _ _⟩)
    rw [e1]
    refine ⟨_, _, bm_uI I1 164 0 0, rfl, ?_, iv_tried hI f1⟩
    have R1 : pp_R I1 T := fun k hk => by rw [f1 166 k (by omega)]; exact hR k hk
    unfold f_X12_sleep
    rw [show f_X12_turns I1 63 (nI m) 1 = _ from (pq_turns R1 hA (row := 63) (to := 1) hm (by omega) (by omega) h63).1 (by rw [hb]; rfl)]; rfl
theorem e_wake (hI : bm_Inv I J W) : ∀ a1 : Int32, ∃ v I1 I2, f_X11_wake I a1 = some (v, I1) ∧ f_X12_wake I1 a1 = some (v, I2) ∧ bm_Inv I2 J W := by
  intro a1
  obtain ⟨T, S, hF, hU, hG0, hG1, hT, hM, hK⟩ := id hI
  obtain ⟨hR, _, hP, hQ, _, _, hA, hS, _⟩ := id hF
  obtain ⟨u, o, U, hu, ho, hC, hD, hV⟩ := hU
  have h8 := hA.1
  have h63 : T 63 < 256 := pt_256 h8 hS.2.1
  have R0 : pp_R (bm_uI I 164 0 0) T := pr_164 hR
  unfold f_X11_wake
  have hF0 : (a1 < 0 ∨ nI (T 0) ≤ a1) → ∃ v I1 I2, (f_X11_isMan I a1).bind (fun v1 => if v1 = true then (f_X11_act I 3 a1 0).bind fun v3 => some (v3.1, v3.2) else some (-1, I)) = some (v, I1) ∧ f_X12_wake I1 a1 = some (v, I2) ∧ bm_Inv I2 J W := fun h => by
    rw [kc_isManF hP h]
    refine ⟨_, _, bm_uI I 164 0 0, rfl, ?_, iv_q hI⟩
    unfold f_X12_wake f_X12_turns
    rw [pq_isManF R0 hA h]; rfl
  rcases pk_ix a1 (n := T 0) (by omega) with h | h | ⟨m, hm, rfl⟩
  · exact hF0 (Or.inl h)
  · exact hF0 (Or.inr h)
  rw [kc_isManT hP hA hm]
  simp only [Option.bind_some, ↓reduceIte]
  have hlive : ∀ I1, pp_S I1 33 T → f_X8_live I1 3 (nI m) 0 = some (1 - nI ((T 63).testBit m).toNat, bm_uI I1 33 7 (nI (T 63 &&& (2 ^ m ^^^ 255)))) := fun I1 q1 => by
    rw [lv_3]
    unfold f_X8_wakeBy
    rw [pg_asleep33 q1, pn_bitX h63 (by omega), pn_shl (by omega), pn_nand h63]
  cases hb : (T 63).testBit m
  · obtain ⟨I1, e1, f1⟩ := kc_act1 hA hP hQ (v := 3) (x := nI m) (y := 0) (fun I1 p1 q1 => ⟨_, by rw [hlive I1 q1, hb]; rfl, cd_s _ _ _⟩)
    rw [e1]
    refine ⟨_, _, bm_uI I1 164 0 0, rfl, ?_, iv_tried hI f1⟩
    have R1 : pp_R I1 T := fun k hk => by rw [f1 166 k (by omega)]; exact hR k hk
    unfold f_X12_wake
    rw [show f_X12_turns I1 63 (nI m) 0 = _ from (pq_turns R1 hA (row := 63) (to := 0) hm (by omega) (by omega) h63).1 (by rw [hb]; rfl)]; rfl
  · obtain ⟨I3, e3, c1, c2, c3⟩ := kc_act0 (T2 := pt_up T 63 (T 63 ^^^ 2 ^ m)) hA hP hQ hu ho hC (te_up (by omega)) (v := 3) (x := nI m) (y := 0) (fun I1 p1 q1 => ⟨_, by rw [hlive I1 q1, hb]; rfl, cd_s _ _ _, by rw [pt_andx h63 (by omega) hb]; exact ps_asleep h8 q1 _⟩)
    rw [e3]
    have R3 : pp_R I3 T := fun k hk => by rw [c3 166 k (by omega)]; exact hR k hk
    have D3 : pp_D I3 u U := pD_congr (c3 164 24 (by omega)) (fun k => c3 172 k (by omega)) hD
    obtain ⟨I4, I5, e5, r1, r2, r3, r4⟩ := (pq_turns R3 hA (row := 63) (to := 0) hm (by omega) (by omega) h63).2 (by rw [hb]; decide) hu D3
    refine ⟨_, _, I5, rfl, ?_, iv_done hF hG0 hG1 hT hM hK hu ho hV (te_up (by omega)) (vs_up63 hS h8 (Nat.xor_lt_two_pow hS.2.1 (pt_pow_lt hm))) c1 c2 c3 r1 r2 r3 r4⟩
    unfold f_X12_wake
    rw [show f_X12_turns I3 63 (nI m) 0 = some (0, I5) from e5]; rfl
theorem e_soot (hI : bm_Inv I J W) : ∀ a1 : Int32, ∃ v I1 I2, f_X11_soot I a1 = some (v, I1) ∧ f_X12_soot I1 a1 = some (v, I2) ∧ bm_Inv I2 J W := by
  intro a1
  obtain ⟨T, S, hF, hU, hG0, hG1, hT, hM, hK⟩ := id hI
  obtain ⟨hR, _, hP, hQ, _, _, hA, hS, _⟩ := id hF
  obtain ⟨u, o, U, hu, ho, hC, hD, hV⟩ := hU
  have h8 := hA.1
  have h64 : T 64 < 256 := pt_256 h8 hS.2.2.1
  have R0 : pp_R (bm_uI I 164 0 0) T := pr_164 hR
  unfold f_X11_soot
  have hF0 : (a1 < 0 ∨ nI (T 0) ≤ a1) → ∃ v I1 I2, (f_X11_isMan I a1).bind (fun v1 => if v1 = true then (f_X11_act I 4 a1 0).bind fun v3 => some (v3.1, v3.2) else some (-1, I)) = some (v, I1) ∧ f_X12_soot I1 a1 = some (v, I2) ∧ bm_Inv I2 J W := fun h => by
    rw [kc_isManF hP h]
    refine ⟨_, _, bm_uI I 164 0 0, rfl, ?_, iv_q hI⟩
    unfold f_X12_soot f_X12_turns
    rw [pq_isManF R0 hA h]; rfl
  rcases pk_ix a1 (n := T 0) (by omega) with h | h | ⟨m, hm, rfl⟩
  · exact hF0 (Or.inl h)
  · exact hF0 (Or.inr h)
  rw [kc_isManT hP hA hm]
  simp only [Option.bind_some, ↓reduceIte]
  have hlive : ∀ I1, pp_S I1 33 T → f_X8_live I1 4 (nI m) 0 = some (nI ((T 64).testBit m).toNat, bm_uI I1 33 8 (nI (T 64 ||| 2 ^ m))) := fun I1 q1 => by
    rw [lv_4]
    unfold f_X8_sootBy
    rw [pg_sooted33 q1, pn_bitX h64 (by omega), pn_shl (by omega), pn_or]
  cases hb : (T 64).testBit m
  · obtain ⟨I3, e3, c1, c2, c3⟩ := kc_act0 (T2 := pt_up T 64 (T 64 ^^^ 2 ^ m)) hA hP hQ hu ho hC (te_up (by omega)) (v := 4) (x := nI m) (y := 0) (fun I1 p1 q1 => ⟨_, by rw [hlive I1 q1, hb]; rfl, cd_s _ _ _, by rw [pt_orx hb]; exact ps_sooted h8 q1 _⟩)
    rw [e3]
    have R3 : pp_R I3 T := fun k hk => by rw [c3 166 k (by omega)]; exact hR k hk
    have D3 : pp_D I3 u U := pD_congr (c3 164 24 (by omega)) (fun k => c3 172 k (by omega)) hD
    obtain ⟨I4, I5, e5, r1, r2, r3, r4⟩ := (pq_turns R3 hA (row := 64) (to := 1) hm (by omega) (by omega) h64).2 (by rw [hb]; decide) hu D3
    refine ⟨_, _, I5, rfl, ?_, iv_done hF hG0 hG1 hT hM hK hu ho hV (te_up (by omega)) (vs_up64 hS h8 (Nat.xor_lt_two_pow hS.2.2.1 (pt_pow_lt hm))) c1 c2 c3 r1 r2 r3 r4⟩
    unfold f_X12_soot
    rw [show f_X12_turns I3 64 (nI m) 1 = some (0, I5) from e5]; rfl
  · obtain ⟨I1, e1, f1⟩ := kc_act1 hA hP hQ (v := 4) (x := nI m) (y := 0) (fun I1 p1 q1 => ⟨_, by rw [hlive I1 q1, hb]; rfl, cd_s _ _ _⟩)
    rw [e1]
    refine ⟨_, _, bm_uI I1 164 0 0, rfl, ?_, iv_tried hI f1⟩
    have R1 : pp_R I1 T := fun k hk => by rw [f1 166 k (by omega)]; exact hR k hk
    unfold f_X12_soot
    rw [show f_X12_turns I1 64 (nI m) 1 = _ from (pq_turns R1 hA (row := 64) (to := 1) hm (by omega) (by omega) h64).1 (by rw [hb]; rfl)]; rfl
theorem e_hours (hI : bm_Inv I J W) : ∀ a1 : Int32, ∃ v I1 I2, f_X11_hours I a1 = some (v, I1) ∧ f_X12_hours I1 a1 = some (v, I2) ∧ bm_Inv I2 J W := by
  intro a1
  obtain ⟨T, S, hF, hU, hG0, hG1, hT, hM, hK⟩ := id hI
  obtain ⟨hR, _, hP, hQ, _, _, hA, hS, _⟩ := id hF
  obtain ⟨u, o, U, hu, ho, hC, hD, hV⟩ := hU
  have h8 := hA.1
  have h61 := hS.1
  unfold f_X11_hours
  rcases pk_rng a1 1 60 (by omega) (by omega) with ⟨n, n1, n2, rfl⟩ | h
  · obtain ⟨I1, e1, q1, p1, f1, q26⟩ := kc_begin hA hP hQ
    obtain ⟨I2, e2, q2, f2⟩ := kc_passHours p1 q1 hA hS n2
    rw [if_neg (show ¬ nI n < 1 from nI_nlt (b := 1) n1 (by omega)), if_pos (show nI n ≤ 60 from nI_le (b := 60) n2 (by omega)), e1]
    simp only [Option.bind_some]
    rw [e2]
    simp only [Option.bind_some]
    have fx : ∀ o k, (o < 33 ∨ 39 < o) → I2 o k = I o k := fun o k ho => by rw [f2 o k (by omega), f1 o k (by omega)]
    by_cases hz : T 61 = 400
    · rw [show min n (400 - T 61) = 0 by omega, if_pos (show nI 0 ≤ 0 by decide)]
      refine ⟨_, _, bm_uI I2 164 0 0, rfl, ?_, iv_tried hI fx⟩
      unfold f_X12_hours
      rw [show f_X12_isIn (nI n) 1 60 = true from pq_rngT (lo := 1) (hi := 60) (by omega) n1 n2, pn_uI_ne (by omega), fx 166 61 (by omega), hR 61 (by omega), hz]
      rfl
    · rw [if_neg (nI_nle (by omega) (by omega))]
      have eA := te_hrs T (min n (400 - T 61))
      obtain ⟨I3, e3, c1, c2, f3⟩ := kc_settle (I := I2) h8 (by rw [eA 0 (by omega)]; exact h8) hu ho (pC_congr (fun c k _ _ => fx c k (by omega)) hC) (ps_congr (fun k => fx 26 k (by omega)) (fun c k _ _ => fx c k (by omega)) hQ) q2
      have c3 : cf_a I I3 := fun c k hc => by rw [f3 c k (by omega), fx c k (by omega)]
      rw [e3]
      have R3 : pp_R (bm_uI I3 164 0 0) T := pr_164 (fun k hk => by rw [c3 166 k (by omega)]; exact hR k hk)
      have D3 : pp_D (bm_uI I3 164 0 0) u U := pD_congr (by rw [pn_uI_ne2 (by omega)]; exact c3 164 24 (by omega)) (fun k => by rw [pn_uI_ne (by omega)]; exact c3 172 k (by omega)) hD
      obtain ⟨I4, e4, r2, r3⟩ := pq_keep R3 hu D3
      obtain ⟨I5, e5, r1, r4⟩ := pq_goesOn (I := I4) (fun k hk => by rw [r3 166 k (by omega) (by omega)]; exact R3 k hk) hA hS n2
      refine ⟨_, _, I5, rfl, ?_, iv_done hF hG0 hG1 hT hM hK hu ho hV eA (vs_hrs hA hS (by omega)) c1 c2 c3 r1 r2 r3 (rd_h r4)⟩
      unfold f_X12_hours
      rw [show f_X12_isIn (nI n) 1 60 = true from pq_rngT (lo := 1) (hi := 60) (by omega) n1 n2, R3 61 (by omega), if_pos rfl, if_neg (show ¬ nI (T 61) = 400 from fun e => hz ((nI_eq (by omega) (b := 400) (by omega)).mp e)), e4]
      simp only [Option.bind_some]
      rw [e5]; rfl
  · have hc : ∀ (x : Option (Int32 × bm_TI)), (if a1 < 1 then some (-1, I) else if a1 ≤ 60 then x else some (-1, I)) = some (-1, I) := fun x => by
      rcases h with h | h
      · rw [if_pos (show a1 < 1 from h)]
      · by_cases h1 : a1 < 1
        · rw [if_pos h1]
        · rw [if_neg h1, if_neg (show ¬ a1 ≤ 60 by rw [Int32.not_le]; exact h)]
    rw [hc]
    refine ⟨_, _, bm_uI I 164 0 0, rfl, ?_, iv_q hI⟩
    unfold f_X12_hours
    rw [show f_X12_isIn a1 1 60 = false from pq_rngF (lo := 1) (hi := 60) h]; rfl
theorem e_drawn (hI : bm_Inv I J W) : ∀ a1 a2 : Int32, ∃ v I1 I2, f_X11_drawn I a1 a2 = some (v, I1) ∧ f_X12_drawn I1 a1 a2 = some (v, I2) ∧ bm_Inv I2 J W := by
  intro a1 a2
  obtain ⟨T, S, hF, hU, hG0, hG1, hT, hM, hK⟩ := id hI
  obtain ⟨hR, _, hP, hQ, _, _, hA, hS, _⟩ := id hF
  obtain ⟨u, o, U, hu, ho, hC, hD, hV⟩ := hU
  have h8 := hA.1
  have h61 := hS.1
  have hdq := pt_dq_lt
  have hD1 := kc_draw
  have hD2 := pq_drawQ
  generalize pt_dx = dx at hD1 hD2
  generalize pt_dq = dq at hD1 hD2 hdq
  unfold f_X11_drawn
  rcases pk_rng a1 1 60 (by omega) (by omega) with ⟨n, n1, n2, rfl⟩ | h
  · obtain ⟨I1, e1, q1, p1, f1, q26⟩ := kc_begin hA hP hQ
    obtain ⟨I2, e2, q2, f2⟩ := kc_draws hdq hD1 p1 q1 hA hS a2 n2
    rw [if_neg (show ¬ nI n < 1 from nI_nlt (b := 1) n1 (by omega)), if_pos (show nI n ≤ 60 from nI_le (b := 60) n2 (by omega)), e1]
    simp only [Option.bind_some]
    rw [e2]
    simp only [Option.bind_some]
    have fx : ∀ o k, (o < 33 ∨ 39 < o) → I2 o k = I o k := fun o k ho => by rw [f2 o k ho, f1 o k (by omega)]
    by_cases hz : T 61 = 400
    · rw [show min n (400 - T 61) = 0 by omega, if_pos (show nI 0 ≤ 0 by decide)]
      have R2 : pp_R (bm_uI I2 164 0 0) T := pr_164 (fun k hk => by rw [fx 166 k (by omega)]; exact hR k hk)
      obtain ⟨I5, e5, r1, r4⟩ := pq_draws hdq hD2 R2 hA hS a2 n2
      rw [show min n (400 - T 61) = 0 by omega] at e5 r1
      refine ⟨_, _, I5, rfl, ?_, ?_⟩
      · unfold f_X12_drawn
        rw [show f_X12_isIn (nI n) 1 60 = true from pq_rngT (lo := 1) (hi := 60) (by omega) n1 n2, R2 61 (by omega), hz, if_pos rfl, if_pos (show (400 : Int32) ≤ nI 400 by decide), e5]
        rfl
      · refine iv_act (T2 := T) hF hG0 hG1 hT hM hK (fun c k a1 a2 a3 a4 a5 a6 => by rw [r4 c k a2 a3 (by omega), pn_uI_off (by omega), fx c k (by omega)]) (te_refl T) r1 (ps_congr (fun k => by rw [r4 26 k (by omega) (by omega) (by omega), pn_uI_ne (by omega), fx 26 k (by omega)]) (fun c k _ _ => by rw [r4 c k (by omega) (by omega) (by omega), pn_uI_ne (by omega), fx c k (by omega)]) hQ) hS ⟨u, o, U, hu, ho, pC_congr (fun c k _ _ => by rw [r4 c k (by omega) (by omega) (by omega), pn_uI_ne (by omega), fx c k (by omega)]) hC, pD_congr (by rw [r4 164 24 (by omega) (by omega) (by omega), pn_uI_ne2 (by omega), fx 164 24 (by omega)]) (fun k => by rw [r4 172 k (by omega) (by omega) (by omega), pn_uI_ne (by omega), fx 172 k (by omega)]) hD, hV⟩
    · rw [if_neg (nI_nle (by omega) (by omega))]
      have eA := te_dh (dx := dx) (dq := dq) a2 T (min n (400 - T 61))
      obtain ⟨I3, e3, c1, c2, f3⟩ := kc_settle (I := I2) h8 (by rw [eA 0 (by omega)]; exact h8) hu ho (pC_congr (fun c k _ _ => fx c k (by omega)) hC) (ps_congr (fun k => fx 26 k (by omega)) (fun c k _ _ => fx c k (by omega)) hQ) q2
      have c3 : cf_a I I3 := fun c k hc => by rw [f3 c k (by omega), fx c k (by omega)]
      rw [e3]
      have R3 : pp_R (bm_uI I3 164 0 0) T := pr_164 (fun k hk => by rw [c3 166 k (by omega)]; exact hR k hk)
      have D3 : pp_D (bm_uI I3 164 0 0) u U := pD_congr (by rw [pn_uI_ne2 (by omega)]; exact c3 164 24 (by omega)) (fun k => by rw [pn_uI_ne (by omega)]; exact c3 172 k (by omega)) hD
      obtain ⟨I4, e4, r2, r3⟩ := pq_keep R3 hu D3
      obtain ⟨I5, e5, r1, r4⟩ := pq_draws hdq hD2 (I := I4) (fun k hk => by rw [r3 166 k (by omega) (by omega)]; exact R3 k hk) hA hS a2 n2
      refine ⟨_, _, I5, rfl, ?_, iv_done hF hG0 hG1 hT hM hK hu ho hV eA (vs_dh (dx := dx) hdq hA hS (by omega)) c1 c2 c3 r1 r2 r3 r4⟩
      unfold f_X12_drawn
      rw [show f_X12_isIn (nI n) 1 60 = true from pq_rngT (lo := 1) (hi := 60) (by omega) n1 n2, R3 61 (by omega), if_pos rfl, if_neg (show ¬ (400 : Int32) ≤ nI (T 61) from nI_ge (b := 400) (by omega) (by omega)), e4]
      simp only [Option.bind_some]
      rw [e5]; rfl
  · have hc : ∀ (x : Option (Int32 × bm_TI)), (if a1 < 1 then some (-1, I) else if a1 ≤ 60 then x else some (-1, I)) = some (-1, I) := fun x => by
      rcases h with h | h
      · rw [if_pos (show a1 < 1 from h)]
      · by_cases h1 : a1 < 1
        · rw [if_pos h1]
        · rw [if_neg h1, if_neg (show ¬ a1 ≤ 60 by rw [Int32.not_le]; exact h)]
    rw [hc]
    refine ⟨_, _, bm_uI I 164 0 0, rfl, ?_, iv_q hI⟩
    unfold f_X12_drawn
    rw [show f_X12_isIn a1 1 60 = false from pq_rngF (lo := 1) (hi := 60) h]; rfl
theorem e_undo (hI : bm_Inv I J W) : ∃ v I1 I2, f_X11_undo I = some (v, I1) ∧ f_X12_undo I1 = some (v, I2) ∧ bm_Inv I2 J W := by
  obtain ⟨T, S, hF, hU, hG0, hG1, hT, hM, hK⟩ := id hI
  obtain ⟨hR, _, hP, hQ, _, _, hA, hS, _⟩ := id hF
  obtain ⟨u, o, U, hu, ho, hC, hD, hV⟩ := hU
  have h8 := hA.1
  obtain ⟨c1, c2, c3⟩ := hC
  obtain ⟨d1, d2⟩ := hD
  unfold f_X11_undo f_X4_bringBack
  rw [c2]
  by_cases hz : u = 0
  · subst hz
    rw [if_pos (show nI 0 = 0 from rfl)]
    refine ⟨-1, I, bm_uI I 164 0 0, rfl, ?_, iv_q hI⟩
    unfold f_X12_undo
    rw [pn_uI_ne2 (by omega), d1]; rfl
  · have hm : (o + (u - 1)) % 8 < 8 := Nat.mod_lt _ (by omega)
    have hv := hV (u - 1) (by omega)
    have g0 : (U (u - 1)) 0 ≤ 8 := by rw [hv.2 0 (by omega)]; exact h8
    obtain ⟨I1, e1, q1, f1⟩ := kc_copy (I := bm_uI I 40 2 (nI (u - 1))) (T := U (u - 1)) (a := 26) (b := 42 + 7 * ((o + (u - 1)) % 8)) (by omega) g0 (ps_congr (fun k => pn_uI_ne (by omega)) (fun c k _ _ => pn_uI_ne (by omega)) (c3 (u - 1) (by omega)))
    have x1 : bm_uI I 40 2 (nI (u - 1)) 40 1 = nI o := by rw [pn_uI_ne2 (by omega)]; exact c1
    have x2 : bm_uI I 40 2 (nI (u - 1)) 40 2 = nI (u - 1) := pn_uI_hit rfl
    rw [if_neg (nI_ne0 (by omega) (by omega)), show nI u - 1 = nI (u - 1) from pn_pred (by omega), x1, x2, nI_add, show (8 : Int32) = nI 8 from rfl, pn_rem (by omega) (by omega) (by omega), if_pos (bm_ixk hm (by omega)), nI_clamp (by omega), e1]
    simp only [Option.bind_some]
    have y2 : I1 40 2 = nI (u - 1) := by rw [f1 40 2 (by omega)]; exact x2
    rw [y2]
    have fa : ∀ c k, (c < 26 ∨ 31 < c) → (c ≠ 40 ∨ k ≠ 2) → I1 c k = I c k := fun c k a b => by rw [f1 c k (by omega), pn_uI_off b]
    have z24 : bm_uI (bm_uI I1 164 0 0) 164 24 (nI (u - 1)) 164 24 = nI (u - 1) := pn_uI_hit rfl
    obtain ⟨I5, e5, r1, r4⟩ := pq_undo_l (I := bm_uI (bm_uI I1 164 0 0) 164 24 (nI (u - 1))) (V := U (u - 1)) (u := u - 1) (by omega) z24 (fun k hk => by rw [pn_uI_ne (by omega), pn_uI_ne (by omega), fa 172 _ (by omega) (by omega)]; exact d2 (u - 1) (by omega) k hk)
    have fb : ∀ c k, (c < 26 ∨ 31 < c) → (c ≠ 40 ∨ k ≠ 2) → (c ≠ 166 ∨ k < 61 ∨ 106 ≤ k) → (c ≠ 164 ∨ (k ≠ 0 ∧ k ≠ 24)) → I5 c k = I c k := fun c k a1 a2 a3 a4 => by rw [r4 c k a3, pn_uI_off (by omega), pn_uI_off (by omega), fa c k a1 a2]
    refine ⟨_, _, I5, rfl, ?_, ?_⟩
    · unfold f_X12_undo
      rw [pn_uI_ne2 (by omega), fa 164 24 (by omega) (by omega), d1, if_neg (nI_ne0 (by omega) (by omega)), show nI u - 1 = nI (u - 1) from pn_pred (by omega), e5]
      simp only [Option.bind_some]
      rw [r4 164 24 (by omega), z24]
    · have eb : pt_eA (U (u - 1)) T := fun k hk => (hv.2 k hk).symm
      refine iv_act (T2 := U (u - 1)) hF hG0 hG1 hT hM hK (fun c k a1 a2 a3 a4 a5 a6 => fb c k (by omega) (by omega) a2 (by omega)) hv.2 (pr_mix hR hv.2 r1 (fun k hk => fb 166 k (by omega) (by omega) (by omega) (by omega))) ?_ hv.1 ⟨u - 1, o, U, by omega, ho, ⟨?_, ?_, fun i hi => ?_⟩, ⟨?_, fun i hi k hk => ?_⟩, fun i hi => ?_⟩
      · exact ps_congr (I := I1) (fun k => by rw [r4 26 k (by omega), pn_uI_ne (by omega), pn_uI_ne (by omega)]) (fun c k _ _ => by rw [r4 c k (by omega), pn_uI_ne (by omega), pn_uI_ne (by omega)]) q1
      · rw [fb 40 1 (by omega) (by omega) (by omega) (by omega)]; exact c1
      · rw [r4 40 2 (by omega), pn_uI_ne (by omega), pn_uI_ne (by omega)]; exact y2
      · exact ps_congr (fun k => fb _ k (by omega) (by omega) (by omega) (by omega)) (fun c k _ _ => fb c k (by omega) (by omega) (by omega) (by omega)) (c3 i (by omega))
      · rw [r4 164 24 (by omega)]; exact z24
      · rw [fb 172 _ (by omega) (by omega) (by omega) (by omega)]; exact d2 i (by omega) k hk
      · have := hV i (by omega)
        exact ⟨this.1, te_trans eb this.2⟩
end EB
