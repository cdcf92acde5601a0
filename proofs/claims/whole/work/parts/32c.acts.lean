/-! acts -/
theorem pC_congr {I I' : bm_TI} {u o : Nat} {U : Nat → pt_T} (h : ∀ c k, 40 ≤ c → c ≤ 97 → I' c k = I c k) (hC : pp_C I u o U) : pp_C I' u o U := by
  obtain ⟨c1, c2, c3⟩ := hC
  refine ⟨?_, ?_, fun i hi => ?_⟩
  · rw [h 40 1 (by omega) (by omega)]; exact c1
  · rw [h 40 2 (by omega) (by omega)]; exact c2
  · exact ps_congr (fun k => h _ k (by omega) (by omega)) (fun c k _ _ => h c k (by omega) (by omega)) (c3 i hi)
theorem pD_congr {I I' : bm_TI} {u : Nat} {U : Nat → pt_T} (h1 : I' 164 24 = I 164 24) (h2 : ∀ k, I' 172 k = I 172 k) (hD : pp_D I u U) : pp_D I' u U := by
  obtain ⟨d1, d2⟩ := hD
  refine ⟨?_, fun i hi k hk => ?_⟩
  · rw [h1]; exact d1
  · rw [h2]; exact d2 i hi k hk
theorem kc_settle {I : bm_TI} {T T2 : pt_T} {u o : Nat} {U : Nat → pt_T} (h8 : T 0 ≤ 8) (h82 : T2 0 ≤ 8) (hu : u ≤ 8) (ho : o < 8) (hC : pp_C I u o U) (hQ : pp_S I 26 T) (hQ3 : pp_S I 33 T2) : ∃ I', f_X11_settleTrial I = some I' ∧ pp_S I' 26 T2 ∧ pp_C I' (pt_ku u) (pt_ko u o) (pt_kU u U T) ∧ ∀ c k, (c < 26 ∨ (31 < c ∧ c < 40) ∨ 97 < c) → I' c k = I c k := by
  obtain ⟨I1, e1, c1, f1⟩ := kc_keep hu ho h8 hC hQ
  obtain ⟨I2, e2, q2, f2⟩ := kc_copy (I := I1) (T := T2) (a := 26) (b := 33) (by omega) h82 (ps_congr (fun k => f1 33 k (by omega)) (fun c k _ _ => f1 c k (by omega)) hQ3)
  refine ⟨I2, ?_, q2, pC_congr (fun c k _ _ => f2 c k (by omega)) c1, fun c k hc => ?_⟩
  · unfold f_X11_settleTrial
    rw [e1]
    simp only [Option.bind_some]
    rw [e2]; rfl
  · rw [f2 c k (by omega), f1 c k (by omega)]
theorem pt_ku_le (u : Nat) (h : u ≤ 8) : pt_ku u ≤ 8 := by unfold pt_ku; split <;> omega
theorem pt_ko_lt (u o : Nat) (h : o < 8) : pt_ko u o < 8 := by unfold pt_ko; split <;> omega
theorem pt_kU_V {u : Nat} {U : Nat → pt_T} {T T2 : pt_T} (hu : u ≤ 8) (hS : pt_VS T) (e : pt_eA T T2) (h : ∀ i, i < u → pt_VS (U i) ∧ pt_eA T (U i)) : ∀ i, i < pt_ku u → pt_VS (pt_kU u U T i) ∧ pt_eA T2 (pt_kU u U T i) := by
  have eb : pt_eA T2 T := fun k hk => (e k hk).symm
  intro i hi
  unfold pt_ku at hi
  unfold pt_kU
  by_cases h8 : u < 8
  · rw [if_pos h8] at hi ⊢
    by_cases e2 : i = u
    · simp only [e2, ↓reduceIte]; exact ⟨hS, eb⟩
    · simp only [e2, ↓reduceIte]
      have := h i (by omega)
      exact ⟨this.1, te_trans eb this.2⟩
  · rw [if_neg h8] at hi ⊢
    by_cases e2 : i = 7
    · simp only [e2, ↓reduceIte]; exact ⟨hS, eb⟩
    · simp only [e2, ↓reduceIte]
      have := h (i + 1) (by omega)
      exact ⟨this.1, te_trans eb this.2⟩
/-- what the class has changed when an act was done -/
def cf_a (I I' : bm_TI) : Prop := ∀ c k, (c < 26 ∨ 97 < c) → I' c k = I c k
theorem iv_done {I I3 I4 I5 : bm_TI} {J : bm_TJ} {W : bm_TR} {T S T2 : pt_T} {u o : Nat} {U : Nat → pt_T} (hF : iv_F I J W 4 26 151 (I 166) (J 169) T S) (hG0 : iv_G I J W 0) (hG1 : iv_G I J W 1) (hT : iv_T I) (hM : iv_M I) (hK : iv_K J) (hu : u ≤ 8) (ho : o < 8) (hV : ∀ i, i < u → pt_VS (U i) ∧ pt_eA T (U i)) (e : pt_eA T T2) (hS2 : pt_VS T2) (c1 : pp_S I3 26 T2) (c2 : pp_C I3 (pt_ku u) (pt_ko u o) (pt_kU u U T)) (c3 : cf_a I I3) (r1 : pp_R I5 T2) (r2 : pp_D I4 (pt_ku u) (pt_kU u U T)) (r3 : ∀ o k, o ≠ 172 → (o ≠ 164 ∨ k ≠ 24) → I4 o k = bm_uI I3 164 0 0 o k) (r4 : rf_d I4 I5) : bm_Inv I5 J W := by
  have f : ∀ c k, (c ≠ 166 ∨ k < 61 ∨ 106 ≤ k) → c ≠ 171 → c ≠ 172 → (c ≠ 164 ∨ (k ≠ 0 ∧ k ≠ 24 ∧ k ≠ 33)) → I5 c k = I3 c k := fun c k a1 a2 a3 a4 => by
    rw [r4 c k a1 a2 (by omega), r3 c k a3 (by omega), pn_uI_off (by omega)]
  refine iv_act (T2 := T2) hF hG0 hG1 hT hM hK (fun c k a1 a2 a3 a4 a5 a6 => by rw [f c k a2 a3 a4 a6, c3 c k a1]) e r1 (ps_congr (fun k => f 26 k (by omega) (by omega) (by omega) (by omega)) (fun c k _ _ => f c k (by omega) (by omega) (by omega) (by omega)) c1) hS2 ⟨_, _, _, pt_ku_le u hu, pt_ko_lt u o ho, pC_congr (fun c k _ _ => f c k (by omega) (by omega) (by omega) (by omega)) c2, pD_congr (r4 164 24 (by omega) (by omega) (by omega)) (fun k => r4 172 k (by omega) (by omega) (by omega)) r2, pt_kU_V hu hF.2.2.2.2.2.2.2.1 e hV⟩
theorem lv_0 (I : bm_TI) (x y : Int32) : f_X8_live I 0 x y = f_X8_liftBy I x y := by
  unfold f_X8_live; rw [if_pos rfl]; cases f_X8_liftBy I x y <;> rfl
theorem lv_1 (I : bm_TI) (x y : Int32) : f_X8_live I 1 x y = f_X8_giveBy I x y := by
  unfold f_X8_live; rw [if_neg (by decide), if_pos rfl]; cases f_X8_giveBy I x y <;> rfl
theorem lv_2 (I : bm_TI) (x y : Int32) : f_X8_live I 2 x y = f_X8_sleepBy I x := by
  unfold f_X8_live; rw [if_neg (by decide), if_neg (by decide), if_pos rfl]; cases f_X8_sleepBy I x <;> rfl
theorem lv_3 (I : bm_TI) (x y : Int32) : f_X8_live I 3 x y = f_X8_wakeBy I x := by
  unfold f_X8_live; rw [if_neg (by decide), if_neg (by decide), if_neg (by decide), if_pos rfl]; cases f_X8_wakeBy I x <;> rfl
theorem lv_4 (I : bm_TI) (x y : Int32) : f_X8_live I 4 x y = f_X8_sootBy I x := by
  unfold f_X8_live; rw [if_neg (by decide), if_neg (by decide), if_neg (by decide), if_neg (by decide), if_pos rfl]; cases f_X8_sootBy I x <;> rfl
theorem lv_5 (I : bm_TI) (x y : Int32) : f_X8_live I 5 x y = f_X8_goBy I x y := by
  unfold f_X8_live; rw [if_neg (by decide), if_neg (by decide), if_neg (by decide), if_neg (by decide), if_neg (by decide), if_pos rfl]; cases f_X8_goBy I x y <;> rfl
section AC
variable {I : bm_TI} {T : pt_T}
/-- the trial begins as it is now -/
theorem kc_begin (hA : pt_VA T) (hP : pp_A I 4 T) (hQ : pp_S I 26 T) : ∃ I1, f_X8_copyFrom I 33 26 = some I1 ∧ pp_S I1 33 T ∧ pp_A I1 4 T ∧ (∀ o k, (o < 33 ∨ 38 < o) → I1 o k = I o k) ∧ pp_S I1 26 T := by
  obtain ⟨I1, e1, q1, f1⟩ := kc_copy (I := I) (T := T) (a := 33) (b := 26) (by omega) hA.1 hQ
  exact ⟨I1, e1, q1, pa_congr (fun o k _ _ => f1 o k (by omega)) hP, f1, ps_congr (fun k => f1 26 k (by omega)) (fun c k _ _ => f1 c k (by omega)) hQ⟩
/-- not done -/
theorem kc_act1 (hA : pt_VA T) (hP : pp_A I 4 T) (hQ : pp_S I 26 T) {v x y : Int32} (h : ∀ I1, pp_A I1 4 T → pp_S I1 33 T → ∃ I2, f_X8_live I1 v x y = some (1, I2) ∧ cf_d I1 I2) : ∃ I3, f_X11_act I v x y = some (1, I3) ∧ ∀ o k, (o < 33 ∨ 39 < o) → I3 o k = I o k := by
  obtain ⟨I1, e1, q1, p1, f1, _⟩ := kc_begin hA hP hQ
  obtain ⟨I2, e2, f2⟩ := h I1 p1 q1
  refine ⟨I2, ?_, fun o k ho => by rw [f2 o k ho, f1 o k (by omega)]⟩
  unfold f_X11_act
  rw [e1]
  simp only [Option.bind_some]
  rw [e2]; rfl
/-- done -/
theorem kc_act0 {T2 : pt_T} {u o : Nat} {U : Nat → pt_T} (hA : pt_VA T) (hP : pp_A I 4 T) (hQ : pp_S I 26 T) (hu : u ≤ 8) (ho : o < 8) (hC : pp_C I u o U) (e : pt_eA T T2) {v x y : Int32} (h : ∀ I1, pp_A I1 4 T → pp_S I1 33 T → ∃ I2, f_X8_live I1 v x y = some (0, I2) ∧ cf_d I1 I2 ∧ pp_S I2 33 T2) : ∃ I3, f_X11_act I v x y = some (0, I3) ∧ pp_S I3 26 T2 ∧ pp_C I3 (pt_ku u) (pt_ko u o) (pt_kU u U T) ∧ cf_a I I3 := by
  obtain ⟨I1, e1, q1, p1, f1, q26⟩ := kc_begin hA hP hQ
  obtain ⟨I2, e2, f2, q2⟩ := h I1 p1 q1
  obtain ⟨I3, e3, q3, c3, f3⟩ := kc_settle (I := I2) hA.1 (by rw [e 0 (by omega)]; exact hA.1) hu ho (pC_congr (fun c k _ _ => by rw [f2 c k (by omega), f1 c k (by omega)]) hC) (ps_congr (fun k => f2 26 k (by omega)) (fun c k _ _ => f2 c k (by omega)) q26) q2
  refine ⟨I3, ?_, q3, c3, fun c k hc => by rw [f3 c k (by omega), f2 c k (by omega), f1 c k (by omega)]⟩
  unfold f_X11_act
  rw [e1]
  simp only [Option.bind_some]
  rw [e2]
  simp only [Option.bind_some, ↓reduceIte]
  rw [e3]; rfl
end AC
/-- within lo to hi, or not -/
theorem pk_rng (x : Int32) (lo hi : Nat) (hh : hi < 2 ^ 31) (hl : lo ≤ hi) : (∃ l, lo ≤ l ∧ l ≤ hi ∧ x = nI l) ∨ (x < nI lo ∨ nI hi < x) := by
  by_cases h1 : x < nI lo
  · exact Or.inr (Or.inl h1)
  · by_cases h2 : nI hi < x
    · exact Or.inr (Or.inr h2)
    · rw [Int32.lt_iff_toInt_lt] at h1 h2
      rw [nI_toInt (by omega)] at h1 h2
      have h0 : ¬ x < 0 := by
        rw [Int32.lt_iff_toInt_lt]
        show ¬ x.toInt < 0
        omega
      obtain ⟨j, hj, rfl⟩ := nI_of h0
      rw [nI_toInt hj] at h1 h2
      exact Or.inl ⟨j, by omega, by omega, rfl⟩
theorem pq_rngT {l lo hi : Nat} (hh : hi < 2 ^ 31) (h1 : lo ≤ l) (h2 : l ≤ hi) : f_X12_isIn (nI l) (nI lo) (nI hi) = true := by
  rw [pq_inN (by omega) (by omega) (by omega), decide_eq_true h1, decide_eq_true h2]; rfl
theorem pq_rngF {x : Int32} {lo hi : Nat} (h : x < nI lo ∨ nI hi < x) : f_X12_isIn x (nI lo) (nI hi) = false := by
  unfold f_X12_isIn
  by_cases h1 : x < nI lo
  · rw [if_pos h1]
  · rw [if_neg h1, if_pos (h.resolve_left h1)]
theorem kc_isLiftT {l : Nat} (h1 : 1 ≤ l) (h2 : l ≤ 3) : f_X11_isLift (nI l) = true := pq_rngT (lo := 1) (hi := 3) (by omega) h1 h2
theorem kc_isLiftF {x : Int32} (h : x < nI 1 ∨ nI 3 < x) : f_X11_isLift x = false := pq_rngF (lo := 1) (hi := 3) h
section EA
variable {I : bm_TI} {J : bm_TJ} {W : bm_TR}
/-- behind a trial -/
theorem iv_tried {I1 : bm_TI} (hI : bm_Inv I J W) (f : ∀ o k, (o < 33 ∨ 39 < o) → I1 o k = I o k) : bm_Inv (bm_uI I1 164 0 0) J W := iv_q (iv_same hI (fun o k a _ _ _ => f o k (by omega)))
theorem e_lift (hI : bm_Inv I J W) : ∀ a1 a2 : Int32, ∃ v I1 I2, f_X11_lift I a1 a2 = some (v, I1) ∧ f_X12_lift I1 a1 a2 = some (v, I2) ∧ bm_Inv I2 J W := by
  intro a1 a2
  obtain ⟨T, S, hF, hU, hG0, hG1, hT, hM, hK⟩ := id hI
  obtain ⟨hR, _, hP, hQ, _, _, hA, hS, _⟩ := id hF
  obtain ⟨u, o, U, hu, ho, hC, hD, hV⟩ := hU
  have h8 := hA.1
  have R0 : pp_R (bm_uI I 164 0 0) T := pr_164 hR
  unfold f_X11_lift
  rcases pk_ix a1 (n := T 0) (by omega) with h | h | ⟨m, hm, rfl⟩
  · rw [kc_isManF hP (Or.inl h)]
    refine ⟨_, _, bm_uI I 164 0 0, rfl, ?_, iv_q hI⟩
    unfold f_X12_lift
    rw [pq_isManF R0 hA (Or.inl h)]; rfl
  · rw [kc_isManF hP (Or.inr h)]
    refine ⟨_, _, bm_uI I 164 0 0, rfl, ?_, iv_q hI⟩
    unfold f_X12_lift
    rw [pq_isManF R0 hA (Or.inr h)]; rfl
  rw [kc_isManT hP hA hm]
  simp only [Option.bind_some, ↓reduceIte]
  rcases pk_rng a2 1 3 (by omega) (by omega) with ⟨l, l1, l2, rfl⟩ | h
  · rw [kc_isLiftT l1 l2]
    simp only [↓reduceIte]
    by_cases hb : pt_brow T m = 0
    · obtain ⟨I1, e1, f1⟩ := kc_act1 hA hP hQ (v := 0) (x := nI m) (y := nI l) (fun I1 p1 q1 => ⟨I1, by rw [lv_0]; exact kc_liftBy0 p1 q1 hA hS _ hm hb, cd_refl _⟩)
      rw [e1]
      refine ⟨_, _, bm_uI I1 164 0 0, rfl, ?_, iv_tried hI f1⟩
      have R1 : pp_R (bm_uI I1 164 0 0) T := pr_164 (fun k hk => by rw [f1 166 k (by omega)]; exact hR k hk)
      unfold f_X12_lift
      rw [pq_isManT R1 hA hm, show f_X12_isIn (nI l) 1 3 = true from pq_rngT (lo := 1) (hi := 3) (by omega) l1 l2, pq_brow R1 hA hS hm, hb]
      rfl
    · obtain ⟨I3, e3, c1, c2, c3⟩ := kc_act0 hA hP hQ hu ho hC (te_lift T m l) (v := 0) (x := nI m) (y := nI l) (fun I1 p1 q1 => by
        obtain ⟨I2, e2, q2, f2⟩ := kc_liftBy p1 q1 hA hS hm l2 hb
        exact ⟨I2, by rw [lv_0]; exact e2, cd_r f2, q2⟩)
      rw [e3]
      have R3 : pp_R (bm_uI I3 164 0 0) T := pr_164 (fun k hk => by rw [c3 166 k (by omega)]; exact hR k hk)
      have D3 : pp_D (bm_uI I3 164 0 0) u U := pD_congr (by rw [pn_uI_ne2 (by omega)]; exact c3 164 24 (by omega)) (fun k => by rw [pn_uI_ne (by omega)]; exact c3 172 k (by omega)) hD
      obtain ⟨I4, e4, r2, r3⟩ := pq_keep R3 hu D3
      obtain ⟨I5, e5, r1, r4⟩ := pq_lifts (I := I4) (fun k hk => by rw [r3 166 k (by omega) (by omega)]; exact R3 k hk) hA hS hm l2
      refine ⟨_, _, I5, rfl, ?_, iv_done hF hG0 hG1 hT hM hK hu ho hV (te_lift T m l) (vs_lift hA hS l2) c1 c2 c3 r1 r2 r3 (rd_r r4)⟩
      unfold f_X12_lift
      rw [pq_isManT R3 hA hm, show f_X12_isIn (nI l) 1 3 = true from pq_rngT (lo := 1) (hi := 3) (by omega) l1 l2, pq_brow R3 hA hS hm]
      have hbl := pt_brow_le hA hm
      simp only [Option.bind_some, ↓reduceIte]
      rw [if_neg (nI_ne0 (by omega) (by omega)), e4]
      simp only [Option.bind_some]
      rw [e5]; rfl
  · rw [kc_isLiftF h]
    refine ⟨_, _, bm_uI I 164 0 0, rfl, ?_, iv_q hI⟩
    unfold f_X12_lift
    rw [pq_isManT R0 hA hm, show f_X12_isIn a2 1 3 = false from pq_rngF (lo := 1) (hi := 3) h]; rfl
theorem e_give (hI : bm_Inv I J W) : ∀ a1 a2 : Int32, ∃ v I1 I2, f_X11_give I a1 a2 = some (v, I1) ∧ f_X12_give I1 a1 a2 = some (v, I2) ∧ bm_Inv I2 J W := by
  intro a1 a2
  obtain ⟨T, S, hF, hU, hG0, hG1, hT, hM, hK⟩ := id hI
  obtain ⟨hR, _, hP, hQ, _, _, hA, hS, _⟩ := id hF
  obtain ⟨u, o, U, hu, ho, hC, hD, hV⟩ := hU
  have h8 := hA.1
  have h7 := hA.2.1
  have R0 : pp_R (bm_uI I 164 0 0) T := pr_164 hR
  unfold f_X11_give
  rcases pk_ix a1 (n := T 0) (by omega) with h | h | ⟨m, hm, rfl⟩
  · rw [kc_isManF hP (Or.inl h)]
    refine ⟨_, _, bm_uI I 164 0 0, rfl, ?_, iv_q hI⟩
    unfold f_X12_give
    rw [pq_isManF R0 hA (Or.inl h)]; rfl
  · rw [kc_isManF hP (Or.inr h)]
    refine ⟨_, _, bm_uI I 164 0 0, rfl, ?_, iv_q hI⟩
    unfold f_X12_give
    rw [pq_isManF R0 hA (Or.inr h)]; rfl
  rw [kc_isManT hP hA hm]
  simp only [Option.bind_some, ↓reduceIte]
  rcases pk_ix a2 (n := T 1) (by omega) with h | h | ⟨q, hq, rfl⟩
  · rw [kc_isOrderF hP (Or.inl h)]
    refine ⟨_, _, bm_uI I 164 0 0, rfl, ?_, iv_q hI⟩
    unfold f_X12_give
    rw [pq_isManT R0 hA hm, pq_isOrderF R0 hA (Or.inl h)]; rfl
  · rw [kc_isOrderF hP (Or.inr h)]
    refine ⟨_, _, bm_uI I 164 0 0, rfl, ?_, iv_q hI⟩
    unfold f_X12_give
    rw [pq_isManT R0 hA hm, pq_isOrderF R0 hA (Or.inr h)]; rfl
  rw [kc_isOrderT hP hA hq]
  simp only [Option.bind_some, ↓reduceIte]
  by_cases hb : pt_brow T m = 0
  · obtain ⟨I1, e1, f1⟩ := kc_act1 hA hP hQ (v := 1) (x := nI m) (y := nI q) (fun I1 p1 q1 => ⟨I1, by rw [lv_1]; exact kc_giveBy0 p1 q1 hA hS hm hq hb, cd_refl _⟩)
    rw [e1]
    refine ⟨_, _, bm_uI I1 164 0 0, rfl, ?_, iv_tried hI f1⟩
    have R1 : pp_R (bm_uI I1 164 0 0) T := pr_164 (fun k hk => by rw [f1 166 k (by omega)]; exact hR k hk)
    unfold f_X12_give
    rw [pq_isManT R1 hA hm, pq_isOrderT R1 hA hq, pq_brow R1 hA hS hm, hb]
    rfl
  · obtain ⟨I3, e3, c1, c2, c3⟩ := kc_act0 hA hP hQ hu ho hC (te_give T m q) (v := 1) (x := nI m) (y := nI q) (fun I1 p1 q1 => by
      obtain ⟨I2, e2, q2, f2⟩ := kc_giveBy p1 q1 hA hS hm hq hb
      exact ⟨I2, by rw [lv_1]; exact e2, cd_r f2, q2⟩)
    rw [e3]
    have R3 : pp_R (bm_uI I3 164 0 0) T := pr_164 (fun k hk => by rw [c3 166 k (by omega)]; exact hR k hk)
    have D3 : pp_D (bm_uI I3 164 0 0) u U := pD_congr (by rw [pn_uI_ne2 (by omega)]; exact c3 164 24 (by omega)) (fun k => by rw [pn_uI_ne (by omega)]; exact c3 172 k (by omega)) hD
    obtain ⟨I4, e4, r2, r3⟩ := pq_keep R3 hu D3
    obtain ⟨I5, e5, r1, r4⟩ := pq_gives (I := I4) (fun k hk => by rw [r3 166 k (by omega) (by omega)]; exact R3 k hk) hA hS hm hq
    refine ⟨_, _, I5, rfl, ?_, iv_done hF hG0 hG1 hT hM hK hu ho hV (te_give T m q) (vs_give hA hS hq) c1 c2 c3 r1 r2 r3 (rd_r r4)⟩
    unfold f_X12_give
    rw [pq_isManT R3 hA hm, pq_isOrderT R3 hA hq, pq_brow R3 hA hS hm]
    have hbl := pt_brow_le hA hm
    simp only [Option.bind_some, ↓reduceIte]
    rw [if_neg (nI_ne0 (by omega) (by omega)), e4]
    simp only [Option.bind_some]
    rw [e5]; rfl
theorem e_go (hI : bm_Inv I J W) : ∀ a1 a2 : Int32, ∃ v I1 I2, f_X11_go I a1 a2 = some (v, I1) ∧ f_X12_go I1 a1 a2 = some (v, I2) ∧ bm_Inv I2 J W := by
  intro a1 a2
  obtain ⟨T, S, hF, hU, hG0, hG1, hT, hM, hK⟩ := id hI
  obtain ⟨hR, _, hP, hQ, _, _, hA, hS, _⟩ := id hF
  obtain ⟨u, o, U, hu, ho, hC, hD, hV⟩ := hU
  have h8 := hA.1
  have R0 : pp_R (bm_uI I 164 0 0) T := pr_164 hR
  unfold f_X11_go
  rcases pk_ix a1 (n := T 0) (by omega) with h | h | ⟨m, hm, rfl⟩
  · rw [kc_isManF hP (Or.inl h)]
    refine ⟨_, _, bm_uI I 164 0 0, rfl, ?_, iv_q hI⟩
    unfold f_X12_go
    rw [pq_isManF R0 hA (Or.inl h)]; rfl
  · rw [kc_isManF hP (Or.inr h)]
    refine ⟨_, _, bm_uI I 164 0 0, rfl, ?_, iv_q hI⟩
    unfold f_X12_go
    rw [pq_isManF R0 hA (Or.inr h)]; rfl
  rw [kc_isManT hP hA hm]
  simp only [Option.bind_some, ↓reduceIte]
  rcases pk_ix a2 (n := 4) (by omega) with h | h | ⟨s, hs, rfl⟩
  · rw [if_pos h]
    refine ⟨_, _, bm_uI I 164 0 0, rfl, ?_, iv_q hI⟩
    unfold f_X12_go
    rw [pq_isManT R0 hA hm, show f_X12_isIn a2 0 3 = false from pq_belowF (n := 4) (by omega) (Or.inl h)]; rfl
  · have hc : ∀ (x : Option (Int32 × bm_TI)), (if a2 < 0 then some (-1, I) else if 4 ≤ a2 then some (-1, I) else x) = some (-1, I) := fun x => by
      by_cases h0 : a2 < 0
      · rw [if_pos h0]
      · rw [if_neg h0, if_pos (show (4 : Int32) ≤ a2 from h)]
    rw [hc]
    refine ⟨_, _, bm_uI I 164 0 0, rfl, ?_, iv_q hI⟩
    unfold f_X12_go
    rw [pq_isManT R0 hA hm, show f_X12_isIn a2 0 3 = false from pq_belowF (n := 4) (by omega) (Or.inr h)]; rfl
  rw [if_neg (nI_pos (by omega)), if_neg (show ¬ (4 : Int32) ≤ nI s from nI_ge (b := 4) hs (by omega))]
  by_cases hc : pt_can T m s
  · obtain ⟨I3, e3, c1, c2, c3⟩ := kc_act0 hA hP hQ hu ho hC (te_go T m s) (v := 5) (x := nI m) (y := nI s) (fun I1 p1 q1 => by
      obtain ⟨I2, e2, q2, f2⟩ := (kc_goBy q1 h8 hS hm hs).1 hc
      exact ⟨I2, by rw [lv_5]; exact e2, cd_r f2, q2⟩)
    rw [e3]
    have R3 : pp_R (bm_uI I3 164 0 0) T := pr_164 (fun k hk => by rw [c3 166 k (by omega)]; exact hR k hk)
    have D3 : pp_D (bm_uI I3 164 0 0) u U := pD_congr (by rw [pn_uI_ne2 (by omega)]; exact c3 164 24 (by omega)) (fun k => by rw [pn_uI_ne (by omega)]; exact c3 172 k (by omega)) hD
    obtain ⟨I4, e4, r2, r3⟩ := pq_keep R3 hu D3
    obtain ⟨I5, e5, r1, r4⟩ := pq_goes (I := I4) (fun k hk => by rw [r3 166 k (by omega) (by omega)]; exact R3 k hk) h8 hm hs hc
    refine ⟨_, _, I5, rfl, ?_, iv_done hF hG0 hG1 hT hM hK hu ho hV (te_go T m s) (vs_go hS h8 hm hc) c1 c2 c3 r1 r2 r3 (rd_r r4)⟩
    unfold f_X12_go
    rw [pq_isManT R3 hA hm, show f_X12_isIn (nI s) 0 3 = true from pq_belowT (n := 4) (by omega) hs, (pq_whyGo R3 h8 hS hm hs).1 hc]
    simp only [Option.bind_some, ↓reduceIte]
    rw [if_pos (show nI 0 ≤ 0 by decide), e4]
    simp only [Option.bind_some]
    rw [e5]; rfl
  · obtain ⟨I1, e1, f1⟩ := kc_act1 hA hP hQ (v := 5) (x := nI m) (y := nI s) (fun I1 p1 q1 => ⟨I1, by rw [lv_5]; exact (kc_goBy q1 h8 hS hm hs).2 hc, cd_refl _⟩)
    rw [e1]
    refine ⟨_, _, bm_uI I1 164 0 0, rfl, ?_, iv_tried hI f1⟩
    have R1 : pp_R (bm_uI I1 164 0 0) T := pr_164 (fun k hk => by rw [f1 166 k (by omega)]; exact hR k hk)
    unfold f_X12_go
    rw [pq_isManT R1 hA hm, show f_X12_isIn (nI s) 0 3 = true from pq_belowT (n := 4) (by omega) hs, (pq_whyGo R1 h8 hS hm hs).2 hc]
    rfl
end EA
