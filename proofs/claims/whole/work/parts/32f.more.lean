/-! soon, best, odds -/
/-- the hour at which all have it -/
def pt_sn (T : pt_T) (o all : Nat) (n : Nat) : Bool := decide (pt_havers (pt_hrs T n) (o + 1) &&& all = all)
section SO
variable {I : bm_TI} {T : pt_T}
theorem kc_passHour1 (hP : pp_A I 4 T) (hQ : pp_S I 33 T) (hA : pt_VA T) (hS : pt_VS T) : ∃ I', f_X8_passHours I 1 = some (nI (min 1 (400 - T 61)), I') ∧ pp_S I' 33 (pt_hrs T (min 1 (400 - T 61))) ∧ cf_h I I' := kc_passHours hP hQ hA hS (n := 1) (by omega)
/-- the last hour that is looked at -/
theorem kc_soon_l (hP : pp_A I 4 T) (hQ : pp_S I 33 T) (hA : pt_VA T) (hS : pt_VS T) {o all : Nat} (ho : o < T 1) (hall : all < 256) : ∃ t, f_X11_soon_l55 (nI o) (nI all) 1000 0 I = some t ∧ ∃ I', cf_h I I' ∧ ((∃ n, n ≤ 20 ∧ T 61 + n ≤ 400 ∧ t = .inl (nI n, I') ∧ pt_sn T o all n = true ∧ ∀ j, j < n → pt_sn T o all j = false) ∨ ((t = .inr (.inl I') ∨ t = .inr (.inr I')) ∧ ∀ j, j ≤ 20 → T 61 + j ≤ 400 → pt_sn T o all j = false)) := by
  have h7 := hA.2.1
  have h61 := hS.1
  have h8 := hA.1
  refine pl_from (F := f_X11_soon_l55 (nI o) (nI all)) (n := 21) (fun j I' => pp_S I' 33 (pt_hrs T j) ∧ cf_h I I' ∧ T 61 + j ≤ 401 ∧ (T 61 + j ≤ 400 ∨ j = 0) ∧ ∀ i, i < j → pt_sn T o all i = false) ?_ ?_ 1000 0 I (by omega) (by omega) ⟨hQ, ch_refl I, by omega, Or.inr rfl, fun i hi => by omega⟩
  · intro k I' ⟨a1, a2, a3, a4, a5⟩
    rw [f_X11_soon_l55, if_pos (show (20 : Int32) < nI 21 by decide)]
    exact ⟨_, rfl, I', a2, Or.inr ⟨Or.inr rfl, fun j hj _ => a5 j (by omega)⟩⟩
  · intro k j I' hj ⟨a1, a2, a3, a4, a5⟩
    have eA := te_hrs T j
    have hPj := pa_VA eA hA (pa_fh a2 hP)
    have hVA := va_congr eA hA
    have hVS := vs_hrs hA hS (n := j) (by omega)
    have hh := kc_havers_o hPj a1 hVA hVS (w := o) (by omega)
    have hlt : pt_havers (pt_hrs T j) (o + 1) < 256 := tz_256 (by rw [eA 0 (by omega)]; exact h8)
    have hand : pt_havers (pt_hrs T j) (o + 1) &&& all < 256 := Nat.lt_of_le_of_lt Nat.and_le_left hlt
    obtain ⟨I2, e2, q2, f2⟩ := kc_passHour1 hPj a1 hVA hVS
    rw [pt_hrs_61] at e2 q2
    have g20 : ¬ 20 < j := by omega
    rw [f_X11_soon_l55, hh]
    simp (disch := omega) only [pn_l0, pn_l1, pn_l2, pn_l3, pn_l4, pn_l5, pn_l6, pn_l7, pn_l8, pn_l9, pn_l10, pn_l11, pn_l12, pn_l13, pn_l15, pn_l20, pn_l21, pn_l22, pn_l23, pn_l24, pn_l30, pn_l31, pn_l32, pn_l39, pn_l40, pn_l41, pn_l45, pn_l46, pn_l48, pn_l53, pn_l57, pn_l58, pn_l59, pn_l60, pn_l61, pn_l62, pn_l63, pn_l64, pn_l65, pn_l66, pn_l74, pn_l82, pn_l90, pn_l97, pn_l98, pn_l99, pn_l106, pn_l107, pn_l120, pn_l122, pn_l135, pn_l255, pn_l287, pn_l300, pn_l315, pn_l360, pn_l400, pn_l900, pn_l940, pn_l1000, pn_l1000000, pn_mone, nI_add, pk_mul, nI_clamp, bm_ixk, pn_ltI, pn_leI, pn_eqI, pn_xeq, pn_xeq2, pn_xx, pn_xltI, pn_xleI, pn_xgtI, pn_xgeI, pn_xadd, pn_subx, pn_addx, Option.bind_some, ↓reduceIte, g20, pn_and]
    rw [show f_X8_passHours I' (nI 1) = _ from e2]
    simp (disch := omega) only [pn_l0, pn_l1, pn_l2, pn_l3, pn_l4, pn_l5, pn_l6, pn_l7, pn_l8, pn_l9, pn_l10, pn_l11, pn_l12, pn_l13, pn_l15, pn_l20, pn_l21, pn_l22, pn_l23, pn_l24, pn_l30, pn_l31, pn_l32, pn_l39, pn_l40, pn_l41, pn_l45, pn_l46, pn_l48, pn_l53, pn_l57, pn_l58, pn_l59, pn_l60, pn_l61, pn_l62, pn_l63, pn_l64, pn_l65, pn_l66, pn_l74, pn_l82, pn_l90, pn_l97, pn_l98, pn_l99, pn_l106, pn_l107, pn_l120, pn_l122, pn_l135, pn_l255, pn_l287, pn_l300, pn_l315, pn_l360, pn_l400, pn_l900, pn_l940, pn_l1000, pn_l1000000, pn_mone, nI_add, pk_mul, nI_clamp, bm_ixk, pn_ltI, pn_leI, pn_eqI, pn_xeq, pn_xeq2, pn_xx, pn_xltI, pn_xleI, pn_xgtI, pn_xgeI, pn_xadd, pn_subx, pn_addx, Option.bind_some, ↓reduceIte]
    by_cases hs : pt_havers (pt_hrs T j) (o + 1) &&& all = all
    · left
      simp only [hs, ↓reduceIte]
      exact ⟨_, rfl, I', a2, Or.inl ⟨j, by omega, by omega, rfl, decide_eq_true hs, a5⟩⟩
    · have hf : pt_sn T o all j = false := decide_eq_false hs
      have a6 : ∀ i, i < j + 1 → pt_sn T o all i = false := fun i hi => by
        by_cases e : i = j
        · rw [e]; exact hf
        · exact a5 i (by omega)
      simp only [hs, ↓reduceIte]
      by_cases hz : min 1 (400 - (T 61 + j)) = 0
      · left
        simp only [hz, ↓reduceIte]
        exact ⟨_, rfl, I2, ch_trans a2 f2, Or.inr ⟨Or.inl rfl, fun i hi hi2 => a6 i (by omega)⟩⟩
      · right
        simp only [hz, ↓reduceIte]
        rw [show min 1 (400 - (T 61 + j)) = 1 by omega] at q2
        exact ⟨I2, rfl, q2, ch_trans a2 f2, by omega, by omega, a6⟩
theorem pq_soon_l (hR : pp_R I T) (hA : pt_VA T) (hS : pt_VS T) {o all : Nat} (ho : o < T 1) (hall : all < 256) : ∃ t, f_X12_soon_l53 (nI o) (nI all) 1000 (-1) 0 I = some t ∧ ∃ I' U, rf_h I I' ∧ pp_R I' U ∧ pt_eA T U ∧ ((∃ n, n ≤ 20 ∧ T 61 + n ≤ 400 ∧ (t = .inl (nI n, I') ∨ t = .inr (nI n, I')) ∧ pt_sn T o all n = true ∧ ∀ j, j < n → pt_sn T o all j = false) ∨ ((t = .inl (-1, I') ∨ t = .inr (-1, I')) ∧ ∀ j, j ≤ 20 → T 61 + j ≤ 400 → pt_sn T o all j = false)) := by
  have h7 := hA.2.1
  have h61 := hS.1
  have h8 := hA.1
  have key : ∀ i j k I', j + i = 21 → i < k → pp_R I' (pt_hrs T j) → rf_h I I' → T 61 + j ≤ 400 → (∀ i, i < j → pt_sn T o all i = false) → ∃ t, f_X12_soon_l53 (nI o) (nI all) k (-1) (nI j) I' = some t ∧ ∃ I' U, rf_h I I' ∧ pp_R I' U ∧ pt_eA T U ∧ ((∃ n, n ≤ 20 ∧ T 61 + n ≤ 400 ∧ (t = .inl (nI n, I') ∨ t = .inr (nI n, I')) ∧ pt_sn T o all n = true ∧ ∀ j, j < n → pt_sn T o all j = false) ∨ ((t = .inl (-1, I') ∨ t = .inr (-1, I')) ∧ ∀ j, j ≤ 20 → T 61 + j ≤ 400 → pt_sn T o all j = false)) := by
    intro i
    induction i with
    | zero =>
      intro j k I' hj hk a1 a2 a3 a5
      obtain ⟨k, rfl⟩ : ∃ q, k = q + 1 := ⟨k - 1, by omega⟩
      obtain rfl : j = 21 := by omega
      rw [f_X12_soon_l53, if_pos (show (20 : Int32) < nI 21 by decide)]
      exact ⟨_, rfl, I', _, a2, a1, te_hrs _ _, Or.inr ⟨Or.inr rfl, fun j hj _ => a5 j (by omega)⟩⟩
    | succ i ih =>
      intro j k I' hj hk a1 a2 a3 a5
      obtain ⟨k, rfl⟩ : ∃ q, k = q + 1 := ⟨k - 1, by omega⟩
      have eA := te_hrs T j
      have hVA := va_congr eA hA
      have hVS := vs_hrs hA hS (n := j) (by omega)
      have hh := pq_havers a1 hVA hVS (o := o) (by omega)
      have hlt : pt_havers (pt_hrs T j) (o + 1) < 256 := tz_256 (by rw [eA 0 (by omega)]; exact h8)
      have hand : pt_havers (pt_hrs T j) (o + 1) &&& all < 256 := Nat.lt_of_le_of_lt Nat.and_le_left hlt
      have r61 : I' 166 61 = nI (T 61 + j) := by rw [a1 61 (by omega), pt_hrs_61]
      have g20 : ¬ 20 < j := by omega
      rw [f_X12_soon_l53, hh, r61, if_neg (show ¬ (20 : Int32) < nI j from fun h => g20 ((nI_ltI (a := 20) (by omega) (by omega)).mp h)), if_neg (show ¬ (0 : Int32) ≤ -1 by decide)]
      simp (disch := omega) only [Option.bind_some, pn_l400, pn_l1, nI_add, pn_and, pn_eqI]
      by_cases hs : pt_havers (pt_hrs T j) (o + 1) &&& all = all
      · simp only [hs, ↓reduceIte]
        have good : ∃ n, n ≤ 20 ∧ T 61 + n ≤ 400 ∧ j = n ∧ pt_sn T o all n = true ∧ ∀ j, j < n → pt_sn T o all j = false := ⟨j, by omega, by omega, rfl, decide_eq_true hs, a5⟩
        by_cases hz : T 61 + j = 400
        · simp only [hz, ↓reduceIte]
          exact ⟨_, rfl, I', _, a2, a1, eA, Or.inl ⟨j, by omega, by omega, Or.inl rfl, decide_eq_true hs, a5⟩⟩
        · simp only [hz, ↓reduceIte]
          obtain ⟨I2, e2, r2, f2⟩ := pq_hour a1 hVA hVS (by rw [pt_hrs_61]; omega)
          rw [e2]
          simp only [Option.bind_some]
          obtain ⟨k, rfl⟩ : ∃ q, k = q + 1 := ⟨k - 1, by omega⟩
          have hst : f_X12_soon_l53 (nI o) (nI all) (k + 1) (nI j) (nI (j + 1)) I2 = some (.inr (nI j, I2)) := by
            rw [f_X12_soon_l53]
            by_cases h20 : (20 : Int32) < nI (j + 1)
            · rw [if_pos h20]
            · rw [if_neg h20, if_pos (nI_pos' (by omega))]
          rw [hst]
          exact ⟨_, rfl, I2, _, rh_trans a2 f2, r2, te_trans eA (te_hour _), Or.inl ⟨j, by omega, by omega, Or.inr rfl, decide_eq_true hs, a5⟩⟩
      · have hf : pt_sn T o all j = false := decide_eq_false hs
        have a6 : ∀ i, i < j + 1 → pt_sn T o all i = false := fun i hi => by
          by_cases e : i = j
          · rw [e]; exact hf
          · exact a5 i (by omega)
        simp only [hs, ↓reduceIte]
        by_cases hz : T 61 + j = 400
        · simp only [hz, ↓reduceIte]
          exact ⟨_, rfl, I', _, a2, a1, eA, Or.inr ⟨Or.inl rfl, fun i hi hi2 => a6 i (by omega)⟩⟩
        · simp only [hz, ↓reduceIte]
          obtain ⟨I2, e2, r2, f2⟩ := pq_hour a1 hVA hVS (by rw [pt_hrs_61]; omega)
          rw [e2]
          simp only [Option.bind_some]
          exact ih (j + 1) k I2 (by omega) (by omega) r2 (rh_trans a2 f2) (by omega) a6
  exact key 21 0 1000 I (by omega) (by omega) hR (rh_refl I) (by omega) (fun i hi => by omega)
end SO
section EC
variable {I : bm_TI} {J : bm_TJ} {W : bm_TR}
theorem e_soon (hI : bm_Inv I J W) : ∀ a1 a2 : Int32, ∃ v I1 I2, f_X11_soon I a1 a2 = some (v, I1) ∧ f_X12_soon I1 a1 a2 = some (v, I2) ∧ bm_Inv I2 J W := by
  intro a1 a2
  obtain ⟨T, S, hF, hU, hG0, hG1, hT, hM, hK⟩ := id hI
  obtain ⟨hR, _, hP, hQ, _, _, hA, hS, _⟩ := id hF
  have h8 := hA.1
  have h7 := hA.2.1
  have R0 : pp_R (bm_uI I 164 0 0) T := pr_164 hR
  unfold f_X11_soon
  rcases pk_ix a1 (n := T 0) (by omega) with h | h | ⟨m, hm, rfl⟩
  · rw [kc_isManF hP (Or.inl h)]
    refine ⟨_, _, bm_uI I 164 0 0, rfl, ?_, iv_q hI⟩
    unfold f_X12_soon
    rw [pq_isManF R0 hA (Or.inl h)]; rfl
  · rw [kc_isManF hP (Or.inr h)]
    refine ⟨_, _, bm_uI I 164 0 0, rfl, ?_, iv_q hI⟩
    unfold f_X12_soon
    rw [pq_isManF R0 hA (Or.inr h)]; rfl
  rw [kc_isManT hP hA hm]
  simp only [Option.bind_some, ↓reduceIte]
  rcases pk_ix a2 (n := T 1) (by omega) with h | h | ⟨q, hq, rfl⟩
  · rw [kc_isOrderF hP (Or.inl h)]
    refine ⟨_, _, bm_uI I 164 0 0, rfl, ?_, iv_q hI⟩
    unfold f_X12_soon
    rw [pq_isManT R0 hA hm, pq_isOrderF R0 hA (Or.inl h)]; rfl
  · rw [kc_isOrderF hP (Or.inr h)]
    refine ⟨_, _, bm_uI I 164 0 0, rfl, ?_, iv_q hI⟩
    unfold f_X12_soon
    rw [pq_isManT R0 hA hm, pq_isOrderF R0 hA (Or.inr h)]; rfl
  rw [kc_isOrderT hP hA hq]
  simp only [Option.bind_some, ↓reduceIte]
  obtain ⟨I1, e1, q1, p1, f1, q26⟩ := kc_begin hA hP hQ
  rw [e1]
  simp only [Option.bind_some]
  by_cases hb : pt_brow T m = 0
  · rw [kc_giveBy0 p1 q1 hA hS hm hq hb]
    have f1' : ∀ o k, (o < 33 ∨ 39 < o) → I1 o k = I o k := fun o k ho => f1 o k (by omega)
    refine ⟨_, _, bm_uI I1 164 0 0, rfl, ?_, iv_tried hI f1'⟩
    have R1 : pp_R (bm_uI I1 164 0 0) T := pr_164 (fun k hk => by rw [f1 166 k (by omega)]; exact hR k hk)
    unfold f_X12_soon
    rw [pq_isManT R1 hA hm, pq_isOrderT R1 hA hq, pq_brow R1 hA hS hm, hb]
    rfl
  · have hbl := pt_brow_le hA hm
    have hb0 : ¬ nI (pt_brow T m) = 0 := nI_ne0 (by omega) (by omega)
    obtain ⟨I2, e2, q2, f2⟩ := kc_giveBy p1 q1 hA hS hm hq hb
    rw [e2]
    simp only [Option.bind_some, ↓reduceIte]
    obtain ⟨c, hc⟩ := hA.2.2.2.2.2.2.2.2.2.2.2.1
    have eA := te_give T m q
    have hVA := va_congr eA hA
    have hVS := vs_give hA hS (m := m) hq
    have p2 := pa_fr f2 p1
    have p2' := pa_VA eA hA p2
    rw [kc_allUnder p2 hA hc hm]
    simp only [Option.bind_some]
    have hset : pt_set (T 0) (fun k => c k m) < 256 := tz_256 h8
    obtain ⟨t, e3, I3, f3, ht⟩ := kc_soon_l p2' q2 hVA hVS (o := q) (by rw [eA 1 (by omega)]; exact hq) hset
    rw [e3]
    have fx : ∀ o k, (o < 33 ∨ 39 < o) → I3 o k = I o k := fun o k ho => by rw [f3 o k (by omega), f2 o k (by omega), f1 o k (by omega)]
    have R3 : pp_R (bm_uI I3 164 0 0) T := pr_164 (fun k hk => by rw [fx 166 k (by omega)]; exact hR k hk)
    obtain ⟨I4, e4, b4, f4⟩ := pq_tries R3
    have R4 : pp_R I4 T := fun k hk => by rw [f4 166 k (by omega)]; exact R3 k hk
    obtain ⟨I5, e5, r5, f5⟩ := pq_gives R4 hA hS hm hq
    obtain ⟨t2, e6, I6, U, f6, r6, eU, ht2⟩ := pq_soon_l r5 hVA hVS (o := q) (all := pt_set (T 0) (fun k => c k m)) (by rw [eA 1 (by omega)]; exact hq) hset
    have eC : pt_eA U T := fun k hk => (te_trans eA eU k hk).symm
    obtain ⟨I7, e7, r7, f7⟩ := pq_back r6 eC (fun k hk => by rw [f6 173 k (by omega) (by omega), f5 173 k (by omega)]; exact b4 k hk)
    have ff : rf_t (bm_uI I3 164 0 0) I7 := fun c k a1 a2 a3 a4 => by rw [f7 c k a1, f6 c k a1 a2, f5 c k a1, f4 c k a3]
    have hfin := iv_both hF hU hG0 hG1 hT hM hK fx r7 ff
    have hstart : ∀ v, ((t2 = .inl (v, I6) ∨ t2 = .inr (v, I6)) → f_X12_soon I3 (nI m) (nI q) = some (v, I7)) := by
      intro v hv
      unfold f_X12_soon
      rw [pq_isManT R3 hA hm, pq_isOrderT R3 hA hq, pq_brow R3 hA hS hm]
      simp only [Option.bind_some, ↓reduceIte]
      rw [if_neg hb0, pq_allUnder R3 hA hc hm]
      simp only [Option.bind_some]
      rw [e4]
      simp only [Option.bind_some]
      rw [e5]
      simp only [Option.bind_some]
      rw [e6]
      rcases hv with hv | hv <;> rw [hv] <;> simp only [Option.bind_some] <;> rw [e7] <;> rfl
    rcases ht with ⟨n, n1, n2, n3, n4, n5⟩ | ⟨n3, n5⟩
    · rw [n3]
      refine ⟨_, _, I7, rfl, ?_, hfin⟩
      rcases ht2 with ⟨k, k1, k2, k3, k4, k5⟩ | ⟨k3, k5⟩
      · have : n = k := by
          rcases Nat.lt_trichotomy n k with hlt | heq | hgt
          · rw [k5 n hlt] at n4; cases n4
          · exact heq
          · rw [n5 k hgt] at k4; cases k4
        subst this
        exact hstart _ k3
      · rw [k5 n n1 n2] at n4; cases n4
    · have hk : f_X12_soon I3 (nI m) (nI q) = some (-1, I7) := by
        rcases ht2 with ⟨k, k1, k2, k3, k4, k5⟩ | ⟨k3, k5⟩
        · rw [n5 k k1 k2] at k4; cases k4
        · exact hstart _ k3
      rcases n3 with n3 | n3
      · rw [n3]; exact ⟨_, _, I7, rfl, hk, hfin⟩
      · rw [n3]; exact ⟨_, _, I7, rfl, hk, hfin⟩
theorem pn_pop0 : ∀ s : Nat, s < 256 → (f_J6_bitCount_0f7a4 (nI s) = nI (pt_cnt 8 s.testBit) ∧ f_X12_bits_l4 9 0 (nI s) = some (nI (pt_cnt 8 s.testBit))) := by decide +kernel
theorem kc_pop {s : Nat} (hs : s < 256) : f_J6_bitCount_0f7a4 (nI s) = nI (pt_cnt 8 s.testBit) := (pn_pop0 s hs).1
theorem bits_fuel : ∀ (k d : Nat) (a x v : Int32), f_X12_bits_l4 k a x = some v → f_X12_bits_l4 (k + d) a x = some v := by
  intro k
  induction k with
  | zero => intro d a x v h; cases h
  | succ k ih =>
    intro d a x v h
    rw [f_X12_bits_l4] at h
    rw [show k + 1 + d = (k + d) + 1 by omega, f_X12_bits_l4]
    by_cases hx : x = 0
    · rw [if_pos hx] at h ⊢; exact h
    · rw [if_neg hx] at h ⊢; exact ih d _ _ _ h
theorem pq_pop {s : Nat} (hs : s < 256) : f_X12_bits (nI s) = some (nI (pt_cnt 8 s.testBit)) := by
  unfold f_X12_bits
  rw [show (1000 : Nat) = 9 + 991 from rfl, bits_fuel 9 991 _ _ _ (pn_pop0 s hs).2]
  rfl
/-- the best so far: who and 1, and how many and 1 -/
def pt_best (T : pt_T) (o : Nat) (n : Nat) : Nat × Nat := match n with
  | 0 => (0, 0)
  | k + 1 => if pt_brow T k = 0 then pt_best T o k else if (pt_best T o k).2 ≤ pt_cnt 8 (pt_reach T k o).testBit then (k + 1, pt_cnt 8 (pt_reach T k o).testBit + 1) else pt_best T o k
theorem pt_best_le (T : pt_T) (o n : Nat) : (pt_best T o n).1 ≤ n ∧ (pt_best T o n).2 ≤ 9 := by
  induction n with
  | zero => exact ⟨Nat.le_refl _, Nat.zero_le _⟩
  | succ k ih =>
    unfold pt_best
    have := pt_cnt_le 8 (pt_reach T k o).testBit
    split
    · exact ⟨by omega, ih.2⟩
    · split
      · exact ⟨by omega, by show pt_cnt 8 _ + 1 ≤ 9; omega⟩
      · exact ⟨by omega, ih.2⟩
theorem pt_reach_lt (T : pt_T) (h8 : T 0 ≤ 8) (m o : Nat) : pt_reach T m o < 256 := by
  unfold pt_reach pt_havers
  exact tz_256 (by rw [te_hrs _ _ 0 (by omega), te_give _ _ _ 0 (by omega)]; exact h8)
theorem kc_best_l {T : pt_T} (hA : pt_VA T) (hS : pt_VS T) (hP : pp_A I 4 T) (hQ : pp_S I 26 T) {o : Nat} (ho : o < T 1) : ∃ t, f_X11_best_l17 (nI o) 1000 (-1) (-1) 0 I = some t ∧ (t.1 = pn_x (pt_best T o (T 0)).1 ∧ ∀ c k, (c < 33 ∨ 39 < c) → t.2 c k = I c k) := by
  have h8 := hA.1
  refine pl_rel (σ := Int32 × Int32 × bm_TI) (F := fun k i s => f_X11_best_l17 (nI o) k s.1 s.2.1 i s.2.2) (n := T 0) (fun j s => s.1 = pn_x (pt_best T o j).1 ∧ s.2.1 = pn_x (pt_best T o j).2 ∧ ∀ c k, (c < 33 ∨ 39 < c) → s.2.2 c k = I c k) ?_ ?_ 1000 (-1, -1, I) (by omega) ⟨rfl, rfl, fun _ _ _ => rfl⟩
  · intro k s ⟨a1, a2, a3⟩
    refine ⟨(s.1, s.2.2), ?_, a1, a3⟩
    show f_X11_best_l17 (nI o) (k + 1) s.1 s.2.1 (nI (T 0)) s.2.2 = _
    rw [f_X11_best_l17, a3 4 10 (by omega), pa_men hP, if_pos (Int32.le_refl _)]
  · intro k j s hj ⟨a1, a2, a3⟩
    show ∃ s' : Int32 × Int32 × bm_TI, f_X11_best_l17 (nI o) (k + 1) s.1 s.2.1 (nI j) s.2.2 = f_X11_best_l17 (nI o) k s'.1 s'.2.1 (nI (j + 1)) s'.2.2 ∧ _
    have hP' : pp_A s.2.2 4 T := pa_congr (fun o k _ _ => a3 o k (by omega)) hP
    have hQ' : pp_S s.2.2 26 T := ps_congr (fun k => a3 26 k (by omega)) (fun c k _ _ => a3 c k (by omega)) hQ
    have hle := pt_best_le T o j
    have hpl := pt_cnt_le 8 (pt_reach T j o).testBit
    have hrl := pt_reach_lt T h8 j o
    rw [f_X11_best_l17, a3 4 10 (by omega), pa_men hP, if_neg (nI_ge hj (by omega)), nI_1, pt_best]
    by_cases hb : pt_brow T j = 0
    · obtain ⟨I2, e2, f2⟩ := kc_reachOf0 hA hS hP' hQ' hj ho hb
      rw [e2]
      simp only [Option.bind_some, hb, ↓reduceIte]
      exact ⟨(s.1, s.2.1, I2), rfl, a1, a2, fun c k hc => (f2 c k hc).trans (a3 c k hc)⟩
    · obtain ⟨I2, e2, f2⟩ := kc_reachOf hA hS hP' hQ' hj ho hb
      rw [e2, a2]
      simp only [Option.bind_some, hb, ↓reduceIte]
      rw [if_neg (by rw [pn_neg (by omega)]; exact id), kc_pop hrl]
      simp only [pn_xleI (show (pt_best T o j).2 < 2 ^ 31 by omega) (show pt_cnt 8 (pt_reach T j o).testBit < 2 ^ 31 by omega)]
      by_cases hc : pt_cnt 8 (pt_reach T j o).testBit < (pt_best T o j).2
      · rw [if_pos hc, if_neg (by omega)]
        exact ⟨(s.1, s.2.1, I2), by rw [a2], a1, a2, fun c k hc => (f2 c k hc).trans (a3 c k hc)⟩
      · rw [if_neg hc, if_pos (by omega)]
        exact ⟨(nI j, nI (pt_cnt 8 (pt_reach T j o).testBit), I2), rfl, (pn_xs j).symm, (pn_xs _).symm, fun c k hc => (f2 c k hc).trans (a3 c k hc)⟩
theorem pq_best_l {T : pt_T} (hA : pt_VA T) (hS : pt_VS T) (hR : pp_R I T) {o : Nat} (ho : o < T 1) : ∃ t, f_X12_best_l22 (nI o) 1000 (-1) (-1) 0 I = some t ∧ (t.1 = pn_x (pt_best T o (T 0)).1 ∧ pp_R t.2 T ∧ rf_t I t.2) := by
  have h8 := hA.1
  refine pl_rel (σ := Int32 × Int32 × bm_TI) (F := fun k i s => f_X12_best_l22 (nI o) k s.1 s.2.1 i s.2.2) (n := T 0) (fun j s => s.1 = pn_x (pt_best T o j).1 ∧ s.2.1 = pn_x (pt_best T o j).2 ∧ pp_R s.2.2 T ∧ rf_t I s.2.2) ?_ ?_ 1000 (-1, -1, I) (by omega) ⟨rfl, rfl, hR, fun _ _ _ _ _ _ => rfl⟩
  · intro k s ⟨a1, a2, a3, a4⟩
    refine ⟨(s.1, s.2.2), ?_, a1, a3, a4⟩
    show f_X12_best_l22 (nI o) (k + 1) s.1 s.2.1 (nI (T 0)) s.2.2 = _
    rw [f_X12_best_l22, a3 0 (by omega), if_pos (Int32.le_refl _)]
  · intro k j s hj ⟨a1, a2, a3, a4⟩
    show ∃ s' : Int32 × Int32 × bm_TI, f_X12_best_l22 (nI o) (k + 1) s.1 s.2.1 (nI j) s.2.2 = f_X12_best_l22 (nI o) k s'.1 s'.2.1 (nI (j + 1)) s'.2.2 ∧ _
    have hle := pt_best_le T o j
    have hpl := pt_cnt_le 8 (pt_reach T j o).testBit
    have hrl := pt_reach_lt T h8 j o
    have hbl := pt_brow_le hA hj
    rw [f_X12_best_l22, a3 0 (by omega), if_neg (nI_ge hj (by omega)), nI_1, pt_best, pq_brow a3 hA hS hj]
    simp only [Option.bind_some]
    by_cases hb : pt_brow T j = 0
    · rw [hb, if_pos (show nI 0 = 0 from rfl), if_pos rfl]
      exact ⟨(s.1, s.2.1, s.2.2), rfl, a1, a2, a3, a4⟩
    · obtain ⟨I2, e2, r2, f2⟩ := pq_reachOf a3 hA hS hj ho
      rw [if_neg (nI_ne0 (by omega) (by omega)), if_neg hb, e2]
      simp only [Option.bind_some]
      rw [pq_pop hrl, a2]
      simp only [Option.bind_some, pn_xltI (show (pt_best T o j).2 < 2 ^ 31 by omega) (show pt_cnt 8 (pt_reach T j o).testBit < 2 ^ 31 by omega)]
      have ff : rf_t I I2 := fun c k b1 b2 b3 b4 => by rw [f2 c k b1 b2 b3 b4]; exact a4 c k b1 b2 b3 b4
      by_cases hc : (pt_best T o j).2 ≤ pt_cnt 8 (pt_reach T j o).testBit
      · rw [if_pos hc, if_pos hc]
        exact ⟨(nI j, nI (pt_cnt 8 (pt_reach T j o).testBit), I2), rfl, (pn_xs j).symm, (pn_xs _).symm, r2, ff⟩
      · rw [if_neg hc, if_neg hc]
        exact ⟨(s.1, s.2.1, I2), by rw [a2], a1, a2, r2, ff⟩
theorem e_best (hI : bm_Inv I J W) : ∀ a1 : Int32, ∃ v I1 I2, f_X11_best I a1 = some (v, I1) ∧ f_X12_best I1 a1 = some (v, I2) ∧ bm_Inv I2 J W := by
  intro a1
  obtain ⟨T, S, hF, hU, hG0, hG1, hT, hM, hK⟩ := id hI
  obtain ⟨hR, _, hP, hQ, _, _, hA, hS, _⟩ := id hF
  have h7 := hA.2.1
  have R0 : pp_R (bm_uI I 164 0 0) T := pr_164 hR
  unfold f_X11_best
  rcases pk_ix a1 (n := T 1) (by omega) with h | h | ⟨q, hq, rfl⟩
  · rw [kc_isOrderF hP (Or.inl h)]
    refine ⟨_, _, bm_uI I 164 0 0, rfl, ?_, iv_q hI⟩
    unfold f_X12_best
    rw [pq_isOrderF R0 hA (Or.inl h)]; rfl
  · rw [kc_isOrderF hP (Or.inr h)]
    refine ⟨_, _, bm_uI I 164 0 0, rfl, ?_, iv_q hI⟩
    unfold f_X12_best
    rw [pq_isOrderF R0 hA (Or.inr h)]; rfl
  obtain ⟨t, e1, t1, f1⟩ := kc_best_l hA hS hP hQ hq
  rw [kc_isOrderT hP hA hq]
  simp only [Option.bind_some, ↓reduceIte]
  rw [e1]
  have R1 : pp_R (bm_uI t.2 164 0 0) T := pr_164 (fun k hk => by rw [f1 166 k (by omega)]; exact hR k hk)
  obtain ⟨t2, e2, s1, r2, f2⟩ := pq_best_l hA hS R1 hq
  refine ⟨_, _, t2.2, rfl, ?_, iv_both hF hU hG0 hG1 hT hM hK f1 r2 f2⟩
  show f_X12_best t.2 (nI q) = some (t.1, t2.2)
  unfold f_X12_best
  rw [pq_isOrderT R1 hA hq]
  simp only [Option.bind_some, ↓reduceIte]
  rw [e2, t1, ← s1]; rfl
/-- by how many seeds he has an order -/
def pt_odd (dx : Int32 → Int32) (dq : Int32 → Nat → Nat) (T : pt_T) (m : Nat) (x : Int32) (n : Nat) : Nat := pt_cnt n (fun k => decide (0 < (pt_dh dx dq (x + nI k) T (min 20 (400 - T 61))).2 (90 + m)))
theorem kc_odds_l {dx : Int32 → Int32} {dq : Int32 → Nat → Nat} (hdq : ∀ x n, 0 < n → dq x n < n) (hD : pd_K dx dq) {T : pt_T} (hA : pt_VA T) (hS : pt_VS T) (hP : pp_A I 4 T) (hQ : pp_S I 26 T) {m n : Nat} (hm : m < T 0) (hn : n ≤ 30) (x : Int32) : ∃ t, f_X11_odds_l27 (nI m) (nI n) x 1000 0 0 I = some t ∧ (t.1 = nI (pt_odd dx dq T m x n) ∧ ∀ c k, (c < 33 ∨ 39 < c) → t.2 c k = I c k) := by
  have h8 := hA.1
  have h7 := hA.2.1
  have h61 := hS.1
  refine pl_rel (σ := Int32 × bm_TI) (F := fun k i s => f_X11_odds_l27 (nI m) (nI n) x k s.1 i s.2) (n := n) (fun j s => s.1 = nI (pt_odd dx dq T m x j) ∧ ∀ c k, (c < 33 ∨ 39 < c) → s.2 c k = I c k) ?_ ?_ 1000 (0, I) (by omega) ⟨rfl, fun _ _ _ => rfl⟩
  · intro k s ⟨a1, a3⟩
    refine ⟨(s.1, s.2), ?_, a1, a3⟩
    show f_X11_odds_l27 (nI m) (nI n) x (k + 1) s.1 (nI n) s.2 = _
    rw [f_X11_odds_l27, if_pos (Int32.le_refl _)]
  · intro k j s hj ⟨a1, a3⟩
    show ∃ s' : Int32 × bm_TI, f_X11_odds_l27 (nI m) (nI n) x (k + 1) s.1 (nI j) s.2 = f_X11_odds_l27 (nI m) (nI n) x k s'.1 (nI (j + 1)) s'.2 ∧ _
    have hP' : pp_A s.2 4 T := pa_congr (fun o k _ _ => a3 o k (by omega)) hP
    have hQ' : pp_S s.2 26 T := ps_congr (fun k => a3 26 k (by omega)) (fun c k _ _ => a3 c k (by omega)) hQ
    obtain ⟨I1, e1, q1, p1, f1, _⟩ := kc_begin hA hP' hQ'
    obtain ⟨I2, e2, q2, f2⟩ := kc_draws hdq hD p1 q1 hA hS (x + nI j) (n := 20) (by omega)
    have eA := te_dh (dx := dx) (dq := dq) (x + nI j) T (min 20 (400 - T 61))
    have hV := (vs_dh (dx := dx) hdq (x := x + nI j) hA hS (n := min 20 (400 - T 61)) (by omega)).2.2.2.2 m (by rw [eA 0 (by omega)]; exact hm)
    have hV2 := hV.2.2.2.1
    rw [eA 1 (by omega)] at hV2
    have g := pg_order33 q2 (j := m) (by rw [eA 0 (by omega)]; exact hm)
    have fx : ∀ c k, (c < 33 ∨ 39 < c) → I2 c k = I c k := fun c k hc => by rw [f2 c k hc, f1 c k (by omega)]; exact a3 c k hc
    rw [f_X11_odds_l27, if_neg (nI_ge hj (by omega)), e1]
    simp only [Option.bind_some]
    rw [show f_X8_drawHours I1 20 (x + nI j) = _ from e2]
    simp only [Option.bind_some]
    rw [if_pos (bm_ixk (by omega) (by omega)), nI_clamp (by omega), g, nI_1, a1]
    simp only [pn_xm1 (show (pt_dh dx dq (x + nI j) T (min 20 (400 - T 61))).2 (90 + m) < 2 ^ 31 by omega)]
    by_cases h0 : (pt_dh dx dq (x + nI j) T (min 20 (400 - T 61))).2 (90 + m) = 0
    · rw [if_pos h0]
      refine ⟨(nI (pt_odd dx dq T m x j), I2), rfl, ?_, fx⟩
      show nI _ = nI (pt_cnt j _ + Bool.toNat (decide (0 < (pt_dh dx dq (x + nI j) T (min 20 (400 - T 61))).2 (90 + m))))
      rw [h0]; rfl
    · rw [if_neg h0]
      refine ⟨(nI (pt_odd dx dq T m x j) + 1, I2), rfl, ?_, fx⟩
      show nI _ + 1 = nI (pt_cnt j _ + Bool.toNat (decide _))
      rw [decide_eq_true (show 0 < (pt_dh dx dq (x + nI j) T (min 20 (400 - T 61))).2 (90 + m) by omega), nI_1]; rfl
theorem pq_odds_l {dx : Int32 → Int32} {dq : Int32 → Nat → Nat} (hdq : ∀ x n, 0 < n → dq x n < n) (hD : pd_Q dx dq) {T : pt_T} (hA : pt_VA T) (hS : pt_VS T) (hR : pp_R I T) (hB : ∀ k, k < 45 → I 173 k = nI (T (61 + k))) {m n : Nat} (hm : m < T 0) (hn : n ≤ 30) (x : Int32) : ∃ t, f_X12_odds_l35 (nI m) (nI n) x 1000 0 0 I = some t ∧ (t.1 = nI (pt_odd dx dq T m x n) ∧ pp_R t.2 T ∧ rf_d I t.2) := by
  have h8 := hA.1
  have h7 := hA.2.1
  have h61 := hS.1
  refine pl_rel (σ := Int32 × bm_TI) (F := fun k i s => f_X12_odds_l35 (nI m) (nI n) x k s.1 i s.2) (n := n) (fun j s => s.1 = nI (pt_odd dx dq T m x j) ∧ pp_R s.2 T ∧ rf_d I s.2) ?_ ?_ 1000 (0, I) (by omega) ⟨rfl, hR, rd_refl I⟩
  · intro k s ⟨a1, a2, a3⟩
    refine ⟨(s.1, s.2), ?_, a1, a2, a3⟩
    show f_X12_odds_l35 (nI m) (nI n) x (k + 1) s.1 (nI n) s.2 = _
    rw [f_X12_odds_l35, if_pos (Int32.le_refl _)]
  · intro k j s hj ⟨a1, a2, a3⟩
    show ∃ s' : Int32 × bm_TI, f_X12_odds_l35 (nI m) (nI n) x (k + 1) s.1 (nI j) s.2 = f_X12_odds_l35 (nI m) (nI n) x k s'.1 (nI (j + 1)) s'.2 ∧ _
    obtain ⟨I2, e2, r2, f2⟩ := pq_draws hdq hD a2 hA hS (x + nI j) (n := 20) (by omega)
    have eA := te_dh (dx := dx) (dq := dq) (x + nI j) T (min 20 (400 - T 61))
    have hV := (vs_dh (dx := dx) hdq (x := x + nI j) hA hS (n := min 20 (400 - T 61)) (by omega)).2.2.2.2 m (by rw [eA 0 (by omega)]; exact hm)
    have hV2 := hV.2.2.2.1
    rw [eA 1 (by omega)] at hV2
    obtain ⟨I3, e3, r3, f3⟩ := pq_back r2 (fun k hk => (eA k hk).symm) (fun k hk => by rw [f2 173 k (by omega) (by omega) (by omega), a3 173 k (by omega) (by omega) (by omega)]; exact hB k hk)
    have fx : rf_d I I3 := rd_trans a3 (rd_trans f2 (rd_r f3))
    rw [f_X12_odds_l35, if_neg (nI_ge hj (by omega)), show f_X12_draws s.2 20 (x + nI j) = _ from e2]
    simp only [Option.bind_some]
    rw [show (90 : Int32) + nI m = nI (90 + m) from nI_add 90 m, if_pos (bm_ixk (by omega) (by omega)), nI_clamp (by omega), r2 (90 + m) (by omega), nI_1, e3, a1]
    simp only [Option.bind_some]
    by_cases h0 : (pt_dh dx dq (x + nI j) T (min 20 (400 - T 61))).2 (90 + m) = 0
    · rw [if_pos (show nI _ ≤ 0 by rw [h0]; decide)]
      refine ⟨(nI (pt_odd dx dq T m x j) + 0, I3), rfl, ?_, r3, fx⟩
      show nI _ + 0 = nI (pt_cnt j _ + Bool.toNat (decide (0 < (pt_dh dx dq (x + nI j) T (min 20 (400 - T 61))).2 (90 + m))))
      rw [h0, show (0 : Int32) = nI 0 from rfl, nI_add]; rfl
    · rw [if_neg (nI_nle (by omega) (by omega))]
      refine ⟨(nI (pt_odd dx dq T m x j) + 1, I3), rfl, ?_, r3, fx⟩
      show nI _ + 1 = nI (pt_cnt j _ + Bool.toNat (decide _))
      rw [decide_eq_true (show 0 < (pt_dh dx dq (x + nI j) T (min 20 (400 - T 61))).2 (90 + m) by omega), nI_1]; rfl
theorem e_odds (hI : bm_Inv I J W) : ∀ a1 a2 a3 : Int32, ∃ v I1 I2, f_X11_odds I a1 a2 a3 = some (v, I1) ∧ f_X12_odds I1 a1 a2 a3 = some (v, I2) ∧ bm_Inv I2 J W := by
  intro a1 a2 a3
  obtain ⟨T, S, hF, hU, hG0, hG1, hT, hM, hK⟩ := id hI
  obtain ⟨hR, _, hP, hQ, _, _, hA, hS, _⟩ := id hF
  have h8 := hA.1
  have R0 : pp_R (bm_uI I 164 0 0) T := pr_164 hR
  have hdq := pt_dq_lt
  have hD1 := kc_draw
  have hD2 := pq_drawQ
  generalize pt_dx = dx at hD1 hD2
  generalize pt_dq = dq at hD1 hD2 hdq
  unfold f_X11_odds
  rcases pk_ix a1 (n := T 0) (by omega) with h | h | ⟨m, hm, rfl⟩
  · rw [kc_isManF hP (Or.inl h)]
    refine ⟨_, _, bm_uI I 164 0 0, rfl, ?_, iv_q hI⟩
    unfold f_X12_odds
    rw [pq_isManF R0 hA (Or.inl h)]; rfl
  · rw [kc_isManF hP (Or.inr h)]
    refine ⟨_, _, bm_uI I 164 0 0, rfl, ?_, iv_q hI⟩
    unfold f_X12_odds
    rw [pq_isManF R0 hA (Or.inr h)]; rfl
  rw [kc_isManT hP hA hm]
  simp only [Option.bind_some, ↓reduceIte]
  rcases pk_rng a2 1 30 (by omega) (by omega) with ⟨n, n1, n2, rfl⟩ | h
  · obtain ⟨t, e1, t1, f1⟩ := kc_odds_l hdq hD1 hA hS hP hQ hm n2 a3
    rw [if_neg (show ¬ nI n < 1 from nI_nlt (b := 1) n1 (by omega)), if_pos (show nI n ≤ 30 from nI_le (b := 30) n2 (by omega)), e1]
    have R1 : pp_R (bm_uI t.2 164 0 0) T := pr_164 (fun k hk => by rw [f1 166 k (by omega)]; exact hR k hk)
    obtain ⟨I3, e3, b3, f3⟩ := pq_tries R1
    have R3 : pp_R I3 T := fun k hk => by rw [f3 166 k (by omega)]; exact R1 k hk
    obtain ⟨t2, e2, s1, r2, f2⟩ := pq_odds_l hdq hD2 hA hS R3 b3 hm n2 a3
    refine ⟨_, _, t2.2, rfl, ?_, iv_both hF hU hG0 hG1 hT hM hK f1 r2 (fun c k b1 b2 b3 b4 => by rw [f2 c k b1 b2 b4, f3 c k b3])⟩
    show f_X12_odds t.2 (nI m) (nI n) a3 = some (t.1, t2.2)
    unfold f_X12_odds
    rw [pq_isManT R1 hA hm, show f_X12_isIn (nI n) 1 30 = true from pq_rngT (lo := 1) (hi := 30) (by omega) n1 n2]
    simp only [Option.bind_some, ↓reduceIte]
    rw [e3]
    simp only [Option.bind_some]
    rw [e2, t1, ← s1]; rfl
  · have hc : ∀ (x : Option (Int32 × bm_TI)), (if a2 < 1 then some (-1, I) else if a2 ≤ 30 then x else some (-1, I)) = some (-1, I) := fun x => by
      rcases h with h | h
      · rw [if_pos (show a2 < 1 from h)]
      · by_cases h1 : a2 < 1
        · rw [if_pos h1]
        · rw [if_neg h1, if_neg (show ¬ a2 ≤ 30 by rw [Int32.not_le]; exact h)]
    rw [hc]
    refine ⟨_, _, bm_uI I 164 0 0, rfl, ?_, iv_q hI⟩
    unfold f_X12_odds
    rw [pq_isManT R0 hA hm, show f_X12_isIn a2 1 30 = false from pq_rngF (lo := 1) (hi := 30) h]; rfl
end EC
