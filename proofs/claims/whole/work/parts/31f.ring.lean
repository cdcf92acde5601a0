/-! copies, the states kept, and back -/
set_option maxHeartbeats 4000000 in
theorem kc_copy {I : bm_TI} {T : pt_T} {a b : Nat} (hd : a + 5 < b ∨ b + 5 < a) (h8 : T 0 ≤ 8) (hQ : pp_S I b T) : ∃ I', f_X8_copyFrom I a b = some I' ∧ pp_S I' a T ∧ ∀ o k, (o < a ∨ a + 5 < o) → I' o k = I o k := by
  unfold f_X8_copyFrom
  refine ⟨_, rfl, ⟨?_, ?_, ?_, ?_, ?_, fun j hj => ⟨?_, ?_, ?_, ?_, ?_⟩⟩, fun o k ho => ?_⟩
  · simp (disch := omega) only [pn_uI_hit, pn_uI_ne, pn_uI_ne2, pn_yI_ne, pg_asleep hQ]
  · simp (disch := omega) only [pn_uI_hit, pn_uI_ne, pn_uI_ne2, pn_yI_ne, pg_sooted hQ]
  · simp (disch := omega) only [pn_uI_hit, pn_uI_ne, pn_uI_ne2, pn_yI_ne, pg_pass hQ]
  · simp (disch := omega) only [pn_uI_hit, pn_uI_ne, pn_uI_ne2, pn_yI_ne, pg_hour hQ]
  · simp (disch := omega) only [pn_uI_hit, pn_uI_ne, pn_uI_ne2, pn_yI_ne, pg_lifts hQ]
  · simp (disch := omega) only [pn_uI_hit, pn_uI_ne, pn_uI_ne2, pn_yI_ne, pn_yI_at, pg_x hQ]
  · simp (disch := omega) only [pn_uI_hit, pn_uI_ne, pn_uI_ne2, pn_yI_ne, pn_yI_at, pg_y hQ]
  · simp (disch := omega) only [pn_uI_hit, pn_uI_ne, pn_uI_ne2, pn_yI_ne, pn_yI_at, pg_heard hQ]
  · simp (disch := omega) only [pn_uI_hit, pn_uI_ne, pn_uI_ne2, pn_yI_ne, pn_yI_at, pg_order hQ]
  · simp (disch := omega) only [pn_uI_hit, pn_uI_ne, pn_uI_ne2, pn_yI_ne, pn_yI_at, pg_lost hQ]
  · simp (disch := omega) only [pn_uI_hit, pn_uI_ne, pn_uI_ne2, pn_yI_ne]
/-- the ring of the class -/
def pp_C (I : bm_TI) (u o : Nat) (U : Nat → pt_T) : Prop := I 40 1 = nI o ∧ I 40 2 = nI u ∧ ∀ i, i < u → pp_S I (42 + 7 * ((o + i) % 8)) (U i)
/-- the row of the reference -/
def pp_D (I : bm_TI) (u : Nat) (U : Nat → pt_T) : Prop := I 164 24 = nI u ∧ ∀ i, i < u → ∀ k, k < 45 → I 172 (45 * i + k) = nI (U i (61 + k))
def pt_ku (u : Nat) : Nat := if u < 8 then u + 1 else 8
def pt_ko (u o : Nat) : Nat := if u < 8 then o else (o + 1) % 8
def pt_kU (u : Nat) (U : Nat → pt_T) (T : pt_T) : Nat → pt_T := if u < 8 then (fun i => if i = u then T else U i) else (fun i => if i = 7 then T else U (i + 1))
theorem ps_far {I I' : bm_TI} {T : pt_T} {c o : Nat} (hf : ∀ o k, (o < c ∨ c + 5 < o) → I' o k = I o k) (hd : o + 5 < c ∨ c + 5 < o) (hQ : pp_S I o T) : pp_S I' o T := ps_congr (fun k => hf o k (by omega)) (fun c' k _ _ => hf c' k (by omega)) hQ
theorem kc_keep {I : bm_TI} {T : pt_T} {u o : Nat} {U : Nat → pt_T} (hu : u ≤ 8) (ho : o < 8) (h8 : T 0 ≤ 8) (hC : pp_C I u o U) (hQ : pp_S I 26 T) : ∃ I', f_X4_keep I = some I' ∧ pp_C I' (pt_ku u) (pt_ko u o) (pt_kU u U T) ∧ ∀ c k, (c < 40 ∨ 97 < c) → I' c k = I c k := by
  obtain ⟨h1, h2, h3⟩ := hC
  have hm : (o + u) % 8 < 8 := Nat.mod_lt _ (by omega)
  obtain ⟨I1, e1, q1, f1⟩ := kc_copy (I := I) (T := T) (a := 42 + 7 * ((o + u) % 8)) (b := 26) (by omega) h8 hQ
  have f40 : I1 40 2 = nI u := by rw [f1 40 2 (by omega)]; exact h2
  have f41 : I1 40 1 = nI o := by rw [f1 40 1 (by omega)]; exact h1
  unfold f_X4_keep
  simp (disch := omega) only [pn_l0, pn_l1, pn_l2, pn_l3, pn_l4, pn_l5, pn_l6, pn_l7, pn_l8, pn_l9, pn_l10, pn_l11, pn_l12, pn_l13, pn_l15, pn_l20, pn_l21, pn_l22, pn_l23, pn_l24, pn_l30, pn_l31, pn_l32, pn_l39, pn_l40, pn_l41, pn_l45, pn_l46, pn_l48, pn_l53, pn_l57, pn_l58, pn_l59, pn_l60, pn_l61, pn_l62, pn_l63, pn_l64, pn_l65, pn_l66, pn_l74, pn_l82, pn_l90, pn_l97, pn_l98, pn_l99, pn_l106, pn_l107, pn_l120, pn_l122, pn_l135, pn_l255, pn_l287, pn_l300, pn_l315, pn_l360, pn_l400, pn_l900, pn_l940, pn_l1000, pn_l1000000, pn_mone, nI_add, pk_mul, nI_clamp, bm_ixk, pn_ltI, pn_leI, pn_eqI, pn_xeq, pn_xeq2, pn_xx, pn_xltI, pn_xleI, pn_xgtI, pn_xgeI, pn_xadd, pn_subx, pn_addx, Option.bind_some, ↓reduceIte, h1, h2, pn_rem, e1, f40, f41]
  unfold pt_ku pt_ko pt_kU
  by_cases hu8 : u < 8
  · have g : ¬ 8 ≤ u := by omega
    simp only [hu8, g, ↓reduceIte]
    refine ⟨_, rfl, ⟨?_, ?_, fun i hi => ?_⟩, fun c k hc => ?_⟩
    · simp (disch := omega) only [pn_uI_hit, pn_uI_ne, pn_uI_ne2, pn_yI_ne, f41]
    · simp (disch := omega) only [pn_uI_hit, pn_uI_ne, pn_uI_ne2, pn_yI_ne]
    · refine ps_congr (fun k => pn_uI_ne (by omega)) (fun c k _ _ => pn_uI_ne (by omega)) (I := I1) ?_
      by_cases e : i = u
      · simp only [e, ↓reduceIte]; exact q1
      · simp only [e, ↓reduceIte]
        exact ps_far f1 (by omega) (h3 i (by omega))
    · rw [pn_uI_ne (by omega)]; exact f1 c k (by omega)
  · obtain rfl : u = 8 := by omega
    simp only [Nat.lt_irrefl, Nat.le_refl, ↓reduceIte]
    refine ⟨_, rfl, ⟨?_, ?_, fun i hi => ?_⟩, fun c k hc => ?_⟩
    · simp (disch := omega) only [pn_uI_hit, pn_uI_ne, pn_uI_ne2, pn_yI_ne]
    · simp (disch := omega) only [pn_uI_hit, pn_uI_ne, pn_uI_ne2, pn_yI_ne, f40]
    · refine ps_congr (fun k => pn_uI_ne (by omega)) (fun c k _ _ => pn_uI_ne (by omega)) (I := I1) ?_
      by_cases e : i = 7
      · simp only [e, ↓reduceIte]
        rw [show ((o + 1) % 8 + 7) % 8 = (o + 8) % 8 by omega]; exact q1
      · simp only [e, ↓reduceIte]
        rw [show ((o + 1) % 8 + i) % 8 = (o + (i + 1)) % 8 by omega]
        exact ps_far f1 (by omega) (h3 (i + 1) (by omega))
    · rw [pn_uI_ne (by omega)]; exact f1 c k (by omega)
theorem pq_keep_a {I : bm_TI} : ∃ I', f_X12_keep_l11 1000 0 I = some I' ∧ (∀ k, k < 315 → I' 172 k = I 172 (k + 45)) ∧ ∀ o k, o ≠ 172 → I' o k = I o k := by
  refine pl_rel (F := f_X12_keep_l11) (n := 315) (fun j I' => (∀ k, k < j → I' 172 k = I 172 (k + 45)) ∧ (∀ k, j ≤ k → I' 172 k = I 172 k) ∧ ∀ o k, o ≠ 172 → I' o k = I o k) ?_ ?_ 1000 I (by omega) ⟨fun k hk => by omega, fun _ _ => rfl, fun _ _ _ => rfl⟩
  · intro k I' ⟨h1, h2, h3⟩
    refine ⟨I', ?_, h1, h3⟩
    rw [f_X12_keep_l11]
    simp (disch := omega) only [pn_l0, pn_l1, pn_l2, pn_l3, pn_l4, pn_l5, pn_l6, pn_l7, pn_l8, pn_l9, pn_l10, pn_l11, pn_l12, pn_l13, pn_l15, pn_l20, pn_l21, pn_l22, pn_l23, pn_l24, pn_l30, pn_l31, pn_l32, pn_l39, pn_l40, pn_l41, pn_l45, pn_l46, pn_l48, pn_l53, pn_l57, pn_l58, pn_l59, pn_l60, pn_l61, pn_l62, pn_l63, pn_l64, pn_l65, pn_l66, pn_l74, pn_l82, pn_l90, pn_l97, pn_l98, pn_l99, pn_l106, pn_l107, pn_l120, pn_l122, pn_l135, pn_l255, pn_l287, pn_l300, pn_l315, pn_l360, pn_l400, pn_l900, pn_l940, pn_l1000, pn_l1000000, pn_mone, nI_add, pk_mul, nI_clamp, bm_ixk, pn_ltI, pn_leI, pn_eqI, pn_xeq, pn_xeq2, pn_xx, pn_xltI, pn_xleI, pn_xgtI, pn_xgeI, pn_xadd, pn_subx, pn_addx, Option.bind_some, ↓reduceIte, Nat.le_refl]
  · intro k j I' hj ⟨h1, h2, h3⟩
    rw [f_X12_keep_l11]
    simp (disch := omega) only [pn_l0, pn_l1, pn_l2, pn_l3, pn_l4, pn_l5, pn_l6, pn_l7, pn_l8, pn_l9, pn_l10, pn_l11, pn_l12, pn_l13, pn_l15, pn_l20, pn_l21, pn_l22, pn_l23, pn_l24, pn_l30, pn_l31, pn_l32, pn_l39, pn_l40, pn_l41, pn_l45, pn_l46, pn_l48, pn_l53, pn_l57, pn_l58, pn_l59, pn_l60, pn_l61, pn_l62, pn_l63, pn_l64, pn_l65, pn_l66, pn_l74, pn_l82, pn_l90, pn_l97, pn_l98, pn_l99, pn_l106, pn_l107, pn_l120, pn_l122, pn_l135, pn_l255, pn_l287, pn_l300, pn_l315, pn_l360, pn_l400, pn_l900, pn_l940, pn_l1000, pn_l1000000, pn_mone, nI_add, pk_mul, nI_clamp, bm_ixk, pn_ltI, pn_leI, pn_eqI, pn_xeq, pn_xeq2, pn_xx, pn_xltI, pn_xleI, pn_xgtI, pn_xgeI, pn_xadd, pn_subx, pn_addx, Option.bind_some, ↓reduceIte, Nat.not_le.mpr hj]
    refine ⟨_, rfl, fun i hi => ?_, fun i hi => ?_, fun o i ho => ?_⟩
    · by_cases e : i = j
      · rw [pn_uI_hit e, h2 _ (by omega), e]
      · rw [pn_uI_ne2 e]; exact h1 i (by omega)
    · rw [pn_uI_ne2 (by omega)]; exact h2 i (by omega)
    · rw [pn_uI_ne ho]; exact h3 o i ho
theorem pq_keep_b {I : bm_TI} {T : pt_T} {u : Nat} (hR : pp_R I T) (hu : u < 8) (h24 : I 164 24 = nI u) : ∃ I', f_X12_keep_l47 1000 0 I = some I' ∧ (∀ k, k < 45 → I' 172 (45 * u + k) = nI (T (61 + k))) ∧ (∀ k, k < 45 * u → I' 172 k = I 172 k) ∧ ∀ o k, o ≠ 172 → I' o k = I o k := by
  refine pl_rel (F := f_X12_keep_l47) (n := 45) (fun j I' => (∀ k, k < j → I' 172 (45 * u + k) = nI (T (61 + k))) ∧ (∀ k, k < 45 * u → I' 172 k = I 172 k) ∧ ∀ o k, o ≠ 172 → I' o k = I o k) ?_ ?_ 1000 I (by omega) ⟨fun k hk => by omega, fun _ _ => rfl, fun _ _ _ => rfl⟩
  · intro k I' ⟨h1, h2, h3⟩
    refine ⟨I', ?_, h1, h2, h3⟩
    rw [f_X12_keep_l47]
    simp (disch := omega) only [pn_l0, pn_l1, pn_l2, pn_l3, pn_l4, pn_l5, pn_l6, pn_l7, pn_l8, pn_l9, pn_l10, pn_l11, pn_l12, pn_l13, pn_l15, pn_l20, pn_l21, pn_l22, pn_l23, pn_l24, pn_l30, pn_l31, pn_l32, pn_l39, pn_l40, pn_l41, pn_l45, pn_l46, pn_l48, pn_l53, pn_l57, pn_l58, pn_l59, pn_l60, pn_l61, pn_l62, pn_l63, pn_l64, pn_l65, pn_l66, pn_l74, pn_l82, pn_l90, pn_l97, pn_l98, pn_l99, pn_l106, pn_l107, pn_l120, pn_l122, pn_l135, pn_l255, pn_l287, pn_l300, pn_l315, pn_l360, pn_l400, pn_l900, pn_l940, pn_l1000, pn_l1000000, pn_mone, nI_add, pk_mul, nI_clamp, bm_ixk, pn_ltI, pn_leI, pn_eqI, pn_xeq, pn_xeq2, pn_xx, pn_xltI, pn_xleI, pn_xgtI, pn_xgeI, pn_xadd, pn_subx, pn_addx, Option.bind_some, ↓reduceIte, Nat.le_refl]
  · intro k j I' hj ⟨h1, h2, h3⟩
    have g24 : I' 164 24 = nI u := by rw [h3 164 24 (by omega)]; exact h24
    have g166 : I' 166 (61 + j) = nI (T (61 + j)) := by rw [h3 166 _ (by omega)]; exact hR _ (by omega)
    rw [f_X12_keep_l47]
    simp (disch := omega) only [pn_l0, pn_l1, pn_l2, pn_l3, pn_l4, pn_l5, pn_l6, pn_l7, pn_l8, pn_l9, pn_l10, pn_l11, pn_l12, pn_l13, pn_l15, pn_l20, pn_l21, pn_l22, pn_l23, pn_l24, pn_l30, pn_l31, pn_l32, pn_l39, pn_l40, pn_l41, pn_l45, pn_l46, pn_l48, pn_l53, pn_l57, pn_l58, pn_l59, pn_l60, pn_l61, pn_l62, pn_l63, pn_l64, pn_l65, pn_l66, pn_l74, pn_l82, pn_l90, pn_l97, pn_l98, pn_l99, pn_l106, pn_l107, pn_l120, pn_l122, pn_l135, pn_l255, pn_l287, pn_l300, pn_l315, pn_l360, pn_l400, pn_l900, pn_l940, pn_l1000, pn_l1000000, pn_mone, nI_add, pk_mul, nI_clamp, bm_ixk, pn_ltI, pn_leI, pn_eqI, pn_xeq, pn_xeq2, pn_xx, pn_xltI, pn_xleI, pn_xgtI, pn_xgeI, pn_xadd, pn_subx, pn_addx, Option.bind_some, ↓reduceIte, Nat.not_le.mpr hj, g24, g166]
    refine ⟨_, rfl, fun i hi => ?_, fun i hi => ?_, fun o i ho => ?_⟩
    · by_cases e : i = j
      · rw [pn_uI_hit (by omega), e]
      · rw [pn_uI_ne2 (by omega)]; exact h1 i (by omega)
    · rw [pn_uI_ne2 (by omega)]; exact h2 i (by omega)
    · rw [pn_uI_ne ho]; exact h3 o i ho
theorem pq_keep {I : bm_TI} {T : pt_T} {u : Nat} {U : Nat → pt_T} (hR : pp_R I T) (hu : u ≤ 8) (hD : pp_D I u U) : ∃ I', f_X12_keep I = some I' ∧ pp_D I' (pt_ku u) (pt_kU u U T) ∧ ∀ o k, o ≠ 172 → (o ≠ 164 ∨ k ≠ 24) → I' o k = I o k := by
  obtain ⟨h1, h2⟩ := hD
  unfold f_X12_keep pt_ku pt_kU
  simp (disch := omega) only [pn_l0, pn_l1, pn_l2, pn_l3, pn_l4, pn_l5, pn_l6, pn_l7, pn_l8, pn_l9, pn_l10, pn_l11, pn_l12, pn_l13, pn_l15, pn_l20, pn_l21, pn_l22, pn_l23, pn_l24, pn_l30, pn_l31, pn_l32, pn_l39, pn_l40, pn_l41, pn_l45, pn_l46, pn_l48, pn_l53, pn_l57, pn_l58, pn_l59, pn_l60, pn_l61, pn_l62, pn_l63, pn_l64, pn_l65, pn_l66, pn_l74, pn_l82, pn_l90, pn_l97, pn_l98, pn_l99, pn_l106, pn_l107, pn_l120, pn_l122, pn_l135, pn_l255, pn_l287, pn_l300, pn_l315, pn_l360, pn_l400, pn_l900, pn_l940, pn_l1000, pn_l1000000, pn_mone, nI_add, pk_mul, nI_clamp, bm_ixk, pn_ltI, pn_leI, pn_eqI, pn_xeq, pn_xeq2, pn_xx, pn_xltI, pn_xleI, pn_xgtI, pn_xgeI, pn_xadd, pn_subx, pn_addx, Option.bind_some, ↓reduceIte, h1]
  by_cases hu8 : u < 8
  · have g : ¬ u = 8 := by omega
    simp only [hu8, g, ↓reduceIte]
    obtain ⟨I1, e1, a1, b1, c1⟩ := pq_keep_b hR hu8 h1
    rw [← pn_l0, e1]
    have g24 : I1 164 24 = nI u := by rw [c1 164 24 (by omega)]; exact h1
    simp (disch := omega) only [pn_l0, pn_l1, pn_l2, pn_l3, pn_l4, pn_l5, pn_l6, pn_l7, pn_l8, pn_l9, pn_l10, pn_l11, pn_l12, pn_l13, pn_l15, pn_l20, pn_l21, pn_l22, pn_l23, pn_l24, pn_l30, pn_l31, pn_l32, pn_l39, pn_l40, pn_l41, pn_l45, pn_l46, pn_l48, pn_l53, pn_l57, pn_l58, pn_l59, pn_l60, pn_l61, pn_l62, pn_l63, pn_l64, pn_l65, pn_l66, pn_l74, pn_l82, pn_l90, pn_l97, pn_l98, pn_l99, pn_l106, pn_l107, pn_l120, pn_l122, pn_l135, pn_l255, pn_l287, pn_l300, pn_l315, pn_l360, pn_l400, pn_l900, pn_l940, pn_l1000, pn_l1000000, pn_mone, nI_add, pk_mul, nI_clamp, bm_ixk, pn_ltI, pn_leI, pn_eqI, pn_xeq, pn_xeq2, pn_xx, pn_xltI, pn_xleI, pn_xgtI, pn_xgeI, pn_xadd, pn_subx, pn_addx, Option.bind_some, ↓reduceIte, g24]
    refine ⟨_, rfl, ⟨pn_uI_hit rfl, fun i hi k hk => ?_⟩, fun o k ho hk => ?_⟩
    · rw [pn_uI_ne (by omega)]
      by_cases e : i = u
      · simp only [e, ↓reduceIte]; exact a1 k hk
      · simp only [e, ↓reduceIte]
        rw [b1 _ (by omega)]
        exact h2 i (by omega) k hk
    · by_cases e : o = 164
      · subst e; rw [pn_uI_ne2 (by omega)]; exact c1 _ _ ho
      · rw [pn_uI_ne e]; exact c1 _ _ ho
  · obtain rfl : u = 8 := by omega
    simp only [Nat.lt_irrefl, ↓reduceIte]
    obtain ⟨I0, e0, a0, b0⟩ := pq_keep_a (I := I)
    rw [← pn_l0, e0]
    simp only [Option.bind_some]
    have hR1 : pp_R (bm_uI I0 164 24 (nI 7)) T := fun k hk => by rw [pn_uI_ne (by omega), b0 166 k (by omega)]; exact hR k hk
    obtain ⟨I1, e1, a1, b1, c1⟩ := pq_keep_b hR1 (u := 7) (by omega) (pn_uI_hit rfl)
    have e1' : f_X12_keep_l47 1000 0 (bm_uI I0 164 24 (nI 7)) = some I1 := e1
    simp only [e1', Option.bind_some]
    have g24 : I1 164 24 = nI 7 := by rw [c1 164 24 (by omega)]; exact pn_uI_hit rfl
    simp (disch := omega) only [pn_l0, pn_l1, pn_l2, pn_l3, pn_l4, pn_l5, pn_l6, pn_l7, pn_l8, pn_l9, pn_l10, pn_l11, pn_l12, pn_l13, pn_l15, pn_l20, pn_l21, pn_l22, pn_l23, pn_l24, pn_l30, pn_l31, pn_l32, pn_l39, pn_l40, pn_l41, pn_l45, pn_l46, pn_l48, pn_l53, pn_l57, pn_l58, pn_l59, pn_l60, pn_l61, pn_l62, pn_l63, pn_l64, pn_l65, pn_l66, pn_l74, pn_l82, pn_l90, pn_l97, pn_l98, pn_l99, pn_l106, pn_l107, pn_l120, pn_l122, pn_l135, pn_l255, pn_l287, pn_l300, pn_l315, pn_l360, pn_l400, pn_l900, pn_l940, pn_l1000, pn_l1000000, pn_mone, nI_add, pk_mul, nI_clamp, bm_ixk, pn_ltI, pn_leI, pn_eqI, pn_xeq, pn_xeq2, pn_xx, pn_xltI, pn_xleI, pn_xgtI, pn_xgeI, pn_xadd, pn_subx, pn_addx, Option.bind_some, ↓reduceIte, g24]
    refine ⟨_, rfl, ⟨pn_uI_hit rfl, fun i hi k hk => ?_⟩, fun o k ho hk => ?_⟩
    · rw [pn_uI_ne (by omega)]
      by_cases e : i = 7
      · simp only [e, ↓reduceIte]; exact a1 k hk
      · simp only [e, ↓reduceIte]
        rw [b1 _ (by omega), pn_uI_ne (by omega), a0 _ (by omega), show 45 * i + k + 45 = 45 * (i + 1) + k by omega]
        exact h2 (i + 1) (by omega) k hk
    · by_cases e : o = 164
      · subst e; rw [pn_uI_ne2 (by omega), c1 _ _ ho, pn_uI_ne2 (by omega)]; exact b0 _ _ ho
      · rw [pn_uI_ne e, c1 _ _ ho, pn_uI_ne e]; exact b0 _ _ ho
theorem pq_undo_l {I : bm_TI} {V : pt_T} {u : Nat} (hu : u < 8) (h24 : I 164 24 = nI u) (h2 : ∀ k, k < 45 → I 172 (45 * u + k) = nI (V (61 + k))) : ∃ I', f_X12_undo_l26 1000 0 I = some I' ∧ (∀ k, k < 45 → I' 166 (61 + k) = nI (V (61 + k))) ∧ rf_r I I' := by
  refine pl_rel (F := f_X12_undo_l26) (n := 45) (fun j I' => (∀ k, k < j → I' 166 (61 + k) = nI (V (61 + k))) ∧ rf_r I I') ?_ ?_ 1000 I (by omega) ⟨fun k hk => by omega, rf_refl I⟩
  · intro k I' ⟨h1, h3⟩
    refine ⟨I', ?_, h1, h3⟩
    rw [f_X12_undo_l26]
    simp (disch := omega) only [pn_l0, pn_l1, pn_l2, pn_l3, pn_l4, pn_l5, pn_l6, pn_l7, pn_l8, pn_l9, pn_l10, pn_l11, pn_l12, pn_l13, pn_l15, pn_l20, pn_l21, pn_l22, pn_l23, pn_l24, pn_l30, pn_l31, pn_l32, pn_l39, pn_l40, pn_l41, pn_l45, pn_l46, pn_l48, pn_l53, pn_l57, pn_l58, pn_l59, pn_l60, pn_l61, pn_l62, pn_l63, pn_l64, pn_l65, pn_l66, pn_l74, pn_l82, pn_l90, pn_l97, pn_l98, pn_l99, pn_l106, pn_l107, pn_l120, pn_l122, pn_l135, pn_l255, pn_l287, pn_l300, pn_l315, pn_l360, pn_l400, pn_l900, pn_l940, pn_l1000, pn_l1000000, pn_mone, nI_add, pk_mul, nI_clamp, bm_ixk, pn_ltI, pn_leI, pn_eqI, pn_xeq, pn_xeq2, pn_xx, pn_xltI, pn_xleI, pn_xgtI, pn_xgeI, pn_xadd, pn_subx, pn_addx, Option.bind_some, ↓reduceIte, Nat.le_refl]
  · intro k j I' hj ⟨h1, h3⟩
    have g24 : I' 164 24 = nI u := by rw [h3 164 24 (by omega)]; exact h24
    have g172 : I' 172 (45 * u + j) = nI (V (61 + j)) := by rw [h3 172 _ (by omega)]; exact h2 j hj
    rw [f_X12_undo_l26]
    simp (disch := omega) only [pn_l0, pn_l1, pn_l2, pn_l3, pn_l4, pn_l5, pn_l6, pn_l7, pn_l8, pn_l9, pn_l10, pn_l11, pn_l12, pn_l13, pn_l15, pn_l20, pn_l21, pn_l22, pn_l23, pn_l24, pn_l30, pn_l31, pn_l32, pn_l39, pn_l40, pn_l41, pn_l45, pn_l46, pn_l48, pn_l53, pn_l57, pn_l58, pn_l59, pn_l60, pn_l61, pn_l62, pn_l63, pn_l64, pn_l65, pn_l66, pn_l74, pn_l82, pn_l90, pn_l97, pn_l98, pn_l99, pn_l106, pn_l107, pn_l120, pn_l122, pn_l135, pn_l255, pn_l287, pn_l300, pn_l315, pn_l360, pn_l400, pn_l900, pn_l940, pn_l1000, pn_l1000000, pn_mone, nI_add, pk_mul, nI_clamp, bm_ixk, pn_ltI, pn_leI, pn_eqI, pn_xeq, pn_xeq2, pn_xx, pn_xltI, pn_xleI, pn_xgtI, pn_xgeI, pn_xadd, pn_subx, pn_addx, Option.bind_some, ↓reduceIte, Nat.not_le.mpr hj, g24, g172]
    refine ⟨_, rfl, fun i hi => ?_, rf_trans h3 (rf_up (by omega) (by omega))⟩
    by_cases e : i = j
    · rw [pn_uI_hit (by omega), e]
    · rw [pn_uI_ne2 (by omega)]; exact h1 i (by omega)
/-- a row that has another state -/
theorem pr_mix {I I' : bm_TI} {T V : pt_T} (hR : pp_R I T) (e : pt_eA T V) (h : ∀ k, k < 45 → I' 166 (61 + k) = nI (V (61 + k))) (hf : ∀ k, k < 61 → I' 166 k = I 166 k) : pp_R I' V := fun k hk => by
  by_cases h61 : k < 61
  · rw [hf k h61, hR k hk, e k h61]
  · have := h (k - 61) (by omega)
    rwa [show 61 + (k - 61) = k by omega] at this
theorem pq_tries {I : bm_TI} {T : pt_T} (hR : pp_R I T) : ∃ I', f_X12_tries I = some I' ∧ (∀ k, k < 45 → I' 173 k = nI (T (61 + k))) ∧ ∀ o k, o ≠ 173 → I' o k = I o k := by
  have key : ∃ I', f_X12_tries_l2 1000 0 I = some I' ∧ ((∀ k, k < 45 → I' 173 k = nI (T (61 + k))) ∧ ∀ o k, o ≠ 173 → I' o k = I o k) := by
    refine pl_rel (F := f_X12_tries_l2) (n := 45) (fun j I' => (∀ k, k < j → I' 173 k = nI (T (61 + k))) ∧ ∀ o k, o ≠ 173 → I' o k = I o k) ?_ ?_ 1000 I (by omega) ⟨fun k hk => by omega, fun _ _ _ => rfl⟩
    · intro k I' ⟨h1, h3⟩
      refine ⟨I', ?_, h1, h3⟩
      rw [f_X12_tries_l2]
      simp (disch := omega) only [pn_l0, pn_l1, pn_l2, pn_l3, pn_l4, pn_l5, pn_l6, pn_l7, pn_l8, pn_l9, pn_l10, pn_l11, pn_l12, pn_l13, pn_l15, pn_l20, pn_l21, pn_l22, pn_l23, pn_l24, pn_l30, pn_l31, pn_l32, pn_l39, pn_l40, pn_l41, pn_l45, pn_l46, pn_l48, pn_l53, pn_l57, pn_l58, pn_l59, pn_l60, pn_l61, pn_l62, pn_l63, pn_l64, pn_l65, pn_l66, pn_l74, pn_l82, pn_l90, pn_l97, pn_l98, pn_l99, pn_l106, pn_l107, pn_l120, pn_l122, pn_l135, pn_l255, pn_l287, pn_l300, pn_l315, pn_l360, pn_l400, pn_l900, pn_l940, pn_l1000, pn_l1000000, pn_mone, nI_add, pk_mul, nI_clamp, bm_ixk, pn_ltI, pn_leI, pn_eqI, pn_xeq, pn_xeq2, pn_xx, pn_xltI, pn_xleI, pn_xgtI, pn_xgeI, pn_xadd, pn_subx, pn_addx, Option.bind_some, ↓reduceIte, Nat.le_refl]
    · intro k j I' hj ⟨h1, h3⟩
      have g166 : I' 166 (61 + j) = nI (T (61 + j)) := by rw [h3 166 _ (by omega)]; exact hR _ (by omega)
      rw [f_X12_tries_l2]
      simp (disch := omega) only [pn_l0, pn_l1, pn_l2, pn_l3, pn_l4, pn_l5, pn_l6, pn_l7, pn_l8, pn_l9, pn_l10, pn_l11, pn_l12, pn_l13, pn_l15, pn_l20, pn_l21, pn_l22, pn_l23, pn_l24, pn_l30, pn_l31, pn_l32, pn_l39, pn_l40, pn_l41, pn_l45, pn_l46, pn_l48, pn_l53, pn_l57, pn_l58, pn_l59, pn_l60, pn_l61, pn_l62, pn_l63, pn_l64, pn_l65, pn_l66, pn_l74, pn_l82, pn_l90, pn_l97, pn_l98, pn_l99, pn_l106, pn_l107, pn_l120, pn_l122, pn_l135, pn_l255, pn_l287, pn_l300, pn_l315, pn_l360, pn_l400, pn_l900, pn_l940, pn_l1000, pn_l1000000, pn_mone, nI_add, pk_mul, nI_clamp, bm_ixk, pn_ltI, pn_leI, pn_eqI, pn_xeq, pn_xeq2, pn_xx, pn_xltI, pn_xleI, pn_xgtI, pn_xgeI, pn_xadd, pn_subx, pn_addx, Option.bind_some, ↓reduceIte, Nat.not_le.mpr hj, g166]
      refine ⟨_, rfl, fun i hi => ?_, fun o i ho => ?_⟩
      · by_cases e : i = j
        · rw [pn_uI_hit e, e]
        · rw [pn_uI_ne2 e]; exact h1 i (by omega)
      · rw [pn_uI_ne ho]; exact h3 o i ho
  obtain ⟨I', e, h⟩ := key
  exact ⟨I', by unfold f_X12_tries; rw [e]; rfl, h⟩
theorem pq_back {I : bm_TI} {T U : pt_T} (hR : pp_R I U) (e : pt_eA U T) (hB : ∀ k, k < 45 → I 173 k = nI (T (61 + k))) : ∃ I', f_X12_back I = some I' ∧ pp_R I' T ∧ rf_r I I' := by
  have key : ∃ I', f_X12_back_l2 1000 0 I = some I' ∧ ((∀ k, k < 45 → I' 166 (61 + k) = nI (T (61 + k))) ∧ rf_r I I') := by
    refine pl_rel (F := f_X12_back_l2) (n := 45) (fun j I' => (∀ k, k < j → I' 166 (61 + k) = nI (T (61 + k))) ∧ rf_r I I') ?_ ?_ 1000 I (by omega) ⟨fun k hk => by omega, rf_refl I⟩
    · intro k I' ⟨h1, h3⟩
      refine ⟨I', ?_, h1, h3⟩
      rw [f_X12_back_l2]
      simp (disch := omega) only [pn_l0, pn_l1, pn_l2, pn_l3, pn_l4, pn_l5, pn_l6, pn_l7, pn_l8, pn_l9, pn_l10, pn_l11, pn_l12, pn_l13, pn_l15, pn_l20, pn_l21, pn_l22, pn_l23, pn_l24, pn_l30, pn_l31, pn_l32, pn_l39, pn_l40, pn_l41, pn_l45, pn_l46, pn_l48, pn_l53, pn_l57, pn_l58, pn_l59, pn_l60, pn_l61, pn_l62, pn_l63, pn_l64, pn_l65, pn_l66, pn_l74, pn_l82, pn_l90, pn_l97, pn_l98, pn_l99, pn_l106, pn_l107, pn_l120, pn_l122, pn_l135, pn_l255, pn_l287, pn_l300, pn_l315, pn_l360, pn_l400, pn_l900, pn_l940, pn_l1000, pn_l1000000, pn_mone, nI_add, pk_mul, nI_clamp, bm_ixk, pn_ltI, pn_leI, pn_eqI, pn_xeq, pn_xeq2, pn_xx, pn_xltI, pn_xleI, pn_xgtI, pn_xgeI, pn_xadd, pn_subx, pn_addx, Option.bind_some, ↓reduceIte, Nat.le_refl]
    · intro k j I' hj ⟨h1, h3⟩
      have g : I' 173 j = nI (T (61 + j)) := by rw [h3 173 _ (by omega)]; exact hB j hj
      rw [f_X12_back_l2]
      simp (disch := omega) only [pn_l0, pn_l1, pn_l2, pn_l3, pn_l4, pn_l5, pn_l6, pn_l7, pn_l8, pn_l9, pn_l10, pn_l11, pn_l12, pn_l13, pn_l15, pn_l20, pn_l21, pn_l22, pn_l23, pn_l24, pn_l30, pn_l31, pn_l32, pn_l39, pn_l40, pn_l41, pn_l45, pn_l46, pn_l48, pn_l53, pn_l57, pn_l58, pn_l59, pn_l60, pn_l61, pn_l62, pn_l63, pn_l64, pn_l65, pn_l66, pn_l74, pn_l82, pn_l90, pn_l97, pn_l98, pn_l99, pn_l106, pn_l107, pn_l120, pn_l122, pn_l135, pn_l255, pn_l287, pn_l300, pn_l315, pn_l360, pn_l400, pn_l900, pn_l940, pn_l1000, pn_l1000000, pn_mone, nI_add, pk_mul, nI_clamp, bm_ixk, pn_ltI, pn_leI, pn_eqI, pn_xeq, pn_xeq2, pn_xx, pn_xltI, pn_xleI, pn_xgtI, pn_xgeI, pn_xadd, pn_subx, pn_addx, Option.bind_some, ↓reduceIte, Nat.not_le.mpr hj, g]
      refine ⟨_, rfl, fun i hi => ?_, rf_trans h3 (rf_up (by omega) (by omega))⟩
      by_cases e : i = j
      · rw [pn_uI_hit (by omega), e]
      · rw [pn_uI_ne2 (by omega)]; exact h1 i (by omega)
  obtain ⟨I', e2, h1, h3⟩ := key
  exact ⟨I', by unfold f_X12_back; rw [e2]; rfl, pr_mix hR e h1 (fun k hk => h3 166 k (by omega)), h3⟩
/-! going -/
/-- where he would be, and 1 -/
def pt_gox (x s a b : Nat) : Nat := if s = a then x + 2 else if s = b then x else x + 1
def pt_goX (T : pt_T) (m s : Nat) : Nat := pt_gox (T (66 + m)) s 0 2
def pt_goY (T : pt_T) (m s : Nat) : Nat := pt_gox (T (74 + m)) s 1 3
abbrev pt_can (T : pt_T) (m s : Nat) : Prop := 1 ≤ pt_goX T m s ∧ pt_goX T m s ≤ 31 ∧ 1 ≤ pt_goY T m s ∧ pt_goY T m s ≤ 31
def pt_go (T : pt_T) (m s : Nat) : pt_T := pt_up (pt_up T (74 + m) (pt_goY T m s - 1)) (66 + m) (pt_goX T m s - 1)
theorem pt_gox_le {x s a b : Nat} (h : x ≤ 30) : pt_gox x s a b ≤ 32 := by unfold pt_gox; split <;> (try split) <;> omega
theorem vs_go {T : pt_T} (hS : pt_VS T) (h8 : T 0 ≤ 8) {m s : Nat} (hm : m < T 0) (hc : pt_can T m s) : pt_VS (pt_go T m s) := by
  obtain ⟨s1, s2, s3, s4, s5⟩ := hS
  obtain ⟨c1, c2, c3, c4⟩ := hc
  unfold pt_go
  refine ⟨?_, ?_, ?_, ?_, fun j hj => ?_⟩
  · rw [tu_ne (by omega), tu_ne (by omega)]; exact s1
  · rw [tu_ne (by omega), tu_ne (by omega), tu_ne (by omega), tu_ne (by omega)]; exact s2
  · rw [tu_ne (by omega), tu_ne (by omega), tu_ne (by omega), tu_ne (by omega)]; exact s3
  · rw [tu_ne (by omega), tu_ne (by omega), tu_ne (by omega), tu_ne (by omega)]; exact s4
  · rw [tu_ne (by omega), tu_ne (by omega)] at hj
    have := s5 j hj
    refine ⟨?_, ?_, ?_, ?_, ?_⟩ <;> simp only [pt_up] <;> (repeat' split) <;> omega
theorem te_go (T : pt_T) (m s : Nat) : pt_eA T (pt_go T m s) := te_trans (te_up (by omega)) (te_up (by omega))
section GO
variable {I : bm_TI} {T : pt_T}
theorem pq_xBy (hR : pp_R I T) (h8 : T 0 ≤ 8) {m s : Nat} (hm : m < T 0) (hs : s < 4) : f_X12_xBy I (nI m) (nI s) = some (pn_x (pt_goX T m s)) := by
  unfold f_X12_xBy pt_goX pt_gox
  simp (disch := omega) only [pn_l0, pn_l1, pn_l2, pn_l3, pn_l4, pn_l5, pn_l6, pn_l7, pn_l8, pn_l9, pn_l10, pn_l11, pn_l12, pn_l13, pn_l15, pn_l20, pn_l21, pn_l22, pn_l23, pn_l24, pn_l30, pn_l31, pn_l32, pn_l39, pn_l40, pn_l41, pn_l45, pn_l46, pn_l48, pn_l53, pn_l57, pn_l58, pn_l59, pn_l60, pn_l61, pn_l62, pn_l63, pn_l64, pn_l65, pn_l66, pn_l74, pn_l82, pn_l90, pn_l97, pn_l98, pn_l99, pn_l106, pn_l107, pn_l120, pn_l122, pn_l135, pn_l255, pn_l287, pn_l300, pn_l315, pn_l360, pn_l400, pn_l900, pn_l940, pn_l1000, pn_l1000000, pn_mone, nI_add, pk_mul, nI_clamp, bm_ixk, pn_ltI, pn_leI, pn_eqI, pn_xeq, pn_xeq2, pn_xx, pn_xltI, pn_xleI, pn_xgtI, pn_xgeI, pn_xadd, pn_subx, pn_addx, Option.bind_some, ↓reduceIte, hR, Nat.add_zero]
  by_cases h0 : s = 0
  · simp only [h0, ↓reduceIte]; rw [← pn_xs]
  · by_cases h2 : s = 2
    · simp only [h2, ↓reduceIte, Nat.reduceEqDiff]
    · simp only [h0, h2, ↓reduceIte]; rw [← pn_xs]
theorem pq_yBy (hR : pp_R I T) (h8 : T 0 ≤ 8) {m s : Nat} (hm : m < T 0) (hs : s < 4) : f_X12_yBy I (nI m) (nI s) = some (pn_x (pt_goY T m s)) := by
  unfold f_X12_yBy pt_goY pt_gox
  simp (disch := omega) only [pn_l0, pn_l1, pn_l2, pn_l3, pn_l4, pn_l5, pn_l6, pn_l7, pn_l8, pn_l9, pn_l10, pn_l11, pn_l12, pn_l13, pn_l15, pn_l20, pn_l21, pn_l22, pn_l23, pn_l24, pn_l30, pn_l31, pn_l32, pn_l39, pn_l40, pn_l41, pn_l45, pn_l46, pn_l48, pn_l53, pn_l57, pn_l58, pn_l59, pn_l60, pn_l61, pn_l62, pn_l63, pn_l64, pn_l65, pn_l66, pn_l74, pn_l82, pn_l90, pn_l97, pn_l98, pn_l99, pn_l106, pn_l107, pn_l120, pn_l122, pn_l135, pn_l255, pn_l287, pn_l300, pn_l315, pn_l360, pn_l400, pn_l900, pn_l940, pn_l1000, pn_l1000000, pn_mone, nI_add, pk_mul, nI_clamp, bm_ixk, pn_ltI, pn_leI, pn_eqI, pn_xeq, pn_xeq2, pn_xx, pn_xltI, pn_xleI, pn_xgtI, pn_xgeI, pn_xadd, pn_subx, pn_addx, Option.bind_some, ↓reduceIte, hR, Nat.add_zero]
  by_cases h0 : s = 1
  · simp only [h0, ↓reduceIte]; rw [← pn_xs]
  · by_cases h2 : s = 3
    · simp only [h2, ↓reduceIte, Nat.reduceEqDiff]
    · simp only [h0, h2, ↓reduceIte]; rw [← pn_xs]
theorem pq_whyGo (hR : pp_R I T) (h8 : T 0 ≤ 8) (hS : pt_VS T) {m s : Nat} (hm : m < T 0) (hs : s < 4) : (pt_can T m s → f_X12_whyGo I (nI m) (nI s) = some (nI 0)) ∧ (¬ pt_can T m s → f_X12_whyGo I (nI m) (nI s) = some (nI 1)) := by
  have hM := hS.2.2.2.2 m hm
  have hx : pt_goX T m s ≤ 32 := pt_gox_le hM.1
  have hy : pt_goY T m s ≤ 32 := pt_gox_le hM.2.1
  unfold f_X12_whyGo f_X12_isIn pt_can
  rw [pq_xBy hR h8 hm hs, pq_yBy hR h8 hm hs]
  simp (disch := omega) only [pn_l0, pn_l1, pn_l2, pn_l3, pn_l4, pn_l5, pn_l6, pn_l7, pn_l8, pn_l9, pn_l10, pn_l11, pn_l12, pn_l13, pn_l15, pn_l20, pn_l21, pn_l22, pn_l23, pn_l24, pn_l30, pn_l31, pn_l32, pn_l39, pn_l40, pn_l41, pn_l45, pn_l46, pn_l48, pn_l53, pn_l57, pn_l58, pn_l59, pn_l60, pn_l61, pn_l62, pn_l63, pn_l64, pn_l65, pn_l66, pn_l74, pn_l82, pn_l90, pn_l97, pn_l98, pn_l99, pn_l106, pn_l107, pn_l120, pn_l122, pn_l135, pn_l255, pn_l287, pn_l300, pn_l315, pn_l360, pn_l400, pn_l900, pn_l940, pn_l1000, pn_l1000000, pn_mone, nI_add, pk_mul, nI_clamp, bm_ixk, pn_ltI, pn_leI, pn_eqI, pn_xeq, pn_xeq2, pn_xx, pn_xltI, pn_xleI, pn_xgtI, pn_xgeI, pn_xadd, pn_subx, pn_addx, Option.bind_some, ↓reduceIte, Nat.le_zero]
  generalize pt_goX T m s = a at hx ⊢
  generalize pt_goY T m s = b at hy ⊢
  refine ⟨fun ⟨c1, c2, c3, c4⟩ => ?_, fun hc => ?_⟩
  · have g1 : ¬ a = 0 := by omega
    have g2 : ¬ 30 + 1 < a := by omega
    have g3 : ¬ b = 0 := by omega
    have g4 : ¬ 30 + 1 < b := by omega
    simp only [g1, g2, g3, g4, ↓reduceIte]
  · by_cases g1 : a = 0
    · simp [g1]
    · by_cases g2 : 30 + 1 < a
      · simp [g1, g2]
      · by_cases g3 : b = 0
        · simp [g1, g2, g3]
        · by_cases g4 : 30 + 1 < b
          · simp [g1, g2, g3, g4]
          · exact absurd ⟨by omega, by omega, by omega, by omega⟩ hc
theorem pq_goes (hR : pp_R I T) (h8 : T 0 ≤ 8) {m s : Nat} (hm : m < T 0) (hs : s < 4) (hc : pt_can T m s) : ∃ I', f_X12_goes I (nI m) (nI s) = some I' ∧ pp_R I' (pt_go T m s) ∧ rf_r I I' := by
  unfold f_X12_goes
  rw [pq_xBy hR h8 hm hs, pq_yBy hR h8 hm hs, pn_xp hc.1, pn_xp hc.2.2.1]
  simp (disch := omega) only [pn_l0, pn_l1, pn_l2, pn_l3, pn_l4, pn_l5, pn_l6, pn_l7, pn_l8, pn_l9, pn_l10, pn_l11, pn_l12, pn_l13, pn_l15, pn_l20, pn_l21, pn_l22, pn_l23, pn_l24, pn_l30, pn_l31, pn_l32, pn_l39, pn_l40, pn_l41, pn_l45, pn_l46, pn_l48, pn_l53, pn_l57, pn_l58, pn_l59, pn_l60, pn_l61, pn_l62, pn_l63, pn_l64, pn_l65, pn_l66, pn_l74, pn_l82, pn_l90, pn_l97, pn_l98, pn_l99, pn_l106, pn_l107, pn_l120, pn_l122, pn_l135, pn_l255, pn_l287, pn_l300, pn_l315, pn_l360, pn_l400, pn_l900, pn_l940, pn_l1000, pn_l1000000, pn_mone, nI_add, pk_mul, nI_clamp, bm_ixk, pn_ltI, pn_leI, pn_eqI, pn_xeq, pn_xeq2, pn_xx, pn_xltI, pn_xleI, pn_xgtI, pn_xgeI, pn_xadd, pn_subx, pn_addx, Option.bind_some, ↓reduceIte]
  exact ⟨_, rfl, pr_up (pr_up hR _ _) _ _, rf_trans (rf_up (by omega) (by omega)) (rf_up (by omega) (by omega))⟩
theorem kc_goBy (hQ : pp_S I 33 T) (h8 : T 0 ≤ 8) (hS : pt_VS T) {m s : Nat} (hm : m < T 0) (hs : s < 4) : (pt_can T m s → ∃ I', f_X8_goBy I (nI m) (nI s) = some (0, I') ∧ pp_S I' 33 (pt_go T m s) ∧ cf_r I I') ∧ (¬ pt_can T m s → f_X8_goBy I (nI m) (nI s) = some (1, I)) := by
  have hM := hS.2.2.2.2 m hm
  have hx : pt_goX T m s ≤ 32 := pt_gox_le hM.1
  have hy : pt_goY T m s ≤ 32 := pt_gox_le hM.2.1
  have key : f_X8_goBy I (nI m) (nI s) = if 1 ≤ pt_goX T m s ∧ pt_goX T m s ≤ 31 ∧ 1 ≤ pt_goY T m s ∧ pt_goY T m s ≤ 31 then some (0, bm_uI (bm_uI I 34 m (nI (pt_goX T m s - 1))) 35 m (nI (pt_goY T m s - 1))) else some (1, I) := by
    unfold f_X8_goBy pt_goX pt_goY pt_gox
    match s, hs with
    | 0, _ =>
      simp (disch := omega) only [pn_l0, pn_l1, pn_l2, pn_l3, pn_l4, pn_l5, pn_l6, pn_l7, pn_l8, pn_l9, pn_l10, pn_l11, pn_l12, pn_l13, pn_l15, pn_l20, pn_l21, pn_l22, pn_l23, pn_l24, pn_l30, pn_l31, pn_l32, pn_l39, pn_l40, pn_l41, pn_l45, pn_l46, pn_l48, pn_l53, pn_l57, pn_l58, pn_l59, pn_l60, pn_l61, pn_l62, pn_l63, pn_l64, pn_l65, pn_l66, pn_l74, pn_l82, pn_l90, pn_l97, pn_l98, pn_l99, pn_l106, pn_l107, pn_l120, pn_l122, pn_l135, pn_l255, pn_l287, pn_l300, pn_l315, pn_l360, pn_l400, pn_l900, pn_l940, pn_l1000, pn_l1000000, pn_mone, nI_add, pk_mul, nI_clamp, bm_ixk, pn_ltI, pn_leI, pn_eqI, pn_xeq, pn_xeq2, pn_xx, pn_xltI, pn_xleI, pn_xgtI, pn_xgeI, pn_xadd, pn_subx, pn_addx, Option.bind_some, ↓reduceIte, pg_asleep33 hQ, pg_sooted33 hQ, pg_pass33 hQ, pg_hour33 hQ, pg_lifts33 hQ, pg_x33 hQ, pg_y33 hQ, pg_heard33 hQ, pg_order33 hQ, pg_lost33 hQ, Nat.add_zero, Nat.not_lt_zero, Nat.reduceEqDiff]
      by_cases g : 30 < T (66 + m) + 1
      · rw [if_pos g, if_neg (by omega)]
      · rw [if_neg g, if_pos (by omega), if_pos (by omega)]; rfl
    | 1, _ =>
      simp (disch := omega) only [pn_l0, pn_l1, pn_l2, pn_l3, pn_l4, pn_l5, pn_l6, pn_l7, pn_l8, pn_l9, pn_l10, pn_l11, pn_l12, pn_l13, pn_l15, pn_l20, pn_l21, pn_l22, pn_l23, pn_l24, pn_l30, pn_l31, pn_l32, pn_l39, pn_l40, pn_l41, pn_l45, pn_l46, pn_l48, pn_l53, pn_l57, pn_l58, pn_l59, pn_l60, pn_l61, pn_l62, pn_l63, pn_l64, pn_l65, pn_l66, pn_l74, pn_l82, pn_l90, pn_l97, pn_l98, pn_l99, pn_l106, pn_l107, pn_l120, pn_l122, pn_l135, pn_l255, pn_l287, pn_l300, pn_l315, pn_l360, pn_l400, pn_l900, pn_l940, pn_l1000, pn_l1000000, pn_mone, nI_add, pk_mul, nI_clamp, bm_ixk, pn_ltI, pn_leI, pn_eqI, pn_xeq, pn_xeq2, pn_xx, pn_xltI, pn_xleI, pn_xgtI, pn_xgeI, pn_xadd, pn_subx, pn_addx, Option.bind_some, ↓reduceIte, pg_asleep33 hQ, pg_sooted33 hQ, pg_pass33 hQ, pg_hour33 hQ, pg_lifts33 hQ, pg_x33 hQ, pg_y33 hQ, pg_heard33 hQ, pg_order33 hQ, pg_lost33 hQ, Nat.add_zero, Nat.not_lt_zero, Nat.reduceEqDiff]
      by_cases g : T (74 + m) + 1 ≤ 30
      · rw [if_neg (by omega), if_pos g, if_pos (by omega)]; rfl
      · rw [if_neg (by omega), if_neg g, if_neg (by omega)]
    | 2, _ =>
      simp (disch := omega) only [pn_l0, pn_l1, pn_l2, pn_l3, pn_l4, pn_l5, pn_l6, pn_l7, pn_l8, pn_l9, pn_l10, pn_l11, pn_l12, pn_l13, pn_l15, pn_l20, pn_l21, pn_l22, pn_l23, pn_l24, pn_l30, pn_l31, pn_l32, pn_l39, pn_l40, pn_l41, pn_l45, pn_l46, pn_l48, pn_l53, pn_l57, pn_l58, pn_l59, pn_l60, pn_l61, pn_l62, pn_l63, pn_l64, pn_l65, pn_l66, pn_l74, pn_l82, pn_l90, pn_l97, pn_l98, pn_l99, pn_l106, pn_l107, pn_l120, pn_l122, pn_l135, pn_l255, pn_l287, pn_l300, pn_l315, pn_l360, pn_l400, pn_l900, pn_l940, pn_l1000, pn_l1000000, pn_mone, nI_add, pk_mul, nI_clamp, bm_ixk, pn_ltI, pn_leI, pn_eqI, pn_xeq, pn_xeq2, pn_xx, pn_xltI, pn_xleI, pn_xgtI, pn_xgeI, pn_xadd, pn_subx, pn_addx, Option.bind_some, ↓reduceIte, pg_asleep33 hQ, pg_sooted33 hQ, pg_pass33 hQ, pg_hour33 hQ, pg_lifts33 hQ, pg_x33 hQ, pg_y33 hQ, pg_heard33 hQ, pg_order33 hQ, pg_lost33 hQ, Nat.add_zero, Nat.not_lt_zero, Nat.reduceEqDiff]
      by_cases g : T (66 + m) ≤ 0
      · rw [if_pos g, if_neg (by omega)]
      · rw [if_neg g, if_neg (by omega), if_pos (by omega), if_pos (by omega), pn_xp (by omega)]; rfl
    | 3, _ =>
      simp (disch := omega) only [pn_l0, pn_l1, pn_l2, pn_l3, pn_l4, pn_l5, pn_l6, pn_l7, pn_l8, pn_l9, pn_l10, pn_l11, pn_l12, pn_l13, pn_l15, pn_l20, pn_l21, pn_l22, pn_l23, pn_l24, pn_l30, pn_l31, pn_l32, pn_l39, pn_l40, pn_l41, pn_l45, pn_l46, pn_l48, pn_l53, pn_l57, pn_l58, pn_l59, pn_l60, pn_l61, pn_l62, pn_l63, pn_l64, pn_l65, pn_l66, pn_l74, pn_l82, pn_l90, pn_l97, pn_l98, pn_l99, pn_l106, pn_l107, pn_l120, pn_l122, pn_l135, pn_l255, pn_l287, pn_l300, pn_l315, pn_l360, pn_l400, pn_l900, pn_l940, pn_l1000, pn_l1000000, pn_mone, nI_add, pk_mul, nI_clamp, bm_ixk, pn_ltI, pn_leI, pn_eqI, pn_xeq, pn_xeq2, pn_xx, pn_xltI, pn_xleI, pn_xgtI, pn_xgeI, pn_xadd, pn_subx, pn_addx, Option.bind_some, ↓reduceIte, pg_asleep33 hQ, pg_sooted33 hQ, pg_pass33 hQ, pg_hour33 hQ, pg_lifts33 hQ, pg_x33 hQ, pg_y33 hQ, pg_heard33 hQ, pg_order33 hQ, pg_lost33 hQ, Nat.add_zero, Nat.not_lt_zero, Nat.reduceEqDiff]
      by_cases g : T (74 + m) ≤ 0
      · rw [if_neg (by omega), if_pos g, if_neg (by omega)]
      · rw [if_neg (by omega), if_neg g, if_pos (by omega), if_pos (by omega), pn_xp (by omega)]; rfl
    | s + 4, hs => omega
  rw [key]
  refine ⟨fun hc => ?_, fun hc => ?_⟩
  · rw [if_pos (show 1 ≤ pt_goX T m s ∧ pt_goX T m s ≤ 31 ∧ 1 ≤ pt_goY T m s ∧ pt_goY T m s ≤ 31 from hc)]
    refine ⟨_, rfl, ?_, cf_trans (cf_up (by omega) (by omega)) (cf_up (by omega) (by omega))⟩
    unfold pt_go
    rw [tu_comm (by omega)]
    exact ps_y (by rw [tu_ne (by omega)]; exact h8) (ps_x h8 hQ (by omega) _) (by omega) _
  · rw [if_neg (show ¬ (1 ≤ pt_goX T m s ∧ pt_goX T m s ≤ 31 ∧ 1 ≤ pt_goY T m s ∧ pt_goY T m s ≤ 31) from hc)]
end GO
