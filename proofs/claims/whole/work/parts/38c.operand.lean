/-! a sentence: an operand of the reference -/
def sn_lf (Y : bm_TI) (J : bm_TJ) (l : Int32) : Option (Bool × bm_TI × bm_TJ) := (if 5 ≤ l then (if 8 ≤ l then (if (Y 164 11) = 3 then (if (Y 164 14) < 60 then ((f_X12_bad Y 1).bind fun v15 => some (v15.1, v15.2, J)) else (if (Y 164 14) ≤ 62 then ((f_X12_next Y J).bind fun v17 => (if (v17.1 164 11) = 2 then ((f_X12_putCode v17.1 l (Y 164 14) (v17.1 164 14)).bind fun v19 => ((f_X12_next v19 v17.2).bind fun v21 => some (true, v21.1, v21.2))) else ((f_X12_bad v17.1 1).bind fun v23 => some (v23.1, v23.2, v17.2)))) else ((f_X12_bad Y 1).bind fun v25 => some (v25.1, v25.2, J)))) else ((f_X12_bad Y 1).bind fun v13 => some (v13.1, v13.2, J))) else (if 7 ≤ l then ((f_X12_looksAt Y J 8 (Y 166 1)).bind fun v27 => (if v27.1 = true then ((f_X12_putCode v27.2 l 0 (v27.2 164 18)).bind fun v29 => ((f_X12_next v29 J).bind fun v31 => some (true, v31.1, v31.2))) else some (false, v27.2, J))) else ((f_X12_looksAt Y J 0 (Y 166 0)).bind fun v33 => (if v33.1 = true then ((f_X12_putCode v33.2 l 0 (v33.2 164 18)).bind fun v35 => ((f_X12_next v35 J).bind fun v37 => some (true, v37.1, v37.2))) else some (false, v33.2, J))))) else ((f_X12_putCode Y l 0 0).bind fun v39 => some (true, v39, J)))
def sn_ps (I : bm_TI) (J : bm_TJ) (x : Int32) : Option (Bool × bm_TI × bm_TJ) := (if bm_ix 45 (I 164 40) = true then some (true, (bm_uI (bm_uI (bm_uI I 176 ((I 164 40).toNatClampNeg) x) 164 40 (((bm_uI I 176 ((I 164 40).toNatClampNeg) x) 164 40) + 1)) 164 41 (((bm_uI (bm_uI I 176 ((I 164 40).toNatClampNeg) x) 164 40 (((bm_uI I 176 ((I 164 40).toNatClampNeg) x) 164 40) + 1)) 164 41) + 1)), J) else none)
section OP
variable {I : bm_TI} {J : bm_TJ} {b : Bool} {l : Int32}
theorem op_not (hW : f_X12_isWord I J 7237492 = some true) (hS : f_X12_isSign I 40 = some b) (hL : f_X12_leafOf I J = some l) : f_X12_operand I J = (if (I 164 39) = 20 then ((f_X12_bad I 4).bind fun v => some (v.1, v.2, J)) else (if (I 164 41) ≤ 8 then ((f_X12_next (bm_uI I 164 39 ((I 164 39) + 1)) J).bind fun v => sn_ps v.1 v.2 20) else ((f_X12_bad I 4).bind fun v => some (v.1, v.2, J)))) := by
  unfold f_X12_operand sn_ps
  rw [hW, hS, hL]
  simp only [Option.bind_some, ↓reduceIte]
theorem op_open (hW : f_X12_isWord I J 7237492 = some false) (hS : f_X12_isSign I 40 = some true) (hL : f_X12_leafOf I J = some l) : f_X12_operand I J = (if (I 164 39) = 20 then ((f_X12_bad I 4).bind fun v => some (v.1, v.2, J)) else (if (I 164 41) ≤ 8 then ((f_X12_next (bm_uI I 164 39 ((I 164 39) + 1)) J).bind fun v => sn_ps v.1 v.2 23) else ((f_X12_bad I 4).bind fun v => some (v.1, v.2, J)))) := by
  unfold f_X12_operand sn_ps
  rw [hW, hS, hL]
  simp only [Option.bind_some, ↓reduceIte, Bool.false_eq_true]
theorem op_leaf (hW : f_X12_isWord I J 7237492 = some false) (hS : f_X12_isSign I 40 = some false) (hL : f_X12_leafOf I J = some l) (hl : 0 ≤ l) : f_X12_operand I J = (if (I 164 39) = 20 then ((f_X12_bad I 4).bind fun v => some (v.1, v.2, J)) else (if (I 164 41) ≤ 8 then ((f_X12_next (bm_uI I 164 39 ((I 164 39) + 1)) J).bind fun v => sn_lf (bm_uI v.1 164 42 (bm_bi true)) v.2 l) else ((f_X12_bad I 4).bind fun v => some (v.1, v.2, J)))) := by
  unfold f_X12_operand sn_lf
  rw [hW, hS, hL]
  simp only [Option.bind_some, ↓reduceIte, Bool.false_eq_true]
  rw [if_pos hl]
theorem op_bad (hW : f_X12_isWord I J 7237492 = some false) (hS : f_X12_isSign I 40 = some false) (hL : f_X12_leafOf I J = some l) (hl : ¬ 0 ≤ l) : f_X12_operand I J = ((f_X12_bad I 1).bind fun v => some (v.1, v.2, J)) := by
  unfold f_X12_operand
  rw [hW, hS, hL]
  simp only [Option.bind_some, ↓reduceIte, Bool.false_eq_true]
  rw [if_neg hl]
end OP
section OQ
variable {n lim p : Nat} {B : Nat → Nat} {c : zc_C} {r : zc_R}
theorem lf_tab : ∀ v, v < 34 → (if v = 22 then some (0 : Int32) else if v = 23 then some 1 else if v = 24 then some 2 else if v = 25 then some 3 else if v = 26 then some 4 else if v = 27 then some 5 else if v = 28 then some 6 else if v = 29 then some 7 else if v = 30 then some 8 else if v = 31 then some 9 else if v = 32 then some 10 else if v = 33 then some 11 else some (-1)) = some (if 22 ≤ v then nI (v - 22) else -1) := by decide +kernel
/-- which leaf it is -/
theorem zz_leaf (h : zz_P n lim B p c r) : f_X12_leafOf r.1 r.2 = some (if (lx B n lim p).1 = 4 ∧ 22 ≤ (lx B n lim p).2.1 then nI ((lx B n lim p).2.1 - 22) else -1) := by
  have hb := zz_lx h
  unfold f_X12_leafOf
  rw [zz_isW h (i := 22) (by omega) (by decide +kernel), zz_isW h (i := 23) (by omega) (by decide +kernel), zz_isW h (i := 24) (by omega) (by decide +kernel), zz_isW h (i := 25) (by omega) (by decide +kernel), zz_isW h (i := 26) (by omega) (by decide +kernel), zz_isW h (i := 27) (by omega) (by decide +kernel), zz_isW h (i := 28) (by omega) (by decide +kernel), zz_isW h (i := 29) (by omega) (by decide +kernel), zz_isW h (i := 30) (by omega) (by decide +kernel), zz_isW h (i := 31) (by omega) (by decide +kernel), zz_isW h (i := 32) (by omega) (by decide +kernel), zz_isW h (i := 33) (by omega) (by decide +kernel)]
  simp only [Option.bind_some, decide_eq_true_eq]
  by_cases k : (lx B n lim p).1 = 4
  · simp only [k, true_and]
    exact lf_tab _ (hb.2.2.1 k)
  · simp only [k, false_and, ↓reduceIte]
theorem zz_tok3 (h : zz_P n lim B p c r) : (r.1 164 11 = 3) = ((lx B n lim p).1 = 2 ∧ tk_s (lx B n lim p).2.1 = true) := by
  rw [h.2.2.2.2.2.2.1.2.2.1]
  have := tk_k4 (lx B n lim p)
  show (nI _ = nI 3) = _
  rw [pn_eqI (by omega) (by omega)]
  unfold tk_k
  refine propext ⟨fun q => ?_, fun q => ?_⟩
  · split at q
    · omega
    · split at q
      · omega
      · split at q
        · split at q
          · exact ⟨by assumption, by assumption⟩
          · omega
        · split at q <;> omega
  · rw [q.1, q.2]; rfl
theorem zz_tok2 (h : zz_P n lim B p c r) : (r.1 164 11 = 2) = ((lx B n lim p).1 = 3) := by
  rw [h.2.2.2.2.2.2.1.2.2.1]
  have := tk_k4 (lx B n lim p)
  show (nI _ = nI 2) = _
  rw [pn_eqI (by omega) (by omega)]
  unfold tk_k
  refine propext ⟨fun q => ?_, fun q => ?_⟩
  · split at q
    · omega
    · split at q
      · omega
      · split at q
        · split at q <;> omega
        · split at q
          · assumption
          · omega
  · rw [q]; rfl
end OQ
/-! a sentence: one code more, in both -/
theorem sC_add {S : pt_T} {m cd a b : Nat} {c : zc_C} (h : sn_C S m c) (hm : m < 40) (hq : qt_w cd < 34) : ∃ I' W', f_X7_add c.1 c.2.2 (some (1000 + qt_w cd)) (nI a) (nI b) = some (I', W') ∧ (∀ J, sn_C (sn_u S m cd b a) (m + 1) (I', J, W')) ∧ (∀ o k, (o ≠ 156 ∨ k ≠ 4) → o ≠ 158 → o ≠ 159 → I' o k = c.1 o k) ∧ ∀ o k, o ≠ 157 → W' o k = c.2.2 o k := by
  have hiw : bm_iwq (some (1000 + qt_w cd)) = true := by
    show (decide _ && decide _) = true
    rw [decide_eq_true (by omega), decide_eq_true (by omega)]; rfl
  have h4 := h.1
  have g1 : ∀ v, bm_uI c.1 158 m v 156 4 = nI m := fun v => by rw [pn_uI_ne (by omega)]; exact h4
  have g2 : ∀ v w, bm_uI (bm_uI c.1 158 m v) 159 m w 156 4 = nI m := fun v w => by rw [pn_uI_ne (by omega)]; exact g1 v
  unfold f_X7_add
  rw [h4, if_neg (show ¬ (40 : Int32) ≤ nI m from nI_ge (b := 40) (by omega) (by omega)), if_pos (bm_ixk hm (by omega)), if_pos hiw, nI_clamp (by omega), g1, if_pos (bm_ixk hm (by omega)), nI_clamp (by omega), g2, nI_1]
  refine ⟨_, _, rfl, fun J => ⟨by dsimp only; exact pn_uI_hit rfl, fun i hi => ?_⟩, fun o k h1 h2 h3 => ?_, fun o k ho => pn_uW_off (Or.inl ho)⟩
  · dsimp only
    by_cases e : i = m
    · subst e
      rw [su_0, su_1, su_2, pn_uI_ne (by omega), pn_uI_ne (by omega), pn_uI_hit rfl, pn_uI_ne (by omega), pn_uI_hit rfl, pn_uW_hit rfl]
      exact ⟨rfl, rfl, rfl⟩
    · rw [su_lt (by omega), su_lt (by omega), su_lt (by omega), pn_uI_ne (by omega), pn_uI_ne (by omega), pn_uI_ne2 e, pn_uI_ne (by omega), pn_uI_ne2 e, pn_uW_off (Or.inr e)]
      exact h.2 i (by omega)
  · rw [pn_uI_off (by omega), pn_uI_ne h3, pn_uI_ne h2]
theorem sR_put {S : pt_T} {m t o d l b e : Nat} {w : Int32} {I : bm_TI} (h : sn_R S m t [] o d w I) (hm : m < 45) : ∃ I', f_X12_putCode I (nI l) (nI b) (nI e) = some I' ∧ sn_R (sn_u S m l b e) (m + 1) t [] o d w I' ∧ sn_F I I' ∧ I' 164 18 = I 164 18 := by
  obtain ⟨h1, h2, h3, _, h5, h7, h9⟩ := h
  obtain ⟨I', e1, q1, q2, q3, q4, ef⟩ := pq_put (I := I) (a := l) (b := b) (e := e) h1 hm
  refine ⟨I', e1, ⟨q1, fun i hi => ?_, ?_, trivial, ?_, ?_, ?_⟩, fun o k ho h8 => ef o k (by omega) (by omega), ef 164 18 (by omega) (by omega)⟩
  · by_cases q : i = m
    · subst q; rw [su_0, su_1, su_2]; exact ⟨q2, q3, q4⟩
    · rw [su_lt (by omega), su_lt (by omega), su_lt (by omega), ef 168 _ (by omega) (by omega), ef 168 _ (by omega) (by omega), ef 168 _ (by omega) (by omega)]; exact h2 i (by omega)
  · rw [ef 164 40 (by omega) (by omega)]; exact h3
  · rw [ef 164 39 (by omega) (by omega)]; exact h5
  · rw [ef 164 41 (by omega) (by omega)]; exact h7
  · rw [ef 164 42 (by omega) (by omega)]; exact h9
