/-- what it does with the token that begins there -/
def nx_b (X : bm_TI) (J : bm_TJ) : Option (bm_TI × bm_TJ) := ((f_X12_peek X).bind fun v4 => (if 0 ≤ v4 then (if (f_X12_isSmall v4) = true then ((f_X12_next_l181 (f_X12_isSmall v4) 1000 true (bm_uI X 164 14 0) (bm_uJ J 164 17 0)).bind fun y8 => (if y8.1 = true then (if (f_X12_isSmall v4) = true then (if (y8.2.1 164 13) ≤ 7 then (if (f_X12_isSmall v4) = true then some ((bm_uI y8.2.1 164 11 1), y8.2.2) else some ((bm_uI y8.2.1 164 11 2), y8.2.2)) else some ((bm_uI y8.2.1 164 11 4), y8.2.2)) else (if (y8.2.1 164 13) ≤ 3 then (if (f_X12_isSmall v4) = true then some ((bm_uI y8.2.1 164 11 1), y8.2.2) else some ((bm_uI y8.2.1 164 11 2), y8.2.2)) else some ((bm_uI y8.2.1 164 11 4), y8.2.2))) else some ((bm_uI y8.2.1 164 11 4), y8.2.2))) else (if (f_X12_isDigit v4) = true then ((f_X12_next_l181 (f_X12_isSmall v4) 1000 true (bm_uI X 164 14 0) (bm_uJ J 164 17 0)).bind fun y11 => (if y11.1 = true then (if (f_X12_isSmall v4) = true then (if (y11.2.1 164 13) ≤ 7 then (if (f_X12_isSmall v4) = true then some ((bm_uI y11.2.1 164 11 1), y11.2.2) else some ((bm_uI y11.2.1 164 11 2), y11.2.2)) else some ((bm_uI y11.2.1 164 11 4), y11.2.2)) else (if (y11.2.1 164 13) ≤ 3 then (if (f_X12_isSmall v4) = true then some ((bm_uI y11.2.1 164 11 1), y11.2.2) else some ((bm_uI y11.2.1 164 11 2), y11.2.2)) else some ((bm_uI y11.2.1 164 11 4), y11.2.2))) else some ((bm_uI y11.2.1 164 11 4), y11.2.2))) else (if v4 = 59 then some ((bm_uI (bm_uI (bm_uI X 164 11 3) 164 14 v4) 164 4 (((bm_uI (bm_uI X 164 11 3) 164 14 v4) 164 4) + 1)), J) else (if v4 = 40 then some ((bm_uI (bm_uI (bm_uI X 164 11 3) 164 14 v4) 164 4 (((bm_uI (bm_uI X 164 11 3) 164 14 v4) 164 4) + 1)), J) else (if v4 = 41 then some ((bm_uI (bm_uI (bm_uI X 164 11 3) 164 14 v4) 164 4 (((bm_uI (bm_uI X 164 11 3) 164 14 v4) 164 4) + 1)), J) else (if v4 < 60 then some ((bm_uI (bm_uI (bm_uI X 164 11 4) 164 14 v4) 164 4 (((bm_uI (bm_uI X 164 11 4) 164 14 v4) 164 4) + 1)), J) else (if 62 < v4 then some ((bm_uI (bm_uI (bm_uI X 164 11 4) 164 14 v4) 164 4 (((bm_uI (bm_uI X 164 11 4) 164 14 v4) 164 4) + 1)), J) else some ((bm_uI (bm_uI (bm_uI X 164 11 3) 164 14 v4) 164 4 (((bm_uI (bm_uI X 164 11 3) 164 14 v4) 164 4) + 1)), J)))))))) else some ((bm_uI X 164 11 0), J)))
def nx_e (sm : Bool) (y : Bool × bm_TI × bm_TJ) : bm_TI × bm_TJ := (bm_uI y.2.1 164 11 (nI (if y.1 = true ∧ y.2.1 164 13 ≤ (if sm = true then 7 else 3) then (if sm = true then 1 else 2) else 4)), y.2.2)
theorem nx_run {X : bm_TI} {J : bm_TJ} {c : Int32} (h : f_X12_peek X = some c) (h0 : 0 ≤ c) (ha : (f_X12_isSmall c || f_X12_isDigit c) = true) : nx_b X J = (f_X12_next_l181 (f_X12_isSmall c) 1000 true (bm_uI X 164 14 0) (bm_uJ J 164 17 0)).bind fun y => some (nx_e (f_X12_isSmall c) y) := by
  unfold nx_b
  rw [h]
  simp only [Option.bind_some]
  rw [if_pos h0]
  have hy : ∀ y : Bool × bm_TI × bm_TJ, (if y.1 = true then (if (f_X12_isSmall c) = true then (if (y.2.1 164 13) ≤ 7 then (if (f_X12_isSmall c) = true then some ((bm_uI y.2.1 164 11 1), y.2.2) else some ((bm_uI y.2.1 164 11 2), y.2.2)) else some ((bm_uI y.2.1 164 11 4), y.2.2)) else (if (y.2.1 164 13) ≤ 3 then (if (f_X12_isSmall c) = true then some ((bm_uI y.2.1 164 11 1), y.2.2) else some ((bm_uI y.2.1 164 11 2), y.2.2)) else some ((bm_uI y.2.1 164 11 4), y.2.2))) else some ((bm_uI y.2.1 164 11 4), y.2.2)) = some (nx_e (f_X12_isSmall c) y) := by
    intro y
    unfold nx_e
    obtain ⟨y1, y2, y3⟩ := y
    cases f_X12_isSmall c <;> cases y1 <;> by_cases h7 : y2 164 13 ≤ 7 <;> by_cases h3 : y2 164 13 ≤ 3 <;> simp [h7, h3] <;> rfl
  simp only [hy]
  cases hs : f_X12_isSmall c
  · rw [hs, Bool.false_or] at ha
    rw [ha]; simp
  · simp
theorem nx_sign {X : bm_TI} {J : bm_TJ} {b : Nat} (hb : b < 256) (h : f_X12_peek X = some (nI b)) (ha : (f_X12_isSmall (nI b) || f_X12_isDigit (nI b)) = false) : nx_b X J = some (bm_uI (bm_uI (bm_uI X 164 11 (nI (if tk_s b = true then 3 else 4))) 164 14 (nI b)) 164 4 (X 164 4 + 1), J) := by
  unfold nx_b
  rw [h]
  simp only [Option.bind_some]
  rw [Bool.or_eq_false_iff] at ha
  rw [if_pos (show (0 : Int32) ≤ nI b from nI_le (a := 0) (by omega) (by omega)), ha.1, ha.2, if_neg (by decide), if_neg (by decide)]
  simp (disch := omega) only [pn_l0, pn_l1, pn_l2, pn_l3, pn_l4, pn_l5, pn_l6, pn_l7, pn_l8, pn_l9, pn_l10, pn_l11, pn_l12, pn_l13, pn_l15, pn_l20, pn_l21, pn_l22, pn_l23, pn_l24, pn_l30, pn_l31, pn_l32, pn_l39, pn_l40, pn_l41, pn_l45, pn_l46, pn_l48, pn_l53, pn_l57, pn_l58, pn_l59, pn_l60, pn_l61, pn_l62, pn_l63, pn_l64, pn_l65, pn_l66, pn_l74, pn_l82, pn_l90, pn_l97, pn_l98, pn_l99, pn_l106, pn_l107, pn_l120, pn_l122, pn_l135, pn_l255, pn_l287, pn_l300, pn_l315, pn_l360, pn_l400, pn_l900, pn_l940, pn_l1000, pn_l1000000, pn_mone, nI_add, pk_mul, nI_clamp, bm_ixk, pn_ltI, pn_leI, pn_eqI, pn_xeq, pn_xeq2, pn_xx, pn_xltI, pn_xleI, pn_xgtI, pn_xgeI, pn_xadd, pn_subx, pn_addx, Option.bind_some, ↓reduceIte, pn_uI_ne2]
  unfold tk_s
  by_cases h1 : b = 59
  · rw [if_pos h1, decide_eq_true h1]; rfl
  · rw [if_neg h1, decide_eq_false h1]
    by_cases h2 : b = 40
    · rw [if_pos h2, decide_eq_true h2]; rfl
    · rw [if_neg h2, decide_eq_false h2]
      by_cases h3 : b = 41
      · rw [if_pos h3, decide_eq_true h3]; rfl
      · rw [if_neg h3, decide_eq_false h3]
        by_cases h4 : b < 60
        · rw [if_pos h4, decide_eq_false (show ¬ 60 ≤ b by omega)]; rfl
        · rw [if_neg h4, decide_eq_true (show 60 ≤ b by omega)]
          by_cases h5 : 62 < b
          · rw [if_pos h5, decide_eq_false (show ¬ b ≤ 62 by omega)]; rfl
          · rw [if_neg h5, decide_eq_true (show b ≤ 62 by omega)]; rfl
section LS
variable {I : bm_TI} {J : bm_TJ} {n lim : Nat} {B : Nat → Nat}
theorem pq_next (hn : n ≤ 940) (hlim : lim ≤ 940) (hc : tk_d I n lim B) {p : Nat} (hp : p ≤ n) (h4 : I 164 4 = nI p) : ∃ I' J', f_X12_next I J = some (I', J') ∧ tk_Q I' J' (lx B n lim p) ∧ rk_I I I' ∧ rk_J J J' := by
  have hbd := le_bd (pr := lc_b) (B := B) (n := n) (n - p) p (by omega)
  obtain ⟨I1, e1, r4, f1⟩ := pq_skip hn hc (n - p) p 1000 I (by omega) (by omega) h4 (fun _ _ _ => rfl)
  generalize hs : lx_e lc_b B n p = s at hbd r4
  have hX : ∀ (X : bm_TI), X = bm_uI (bm_uI I1 164 12 (I1 164 4)) 164 13 0 → X 164 4 = nI s ∧ X 164 12 = nI s ∧ X 164 13 = nI 0 ∧ X 164 3 = nI n ∧ X 164 5 = nI lim ∧ tk_d X n lim B ∧ rk_I I X := fun X h => by
    have fr : rk_I I X := fun o k ho => by rw [h, pn_uI_off (by omega), pn_uI_off (by omega), f1 o k (by omega)]
    refine ⟨by rw [h, pn_uI_ne2 (by omega), pn_uI_ne2 (by omega)]; exact r4, by rw [h, pn_uI_ne2 (by omega), pn_uI_hit rfl]; exact r4, by rw [h, pn_uI_hit rfl]; rfl, by rw [fr 164 3 (by omega)]; exact hc.1, by rw [fr 164 5 (by omega)]; exact hc.2.2, ⟨by rw [fr 164 3 (by omega)]; exact hc.1, fun k hk => by rw [fr 165 k (by omega)]; exact hc.2.1 k hk, by rw [fr 164 5 (by omega)]; exact hc.2.2⟩, fr⟩
  unfold f_X12_next
  rw [e1]
  simp only [Option.bind_some]
  generalize hX' : bm_uI (bm_uI I1 164 12 (I1 164 4)) 164 13 0 = X
  obtain ⟨a4, a12, a13, a3, a5, ac, fr⟩ := hX X hX'.symm
  show ∃ I' J', (if X 164 3 ≤ X 164 5 then nx_b X J else if X 164 4 < X 164 5 then nx_b X J else some (bm_uI (bm_uI X 164 12 (X 164 5)) 164 11 4, J)) = some (I', J') ∧ _
  have body : ¬ (lim < n ∧ lim ≤ s) → ∃ I' J', nx_b X J = some (I', J') ∧ tk_Q I' J' (lx B n lim p) ∧ rk_I I I' ∧ rk_J J J' := by
    intro hl1
    by_cases hsn : s < n
    · have hb := ac.2.1 s hsn
      have hpk := pq_peekA ac hn rfl rfl a4 hsn
      cases ha : lc_a (B s)
      · have ha' : (f_X12_isSmall (nI (B s)) || f_X12_isDigit (nI (B s))) = false := by rw [pq_small (by omega), pq_digit (by omega)]; exact ha
        rw [nx_sign hb.1 hpk ha', a4, nI_1]
        have el : lx B n lim p = (2, B s, [], s, s + 1) := by unfold lx; rw [hs, if_neg hl1, if_neg (show ¬ n ≤ s by omega), if_neg (by rw [ha]; decide)]
        rw [el]
        refine ⟨_, _, rfl, ⟨pn_uI_hit rfl, by rw [pn_uI_ne2 (by omega), pn_uI_ne2 (by omega), pn_uI_ne2 (by omega)]; exact a12, by rw [pn_uI_ne2 (by omega), pn_uI_ne2 (by omega), pn_uI_hit rfl]; rfl, fun _ => by rw [pn_uI_ne2 (by omega), pn_uI_hit rfl], fun h => absurd (show (2 : Nat) = 3 from h) (by decide), fun h => absurd (show (4 : Nat) ≤ 2 from h) (by decide)⟩, fun o k ho => by rw [pn_uI_off (by omega), pn_uI_off (by omega), pn_uI_off (by omega)]; exact fr o k ho, fun _ _ _ => rfl⟩
      · have ha' : (f_X12_isSmall (nI (B s)) || f_X12_isDigit (nI (B s))) = true := by rw [pq_small (by omega), pq_digit (by omega)]; exact ha
        rw [nx_run hpk (show (0 : Int32) ≤ nI (B s) from nI_le (a := 0) (by omega) (by omega)) ha', pq_small (by omega)]
        have c0 : tk_d (bm_uI X 164 14 0) n lim B := ⟨by rw [pn_uI_ne2 (by omega)]; exact a3, fun k hk => by rw [pn_uI_ne (by omega)]; exact ac.2.1 k hk, by rw [pn_uI_ne2 (by omega)]; exact a5⟩
        obtain ⟨I2, J2, e2, q4, q13, q14, q17, f2, g2⟩ := pq_run (J := bm_uJ J 164 17 0) hn c0 (s := s) (lc_l (B s)) (n - s) 0 1000 (bm_uI X 164 14 0) (bm_uJ J 164 17 0) (by omega) (by omega) (by rw [pn_uI_ne2 (by omega)]; exact a4) (by rw [pn_uI_ne2 (by omega)]; exact a13) (pn_uI_hit rfl) (pn_uJ_hit rfl) (fun _ _ _ => rfl) (fun _ _ _ => rfl)
        rw [Nat.add_zero] at e2 q4 q13 q14 q17
        have e2' : f_X12_next_l181 (lc_l (B s)) 1000 true (bm_uI X 164 14 0) (bm_uJ J 164 17 0) = _ := e2
        rw [e2']
        simp only [Option.bind_some]
        have hbe := le_bd (pr := lc_a) (B := B) (n := n) (n - s) s (by omega)
        have hes : s < lx_e lc_a B n s := by
          rcases Nat.lt_or_ge s (lx_e lc_a B n s) with h | h
          · exact h
          · have e1 : lx_e lc_a B n s = s := by omega
            have := hbe.2.2.2 (by omega)
            rw [e1, ha] at this; cases this
        have fI : rk_I I I2 := fun o k ho => by rw [f2 o k (by omega), pn_uI_off (by omega)]; exact fr o k ho
        have fJ : rk_J J J2 := fun o k ho => by rw [g2 o k ho, pn_uJ_off ho]
        have q12 : I2 164 12 = nI s := by rw [f2 164 12 (by omega), pn_uI_ne2 (by omega)]; exact a12
        unfold lx
        rw [hs, if_neg hl1, if_neg (show ¬ n ≤ s by omega), if_pos ha]
        generalize he : lx_e lc_a B n s = e at hbe q4 q13 q14 q17 hes ⊢
        have hall : ∀ j, j < e - s → lc_a (B (s + j)) = true := fun j hj => hbe.2.2.1 (s + j) (by omega) (by omega)
        have hcl := pt_cnt_le (e - s) (fun i => lc_l (B (s + i)))
        have fz : ∀ v, rk_I I (bm_uI I2 164 11 v) := fun v o k ho => by rw [pn_uI_off (by omega)]; exact fI o k ho
        unfold nx_e
        simp only []
        have l7 : (I2 164 13 ≤ 7) = (e - s ≤ 7) := by rw [q13]; exact pn_leI (b := 7) (by omega) (by omega)
        have l3 : (I2 164 13 ≤ 3) = (e - s ≤ 3) := by rw [q13]; exact pn_leI (b := 3) (by omega) (by omega)
        have bad : tk_Q (bm_uI I2 164 11 (nI 4)) J2 (1, 0, [], s, e) := ⟨by rw [pn_uI_ne2 (by omega)]; exact q4, by rw [pn_uI_ne2 (by omega)]; exact q12, pn_uI_hit rfl, fun h => absurd (show (1 : Nat) = 2 from h) (by decide), fun h => absurd (show (1 : Nat) = 3 from h) (by decide), fun h => absurd (show (4 : Nat) ≤ 1 from h) (by decide)⟩
        cases hl : lc_l (B s)
        · -- a digit
          rw [lr_aF]
          simp only [↓reduceIte, l3, decide_eq_true_eq, Bool.false_eq_true]
          have hnl : ¬ (pt_cnt (e - s) (fun i => lc_l (B (s + i))) = e - s ∧ e - s ≤ 7) := fun h => by
            have := pt_cnt_all h.1 0 (by omega)
            rw [show lc_l (B (s + 0)) = lc_l (B s) from rfl, hl] at this; cases this
          rw [if_neg hnl]
          by_cases c5 : pt_cnt (e - s) (fun i => lc_l (B (s + i))) = 0 ∧ e - s ≤ 3
          · rw [if_pos c5, if_pos c5]
            refine ⟨_, _, rfl, ⟨by rw [pn_uI_ne2 (by omega)]; exact q4, by rw [pn_uI_ne2 (by omega)]; exact q12, pn_uI_hit rfl, fun h => absurd (show (3 : Nat) = 2 from h) (by decide), fun _ => ?_, fun h => absurd (show (4 : Nat) ≤ 3 from h) (by decide)⟩, fz _, fJ⟩
            rw [pn_uI_ne2 (by omega), q14]
            exact lr_dv s (e - s) c5.2 (fun j hj => by
              have z1 := pt_cnt_none c5.1 j hj
              have z2 := hall j hj
              unfold lc_a at z2
              rw [show lc_l (B (s + j)) = false from z1, Bool.false_or] at z2
              exact z2)
          · rw [if_neg c5, if_neg c5]
            exact ⟨_, _, rfl, bad, fz _, fJ⟩
        · -- a letter
          rw [lr_aT]
          simp only [↓reduceIte, l7, decide_eq_true_eq]
          have hnz : ¬ (pt_cnt (e - s) (fun i => lc_l (B (s + i))) = 0 ∧ e - s ≤ 3) := fun h => by
            have := pt_cnt_none h.1 0 (by omega)
            rw [show lc_l (B (s + 0)) = lc_l (B s) from rfl, hl] at this; cases this
          by_cases c4 : pt_cnt (e - s) (fun i => lc_l (B (s + i))) = e - s ∧ e - s ≤ 7
          · rw [if_pos c4, if_pos c4]
            by_cases c3 : wd_f (lx_l B s (e - s)) = 0
            · rw [if_pos c3]
              exact ⟨_, _, rfl, ⟨by rw [pn_uI_ne2 (by omega)]; exact q4, by rw [pn_uI_ne2 (by omega)]; exact q12, pn_uI_hit rfl, fun h => absurd (show (5 : Nat) = 2 from h) (by decide), fun h => absurd (show (5 : Nat) = 3 from h) (by decide), fun _ => by rw [q17]; exact lr_w8 s (e - s) c4.2⟩, fz _, fJ⟩
            · rw [if_neg c3]
              exact ⟨_, _, rfl, ⟨by rw [pn_uI_ne2 (by omega)]; exact q4, by rw [pn_uI_ne2 (by omega)]; exact q12, pn_uI_hit rfl, fun h => absurd (show (4 : Nat) = 2 from h) (by decide), fun h => absurd (show (4 : Nat) = 3 from h) (by decide), fun _ => by rw [q17]; exact lr_w8 s (e - s) c4.2⟩, fz _, fJ⟩
          · rw [if_neg c4, if_neg c4, if_neg hnz]
            exact ⟨_, _, rfl, bad, fz _, fJ⟩
    · have hpk := pq_peekB ac hn rfl a4 (show n ≤ s by omega) (by omega)
      unfold nx_b
      rw [hpk]
      simp only [Option.bind_some]
      rw [if_neg (by decide)]
      have el : lx B n lim p = (0, 0, [], s, s) := by unfold lx; rw [hs, if_neg hl1, if_pos (by omega)]
      rw [el]
      exact ⟨_, _, rfl, ⟨by rw [pn_uI_ne2 (by omega)]; exact a4, by rw [pn_uI_ne2 (by omega)]; exact a12, pn_uI_hit rfl, fun h => absurd (show (0 : Nat) = 2 from h) (by decide), fun h => absurd (show (0 : Nat) = 3 from h) (by decide), fun h => absurd (show (4 : Nat) ≤ 0 from h) (by decide)⟩, fun o k ho => by rw [pn_uI_off (by omega)]; exact fr o k ho, fun _ _ _ => rfl⟩
  rw [a3, a5, a4]
  by_cases c1 : n ≤ lim
  · rw [if_pos (nI_le c1 (by omega))]
    exact body (by omega)
  · rw [if_neg (nI_ge (by omega) (by omega))]
    by_cases c2 : s < lim
    · rw [if_pos (nI_lt c2 (by omega))]
      exact body (by omega)
    · rw [if_neg (nI_nlt (by omega) (by omega))]
      have el : lx B n lim p = (1, 0, [], lim, s) := by unfold lx; rw [hs, if_pos (by omega)]
      rw [el]
      exact ⟨_, _, rfl, ⟨by rw [pn_uI_ne2 (by omega), pn_uI_ne2 (by omega)]; exact a4, by rw [pn_uI_ne2 (by omega), pn_uI_hit rfl], pn_uI_hit rfl, fun h => absurd (show (1 : Nat) = 2 from h) (by decide), fun h => absurd (show (1 : Nat) = 3 from h) (by decide), fun h => absurd (show (4 : Nat) ≤ 1 from h) (by decide)⟩, fun o k ho => by rw [pn_uI_off (by omega), pn_uI_off (by omega)]; exact fr o k ho, fun _ _ _ => rfl⟩
end LS
