section LL
variable {I : bm_TI} {J : bm_TJ} {W : bm_TR} {n lim : Nat} {B : Nat → Nat}
theorem pn_lgcmp (x y : Int64) : (lg_cmp x y = 0) = (x = y) := by
  unfold lg_cmp
  by_cases h : x > y
  · rw [if_pos h]
    refine propext ⟨fun e => absurd e (by decide), fun e => ?_⟩
    rw [e] at h
    exact absurd h (Int64.lt_irrefl)
  · rw [if_neg h]
    by_cases e : x = y
    · rw [if_pos e]; exact propext ⟨fun _ => e, fun _ => rfl⟩
    · rw [if_neg e]; exact propext ⟨fun q => absurd q (by decide), fun q => absurd q e⟩
theorem kc_named {l : List Nat} (hl : nm_L l) : f_X10_named (nm_5 l) = some (if wd_f l = 0 then none else some (1000 + (wd_f l - 1))) := by
  have hle : wd_f l ≤ 34 := tf_le _ _
  unfold f_X10_named
  rw [pl_find (F := f_X10_named_l2 (nm_5 l)) (n := 34) (p := fun i => decide (wd_w i = l)) (by omega)]
  · simp only [Option.bind_some]
    have e : pt_fnd 34 (fun i => decide (wd_w i = l)) = wd_f l := rfl
    rw [e]
    by_cases h : wd_f l = 0
    · rw [if_pos h, if_pos h]
    · rw [if_neg h, if_neg h]
      have : bm_iALL (nI (wd_f l - 1)) = true := by
        unfold bm_iALL
        rw [decide_eq_true (nI_pos (by omega)), nI_clamp (by omega), decide_eq_true (by omega)]; rfl
      simp only [this, ↓reduceIte]
      rw [nI_clamp (by omega)]
  · intro k
    rw [f_X10_named_l2, if_pos (show (34 : Int32) ≤ nI 34 by decide)]
  · intro k j hj
    have hi : bm_iALL (nI j) = true := by
      unfold bm_iALL
      rw [decide_eq_true (nI_pos (by omega)), nI_clamp (by omega), decide_eq_true (by omega)]; rfl
    rw [f_X10_named_l2, if_neg (show ¬ (34 : Int32) ≤ nI j from nI_ge (b := 34) hj (by omega)), if_pos hi, nI_clamp (by omega), wd_5 j hj, nI_1]
    simp only [pn_lgcmp]
    by_cases e : wd_w j = l
    · rw [if_pos (show nm_5 (wd_w j) = nm_5 l by rw [e]), if_pos (decide_eq_true e)]
    · rw [if_neg (show ¬ nm_5 (wd_w j) = nm_5 l from fun q => e (nm_5_inj (wd_L j hj) hl q)), if_neg (by rw [decide_eq_false e]; decide)]
theorem kc_readRun (hn : n ≤ 940) (hc : tk_c I n lim B) {s : Nat} (hs : s < n) (ha : lc_a (B s) = true) (h2 : I 3 2 = nI s) (h4 : I 3 4 = nI s) (h6 : I 3 6 = nI 0) (hW : W 3 8 = none) (hl1 : ¬ (lim < n ∧ lim ≤ s)) (p : Nat) (hp : lx_e lc_b B n p = s) : ∃ I' J' W', f_X5_readRun I J W = some (I', J', W') ∧ tk_K I' J' W' (lx B n lim p) ∧ fk_I I I' ∧ fk_J J J' ∧ fk_W W W' := by
  have hbd := le_bd (pr := lc_a) (B := B) (n := n) (n - s) s (by omega)
  have c0 : tk_c (bm_uI I 3 5 0) n lim B := ⟨by rw [pn_uI_ne (by omega)]; exact hc.1, fun k hk => by rw [pn_uI_ne (by omega)]; exact hc.2.1 k hk, by rw [pn_uI_ne2 (by omega)]; exact hc.2.2⟩
  obtain ⟨I1, J1, e1, r2, r5, r7, f1, g1⟩ := kc_run (I := bm_uI I 3 5 0) (J := bm_uJ J 3 7 0) hn c0 (s := s) (by omega) (I 3 2) (n - s) 0 1000 (bm_uI I 3 5 0) (bm_uJ J 3 7 0) (by omega) (by omega) (fun q hq => by omega) (by rw [pn_uI_ne2 (by omega)]; exact h2) (pn_uI_hit rfl) (pn_uJ_hit rfl) (fun _ _ _ => rfl) (fun _ _ _ => rfl)
  rw [Nat.add_zero] at e1 r2 r5 r7
  have hes : s < lx_e lc_a B n s := by
    rcases Nat.lt_or_ge s (lx_e lc_a B n s) with h | h
    · exact h
    · have e1 : lx_e lc_a B n s = s := by omega
      have := hbd.2.2.2 (by omega)
      rw [e1, ha] at this; cases this
  have fI : ∀ o k, (o ≠ 3 ∨ (k ≠ 2 ∧ k ≠ 5)) → I1 o k = I o k := fun o k ho => by rw [f1 o k ho, pn_uI_off (by omega)]
  have fJ : fk_J J J1 := fun o k ho => by rw [g1 o k ho, pn_uJ_off ho]
  have e1' : f_X5_readRun_l17 (I 3 2) 1000 0 (bm_uI I 3 5 0) (bm_uJ J 3 7 0) = _ := e1
  unfold f_X5_readRun lx
  rw [e1', hp]
  simp only [Option.bind_some]
  rw [r2, h2, pk_sub (by omega), r7]
  generalize he : lx_e lc_a B n s = e at hbd r2 r5 r7 hes ⊢
  have hcl := pt_cnt_le (e - s) (fun i => lc_l (B (s + i)))
  rw [if_neg hl1, if_neg (show ¬ n ≤ s by omega), if_pos ha]
  rw [show (7 : Int32) = nI 7 from rfl, show (3 : Int32) = nI 3 from rfl]
  simp (disch := omega) only [pn_eqI, pn_ltI]
  have q4 : I1 3 4 = nI s := by rw [fI 3 4 (by omega)]; exact h4
  have q6 : I1 3 6 = nI 0 := by rw [fI 3 6 (by omega)]; exact h6
  -- neither a word nor a number
  have bad : tk_K (bm_uI I1 3 3 1) J1 W (1, 0, [], s, e) := ⟨by rw [pn_uI_ne2 (by omega)]; exact r2, pn_uI_hit rfl, by rw [pn_uI_ne2 (by omega)]; exact q4, by rw [pn_uI_ne2 (by omega)]; exact q6, hW, fun h => absurd (show (1 : Nat) = 3 from h) (by decide), fun h => absurd (show (1 : Nat) = 5 from h) (by decide)⟩
  have fz : ∀ v, fk_I I (bm_uI I1 3 3 v) := fun v o k ho => by rw [pn_uI_off (by omega), fI o k (by omega)]
  have hall : ∀ j, j < e - s → lc_a (B (s + j)) = true := fun j hj => hbd.2.2.1 (s + j) (by omega) (by omega)
  have num : pt_cnt (e - s) (fun i => lc_l (B (s + i))) = 0 → tk_K (bm_uI I1 3 3 (nI 3)) J1 W (3, lx_v B s (e - s), [], s, e) := fun hz => by
    refine ⟨by rw [pn_uI_ne2 (by omega)]; exact r2, pn_uI_hit rfl, by rw [pn_uI_ne2 (by omega)]; exact q4, by rw [pn_uI_ne2 (by omega)]; exact q6, hW, fun _ => ?_, fun h => absurd (show (3 : Nat) = 5 from h) (by decide)⟩
    rw [pn_uI_ne2 (by omega), r5]
    exact lx_D_v (e - s) (fun j hj => by
      have q1 := pt_cnt_none hz j hj
      have q2 := hall j hj
      unfold lc_a at q2
      rw [show lc_l (B (s + j)) = false from q1, Bool.false_or] at q2
      exact ⟨q1, q2⟩)
  by_cases c1 : pt_cnt (e - s) (fun i => lc_l (B (s + i))) = e - s
  · rw [if_pos c1]
    have hnz : ¬ pt_cnt (e - s) (fun i => lc_l (B (s + i))) = 0 := by omega
    by_cases c2 : 7 < e - s
    · rw [if_pos c2, if_neg (show ¬ (pt_cnt (e - s) (fun i => lc_l (B (s + i))) = e - s ∧ e - s ≤ 7) by omega), if_neg (show ¬ (pt_cnt (e - s) (fun i => lc_l (B (s + i))) = 0 ∧ e - s ≤ 3) by omega), if_neg (show ¬ nI (pt_cnt (e - s) (fun i => lc_l (B (s + i)))) = 0 from nI_ne0 (by omega) (by omega))]
      exact ⟨_, _, _, rfl, bad, fz _, fJ, fun _ _ _ => rfl⟩
    · rw [if_neg c2, if_pos (show pt_cnt (e - s) (fun i => lc_l (B (s + i))) = e - s ∧ e - s ≤ 7 by omega)]
      have hlet := pt_cnt_all c1
      have hL := lx_l_L (B := B) (s := s) (k := e - s) (by omega) (by omega) hlet
      rw [lx_N_5 (e - s) hlet] at r7 ⊢
      rw [kc_named hL]
      simp only [Option.bind_some]
      have hle : wd_f (lx_l B s (e - s)) ≤ 34 := tf_le _ _
      by_cases c3 : wd_f (lx_l B s (e - s)) = 0
      · rw [if_pos c3, if_pos c3, pn_uW_hit rfl, if_pos rfl]
        exact ⟨_, _, _, rfl, ⟨by rw [pn_uI_ne2 (by omega)]; exact r2, pn_uI_hit rfl, by rw [pn_uI_ne2 (by omega)]; exact q4, by rw [pn_uI_ne2 (by omega)]; exact q6, pn_uW_hit rfl, fun h => absurd (show (5 : Nat) = 3 from h) (by decide), fun _ => r7⟩, fz _, fJ, fun o k ho => pn_uW_off ho⟩
      · rw [if_neg c3, if_neg c3, pn_uW_hit rfl, if_neg (by simp)]
        exact ⟨_, _, _, rfl, ⟨by rw [pn_uI_ne2 (by omega)]; exact r2, pn_uI_hit rfl, by rw [pn_uI_ne2 (by omega)]; exact q4, by rw [pn_uI_ne2 (by omega)]; exact q6, pn_uW_hit rfl, fun h => absurd (show (4 : Nat) = 3 from h) (by decide), fun h => absurd (show (4 : Nat) = 5 from h) (by decide)⟩, fz _, fJ, fun o k ho => pn_uW_off ho⟩
  · rw [if_neg c1, if_neg (show ¬ (pt_cnt (e - s) (fun i => lc_l (B (s + i))) = e - s ∧ e - s ≤ 7) by omega)]
    by_cases c2 : pt_cnt (e - s) (fun i => lc_l (B (s + i))) = 0
    · rw [if_pos (show nI (pt_cnt (e - s) (fun i => lc_l (B (s + i)))) = 0 by rw [c2]; rfl)]
      by_cases c3 : 3 < e - s
      · rw [if_pos c3, if_neg (show ¬ (pt_cnt (e - s) (fun i => lc_l (B (s + i))) = 0 ∧ e - s ≤ 3) by omega)]
        exact ⟨_, _, _, rfl, bad, fz _, fJ, fun _ _ _ => rfl⟩
      · rw [if_neg c3, if_pos (show pt_cnt (e - s) (fun i => lc_l (B (s + i))) = 0 ∧ e - s ≤ 3 by omega)]
        exact ⟨_, _, _, rfl, num c2, fz _, fJ, fun _ _ _ => rfl⟩
    · rw [if_neg (show ¬ nI (pt_cnt (e - s) (fun i => lc_l (B (s + i)))) = 0 from nI_ne0 (by omega) (by omega)), if_neg (show ¬ (pt_cnt (e - s) (fun i => lc_l (B (s + i))) = 0 ∧ e - s ≤ 3) by omega)]
      exact ⟨_, _, _, rfl, bad, fz _, fJ, fun _ _ _ => rfl⟩
theorem kc_advance (hn : n ≤ 940) (hlim : lim ≤ 940) (hc : tk_c I n lim B) {p : Nat} (hp : p ≤ n) (h2 : I 3 2 = nI p) : ∃ I' J' W', f_X5_advance I J W = some (I', J', W') ∧ tk_K I' J' W' (lx B n lim p) ∧ fk_I I I' ∧ fk_J J J' ∧ fk_W W W' := by
  have hbd := le_bd (pr := lc_b) (B := B) (n := n) (n - p) p (by omega)
  obtain ⟨I1, e1, r2, f1⟩ := kc_skip hn hc (n - p) p 1000 I (by omega) (by omega) h2 (fun _ _ _ => rfl)
  generalize hs : lx_e lc_b B n p = s at hbd r2
  -- as it stands behind the blanks
  have hI2 : ∀ (X : bm_TI), X = bm_uI (bm_uI I1 3 6 0) 3 4 (bm_uI I1 3 6 0 3 2) → X 3 2 = nI s ∧ X 3 4 = nI s ∧ X 3 6 = nI 0 ∧ X 1 1 = nI n ∧ X 3 1 = nI lim ∧ tk_c X n lim B ∧ fk_I I X := fun X hX => by
    have a2 : X 3 2 = nI s := by rw [hX, pn_uI_ne2 (by omega), pn_uI_ne2 (by omega)]; exact r2
    have a4 : X 3 4 = nI s := by rw [hX, pn_uI_hit rfl, pn_uI_ne2 (by omega)]; exact r2
    have a6 : X 3 6 = nI 0 := by rw [hX, pn_uI_ne2 (by omega), pn_uI_hit rfl]; rfl
    have fr : fk_I I X := fun o k ho => by rw [hX, pn_uI_off (by omega), pn_uI_off (by omega), f1 o k (by omega)]
    exact ⟨a2, a4, a6, by rw [fr 1 1 (by omega)]; exact hc.1, by rw [fr 3 1 (by omega)]; exact hc.2.2, ⟨by rw [fr 1 1 (by omega)]; exact hc.1, fun k hk => by rw [fr 2 k (by omega)]; exact hc.2.1 k hk, by rw [fr 3 1 (by omega)]; exact hc.2.2⟩, fr⟩
  unfold f_X5_advance
  rw [e1]
  simp only [Option.bind_some]
  generalize hX : bm_uI (bm_uI I1 3 6 0) 3 4 (bm_uI I1 3 6 0 3 2) = X
  obtain ⟨a2, a4, a6, a11, a31, ac, fr⟩ := hI2 X hX.symm
  rw [a11, a31, a2]
  have hWn : bm_uW W 3 8 none 3 8 = none := pn_uW_hit rfl
  have fW : fk_W W (bm_uW W 3 8 none) := fun o k ho => pn_uW_off ho
  -- a token that begins there
  have body : ¬ (lim < n ∧ lim ≤ s) → ∃ I' J' W', (if nI s < nI n then (if bm_ix 940 (nI s) = true then (if f_X5_isLetter (X 2 (nI s).toNatClampNeg) = true then (f_X5_readRun X J (bm_uW W 3 8 none)).bind fun v5 => some (v5.1, v5.2.1, v5.2.2) else if f_X5_isDigit (X 2 (nI s).toNatClampNeg) = true then (f_X5_readRun X J (bm_uW W 3 8 none)).bind fun v8 => some (v8.1, v8.2.1, v8.2.2) else if bm_ix 940 (bm_uI X 3 3 2 3 2) = true then some (bm_uI (bm_uI (bm_uI X 3 3 2) 3 6 (bm_uI X 3 3 2 2 (bm_uI X 3 3 2 3 2).toNatClampNeg)) 3 2 (bm_uI (bm_uI X 3 3 2) 3 6 (bm_uI X 3 3 2 2 (bm_uI X 3 3 2 3 2).toNatClampNeg) 3 2 + 1), J, bm_uW W 3 8 none) else none) else none) else some (bm_uI X 3 3 0, J, bm_uW W 3 8 none)) = some (I', J', W') ∧ tk_K I' J' W' (lx B n lim p) ∧ fk_I I I' ∧ fk_J J J' ∧ fk_W W W' := by
    intro hl1
    by_cases hsn : s < n
    · have hb := ac.2.1 s hsn
      rw [if_pos (nI_lt hsn (by omega)), if_pos (bm_ixk (by omega) (by omega)), nI_clamp (by omega), hb.2, kc_letter (by omega), kc_digit (by omega)]
      cases ha : lc_a (B s)
      · have hl : lc_l (B s) = false := by unfold lc_a at ha; rw [Bool.or_eq_false_iff] at ha; exact ha.1
        have hd : lc_d (B s) = false := by unfold lc_a at ha; rw [Bool.or_eq_false_iff] at ha; exact ha.2
        have b32 : bm_uI X 3 3 2 3 2 = nI s := by rw [pn_uI_ne2 (by omega)]; exact a2
        rw [hl, hd, if_neg (by decide), if_neg (by decide), b32, if_pos (bm_ixk (by omega) (by omega)), nI_clamp (by omega), pn_uI_ne (show 2 ≠ 3 by decide), hb.2, pn_uI_ne2 (show 2 ≠ 6 by decide), b32, nI_1]
        have el : lx B n lim p = (2, B s, [], s, s + 1) := by unfold lx; rw [hs, if_neg hl1, if_neg (show ¬ n ≤ s by omega), if_neg (by rw [ha]; decide)]
        rw [el]
        exact ⟨_, _, _, rfl, ⟨pn_uI_hit rfl, by rw [pn_uI_ne2 (by omega), pn_uI_ne2 (by omega), pn_uI_hit rfl]; rfl, by rw [pn_uI_ne2 (by omega), pn_uI_ne2 (by omega), pn_uI_ne2 (by omega)]; exact a4, by rw [pn_uI_ne2 (by omega), pn_uI_hit rfl]; rfl, hWn, fun h => absurd (show (2 : Nat) = 3 from h) (by decide), fun h => absurd (show (2 : Nat) = 5 from h) (by decide)⟩, fun o k ho => by rw [pn_uI_off (by omega), pn_uI_off (by omega), pn_uI_off (by omega)]; exact fr o k ho, fun _ _ _ => rfl, fW⟩
      · obtain ⟨I', J', W', e, t, f, g, w⟩ := kc_readRun (I := X) (J := J) (W := bm_uW W 3 8 none) hn ac hsn ha a2 a4 a6 hWn hl1 p hs
        have he : (if lc_l (B s) = true then (f_X5_readRun X J (bm_uW W 3 8 none)).bind fun v5 => some (v5.1, v5.2.1, v5.2.2) else if lc_d (B s) = true then (f_X5_readRun X J (bm_uW W 3 8 none)).bind fun v8 => some (v8.1, v8.2.1, v8.2.2) else if bm_ix 940 (bm_uI X 3 3 2 3 2) = true then some (bm_uI (bm_uI (bm_uI X 3 3 2) 3 6 (bm_uI X 3 3 2 2 (bm_uI X 3 3 2 3 2).toNatClampNeg)) 3 2 (bm_uI (bm_uI X 3 3 2) 3 6 (bm_uI X 3 3 2 2 (bm_uI X 3 3 2 3 2).toNatClampNeg) 3 2 + 1), J, bm_uW W 3 8 none) else none) = some (I', J', W') := by
          rw [e]
          cases hl : lc_l (B s)
          · have hd : lc_d (B s) = true := by unfold lc_a at ha; rw [hl, Bool.false_or] at ha; exact ha
            rw [hd]; rfl
          · rfl
        rw [he]
        exact ⟨I', J', W', rfl, t, fun o k ho => by rw [f o k ho]; exact fr o k ho, g, fun o k ho => by rw [w o k ho]; exact fW o k ho⟩
    · rw [if_neg (nI_nlt (by omega) (by omega))]
      have el : lx B n lim p = (0, 0, [], s, s) := by unfold lx; rw [hs, if_neg hl1, if_pos (by omega)]
      rw [el]
      exact ⟨_, _, _, rfl, ⟨by rw [pn_uI_ne2 (by omega)]; exact a2, pn_uI_hit rfl, by rw [pn_uI_ne2 (by omega)]; exact a4, by rw [pn_uI_ne2 (by omega)]; exact a6, hWn, fun h => absurd (show (0 : Nat) = 3 from h) (by decide), fun h => absurd (show (0 : Nat) = 5 from h) (by decide)⟩, fun o k ho => by rw [pn_uI_off (by omega)]; exact fr o k ho, fun _ _ _ => rfl, fW⟩
  by_cases c1 : n ≤ lim
  · rw [if_pos (nI_le c1 (by omega))]
    exact body (by omega)
  · rw [if_neg (nI_ge (by omega) (by omega))]
    by_cases c2 : s < lim
    · rw [if_pos (nI_lt c2 (by omega))]
      exact body (by omega)
    · rw [if_neg (nI_nlt (by omega) (by omega))]
      have el : lx B n lim p = (1, 0, [], lim, s) := by unfold lx; rw [hs, if_pos (by omega)]
      rw [el, pn_uI_ne2 (show 1 ≠ 3 by decide), a31]
      exact ⟨_, _, _, rfl, ⟨by rw [pn_uI_ne2 (by omega), pn_uI_ne2 (by omega)]; exact a2, by rw [pn_uI_ne2 (by omega), pn_uI_hit rfl]; rfl, pn_uI_hit rfl, by rw [pn_uI_ne2 (by omega), pn_uI_ne2 (by omega)]; exact a6, hWn, fun h => absurd (show (1 : Nat) = 3 from h) (by decide), fun h => absurd (show (1 : Nat) = 5 from h) (by decide)⟩, fun o k ho => by rw [pn_uI_off (by omega), pn_uI_off (by omega)]; exact fr o k ho, fun _ _ _ => rfl, fW⟩
end LL
