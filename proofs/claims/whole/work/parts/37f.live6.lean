/-! a line of a book: hours -/
section LW
variable {I I' : bm_TI} {T : pt_T}
theorem zv_live6 (hP : pp_A I 4 T) (hQ : pp_S I 33 T) (hR : pp_R I' T) (hA : pt_VA T) (hS : pt_VS T) {o : Nat} {x y : Int32} (h1 : 1 ≤ o) (h60 : o ≤ 60) : lv_E T 6 I I' (f_X8_live I (nI 6) x (nI o)) (f_X12_does I' (nI 6) (nI o) y) := by
  have h400 := hS.1
  have hl : f_X8_live I (nI 6) x (nI o) = (if nI o ≤ (400 - (I 33 10)) then ((f_X8_passHours I (nI o)).bind fun v19 => some (0, v19.2)) else some (1, I)) := rfl
  have hd : f_X12_does I' (nI 6) (nI o) y = (if ((I' 166 61) + nI o) ≤ 400 then ((f_X12_goesOn I' (nI o)).bind fun v19 => some (0, v19.2)) else some (61, I')) := rfl
  rw [hl, hd, pg_hour33 hQ, hR 61 (by omega), show (400 : Int32) = nI 400 from rfl, pk_sub (by omega), nI_add]
  simp (disch := omega) only [pn_leI]
  by_cases c : T 61 + o ≤ 400
  · rw [if_pos (show o ≤ 400 - T 61 by omega), if_pos c]
    obtain ⟨I1, e1, c1, c2⟩ := kc_passHours hP hQ hA hS (n := o) h60
    obtain ⟨I2, e2, r1, r2⟩ := pq_goesOn hR hA hS (n := o) h60
    rw [e1, e2]
    exact Or.inl ⟨I1, I2, _, rfl, rfl, c1, r1, vs_hrs hA hS (by omega), te_hrs T _, cb_h c2, r2⟩
  · rw [if_neg (show ¬ o ≤ 400 - T 61 by omega), if_neg c]
    exact Or.inr ⟨I, rfl, rfl, hQ, fun _ _ _ => rfl⟩
end LW
