/-! the tape -/
theorem pt_m255 : ∀ i, i < 32 → (255#32).getLsbD i = decide (i < 8) := by decide
theorem pn_byte (z w : Int32) (h : ∀ i, i < 8 → z.toBitVec.getLsbD i = w.toBitVec.getLsbD i) : z.toInt8.toInt32 &&& 255 = w &&& 255 := by
  apply Int32.toBitVec_inj.1
  apply BitVec.eq_of_getLsbD_eq
  intro i hi
  show ((z.toBitVec.signExtend 8).signExtend 32 &&& 255#32).getLsbD i = (w.toBitVec &&& 255#32).getLsbD i
  rw [BitVec.getLsbD_and, BitVec.getLsbD_and, pt_m255 i hi]
  by_cases h8 : i < 8
  · rw [decide_eq_true h8, Bool.and_true, Bool.and_true, ← h i h8, BitVec.getLsbD_signExtend, BitVec.getLsbD_signExtend]
    simp [h8, hi]
  · rw [decide_eq_false h8, Bool.and_false, Bool.and_false]
theorem pz_sl : ∀ n, n < 32 → ((nI n &&& 31).toBitVec.smod 32).toNat = n := by decide +kernel
theorem pz_su : ∀ n, n < 32 → (((nI n).toUInt32 &&& Int32.toUInt32 31).toBitVec % 32).toNat = n := by decide +kernel
theorem pn_shb (x : Int32) (s : Nat) (hs : s ≤ 24) : (bm_ishr x (nI s)).toInt8.toInt32 &&& 255 = (bm_iushr x (nI s)) &&& 255 := by
  apply pn_byte
  intro i hi
  have e1 : (bm_ishr x (nI s)).toBitVec = x.toBitVec.sshiftRight s := by
    have hk := pz_sl s (by omega)
    show x.toBitVec.sshiftRight' ((nI s &&& 31).toBitVec.smod 32) = _
    rw [BitVec.sshiftRight', hk]
  have e2 : (bm_iushr x (nI s)).toBitVec = x.toBitVec >>> s := by
    have hk := pz_su s (by omega)
    show x.toBitVec >>> (((nI s).toUInt32 &&& Int32.toUInt32 31).toBitVec % 32) = _
    rw [BitVec.ushiftRight_eq', hk]
  rw [e1, e2, BitVec.getLsbD_sshiftRight, BitVec.getLsbD_ushiftRight]
  simp only [show ¬ 32 ≤ i by omega, show s + i < 32 by omega, decide_false, Bool.not_false, Bool.true_and, ↓reduceIte]
def pt_byte (x : Int32) (s : Nat) : Nat := ((bm_iushr x (nI s)) &&& 255).toBitVec.toNat
theorem pt_byte_lt (x : Int32) (s : Nat) : pt_byte x s < 256 := by
  unfold pt_byte
  rw [pk_and _ 8 (by decide), pk_tn (by have := Nat.mod_lt (bm_iushr x (nI s)).toBitVec.toNat (show 0 < 2 ^ 8 by decide); omega)]
  exact Nat.mod_lt _ (by decide)
theorem pt_byte_k (x : Int32) (s : Nat) : (bm_iushr x (nI s)) &&& 255 = nI (pt_byte x s) := pn_self _
theorem pt_byte_q (x : Int32) (s : Nat) (hs : s ≤ 24) : vp_nar .byte ((bm_ishr x (nI s)).toInt8.toInt32) &&& 255 = nI (pt_byte x s) := by
  rw [pk_vb, pn_shb x s hs, pt_byte_k]
/-- what the tape has, by the class; by the reference -/
def tc_T (I : bm_TI) (n : Nat) (B : Nat → Nat) : Prop := I 1 1 = nI n ∧ ∀ k, k < n → B k < 256 ∧ I 2 k = nI (B k)
def tq_T (I : bm_TI) (n : Nat) (B : Nat → Nat) : Prop := I 164 2 = nI n ∧ ∀ k, k < n → I 165 k &&& 255 = nI (B k)
def pt_add (B : Nat → Nat) (n v : Nat) : Nat → Nat := fun k => if k = n then v else B k
def pt_four (B : Nat → Nat) (n : Nat) (x : Int32) : Nat → Nat := pt_add (pt_add (pt_add (pt_add B n (pt_byte x 24)) (n + 1) (pt_byte x 16)) (n + 2) (pt_byte x 8)) (n + 3) (pt_byte x 0)
theorem tc_add {I : bm_TI} {n v : Nat} {B : Nat → Nat} (hv : v < 256) (h : tc_T I n B) : tc_T (bm_uI (bm_uI I 2 n (nI v)) 1 1 (nI (n + 1))) (n + 1) (pt_add B n v) := by
  refine ⟨pn_uI_hit rfl, fun k hk => ?_⟩
  rw [pn_uI_ne (by omega)]
  unfold pt_add
  by_cases e : k = n
  · rw [if_pos e, pn_uI_hit e]; exact ⟨hv, rfl⟩
  · rw [if_neg e, pn_uI_ne2 e]; exact h.2 k (by omega)
theorem tq_add {I : bm_TI} {n v : Nat} {x : Int32} {B : Nat → Nat} (hv : x &&& 255 = nI v) (h : tq_T I n B) : tq_T (bm_uI (bm_uI I 165 n x) 164 2 (nI (n + 1))) (n + 1) (pt_add B n v) := by
  refine ⟨pn_uI_hit rfl, fun k hk => ?_⟩
  rw [pn_uI_ne (by omega)]
  unfold pt_add
  by_cases e : k = n
  · rw [if_pos e, pn_uI_hit e]; exact hv
  · rw [if_neg e, pn_uI_ne2 e]; exact h.2 k (by omega)
theorem put_1 {I : bm_TI} {n s k : Nat} {B : Nat → Nat} {x : Int32} (hn : n < 940) (hs : s ≤ 24) (h : tc_T I n B) : f_X9_put_l3 x (k + 1) (nI s) I = f_X9_put_l3 x k (nI s + (-8)) (bm_uI (bm_uI I 2 n (nI (pt_byte x s))) 1 1 (nI (n + 1))) := by
  rw [f_X9_put_l3, if_neg (nI_pos (by omega)), h.1, if_neg (show ¬ (940 : Int32) ≤ nI n from nI_ge (b := 940) hn (by omega)), if_pos (bm_ixk hn (by omega)), nI_clamp (by omega), pn_uI_ne (show 1 ≠ 2 by decide), h.1, nI_1, pt_byte_k]
theorem four_1 {I : bm_TI} {n s k : Nat} {B : Nat → Nat} {x : Int32} (hn : n < 940) (hs : s ≤ 24) (h : tq_T I n B) : f_X12_four_l3 x (k + 1) (nI s) I = f_X12_four_l3 x k (nI s + (-8)) (bm_uI (bm_uI I 165 n (vp_nar .byte ((bm_ishr x (nI s)).toInt8.toInt32))) 164 2 (nI (n + 1))) := by
  rw [f_X12_four_l3, if_neg (nI_pos (by omega)), h.1, if_pos (bm_ixk hn (by omega)), nI_clamp (by omega), pn_uI_ne (show 164 ≠ 165 by decide), h.1, nI_1]
theorem kc_put {I : bm_TI} {n : Nat} {B : Nat → Nat} (x : Int32) (hn : n + 4 ≤ 940) (h : tc_T I n B) : ∃ I', f_X9_put I x = some I' ∧ tc_T I' (n + 4) (pt_four B n x) ∧ ∀ o k, o ≠ 2 → (o ≠ 1 ∨ k ≠ 1) → I' o k = I o k := by
  have h1 := tc_add (pt_byte_lt x 24) h
  have h2 := tc_add (pt_byte_lt x 16) h1
  have h3 := tc_add (pt_byte_lt x 8) h2
  have h4 := tc_add (pt_byte_lt x 0) h3
  refine ⟨_, ?_, h4, fun o k a b => by rw [pn_uI_off b, pn_uI_ne a, pn_uI_off b, pn_uI_ne a, pn_uI_off b, pn_uI_ne a, pn_uI_off b, pn_uI_ne a]⟩
  unfold f_X9_put
  rw [show f_X9_put_l3 x 1000 24 I = f_X9_put_l3 x (999 + 1) (nI 24) I from rfl, put_1 (by omega) (by omega) h, show nI 24 + (-8) = nI 16 from rfl, show (999 : Nat) = 998 + 1 from rfl, put_1 (by omega) (by omega) h1, show nI 16 + (-8) = nI 8 from rfl, show (998 : Nat) = 997 + 1 from rfl, put_1 (by omega) (by omega) h2, show nI 8 + (-8) = nI 0 from rfl, show (997 : Nat) = 996 + 1 from rfl, put_1 (by omega) (by omega) h3, show (996 : Nat) = 995 + 1 from rfl, f_X9_put_l3, if_pos (show nI 0 + (-8) < 0 by decide)]
  rfl
theorem pq_four {I : bm_TI} {n : Nat} {B : Nat → Nat} (x : Int32) (hn : n + 4 ≤ 940) (h : tq_T I n B) : ∃ I', f_X12_four I x = some I' ∧ tq_T I' (n + 4) (pt_four B n x) ∧ ∀ o k, o ≠ 165 → (o ≠ 164 ∨ k ≠ 2) → I' o k = I o k := by
  have h1 := tq_add (pt_byte_q x 24 (by omega)) h
  have h2 := tq_add (pt_byte_q x 16 (by omega)) h1
  have h3 := tq_add (pt_byte_q x 8 (by omega)) h2
  have h4 := tq_add (pt_byte_q x 0 (by omega)) h3
  refine ⟨_, ?_, h4, fun o k a b => by rw [pn_uI_off b, pn_uI_ne a, pn_uI_off b, pn_uI_ne a, pn_uI_off b, pn_uI_ne a, pn_uI_off b, pn_uI_ne a]⟩
  unfold f_X12_four
  rw [show f_X12_four_l3 x 1000 24 I = f_X12_four_l3 x (999 + 1) (nI 24) I from rfl, four_1 (by omega) (by omega) h, show nI 24 + (-8) = nI 16 from rfl, show (999 : Nat) = 998 + 1 from rfl, four_1 (by omega) (by omega) h1, show nI 16 + (-8) = nI 8 from rfl, show (998 : Nat) = 997 + 1 from rfl, four_1 (by omega) (by omega) h2, show nI 8 + (-8) = nI 0 from rfl, show (997 : Nat) = 996 + 1 from rfl, four_1 (by omega) (by omega) h3, show (996 : Nat) = 995 + 1 from rfl, f_X12_four_l3, if_pos (show nI 0 + (-8) < 0 by decide)]
  rfl
section EI
variable {I : bm_TI} {J : bm_TJ} {W : bm_TR}
theorem e_feed (hI : bm_Inv I J W) : ∀ a1 a2 a3 a4 a5 : Int32, ∃ v I1 I2, f_X11_feed I a1 a2 a3 a4 a5 = some (v, I1) ∧ f_X12_feed I1 a1 a2 a3 a4 a5 = some (v, I2) ∧ bm_Inv I2 J W := by
  intro a1 a2 a3 a4 a5
  obtain ⟨T, S, hF, hU, hG0, hG1, hT, hM, hK⟩ := id hI
  obtain ⟨n, B, t1, t2, t3, t4⟩ := hT
  unfold f_X11_feed
  rw [t2, show (nI n + 20 : Int32) = nI (n + 20) from nI_add n 20]
  by_cases hn : n + 20 ≤ 940
  · rw [if_pos (show nI (n + 20) ≤ 940 from nI_le (b := 940) hn (by omega))]
    have c0 : tc_T I n B := ⟨t2, fun k hk => ⟨(t4 k hk).1, (t4 k hk).2.1⟩⟩
    obtain ⟨I1, e1, c1, f1⟩ := kc_put a1 (by omega) c0
    obtain ⟨I2, e2, c2, f2⟩ := kc_put a2 (by omega) c1
    obtain ⟨I3, e3, c3, f3⟩ := kc_put a3 (by omega) c2
    obtain ⟨I4, e4, c4, f4⟩ := kc_put a4 (by omega) c3
    obtain ⟨I5, e5, c5, f5⟩ := kc_put a5 (by omega) c4
    have fc : ∀ o k, o ≠ 2 → (o ≠ 1 ∨ k ≠ 1) → I5 o k = I o k := fun o k a b => by rw [f5 o k a b, f4 o k a b, f3 o k a b, f2 o k a b, f1 o k a b]
    have q0 : tq_T (bm_uI I5 164 0 0) n B := ⟨by rw [pn_uI_ne2 (by omega), fc 164 2 (by omega) (by omega)]; exact t3, fun k hk => by rw [pn_uI_ne (by omega), fc 165 k (by omega) (by omega)]; exact (t4 k hk).2.2⟩
    obtain ⟨K1, g1, q1, r1⟩ := pq_four a1 (by omega) q0
    obtain ⟨K2, g2, q2, r2⟩ := pq_four a2 (by omega) q1
    obtain ⟨K3, g3, q3, r3⟩ := pq_four a3 (by omega) q2
    obtain ⟨K4, g4, q4, r4⟩ := pq_four a4 (by omega) q3
    obtain ⟨K5, g5, q5, r5⟩ := pq_four a5 (by omega) q4
    have fq : ∀ o k, o ≠ 165 → (o ≠ 164 ∨ (k ≠ 2 ∧ k ≠ 0)) → K5 o k = I5 o k := fun o k a b => by rw [r5 o k a (by omega), r4 o k a (by omega), r3 o k a (by omega), r2 o k a (by omega), r1 o k a (by omega), pn_uI_off (by omega)]
    have ff : ∀ o k, o ≠ 165 → (o ≠ 164 ∨ (k ≠ 2 ∧ k ≠ 0)) → o ≠ 2 → (o ≠ 1 ∨ k ≠ 1) → K5 o k = I o k := fun o k a b c d => by rw [fq o k a b, fc o k c d]
    rw [e1]; simp only [Option.bind_some]
    rw [e2]; simp only [Option.bind_some]
    rw [e3]; simp only [Option.bind_some]
    rw [e4]; simp only [Option.bind_some]
    rw [e5]; simp only [Option.bind_some]
    refine ⟨_, _, K5, rfl, ?_, iv_set hI (fun o k ho => ff o k (by omega) (by omega) (by omega) (by omega)) (fun _ _ _ => rfl) (fun _ _ _ => rfl) ⟨n + 4 + 4 + 4 + 4 + 4, _, by omega, ?_, q5.1, fun k hk => ⟨(c5.2 k hk).1, ?_, q5.2 k hk⟩⟩ (iM_congr (fun o k ho => ff o k (by omega) (by omega) (by omega) (by omega)) hM)⟩
    · unfold f_X12_feed
      rw [pn_uI_ne2 (by omega), fc 164 2 (by omega) (by omega), t3, show (nI n + 20 : Int32) = nI (n + 20) from nI_add n 20, if_pos (show nI (n + 20) ≤ 940 from nI_le (b := 940) hn (by omega)), g1]; simp only [Option.bind_some]
      rw [g2]; simp only [Option.bind_some]
      rw [g3]; simp only [Option.bind_some]
      rw [g4]; simp only [Option.bind_some]
      rw [g5]; simp only [Option.bind_some]
      rw [q5.1, c5.1]
    · rw [fq 1 1 (by omega) (by omega)]; exact c5.1
    · rw [fq 2 k (by omega) (by omega)]; exact (c5.2 k hk).2
  · rw [if_neg (show ¬ nI (n + 20) ≤ 940 from fun h => hn ((nI_leI (b := 940) (by omega) (by omega)).mp h))]
    refine ⟨_, _, bm_uI I 164 0 0, rfl, ?_, iv_q hI⟩
    unfold f_X12_feed
    rw [pn_uI_ne2 (by omega), t3, show (nI n + 20 : Int32) = nI (n + 20) from nI_add n 20, if_neg (show ¬ nI (n + 20) ≤ 940 from fun h => hn ((nI_leI (b := 940) (by omega) (by omega)).mp h))]
end EI
