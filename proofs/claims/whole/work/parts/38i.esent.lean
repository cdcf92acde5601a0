/-! sentence -/
theorem e_sentence {I : bm_TI} {J : bm_TJ} {W : bm_TR} (hI : bm_Inv I J W) : ∃ v I1 J1 W1 I2 J2, f_X11_sentence I J W = some (v, I1, J1, W1) ∧ f_X12_sentence I1 J1 = some (v, I2, J2) ∧ bm_Inv I2 J2 W1 := by
  obtain ⟨T, S, hF, hU, hG0, hG1, ⟨n, B, hn, t1, t2, t3⟩, hM, hK⟩ := id hI
  obtain ⟨hR, hR2, hP, hQ, hQS, hNm, hA, hS, hVQ⟩ := id hF
  have hB : ∀ k, k < n → B k < 256 ∧ I 2 k = nI (B k) := fun k hk => ⟨(t3 k hk).1, (t3 k hk).2.1⟩
  have rB : ∀ k, k < n → I 165 k &&& 255 = nI (B k) := fun k hk => (t3 k hk).2.2
  have bA : bk_A T (I, J, W) (I, J) := ⟨hA.1, hA.2.1, hP.1, hP.2.2.2.1, hR 0 (by omega), hR 1 (by omega), hNm.1, hNm.2⟩
  obtain ⟨v, I1, J1, W1, _, _, ec, _, _, _, _, fc, _, fJ, fW, _, _⟩ := se_all (r := (I, J)) hn t1 hB t2 rB hK bA
  have g1 : ∀ o k, 160 < o → I1 o k = I o k := fun o k h => fc o k (by omega) (by omega) (by omega) (by omega)
  have bA2 : bk_A T (I, J, W) (I1, J1) := by
    refine ⟨hA.1, hA.2.1, hP.1, hP.2.2.2.1, ?_, ?_, fun j hj => ?_, fun j hj => ?_⟩
    · dsimp only; rw [g1 166 0 (by omega)]; exact hR 0 (by omega)
    · dsimp only; rw [g1 166 1 (by omega)]; exact hR 1 (by omega)
    · dsimp only; rw [fJ 169 j (by omega)]; exact hNm.1 j hj
    · dsimp only; rw [fJ 169 _ (by omega)]; exact hNm.2 j hj
  obtain ⟨v2, I1', J1', W1', I2, J2, ec2, er, q11, q2, q13, _, fr, _, _, rJ, hSS⟩ := se_all (r := (I1, J1)) hn t1 hB (by dsimp only; rw [g1 164 2 (by omega)]; exact t2) (fun k hk => by dsimp only; rw [g1 165 k (by omega)]; exact rB k hk) (fun k hk => by dsimp only; rw [fJ 170 k (by omega)]; exact hK k hk) bA2
  rw [ec] at ec2
  injection ec2 with ec2
  injection ec2 with ev ec2
  injection ec2 with eI ec2
  injection ec2 with eJ eW
  subst ev
  subst eI
  subst eJ
  subst eW
  have fr' : ∀ o k, o < 164 → I2 o k = I1 o k := fun o k h => fr o k (by omega) (by omega) (by omega) (by omega)
  have g : ∀ o k, o ≠ 3 → ¬ (o = 1 ∧ k = 1) → ¬ (o = 0 ∧ k = 13) → (o < 151 ∨ 160 < o) → (o ≠ 164 ∨ k = 1 ∨ (5 < k ∧ k < 11) ∨ k = 17 ∨ (18 < k ∧ k < 38) ∨ 42 < k) → o ≠ 168 → o ≠ 176 → (o ≠ 166 ∨ k < 106) → I2 o k = I o k := fun o k a1 a2 a3 a4 a5 a6 a7 a8 => (fr o k a5 a6 a7 a8).trans (fc o k a1 a2 a3 a4)
  have gj : ∀ o k, (o ≠ 164 ∨ k ≠ 17) → (o ≠ 3 ∨ k ≠ 7) → J2 o k = J o k := fun o k a1 a2 => (rJ o k a1).trans (fJ o k a2)
  have hrow : ∀ k, k < 106 → I2 166 k = nI (T k) := fun k hk => by rw [g 166 k (by omega) (by omega) (by omega) (by omega) (by omega) (by omega) (by omega) (by omega)]; exact hR k hk
  have hA2 : pp_A I2 4 T := pa_congr' (fun o k h1 h2 => g o k (by omega) (by omega) (by omega) (by omega) (by omega) (by omega) (by omega) (by omega)) hP
  have hS2 : pp_S I2 26 T := ps_congr (fun k => g 26 k (by omega) (by omega) (by omega) (by omega) (by omega) (by omega) (by omega) (by omega)) (fun c k h1 h2 => g c k (by omega) (by omega) (by omega) (by omega) (by omega) (by omega) (by omega) (by omega)) hQ
  have hN2 : nm_R J2 4 (J2 169) T := by
    refine ⟨fun j hj => ?_, fun j hj => ?_⟩
    · rw [gj _ j (by omega) (by omega), gj 169 j (by omega) (by omega)]; exact hNm.1 j hj
    · rw [gj _ j (by omega) (by omega), gj 169 _ (by omega) (by omega)]; exact hNm.2 j hj
  have hF2 : ∃ S', iv_F I2 J2 W1 4 26 151 (I2 166) (J2 169) T S' := by
    rcases hSS with ⟨S', s1, s2, s3⟩ | ⟨s1, s2, s3⟩
    · exact ⟨S', hrow, s2, hA2, hS2, pQ_congr (fun o k h1 h2 => fr' o k (by omega)) (fun _ => rfl) s1, hN2, hA, hS, s3⟩
    · refine ⟨S, hrow, fun k h1 h2 => ?_, hA2, hS2, pQ_congr (fun o k h1 h2 => ?_) (fun k => s2 k) hQS, hN2, hA, hS, hVQ⟩
      · rw [s3 k]
        dsimp only
        rw [g1 166 k (by omega)]; exact hR2 k h1 h2
      · rw [fr' o k (by omega)]; exact s1 o k h1 (by omega)
  obtain ⟨S', hF2⟩ := hF2
  refine ⟨v, I1, J1, W1, I2, J2, ec, er, T, S', hF2, ?_, ?_, ?_, ⟨0, B, by omega, ?_, q2, fun k hk => absurd hk (Nat.not_lt_zero k)⟩, ?_, fun k hk => ?_⟩
  · exact iU_congr (fun o k ho => g o k (by omega) (by omega) (by omega) (by omega) (by omega) (by omega) (by omega) (by omega)) hU
  · exact iG_congr (by omega) (fun o j hj => g o j (by omega) (by omega) (by omega) (by omega) (by omega) (by omega) (by omega) (by omega)) (fun o j hj => gj o j (by omega) (by omega)) (fun j => fW _ j (by omega) (by omega) (by omega)) hG0
  · exact iG_congr (by omega) (fun o j hj => g o j (by omega) (by omega) (by omega) (by omega) (by omega) (by omega) (by omega) (by omega)) (fun o j hj => gj o j (by omega) (by omega)) (fun j => fW _ j (by omega) (by omega) (by omega)) hG1
  · rw [fr' 1 1 (by omega)]; exact q11
  · refine iM_fault hM ?_ (fun o k ho => g o k (by omega) (by omega) (by omega) (by omega) (by omega) (by omega) (by omega) (by omega))
    rw [fr' 0 13 (by omega)]; exact q13
  · rw [gj 170 k (by omega) (by omega)]; exact hK k hk
