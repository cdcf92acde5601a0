/-! book -/
theorem e_book {I : bm_TI} {J : bm_TJ} {W : bm_TR} (hI : bm_Inv I J W) : ∀ a1 : Int32, ∃ v I1 J1 W1 I2 J2, f_X11_book I J W a1 = some (v, I1, J1, W1) ∧ f_X12_book I1 J1 a1 = some (v, I2, J2) ∧ bm_Inv I2 J2 W1 := by
  intro a1
  obtain ⟨T, S, hF, hU, hG0, hG1, ⟨n, B, hn, t1, t2, t3⟩, hM, hK⟩ := id hI
  obtain ⟨hR, hR2, hP, hQ, hQS, hNm, hA, hS, hVQ⟩ := id hF
  obtain ⟨u, o, U, hu, ho, hC, hD, hV⟩ := hU
  rcases pk_rng a1 0 1 (by omega) (by omega) with ⟨a, _, ha, rfl⟩ | h
  · have hB : ∀ k, k < n → B k < 256 ∧ I 2 k = nI (B k) := fun k hk => ⟨(t3 k hk).1, (t3 k hk).2.1⟩
    have rB : ∀ k, k < n → I 165 k &&& 255 = nI (B k) := fun k hk => (t3 k hk).2.2
    have bA : bk_A T (I, J, W) (I, J) := ⟨hA.1, hA.2.1, hP.1, hP.2.2.2.1, hR 0 (by omega), hR 1 (by omega), hNm.1, hNm.2⟩
    obtain ⟨v, I1, J1, W1, _, _, ec, _, _, _, _, _, _, _, _, _, _, _, fc, _, fJ, fW, _⟩ := bk_all (r := (I, J)) ha hn t1 hB t2 rB hK bA hA hS hP hQ hR hu ho hC hD hV
    have g1 : ∀ o k, 150 < o → I1 o k = I o k := fun o k h => fc o k (by omega) (by omega) (by omega) (by omega) (by omega)
    have bA2 : bk_A T (I, J, W) (I1, J1) := by
      refine ⟨hA.1, hA.2.1, hP.1, hP.2.2.2.1, ?_, ?_, fun j hj => ?_, fun j hj => ?_⟩
      · dsimp only; rw [g1 166 0 (by omega)]; exact hR 0 (by omega)
      · dsimp only; rw [g1 166 1 (by omega)]; exact hR 1 (by omega)
      · dsimp only; rw [fJ 169 j (by omega)]; exact hNm.1 j hj
      · dsimp only; rw [fJ 169 _ (by omega)]; exact hNm.2 j hj
    obtain ⟨v2, I1', J1', W1', I2, J2, ec2, er, T2, ⟨u2, o2, U2, hu2, ho2, hC2, hD2, hV2⟩, s26, sR, sV, sE, q11, q2, q13, qT, _, fr, _, _, rJ⟩ := bk_all (r := (I1, J1)) ha hn t1 hB (by dsimp only; rw [g1 164 2 (by omega)]; exact t2) (fun k hk => by dsimp only; rw [g1 165 k (by omega)]; exact rB k hk) (fun k hk => by dsimp only; rw [fJ 170 k (by omega)]; exact hK k hk) bA2 hA hS hP hQ (fun k hk => by dsimp only; rw [g1 166 k (by omega)]; exact hR k hk) hu ho hC (pD_congr (g1 164 24 (by omega)) (fun k => g1 172 k (by omega)) hD) hV
    rw [ec] at ec2
    injection ec2 with ec2
    injection ec2 with ev ec2
    injection ec2 with eI ec2
    injection ec2 with eJ eW
    subst ev
    subst eI
    subst eJ
    subst eW
    have fr' : ∀ o k, o < 164 → I2 o k = I1 o k := fun o k h => fr o k (by omega) (by omega) (by omega) (by omega) (by omega)
    have g : ∀ o k, o ≠ 3 → (o < 26 ∨ 97 < o) → ¬ (o = 1 ∧ k = 1) → ¬ (o = 0 ∧ k = 13) → (o < 147 ∨ 150 < o) → (o ≠ 166 ∨ k < 61 ∨ 106 ≤ k) → o ≠ 168 → (o < 171 ∨ 173 < o) → o ≠ 175 → (o ≠ 164 ∨ k = 1 ∨ (5 < k ∧ k < 11) ∨ k = 17 ∨ (18 < k ∧ k ≠ 24 ∧ k ≠ 34 ∧ k ≠ 36)) → I2 o k = I o k := fun o k a1 a2 a3 a4 a5 a6 a7 a8 a9 a10 => (fr o k a6 a7 a8 a9 a10).trans (fc o k a1 a2 a3 a4 a5)
    have gj : ∀ o k, (o ≠ 164 ∨ k ≠ 17) → (o ≠ 3 ∨ k ≠ 7) → J2 o k = J o k := fun o k a1 a2 => (rJ o k a1).trans (fJ o k a2)
    obtain ⟨m1, m2, m3, m4, m5, m6, m7, m, m8, m9, m10, m11⟩ := hM
    refine ⟨v, I1, J1, W1, I2, J2, ec, er, T2, S, ⟨sR, fun k h1 h2 => ?_, ?_, ?_, ?_, ⟨fun j hj => ?_, fun j hj => ?_⟩, va_congr sE hA, sV, ?_⟩, ⟨u2, o2, U2, hu2, ho2, pC_congr (fun c k h1 h2 => fr' c k (by omega)) hC2, hD2, hV2⟩, ?_, ?_, ⟨0, B, by omega, ?_, q2, fun k hk => absurd hk (Nat.not_lt_zero k)⟩, ⟨?_, ?_, ?_, ?_, ?_, ?_, ?_, m, m8, ?_, ?_, fun k hk => ?_⟩, fun k hk => ?_⟩
    · rw [g 166 k (by omega) (by omega) (by omega) (by omega) (by omega) (by omega) (by omega) (by omega) (by omega) (by omega)]; exact hR2 k h1 h2
    · exact pa_VA sE hA (pa_congr' (fun o k h1 h2 => g o k (by omega) (by omega) (by omega) (by omega) (by omega) (by omega) (by omega) (by omega) (by omega) (by omega)) hP)
    · exact ps_congr (fun k => fr' 26 k (by omega)) (fun c k h1 h2 => fr' c k (by omega)) s26
    · exact pQ_congr (fun o k h1 h2 => g o k (by omega) (by omega) (by omega) (by omega) (by omega) (by omega) (by omega) (by omega) (by omega) (by omega)) (fun k => fW _ k (by omega)) hQS
    · rw [sE 0 (by omega)] at hj
      rw [gj _ j (by omega) (by omega), gj 169 j (by omega) (by omega)]; exact hNm.1 j hj
    · rw [sE 1 (by omega)] at hj
      rw [gj _ j (by omega) (by omega), gj 169 _ (by omega) (by omega)]; exact hNm.2 j hj
    · unfold pt_VQ; rw [sE 0 (by omega), sE 1 (by omega)]; exact hVQ
    · exact iG_congr (by omega) (fun o j hj => g o j (by omega) (by omega) (by omega) (by omega) (by omega) (by omega) (by omega) (by omega) (by omega) (by omega)) (fun o j hj => gj o j (by omega) (by omega)) (fun j => fW _ j (by omega)) hG0
    · exact iG_congr (by omega) (fun o j hj => g o j (by omega) (by omega) (by omega) (by omega) (by omega) (by omega) (by omega) (by omega) (by omega) (by omega)) (fun o j hj => gj o j (by omega) (by omega)) (fun j => fW _ j (by omega)) hG1
    · rw [fr' 1 1 (by omega)]; exact q11
    · rw [fr' 0 13 (by omega)]; exact q13
    · rw [g 0 14 (by omega) (by omega) (by omega) (by omega) (by omega) (by omega) (by omega) (by omega) (by omega) (by omega), g 164 25 (by omega) (by omega) (by omega) (by omega) (by omega) (by omega) (by omega) (by omega) (by omega) (by omega)]; exact m2
    · rw [g 0 15 (by omega) (by omega) (by omega) (by omega) (by omega) (by omega) (by omega) (by omega) (by omega) (by omega), g 164 26 (by omega) (by omega) (by omega) (by omega) (by omega) (by omega) (by omega) (by omega) (by omega) (by omega)]; exact m3
    · rw [g 161 0 (by omega) (by omega) (by omega) (by omega) (by omega) (by omega) (by omega) (by omega) (by omega) (by omega), g 164 27 (by omega) (by omega) (by omega) (by omega) (by omega) (by omega) (by omega) (by omega) (by omega) (by omega)]; exact m4
    · rw [g 161 1 (by omega) (by omega) (by omega) (by omega) (by omega) (by omega) (by omega) (by omega) (by omega) (by omega), g 164 28 (by omega) (by omega) (by omega) (by omega) (by omega) (by omega) (by omega) (by omega) (by omega) (by omega)]; exact m5
    · rw [g 164 30 (by omega) (by omega) (by omega) (by omega) (by omega) (by omega) (by omega) (by omega) (by omega) (by omega), g 0 16 (by omega) (by omega) (by omega) (by omega) (by omega) (by omega) (by omega) (by omega) (by omega) (by omega), g 164 29 (by omega) (by omega) (by omega) (by omega) (by omega) (by omega) (by omega) (by omega) (by omega) (by omega)]; exact m6
    · rcases qT with ⟨x1, x2⟩ | ⟨x1, x2⟩
      · exact Or.inr ⟨x1, fun i hi => (fr' 147 _ (by omega)).trans (x2 i hi)⟩
      · have x1' : I2 164 36 = I 164 36 := x1.trans (g1 164 36 (by omega))
        rw [x1']
        rcases m7 with ⟨y1, y2⟩ | ⟨y1, y2⟩
        · exact Or.inl ⟨y1, fun i hi => (fr' 147 _ (by omega)).trans ((x2 i hi).1.trans (y2 i hi))⟩
        · refine Or.inr ⟨y1, fun i hi => (fr' 147 _ (by omega)).trans ((x2 i hi).1.trans ((y2 i hi).trans ?_))⟩
          exact ((x2 i hi).2.trans (g1 175 i (by omega))).symm
    · rw [g 162 1 (by omega) (by omega) (by omega) (by omega) (by omega) (by omega) (by omega) (by omega) (by omega) (by omega)]; exact m9
    · rw [g 164 32 (by omega) (by omega) (by omega) (by omega) (by omega) (by omega) (by omega) (by omega) (by omega) (by omega)]; exact m10
    · rw [g 163 k (by omega) (by omega) (by omega) (by omega) (by omega) (by omega) (by omega) (by omega) (by omega) (by omega), g 174 k (by omega) (by omega) (by omega) (by omega) (by omega) (by omega) (by omega) (by omega) (by omega) (by omega)]; exact m11 k hk
    · rw [gj 170 k (by omega) (by omega)]; exact hK k hk
  · have n0 : ¬ a1 = 0 := fun e => by
      rw [e] at h
      rcases h with h | h
      · exact absurd h (by decide)
      · exact absurd h (by decide)
    have n1 : ¬ a1 = 1 := fun e => by
      rw [e] at h
      rcases h with h | h
      · exact absurd h (by decide)
      · exact absurd h (by decide)
    refine ⟨-1000, I, J, W, bm_uI I 164 0 0, J, ?_, ?_, iv_q hI⟩
    · unfold f_X11_book; rw [if_neg n0, if_neg n1]
    · unfold f_X12_book
      rw [show f_X12_isIn a1 0 1 = false from pq_rngF (lo := 0) (hi := 1) h]; rfl
