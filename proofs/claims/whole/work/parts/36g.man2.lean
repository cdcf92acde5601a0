/-! lines: a man, both marks -/
section AN
variable {n lim p : Nat} {B : Nat → Nat} {c : zc_C} {r : zc_R}
def mn_E (n lim : Nat) (B : Nat → Nat) (p : Nat) (c : zc_C) (r : zc_R) (x : Option (Bool × zc_C)) (y : Option (Bool × zc_R)) : Prop := ∃ c' r' p' a b T, x = some (true, c') ∧ y = some (true, r') ∧ zz_P n lim B p' c' r' ∧ ar_P a b T c' r' ∧ p ≤ p' ∧ ga_c c c' ∧ ga_r r r'
theorem zl_flags {a b : Bool} {T : pt_T} {m : Nat} (h : zz_P n lim B p c r) (ha : ar_P a b T c r) (hm : T 0 = m) (m8 : m < 8) (hx : T (5 + m) ≤ 30) (hy : T (13 + m) ≤ 30) (hb : T (21 + m) ≤ 9) (k17 : c.1 17 m = nI (T (5 + m))) (k18 : c.1 18 m = nI (T (13 + m))) (k19 : c.1 19 m = nI (T (21 + m))) (hn : nm_E (c.2.1 16 m) (r.2 169 (15 + m))) : mn_E n lim B p c r (mn_t c.1 c.2.1 c.2.2) (mn_r r.1 r.2 (nI m)) := by
  have hp : 2 ^ m < 2 ^ (m + 1) := Nat.pow_lt_pow_right (by omega) (by omega)
  have hp0 : 0 < 2 ^ (m + 1) := Nat.pow_pos (by omega)
  have w24 : (117026742756708 : Int64) = nm_8 (wd_w 24) := by decide +kernel
  have w25 : (1735550329 : Int64) = nm_8 (wd_w 25) := by decide +kernel
  have k10 : c.1 15 10 = nI m := hm ▸ ha.2.2.1.1
  have k11 : c.1 15 11 = nI (T 29) := ha.2.2.1.2.1
  have k12 : c.1 15 12 = nI (T 30) := ha.2.2.1.2.2.1
  have r29 : r.1 167 29 = nI (T 29) := ha.1 29 (by omega)
  have r30 : r.1 167 30 = nI (T 30) := ha.1 30 (by omega)
  have r0 : r.1 167 0 = nI m := hm ▸ ha.1 0 (by omega)
  -- the end of it
  have fin : ∀ (cz : zc_C) (rz : zc_R) (pz g1 g2 : Nat), zz_P n lim B pz cz rz → p ≤ pz → g1 < 2 ^ (m + 1) → g2 < 2 ^ (m + 1) → (∀ o i, (o ≠ 3 ∨ i < 2 ∨ 10 < i) → ¬ (o = 15 ∧ 11 ≤ i ∧ i ≤ 12) → cz.1 o i = c.1 o i) → cz.1 15 11 = nI (T 29 ||| g1) → cz.1 15 12 = nI (T 30 ||| g2) → fk_J c.2.1 cz.2.1 → fk_W c.2.2 cz.2.2 → (∀ o k, ¬ (o = 167 ∧ k = 29) → (o ≠ 164 ∨ k < 4 ∨ (4 < k ∧ k < 11) ∨ k = 17 ∨ 18 < k) → rz.1 o k = r.1 o k) → rz.1 167 29 = nI (T 29 ||| g1) → rk_J r.2 rz.2 → ∃ p' T', zz_P n lim B p' (bm_uI (bm_uI cz.1 20 m (-1)) 15 10 (nI (m + 1)), cz.2) (bm_uI (bm_uI rz.1 167 30 (nI (T 30 ||| g2))) 167 0 (nI (m + 1)), rz.2) ∧ ar_P a b T' (bm_uI (bm_uI cz.1 20 m (-1)) 15 10 (nI (m + 1)), cz.2) (bm_uI (bm_uI rz.1 167 30 (nI (T 30 ||| g2))) 167 0 (nI (m + 1)), rz.2) ∧ p ≤ p' ∧ ga_c c (bm_uI (bm_uI cz.1 20 m (-1)) 15 10 (nI (m + 1)), cz.2) ∧ ga_r r (bm_uI (bm_uI rz.1 167 30 (nI (T 30 ||| g2))) 167 0 (nI (m + 1)), rz.2) := by
    intro cz rz pz g1 g2 z hpz hg1 hg2 fc f11 f12 fJ fW fr fr29 rJ
    refine ⟨pz, _, zz_ru (zz_ru (zz_cu (zz_cu z (by omega)) (by omega))), ar_man (g1 := g1) (g2 := g2) ha hm m8 hx hy hb k17 k18 k19 hn hg1 hg2 (fun o i h1 h2 h3 => ?_) ?_ ?_ ?_ ?_ fJ (fun k hk h1 h2 h3 => ?_) ?_ ?_ ?_ ?_ rJ, hpz, ⟨fun o k h1 h2 => ?_, fun o k h1 h2 h3 => fJ o k (by omega), fun o k h1 => fW o k (by omega)⟩, ⟨fun o k h1 h2 => ?_, fun o k h1 h2 => rJ o k h1⟩⟩
    · show bm_uI (bm_uI cz.1 20 m (-1)) 15 10 (nI (m + 1)) o i = _
      rw [pn_uI_off (by omega), pn_uI_off (by omega)]; exact fc o i h1 (by omega)
    · show bm_uI (bm_uI cz.1 20 m (-1)) 15 10 (nI (m + 1)) 15 10 = _
      exact pn_uI_hit rfl
    · show bm_uI (bm_uI cz.1 20 m (-1)) 15 10 (nI (m + 1)) 15 11 = _
      rw [pn_uI_ne2 (by omega), pn_uI_ne (by omega)]; exact f11
    · show bm_uI (bm_uI cz.1 20 m (-1)) 15 10 (nI (m + 1)) 15 12 = _
      rw [pn_uI_ne2 (by omega), pn_uI_ne (by omega)]; exact f12
    · show bm_uI (bm_uI cz.1 20 m (-1)) 15 10 (nI (m + 1)) 20 m = _
      rw [pn_uI_ne (by omega), pn_uI_hit rfl]
    · show bm_uI (bm_uI rz.1 167 30 (nI (T 30 ||| g2))) 167 0 (nI (m + 1)) 167 k = _
      rw [pn_uI_ne2 h1, pn_uI_ne2 h3]; exact fr 167 k (by omega) (by omega)
    · show bm_uI (bm_uI rz.1 167 30 (nI (T 30 ||| g2))) 167 0 (nI (m + 1)) 167 0 = _
      exact pn_uI_hit rfl
    · show bm_uI (bm_uI rz.1 167 30 (nI (T 30 ||| g2))) 167 0 (nI (m + 1)) 167 29 = _
      rw [pn_uI_ne2 (by omega), pn_uI_ne2 (by omega)]; exact fr29
    · show bm_uI (bm_uI rz.1 167 30 (nI (T 30 ||| g2))) 167 0 (nI (m + 1)) 167 30 = _
      rw [pn_uI_ne2 (by omega)]; exact pn_uI_hit rfl
    · show bm_uI (bm_uI rz.1 167 30 (nI (T 30 ||| g2))) 167 0 (nI (m + 1)) 164 20 = _
      rw [pn_uI_ne (by omega), pn_uI_ne (by omega)]; exact fr 164 20 (by omega) (by omega)
    · show bm_uI (bm_uI cz.1 20 m (-1)) 15 10 (nI (m + 1)) o k = _
      rw [pn_uI_ne (by omega), pn_uI_ne (by omega)]; exact fc o k (by omega) (by omega)
    · show bm_uI (bm_uI rz.1 167 30 (nI (T 30 ||| g2))) 167 0 (nI (m + 1)) o k = _
      rw [pn_uI_ne (by omega), pn_uI_ne (by omega)]; exact fr o k (by omega) (by omega)
  unfold mn_t mn_r
  rw [if_pos (zz_iwq h), r29]
  by_cases q1 : (lx B n lim p).1 = 4 ∧ (lx B n lim p).2.1 = 24
  · obtain ⟨c1, r1, p1, e1, d1, z1, l1, g1, s1, hW⟩ := zz_flY (m := m) (s := 11) (x := nI (T 29 ||| 2 ^ m)) h (by omega) w24 q1 m8
    rw [if_pos hW, k10, k11, pn_shl (show m < 31 by omega), pn_or, e1, d1]
    simp only [Option.bind_some]
    rw [pn_or]
    have z1' := zz_ru z1 (k := 29) (v := nI (T 29 ||| 2 ^ m))
    have c10 : c1.1 15 10 = nI m := (g1.1 15 10 (by omega)).trans ((show bm_uI c.1 15 11 (nI (T 29 ||| 2 ^ m)) 15 10 = _ from pn_uI_ne2 (by omega)).trans k10)
    have c11 : c1.1 15 11 = nI (T 29 ||| 2 ^ m) := (g1.1 15 11 (by omega)).trans (show bm_uI c.1 15 11 (nI (T 29 ||| 2 ^ m)) 15 11 = _ from pn_uI_hit rfl)
    have c12 : c1.1 15 12 = nI (T 30) := (g1.1 15 12 (by omega)).trans ((show bm_uI c.1 15 11 (nI (T 29 ||| 2 ^ m)) 15 12 = _ from pn_uI_ne2 (by omega)).trans k12)
    have cf : ∀ o i, (o ≠ 3 ∨ i < 2 ∨ 10 < i) → ¬ (o = 15 ∧ i = 11) → c1.1 o i = c.1 o i := fun o i h1 h2 => (g1.1 o i h1).trans (show bm_uI c.1 15 11 (nI (T 29 ||| 2 ^ m)) o i = _ from pn_uI_off (by omega))
    have r130 : bm_uI r1.1 167 29 (nI (T 29 ||| 2 ^ m)) 167 30 = nI (T 30) := by rw [pn_uI_ne2 (by omega), s1.1 167 30 (by omega)]; exact r30
    rw [if_pos (zz_iwq z1), r130]
    by_cases q2 : (lx B n lim p1).1 = 4 ∧ (lx B n lim p1).2.1 = 25
    · obtain ⟨c2, r2, p2, e2, d2, z2, l2, g2, s2, hW2⟩ := zz_flY (m := m) (s := 12) (x := nI (T 30 ||| 2 ^ m)) z1' (by omega) w25 q2 m8
      have d2' : f_X12_flag (bm_uI r1.1 167 29 (nI (T 29 ||| 2 ^ m))) r1.2 1735550329 (nI m) = some (nI (2 ^ m), r2) := d2
      have c210 : c2.1 15 10 = nI m := (g2.1 15 10 (by omega)).trans ((show bm_uI c1.1 15 12 (nI (T 30 ||| 2 ^ m)) 15 10 = _ from pn_uI_ne2 (by omega)).trans c10)
      have c211 : c2.1 15 11 = nI (T 29 ||| 2 ^ m) := (g2.1 15 11 (by omega)).trans ((show bm_uI c1.1 15 12 (nI (T 30 ||| 2 ^ m)) 15 11 = _ from pn_uI_ne2 (by omega)).trans c11)
      have c212 : c2.1 15 12 = nI (T 30 ||| 2 ^ m) := (g2.1 15 12 (by omega)).trans (show bm_uI c1.1 15 12 (nI (T 30 ||| 2 ^ m)) 15 12 = _ from pn_uI_hit rfl)
      have cf2 : ∀ o i, (o ≠ 3 ∨ i < 2 ∨ 10 < i) → ¬ (o = 15 ∧ 11 ≤ i ∧ i ≤ 12) → c2.1 o i = c.1 o i := fun o i h1 h2 => (g2.1 o i h1).trans ((show bm_uI c1.1 15 12 (nI (T 30 ||| 2 ^ m)) o i = _ from pn_uI_off (by omega)).trans (cf o i h1 (by omega)))
      have rf : ∀ o k, ¬ (o = 167 ∧ k = 29) → (o ≠ 164 ∨ k < 4 ∨ (4 < k ∧ k < 11) ∨ k = 17 ∨ 18 < k) → r2.1 o k = r.1 o k := fun o k h1 h2 => (s2.1 o k h2).trans ((show bm_uI r1.1 167 29 (nI (T 29 ||| 2 ^ m)) o k = _ from pn_uI_off (by omega)).trans (s1.1 o k h2))
      have rf29 : r2.1 167 29 = nI (T 29 ||| 2 ^ m) := (s2.1 167 29 (by omega)).trans (show bm_uI r1.1 167 29 (nI (T 29 ||| 2 ^ m)) 167 29 = _ from pn_uI_hit rfl)
      obtain ⟨p', T', f1, f2, f3, f4, f5⟩ := fin c2 r2 p2 (2 ^ m) (2 ^ m) z2 (by omega) hp hp cf2 c211 c212 (fun o k ho => (g2.2.1 o k ho).trans (g1.2.1 o k ho)) (fun o k ho => (g2.2.2 o k ho).trans (g1.2.2 o k ho)) rf rf29 (fun o k ho => (s2.2 o k ho).trans (s1.2 o k ho))
      rw [if_pos hW2, c10, c12, pn_shl (show m < 31 by omega), pn_or, e2, d2']
      simp only [Option.bind_some]
      have v10 : bm_uI c2.1 20 m (-1) 15 10 = nI m := by rw [pn_uI_ne (by omega)]; exact c210
      have v0 : bm_uI r2.1 167 30 (nI (T 30 ||| 2 ^ m)) 167 0 = nI m := by rw [pn_uI_ne2 (by omega), rf 167 0 (by omega) (by omega)]; exact r0
      rw [c210, if_pos (bm_ixk m8 (by omega)), nI_clamp (by omega), v10, pn_or, v0, nI_1]
      exact ⟨_, _, p', a, b, T', rfl, rfl, f1, f2, f3, f4, f5⟩
    · obtain ⟨d2, hW2⟩ := zz_flN (m := m) z1' (by omega) w25 q2
      have d2' : f_X12_flag (bm_uI r1.1 167 29 (nI (T 29 ||| 2 ^ m))) r1.2 1735550329 (nI m) = some (0, bm_uI r1.1 167 29 (nI (T 29 ||| 2 ^ m)), r1.2) := d2
      have rf : ∀ o k, ¬ (o = 167 ∧ k = 29) → (o ≠ 164 ∨ k < 4 ∨ (4 < k ∧ k < 11) ∨ k = 17 ∨ 18 < k) → bm_uI r1.1 167 29 (nI (T 29 ||| 2 ^ m)) o k = r.1 o k := fun o k h1 h2 => (pn_uI_off (by omega)).trans (s1.1 o k h2)
      obtain ⟨p', T', f1, f2, f3, f4, f5⟩ := fin c1 (bm_uI r1.1 167 29 (nI (T 29 ||| 2 ^ m)), r1.2) p1 (2 ^ m) 0 z1' (by omega) hp hp0 (fun o i h1 h2 => cf o i h1 (by omega)) c11 (by rw [Nat.or_zero]; exact c12) g1.2.1 g1.2.2 rf (show bm_uI r1.1 167 29 (nI (T 29 ||| 2 ^ m)) 167 29 = _ from pn_uI_hit rfl) s1.2
      rw [if_neg hW2, d2']
      simp only [Option.bind_some]
      have v10 : bm_uI c1.1 20 m (-1) 15 10 = nI m := by rw [pn_uI_ne (by omega)]; exact c10
      have v0 : bm_uI (bm_uI r1.1 167 29 (nI (T 29 ||| 2 ^ m))) 167 30 (nI (T 30 ||| 0)) 167 0 = nI m := by rw [pn_uI_ne2 (by omega), rf 167 0 (by omega) (by omega)]; exact r0
      rw [c10, if_pos (bm_ixk m8 (by omega)), nI_clamp (by omega), v10, show (nI (T 30) ||| 0) = nI (T 30 ||| 0) from pn_or _ _, v0, nI_1]
      exact ⟨_, _, p', a, b, T', rfl, rfl, f1, f2, f3, f4, f5⟩
  · obtain ⟨d1, hW⟩ := zz_flN (m := m) h (by omega) w24 q1
    have d1' : f_X12_flag r.1 r.2 117026742756708 (nI m) = some (0, r.1, r.2) := d1
    rw [if_neg hW, k10, k12, pn_shl (show m < 31 by omega), pn_or, d1']
    simp only [Option.bind_some]
    rw [show (nI (T 29) ||| 0) = nI (T 29 ||| 0) from pn_or _ _]
    have z1' := zz_ru h (k := 29) (v := nI (T 29 ||| 0))
    have r130 : bm_uI r.1 167 29 (nI (T 29 ||| 0)) 167 30 = nI (T 30) := by rw [pn_uI_ne2 (by omega)]; exact r30
    rw [r130]
    by_cases q2 : (lx B n lim p).1 = 4 ∧ (lx B n lim p).2.1 = 25
    · obtain ⟨c2, r2, p2, e2, d2, z2, l2, g2, s2, hW2⟩ := zz_flY (m := m) (s := 12) (x := nI (T 30 ||| 2 ^ m)) z1' (by omega) w25 q2 m8
      have d2' : f_X12_flag (bm_uI r.1 167 29 (nI (T 29 ||| 0))) r.2 1735550329 (nI m) = some (nI (2 ^ m), r2) := d2
      have c210 : c2.1 15 10 = nI m := (g2.1 15 10 (by omega)).trans ((show bm_uI c.1 15 12 (nI (T 30 ||| 2 ^ m)) 15 10 = _ from pn_uI_ne2 (by omega)).trans k10)
      have c211 : c2.1 15 11 = nI (T 29 ||| 0) := (g2.1 15 11 (by omega)).trans ((show bm_uI c.1 15 12 (nI (T 30 ||| 2 ^ m)) 15 11 = _ from pn_uI_ne2 (by omega)).trans (by rw [Nat.or_zero]; exact k11))
      have c212 : c2.1 15 12 = nI (T 30 ||| 2 ^ m) := (g2.1 15 12 (by omega)).trans (show bm_uI c.1 15 12 (nI (T 30 ||| 2 ^ m)) 15 12 = _ from pn_uI_hit rfl)
      have cf2 : ∀ o i, (o ≠ 3 ∨ i < 2 ∨ 10 < i) → ¬ (o = 15 ∧ 11 ≤ i ∧ i ≤ 12) → c2.1 o i = c.1 o i := fun o i h1 h2 => (g2.1 o i h1).trans (show bm_uI c.1 15 12 (nI (T 30 ||| 2 ^ m)) o i = _ from pn_uI_off (by omega))
      have rf : ∀ o k, ¬ (o = 167 ∧ k = 29) → (o ≠ 164 ∨ k < 4 ∨ (4 < k ∧ k < 11) ∨ k = 17 ∨ 18 < k) → r2.1 o k = r.1 o k := fun o k h1 h2 => (s2.1 o k h2).trans (show bm_uI r.1 167 29 (nI (T 29 ||| 0)) o k = _ from pn_uI_off (by omega))
      have rf29 : r2.1 167 29 = nI (T 29 ||| 0) := (s2.1 167 29 (by omega)).trans (show bm_uI r.1 167 29 (nI (T 29 ||| 0)) 167 29 = _ from pn_uI_hit rfl)
      obtain ⟨p', T', f1, f2, f3, f4, f5⟩ := fin c2 r2 p2 0 (2 ^ m) z2 (by omega) hp0 hp cf2 c211 c212 g2.2.1 g2.2.2 rf rf29 s2.2
      rw [if_pos hW2, e2, d2']
      simp only [Option.bind_some]
      have v10 : bm_uI c2.1 20 m (-1) 15 10 = nI m := by rw [pn_uI_ne (by omega)]; exact c210
      have v0 : bm_uI r2.1 167 30 (nI (T 30 ||| 2 ^ m)) 167 0 = nI m := by rw [pn_uI_ne2 (by omega), rf 167 0 (by omega) (by omega)]; exact r0
      rw [c210, if_pos (bm_ixk m8 (by omega)), nI_clamp (by omega), v10, pn_or, v0, nI_1]
      exact ⟨_, _, p', a, b, T', rfl, rfl, f1, f2, f3, f4, f5⟩
    · obtain ⟨d2, hW2⟩ := zz_flN (m := m) z1' (by omega) w25 q2
      have d2' : f_X12_flag (bm_uI r.1 167 29 (nI (T 29 ||| 0))) r.2 1735550329 (nI m) = some (0, bm_uI r.1 167 29 (nI (T 29 ||| 0)), r.2) := d2
      have rf : ∀ o k, ¬ (o = 167 ∧ k = 29) → (o ≠ 164 ∨ k < 4 ∨ (4 < k ∧ k < 11) ∨ k = 17 ∨ 18 < k) → bm_uI r.1 167 29 (nI (T 29 ||| 0)) o k = r.1 o k := fun o k h1 h2 => pn_uI_off (by omega)
      obtain ⟨p', T', f1, f2, f3, f4, f5⟩ := fin c (bm_uI r.1 167 29 (nI (T 29 ||| 0)), r.2) p 0 0 z1' (by omega) hp0 hp0 (fun o i h1 h2 => rfl) (by rw [Nat.or_zero]; exact k11) (by rw [Nat.or_zero]; exact k12) (fun _ _ _ => rfl) (fun _ _ _ => rfl) rf (show bm_uI r.1 167 29 (nI (T 29 ||| 0)) 167 29 = _ from pn_uI_hit rfl) (fun _ _ _ => rfl)
      rw [if_neg hW2, d2']
      simp only [Option.bind_some]
      have v10 : bm_uI c.1 20 m (-1) 15 10 = nI m := by rw [pn_uI_ne (by omega)]; exact k10
      have v0 : bm_uI (bm_uI r.1 167 29 (nI (T 29 ||| 0))) 167 30 (nI (T 30 ||| 0)) 167 0 = nI m := by rw [pn_uI_ne2 (by omega), rf 167 0 (by omega) (by omega)]; exact r0
      rw [nI_clamp (by omega), v10, show (nI (T 30) ||| 0) = nI (T 30 ||| 0) from pn_or _ _, v0, nI_1]
      exact ⟨_, _, p', a, b, T', rfl, rfl, f1, f2, f3, f4, f5⟩
end AN
