theorem bs_words {args : Array Value} {s : State} {A : Nat → Prop} (hgv : (Jvm.Cond.and given_1 narrow_1).before args s = true) (hts : ∀ w ∈ lw_tbl, w.before args s = true) (hA : ∀ a : Nat, a < s.heap.size → ¬ A a) : ∃ ad : Nat → Nat, ∀ i, i < 34 → (bs_t i).eval args s none [] s = some (.ref (ad i)) ∧ va_O "BrowArmy$Word" (ad i) A s s.heap := by
  have h0 : ∀ i : Nat, ∃ t : Nat, i < 34 → (bs_t i).eval args s none [] s = some (.ref t) ∧ va_O "BrowArmy$Word" t A s s.heap := by
    intro i
    by_cases hi : i < 34
    · obtain ⟨a, c, cell, k, q1, q2, q3, q4, q5, q6, -⟩ := Cond.exactly_spec (args := args) (first := s) (o := none) (s := s) (idx := []) (bs_of hgv (bs_ex i hi))
      exact ⟨a, fun _ => ⟨q1, cell, q3, q5, by rw [q6]; exact q2, hA a (Array.getElem?_eq_some_iff.mp q3).1⟩⟩
    · exact ⟨0, fun h => absurd h hi⟩
  exact Classical.axiomOfChoice h0
theorem bs_strs {args : Array Value} {s : State} {A : Nat → Prop} (hgv : (Jvm.Cond.and given_1 narrow_1).before args s = true) (hA : ∀ a : Nat, a < s.heap.size → ¬ A a) : ∃ ad : Nat → Nat × Nat, ∀ i, i < 44 → (i < 34 ∨ 40 ≤ i) → (bs_s i).eval args s none [] s = some (.ref (ad i).1) ∧ va_O "java/lang/String" (ad i).1 A s s.heap ∧ va_OF "java/lang/String" "coder" "B" (.int 0) (ad i).1 A s s.heap ∧ va_OF "java/lang/String" "value" "[B" (.ref (ad i).2) (ad i).1 A s s.heap ∧ va_T .byte (ad i).2 (bm_str.getD i []).length (fun j => .int ((bm_str.getD i []).getD j 0)) A s s.heap := by
  have h0 : ∀ i : Nat, ∃ q : Nat × Nat, i < 44 → (i < 34 ∨ 40 ≤ i) → (bs_s i).eval args s none [] s = some (.ref q.1) ∧ va_O "java/lang/String" q.1 A s s.heap ∧ va_OF "java/lang/String" "coder" "B" (.int 0) q.1 A s s.heap ∧ va_OF "java/lang/String" "value" "[B" (.ref q.2) q.1 A s s.heap ∧ va_T .byte q.2 (bm_str.getD i []).length (fun j => .int ((bm_str.getD i []).getD j 0)) A s s.heap := by
    intro i
    by_cases hi : i < 44 ∧ (i < 34 ∨ 40 ≤ i)
    · obtain ⟨a, c, cell, k, q1, q2, q3, q4, q5, q6, -⟩ := Cond.exactly_spec (args := args) (first := s) (o := none) (s := s) (idx := []) (bs_of hgv (bs_xs i hi.1 hi.2))
      obtain ⟨t, ht, hT⟩ := va_Tof (f := fun j => .int ((bm_str.getD i []).getD j 0)) (A := A) (Nat.lt_trans (bm_str_le i hi.1) (by decide)) (bs_of hgv (bs_ar i hi.1 hi.2)) (va_eqt (bs_of hgv (bs_le i hi.1 hi.2))) (fun j hj => va_eqt (bs_of hgv (bs_by i hi.1 hi.2 j hj))) hA
      exact ⟨(a, t), fun _ _ => ⟨q1, ⟨cell, q3, q5, by rw [q6]; exact q2, hA a (Array.getElem?_eq_some_iff.mp q3).1⟩, vk_OFof q1 (va_eqt (bs_of hgv (bs_co i hi.1 hi.2))) hA, vk_OFof q1 ht hA, hT⟩⟩
    · exact ⟨(0, 0), fun h1 h2 => absurd ⟨h1, h2⟩ hi⟩
  exact Classical.axiomOfChoice h0
/-- where the things outside lie -/
def bs_z (ad : Nat → Nat) (as : Nat → Nat × Nat) (tA tS tF : Nat) : Nat → Nat := fun k => if k < 1034 then ad (k - 1000) else if k < 1200 then tA else if k < 1300 then (as (k - 1200)).1 else if k < 1400 then (as (k - 1300)).2 else if k < 1500 then tS else tF
theorem bs_z0 {ad : Nat → Nat} {as : Nat → Nat × Nat} {tA tS tF i : Nat} (h : i < 34) : bs_z ad as tA tS tF (1000 + i) = ad i := by
  unfold bs_z
  rw [if_pos (by omega), show 1000 + i - 1000 = i by omega]
theorem bs_z1 {ad : Nat → Nat} {as : Nat → Nat × Nat} {tA tS tF : Nat} : bs_z ad as tA tS tF 1100 = tA := rfl
theorem bs_z2 {ad : Nat → Nat} {as : Nat → Nat × Nat} {tA tS tF i : Nat} (h : i < 100) : bs_z ad as tA tS tF (1200 + i) = (as i).1 := by
  unfold bs_z
  rw [if_neg (by omega), if_neg (by omega), if_pos (by omega), show 1200 + i - 1200 = i by omega]
theorem bs_z3 {ad : Nat → Nat} {as : Nat → Nat × Nat} {tA tS tF i : Nat} (h : i < 100) : bs_z ad as tA tS tF (1300 + i) = (as i).2 := by
  unfold bs_z
  rw [if_neg (by omega), if_neg (by omega), if_neg (by omega), if_pos (by omega), show 1300 + i - 1300 = i by omega]
theorem bs_z4 {ad : Nat → Nat} {as : Nat → Nat × Nat} {tA tS tF : Nat} : bs_z ad as tA tS tF 1400 = tS := rfl
theorem bs_z5 {ad : Nat → Nat} {as : Nat → Nat × Nat} {tA tS tF : Nat} : bs_z ad as tA tS tF 1500 = tF := rfl
/-- six numbers name the first text once more -/
def bs_ix (i : Nat) : Nat := if 34 ≤ i ∧ i < 40 then 0 else i
theorem bs_ix_ok : ∀ i, i < 44 → bs_ix i < 44 ∧ (bs_ix i < 34 ∨ 40 ≤ bs_ix i) ∧ bm_str.getD (bs_ix i) [] = bm_str.getD i [] := by decide +kernel
theorem bs_xl {P : Nat × String × String × String × Value → Prop} (h1 : ∀ i, i < 34 → P (1000 + i, "BrowArmy$Word", "sort", "I", .int (bm_wsort.getD i 0))) (h2 : ∀ i, i < 34 → P (1000 + i, "BrowArmy$Word", "number", "I", .int (bm_wnum.getD i 0))) (h3 : ∀ i, i < 34 → P (1000 + i, "BrowArmy$Word", "packed", "J", .long (bm_wpack.getD i 0))) (h4 : ∀ i, i < 34 → P (1000 + i, "BrowArmy$Word", "text", "Ljava/lang/String;", .ref (1200 + i))) (h5 : ∀ i, i < 44 → P (1200 + i, "java/lang/String", "coder", "B", .int 0)) (h6 : ∀ i, i < 44 → P (1200 + i, "java/lang/String", "value", "[B", .ref (1300 + i))) : ∀ q ∈ bm_xl, P q := by
  intro q hq
  simp only [bm_xl, List.mem_append, List.mem_map, List.mem_range] at hq
  rcases hq with ((((⟨i, hi, rfl⟩ | ⟨i, hi, rfl⟩) | ⟨i, hi, rfl⟩) | ⟨i, hi, rfl⟩) | ⟨i, hi, rfl⟩) | ⟨i, hi, rfl⟩
  · exact h1 i hi
  · exact h2 i hi
  · exact h3 i hi
  · exact h4 i hi
  · exact h5 i hi
  · exact h6 i hi

theorem bs_inj {ad : Nat → Nat} {A : Nat → Prop} {s : State} (hor : va_Ef 34 "java/lang/Enum" "ordinal" "I" (fun i => .int (Int32.ofNat i)) ad A s s.heap) : ∀ i j, i < 34 → j < 34 → ad i = ad j → i = j := by
  intro i j hi hj e
  have h1 := hor i hi
  rw [e] at h1
  have h2 := bs_OFeq h1 (hor j hj)
  have h3 : Int32.ofNat i = Int32.ofNat j := Value.int.inj h2
  exact (nI_eq (by omega) (by omega)).mp h3
set_option maxHeartbeats 4000000 in
theorem bs_G {args : Array Value} {s : State} {A : Nat → Prop} {b N : Nat} {xs : Nat → Int32} (hgv : (Jvm.Cond.and given_1 narrow_1).before args s = true) (hts : ∀ w ∈ lw_tbl, w.before args s = true) (hX : va_X b N xs s s.heap) (hbl : b < s.heap.size) (hN : N < 2 ^ 31) (hA : ∀ a : Nat, a < s.heap.size → ¬ A a) : ∃ ζ : Nat → Nat, bm_G (N, xs) ζ A s s.heap ∧ ζ 1400 = b := by
  have tw : ∀ {i : Nat} {w : Cond}, lw_tbl[i]? = some w → w.before args s = true := fun h => hts _ (List.mem_of_getElem? h)
  obtain ⟨ad, had⟩ := bs_words hgv hts hA
  obtain ⟨as, has⟩ := bs_strs hgv hA
  have hev : ∀ i, i < 34 → (Term.static "BrowArmy$Word" (bs_nm.getD i "") "LBrowArmy$Word;").eval args s none [] s = some (.ref (ad i)) := fun i hi => (had i hi).1
  have hso := va_Efof (A := A) (o := "BrowArmy$Word") (n := "sort") (d := "I") (v := fun i => .int (bm_wsort.getD i 0)) (tm := fun i => .int (bm_wsort.getD i 0)) hev (fun i hi => bs_of hgv (bs_so i hi)) (fun i hi => rfl) hA
  have hnu := va_Efof (A := A) (o := "BrowArmy$Word") (n := "number") (d := "I") (v := fun i => .int (bm_wnum.getD i 0)) (tm := fun i => .int (bm_wnum.getD i 0)) hev (fun i hi => bs_of hgv (bs_nu i hi)) (fun i hi => rfl) hA
  have hpa := va_Efof (A := A) (o := "BrowArmy$Word") (n := "packed") (d := "J") (v := fun i => .long (bm_wpack.getD i 0)) (tm := fun i => .long (bm_wpack.getD i 0)) hev (fun i hi => bs_of hgv (bs_pa i hi)) (fun i hi => rfl) hA
  have hor := va_Efof (A := A) (o := "java/lang/Enum") (n := "ordinal") (d := "I") (v := fun i => .int (Int32.ofNat i)) (tm := fun i => .int (Int32.ofNat i)) hev (fun i hi => bs_of hgv (bs_or i hi)) (fun i hi => rfl) hA
  have hte := va_Efof (A := A) (o := "BrowArmy$Word") (n := "text") (d := "Ljava/lang/String;") (v := fun i => .ref (as i).1) (tm := bs_s) hev (fun i hi => bs_of hgv (bs_te i hi)) (fun i hi => (has i (by omega) (Or.inl hi)).1) hA
  obtain ⟨tA, htA, hTA⟩ := va_Tof (tm := .static "BrowArmy$Word" "ALL" "[LBrowArmy$Word;") (N := 34) (f := fun j => .ref (ad j)) (A := A) (by decide) (bs_of hgv bs_a1) (va_eqt (bs_of hgv bs_a2)) (fun j hj => va_eqv (bs_of hgv (bs_el j hj)) (had j hj).1) hA
  obtain ⟨scr, hs1, hs2, hs3, hs4, hs5⟩ := hX
  obtain ⟨vF, hvF, hrF⟩ := Cond.isRef_spec (args := args) (first := s) (o := none) (s := s) (idx := []) (bs_of hgv bs_sf)
  have hF : ∃ tF : Nat, va_Z "jdk/internal/util/Preconditions" "SIOOBE_FORMATTER" "Ljava/util/function/BiFunction;" (.ref tF) A s s.heap ∨ va_Z "jdk/internal/util/Preconditions" "SIOOBE_FORMATTER" "Ljava/util/function/BiFunction;" .null A s s.heap := by
    have hz := va_Zof (A := A) (tw bs_w3) (tw bs_i2) hvF hA
    cases vF <;> first | (simp [Value.isRef] at hrF; done) | exact ⟨_, Or.inl hz⟩ | exact ⟨0, Or.inr hz⟩
  obtain ⟨tF, hF⟩ := hF
  refine ⟨bs_z ad (fun i => as (bs_ix i)) tA b tF, ⟨fun w hw => ?_, fun C hC => ?_, fun q hq => ?_, fun q hq => ?_, ?_, fun q hq => ?_, fun q hq => ?_, fun i j hi hj e => ?_, ?_, ?_⟩, rfl⟩
  · obtain ⟨a, i, x, h, rfl⟩ := bm_nl_link w hw
    exact va_Nw.of rfl (hts _ (bs_nl _ hw))
  · simp only [List.mem_cons, List.not_mem_nil, or_false] at hC
    rcases hC with rfl | rfl | rfl
    · exact va_AO.of (tw bs_o0)
    · exact va_AO.of (tw bs_o1)
    · exact va_AO.of (tw bs_o2)
  · have h1 : ∀ i, i < 34 → va_Z "BrowArmy$Word" (bs_nm.getD i "") "LBrowArmy$Word;" (.ref (ad i)) A s s.heap := fun i hi => va_Zref (tw (bs_ls i hi)) (tw bs_i0) (hev i hi) hA
    have h2 : va_Z "BrowArmy$Word" "ALL" "[LBrowArmy$Word;" (.ref tA) A s s.heap := va_Zref (tw bs_w1) (tw bs_i0) htA hA
    have h3 : va_Z "java/lang/String" "COMPACT_STRINGS" "Z" (.int 1) A s s.heap := va_Zof (tw bs_w2) (tw bs_i1) (va_eqi (bs_of hgv bs_cs)) hA
    obtain ⟨k, hk, hkq⟩ := List.getElem_of_mem hq
    have hk36 : k < 36 := hk
    have key : ∀ k, k < 36 → ∀ q, bm_zl[k]? = some q → va_Z q.1 q.2.1 q.2.2.1 (bm_re (bs_z ad (fun i => as (bs_ix i)) tA b tF) q.2.2.2) A s s.heap := by
      intro k hk q hq
      by_cases h34 : k < 34
      · have e : bm_zl[k]? = some ("BrowArmy$Word", bs_nm.getD k "", "LBrowArmy$Word;", .ref (1000 + k)) := (show ∀ k, k < 34 → bm_zl[k]? = some ("BrowArmy$Word", bs_nm.getD k "", "LBrowArmy$Word;", .ref (1000 + k)) by decide +kernel) k h34
        rw [e] at hq
        cases hq
        show va_Z _ _ _ (.ref (bs_z ad _ tA b tF (1000 + k))) A s s.heap
        rw [bs_z0 h34]
        exact h1 k h34
      · rcases (show k = 34 ∨ k = 35 by omega) with rfl | rfl
        · cases hq
          exact h2
        · cases hq
          exact h3
    exact key k hk36 q (by rw [List.getElem?_eq_getElem hk, hkq])
  · simp only [bm_ol, List.mem_append, List.mem_map, List.mem_range] at hq
    rcases hq with (⟨i, hi, rfl⟩ | ⟨i, hi, rfl⟩) | ⟨i, hi, rfl⟩
    · show va_O "BrowArmy$Word" (bs_z _ _ _ _ _ (1000 + i)) A s s.heap
      rw [bs_z0 hi]
      exact (had i hi).2
    · show va_O "java/lang/String" (bs_z _ _ _ _ _ (1200 + i)) A s s.heap
      rw [bs_z2 (by omega)]
      obtain ⟨g1, g2, -⟩ := bs_ix_ok i (by omega)
      exact (has _ g1 g2).2.1
    · show va_O "java/lang/String" (bs_z _ _ _ _ _ (1240 + i)) A s s.heap
      rw [show 1240 + i = 1200 + (40 + i) by omega, bs_z2 (by omega)]
      obtain ⟨g1, g2, -⟩ := bs_ix_ok (40 + i) (by omega)
      exact (has _ g1 g2).2.1
  · refine bs_xl (fun i hi => ?_) (fun i hi => ?_) (fun i hi => ?_) (fun i hi => ?_) (fun i hi => ?_) (fun i hi => ?_)
    · show va_OF _ _ _ (.int _) (bs_z _ _ _ _ _ (1000 + i)) A s s.heap
      rw [bs_z0 hi]
      exact hso i hi
    · show va_OF _ _ _ (.int _) (bs_z _ _ _ _ _ (1000 + i)) A s s.heap
      rw [bs_z0 hi]
      exact hnu i hi
    · show va_OF _ _ _ (.long _) (bs_z _ _ _ _ _ (1000 + i)) A s s.heap
      rw [bs_z0 hi]
      exact hpa i hi
    · show va_OF _ _ _ (.ref (bs_z _ _ _ _ _ (1200 + i))) (bs_z _ _ _ _ _ (1000 + i)) A s s.heap
      rw [bs_z0 hi, bs_z2 (by omega)]
      have e : bs_ix i = i := by unfold bs_ix; rw [if_neg (by omega)]
      rw [e]
      exact hte i hi
    · show va_OF _ _ _ (.int 0) (bs_z _ _ _ _ _ (1200 + i)) A s s.heap
      rw [bs_z2 (by omega)]
      obtain ⟨g1, g2, -⟩ := bs_ix_ok i hi
      exact (has _ g1 g2).2.2.1
    · show va_OF _ _ _ (.ref (bs_z _ _ _ _ _ (1300 + i))) (bs_z _ _ _ _ _ (1200 + i)) A s s.heap
      rw [bs_z2 (by omega), bs_z3 (by omega)]
      obtain ⟨g1, g2, -⟩ := bs_ix_ok i hi
      exact (has _ g1 g2).2.2.2.1
  · simp only [bm_tl, List.mem_cons, List.mem_map, List.mem_range] at hq
    rcases hq with rfl | ⟨i, hi, rfl⟩
    · have e : (fun j => bm_re (bs_z ad (fun i => as (bs_ix i)) tA b tF) (.ref (1000 + j))) = fun j => .ref (bs_z ad (fun i => as (bs_ix i)) tA b tF (1000 + j)) := rfl
      show va_T (.object "BrowArmy$Word") tA 34 (fun j => .ref (bs_z ad (fun i => as (bs_ix i)) tA b tF (1000 + j))) A s s.heap
      obtain ⟨cell, t1, t2, t3, t4, t5, t6, t7⟩ := hTA
      exact ⟨cell, t1, t2, t3, t4, t5, fun j hj => by show cell.slots[j]? = some (.ref (bs_z ad (fun i => as (bs_ix i)) tA b tF (1000 + j))); rw [bs_z0 hj]; exact t6 j hj, t7⟩
    · show va_T .byte (bs_z _ _ _ _ _ (1300 + i)) (bm_str.getD i []).length (fun j => .int ((bm_str.getD i []).getD j 0)) A s s.heap
      rw [bs_z3 (by omega)]
      obtain ⟨g1, g2, g3⟩ := bs_ix_ok i hi
      have h := (has _ g1 g2).2.2.2.2
      rw [g3] at h
      exact h
  · obtain ⟨k, hk, hkq⟩ := List.getElem_of_mem hq
    obtain ⟨q', e1, e2, e3, e4⟩ := bs_rl k hk
    rw [List.getElem?_eq_getElem hk, hkq] at e1
    cases e1
    rw [e4, show 1240 + k = 1200 + (40 + k) by omega, bs_z2 (by have : k < 4 := hk; omega)]
    have e : bs_ix (40 + k) = 40 + k := by unfold bs_ix; rw [if_neg (by omega)]
    have h := (has (40 + k) (by have : k < 4 := hk; omega) (Or.inr (by omega))).1
    rw [e3] at h
    rw [e]
    exact vk_R.of (A := args) (tw e2) h
  · rw [bs_z0 hi, bs_z0 hj] at e
    exact bs_inj hor i j hi hj e
  · show va_T .int b N (fun j => .int (xs j)) A s s.heap
    exact ⟨scr, hs1, hs2, hs3, by rw [hs4]; exact Nat.le_refl N, by rw [hs4], hs5, hA b hbl⟩
  · exact hF
