theorem bm_arrc0 : Cond.arrayClass .int ∈ bm_T := bm_Tin (i := 162) (by decide +kernel) (by decide +kernel)
theorem bm_arrc1 : Cond.arrayClass .byte ∈ bm_T := bm_Tin (i := 1115) (by decide +kernel) (by decide +kernel)
theorem bm_arrc2 : Cond.arrayClass .long ∈ bm_T := bm_Tin (i := 301) (by decide +kernel) (by decide +kernel)
theorem bm_arrc3 : Cond.arrayClass .boolean ∈ bm_T := bm_Tin (i := 1576) (by decide +kernel) (by decide +kernel)
theorem bm_oi1 : Cond.instanceMethod Lib.objectInit ∈ bm_T := bm_Tin (i := 141) (by decide +kernel) (by decide +kernel)
theorem bm_oi2 : Cond.code Lib.objectInit ⟨#[0xb1]⟩ 1 none ∈ bm_T := bm_Tin (i := 142) (by decide +kernel) (by decide +kernel)
/-! making cells -/
def bm_z (M : bm_M) (n : Nat) : bm_M := ((fun o k => if o = n then 0 else M.1 o k), (fun o k => if o = n then 0 else M.2.1 o k), (fun o k => if o = n then none else M.2.2.1 o k), fun o k => if o = n then none else M.2.2.2 o k)
/-- every reference in the memory is to a cell that is there, or stands outside -/
def bm_wf (n : Nat) (M : bm_M) : Prop := (∀ o k x, M.2.2.1 o k = some x → x < n ∨ 1000 ≤ x) ∧ ∀ o k x, M.2.2.2 o k = some x → x < n ∨ 1000 ≤ x
def bm_up (α : Nat → Nat) (n q : Nat) : Nat → Nat := fun k => if k = n then q else α k
theorem bm_wf_z {n : Nat} {M : bm_M} (h : bm_wf n M) : bm_wf (n + 1) (bm_z M n) := by
  refine ⟨fun o k x hx => ?_, fun o k x hx => ?_⟩
  · by_cases ho : o = n
    · simp [bm_z, ho] at hx
    · simp only [bm_z, ho, if_false] at hx
      rcases h.1 o k x hx with q | q
      · exact Or.inl (by omega)
      · exact Or.inr q
  · by_cases ho : o = n
    · simp [bm_z, ho] at hx
    · simp only [bm_z, ho, if_false] at hx
      rcases h.2 o k x hx with q | q
      · exact Or.inl (by omega)
      · exact Or.inr q
theorem bm_wf_sR {n : Nat} {M : bm_M} {o f v : Nat} (h : bm_wf n M) (hv : v < n) : bm_wf n (bm_sR M o f (some v)) := by
  refine ⟨fun a k x hx => ?_, h.2⟩
  by_cases ha : a = o
  · by_cases hk : k = f
    · simp only [bm_sR, ha, hk, if_true] at hx
      cases hx
      exact Or.inl hv
    · simp only [bm_sR, ha, hk, if_true, if_false] at hx
      exact h.1 o k x hx
  · simp only [bm_sR, ha, if_false] at hx
    exact h.1 a k x hx
theorem bm_map_al {α α' : Nat → Nat} {r : Option Nat} (h : ∀ x, r = some x → α' x = α x) : r.map α' = r.map α := by
  cases r with
  | none => rfl
  | some x => exact congrArg some (h x rfl)
theorem bm_cell_al {cA : Nat → ClassId} {α α' : Nat → Nat} {M : bm_M} {o : Nat} (h : ∀ k x, M.2.2.1 o k = some x → α' x = α x) (h2 : ∀ k x, M.2.2.2 o k = some x → α' x = α x) : bm_cell cA α' M o = bm_cell cA α M o := by
  have hf : ∀ ci, bm_fs α' M o ci = bm_fs α M o ci := fun ci => List.map_congr_left (fun k _ => by
    unfold bm_fv
    rw [bm_map_al (h k), bm_map_al (h2 k)])
  have ha : ∀ t, bm_arr α' M o t = bm_arr α M o t := by
    intro t
    have e : (fun j => (M.2.2.1 o j).map α') = fun j => (M.2.2.1 o j).map α := funext fun j => bm_map_al (h j)
    have e2 : (fun j => (M.2.2.2 o j).map α') = fun j => (M.2.2.2 o j).map α := funext fun j => bm_map_al (h2 j)
    unfold bm_arr
    rw [e, e2]
  unfold bm_cell
  split
  · rw [hf]
  · rw [ha]
theorem bm_ws_new {cA : Nat → ClassId} {α : Nat → Nat} {n q : Nat} {M : bm_M} (hw : bm_wf n M) (hn : n < 1000) : bm_ws cA (bm_up α n q) (n + 1) (bm_z M n) = bm_ws cA α n M ++ [(q, bm_cell cA α (bm_z M n) n)] := by
  unfold bm_ws
  rw [List.range_succ, List.map_append]
  congr 1
  · apply List.map_congr_left
    intro o ho
    have hlt : o < n := List.mem_range.mp ho
    have hne : o ≠ n := by omega
    have e1 : bm_up α n q o = α o := by simp [bm_up, hne]
    have e2 : bm_cell cA (bm_up α n q) (bm_z M n) o = bm_cell cA α M o := by
      rw [bm_cell_al (α := α) (fun k x hx => ?_) (fun k x hx => ?_)]
      · exact bm_cell_congr (by funext k; simp [bm_z, hne]) (by funext k; simp [bm_z, hne]) (by funext k; simp [bm_z, hne]) (by funext k; simp [bm_z, hne])
      · simp only [bm_z, hne, if_false] at hx
        have hx2 : x ≠ n := by
          rcases hw.1 o k x hx with h | h <;> omega
        simp [bm_up, hx2]
      · simp only [bm_z, hne, if_false] at hx
        have hx2 : x ≠ n := by
          rcases hw.2 o k x hx with h | h <;> omega
        simp [bm_up, hx2]
    rw [e1, e2]
  · show [(bm_up α n q n, _)] = _
    have e1 : bm_up α n q n = q := by simp [bm_up]
    rw [e1, bm_cell_al (α := α) (fun k x hx => by simp [bm_z] at hx) (fun k x hx => by simp [bm_z] at hx)]
theorem bm_dv {α : Nat → Nat} {M : bm_M} {n : Nat} {ty : FieldType} {k : Nat} (h : ¬ bm_fk ty = 3) : defaultValue ty = bm_fv α (bm_z M n) n ty k := by
  cases ty with
  | object C => simp only [bm_fv]; split <;> simp [bm_z, defaultValue, va_rf]
  | _ => first | (simp [bm_fk] at h; done) | (simp [bm_fv, bm_z, defaultValue, va_rf])
theorem bm_nofl : ∀ ci, ci < 12 → ∀ k, k < bm_N ci → ¬ bm_fk (bm_ty ci k) = 3 := by decide +kernel
def bm_nr (a b : Nat) (v : Value) : Bool := match v with
  | .ref k => decide (k < a) || decide (b ≤ k)
  | _ => true
theorem bm_nr_re {a b : Nat} {α α' : Nat → Nat} (h : ∀ k, (k < a ∨ b ≤ k) → α' k = α k) {v : Value} (hv : bm_nr a b v = true) : bm_re α' v = bm_re α v := by
  cases v <;> try rfl
  simp only [bm_nr, Bool.or_eq_true, decide_eq_true_eq] at hv
  exact congrArg Value.ref (h _ hv)
theorem bm_nr_st {a b : Nat} {α α' : Nat → Nat} (h : ∀ k, (k < a ∨ b ≤ k) → α' k = α k) {st : List Value} (hv : st.all (bm_nr a b) = true) : st.map (bm_re α') = st.map (bm_re α) := List.map_congr_left (fun v hm => bm_nr_re h (List.all_eq_true.mp hv v hm))
theorem bm_nr_ls {a b : Nat} {α α' : Nat → Nat} (h : ∀ k, (k < a ∨ b ≤ k) → α' k = α k) {ls : List (Nat × Value)} (hv : ls.all (fun q => bm_nr a b q.2) = true) : bm_ls α' ls = bm_ls α ls := List.map_congr_left (fun q hm => by rw [bm_nr_re h (List.all_eq_true.mp hv q hm)])
theorem bm_up_off {α : Nat → Nat} {n q : Nat} : ∀ k, (k < n ∨ n + 1 ≤ k) → bm_up α n q k = α k := fun k hk => by
  have : k ≠ n := by omega
  simp [bm_up, this]
theorem bm_sl1 {n0 n : Nat} (h : n0 ≤ n) : (n - n0) + 1 = n + 1 - n0 ∧ (bm_sl n - bm_sl n0) + bm_sz n = bm_sl (n + 1) - bm_sl n0 := by
  have a := bm_sl_mono h
  have b : bm_sl (n + 1) = bm_sl n + bm_sz n := rfl
  omega
theorem bm_sl2 {n0 n nE : Nat} (h : n0 ≤ n) (h2 : n + 1 ≤ nE) : (n - n0) + 1 ≤ nE - n0 ∧ (bm_sl n - bm_sl n0) + bm_sz n ≤ bm_sl nE - bm_sl n0 := by
  have a := bm_sl_mono h
  have b : bm_sl (n + 1) = bm_sl n + bm_sz n := rfl
  have c := bm_sl_mono h2
  omega
section BMN
variable {L : bm_L} {mi : bm_I} {d n0 nE n pc : Nat} {ls : List (Nat × Value)} {st : List Value} {M : bm_M} {Q : Option Value → bm_M → Prop}
/-- a class that can be made, by entry i -/
def bm_nw (own : String) (i ci : Nat) : Prop := ∃ (C : String) (T : u_T) (N : Nat), vwCl[ci]? = some (C, T, N) ∧ bm_N ci = N ∧ ci < 12 ∧ (∀ w ∈ u_ws C T N, w ∈ bm_T) ∧ (∀ k, k < N → parseFieldDescriptor (T k).2.2.1 = some (bm_ty ci k)) ∧ Cond.classLink own i C ∈ bm_T ∧ Cond.instantiable C N ∈ bm_T ∧ Cond.initialized C ∈ bm_T
theorem bv_new {i ci : Nat} (hd : decode mi.2.1 pc = .ok (.new i, 3)) (hc : bm_nw mi.1.cls i ci) (hs : bm_SH n = .inl ci) (hw : bm_wf n M) (hn1 : n + 1 ≤ nE) (hn2 : n < 1000) (h1 : ls.all (fun q => bm_nr n (n + 1) q.2) = true) (h2 : st.all (bm_nr n (n + 1)) = true) (k : bm_V L mi d n0 nE (n + 1) (pc + 3) ls (.ref n :: st) (bm_z M n) Q) : bm_V L mi d n0 nE n pc ls st M Q := by
  intro hn p e s m args below meth c D cA A ζ α0 hF α H locs lsA a1 a2 hP hD hS hl
  have ⟨hx, hb, hml, hown, hts, hr, hlk, hnm, hK, hA, hG⟩ := hF
  obtain ⟨C, T, N, hcl, hN, h12, hin, hty, hlink, hinst, hini⟩ := hc
  have hsz : bm_sz n = N := by unfold bm_sz; rw [hs]; exact hN
  have hfit := bm_sl2 hn hn1
  rw [hsz] at hfit
  refine va_new (c0 := c) (ci := ci) (fs := bm_fs α (bm_z M n) n ci) hx hb hts hin (bm_ty ci) hty hown (hts _ hlink) (hts _ hinst) (hts _ hini) hK hP hD hS hA hcl (fun j hj => ?_) hfit.1 hfit.2 hd (fun q H1 hP1 hD1 hS1 => ?_)
  · rw [bm_dv (α := α) (M := M) (n := n) (k := j) (bm_nofl ci h12 j (by omega))]
    simp [vp_V, bm_fs, hN, hj]
  have hoff := bm_up_off (α := α) (n := n) (q := q)
  have he : bm_ws cA α n M ++ [(q, .inr (ci, bm_fs α (bm_z M n) n ci))] = bm_ws cA (bm_up α n q) (n + 1) (bm_z M n) := by
    rw [bm_ws_new hw hn2, bm_cell, hs]
  rw [he] at hP1 hD1
  have hsum := bm_sl1 hn
  rw [hsz] at hsum
  rw [hsum.1, hsum.2, ← bm_nr_st hoff h2]
  have h3 := k (by omega) p e s m args below meth c D cA A ζ α0 hF (bm_up α n q) H1 locs lsA (fun k hk => by rw [hoff k (by omega)]; exact a1 k (by omega)) (fun k hk => by rw [hoff k (by omega)]; exact a2 k hk) hP1 hD1 hS1 (by rw [bm_nr_ls hoff h1]; exact hl)
  have e4 : bm_re (bm_up α n q) (.ref n) = .ref q := by simp [bm_re, bm_up]
  rw [List.map_cons, e4] at h3
  exact h3
theorem bv_newa0 {z : Int32} {len : Nat} (hd : decode mi.2.1 pc = .ok (.newarray .int, 2)) (hs : bm_SH n = .inr (0, len)) (hz : ¬ z < 0) (hzl : z.toNatClampNeg = len) (hl9 : len < 100000) (hw : bm_wf n M) (hn1 : n + 1 ≤ nE) (hn2 : n < 1000) (h1 : ls.all (fun q => bm_nr n (n + 1) q.2) = true) (h2 : st.all (bm_nr n (n + 1)) = true) (k : bm_V L mi d n0 nE (n + 1) (pc + 2) ls (.ref n :: st) (bm_z M n) Q) : bm_V L mi d n0 nE n pc ls (.int z :: st) M Q := by
  intro hn p e s m args below meth c D cA A ζ α0 hF α H locs lsA a1 a2 hP hD hS hl
  have ⟨hx, hb, hml, hown, hts, hr, hlk, hnm, hK, hA, hG⟩ := hF
  have hsz : bm_sz n = len := by unfold bm_sz; rw [hs]
  have hfit := bm_sl2 hn hn1
  rw [hsz] at hfit
  refine va_newa (atype := .int) (ty := .int) (a0 := (len, .inl ((bm_z M n).1 n))) hx hb (hts _ bm_arrc0) rfl hK hP hD hS hA (fun cB => ?_) hz hzl ?_ hfit.1 hfit.2 hd (fun q cB H1 hK1 hP1 hD1 hS1 => ?_)
  · rw [vp_cell_i]
    congr 1
    funext j
    simp [bm_z, defaultValue]
  · have hb8 : componentBytes .int ≤ 8 := by decide
    have := Nat.mul_le_mul (Nat.le_of_lt hl9) hb8
    omega
  have hcb : cB = cA 0 := by
    have g1 := (hK1.2 7 (cB, .int) (by rw [List.getElem?_append_right (by simp [bm_tys])]; simp [bm_tys])).2
    have g2 := (hK.2 0 _ (bm_tys_at cA (by omega))).2
    exact Option.some.inj (g1.symm.trans g2)
  subst hcb
  have hoff := bm_up_off (α := α) (n := n) (q := q)
  have he : bm_ws cA α n M ++ [(q, .inl (cA 0, len, .inl ((bm_z M n).1 n)))] = bm_ws cA (bm_up α n q) (n + 1) (bm_z M n) := by
    rw [bm_ws_new hw hn2, bm_cell, hs]
    try rfl
  rw [he] at hP1 hD1
  have hsum := bm_sl1 hn
  rw [hsz] at hsum
  rw [hsum.1, hsum.2, ← bm_nr_st hoff h2]
  have h3 := k (by omega) p e s m args below meth c D cA A ζ α0 hF (bm_up α n q) H1 locs lsA (fun k hk => by rw [hoff k (by omega)]; exact a1 k (by omega)) (fun k hk => by rw [hoff k (by omega)]; exact a2 k hk) hP1 hD1 hS1 (by rw [bm_nr_ls hoff h1]; exact hl)
  have e4 : bm_re (bm_up α n q) (.ref n) = .ref q := by simp [bm_re, bm_up]
  rw [List.map_cons, e4] at h3
  exact h3
theorem bv_newa1 {z : Int32} {len : Nat} (hd : decode mi.2.1 pc = .ok (.newarray .byte, 2)) (hs : bm_SH n = .inr (1, len)) (hz : ¬ z < 0) (hzl : z.toNatClampNeg = len) (hl9 : len < 100000) (hw : bm_wf n M) (hn1 : n + 1 ≤ nE) (hn2 : n < 1000) (h1 : ls.all (fun q => bm_nr n (n + 1) q.2) = true) (h2 : st.all (bm_nr n (n + 1)) = true) (k : bm_V L mi d n0 nE (n + 1) (pc + 2) ls (.ref n :: st) (bm_z M n) Q) : bm_V L mi d n0 nE n pc ls (.int z :: st) M Q := by
  intro hn p e s m args below meth c D cA A ζ α0 hF α H locs lsA a1 a2 hP hD hS hl
  have ⟨hx, hb, hml, hown, hts, hr, hlk, hnm, hK, hA, hG⟩ := hF
  have hsz : bm_sz n = len := by unfold bm_sz; rw [hs]
  have hfit := bm_sl2 hn hn1
  rw [hsz] at hfit
  refine va_newa (atype := .byte) (ty := .byte) (a0 := (len, .inl ((bm_z M n).1 n))) hx hb (hts _ bm_arrc1) rfl hK hP hD hS hA (fun cB => ?_) hz hzl ?_ hfit.1 hfit.2 hd (fun q cB H1 hK1 hP1 hD1 hS1 => ?_)
  · rw [vp_cell_i]
    congr 1
    funext j
    simp [bm_z, defaultValue]
  · have hb8 : componentBytes .byte ≤ 8 := by decide
    have := Nat.mul_le_mul (Nat.le_of_lt hl9) hb8
    omega
  have hcb : cB = cA 1 := by
    have g1 := (hK1.2 7 (cB, .byte) (by rw [List.getElem?_append_right (by simp [bm_tys])]; simp [bm_tys])).2
    have g2 := (hK.2 1 _ (bm_tys_at cA (by omega))).2
    exact Option.some.inj (g1.symm.trans g2)
  subst hcb
  have hoff := bm_up_off (α := α) (n := n) (q := q)
  have he : bm_ws cA α n M ++ [(q, .inl (cA 1, len, .inl ((bm_z M n).1 n)))] = bm_ws cA (bm_up α n q) (n + 1) (bm_z M n) := by
    rw [bm_ws_new hw hn2, bm_cell, hs]
    try rfl
  rw [he] at hP1 hD1
  have hsum := bm_sl1 hn
  rw [hsz] at hsum
  rw [hsum.1, hsum.2, ← bm_nr_st hoff h2]
  have h3 := k (by omega) p e s m args below meth c D cA A ζ α0 hF (bm_up α n q) H1 locs lsA (fun k hk => by rw [hoff k (by omega)]; exact a1 k (by omega)) (fun k hk => by rw [hoff k (by omega)]; exact a2 k hk) hP1 hD1 hS1 (by rw [bm_nr_ls hoff h1]; exact hl)
  have e4 : bm_re (bm_up α n q) (.ref n) = .ref q := by simp [bm_re, bm_up]
  rw [List.map_cons, e4] at h3
  exact h3
theorem bv_newa2 {z : Int32} {len : Nat} (hd : decode mi.2.1 pc = .ok (.newarray .long, 2)) (hs : bm_SH n = .inr (2, len)) (hz : ¬ z < 0) (hzl : z.toNatClampNeg = len) (hl9 : len < 100000) (hw : bm_wf n M) (hn1 : n + 1 ≤ nE) (hn2 : n < 1000) (h1 : ls.all (fun q => bm_nr n (n + 1) q.2) = true) (h2 : st.all (bm_nr n (n + 1)) = true) (k : bm_V L mi d n0 nE (n + 1) (pc + 2) ls (.ref n :: st) (bm_z M n) Q) : bm_V L mi d n0 nE n pc ls (.int z :: st) M Q := by
  intro hn p e s m args below meth c D cA A ζ α0 hF α H locs lsA a1 a2 hP hD hS hl
  have ⟨hx, hb, hml, hown, hts, hr, hlk, hnm, hK, hA, hG⟩ := hF
  have hsz : bm_sz n = len := by unfold bm_sz; rw [hs]
  have hfit := bm_sl2 hn hn1
  rw [hsz] at hfit
  refine va_newa (atype := .long) (ty := .long) (a0 := (len, .inr (.inl ((bm_z M n).2.1 n)))) hx hb (hts _ bm_arrc2) rfl hK hP hD hS hA (fun cB => ?_) hz hzl ?_ hfit.1 hfit.2 hd (fun q cB H1 hK1 hP1 hD1 hS1 => ?_)
  · rw [vp_cell_l]
    congr 1
    funext j
    simp [bm_z, defaultValue]
  · have hb8 : componentBytes .long ≤ 8 := by decide
    have := Nat.mul_le_mul (Nat.le_of_lt hl9) hb8
    omega
  have hcb : cB = cA 2 := by
    have g1 := (hK1.2 7 (cB, .long) (by rw [List.getElem?_append_right (by simp [bm_tys])]; simp [bm_tys])).2
    have g2 := (hK.2 2 _ (bm_tys_at cA (by omega))).2
    exact Option.some.inj (g1.symm.trans g2)
  subst hcb
  have hoff := bm_up_off (α := α) (n := n) (q := q)
  have he : bm_ws cA α n M ++ [(q, .inl (cA 2, len, .inr (.inl ((bm_z M n).2.1 n))))] = bm_ws cA (bm_up α n q) (n + 1) (bm_z M n) := by
    rw [bm_ws_new hw hn2, bm_cell, hs]
    try rfl
  rw [he] at hP1 hD1
  have hsum := bm_sl1 hn
  rw [hsz] at hsum
  rw [hsum.1, hsum.2, ← bm_nr_st hoff h2]
  have h3 := k (by omega) p e s m args below meth c D cA A ζ α0 hF (bm_up α n q) H1 locs lsA (fun k hk => by rw [hoff k (by omega)]; exact a1 k (by omega)) (fun k hk => by rw [hoff k (by omega)]; exact a2 k hk) hP1 hD1 hS1 (by rw [bm_nr_ls hoff h1]; exact hl)
  have e4 : bm_re (bm_up α n q) (.ref n) = .ref q := by simp [bm_re, bm_up]
  rw [List.map_cons, e4] at h3
  exact h3
theorem bv_newa3 {z : Int32} {len : Nat} (hd : decode mi.2.1 pc = .ok (.newarray .boolean, 2)) (hs : bm_SH n = .inr (3, len)) (hz : ¬ z < 0) (hzl : z.toNatClampNeg = len) (hl9 : len < 100000) (hw : bm_wf n M) (hn1 : n + 1 ≤ nE) (hn2 : n < 1000) (h1 : ls.all (fun q => bm_nr n (n + 1) q.2) = true) (h2 : st.all (bm_nr n (n + 1)) = true) (k : bm_V L mi d n0 nE (n + 1) (pc + 2) ls (.ref n :: st) (bm_z M n) Q) : bm_V L mi d n0 nE n pc ls (.int z :: st) M Q := by
  intro hn p e s m args below meth c D cA A ζ α0 hF α H locs lsA a1 a2 hP hD hS hl
  have ⟨hx, hb, hml, hown, hts, hr, hlk, hnm, hK, hA, hG⟩ := hF
  have hsz : bm_sz n = len := by unfold bm_sz; rw [hs]
  have hfit := bm_sl2 hn hn1
  rw [hsz] at hfit
  refine va_newa (atype := .boolean) (ty := .boolean) (a0 := (len, .inl ((bm_z M n).1 n))) hx hb (hts _ bm_arrc3) rfl hK hP hD hS hA (fun cB => ?_) hz hzl ?_ hfit.1 hfit.2 hd (fun q cB H1 hK1 hP1 hD1 hS1 => ?_)
  · rw [vp_cell_i]
    congr 1
    funext j
    simp [bm_z, defaultValue]
  · have hb8 : componentBytes .boolean ≤ 8 := by decide
    have := Nat.mul_le_mul (Nat.le_of_lt hl9) hb8
    omega
  have hcb : cB = cA 3 := by
    have g1 := (hK1.2 7 (cB, .boolean) (by rw [List.getElem?_append_right (by simp [bm_tys])]; simp [bm_tys])).2
    have g2 := (hK.2 3 _ (bm_tys_at cA (by omega))).2
    exact Option.some.inj (g1.symm.trans g2)
  subst hcb
  have hoff := bm_up_off (α := α) (n := n) (q := q)
  have he : bm_ws cA α n M ++ [(q, .inl (cA 3, len, .inl ((bm_z M n).1 n)))] = bm_ws cA (bm_up α n q) (n + 1) (bm_z M n) := by
    rw [bm_ws_new hw hn2, bm_cell, hs]
    try rfl
  rw [he] at hP1 hD1
  have hsum := bm_sl1 hn
  rw [hsz] at hsum
  rw [hsum.1, hsum.2, ← bm_nr_st hoff h2]
  have h3 := k (by omega) p e s m args below meth c D cA A ζ α0 hF (bm_up α n q) H1 locs lsA (fun k hk => by rw [hoff k (by omega)]; exact a1 k (by omega)) (fun k hk => by rw [hoff k (by omega)]; exact a2 k hk) hP1 hD1 hS1 (by rw [bm_nr_ls hoff h1]; exact hl)
  have e4 : bm_re (bm_up α n q) (.ref n) = .ref q := by simp [bm_re, bm_up]
  rw [List.map_cons, e4] at h3
  exact h3
theorem bv_newq {i t len : Nat} {z : Int32} {C : String} (hd : decode mi.2.1 pc = .ok (.anewarray i, 3)) (hcl : Cond.classLink mi.1.cls i C ∈ bm_T) (hC : C ∈ ["BrowArmy$Word", "BrowArmy$State", "BrowArmy$Image"]) (hs : bm_SH n = .inr (t, len)) (ht : 4 ≤ t) (ht7 : t < 7) (htC : bm_at t = .object C) (hz : ¬ z < 0) (hzl : z.toNatClampNeg = len) (hl9 : len < 100000) (hw : bm_wf n M) (hn1 : n + 1 ≤ nE) (hn2 : n < 1000) (h1 : ls.all (fun q => bm_nr n (n + 1) q.2) = true) (h2 : st.all (bm_nr n (n + 1)) = true) (k : bm_V L mi d n0 nE (n + 1) (pc + 3) ls (.ref n :: st) (bm_z M n) Q) : bm_V L mi d n0 nE n pc ls (.int z :: st) M Q := by
  intro hn p e s m args below meth c D cA A ζ α0 hF α H locs lsA a1 a2 hP hD hS hl
  have ⟨hx, hb, hml, hown, hts, hr, hlk, hnm, hK, hA, hG⟩ := hF
  have hsz : bm_sz n = len := by unfold bm_sz; rw [hs]
  have hfit := bm_sl2 hn hn1
  rw [hsz] at hfit
  refine va_newq (C := C) hx hb hown (hts _ hcl) (hG.2.1 C hC) hK hP hD hS hA hz hzl (by omega) hfit.1 hfit.2 hd (fun q cB H1 hK1 hP1 hD1 hS1 => ?_)
  have hcb : cB = cA t := by
    have g1 := (hK1.2 7 (cB, .object C) (by rw [List.getElem?_append_right (by simp [bm_tys])]; simp [bm_tys])).2
    have g2 := (hK.2 t _ (bm_tys_at cA ht7)).2
    rw [htC] at g2
    obtain ⟨_, _, _, _, _, g3⟩ := g1
    obtain ⟨_, _, _, _, _, g4⟩ := g2
    exact Option.some.inj (g3.symm.trans g4)
  subst hcb
  have hoff := bm_up_off (α := α) (n := n) (q := q)
  have he : bm_ws cA α n M ++ [(q, .inl (cA t, len, .inr (.inr (.inr (.inr (fun _ => none))))))] = bm_ws cA (bm_up α n q) (n + 1) (bm_z M n) := by
    rw [bm_ws_new hw hn2, bm_cell, hs]
    show _ = bm_ws cA α n M ++ [(q, .inl (cA t, len, bm_arr α (bm_z M n) n t))]
    have e9 : bm_arr α (bm_z M n) n t = .inr (.inr (.inr (.inr (fun _ => none)))) := by
      match t, ht with
      | 4, _ => simp [bm_arr, bm_z]
      | t + 5, _ => simp [bm_arr, bm_z]
    rw [e9]
  rw [he] at hP1 hD1
  have hsum := bm_sl1 hn
  rw [hsz] at hsum
  rw [hsum.1, hsum.2, ← bm_nr_st hoff h2]
  have h3 := k (by omega) p e s m args below meth c D cA A ζ α0 hF (bm_up α n q) H1 locs lsA (fun k hk => by rw [hoff k (by omega)]; exact a1 k (by omega)) (fun k hk => by rw [hoff k (by omega)]; exact a2 k hk) hP1 hD1 hS1 (by rw [bm_nr_ls hoff h1]; exact hl)
  have e4 : bm_re (bm_up α n q) (.ref n) = .ref q := by simp [bm_re, bm_up]
  rw [List.map_cons, e4] at h3
  exact h3
theorem bv_oini {i x : Nat} (hd : decode mi.2.1 pc = .ok (.invokespecial i, 3)) (hm : Cond.methodLink mi.1.cls i Lib.objectInit ∈ bm_T) (hwt : (st.map fun v => v.category).sum ≤ 8) (k : bm_V L mi (d + 1) n0 nE n (pc + 3) ls st M Q) : bm_V L mi (d + 1) n0 nE n pc ls (.ref x :: st) M Q := by
  intro hn p e s m args below meth c D cA A ζ α0 hF α H locs lsA a1 a2 hP hD hS hl
  have ⟨hx, hb, hml, hown, hts, hr, hlk, hnm, hK, hA, hG⟩ := hF
  have hw2 := bm_wt (α := α) hwt
  exact W.objInit hx hb hown (hts _ hm) (hts _ bm_oi1) (hts _ bm_oi2) rfl (hl.1.trans hml.symm) rfl hd (by show 1 ≤ d + 1; omega) (by show 2 * 0 + _ + 12 ≤ 64 * (d + 1); omega) (k hn p e s m args below meth c D cA A ζ α0 hF α H locs lsA a1 a2 hP hD hS hl)
theorem bv_callI {i na n2 b : Nat} {mi2 : bm_I} {As stk : List Value} {M1 : bm_M} (hd : decode mi.2.1 pc = .ok (.invokespecial i, 3)) (hm : bm_mc mi.1.cls 3 i mi2 na) (hC : bm_C L mi2 d n n2 (.ref b :: As) M (fun r M' => r = none ∧ M' = M1)) (hst : stk = As.reverse ++ .ref b :: st) (hna : As.length = na) (hwt : (st.map fun v => v.category).sum ≤ 8) (hn2 : n ≤ n2) (hnE : n2 ≤ nE) (h1 : ls.all (fun q => bm_nr n n2 q.2) = true) (h2 : st.all (bm_nr n n2) = true) (k : bm_V L mi (d + 1) n0 nE n2 (pc + 3) ls st M1 Q) : bm_V L mi (d + 1) n0 nE n pc ls stk M Q := by
  subst hst
  intro hn p e s m args below meth c D cA A ζ α0 hF α H locs lsA a1 a2 hP hD hS hl
  have ⟨hx, hb, hml, hown, hts, hr, hlk, hnm, hK, hA, hG⟩ := hF
  rw [bm_stk]
  obtain ⟨hm, hini, hco, hcl, h45⟩ := hm
  have hrn : mi2.2.2.2 = none := hm.2.2.2
  refine bm_call (n1 := n) (n2 := n2) (M1 := M) (A := A) (va_runI (bytes := mi2.2.1) (maxL := mi2.2.2.1) (As := As.map (bm_re α)) (rest := st.map (bm_re α)) (b := α b) ⟨hx, hb, hml, hown, hts⟩ (hC D cA ζ α H.size a2)
    ⟨callB_of na hts (bm_wgood hco) (by rw [bm_w, hrn]) rfl rfl (hts _ hini) (hts _ hm.1) hcl (bm_room mi2 h45), hm.2.2.1, hts _ hm.2.1⟩ ⟨bm_blind, bm_pre (.ref b :: As) hP hD hS hA hK hG⟩ rfl (by rw [List.length_map]; exact hna) hl.1 rfl (lv_room (bm_wt hwt)) hd (bm_fit hn hn2 hnE)) hS (bm_AA (D := D) hD hS hA) (fun α2 r M2 H1 locs1 b1 b2 hq hP1 hD1 hS1 => ?_)
  obtain ⟨rfl, rfl⟩ := hq
  have hsum := bm_sum (n2 := n2) hn hn2
  rw [hsum.1, hsum.2]
  have h3 := k (by omega) p e s m args below meth c D cA A ζ α0 hF α2 H1 locs1 lsA (fun k hk => by rw [b1 k (by omega)]; exact a1 k (by omega)) b2 hP1 hD1 hS1 (by rw [bm_nr_ls b1 h1]; exact hl)
  rw [bm_nr_st b1 h2] at h3
  exact h3
theorem bv_callIN {i na n2 b : Nat} {mi2 : bm_I} {As stk : List Value} {M1 : bm_M} (hd : decode mi.2.1 pc = .ok (.invokespecial i, 3)) (hm : bm_mc mi.1.cls 4 i mi2 na) (hC : bm_C L mi2 d n n2 (.ref b :: As) M (fun r M' => r = none ∧ M' = M1)) (hst : stk = As.reverse ++ .ref b :: st) (hna : As.length = na) (hwt : (st.map fun v => v.category).sum ≤ 8) (hn2 : n ≤ n2) (hnE : n2 ≤ nE) (h1 : ls.all (fun q => bm_nr n n2 q.2) = true) (h2 : st.all (bm_nr n n2) = true) (k : bm_V L mi (d + 1) n0 nE n2 (pc + 3) ls st M1 Q) : bm_V L mi (d + 1) n0 nE n pc ls stk M Q := by
  subst hst
  intro hn p e s m args below meth c D cA A ζ α0 hF α H locs lsA a1 a2 hP hD hS hl
  have ⟨hx, hb, hml, hown, hts, hr, hlk, hnm, hK, hA, hG⟩ := hF
  rw [bm_stk]
  obtain ⟨hm, hini, hco, hcl, h45⟩ := hm
  have hrn : mi2.2.2.2 = none := hm.2.2.2
  refine bm_call (n1 := n) (n2 := n2) (M1 := M) (A := A) (va_runIN (host := hm.1.choose) (bytes := mi2.2.1) (maxL := mi2.2.2.1) (As := As.map (bm_re α)) (rest := st.map (bm_re α)) (b := α b) ⟨hx, hb, hml, hown, hts⟩ (hC D cA ζ α H.size a2)
    ⟨va_cnB na hts (bm_wgood hco) (by rw [bm_w, hrn]) rfl rfl (hG.1 _ hm.1.choose_spec) (hts _ hini) hcl (bm_room mi2 h45), hm.2.2.1, hts _ hm.2.1⟩ ⟨bm_blind, bm_pre (.ref b :: As) hP hD hS hA hK hG⟩ rfl (by rw [List.length_map]; exact hna) hl.1 rfl (lv_room (bm_wt hwt)) hd (bm_fit hn hn2 hnE)) hS (bm_AA (D := D) hD hS hA) (fun α2 r M2 H1 locs1 b1 b2 hq hP1 hD1 hS1 => ?_)
  obtain ⟨rfl, rfl⟩ := hq
  have hsum := bm_sum (n2 := n2) hn hn2
  rw [hsum.1, hsum.2]
  have h3 := k (by omega) p e s m args below meth c D cA A ζ α0 hF α2 H1 locs1 lsA (fun k hk => by rw [b1 k (by omega)]; exact a1 k (by omega)) b2 hP1 hD1 hS1 (by rw [bm_nr_ls b1 h1]; exact hl)
  rw [bm_nr_st b1 h2] at h3
  exact h3
end BMN
