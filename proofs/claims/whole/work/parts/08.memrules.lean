section BMF
variable {L : bm_L} {mi : bm_I} {d n0 nE n pc : Nat} {ls : List (Nat × Value)} {st : List Value} {M : bm_M} {Q : Option Value → bm_M → Prop}
theorem bv_getI {i ci f o : Nat} {fin : Bool} (hd : decode mi.2.1 pc = .ok (.getfield i, 3)) (hf : bm_fo mi.1.cls i ci f fin) (hs : bm_SH o = .inl ci) (ho : o < n) (hk : bm_fk (bm_ty ci f) = 0) (k : bm_V L mi d n0 nE n (pc + 3) ls (.int (M.1 o f) :: st) M Q) : bm_V L mi d n0 nE n pc ls (.ref o :: st) M Q := by
  intro hn p e s m args below meth c D cA A ζ α0 hF α H locs lsA a1 a2 hP hD hS hl
  have ⟨hx, hb, hml, hown, hts, hr, hlk, hnm, hK, hA, hG⟩ := hF
  obtain ⟨C, T, N, hc, hN, hfN, -, hlink, hin, hty, hnd, -⟩ := hf
  exact va_get hx hb hts hin hown hK hP o (bm_ws_obj ho hs) hc f hfN (hts _ hlink) (fun _ h => h) (by rw [bm_fs_at (by omega), bm_fv_I hk]; rfl) hd (k hn p e s m args below meth c D cA A ζ α0 hF α H locs lsA a1 a2 hP hD hS hl)
theorem bv_getL {i ci f o : Nat} {fin : Bool} (hd : decode mi.2.1 pc = .ok (.getfield i, 3)) (hf : bm_fo mi.1.cls i ci f fin) (hs : bm_SH o = .inl ci) (ho : o < n) (hk : bm_fk (bm_ty ci f) = 1) (k : bm_V L mi d n0 nE n (pc + 3) ls (.long (M.2.1 o f) :: st) M Q) : bm_V L mi d n0 nE n pc ls (.ref o :: st) M Q := by
  intro hn p e s m args below meth c D cA A ζ α0 hF α H locs lsA a1 a2 hP hD hS hl
  have ⟨hx, hb, hml, hown, hts, hr, hlk, hnm, hK, hA, hG⟩ := hF
  obtain ⟨C, T, N, hc, hN, hfN, -, hlink, hin, hty, hnd, -⟩ := hf
  exact va_get hx hb hts hin hown hK hP o (bm_ws_obj ho hs) hc f hfN (hts _ hlink) (fun _ h => h) (by rw [bm_fs_at (by omega), bm_fv_L hk]; rfl) hd (k hn p e s m args below meth c D cA A ζ α0 hF α H locs lsA a1 a2 hP hD hS hl)
theorem bv_getR {i ci f o : Nat} {fin : Bool} (hd : decode mi.2.1 pc = .ok (.getfield i, 3)) (hf : bm_fo mi.1.cls i ci f fin) (hs : bm_SH o = .inl ci) (ho : o < n) (hk : bm_fk (bm_ty ci f) = 2) (k : bm_V L mi d n0 nE n (pc + 3) ls (va_rf (M.2.2.1 o f) :: st) M Q) : bm_V L mi d n0 nE n pc ls (.ref o :: st) M Q := by
  intro hn p e s m args below meth c D cA A ζ α0 hF α H locs lsA a1 a2 hP hD hS hl
  have ⟨hx, hb, hml, hown, hts, hr, hlk, hnm, hK, hA, hG⟩ := hF
  obtain ⟨C, T, N, hc, hN, hfN, -, hlink, hin, hty, hnd, -⟩ := hf
  have h2 := (k hn p e s m args below meth c D cA A ζ α0 hF α H locs lsA a1 a2 hP hD hS hl)
  rw [List.map_cons, bm_rf_re] at h2
  exact va_get hx hb hts hin hown hK hP o (bm_ws_obj ho hs) hc f hfN (hts _ hlink) (fun _ h => h) (by rw [bm_fs_at (by omega), bm_fv_R hk]) hd h2
theorem bv_getQ {i ci f o : Nat} {fin : Bool} (hd : decode mi.2.1 pc = .ok (.getfield i, 3)) (hf : bm_fo mi.1.cls i ci f fin) (hs : bm_SH o = .inl ci) (ho : o < n) (hk : bm_fk (bm_ty ci f) = 4) (k : bm_V L mi d n0 nE n (pc + 3) ls (va_rf (M.2.2.2 o f) :: st) M Q) : bm_V L mi d n0 nE n pc ls (.ref o :: st) M Q := by
  intro hn p e s m args below meth c D cA A ζ α0 hF α H locs lsA a1 a2 hP hD hS hl
  have ⟨hx, hb, hml, hown, hts, hr, hlk, hnm, hK, hA, hG⟩ := hF
  obtain ⟨C, T, N, hc, hN, hfN, -, hlink, hin, hty, hnd, -⟩ := hf
  have h2 := (k hn p e s m args below meth c D cA A ζ α0 hF α H locs lsA a1 a2 hP hD hS hl)
  rw [List.map_cons, bm_rf_re] at h2
  exact va_get hx hb hts hin hown hK hP o (bm_ws_obj ho hs) hc f hfN (hts _ hlink) (fun _ h => h) (by rw [bm_fs_at (by omega), bm_fv_W hk]) hd h2
theorem bv_getA {i ci f o a : Nat} {fin : Bool} (hd : decode mi.2.1 pc = .ok (.getfield i, 3)) (hf : bm_fo mi.1.cls i ci f fin) (hs : bm_SH o = .inl ci) (ho : o < n) (hk : bm_fk (bm_ty ci f) = 2) (ha : M.2.2.1 o f = some a) (k : bm_V L mi d n0 nE n (pc + 3) ls (.ref a :: st) M Q) : bm_V L mi d n0 nE n pc ls (.ref o :: st) M Q := bv_getR hd hf hs ho hk (by rw [ha]; exact k)
theorem bv_putI {i ci f o : Nat} {v : Int32} (hd : decode mi.2.1 pc = .ok (.putfield i, 3)) (hf : bm_fo mi.1.cls i ci f false) (hs : bm_SH o = .inl ci) (ho : o < n) (hk : bm_fk (bm_ty ci f) = 0) (hw : narrow (bm_ty ci f) (.int v) = .int v) (hft : fits (bm_ty ci f) (.int v) = true) (k : bm_V L mi d n0 nE n (pc + 3) ls st (bm_sI M o f v) Q) : bm_V L mi d n0 nE n pc ls (.int v :: .ref o :: st) M Q := by
  intro hn p e s m args below meth c D cA A ζ α0 hF α H locs lsA a1 a2 hP hD hS hl
  have ⟨hx, hb, hml, hown, hts, hr, hlk, hnm, hK, hA, hG⟩ := hF
  obtain ⟨C, T, N, hc, hN, hfN, hfin, hlink, hin, hty, hnd, hdc⟩ := hf
  refine va_put hx hb hts hin (bm_ty ci) hty hnd hown hK hP hD hS o (bm_ws_obj ho hs) hc f hfN (hts _ hlink) (fun _ h => h) hfin (hty f hfN) hw hft (by simp [bm_fs, hN, hfN]) hd (fun H1 locs1 hP1 hD1 hS1 => ?_)
  have he := bm_ws_set (cA := cA) (α := α) (n := n) (M := M) (M' := bm_sI M o f v) (e := .inr (ci, (bm_fs α M o ci).set f (.int v))) (by rw [bm_fs_sI hk, bm_cell, hs]) bm_sI_off
  have hP2 : va_P D vwCl ((bm_ws cA α n M).set o (α o, .inr (ci, (bm_fs α M o ci).set f (.int v)))) H1 := hP1
  have hD2 : va_D A ((bm_ws cA α n M).set o (α o, .inr (ci, (bm_fs α M o ci).set f (.int v)))) := hD1
  rw [he] at hP2 hD2
  exact k hn p e s m args below meth c D cA A ζ α0 hF α H1 locs1 lsA a1 a2 hP2 hD2 hS1 hl
theorem bv_putL {i ci f o : Nat} {v : Int64} (hd : decode mi.2.1 pc = .ok (.putfield i, 3)) (hf : bm_fo mi.1.cls i ci f false) (hs : bm_SH o = .inl ci) (ho : o < n) (hk : bm_fk (bm_ty ci f) = 1) (hw : narrow (bm_ty ci f) (.long v) = .long v) (hft : fits (bm_ty ci f) (.long v) = true) (k : bm_V L mi d n0 nE n (pc + 3) ls st (bm_sL M o f v) Q) : bm_V L mi d n0 nE n pc ls (.long v :: .ref o :: st) M Q := by
  intro hn p e s m args below meth c D cA A ζ α0 hF α H locs lsA a1 a2 hP hD hS hl
  have ⟨hx, hb, hml, hown, hts, hr, hlk, hnm, hK, hA, hG⟩ := hF
  obtain ⟨C, T, N, hc, hN, hfN, hfin, hlink, hin, hty, hnd, hdc⟩ := hf
  refine va_put hx hb hts hin (bm_ty ci) hty hnd hown hK hP hD hS o (bm_ws_obj ho hs) hc f hfN (hts _ hlink) (fun _ h => h) hfin (hty f hfN) hw hft (by simp [bm_fs, hN, hfN]) hd (fun H1 locs1 hP1 hD1 hS1 => ?_)
  have he := bm_ws_set (cA := cA) (α := α) (n := n) (M := M) (M' := bm_sL M o f v) (e := .inr (ci, (bm_fs α M o ci).set f (.long v))) (by rw [bm_fs_sL hk, bm_cell, hs]) bm_sL_off
  have hP2 : va_P D vwCl ((bm_ws cA α n M).set o (α o, .inr (ci, (bm_fs α M o ci).set f (.long v)))) H1 := hP1
  have hD2 : va_D A ((bm_ws cA α n M).set o (α o, .inr (ci, (bm_fs α M o ci).set f (.long v)))) := hD1
  rw [he] at hP2 hD2
  exact k hn p e s m args below meth c D cA A ζ α0 hF α H1 locs1 lsA a1 a2 hP2 hD2 hS1 hl
theorem bm_rw {ty : FieldType} (hk : bm_fk ty = 2 ∨ bm_fk ty = 4) (v : Option Nat) : narrow ty (va_rf v) = va_rf v ∧ fits ty (va_rf v) = true := by
  cases ty <;> first | (cases v <;> exact ⟨rfl, rfl⟩) | (simp [bm_fk] at hk; done)
theorem bv_putQ {i ci f o : Nat} {v : Option Nat} (hd : decode mi.2.1 pc = .ok (.putfield i, 3)) (hf : bm_fo mi.1.cls i ci f false) (hs : bm_SH o = .inl ci) (ho : o < n) (hk : bm_fk (bm_ty ci f) = 4) (k : bm_V L mi d n0 nE n (pc + 3) ls st (bm_sW M o f v) Q) : bm_V L mi d n0 nE n pc ls (va_rf v :: .ref o :: st) M Q := by
  intro hn p e s m args below meth c D cA A ζ α0 hF α H locs lsA a1 a2 hP hD hS hl
  have ⟨hx, hb, hml, hown, hts, hr, hlk, hnm, hK, hA, hG⟩ := hF
  obtain ⟨C, T, N, hc, hN, hfN, hfin, hlink, hin, hty, hnd, hdc⟩ := hf
  rw [List.map_cons, bm_rf_re]
  refine va_put hx hb hts hin (bm_ty ci) hty hnd hown hK hP hD hS o (bm_ws_obj ho hs) hc f hfN (hts _ hlink) (fun _ h => h) hfin (hty f hfN) (bm_rw (by omega) _).1 (bm_rw (by omega) _).2 (by simp [bm_fs, hN, hfN]) hd (fun H1 locs1 hP1 hD1 hS1 => ?_)
  have he := bm_ws_set (cA := cA) (α := α) (n := n) (M := M) (M' := bm_sW M o f v) (e := .inr (ci, (bm_fs α M o ci).set f (va_rf (v.map α)))) (by rw [bm_fs_sW hk, bm_cell, hs]) bm_sW_off
  rw [he] at hP1 hD1
  exact k hn p e s m args below meth c D cA A ζ α0 hF α H1 locs1 lsA a1 a2 hP1 hD1 hS1 hl
/-- a final field, in its class's constructor -/
theorem bv_putRF {i ci f o : Nat} {v : Option Nat} (hd : decode mi.2.1 pc = .ok (.putfield i, 3)) (hf : bm_fo mi.1.cls i ci f true) (hini : mi.1.name = "<init>") (hcl : ∀ C T N, vwCl[ci]? = some (C, T, N) → C = mi.1.cls) (hs : bm_SH o = .inl ci) (ho : o < n) (hk : bm_fk (bm_ty ci f) = 2) (k : bm_V L mi d n0 nE n (pc + 3) ls st (bm_sR M o f v) Q) : bm_V L mi d n0 nE n pc ls (va_rf v :: .ref o :: st) M Q := by
  intro hn p e s m args below meth c D cA A ζ α0 hF α H locs lsA a1 a2 hP hD hS hl
  have ⟨hx, hb, hml, hown, hts, hr, hlk, hnm, hK, hA, hG⟩ := hF
  obtain ⟨C, T, N, hc, hN, hfN, hfin, hlink, hin, hty, hnd, hdc⟩ := hf
  rw [List.map_cons, bm_rf_re]
  refine va_putF hx hb hts hin (bm_ty ci) hty hnd hown hK hP hD hS o (bm_ws_obj ho hs) hc f hfN (hts _ hlink) (fun _ h => h) hfin (hnm.trans hini) (hdc.trans (hcl _ _ _ hc)) (hty f hfN) (bm_rw (by omega) _).1 (bm_rw (by omega) _).2 (by simp [bm_fs, hN, hfN]) hd (fun H1 locs1 hP1 hD1 hS1 => ?_)
  have he := bm_ws_set (cA := cA) (α := α) (n := n) (M := M) (M' := bm_sR M o f v) (e := .inr (ci, (bm_fs α M o ci).set f (va_rf (v.map α)))) (by rw [bm_fs_sR hk, bm_cell, hs]) bm_sR_off
  rw [he] at hP1 hD1
  exact k hn p e s m args below meth c D cA A ζ α0 hF α H1 locs1 lsA a1 a2 hP1 hD1 hS1 hl
theorem bv_iald {o len : Nat} {i : Int32} (hd : decode mi.2.1 pc = .ok (.iaload, 1)) (hs : bm_SH o = .inr (0, len)) (ho : o < n) (hi : vp_in i len) (k : bm_V L mi d n0 nE n (pc + 1) ls (.int (M.1 o i.toNatClampNeg) :: st) M Q) : bm_V L mi d n0 nE n pc ls (.int i :: .ref o :: st) M Q := by
  intro hn p e s m args below meth c D cA A ζ α0 hF α H locs lsA a1 a2 hP hD hS hl
  have ⟨hx, hb, hml, hown, hts, hr, hlk, hnm, hK, hA, hG⟩ := hF
  exact va_iald hx hb hK hP o 0 (bm_ws_arr ho hs) (bm_tys_at cA (by omega)) hi hd (k hn p e s m args below meth c D cA A ζ α0 hF α H locs lsA a1 a2 hP hD hS hl)
theorem bv_bald {o len : Nat} {i : Int32} (hd : decode mi.2.1 pc = .ok (.baload, 1)) (hs : bm_SH o = .inr (1, len)) (ho : o < n) (hi : vp_in i len) (k : bm_V L mi d n0 nE n (pc + 1) ls (.int (M.1 o i.toNatClampNeg) :: st) M Q) : bm_V L mi d n0 nE n pc ls (.int i :: .ref o :: st) M Q := by
  intro hn p e s m args below meth c D cA A ζ α0 hF α H locs lsA a1 a2 hP hD hS hl
  have ⟨hx, hb, hml, hown, hts, hr, hlk, hnm, hK, hA, hG⟩ := hF
  exact va_bald hx hb hK hP o 1 (bm_ws_arr ho hs) (bm_tys_at cA (by omega)) hi hd (k hn p e s m args below meth c D cA A ζ α0 hF α H locs lsA a1 a2 hP hD hS hl)
theorem bv_zald {o len : Nat} {i : Int32} (hd : decode mi.2.1 pc = .ok (.baload, 1)) (hs : bm_SH o = .inr (3, len)) (ho : o < n) (hi : vp_in i len) (k : bm_V L mi d n0 nE n (pc + 1) ls (.int (M.1 o i.toNatClampNeg) :: st) M Q) : bm_V L mi d n0 nE n pc ls (.int i :: .ref o :: st) M Q := by
  intro hn p e s m args below meth c D cA A ζ α0 hF α H locs lsA a1 a2 hP hD hS hl
  have ⟨hx, hb, hml, hown, hts, hr, hlk, hnm, hK, hA, hG⟩ := hF
  exact va_zald hx hb hK hP o 3 (bm_ws_arr ho hs) (bm_tys_at cA (by omega)) hi hd (k hn p e s m args below meth c D cA A ζ α0 hF α H locs lsA a1 a2 hP hD hS hl)
theorem bv_lald {o len : Nat} {i : Int32} (hd : decode mi.2.1 pc = .ok (.laload, 1)) (hs : bm_SH o = .inr (2, len)) (ho : o < n) (hi : vp_in i len) (k : bm_V L mi d n0 nE n (pc + 1) ls (.long (M.2.1 o i.toNatClampNeg) :: st) M Q) : bm_V L mi d n0 nE n pc ls (.int i :: .ref o :: st) M Q := by
  intro hn p e s m args below meth c D cA A ζ α0 hF α H locs lsA a1 a2 hP hD hS hl
  have ⟨hx, hb, hml, hown, hts, hr, hlk, hnm, hK, hA, hG⟩ := hF
  exact va_lald hx hb hK hP o 2 (bm_ws_arr ho hs) (bm_tys_at cA (by omega)) hi hd (k hn p e s m args below meth c D cA A ζ α0 hF α H locs lsA a1 a2 hP hD hS hl)
theorem bm_arr_q {α : Nat → Nat} {M : bm_M} {o t : Nat} (h : 5 ≤ t) : bm_arr α M o t = .inr (.inr (.inr (.inr (fun j => (M.2.2.1 o j).map α)))) := by
  match t, h with
  | t + 5, _ => rfl
theorem bm_arr_w {α : Nat → Nat} {M : bm_M} {o : Nat} : bm_arr α M o 4 = .inr (.inr (.inr (.inr (fun j => (M.2.2.2 o j).map α)))) := rfl
theorem bm_at_q {t : Nat} (h : 4 ≤ t) : ∃ C, bm_at t = .object C := by
  match t, h with
  | 4, _ => exact ⟨_, rfl⟩
  | 5, _ => exact ⟨_, rfl⟩
  | t + 6, _ => exact ⟨_, rfl⟩
theorem bv_aald {o t len : Nat} {i : Int32} (hd : decode mi.2.1 pc = .ok (.aaload, 1)) (hs : bm_SH o = .inr (t, len)) (ht : 5 ≤ t) (ht7 : t < 7) (ho : o < n) (hi : vp_in i len) (k : bm_V L mi d n0 nE n (pc + 1) ls (va_rf (M.2.2.1 o i.toNatClampNeg) :: st) M Q) : bm_V L mi d n0 nE n pc ls (.int i :: .ref o :: st) M Q := by
  intro hn p e s m args below meth c D cA A ζ α0 hF α H locs lsA a1 a2 hP hD hS hl
  have ⟨hx, hb, hml, hown, hts, hr, hlk, hnm, hK, hA, hG⟩ := hF
  have h2 := (k hn p e s m args below meth c D cA A ζ α0 hF α H locs lsA a1 a2 hP hD hS hl)
  rw [List.map_cons, bm_rf_re] at h2
  obtain ⟨C, hC⟩ := bm_at_q (t := t) (by omega)
  have h3 := bm_ws_arr (cA := cA) (α := α) (M := M) ho hs
  rw [bm_arr_q ht] at h3
  exact va_aldq hx hb hK hP o t h3 (by rw [bm_tys_at cA ht7, hC]) hi hd h2
theorem bv_aaldW {o len : Nat} {i : Int32} (hd : decode mi.2.1 pc = .ok (.aaload, 1)) (hs : bm_SH o = .inr (4, len)) (ho : o < n) (hi : vp_in i len) (k : bm_V L mi d n0 nE n (pc + 1) ls (va_rf (M.2.2.2 o i.toNatClampNeg) :: st) M Q) : bm_V L mi d n0 nE n pc ls (.int i :: .ref o :: st) M Q := by
  intro hn p e s m args below meth c D cA A ζ α0 hF α H locs lsA a1 a2 hP hD hS hl
  have ⟨hx, hb, hml, hown, hts, hr, hlk, hnm, hK, hA, hG⟩ := hF
  have h2 := (k hn p e s m args below meth c D cA A ζ α0 hF α H locs lsA a1 a2 hP hD hS hl)
  rw [List.map_cons, bm_rf_re] at h2
  have h3 := bm_ws_arr (cA := cA) (α := α) (M := M) ho hs
  rw [bm_arr_w] at h3
  exact va_aldq hx hb hK hP o 4 (C := "BrowArmy$Word") h3 (bm_tys_at cA (by omega)) hi hd h2
theorem bv_iast {o len : Nat} {i : Int32} {v : Int32} (hd : decode mi.2.1 pc = .ok (.iastore, 1)) (hs : bm_SH o = .inr (0, len)) (ho : o < n) (hi : vp_in i len) (k : bm_V L mi d n0 nE n (pc + 1) ls st (bm_sI M o i.toNatClampNeg v) Q) : bm_V L mi d n0 nE n pc ls (.int v :: .int i :: .ref o :: st) M Q := by
  intro hn p e s m args below meth c D cA A ζ α0 hF α H locs lsA a1 a2 hP hD hS hl
  have ⟨hx, hb, hml, hown, hts, hr, hlk, hnm, hK, hA, hG⟩ := hF
  refine va_iast hx hb hK hP hD hS o 0 (bm_ws_arr ho hs) (bm_tys_at cA (by omega)) hi hd (fun H1 locs1 hP1 hD1 hS1 => ?_)
  have he := bm_ws_set (cA := cA) (α := α) (n := n) (M := M) (M' := bm_sI M o i.toNatClampNeg v) (e := .inl (cA 0, len, .inl (upd (M.1 o) i.toNatClampNeg v))) (by
    rw [bm_cell, hs]
    show _ = Sum.inl (cA 0, len, bm_arr α (bm_sI M o i.toNatClampNeg v) o 0)
    congr 3
    simp only [bm_arr]
    congr 1
    first | (funext q; simp [bm_sI, upd, vp_updL]) | (congr 1; funext q; simp [bm_sI, upd, vp_updL])) bm_sI_off
  rw [he] at hP1 hD1
  exact k hn p e s m args below meth c D cA A ζ α0 hF α H1 locs1 lsA a1 a2 hP1 hD1 hS1 hl
theorem bv_bast {o len : Nat} {i : Int32} {v : Int32} (hd : decode mi.2.1 pc = .ok (.bastore, 1)) (hs : bm_SH o = .inr (1, len)) (ho : o < n) (hi : vp_in i len) (k : bm_V L mi d n0 nE n (pc + 1) ls st (bm_sI M o i.toNatClampNeg (vp_nar .byte v)) Q) : bm_V L mi d n0 nE n pc ls (.int v :: .int i :: .ref o :: st) M Q := by
  intro hn p e s m args below meth c D cA A ζ α0 hF α H locs lsA a1 a2 hP hD hS hl
  have ⟨hx, hb, hml, hown, hts, hr, hlk, hnm, hK, hA, hG⟩ := hF
  refine va_bast hx hb hK hP hD hS o 1 (bm_ws_arr ho hs) (bm_tys_at cA (by omega)) hi hd (fun H1 locs1 hP1 hD1 hS1 => ?_)
  have he := bm_ws_set (cA := cA) (α := α) (n := n) (M := M) (M' := bm_sI M o i.toNatClampNeg (vp_nar .byte v)) (e := .inl (cA 1, len, .inl (upd (M.1 o) i.toNatClampNeg (vp_nar .byte v)))) (by
    rw [bm_cell, hs]
    show _ = Sum.inl (cA 1, len, bm_arr α (bm_sI M o i.toNatClampNeg (vp_nar .byte v)) o 1)
    congr 3
    simp only [bm_arr]
    congr 1
    first | (funext q; simp [bm_sI, upd, vp_updL]) | (congr 1; funext q; simp [bm_sI, upd, vp_updL])) bm_sI_off
  rw [he] at hP1 hD1
  exact k hn p e s m args below meth c D cA A ζ α0 hF α H1 locs1 lsA a1 a2 hP1 hD1 hS1 hl
theorem bv_zast {o len : Nat} {i : Int32} {v : Int32} (hd : decode mi.2.1 pc = .ok (.bastore, 1)) (hs : bm_SH o = .inr (3, len)) (ho : o < n) (hi : vp_in i len) (k : bm_V L mi d n0 nE n (pc + 1) ls st (bm_sI M o i.toNatClampNeg (vp_nar .boolean v)) Q) : bm_V L mi d n0 nE n pc ls (.int v :: .int i :: .ref o :: st) M Q := by
  intro hn p e s m args below meth c D cA A ζ α0 hF α H locs lsA a1 a2 hP hD hS hl
  have ⟨hx, hb, hml, hown, hts, hr, hlk, hnm, hK, hA, hG⟩ := hF
  refine va_zast hx hb hK hP hD hS o 3 (bm_ws_arr ho hs) (bm_tys_at cA (by omega)) hi hd (fun H1 locs1 hP1 hD1 hS1 => ?_)
  have he := bm_ws_set (cA := cA) (α := α) (n := n) (M := M) (M' := bm_sI M o i.toNatClampNeg (vp_nar .boolean v)) (e := .inl (cA 3, len, .inl (upd (M.1 o) i.toNatClampNeg (vp_nar .boolean v)))) (by
    rw [bm_cell, hs]
    show _ = Sum.inl (cA 3, len, bm_arr α (bm_sI M o i.toNatClampNeg (vp_nar .boolean v)) o 3)
    congr 3
    simp only [bm_arr]
    congr 1
    first | (funext q; simp [bm_sI, upd, vp_updL]) | (congr 1; funext q; simp [bm_sI, upd, vp_updL])) bm_sI_off
  rw [he] at hP1 hD1
  exact k hn p e s m args below meth c D cA A ζ α0 hF α H1 locs1 lsA a1 a2 hP1 hD1 hS1 hl
theorem bv_last {o len : Nat} {i : Int32} {v : Int64} (hd : decode mi.2.1 pc = .ok (.lastore, 1)) (hs : bm_SH o = .inr (2, len)) (ho : o < n) (hi : vp_in i len) (k : bm_V L mi d n0 nE n (pc + 1) ls st (bm_sL M o i.toNatClampNeg v) Q) : bm_V L mi d n0 nE n pc ls (.long v :: .int i :: .ref o :: st) M Q := by
  intro hn p e s m args below meth c D cA A ζ α0 hF α H locs lsA a1 a2 hP hD hS hl
  have ⟨hx, hb, hml, hown, hts, hr, hlk, hnm, hK, hA, hG⟩ := hF
  refine va_last hx hb hK hP hD hS o 2 (bm_ws_arr ho hs) (bm_tys_at cA (by omega)) hi hd (fun H1 locs1 hP1 hD1 hS1 => ?_)
  have he := bm_ws_set (cA := cA) (α := α) (n := n) (M := M) (M' := bm_sL M o i.toNatClampNeg v) (e := .inl (cA 2, len, .inr (.inl (vp_updL (M.2.1 o) i.toNatClampNeg v)))) (by
    rw [bm_cell, hs]
    show _ = Sum.inl (cA 2, len, bm_arr α (bm_sL M o i.toNatClampNeg v) o 2)
    congr 3
    simp only [bm_arr]
    congr 1
    first | (funext q; simp [bm_sL, upd, vp_updL]) | (congr 1; funext q; simp [bm_sL, upd, vp_updL])) bm_sL_off
  rw [he] at hP1 hD1
  exact k hn p e s m args below meth c D cA A ζ α0 hF α H1 locs1 lsA a1 a2 hP1 hD1 hS1 hl
theorem bm_any {E : String} {s : State} {H : Heap} {v : Nat} (h : ∃ cell : Cell, H[v]? = some cell ∧ cell.vm.isStatics = false ∧ s.vm.findClass E = some cell.cls) : va_Any E s H v := by
  obtain ⟨cell, h1, h2, h3⟩ := h
  obtain ⟨kC, hk, -⟩ := Vm.findClass_spec h3
  refine ⟨cell, h1, h2, ⟨kC, hk⟩, fun comp hc => ?_⟩
  cases h3.symm.trans hc
  exact va_asg _ _
theorem bv_aast {o t len v ci : Nat} {i : Int32} {E : String} (hd : decode mi.2.1 pc = .ok (.aastore, 1)) (hs : bm_SH o = .inr (t, len)) (ht : 5 ≤ t) (ht7 : t < 7) (hE : bm_at t = .object E) (ho : o < n) (hi : vp_in i len) (hv : v < n) (hvs : bm_SH v = .inl ci) (hci : ∃ T N, vwCl[ci]? = some (E, T, N)) (k : bm_V L mi d n0 nE n (pc + 1) ls st (bm_sR M o i.toNatClampNeg (some v)) Q) : bm_V L mi d n0 nE n pc ls (.ref v :: .int i :: .ref o :: st) M Q := by
  intro hn p e s m args below meth c D cA A ζ α0 hF α H locs lsA a1 a2 hP hD hS hl
  have ⟨hx, hb, hml, hown, hts, hr, hlk, hnm, hK, hA, hG⟩ := hF
  obtain ⟨T, N, hc⟩ := hci
  have hany : va_Any E s H (α v) := bm_any (va_recv hK hP hc (bm_ws_obj hv hvs))
  have h3 := bm_ws_arr (cA := cA) (α := α) (M := M) ho hs
  rw [bm_arr_q ht] at h3
  refine va_astqM (E := E) hx hb hK hP hD hS o t h3 (by rw [bm_tys_at cA ht7, hE]) hany hi hd (fun H1 locs1 hP1 hD1 hS1 => ?_)
  have he := bm_ws_set (cA := cA) (α := α) (n := n) (M := M) (M' := bm_sR M o i.toNatClampNeg (some v)) (e := .inl (cA t, len, .inr (.inr (.inr (.inr (va_up (fun j => (M.2.2.1 o j).map α) i.toNatClampNeg (some (α v)))))))) (by
    rw [bm_cell, hs]
    show _ = Sum.inl (cA t, len, bm_arr α _ o t)
    rw [bm_arr_q ht]
    congr 7
    funext q
    by_cases hq : q = i.toNatClampNeg <;> simp [bm_sR, va_up, hq]) bm_sR_off
  rw [he] at hP1 hD1
  exact k hn p e s m args below meth c D cA A ζ α0 hF α H1 locs1 lsA a1 a2 hP1 hD1 hS1 hl
theorem bv_aastX {o len v : Nat} {i : Int32} {E : String} (hd : decode mi.2.1 pc = .ok (.aastore, 1)) (hs : bm_SH o = .inr (4, len)) (hE : E = "BrowArmy$Word") (ho : o < n) (hi : vp_in i len) (hv : 1000 ≤ v) (hvs : (E, v) ∈ bm_ol) (k : bm_V L mi d n0 nE n (pc + 1) ls st (bm_sW M o i.toNatClampNeg (some v)) Q) : bm_V L mi d n0 nE n pc ls (.ref v :: .int i :: .ref o :: st) M Q := by
  intro hn p e s m args below meth c D cA A ζ α0 hF α H locs lsA a1 a2 hP hD hS hl
  have ⟨hx, hb, hml, hown, hts, hr, hlk, hnm, hK, hA, hG⟩ := hF
  subst hE
  have hany : va_Any "BrowArmy$Word" s H (α v) := by
    obtain ⟨cell, h1, h2, h3, -⟩ := (hG.2.2.2.1 _ hvs).kept hS.2.1
    exact bm_any ⟨cell, by rw [a2 v hv]; exact h1, h2, h3⟩
  have h3 := bm_ws_arr (cA := cA) (α := α) (M := M) ho hs
  rw [bm_arr_w] at h3
  refine va_astqM (E := "BrowArmy$Word") hx hb hK hP hD hS o 4 h3 (bm_tys_at cA (by omega)) hany hi hd (fun H1 locs1 hP1 hD1 hS1 => ?_)
  have he := bm_ws_set (cA := cA) (α := α) (n := n) (M := M) (M' := bm_sW M o i.toNatClampNeg (some v)) (e := .inl (cA 4, len, .inr (.inr (.inr (.inr (va_up (fun j => (M.2.2.2 o j).map α) i.toNatClampNeg (some (α v)))))))) (by
    rw [bm_cell, hs]
    show _ = Sum.inl (cA 4, len, bm_arr α _ o 4)
    rw [bm_arr_w]
    congr 7
    funext q
    by_cases hq : q = i.toNatClampNeg <;> simp [bm_sW, va_up, hq]) bm_sW_off
  rw [he] at hP1 hD1
  exact k hn p e s m args below meth c D cA A ζ α0 hF α H1 locs1 lsA a1 a2 hP1 hD1 hS1 hl
theorem bv_aastN {o len : Nat} {i : Int32} {E : String} (hd : decode mi.2.1 pc = .ok (.aastore, 1)) (hs : bm_SH o = .inr (4, len)) (hE : E = "BrowArmy$Word") (ho : o < n) (hi : vp_in i len) (k : bm_V L mi d n0 nE n (pc + 1) ls st (bm_sW M o i.toNatClampNeg none) Q) : bm_V L mi d n0 nE n pc ls (.null :: .int i :: .ref o :: st) M Q := by
  intro hn p e s m args below meth c D cA A ζ α0 hF α H locs lsA a1 a2 hP hD hS hl
  have ⟨hx, hb, hml, hown, hts, hr, hlk, hnm, hK, hA, hG⟩ := hF
  have h3 := bm_ws_arr (cA := cA) (α := α) (M := M) ho hs
  rw [bm_arr_w] at h3
  refine va_astqN (C := "BrowArmy$Word") hx hb hK hP hD hS o 4 h3 (bm_tys_at cA (by omega)) hi hd (fun H1 locs1 hP1 hD1 hS1 => ?_)
  have he := bm_ws_set (cA := cA) (α := α) (n := n) (M := M) (M' := bm_sW M o i.toNatClampNeg none) (e := .inl (cA 4, len, .inr (.inr (.inr (.inr (va_up (fun j => (M.2.2.2 o j).map α) i.toNatClampNeg none)))))) (by
    rw [bm_cell, hs]
    show _ = Sum.inl (cA 4, len, bm_arr α _ o 4)
    rw [bm_arr_w]
    congr 7
    funext q
    by_cases hq : q = i.toNatClampNeg <;> simp [bm_sW, va_up, hq]) bm_sW_off
  rw [he] at hP1 hD1
  exact k hn p e s m args below meth c D cA A ζ α0 hF α H1 locs1 lsA a1 a2 hP1 hD1 hS1 hl
theorem bv_getX {x i : Nat} {C nm ds : String} {v : Value} (hd : decode mi.2.1 pc = .ok (.getfield i, 3)) (hw : Cond.fieldLink mi.1.cls i C nm ds ∈ bm_T) (hx1 : 1000 ≤ x) (hq : (x, C, nm, ds, v) ∈ bm_xl) (hv : ∀ q, v = .ref q → 1000 ≤ q) (k : bm_V L mi d n0 nE n (pc + 3) ls (v :: st) M Q) : bm_V L mi d n0 nE n pc ls (.ref x :: st) M Q := by
  intro hn p e s m args below meth c D cA A ζ α0 hF α H locs lsA a1 a2 hP hD hS hl
  have ⟨hx, hb, hml, hown, hts, hr, hlk, hnm, hK, hA, hG⟩ := hF
  have h2 := (k hn p e s m args below meth c D cA A ζ α0 hF α H locs lsA a1 a2 hP hD hS hl)
  have h3 := hG.2.2.2.2.1 _ hq
  have h4 : bm_re α v = bm_re ζ v := by
    cases v <;> first | rfl | (rename_i q; exact congrArg Value.ref (a2 q (hv q rfl)))
  rw [List.map_cons, h4] at h2
  rw [List.map_cons]
  show W _ _ _ _ _ _ _ _ _ _ _ _ _ _ _ (F0 m pc lsA (.ref (α x) :: _))
  rw [a2 x hx1]
  exact vk_getf hx hb h3 hS hown (hts _ hw) (fun _ h => h) hd h2
theorem bv_gets {i : Nat} {C nm ds : String} {v : Value} (hd : decode mi.2.1 pc = .ok (.getstatic i, 3)) (hw : Cond.fieldLink mi.1.cls i C nm ds ∈ bm_T) (hq : (C, nm, ds, v) ∈ bm_zl) (hv : ∀ q, v = .ref q → 1000 ≤ q) (k : bm_V L mi d n0 nE n (pc + 3) ls (v :: st) M Q) : bm_V L mi d n0 nE n pc ls st M Q := by
  intro hn p e s m args below meth c D cA A ζ α0 hF α H locs lsA a1 a2 hP hD hS hl
  have ⟨hx, hb, hml, hown, hts, hr, hlk, hnm, hK, hA, hG⟩ := hF
  have h2 := (k hn p e s m args below meth c D cA A ζ α0 hF α H locs lsA a1 a2 hP hD hS hl)
  have h3 := hG.2.2.1 _ hq
  have h4 : bm_re α v = bm_re ζ v := by
    cases v <;> first | rfl | (rename_i q; exact congrArg Value.ref (a2 q (hv q rfl)))
  rw [List.map_cons, h4] at h2
  exact va_gets hx hb h3 hS hown (hts _ hw) (fun _ h => h) hd h2
theorem bv_getsq {i : Nat} (hd : decode mi.2.1 pc = .ok (.getstatic i, 3)) (hw : Cond.fieldLink mi.1.cls i "jdk/internal/util/Preconditions" "SIOOBE_FORMATTER" "Ljava/util/function/BiFunction;" ∈ bm_T) (k : ∀ r : Option Nat, (r = none ∨ r = some 1500) → bm_V L mi d n0 nE n (pc + 3) ls (va_rf r :: st) M Q) : bm_V L mi d n0 nE n pc ls st M Q := by
  intro hn p e s m args below meth c D cA A ζ α0 hF α H locs lsA a1 a2 hP hD hS hl
  have ⟨hx, hb, hml, hown, hts, hr, hlk, hnm, hK, hA, hG⟩ := hF
  rcases hG.2.2.2.2.2.2.2.2.2 with h3 | h3
  · have h2 := k (some 1500) (Or.inr rfl) hn p e s m args below meth c D cA A ζ α0 hF α H locs lsA a1 a2 hP hD hS hl
    have h4 : bm_re α (va_rf (some 1500)) = .ref (ζ 1500) := congrArg Value.ref (a2 1500 (by omega))
    rw [List.map_cons, h4] at h2
    exact va_gets hx hb h3 hS hown (hts _ hw) (fun _ h => h) hd h2
  · exact va_gets hx hb h3 hS hown (hts _ hw) (fun _ h => h) hd (k none (Or.inl rfl) hn p e s m args below meth c D cA A ζ α0 hF α H locs lsA a1 a2 hP hD hS hl)
theorem bv_ldcS {i x : Nat} {tx : String} (hd : decode mi.2.1 pc = .ok (.ldc i, 2)) (hq : (mi.1.cls, i, tx, x) ∈ bm_rl) (hx1 : 1000 ≤ x) (k : bm_V L mi d n0 nE n (pc + 2) ls (.ref x :: st) M Q) : bm_V L mi d n0 nE n pc ls st M Q := by
  intro hn p e s m args below meth c D cA A ζ α0 hF α H locs lsA a1 a2 hP hD hS hl
  have ⟨hx, hb, hml, hown, hts, hr, hlk, hnm, hK, hA, hG⟩ := hF
  have h2 := (k hn p e s m args below meth c D cA A ζ α0 hF α H locs lsA a1 a2 hP hD hS hl)
  have h3 := hG.2.2.2.2.2.2.1 _ hq
  have h4 : bm_re α (.ref x) = .ref (ζ x) := congrArg Value.ref (a2 x hx1)
  rw [List.map_cons, h4] at h2
  exact va_ldcS hx hb hown h3 hd h2
theorem bv_xlen {x N : Nat} {ty : FieldType} {f : Nat → Value} {v : Int32} (hd : decode mi.2.1 pc = .ok (.arraylength, 1)) (hx1 : 1000 ≤ x) (hq : (x, ty, N, f) ∈ bm_tl) (hv : Int32.ofNat N = v) (k : bm_V L mi d n0 nE n (pc + 1) ls (.int v :: st) M Q) : bm_V L mi d n0 nE n pc ls (.ref x :: st) M Q := by
  intro hn p e s m args below meth c D cA A ζ α0 hF α H locs lsA a1 a2 hP hD hS hl
  have ⟨hx, hb, hml, hown, hts, hr, hlk, hnm, hK, hA, hG⟩ := hF
  have h2 := (k hn p e s m args below meth c D cA A ζ α0 hF α H locs lsA a1 a2 hP hD hS hl)
  show W _ _ _ _ _ _ _ _ _ _ _ _ _ _ _ (F0 m pc lsA (.ref (α x) :: _))
  rw [a2 x hx1]
  exact va_tlen hx hb (hG.2.2.2.2.2.1 _ hq) hS hv hd h2
theorem bv_xbald {x N : Nat} {f : Nat → Value} {i v : Int32} (hd : decode mi.2.1 pc = .ok (.baload, 1)) (hx1 : 1000 ≤ x) (hq : (x, .byte, N, f) ∈ bm_tl) (hi : vp_in i N) (hv : f i.toNatClampNeg = .int v) (k : bm_V L mi d n0 nE n (pc + 1) ls (.int v :: st) M Q) : bm_V L mi d n0 nE n pc ls (.int i :: .ref x :: st) M Q := by
  intro hn p e s m args below meth c D cA A ζ α0 hF α H locs lsA a1 a2 hP hD hS hl
  have ⟨hx, hb, hml, hown, hts, hr, hlk, hnm, hK, hA, hG⟩ := hF
  have h2 := (k hn p e s m args below meth c D cA A ζ α0 hF α H locs lsA a1 a2 hP hD hS hl)
  show W _ _ _ _ _ _ _ _ _ _ _ _ _ _ _ (F0 m pc lsA (.int i :: .ref (α x) :: _))
  rw [a2 x hx1]
  exact va_tb hx hb (hG.2.2.2.2.2.1 _ hq) hS hi (by show bm_re ζ (f i.toNatClampNeg) = _; rw [hv]; rfl) hd h2
theorem bv_xaald {x N y : Nat} {C : String} {f : Nat → Value} {i : Int32} (hd : decode mi.2.1 pc = .ok (.aaload, 1)) (hx1 : 1000 ≤ x) (hq : (x, .object C, N, f) ∈ bm_tl) (hi : vp_in i N) (hv : f i.toNatClampNeg = .ref y) (hy : 1000 ≤ y) (k : bm_V L mi d n0 nE n (pc + 1) ls (.ref y :: st) M Q) : bm_V L mi d n0 nE n pc ls (.int i :: .ref x :: st) M Q := by
  intro hn p e s m args below meth c D cA A ζ α0 hF α H locs lsA a1 a2 hP hD hS hl
  have ⟨hx, hb, hml, hown, hts, hr, hlk, hnm, hK, hA, hG⟩ := hF
  have h2 := (k hn p e s m args below meth c D cA A ζ α0 hF α H locs lsA a1 a2 hP hD hS hl)
  show W _ _ _ _ _ _ _ _ _ _ _ _ _ _ _ (F0 m pc lsA (.int i :: .ref (α x) :: _))
  rw [a2 x hx1]
  have h4 : bm_re α (.ref y) = .ref (ζ y) := congrArg Value.ref (a2 y hy)
  rw [List.map_cons, h4] at h2
  exact vb_tq hx hb (hG.2.2.2.2.2.1 _ hq) hS hi (by show bm_re ζ (f i.toNatClampNeg) = _; rw [hv]; rfl) hd h2
theorem bv_slen {v : Int32} (hd : decode mi.2.1 pc = .ok (.arraylength, 1)) (hv : Int32.ofNat L.2.1 = v) (k : bm_V L mi d n0 nE n (pc + 1) ls (.int v :: st) M Q) : bm_V L mi d n0 nE n pc ls (.ref 1400 :: st) M Q := by
  intro hn p e s m args below meth c D cA A ζ α0 hF α H locs lsA a1 a2 hP hD hS hl
  have ⟨hx, hb, hml, hown, hts, hr, hlk, hnm, hK, hA, hG⟩ := hF
  have h2 := (k hn p e s m args below meth c D cA A ζ α0 hF α H locs lsA a1 a2 hP hD hS hl)
  show W _ _ _ _ _ _ _ _ _ _ _ _ _ _ _ (F0 m pc lsA (.ref (α 1400) :: _))
  rw [a2 1400 (by omega)]
  exact va_tlen hx hb hG.2.2.2.2.2.2.2.2.1 hS hv hd h2
theorem bv_sald {i : Int32} (hd : decode mi.2.1 pc = .ok (.iaload, 1)) (hi : vp_in i L.2.1) (k : bm_V L mi d n0 nE n (pc + 1) ls (.int (L.2.2 i.toNatClampNeg) :: st) M Q) : bm_V L mi d n0 nE n pc ls (.int i :: .ref 1400 :: st) M Q := by
  intro hn p e s m args below meth c D cA A ζ α0 hF α H locs lsA a1 a2 hP hD hS hl
  have ⟨hx, hb, hml, hown, hts, hr, hlk, hnm, hK, hA, hG⟩ := hF
  have h2 := (k hn p e s m args below meth c D cA A ζ α0 hF α H locs lsA a1 a2 hP hD hS hl)
  show W _ _ _ _ _ _ _ _ _ _ _ _ _ _ _ (F0 m pc lsA (.int i :: .ref (α 1400) :: _))
  rw [a2 1400 (by omega)]
  exact va_ti hx hb hG.2.2.2.2.2.2.2.2.1 hS hi rfl hd h2
/-- null, or a constant of the enum -/
def bm_wq (r : Option Nat) : Prop := ∀ x, r = some x → ∃ i, i < 34 ∧ x = 1000 + i
theorem bm_wq_inj {sc : Nat × (Nat → Int32)} {ζ α : Nat → Nat} {A : Nat → Prop} {U : State} {H : Heap} (hG : bm_G sc ζ A U H) (a2 : ∀ k, 1000 ≤ k → α k = ζ k) {x y : Option Nat} (hx : bm_wq x) (hy : bm_wq y) : x.map α = y.map α ↔ x = y := by
  refine ⟨fun h => ?_, fun h => by rw [h]⟩
  cases x with
  | none => cases y with
    | none => rfl
    | some b => cases h
  | some a => cases y with
    | none => cases h
    | some b =>
      obtain ⟨i, hi, rfl⟩ := hx a rfl
      obtain ⟨j, hj, rfl⟩ := hy b rfl
      have h1 : α (1000 + i) = α (1000 + j) := Option.some.inj h
      rw [a2 _ (by omega), a2 _ (by omega)] at h1
      rw [hG.2.2.2.2.2.2.2.1 i j hi hj h1]
theorem bv_acmp_eq {x y : Option Nat} {off : Int} {tgt : Nat} (hd : decode mi.2.1 pc = .ok (.if_acmp .eq off, 3)) (ht : (pc : Int) + off = (tgt : Int)) (hwx : bm_wq x) (hwy : bm_wq y) (kt : x = y → bm_V L mi d n0 nE n tgt ls st M Q) (kf : ¬ x = y → bm_V L mi d n0 nE n (pc + 3) ls st M Q) : bm_V L mi d n0 nE n pc ls (va_rf y :: va_rf x :: st) M Q := by
  intro hn p e s m args below meth c D cA A ζ α0 hF α H locs lsA a1 a2 hP hD hS hl
  have ⟨hx, hb, hml, hown, hts, hr, hlk, hnm, hK, hA, hG⟩ := hF
  rw [List.map_cons, List.map_cons, bm_rf_re, bm_rf_re]
  exact lv_acmp_eq hx hb hd ht (fun h => kt (by rw [bm_wq_inj hG a2 hwx hwy] at h; exact h) hn p e s m args below meth c D cA A ζ α0 hF α H locs lsA a1 a2 hP hD hS hl) (fun h => kf (by rw [bm_wq_inj hG a2 hwx hwy] at h; exact h) hn p e s m args below meth c D cA A ζ α0 hF α H locs lsA a1 a2 hP hD hS hl)
theorem bv_acmp_ne {x y : Option Nat} {off : Int} {tgt : Nat} (hd : decode mi.2.1 pc = .ok (.if_acmp .ne off, 3)) (ht : (pc : Int) + off = (tgt : Int)) (hwx : bm_wq x) (hwy : bm_wq y) (kt : ¬ x = y → bm_V L mi d n0 nE n tgt ls st M Q) (kf : x = y → bm_V L mi d n0 nE n (pc + 3) ls st M Q) : bm_V L mi d n0 nE n pc ls (va_rf y :: va_rf x :: st) M Q := by
  intro hn p e s m args below meth c D cA A ζ α0 hF α H locs lsA a1 a2 hP hD hS hl
  have ⟨hx, hb, hml, hown, hts, hr, hlk, hnm, hK, hA, hG⟩ := hF
  rw [List.map_cons, List.map_cons, bm_rf_re, bm_rf_re]
  exact lv_acmp_ne hx hb hd ht (fun h => kt (by rw [bm_wq_inj hG a2 hwx hwy] at h; exact h) hn p e s m args below meth c D cA A ζ α0 hF α H locs lsA a1 a2 hP hD hS hl) (fun h => kf (by rw [bm_wq_inj hG a2 hwx hwy] at h; exact h) hn p e s m args below meth c D cA A ζ α0 hF α H locs lsA a1 a2 hP hD hS hl)
theorem bv_ifnull {x : Option Nat} {off : Int} {tgt : Nat} (hd : decode mi.2.1 pc = .ok (.ifnull off, 3)) (ht : (pc : Int) + off = (tgt : Int)) (kt : x = none → bm_V L mi d n0 nE n tgt ls st M Q) (kf : ¬ x = none → bm_V L mi d n0 nE n (pc + 3) ls st M Q) : bm_V L mi d n0 nE n pc ls (va_rf x :: st) M Q := by
  intro hn p e s m args below meth c D cA A ζ α0 hF α H locs lsA a1 a2 hP hD hS hl
  have ⟨hx, hb, hml, hown, hts, hr, hlk, hnm, hK, hA, hG⟩ := hF
  cases x with
  | none => exact lv_ifnullN hx hb hd ht (kt rfl hn p e s m args below meth c D cA A ζ α0 hF α H locs lsA a1 a2 hP hD hS hl)
  | some a => exact lv_ifnull hx hb hd (kf (fun h => by cases h) hn p e s m args below meth c D cA A ζ α0 hF α H locs lsA a1 a2 hP hD hS hl)
theorem bv_ifnonnull {x : Option Nat} {off : Int} {tgt : Nat} (hd : decode mi.2.1 pc = .ok (.ifnonnull off, 3)) (ht : (pc : Int) + off = (tgt : Int)) (kt : ¬ x = none → bm_V L mi d n0 nE n tgt ls st M Q) (kf : x = none → bm_V L mi d n0 nE n (pc + 3) ls st M Q) : bm_V L mi d n0 nE n pc ls (va_rf x :: st) M Q := by
  intro hn p e s m args below meth c D cA A ζ α0 hF α H locs lsA a1 a2 hP hD hS hl
  have ⟨hx, hb, hml, hown, hts, hr, hlk, hnm, hK, hA, hG⟩ := hF
  cases x with
  | none => exact lv_ifnonnullN hx hb hd (kf rfl hn p e s m args below meth c D cA A ζ α0 hF α H locs lsA a1 a2 hP hD hS hl)
  | some a => exact lv_ifnonnull hx hb hd ht (kt (fun h => by cases h) hn p e s m args below meth c D cA A ζ α0 hF α H locs lsA a1 a2 hP hD hS hl)
end BMF
