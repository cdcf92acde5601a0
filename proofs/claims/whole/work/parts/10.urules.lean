def bm_bi (b : Bool) : Int32 := match b with
  | true => 1
  | false => 0
def bm_min (x y : Int32) : Int32 := if y < x then y else x
def bm_max (x y : Int32) : Int32 := if x < y then y else x
def bm_abs (x : Int32) : Int32 := if 0 ≤ x then x else 0 - x
def bm_rem (x y : Int32) : Int32 := x - x / y * y
def bm_ishl (x y : Int32) : Int32 := x <<< (y &&& 31)
def bm_ishr (x y : Int32) : Int32 := x >>> (y &&& 31)
def bm_iushr (x y : Int32) : Int32 := (x.toUInt32 >>> (y.toUInt32 &&& Int32.toUInt32 31)).toInt32
def bm_lshl (x : Int64) (y : Int32) : Int64 := x <<< (y.toInt64 &&& 63)
def bm_lshr (x : Int64) (y : Int32) : Int64 := x >>> (y.toInt64 &&& 63)
def bm_io (o ci : Nat) : Bool := decide (bm_SH o = .inl ci) && decide (o < 181)
def bm_ia (o t : Nat) (i : Int32) : Bool := decide (bm_SH o = .inr (t, bm_sz o)) && (decide (o < 181) && (decide (¬ i < 0) && decide (i.toNatClampNeg < bm_sz o)))
/-- a constant of the enum -/
def bm_iw (x : Nat) : Bool := decide (1000 ≤ x) && decide (x < 1034)
def bm_iwq (x : Option Nat) : Bool := match x with
  | none => true
  | some y => bm_iw y
abbrev bm_OK (o ci : Nat) : Prop := bm_SH o = .inl ci ∧ o < 181
abbrev bm_AK (o t : Nat) (i : Int32) : Prop := bm_SH o = .inr (t, bm_sz o) ∧ o < 181 ∧ vp_in i (bm_sz o)
theorem bu_io {o ci : Nat} {β : Type} {x : Option β} {r : β} (h : (if bm_io o ci = true then x else none) = some r) : bm_OK o ci ∧ x = some r := by
  split at h
  · rename_i hc
    simp only [bm_io, Bool.and_eq_true, decide_eq_true_eq] at hc
    exact ⟨hc, h⟩
  · cases h
theorem bm_ia_ok {o t : Nat} {i : Int32} (hc : bm_ia o t i = true) : bm_AK o t i := by
  simp only [bm_ia, Bool.and_eq_true, decide_eq_true_eq] at hc
  refine ⟨hc.1, hc.2.1, fun q => ?_⟩
  rcases q with q | q
  · exact hc.2.2.1 q
  · omega
theorem bu_ia {o t : Nat} {i : Int32} {β : Type} {x : Option β} {r : β} (h : (if bm_ia o t i = true then x else none) = some r) : bm_AK o t i ∧ x = some r := by
  split at h
  · rename_i hc
    exact ⟨bm_ia_ok hc, h⟩
  · cases h
theorem bu_g {c : Bool} {β : Type} {x : Option β} {r : β} (h : (if c = true then x else none) = some r) : c = true ∧ x = some r := by
  split at h
  · rename_i hc
    exact ⟨hc, h⟩
  · cases h
theorem bu_gp {c : Prop} [Decidable c] {β : Type} {x : Option β} {r : β} (h : (if c then x else none) = some r) : c ∧ x = some r := by
  split at h
  · rename_i hc
    exact ⟨hc, h⟩
  · cases h
theorem bu_bd {α β : Type} {x : Option α} {K : α → Option β} {r : β} (h : x.bind K = some r) : ∃ a, x = some a ∧ K a = some r := Option.bind_eq_some_iff.mp h
theorem bu_t {c : Prop} [Decidable c] {β : Type} {x y r : β} (h : (if c then x else y) = r) (hc : c) : x = r := (if_pos hc).symm.trans h
theorem bu_f {c : Prop} [Decidable c] {β : Type} {x y r : β} (h : (if c then x else y) = r) (hc : ¬ c) : y = r := (if_neg hc).symm.trans h
theorem bu_bt {e : Bool} {β : Type} {x y r : β} (h : (if e = true then x else y) = r) (hc : e = true) : x = r := (if_pos hc).symm.trans h
theorem bu_bf {e : Bool} {β : Type} {x y r : β} (h : (if e = true then x else y) = r) (hc : e = false) : y = r := by
  rw [hc] at h
  exact h
theorem bm_wq_of {x : Option Nat} (h : bm_iwq x = true) : bm_wq x := by
  intro y hy
  subst hy
  simp only [bm_iwq, bm_iw, Bool.and_eq_true, decide_eq_true_eq] at h
  exact ⟨y - 1000, by omega, by omega⟩
theorem bm_iw_of {x : Nat} (h : bm_iw x = true) : ∃ i, i < 34 ∧ x = 1000 + i := by
  simp only [bm_iw, Bool.and_eq_true, decide_eq_true_eq] at h
  exact ⟨x - 1000, by omega, by omega⟩
def bm_wso (x : Nat) : Int32 := bm_wsort.getD (x - 1000) 0
def bm_wnu (x : Nat) : Int32 := bm_wnum.getD (x - 1000) 0
def bm_wpa (x : Nat) : Int64 := bm_wpack.getD (x - 1000) 0
section BMU
variable {L : bm_L} {mi : bm_I} {d n pc : Nat} {ls : List (Nat × Value)} {st : List Value} {M : bm_M} {Q : Option Value → bm_M → Prop}
theorem bw_ls {ls1 : List (Nat × Value)} (ks : List Nat) (hp : lv_pick ls ks = ls1) (k : bm_V L mi d n n n pc ls1 st M Q) : bm_V L mi d n n n pc ls st M Q := by
  intro hn p e s m args below meth c D cA A ζ α0 hF α H locs lsA a1 a2 hP hD hS hl
  refine k hn p e s m args below meth c D cA A ζ α0 hF α H locs lsA a1 a2 hP hD hS ?_
  subst hp
  refine ⟨hl.1, hl.2.1, fun q hq => hl.2.2 q ?_⟩
  obtain ⟨x, hx, rfl⟩ := List.mem_map.mp hq
  obtain ⟨j, -, hj⟩ := List.mem_filterMap.mp hx
  exact List.mem_map.mpr ⟨x, List.mem_of_getElem? hj, rfl⟩
theorem bw_some {x : Option Nat} {a : Nat} (ha : x = some a) (k : bm_V L mi d n n n pc ls (.ref a :: st) M Q) : bm_V L mi d n n n pc ls (va_rf x :: st) M Q := by
  rw [ha]
  exact k
theorem bw_ifB_eq {b : Bool} {off : Int} {tgt : Nat} (hd : decode mi.2.1 pc = .ok (.ifCond .eq off, 3)) (ht : (pc : Int) + off = (tgt : Int)) (kt : b = false → bm_V L mi d n n n tgt ls st M Q) (kf : b = true → bm_V L mi d n n n (pc + 3) ls st M Q) : bm_V L mi d n n n pc ls (.int (bm_bi b) :: st) M Q :=
  bv_if_eq hd ht (fun h => kt (by cases b <;> first | rfl | (exact absurd h (by decide)))) (fun h => kf (by cases b <;> first | rfl | (exact absurd rfl h)))
theorem bw_ifB_ne {b : Bool} {off : Int} {tgt : Nat} (hd : decode mi.2.1 pc = .ok (.ifCond .ne off, 3)) (ht : (pc : Int) + off = (tgt : Int)) (kt : b = true → bm_V L mi d n n n tgt ls st M Q) (kf : b = false → bm_V L mi d n n n (pc + 3) ls st M Q) : bm_V L mi d n n n pc ls (.int (bm_bi b) :: st) M Q :=
  bv_if_ne hd ht (fun h => kt (by cases b <;> first | rfl | (exact absurd rfl h))) (fun h => kf (by cases b <;> first | rfl | (exact absurd h (by decide))))
def bm_bz (x : Int32) : Bool := decide (x = 0) || decide (x = 1)
def bm_ib (x : Int32) : Bool := decide (x = 1)
theorem bm_bib {x : Int32} (h : bm_bz x = true) : bm_bi (bm_ib x) = x := by
  simp only [bm_bz, Bool.or_eq_true, decide_eq_true_eq] at h
  rcases h with rfl | rfl <;> rfl
theorem bw_bret {b : Bool} (hd : decode mi.2.1 pc = .ok (.ireturn, 1)) (hrt : mi.2.2.2 = some .boolean) (hQ : Q (some (.int (bm_bi b))) M) : bm_V L mi d n n n pc ls (.int (bm_bi b) :: []) M Q := bv_zret hd hrt (by cases b <;> rfl) hQ
theorem bw_getI {i ci f o : Nat} {fin : Bool} (hN : 181 ≤ n) (hq : bm_OK o ci) (hd : decode mi.2.1 pc = .ok (.getfield i, 3)) (hf : bm_fo mi.1.cls i ci f fin) (hk : bm_fk (bm_ty ci f) = 0) (k : bm_V L mi d n n n (pc + 3) ls (.int (M.1 o f) :: st) M Q) : bm_V L mi d n n n pc ls (.ref o :: st) M Q := bv_getI hd hf hq.1 (Nat.lt_of_lt_of_le hq.2 hN) hk k
theorem bw_getL {i ci f o : Nat} {fin : Bool} (hN : 181 ≤ n) (hq : bm_OK o ci) (hd : decode mi.2.1 pc = .ok (.getfield i, 3)) (hf : bm_fo mi.1.cls i ci f fin) (hk : bm_fk (bm_ty ci f) = 1) (k : bm_V L mi d n n n (pc + 3) ls (.long (M.2.1 o f) :: st) M Q) : bm_V L mi d n n n pc ls (.ref o :: st) M Q := bv_getL hd hf hq.1 (Nat.lt_of_lt_of_le hq.2 hN) hk k
theorem bw_getR {i ci f o : Nat} {fin : Bool} (hN : 181 ≤ n) (hq : bm_OK o ci) (hd : decode mi.2.1 pc = .ok (.getfield i, 3)) (hf : bm_fo mi.1.cls i ci f fin) (hk : bm_fk (bm_ty ci f) = 2) (k : bm_V L mi d n n n (pc + 3) ls (va_rf (M.2.2.1 o f) :: st) M Q) : bm_V L mi d n n n pc ls (.ref o :: st) M Q := bv_getR hd hf hq.1 (Nat.lt_of_lt_of_le hq.2 hN) hk k
theorem bw_getQ {i ci f o : Nat} {fin : Bool} (hN : 181 ≤ n) (hq : bm_OK o ci) (hd : decode mi.2.1 pc = .ok (.getfield i, 3)) (hf : bm_fo mi.1.cls i ci f fin) (hk : bm_fk (bm_ty ci f) = 4) (k : bm_V L mi d n n n (pc + 3) ls (va_rf (M.2.2.2 o f) :: st) M Q) : bm_V L mi d n n n pc ls (.ref o :: st) M Q := bv_getQ hd hf hq.1 (Nat.lt_of_lt_of_le hq.2 hN) hk k
theorem bw_getA {i ci f o a : Nat} {fin : Bool} (hN : 181 ≤ n) (hq : bm_OK o ci) (ha : M.2.2.1 o f = some a) (hd : decode mi.2.1 pc = .ok (.getfield i, 3)) (hf : bm_fo mi.1.cls i ci f fin) (hk : bm_fk (bm_ty ci f) = 2) (k : bm_V L mi d n n n (pc + 3) ls (.ref a :: st) M Q) : bm_V L mi d n n n pc ls (.ref o :: st) M Q := bv_getA hd hf hq.1 (Nat.lt_of_lt_of_le hq.2 hN) hk ha k
theorem bw_putI {i ci f o : Nat} {v : Int32} (hN : 181 ≤ n) (hq : bm_OK o ci) (hd : decode mi.2.1 pc = .ok (.putfield i, 3)) (hf : bm_fo mi.1.cls i ci f false) (hk : bm_ty ci f = .int) (k : bm_V L mi d n n n (pc + 3) ls st (bm_sI M o f v) Q) : bm_V L mi d n n n pc ls (.int v :: .ref o :: st) M Q := bv_putI hd hf hq.1 (Nat.lt_of_lt_of_le hq.2 hN) (by rw [hk]; rfl) (by rw [hk]; rfl) (by rw [hk]; rfl) k
theorem bw_putB {i ci f o : Nat} {b : Bool} (hN : 181 ≤ n) (hq : bm_OK o ci) (hd : decode mi.2.1 pc = .ok (.putfield i, 3)) (hf : bm_fo mi.1.cls i ci f false) (hk : bm_ty ci f = .boolean) (k : bm_V L mi d n n n (pc + 3) ls st (bm_sI M o f (bm_bi b)) Q) : bm_V L mi d n n n pc ls (.int (bm_bi b) :: .ref o :: st) M Q := bv_putI hd hf hq.1 (Nat.lt_of_lt_of_le hq.2 hN) (by rw [hk]; rfl) (by rw [hk]; cases b <;> rfl) (by rw [hk]; cases b <;> rfl) k
theorem bw_putL {i ci f o : Nat} {v : Int64} (hN : 181 ≤ n) (hq : bm_OK o ci) (hd : decode mi.2.1 pc = .ok (.putfield i, 3)) (hf : bm_fo mi.1.cls i ci f false) (hk : bm_ty ci f = .long) (k : bm_V L mi d n n n (pc + 3) ls st (bm_sL M o f v) Q) : bm_V L mi d n n n pc ls (.long v :: .ref o :: st) M Q := bv_putL hd hf hq.1 (Nat.lt_of_lt_of_le hq.2 hN) (by rw [hk]; rfl) (by rw [hk]; rfl) (by rw [hk]; rfl) k
theorem bw_putQ {i ci f o : Nat} {v : Option Nat} (hN : 181 ≤ n) (hq : bm_OK o ci) (hd : decode mi.2.1 pc = .ok (.putfield i, 3)) (hf : bm_fo mi.1.cls i ci f false) (hk : bm_fk (bm_ty ci f) = 4) (k : bm_V L mi d n n n (pc + 3) ls st (bm_sW M o f v) Q) : bm_V L mi d n n n pc ls (va_rf v :: .ref o :: st) M Q := bv_putQ hd hf hq.1 (Nat.lt_of_lt_of_le hq.2 hN) hk k
theorem bw_iald {o : Nat} {i : Int32} (hN : 181 ≤ n) (hq : bm_AK o 0 i) (hd : decode mi.2.1 pc = .ok (.iaload, 1)) (k : bm_V L mi d n n n (pc + 1) ls (.int (M.1 o i.toNatClampNeg) :: st) M Q) : bm_V L mi d n n n pc ls (.int i :: .ref o :: st) M Q := bv_iald hd hq.1 (Nat.lt_of_lt_of_le hq.2.1 hN) hq.2.2 k
theorem bw_bald {o : Nat} {i : Int32} (hN : 181 ≤ n) (hq : bm_AK o 1 i) (hd : decode mi.2.1 pc = .ok (.baload, 1)) (k : bm_V L mi d n n n (pc + 1) ls (.int (M.1 o i.toNatClampNeg) :: st) M Q) : bm_V L mi d n n n pc ls (.int i :: .ref o :: st) M Q := bv_bald hd hq.1 (Nat.lt_of_lt_of_le hq.2.1 hN) hq.2.2 k
theorem bw_zald {o : Nat} {i : Int32} (hN : 181 ≤ n) (hq : bm_AK o 3 i) (hd : decode mi.2.1 pc = .ok (.baload, 1)) (k : bm_V L mi d n n n (pc + 1) ls (.int (M.1 o i.toNatClampNeg) :: st) M Q) : bm_V L mi d n n n pc ls (.int i :: .ref o :: st) M Q := bv_zald hd hq.1 (Nat.lt_of_lt_of_le hq.2.1 hN) hq.2.2 k
theorem bw_lald {o : Nat} {i : Int32} (hN : 181 ≤ n) (hq : bm_AK o 2 i) (hd : decode mi.2.1 pc = .ok (.laload, 1)) (k : bm_V L mi d n n n (pc + 1) ls (.long (M.2.1 o i.toNatClampNeg) :: st) M Q) : bm_V L mi d n n n pc ls (.int i :: .ref o :: st) M Q := bv_lald hd hq.1 (Nat.lt_of_lt_of_le hq.2.1 hN) hq.2.2 k
theorem bw_bretI {x : Int32} (hz : bm_bz x = true) (hd : decode mi.2.1 pc = .ok (.ireturn, 1)) (hrt : mi.2.2.2 = some .boolean) (hQ : Q (some (.int (bm_bi (bm_ib x)))) M) : bm_V L mi d n n n pc ls (.int x :: []) M Q := by
  have h2 := bw_bret (L := L) (d := d) (n := n) (ls := ls) (b := bm_ib x) hd hrt hQ
  rw [bm_bib hz] at h2
  exact h2
theorem bw_aald {o t : Nat} {i : Int32} (hN : 181 ≤ n) (hq : bm_AK o t i) (ht : 5 ≤ t) (ht7 : t < 7) (hd : decode mi.2.1 pc = .ok (.aaload, 1)) (k : bm_V L mi d n n n (pc + 1) ls (va_rf (M.2.2.1 o i.toNatClampNeg) :: st) M Q) : bm_V L mi d n n n pc ls (.int i :: .ref o :: st) M Q := bv_aald hd hq.1 ht ht7 (Nat.lt_of_lt_of_le hq.2.1 hN) hq.2.2 k
theorem bw_aaldW {o : Nat} {i : Int32} (hN : 181 ≤ n) (hq : bm_AK o 4 i) (hd : decode mi.2.1 pc = .ok (.aaload, 1)) (k : bm_V L mi d n n n (pc + 1) ls (va_rf (M.2.2.2 o i.toNatClampNeg) :: st) M Q) : bm_V L mi d n n n pc ls (.int i :: .ref o :: st) M Q := bv_aaldW hd hq.1 (Nat.lt_of_lt_of_le hq.2.1 hN) hq.2.2 k
theorem bw_iast {o : Nat} {i : Int32} {v : Int32} (hN : 181 ≤ n) (hq : bm_AK o 0 i) (hd : decode mi.2.1 pc = .ok (.iastore, 1)) (k : bm_V L mi d n n n (pc + 1) ls st (bm_sI M o i.toNatClampNeg v) Q) : bm_V L mi d n n n pc ls (.int v :: .int i :: .ref o :: st) M Q := bv_iast hd hq.1 (Nat.lt_of_lt_of_le hq.2.1 hN) hq.2.2 k
theorem bw_bast {o : Nat} {i : Int32} {v : Int32} (hN : 181 ≤ n) (hq : bm_AK o 1 i) (hd : decode mi.2.1 pc = .ok (.bastore, 1)) (k : bm_V L mi d n n n (pc + 1) ls st (bm_sI M o i.toNatClampNeg (vp_nar .byte v)) Q) : bm_V L mi d n n n pc ls (.int v :: .int i :: .ref o :: st) M Q := bv_bast hd hq.1 (Nat.lt_of_lt_of_le hq.2.1 hN) hq.2.2 k
theorem bw_zast {o : Nat} {i : Int32} {v : Int32} (hN : 181 ≤ n) (hq : bm_AK o 3 i) (hd : decode mi.2.1 pc = .ok (.bastore, 1)) (k : bm_V L mi d n n n (pc + 1) ls st (bm_sI M o i.toNatClampNeg (vp_nar .boolean v)) Q) : bm_V L mi d n n n pc ls (.int v :: .int i :: .ref o :: st) M Q := bv_zast hd hq.1 (Nat.lt_of_lt_of_le hq.2.1 hN) hq.2.2 k
theorem bw_last {o : Nat} {i : Int32} {v : Int64} (hN : 181 ≤ n) (hq : bm_AK o 2 i) (hd : decode mi.2.1 pc = .ok (.lastore, 1)) (k : bm_V L mi d n n n (pc + 1) ls st (bm_sL M o i.toNatClampNeg v) Q) : bm_V L mi d n n n pc ls (.long v :: .int i :: .ref o :: st) M Q := bv_last hd hq.1 (Nat.lt_of_lt_of_le hq.2.1 hN) hq.2.2 k
theorem bm_ol_w {i : Nat} (h : i < 34) : ("BrowArmy$Word", 1000 + i) ∈ bm_ol := by
  refine List.mem_append_left _ (List.mem_append_left _ (List.mem_map.mpr ⟨i, List.mem_range.mpr h, rfl⟩))
theorem bw_aastW {o v : Nat} {i : Int32} (hN : 181 ≤ n) (hq : bm_AK o 4 i) (hv : bm_iw v = true) (hd : decode mi.2.1 pc = .ok (.aastore, 1)) (k : bm_V L mi d n n n (pc + 1) ls st (bm_sW M o i.toNatClampNeg (some v)) Q) : bm_V L mi d n n n pc ls (.ref v :: .int i :: .ref o :: st) M Q := by
  obtain ⟨j, hj, rfl⟩ := bm_iw_of hv
  exact bv_aastX hd hq.1 rfl (Nat.lt_of_lt_of_le hq.2.1 hN) hq.2.2 (by omega) (bm_ol_w hj) k
theorem bw_aastQ {o : Nat} {v : Option Nat} {i : Int32} (hN : 181 ≤ n) (hq : bm_AK o 4 i) (hv : bm_iwq v = true) (hd : decode mi.2.1 pc = .ok (.aastore, 1)) (k : bm_V L mi d n n n (pc + 1) ls st (bm_sW M o i.toNatClampNeg v) Q) : bm_V L mi d n n n pc ls (va_rf v :: .int i :: .ref o :: st) M Q := by
  cases v with
  | none => exact bv_aastN hd hq.1 rfl (Nat.lt_of_lt_of_le hq.2.1 hN) hq.2.2 k
  | some a => exact bw_aastW hN hq hv hd k
theorem bm_ALLiw {i : Int32} (h : (decide (¬ i < 0) && decide (i.toNatClampNeg < 34)) = true) : bm_iw (1000 + i.toNatClampNeg) = true := by
  simp only [Bool.and_eq_true, decide_eq_true_eq] at h
  simp only [bm_iw, Bool.and_eq_true, decide_eq_true_eq]
  omega
theorem bm_xl_s {i : Nat} (h : i < 34) : (1000 + i, "BrowArmy$Word", "sort", "I", Value.int (bm_wso (1000 + i))) ∈ bm_xl := by
  unfold bm_wso
  rw [show 1000 + i - 1000 = i by omega]
  exact List.mem_append_left _ (List.mem_append_left _ (List.mem_append_left _ (List.mem_append_left _ (List.mem_append_left _ (List.mem_map.mpr ⟨i, List.mem_range.mpr h, rfl⟩)))))
theorem bm_xl_n {i : Nat} (h : i < 34) : (1000 + i, "BrowArmy$Word", "number", "I", Value.int (bm_wnu (1000 + i))) ∈ bm_xl := by
  unfold bm_wnu
  rw [show 1000 + i - 1000 = i by omega]
  exact List.mem_append_left _ (List.mem_append_left _ (List.mem_append_left _ (List.mem_append_left _ (List.mem_append_right _ (List.mem_map.mpr ⟨i, List.mem_range.mpr h, rfl⟩)))))
theorem bm_xl_p {i : Nat} (h : i < 34) : (1000 + i, "BrowArmy$Word", "packed", "J", Value.long (bm_wpa (1000 + i))) ∈ bm_xl := by
  unfold bm_wpa
  rw [show 1000 + i - 1000 = i by omega]
  exact List.mem_append_left _ (List.mem_append_left _ (List.mem_append_left _ (List.mem_append_right _ (List.mem_map.mpr ⟨i, List.mem_range.mpr h, rfl⟩))))
theorem bm_xl_t {i : Nat} (h : i < 34) : (1000 + i, "BrowArmy$Word", "text", "Ljava/lang/String;", Value.ref (1200 + i)) ∈ bm_xl :=
  List.mem_append_left _ (List.mem_append_left _ (List.mem_append_right _ (List.mem_map.mpr ⟨i, List.mem_range.mpr h, rfl⟩)))
theorem bw_wso {x i : Nat} (hx : bm_iw x = true) (hd : decode mi.2.1 pc = .ok (.getfield i, 3)) (hw : Cond.fieldLink mi.1.cls i "BrowArmy$Word" "sort" "I" ∈ bm_T) (k : bm_V L mi d n n n (pc + 3) ls (.int (bm_wso x) :: st) M Q) : bm_V L mi d n n n pc ls (.ref x :: st) M Q := by
  obtain ⟨j, hj, rfl⟩ := bm_iw_of hx
  exact bv_getX hd hw (by omega) (bm_xl_s hj) (fun q h => by cases h) k
theorem bw_wnu {x i : Nat} (hx : bm_iw x = true) (hd : decode mi.2.1 pc = .ok (.getfield i, 3)) (hw : Cond.fieldLink mi.1.cls i "BrowArmy$Word" "number" "I" ∈ bm_T) (k : bm_V L mi d n n n (pc + 3) ls (.int (bm_wnu x) :: st) M Q) : bm_V L mi d n n n pc ls (.ref x :: st) M Q := by
  obtain ⟨j, hj, rfl⟩ := bm_iw_of hx
  exact bv_getX hd hw (by omega) (bm_xl_n hj) (fun q h => by cases h) k
theorem bw_wpa {x i : Nat} (hx : bm_iw x = true) (hd : decode mi.2.1 pc = .ok (.getfield i, 3)) (hw : Cond.fieldLink mi.1.cls i "BrowArmy$Word" "packed" "J" ∈ bm_T) (k : bm_V L mi d n n n (pc + 3) ls (.long (bm_wpa x) :: st) M Q) : bm_V L mi d n n n pc ls (.ref x :: st) M Q := by
  obtain ⟨j, hj, rfl⟩ := bm_iw_of hx
  exact bv_getX hd hw (by omega) (bm_xl_p hj) (fun q h => by cases h) k
theorem bw_wtx {x i : Nat} (hx : bm_iw x = true) (hd : decode mi.2.1 pc = .ok (.getfield i, 3)) (hw : Cond.fieldLink mi.1.cls i "BrowArmy$Word" "text" "Ljava/lang/String;" ∈ bm_T) (k : bm_V L mi d n n n (pc + 3) ls (.ref (x + 200) :: st) M Q) : bm_V L mi d n n n pc ls (.ref x :: st) M Q := by
  obtain ⟨j, hj, rfl⟩ := bm_iw_of hx
  refine bv_getX hd hw (by omega) (bm_xl_t hj) (fun q h => by injection h with h; subst h; exact Nat.le_trans (by decide : 1000 ≤ 1200) (Nat.le_add_right 1200 j)) ?_
  rw [show 1200 + j = 1000 + j + 200 by omega]
  exact k
theorem bw_getW {i j : Nat} {nm : String} (hd : decode mi.2.1 pc = .ok (.getstatic i, 3)) (hw : Cond.fieldLink mi.1.cls i "BrowArmy$Word" nm "LBrowArmy$Word;" ∈ bm_T) (hq : bm_zl[j]? = some ("BrowArmy$Word", nm, "LBrowArmy$Word;", .ref (1000 + j))) (k : bm_V L mi d n n n (pc + 3) ls (.ref (1000 + j) :: st) M Q) : bm_V L mi d n n n pc ls st M Q :=
  bv_gets hd hw (List.mem_of_getElem? hq) (fun q h => by injection h with h; subst h; exact Nat.le_add_right 1000 j) k
theorem bw_getALL {i : Nat} (hd : decode mi.2.1 pc = .ok (.getstatic i, 3)) (hw : Cond.fieldLink mi.1.cls i "BrowArmy$Word" "ALL" "[LBrowArmy$Word;" ∈ bm_T) (k : bm_V L mi d n n n (pc + 3) ls (.ref 1100 :: st) M Q) : bm_V L mi d n n n pc ls st M Q :=
  bv_gets hd hw (List.mem_of_getElem? (i := 34) rfl) (fun q h => by injection h with h; subst h; exact (by decide : 1000 ≤ 1100)) k
theorem bw_ALLlen (hd : decode mi.2.1 pc = .ok (.arraylength, 1)) (k : bm_V L mi d n n n (pc + 1) ls (.int 34 :: st) M Q) : bm_V L mi d n n n pc ls (.ref 1100 :: st) M Q :=
  bv_xlen hd (by omega) List.mem_cons_self rfl k
def bm_iALL (i : Int32) : Bool := decide (¬ i < 0) && decide (i.toNatClampNeg < 34)
theorem bw_ALLat {i : Int32} (hi : bm_iALL i = true) (hd : decode mi.2.1 pc = .ok (.aaload, 1)) (k : bm_V L mi d n n n (pc + 1) ls (.ref (1000 + i.toNatClampNeg) :: st) M Q) : bm_V L mi d n n n pc ls (.int i :: .ref 1100 :: st) M Q := by
  simp only [bm_iALL, Bool.and_eq_true, decide_eq_true_eq] at hi
  exact bv_xaald hd (by omega) List.mem_cons_self (fun q => by rcases q with q | q; exact hi.1 q; omega) rfl (by omega) k
theorem bw_callV {i na b ci : Nat} {mi2 : bm_I} {As stk : List Value} {M1 : bm_M} {w : Value} (hN : 181 ≤ n) (hq : bm_OK b ci) (hci : ∃ T N, vwCl[ci]? = some (mi2.1.cls, T, N)) (hd : decode mi.2.1 pc = .ok (.invokevirtual i, 3)) (hm : bm_mc mi.1.cls 0 i mi2 na) (hC : bm_C L mi2 d n n (.ref b :: As) M (fun r M' => r = some w ∧ M' = M1)) (hst : stk = As.reverse ++ .ref b :: st) (hna : As.length = na) (hwt : (st.map fun v => v.category).sum ≤ 8) (k : bm_V L mi (d + 1) n n n (pc + 3) ls (w :: st) M1 Q) : bm_V L mi (d + 1) n n n pc ls stk M Q :=
  bv_callV (n2 := n) (Nat.lt_of_lt_of_le hq.2 hN) hq.1 hci hd hm hC hst hna hwt (Nat.le_refl n) (fun r M2 h => by obtain ⟨rfl, rfl⟩ := h; exact k)
theorem bw_callS {i na : Nat} {mi2 : bm_I} {As stk : List Value} {M1 : bm_M} {w : Value} (hd : decode mi.2.1 pc = .ok (.invokestatic i, 3)) (hm : bm_mc mi.1.cls 1 i mi2 na) (hC : bm_C L mi2 d n n As M (fun r M' => r = some w ∧ M' = M1)) (hst : stk = As.reverse ++ st) (hna : As.length = na) (hwt : (st.map fun v => v.category).sum ≤ 8) (k : bm_V L mi (d + 1) n n n (pc + 3) ls (w :: st) M1 Q) : bm_V L mi (d + 1) n n n pc ls stk M Q :=
  bv_callS (n2 := n) hd hm hC hst hna hwt (Nat.le_refl n) (fun r M2 h => by obtain ⟨rfl, rfl⟩ := h; exact k)
theorem bw_callSN {i na : Nat} {mi2 : bm_I} {As stk : List Value} {M1 : bm_M} {w : Value} (hd : decode mi.2.1 pc = .ok (.invokestatic i, 3)) (hm : bm_mc mi.1.cls 2 i mi2 na) (hC : bm_C L mi2 d n n As M (fun r M' => r = some w ∧ M' = M1)) (hst : stk = As.reverse ++ st) (hna : As.length = na) (hwt : (st.map fun v => v.category).sum ≤ 8) (k : bm_V L mi (d + 1) n n n (pc + 3) ls (w :: st) M1 Q) : bm_V L mi (d + 1) n n n pc ls stk M Q :=
  bv_callSN (n2 := n) hd hm hC hst hna hwt (Nat.le_refl n) (fun r M2 h => by obtain ⟨rfl, rfl⟩ := h; exact k)
theorem bw_callVv {i na b ci : Nat} {mi2 : bm_I} {As stk : List Value} {M1 : bm_M} (hN : 181 ≤ n) (hq : bm_OK b ci) (hci : ∃ T N, vwCl[ci]? = some (mi2.1.cls, T, N)) (hd : decode mi.2.1 pc = .ok (.invokevirtual i, 3)) (hm : bm_mc mi.1.cls 0 i mi2 na) (hC : bm_C L mi2 d n n (.ref b :: As) M (fun r M' => r = none ∧ M' = M1)) (hst : stk = As.reverse ++ .ref b :: st) (hna : As.length = na) (hwt : (st.map fun v => v.category).sum ≤ 8) (k : bm_V L mi (d + 1) n n n (pc + 3) ls st M1 Q) : bm_V L mi (d + 1) n n n pc ls stk M Q :=
  bv_callV (n2 := n) (Nat.lt_of_lt_of_le hq.2 hN) hq.1 hci hd hm hC hst hna hwt (Nat.le_refl n) (fun r M2 h => by obtain ⟨rfl, rfl⟩ := h; exact k)
theorem bw_callSv {i na : Nat} {mi2 : bm_I} {As stk : List Value} {M1 : bm_M} (hd : decode mi.2.1 pc = .ok (.invokestatic i, 3)) (hm : bm_mc mi.1.cls 1 i mi2 na) (hC : bm_C L mi2 d n n As M (fun r M' => r = none ∧ M' = M1)) (hst : stk = As.reverse ++ st) (hna : As.length = na) (hwt : (st.map fun v => v.category).sum ≤ 8) (k : bm_V L mi (d + 1) n n n (pc + 3) ls st M1 Q) : bm_V L mi (d + 1) n n n pc ls stk M Q :=
  bv_callS (n2 := n) hd hm hC hst hna hwt (Nat.le_refl n) (fun r M2 h => by obtain ⟨rfl, rfl⟩ := h; exact k)
theorem bw_callSNv {i na : Nat} {mi2 : bm_I} {As stk : List Value} {M1 : bm_M} (hd : decode mi.2.1 pc = .ok (.invokestatic i, 3)) (hm : bm_mc mi.1.cls 2 i mi2 na) (hC : bm_C L mi2 d n n As M (fun r M' => r = none ∧ M' = M1)) (hst : stk = As.reverse ++ st) (hna : As.length = na) (hwt : (st.map fun v => v.category).sum ≤ 8) (k : bm_V L mi (d + 1) n n n (pc + 3) ls st M1 Q) : bm_V L mi (d + 1) n n n pc ls stk M Q :=
  bv_callSN (n2 := n) hd hm hC hst hna hwt (Nat.le_refl n) (fun r M2 h => by obtain ⟨rfl, rfl⟩ := h; exact k)
theorem bw_callX {C : String} {i na x : Nat} {mi2 : bm_I} {As stk : List Value} {M1 : bm_M} {w : Value} (hq : (C, x) ∈ bm_ol) (hcC : mi2.1.cls = C) (hd : decode mi.2.1 pc = .ok (.invokevirtual i, 3)) (hm : bm_mc mi.1.cls 0 i mi2 na) (hC : bm_C L mi2 d n n (.ref x :: As) M (fun r M' => r = some w ∧ M' = M1)) (hst : stk = As.reverse ++ .ref x :: st) (hna : As.length = na) (hwt : (st.map fun v => v.category).sum ≤ 8) (k : bm_V L mi (d + 1) n n n (pc + 3) ls (w :: st) M1 Q) : bm_V L mi (d + 1) n n n pc ls stk M Q :=
  bv_callX (n2 := n) hq hcC hd hm hC hst hna hwt (Nat.le_refl n) (fun r M2 h => by obtain ⟨rfl, rfl⟩ := h; exact k)
def bm_ic (o t : Nat) (p z : Int32) : Bool := decide (bm_SH o = .inr (t, bm_sz o)) && (decide (o < 181) && (decide (¬ p < 0) && (decide (¬ z < 0) && decide (p.toNatClampNeg + z.toNatClampNeg ≤ bm_sz o))))
theorem bu_ic {o t : Nat} {p z : Int32} {β : Type} {x : Option β} {r : β} (h : (if bm_ic o t p z = true then x else none) = some r) : (bm_SH o = .inr (t, bm_sz o) ∧ o < 181 ∧ (¬ p < 0) ∧ (¬ z < 0) ∧ p.toNatClampNeg + z.toNatClampNeg ≤ bm_sz o) ∧ x = some r := by
  split at h
  · rename_i hc
    simp only [bm_ic, Bool.and_eq_true, decide_eq_true_eq] at hc
    exact ⟨hc, h⟩
  · cases h
theorem bw_copyI {i a b : Nat} {sp dp z : Int32} (hN : 181 ≤ n) (ha : bm_SH a = .inr (0, bm_sz a) ∧ a < 181 ∧ (¬ sp < 0) ∧ (¬ z < 0) ∧ sp.toNatClampNeg + z.toNatClampNeg ≤ bm_sz a) (hb : bm_SH b = .inr (0, bm_sz b) ∧ b < 181 ∧ (¬ dp < 0) ∧ (¬ z < 0) ∧ dp.toNatClampNeg + z.toNatClampNeg ≤ bm_sz b) (hd : decode mi.2.1 pc = .ok (.invokestatic i, 3)) (hm : Cond.methodLink mi.1.cls i arraycopyName ∈ bm_T) (hwt : (st.map fun v => v.category).sum ≤ 8) (k : bm_V L mi (d + 1) n n n (pc + 3) ls st (bm_cI M a b sp.toNatClampNeg dp.toNatClampNeg z.toNatClampNeg) Q) : bm_V L mi (d + 1) n n n pc ls (.int z :: .int dp :: .ref b :: .int sp :: .ref a :: st) M Q :=
  bv_copyI hd hm ha.1 (Nat.lt_of_lt_of_le ha.2.1 hN) hb.1 (Nat.lt_of_lt_of_le hb.2.1 hN) ha.2.2.1 hb.2.2.1 ha.2.2.2.1 ha.2.2.2.2 hb.2.2.2.2 hwt k
theorem bw_copyL {i a b : Nat} {sp dp z : Int32} (hN : 181 ≤ n) (ha : bm_SH a = .inr (2, bm_sz a) ∧ a < 181 ∧ (¬ sp < 0) ∧ (¬ z < 0) ∧ sp.toNatClampNeg + z.toNatClampNeg ≤ bm_sz a) (hb : bm_SH b = .inr (2, bm_sz b) ∧ b < 181 ∧ (¬ dp < 0) ∧ (¬ z < 0) ∧ dp.toNatClampNeg + z.toNatClampNeg ≤ bm_sz b) (hd : decode mi.2.1 pc = .ok (.invokestatic i, 3)) (hm : Cond.methodLink mi.1.cls i arraycopyName ∈ bm_T) (hwt : (st.map fun v => v.category).sum ≤ 8) (k : bm_V L mi (d + 1) n n n (pc + 3) ls st (bm_cL M a b sp.toNatClampNeg dp.toNatClampNeg z.toNatClampNeg) Q) : bm_V L mi (d + 1) n n n pc ls (.int z :: .int dp :: .ref b :: .int sp :: .ref a :: st) M Q :=
  bv_copyL hd hm ha.1 (Nat.lt_of_lt_of_le ha.2.1 hN) hb.1 (Nat.lt_of_lt_of_le hb.2.1 hN) ha.2.2.1 hb.2.2.1 ha.2.2.2.1 ha.2.2.2.2 hb.2.2.2.2 hwt k
theorem bm_sw {x : Int32} {k : Nat} (hk : k < 1000) (h : ∀ j : Nat, j < k → ¬ x = Int32.ofNat j) : x.toInt < 0 ∨ (k : Int) - 1 < x.toInt := by
  rcases Int.lt_or_le x.toInt 0 with h1 | h1
  · exact Or.inl h1
  · right
    rcases Int.lt_or_le ((k : Int) - 1) x.toInt with h2 | h2
    · exact h2
    · exfalso
      refine h x.toInt.toNat (by omega) ?_
      rw [← Int32.ofInt_eq_ofNat]
      rw [show ((x.toInt.toNat : Nat) : Int) = x.toInt by omega, Int32.ofInt_toInt]
end BMU
