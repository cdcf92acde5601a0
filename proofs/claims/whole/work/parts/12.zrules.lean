abbrev bm_TI : Type := Nat → Nat → Int32
abbrev bm_TJ : Type := Nat → Nat → Int64
abbrev bm_TR : Type := Nat → Nat → Option Nat
def bm_uI (I : bm_TI) (o k : Nat) (v : Int32) : bm_TI := fun a b => if a = o then (if b = k then v else I a b) else I a b
def bm_uJ (J : bm_TJ) (o k : Nat) (v : Int64) : bm_TJ := fun a b => if a = o then (if b = k then v else J a b) else J a b
def bm_uW (W : bm_TR) (o k : Nat) (v : Option Nat) : bm_TR := fun a b => if a = o then (if b = k then v else W a b) else W a b
def bm_yI (I : bm_TI) (a b sp dp z : Nat) : bm_TI := fun o j => if o = b then va_cpy (I a) (I b) sp dp z j else I o j
def bm_yJ (J : bm_TJ) (a b sp dp z : Nat) : bm_TJ := fun o j => if o = b then va_cpy (J a) (J b) sp dp z j else J o j
/-- an index within -/
def bm_ix (len : Nat) (i : Int32) : Bool := decide (¬ i < 0) && decide (i.toNatClampNeg < len)
theorem bm_ix_in {len : Nat} {i : Int32} (h : bm_ix len i = true) : vp_in i len := by
  simp only [bm_ix, Bool.and_eq_true, decide_eq_true_eq] at h
  intro q
  rcases q with q | q
  · exact h.1 q
  · omega
theorem bu_ix {len : Nat} {i : Int32} {β : Type} {x : Option β} {r : β} (h : (if bm_ix len i = true then x else none) = some r) : vp_in i len ∧ x = some r := by
  obtain ⟨h1, h2⟩ := bu_g h
  exact ⟨bm_ix_in h1, h2⟩
abbrev bm_RK (o t len : Nat) : Prop := bm_SH o = .inr (t, len) ∧ o < 181
section BMZ
variable {lc : bm_L} {mi : bm_I} {d n pc : Nat} {ls : List (Nat × Value)} {st : List Value} {I : bm_TI} {J : bm_TJ} {R W : bm_TR} {Q : Option Value → bm_M → Prop}
theorem bz_getI {i ci f o : Nat} {fin : Bool} (hN : 181 ≤ n) (hq : bm_OK o ci) (hd : decode mi.2.1 pc = .ok (.getfield i, 3)) (hf : bm_fo mi.1.cls i ci f fin) (hk : bm_fk (bm_ty ci f) = 0) (k : bm_V lc mi d n n n (pc + 3) ls (.int (I o f) :: st) (I, J, R, W) Q) : bm_V lc mi d n n n pc ls (.ref o :: st) (I, J, R, W) Q := bw_getI hN hq hd hf hk k
theorem bz_getJ {i ci f o : Nat} {fin : Bool} (hN : 181 ≤ n) (hq : bm_OK o ci) (hd : decode mi.2.1 pc = .ok (.getfield i, 3)) (hf : bm_fo mi.1.cls i ci f fin) (hk : bm_fk (bm_ty ci f) = 1) (k : bm_V lc mi d n n n (pc + 3) ls (.long (J o f) :: st) (I, J, R, W) Q) : bm_V lc mi d n n n pc ls (.ref o :: st) (I, J, R, W) Q := bw_getL hN hq hd hf hk k
theorem bz_getQ {i ci f o : Nat} {fin : Bool} (hN : 181 ≤ n) (hq : bm_OK o ci) (hd : decode mi.2.1 pc = .ok (.getfield i, 3)) (hf : bm_fo mi.1.cls i ci f fin) (hk : bm_fk (bm_ty ci f) = 4) (k : bm_V lc mi d n n n (pc + 3) ls (va_rf (W o f) :: st) (I, J, R, W) Q) : bm_V lc mi d n n n pc ls (.ref o :: st) (I, J, R, W) Q := bw_getQ hN hq hd hf hk k
theorem bz_getA {i ci f o a : Nat} {fin : Bool} (hN : 181 ≤ n) (hq : bm_OK o ci) (ha : R o f = some a) (hd : decode mi.2.1 pc = .ok (.getfield i, 3)) (hf : bm_fo mi.1.cls i ci f fin) (hk : bm_fk (bm_ty ci f) = 2) (k : bm_V lc mi d n n n (pc + 3) ls (.ref a :: st) (I, J, R, W) Q) : bm_V lc mi d n n n pc ls (.ref o :: st) (I, J, R, W) Q := bw_getA (M := (I, J, R, W)) hN hq ha hd hf hk k
theorem bz_putI {i ci f o : Nat} {v : Int32} (hN : 181 ≤ n) (hq : bm_OK o ci) (hd : decode mi.2.1 pc = .ok (.putfield i, 3)) (hf : bm_fo mi.1.cls i ci f false) (hk : bm_ty ci f = .int) (k : bm_V lc mi d n n n (pc + 3) ls st (bm_uI I o f v, J, R, W) Q) : bm_V lc mi d n n n pc ls (.int v :: .ref o :: st) (I, J, R, W) Q := bw_putI hN hq hd hf hk k
theorem bz_putB {i ci f o : Nat} {v : Bool} (hN : 181 ≤ n) (hq : bm_OK o ci) (hd : decode mi.2.1 pc = .ok (.putfield i, 3)) (hf : bm_fo mi.1.cls i ci f false) (hk : bm_ty ci f = .boolean) (k : bm_V lc mi d n n n (pc + 3) ls st (bm_uI I o f (bm_bi v), J, R, W) Q) : bm_V lc mi d n n n pc ls (.int (bm_bi v) :: .ref o :: st) (I, J, R, W) Q := bw_putB hN hq hd hf hk k
theorem bz_putJ {i ci f o : Nat} {v : Int64} (hN : 181 ≤ n) (hq : bm_OK o ci) (hd : decode mi.2.1 pc = .ok (.putfield i, 3)) (hf : bm_fo mi.1.cls i ci f false) (hk : bm_ty ci f = .long) (k : bm_V lc mi d n n n (pc + 3) ls st (I, bm_uJ J o f v, R, W) Q) : bm_V lc mi d n n n pc ls (.long v :: .ref o :: st) (I, J, R, W) Q := bw_putL hN hq hd hf hk k
theorem bz_putQ {i ci f o : Nat} {v : Option Nat} (hN : 181 ≤ n) (hq : bm_OK o ci) (hd : decode mi.2.1 pc = .ok (.putfield i, 3)) (hf : bm_fo mi.1.cls i ci f false) (hk : bm_fk (bm_ty ci f) = 4) (k : bm_V lc mi d n n n (pc + 3) ls st (I, J, R, bm_uW W o f v) Q) : bm_V lc mi d n n n pc ls (va_rf v :: .ref o :: st) (I, J, R, W) Q := bw_putQ hN hq hd hf hk k
theorem bz_iald {o len j : Nat} {i : Int32} (hN : 181 ≤ n) (hq : bm_RK o 0 len) (hi : vp_in i len) (hj : i.toNatClampNeg = j) (hd : decode mi.2.1 pc = .ok (.iaload, 1)) (k : bm_V lc mi d n n n (pc + 1) ls (.int (I o j) :: st) (I, J, R, W) Q) : bm_V lc mi d n n n pc ls (.int i :: .ref o :: st) (I, J, R, W) Q := by
  subst hj
  exact bv_iald hd hq.1 (Nat.lt_of_lt_of_le hq.2 hN) hi k
theorem bz_bald {o len j : Nat} {i : Int32} (hN : 181 ≤ n) (hq : bm_RK o 1 len) (hi : vp_in i len) (hj : i.toNatClampNeg = j) (hd : decode mi.2.1 pc = .ok (.baload, 1)) (k : bm_V lc mi d n n n (pc + 1) ls (.int (I o j) :: st) (I, J, R, W) Q) : bm_V lc mi d n n n pc ls (.int i :: .ref o :: st) (I, J, R, W) Q := by
  subst hj
  exact bv_bald hd hq.1 (Nat.lt_of_lt_of_le hq.2 hN) hi k
theorem bz_zald {o len j : Nat} {i : Int32} (hN : 181 ≤ n) (hq : bm_RK o 3 len) (hi : vp_in i len) (hj : i.toNatClampNeg = j) (hd : decode mi.2.1 pc = .ok (.baload, 1)) (k : bm_V lc mi d n n n (pc + 1) ls (.int (I o j) :: st) (I, J, R, W) Q) : bm_V lc mi d n n n pc ls (.int i :: .ref o :: st) (I, J, R, W) Q := by
  subst hj
  exact bv_zald hd hq.1 (Nat.lt_of_lt_of_le hq.2 hN) hi k
theorem bz_lald {o len j : Nat} {i : Int32} (hN : 181 ≤ n) (hq : bm_RK o 2 len) (hi : vp_in i len) (hj : i.toNatClampNeg = j) (hd : decode mi.2.1 pc = .ok (.laload, 1)) (k : bm_V lc mi d n n n (pc + 1) ls (.long (J o j) :: st) (I, J, R, W) Q) : bm_V lc mi d n n n pc ls (.int i :: .ref o :: st) (I, J, R, W) Q := by
  subst hj
  exact bv_lald hd hq.1 (Nat.lt_of_lt_of_le hq.2 hN) hi k
theorem bz_aaldW {o len j : Nat} {i : Int32} (hN : 181 ≤ n) (hq : bm_RK o 4 len) (hi : vp_in i len) (hj : i.toNatClampNeg = j) (hd : decode mi.2.1 pc = .ok (.aaload, 1)) (k : bm_V lc mi d n n n (pc + 1) ls (va_rf (W o j) :: st) (I, J, R, W) Q) : bm_V lc mi d n n n pc ls (.int i :: .ref o :: st) (I, J, R, W) Q := by
  subst hj
  exact bv_aaldW hd hq.1 (Nat.lt_of_lt_of_le hq.2 hN) hi k
theorem bz_aald {o t len a : Nat} {i : Int32} (hN : 181 ≤ n) (hq : bm_RK o t len) (ht : 5 ≤ t) (ht7 : t < 7) (hi : vp_in i len) (ha : R o i.toNatClampNeg = some a) (hd : decode mi.2.1 pc = .ok (.aaload, 1)) (k : bm_V lc mi d n n n (pc + 1) ls (.ref a :: st) (I, J, R, W) Q) : bm_V lc mi d n n n pc ls (.int i :: .ref o :: st) (I, J, R, W) Q := by
  refine bv_aald hd hq.1 ht ht7 (Nat.lt_of_lt_of_le hq.2 hN) hi ?_
  show bm_V lc mi d n n n _ ls (va_rf (R o i.toNatClampNeg) :: st) (I, J, R, W) Q
  rw [ha]
  exact k
theorem bz_iast {o len j : Nat} {i : Int32} {v : Int32} (hN : 181 ≤ n) (hq : bm_RK o 0 len) (hi : vp_in i len) (hj : i.toNatClampNeg = j) (hd : decode mi.2.1 pc = .ok (.iastore, 1)) (k : bm_V lc mi d n n n (pc + 1) ls st (bm_uI I o j v, J, R, W) Q) : bm_V lc mi d n n n pc ls (.int v :: .int i :: .ref o :: st) (I, J, R, W) Q := by
  subst hj
  exact bv_iast hd hq.1 (Nat.lt_of_lt_of_le hq.2 hN) hi k
theorem bz_bast {o len j : Nat} {i : Int32} {v : Int32} (hN : 181 ≤ n) (hq : bm_RK o 1 len) (hi : vp_in i len) (hj : i.toNatClampNeg = j) (hd : decode mi.2.1 pc = .ok (.bastore, 1)) (k : bm_V lc mi d n n n (pc + 1) ls st (bm_uI I o j (vp_nar .byte v), J, R, W) Q) : bm_V lc mi d n n n pc ls (.int v :: .int i :: .ref o :: st) (I, J, R, W) Q := by
  subst hj
  exact bv_bast hd hq.1 (Nat.lt_of_lt_of_le hq.2 hN) hi k
theorem bz_zast {o len j : Nat} {i : Int32} {v : Int32} (hN : 181 ≤ n) (hq : bm_RK o 3 len) (hi : vp_in i len) (hj : i.toNatClampNeg = j) (hd : decode mi.2.1 pc = .ok (.bastore, 1)) (k : bm_V lc mi d n n n (pc + 1) ls st (bm_uI I o j (vp_nar .boolean v), J, R, W) Q) : bm_V lc mi d n n n pc ls (.int v :: .int i :: .ref o :: st) (I, J, R, W) Q := by
  subst hj
  exact bv_zast hd hq.1 (Nat.lt_of_lt_of_le hq.2 hN) hi k
theorem bz_last {o len j : Nat} {i : Int32} {v : Int64} (hN : 181 ≤ n) (hq : bm_RK o 2 len) (hi : vp_in i len) (hj : i.toNatClampNeg = j) (hd : decode mi.2.1 pc = .ok (.lastore, 1)) (k : bm_V lc mi d n n n (pc + 1) ls st (I, bm_uJ J o j v, R, W) Q) : bm_V lc mi d n n n pc ls (.long v :: .int i :: .ref o :: st) (I, J, R, W) Q := by
  subst hj
  exact bv_last hd hq.1 (Nat.lt_of_lt_of_le hq.2 hN) hi k
theorem bz_aastQ {o len j : Nat} {v : Option Nat} {i : Int32} (hN : 181 ≤ n) (hq : bm_RK o 4 len) (hi : vp_in i len) (hj : i.toNatClampNeg = j) (hv : bm_iwq v = true) (hd : decode mi.2.1 pc = .ok (.aastore, 1)) (k : bm_V lc mi d n n n (pc + 1) ls st (I, J, R, bm_uW W o j v) Q) : bm_V lc mi d n n n pc ls (va_rf v :: .int i :: .ref o :: st) (I, J, R, W) Q := by
  subst hj
  have hz : bm_sz o = len := by unfold bm_sz; rw [hq.1]
  exact bw_aastQ hN ⟨by rw [hz]; exact hq.1, hq.2, by rw [hz]; exact hi⟩ hv hd k
theorem bz_copyI {i a b la lb sj dj zj : Nat} {sp dp z : Int32} (hN : 181 ≤ n) (ha : bm_RK a 0 la) (hb : bm_RK b 0 lb) (h1 : ¬ sp < 0) (h2 : ¬ dp < 0) (h3 : ¬ z < 0) (hs : sp.toNatClampNeg = sj) (hdj : dp.toNatClampNeg = dj) (hz : z.toNatClampNeg = zj) (h4 : sj + zj ≤ la) (h5 : dj + zj ≤ lb) (hd : decode mi.2.1 pc = .ok (.invokestatic i, 3)) (hm : Cond.methodLink mi.1.cls i arraycopyName ∈ bm_T) (hwt : (st.map fun v => v.category).sum ≤ 8) (k : bm_V lc mi (d + 1) n n n (pc + 3) ls st (bm_yI I a b sj dj zj, J, R, W) Q) : bm_V lc mi (d + 1) n n n pc ls (.int z :: .int dp :: .ref b :: .int sp :: .ref a :: st) (I, J, R, W) Q := by
  subst hs; subst hdj; subst hz
  exact bv_copyI hd hm ha.1 (Nat.lt_of_lt_of_le ha.2 hN) hb.1 (Nat.lt_of_lt_of_le hb.2 hN) h1 h2 h3 h4 h5 hwt k
theorem bz_copyJ {i a b la lb sj dj zj : Nat} {sp dp z : Int32} (hN : 181 ≤ n) (ha : bm_RK a 2 la) (hb : bm_RK b 2 lb) (h1 : ¬ sp < 0) (h2 : ¬ dp < 0) (h3 : ¬ z < 0) (hs : sp.toNatClampNeg = sj) (hdj : dp.toNatClampNeg = dj) (hz : z.toNatClampNeg = zj) (h4 : sj + zj ≤ la) (h5 : dj + zj ≤ lb) (hd : decode mi.2.1 pc = .ok (.invokestatic i, 3)) (hm : Cond.methodLink mi.1.cls i arraycopyName ∈ bm_T) (hwt : (st.map fun v => v.category).sum ≤ 8) (k : bm_V lc mi (d + 1) n n n (pc + 3) ls st (I, bm_yJ J a b sj dj zj, R, W) Q) : bm_V lc mi (d + 1) n n n pc ls (.int z :: .int dp :: .ref b :: .int sp :: .ref a :: st) (I, J, R, W) Q := by
  subst hs; subst hdj; subst hz
  exact bv_copyL hd hm ha.1 (Nat.lt_of_lt_of_le ha.2 hN) hb.1 (Nat.lt_of_lt_of_le hb.2 hN) h1 h2 h3 h4 h5 hwt k
end BMZ
