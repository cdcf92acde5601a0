section BMR
variable {L : bm_L} {mi : bm_I} {d n0 nE n pc : Nat} {ls : List (Nat × Value)} {st : List Value} {M : bm_M} {Q : Option Value → bm_M → Prop}
theorem bv_iconst {z : Int} {v : Int32} (hd : decode mi.2.1 pc = .ok (.iconst z, 1)) (hv : Int32.ofInt z = v) (k : bm_V L mi d n0 nE n (pc + 1) ls (.int v :: st) M Q) : bm_V L mi d n0 nE n pc ls (st) M Q := by
  intro hn p e s m args below meth c D cA A ζ α0 hF α H locs lsA a1 a2 hP hD hS hl
  have ⟨hx, hb, hml, hown, hts, hr, hlk, hnm, hK, hA, hG⟩ := hF
  exact lv_iconst hx hb hd hv (k hn p e s m args below meth c D cA A ζ α0 hF α H locs lsA a1 a2 hP hD hS hl)
theorem bv_bipush {z : Int} {v : Int32} (hd : decode mi.2.1 pc = .ok (.bipush z, 2)) (hv : (Int8.ofInt z).toInt32 = v) (k : bm_V L mi d n0 nE n (pc + 2) ls (.int v :: st) M Q) : bm_V L mi d n0 nE n pc ls (st) M Q := by
  intro hn p e s m args below meth c D cA A ζ α0 hF α H locs lsA a1 a2 hP hD hS hl
  have ⟨hx, hb, hml, hown, hts, hr, hlk, hnm, hK, hA, hG⟩ := hF
  exact lv_bipush hx hb hd hv (k hn p e s m args below meth c D cA A ζ α0 hF α H locs lsA a1 a2 hP hD hS hl)
theorem bv_sipush {z : Int} {v : Int32} (hd : decode mi.2.1 pc = .ok (.sipush z, 3)) (hv : (Int16.ofInt z).toInt32 = v) (k : bm_V L mi d n0 nE n (pc + 3) ls (.int v :: st) M Q) : bm_V L mi d n0 nE n pc ls (st) M Q := by
  intro hn p e s m args below meth c D cA A ζ α0 hF α H locs lsA a1 a2 hP hD hS hl
  have ⟨hx, hb, hml, hown, hts, hr, hlk, hnm, hK, hA, hG⟩ := hF
  exact lv_sipush hx hb hd hv (k hn p e s m args below meth c D cA A ζ α0 hF α H locs lsA a1 a2 hP hD hS hl)
theorem bv_lconst {z : Fin 2} {v : Int64} (hd : decode mi.2.1 pc = .ok (.lconst z, 1)) (hv : Int64.ofNat (z : Nat) = v) (k : bm_V L mi d n0 nE n (pc + 1) ls (.long v :: st) M Q) : bm_V L mi d n0 nE n pc ls (st) M Q := by
  intro hn p e s m args below meth c D cA A ζ α0 hF α H locs lsA a1 a2 hP hD hS hl
  have ⟨hx, hb, hml, hown, hts, hr, hlk, hnm, hK, hA, hG⟩ := hF
  exact lv_lconst hx hb hd hv (k hn p e s m args below meth c D cA A ζ α0 hF α H locs lsA a1 a2 hP hD hS hl)
theorem bv_null  (hd : decode mi.2.1 pc = .ok (.aconst_null, 1))  (k : bm_V L mi d n0 nE n (pc + 1) ls (.null :: st) M Q) : bm_V L mi d n0 nE n pc ls (st) M Q := by
  intro hn p e s m args below meth c D cA A ζ α0 hF α H locs lsA a1 a2 hP hD hS hl
  have ⟨hx, hb, hml, hown, hts, hr, hlk, hnm, hK, hA, hG⟩ := hF
  exact lv_null hx hb hd  (k hn p e s m args below meth c D cA A ζ α0 hF α H locs lsA a1 a2 hP hD hS hl)
theorem bv_iadd {x y : Int32} (hd : decode mi.2.1 pc = .ok (.iadd, 1))  (k : bm_V L mi d n0 nE n (pc + 1) ls (.int (x + y) :: st) M Q) : bm_V L mi d n0 nE n pc ls (.int y :: .int x :: st) M Q := by
  intro hn p e s m args below meth c D cA A ζ α0 hF α H locs lsA a1 a2 hP hD hS hl
  have ⟨hx, hb, hml, hown, hts, hr, hlk, hnm, hK, hA, hG⟩ := hF
  exact lv_iadd hx hb hd  (k hn p e s m args below meth c D cA A ζ α0 hF α H locs lsA a1 a2 hP hD hS hl)
theorem bv_isub {x y : Int32} (hd : decode mi.2.1 pc = .ok (.isub, 1))  (k : bm_V L mi d n0 nE n (pc + 1) ls (.int (x - y) :: st) M Q) : bm_V L mi d n0 nE n pc ls (.int y :: .int x :: st) M Q := by
  intro hn p e s m args below meth c D cA A ζ α0 hF α H locs lsA a1 a2 hP hD hS hl
  have ⟨hx, hb, hml, hown, hts, hr, hlk, hnm, hK, hA, hG⟩ := hF
  exact lv_isub hx hb hd  (k hn p e s m args below meth c D cA A ζ α0 hF α H locs lsA a1 a2 hP hD hS hl)
theorem bv_imul {x y : Int32} (hd : decode mi.2.1 pc = .ok (.imul, 1))  (k : bm_V L mi d n0 nE n (pc + 1) ls (.int (x * y) :: st) M Q) : bm_V L mi d n0 nE n pc ls (.int y :: .int x :: st) M Q := by
  intro hn p e s m args below meth c D cA A ζ α0 hF α H locs lsA a1 a2 hP hD hS hl
  have ⟨hx, hb, hml, hown, hts, hr, hlk, hnm, hK, hA, hG⟩ := hF
  exact lv_imul hx hb hd  (k hn p e s m args below meth c D cA A ζ α0 hF α H locs lsA a1 a2 hP hD hS hl)
theorem bv_ishl {x y : Int32} (hd : decode mi.2.1 pc = .ok (.ishl, 1))  (k : bm_V L mi d n0 nE n (pc + 1) ls (.int (x <<< (y &&& 31)) :: st) M Q) : bm_V L mi d n0 nE n pc ls (.int y :: .int x :: st) M Q := by
  intro hn p e s m args below meth c D cA A ζ α0 hF α H locs lsA a1 a2 hP hD hS hl
  have ⟨hx, hb, hml, hown, hts, hr, hlk, hnm, hK, hA, hG⟩ := hF
  exact lv_ishl hx hb hd  (k hn p e s m args below meth c D cA A ζ α0 hF α H locs lsA a1 a2 hP hD hS hl)
theorem bv_ishr {x y : Int32} (hd : decode mi.2.1 pc = .ok (.ishr, 1))  (k : bm_V L mi d n0 nE n (pc + 1) ls (.int (x >>> (y &&& 31)) :: st) M Q) : bm_V L mi d n0 nE n pc ls (.int y :: .int x :: st) M Q := by
  intro hn p e s m args below meth c D cA A ζ α0 hF α H locs lsA a1 a2 hP hD hS hl
  have ⟨hx, hb, hml, hown, hts, hr, hlk, hnm, hK, hA, hG⟩ := hF
  exact lv_ishr hx hb hd  (k hn p e s m args below meth c D cA A ζ α0 hF α H locs lsA a1 a2 hP hD hS hl)
theorem bv_iand {x y : Int32} (hd : decode mi.2.1 pc = .ok (.iand, 1))  (k : bm_V L mi d n0 nE n (pc + 1) ls (.int (x &&& y) :: st) M Q) : bm_V L mi d n0 nE n pc ls (.int y :: .int x :: st) M Q := by
  intro hn p e s m args below meth c D cA A ζ α0 hF α H locs lsA a1 a2 hP hD hS hl
  have ⟨hx, hb, hml, hown, hts, hr, hlk, hnm, hK, hA, hG⟩ := hF
  exact lv_iand hx hb hd  (k hn p e s m args below meth c D cA A ζ α0 hF α H locs lsA a1 a2 hP hD hS hl)
theorem bv_ior {x y : Int32} (hd : decode mi.2.1 pc = .ok (.ior, 1))  (k : bm_V L mi d n0 nE n (pc + 1) ls (.int (x ||| y) :: st) M Q) : bm_V L mi d n0 nE n pc ls (.int y :: .int x :: st) M Q := by
  intro hn p e s m args below meth c D cA A ζ α0 hF α H locs lsA a1 a2 hP hD hS hl
  have ⟨hx, hb, hml, hown, hts, hr, hlk, hnm, hK, hA, hG⟩ := hF
  exact lv_ior hx hb hd  (k hn p e s m args below meth c D cA A ζ α0 hF α H locs lsA a1 a2 hP hD hS hl)
theorem bv_ixor {x y : Int32} (hd : decode mi.2.1 pc = .ok (.ixor, 1))  (k : bm_V L mi d n0 nE n (pc + 1) ls (.int (x ^^^ y) :: st) M Q) : bm_V L mi d n0 nE n pc ls (.int y :: .int x :: st) M Q := by
  intro hn p e s m args below meth c D cA A ζ α0 hF α H locs lsA a1 a2 hP hD hS hl
  have ⟨hx, hb, hml, hown, hts, hr, hlk, hnm, hK, hA, hG⟩ := hF
  exact lv_ixor hx hb hd  (k hn p e s m args below meth c D cA A ζ α0 hF α H locs lsA a1 a2 hP hD hS hl)
theorem bv_irem {x y : Int32} (hd : decode mi.2.1 pc = .ok (.irem, 1)) (hne : ¬ y = 0) (k : bm_V L mi d n0 nE n (pc + 1) ls (.int (x - x / y * y) :: st) M Q) : bm_V L mi d n0 nE n pc ls (.int y :: .int x :: st) M Q := by
  intro hn p e s m args below meth c D cA A ζ α0 hF α H locs lsA a1 a2 hP hD hS hl
  have ⟨hx, hb, hml, hown, hts, hr, hlk, hnm, hK, hA, hG⟩ := hF
  exact lv_irem hx hb hd hne (k hn p e s m args below meth c D cA A ζ α0 hF α H locs lsA a1 a2 hP hD hS hl)
theorem bv_ineg {x : Int32} (hd : decode mi.2.1 pc = .ok (.ineg, 1))  (k : bm_V L mi d n0 nE n (pc + 1) ls (.int (-x) :: st) M Q) : bm_V L mi d n0 nE n pc ls (.int x :: st) M Q := by
  intro hn p e s m args below meth c D cA A ζ α0 hF α H locs lsA a1 a2 hP hD hS hl
  have ⟨hx, hb, hml, hown, hts, hr, hlk, hnm, hK, hA, hG⟩ := hF
  exact lv_ineg hx hb hd  (k hn p e s m args below meth c D cA A ζ α0 hF α H locs lsA a1 a2 hP hD hS hl)
theorem bv_iushr {x y : Int32} (hd : decode mi.2.1 pc = .ok (.iushr, 1))  (k : bm_V L mi d n0 nE n (pc + 1) ls (.int ((x.toUInt32 >>> (y.toUInt32 &&& Int32.toUInt32 31)).toInt32) :: st) M Q) : bm_V L mi d n0 nE n pc ls (.int y :: .int x :: st) M Q := by
  intro hn p e s m args below meth c D cA A ζ α0 hF α H locs lsA a1 a2 hP hD hS hl
  have ⟨hx, hb, hml, hown, hts, hr, hlk, hnm, hK, hA, hG⟩ := hF
  exact lv_iushr hx hb hd rfl (k hn p e s m args below meth c D cA A ζ α0 hF α H locs lsA a1 a2 hP hD hS hl)
theorem bv_lshl {x : Int64} {y : Int32} (hd : decode mi.2.1 pc = .ok (.lshl, 1))  (k : bm_V L mi d n0 nE n (pc + 1) ls (.long (x <<< (y.toInt64 &&& 63)) :: st) M Q) : bm_V L mi d n0 nE n pc ls (.int y :: .long x :: st) M Q := by
  intro hn p e s m args below meth c D cA A ζ α0 hF α H locs lsA a1 a2 hP hD hS hl
  have ⟨hx, hb, hml, hown, hts, hr, hlk, hnm, hK, hA, hG⟩ := hF
  exact lv_lshl hx hb hd rfl (k hn p e s m args below meth c D cA A ζ α0 hF α H locs lsA a1 a2 hP hD hS hl)
theorem bv_lshr {x : Int64} {y : Int32} (hd : decode mi.2.1 pc = .ok (.lshr, 1))  (k : bm_V L mi d n0 nE n (pc + 1) ls (.long (x >>> (y.toInt64 &&& 63)) :: st) M Q) : bm_V L mi d n0 nE n pc ls (.int y :: .long x :: st) M Q := by
  intro hn p e s m args below meth c D cA A ζ α0 hF α H locs lsA a1 a2 hP hD hS hl
  have ⟨hx, hb, hml, hown, hts, hr, hlk, hnm, hK, hA, hG⟩ := hF
  exact lv_lshr hx hb hd rfl (k hn p e s m args below meth c D cA A ζ α0 hF α H locs lsA a1 a2 hP hD hS hl)
theorem bv_land {x y : Int64} (hd : decode mi.2.1 pc = .ok (.land, 1))  (k : bm_V L mi d n0 nE n (pc + 1) ls (.long (x &&& y) :: st) M Q) : bm_V L mi d n0 nE n pc ls (.long y :: .long x :: st) M Q := by
  intro hn p e s m args below meth c D cA A ζ α0 hF α H locs lsA a1 a2 hP hD hS hl
  have ⟨hx, hb, hml, hown, hts, hr, hlk, hnm, hK, hA, hG⟩ := hF
  exact lv_land hx hb hd  (k hn p e s m args below meth c D cA A ζ α0 hF α H locs lsA a1 a2 hP hD hS hl)
theorem bv_lor {x y : Int64} (hd : decode mi.2.1 pc = .ok (.lor, 1))  (k : bm_V L mi d n0 nE n (pc + 1) ls (.long (x ||| y) :: st) M Q) : bm_V L mi d n0 nE n pc ls (.long y :: .long x :: st) M Q := by
  intro hn p e s m args below meth c D cA A ζ α0 hF α H locs lsA a1 a2 hP hD hS hl
  have ⟨hx, hb, hml, hown, hts, hr, hlk, hnm, hK, hA, hG⟩ := hF
  exact lv_lor hx hb hd  (k hn p e s m args below meth c D cA A ζ α0 hF α H locs lsA a1 a2 hP hD hS hl)
theorem bv_i2l {x : Int32} (hd : decode mi.2.1 pc = .ok (.i2l, 1))  (k : bm_V L mi d n0 nE n (pc + 1) ls (.long x.toInt64 :: st) M Q) : bm_V L mi d n0 nE n pc ls (.int x :: st) M Q := by
  intro hn p e s m args below meth c D cA A ζ α0 hF α H locs lsA a1 a2 hP hD hS hl
  have ⟨hx, hb, hml, hown, hts, hr, hlk, hnm, hK, hA, hG⟩ := hF
  exact lv_i2l hx hb hd rfl (k hn p e s m args below meth c D cA A ζ α0 hF α H locs lsA a1 a2 hP hD hS hl)
theorem bv_l2i {x : Int64} (hd : decode mi.2.1 pc = .ok (.l2i, 1))  (k : bm_V L mi d n0 nE n (pc + 1) ls (.int x.toInt32 :: st) M Q) : bm_V L mi d n0 nE n pc ls (.long x :: st) M Q := by
  intro hn p e s m args below meth c D cA A ζ α0 hF α H locs lsA a1 a2 hP hD hS hl
  have ⟨hx, hb, hml, hown, hts, hr, hlk, hnm, hK, hA, hG⟩ := hF
  exact lv_l2i hx hb hd rfl (k hn p e s m args below meth c D cA A ζ α0 hF α H locs lsA a1 a2 hP hD hS hl)
theorem bv_i2b {x : Int32} (hd : decode mi.2.1 pc = .ok (.i2b, 1))  (k : bm_V L mi d n0 nE n (pc + 1) ls (.int x.toInt8.toInt32 :: st) M Q) : bm_V L mi d n0 nE n pc ls (.int x :: st) M Q := by
  intro hn p e s m args below meth c D cA A ζ α0 hF α H locs lsA a1 a2 hP hD hS hl
  have ⟨hx, hb, hml, hown, hts, hr, hlk, hnm, hK, hA, hG⟩ := hF
  exact lv_i2b hx hb hd rfl (k hn p e s m args below meth c D cA A ζ α0 hF α H locs lsA a1 a2 hP hD hS hl)
theorem bv_i2c {x : Int32} (hd : decode mi.2.1 pc = .ok (.i2c, 1))  (k : bm_V L mi d n0 nE n (pc + 1) ls (.int x.toUInt32.toUInt16.toUInt32.toInt32 :: st) M Q) : bm_V L mi d n0 nE n pc ls (.int x :: st) M Q := by
  intro hn p e s m args below meth c D cA A ζ α0 hF α H locs lsA a1 a2 hP hD hS hl
  have ⟨hx, hb, hml, hown, hts, hr, hlk, hnm, hK, hA, hG⟩ := hF
  exact lv_i2c hx hb hd rfl (k hn p e s m args below meth c D cA A ζ α0 hF α H locs lsA a1 a2 hP hD hS hl)
theorem bv_lcmp {x y : Int64} (hd : decode mi.2.1 pc = .ok (.lcmp, 1))  (k : bm_V L mi d n0 nE n (pc + 1) ls (.int (lg_cmp x y) :: st) M Q) : bm_V L mi d n0 nE n pc ls (.long y :: .long x :: st) M Q := by
  intro hn p e s m args below meth c D cA A ζ α0 hF α H locs lsA a1 a2 hP hD hS hl
  have ⟨hx, hb, hml, hown, hts, hr, hlk, hnm, hK, hA, hG⟩ := hF
  exact W.lcmp hx hb hd  (k hn p e s m args below meth c D cA A ζ α0 hF α H locs lsA a1 a2 hP hD hS hl)
theorem bv_dup {v : Value} (hd : decode mi.2.1 pc = .ok (.dup, 1)) (hv : v.category = 1) (k : bm_V L mi d n0 nE n (pc + 1) ls (v :: v :: st) M Q) : bm_V L mi d n0 nE n pc ls (v :: st) M Q := by
  intro hn p e s m args below meth c D cA A ζ α0 hF α H locs lsA a1 a2 hP hD hS hl
  have ⟨hx, hb, hml, hown, hts, hr, hlk, hnm, hK, hA, hG⟩ := hF
  exact lv_dup hx hb hd (by rw [bm_re_cat]; exact hv) (k hn p e s m args below meth c D cA A ζ α0 hF α H locs lsA a1 a2 hP hD hS hl)
theorem bv_dup2 {v w : Value} (hd : decode mi.2.1 pc = .ok (.dup2, 1)) (hv : v.category = 1) (hw : w.category = 1) (k : bm_V L mi d n0 nE n (pc + 1) ls (v :: w :: v :: w :: st) M Q) : bm_V L mi d n0 nE n pc ls (v :: w :: st) M Q := by
  intro hn p e s m args below meth c D cA A ζ α0 hF α H locs lsA a1 a2 hP hD hS hl
  have ⟨hx, hb, hml, hown, hts, hr, hlk, hnm, hK, hA, hG⟩ := hF
  exact lv_dup2_11 hx hb hd (by rw [bm_re_cat]; exact hv) (by rw [bm_re_cat]; exact hw) (k hn p e s m args below meth c D cA A ζ α0 hF α H locs lsA a1 a2 hP hD hS hl)
theorem bv_pop {v : Value} (hd : decode mi.2.1 pc = .ok (.pop, 1)) (hv : v.category = 1) (k : bm_V L mi d n0 nE n (pc + 1) ls (st) M Q) : bm_V L mi d n0 nE n pc ls (v :: st) M Q := by
  intro hn p e s m args below meth c D cA A ζ α0 hF α H locs lsA a1 a2 hP hD hS hl
  have ⟨hx, hb, hml, hown, hts, hr, hlk, hnm, hK, hA, hG⟩ := hF
  exact lv_pop hx hb hd (by rw [bm_re_cat]; exact hv) (k hn p e s m args below meth c D cA A ζ α0 hF α H locs lsA a1 a2 hP hD hS hl)
theorem bm_lv {α : Nat → Nat} {lsA : Array Slot} {nL : Nat} {ls : List (Nat × Value)} (h : lv_has lsA nL (bm_ls α ls)) {i j : Nat} {v : Value} (hi : ls[j]? = some (i, v)) : lsA[i]? = some (.val (bm_re α v)) :=
  lv_at h j (by simp only [bm_ls, List.getElem?_map, hi]; rfl)
theorem bv_iload_n {z : Fin 4} {x : Int32} (hd : decode mi.2.1 pc = .ok (.iload_n z, 1)) (j : Nat) (hj : ls[j]? = some ((z : Nat), .int x)) (k : bm_V L mi d n0 nE n (pc + 1) ls (.int x :: st) M Q) : bm_V L mi d n0 nE n pc ls st M Q := by
  intro hn p e s m args below meth c D cA A ζ α0 hF α H locs lsA a1 a2 hP hD hS hl
  have ⟨hx, hb, hml, hown, hts, hr, hlk, hnm, hK, hA, hG⟩ := hF
  exact lv_iload_n hx hb hd rfl (bm_lv hl hj) (k hn p e s m args below meth c D cA A ζ α0 hF α H locs lsA a1 a2 hP hD hS hl)
theorem bv_iload {i : Nat} {x : Int32} (hd : decode mi.2.1 pc = .ok (.iload i, 2)) (j : Nat) (hj : ls[j]? = some (i, .int x)) (k : bm_V L mi d n0 nE n (pc + 2) ls (.int x :: st) M Q) : bm_V L mi d n0 nE n pc ls st M Q := by
  intro hn p e s m args below meth c D cA A ζ α0 hF α H locs lsA a1 a2 hP hD hS hl
  have ⟨hx, hb, hml, hown, hts, hr, hlk, hnm, hK, hA, hG⟩ := hF
  exact lv_iload hx hb hd (bm_lv hl hj) (k hn p e s m args below meth c D cA A ζ α0 hF α H locs lsA a1 a2 hP hD hS hl)
theorem bv_lload_n {z : Fin 4} {x : Int64} (hd : decode mi.2.1 pc = .ok (.lload_n z, 1)) (j : Nat) (hj : ls[j]? = some ((z : Nat), .long x)) (k : bm_V L mi d n0 nE n (pc + 1) ls (.long x :: st) M Q) : bm_V L mi d n0 nE n pc ls st M Q := by
  intro hn p e s m args below meth c D cA A ζ α0 hF α H locs lsA a1 a2 hP hD hS hl
  have ⟨hx, hb, hml, hown, hts, hr, hlk, hnm, hK, hA, hG⟩ := hF
  exact lv_lload_n hx hb hd rfl (bm_lv hl hj) (k hn p e s m args below meth c D cA A ζ α0 hF α H locs lsA a1 a2 hP hD hS hl)
theorem bv_lload {i : Nat} {x : Int64} (hd : decode mi.2.1 pc = .ok (.lload i, 2)) (j : Nat) (hj : ls[j]? = some (i, .long x)) (k : bm_V L mi d n0 nE n (pc + 2) ls (.long x :: st) M Q) : bm_V L mi d n0 nE n pc ls st M Q := by
  intro hn p e s m args below meth c D cA A ζ α0 hF α H locs lsA a1 a2 hP hD hS hl
  have ⟨hx, hb, hml, hown, hts, hr, hlk, hnm, hK, hA, hG⟩ := hF
  exact lv_lload hx hb hd (bm_lv hl hj) (k hn p e s m args below meth c D cA A ζ α0 hF α H locs lsA a1 a2 hP hD hS hl)
theorem bv_aload_n {z : Fin 4} {x : Nat} (hd : decode mi.2.1 pc = .ok (.aload_n z, 1)) (j : Nat) (hj : ls[j]? = some ((z : Nat), .ref x)) (k : bm_V L mi d n0 nE n (pc + 1) ls (.ref x :: st) M Q) : bm_V L mi d n0 nE n pc ls st M Q := by
  intro hn p e s m args below meth c D cA A ζ α0 hF α H locs lsA a1 a2 hP hD hS hl
  have ⟨hx, hb, hml, hown, hts, hr, hlk, hnm, hK, hA, hG⟩ := hF
  exact lv_aload_n hx hb hd rfl (bm_lv hl hj) (k hn p e s m args below meth c D cA A ζ α0 hF α H locs lsA a1 a2 hP hD hS hl)
theorem bv_aload {i : Nat} {x : Nat} (hd : decode mi.2.1 pc = .ok (.aload i, 2)) (j : Nat) (hj : ls[j]? = some (i, .ref x)) (k : bm_V L mi d n0 nE n (pc + 2) ls (.ref x :: st) M Q) : bm_V L mi d n0 nE n pc ls st M Q := by
  intro hn p e s m args below meth c D cA A ζ α0 hF α H locs lsA a1 a2 hP hD hS hl
  have ⟨hx, hb, hml, hown, hts, hr, hlk, hnm, hK, hA, hG⟩ := hF
  exact lv_aload hx hb hd (bm_lv hl hj) (k hn p e s m args below meth c D cA A ζ α0 hF α H locs lsA a1 a2 hP hD hS hl)
theorem bm_rf_re (α : Nat → Nat) (r : Option Nat) : bm_re α (va_rf r) = va_rf (r.map α) := by cases r <;> rfl
theorem bv_aloadq_n {z : Fin 4} {x : Option Nat} (hd : decode mi.2.1 pc = .ok (.aload_n z, 1)) (j : Nat) (hj : ls[j]? = some ((z : Nat), va_rf x)) (k : bm_V L mi d n0 nE n (pc + 1) ls (va_rf x :: st) M Q) : bm_V L mi d n0 nE n pc ls st M Q := by
  intro hn p e s m args below meth c D cA A ζ α0 hF α H locs lsA a1 a2 hP hD hS hl
  have ⟨hx, hb, hml, hown, hts, hr, hlk, hnm, hK, hA, hG⟩ := hF
  have hv := bm_lv hl hj
  have h2 := (k hn p e s m args below meth c D cA A ζ α0 hF α H locs lsA a1 a2 hP hD hS hl)
  cases x with
  | none => exact lv_aload_nN hx hb hd rfl hv h2
  | some a => exact lv_aload_n hx hb hd rfl hv h2
theorem bv_aloadq {i : Nat} {x : Option Nat} (hd : decode mi.2.1 pc = .ok (.aload i, 2)) (j : Nat) (hj : ls[j]? = some (i, va_rf x)) (k : bm_V L mi d n0 nE n (pc + 2) ls (va_rf x :: st) M Q) : bm_V L mi d n0 nE n pc ls st M Q := by
  intro hn p e s m args below meth c D cA A ζ α0 hF α H locs lsA a1 a2 hP hD hS hl
  have ⟨hx, hb, hml, hown, hts, hr, hlk, hnm, hK, hA, hG⟩ := hF
  have hv := bm_lv hl hj
  have h2 := (k hn p e s m args below meth c D cA A ζ α0 hF α H locs lsA a1 a2 hP hD hS hl)
  cases x with
  | none => exact lv_aloadN hx hb hd hv h2
  | some a => exact lv_aload hx hb hd hv h2
/-- a local set: in its place, or at the end -/
def bm_set (i : Nat) (v : Value) (ls : List (Nat × Value)) : List (Nat × Value) := if ls.any (fun q => q.1 == i) then ls.map (fun q => if q.1 == i then (i, v) else q) else ls ++ [(i, v)]
/-- no long stands just ahead of i, nor at i -/
def bm_ok1 (i : Nat) (ls : List (Nat × Value)) : Bool := ls.all (fun q => !(q.1 + 1 == i && q.2.category == 2))
theorem bm_set_has {α : Nat → Nat} {lsA : Array Slot} {nL i : Nat} {v : Value} {ls : List (Nat × Value)} (hok : bm_ok1 i ls = true) (h : lv_has lsA nL ((i, bm_re α v) :: (bm_ls α ls).filter (fun q => !(q.1 == i) && !(q.1 + 1 == i && q.2.category == 2)))) : lv_has lsA nL (bm_ls α (bm_set i v ls)) := by
  refine ⟨h.1, h.2.1, fun q hq => h.2.2 q ?_⟩
  have key : ∀ x ∈ ls, x.1 ≠ i → (x.1, bm_re α x.2) ∈ (i, bm_re α v) :: (bm_ls α ls).filter (fun q => !(q.1 == i) && !(q.1 + 1 == i && q.2.category == 2)) := by
    intro x hx hne
    refine List.mem_cons_of_mem _ (List.mem_filter.mpr ⟨List.mem_map.mpr ⟨x, hx, rfl⟩, ?_⟩)
    have h0 := List.all_eq_true.mp hok x hx
    rw [bm_re_cat]
    simp only [Bool.and_eq_true]
    exact ⟨by simpa using hne, h0⟩
  obtain ⟨x, hx, rfl⟩ := List.mem_map.mp hq
  unfold bm_set at hx
  split at hx
  · obtain ⟨y, hy, rfl⟩ := List.mem_map.mp hx
    split
    · exact List.mem_cons_self
    · rename_i hne
      exact key y hy (by simpa using hne)
  · rename_i hno
    rcases List.mem_append.mp hx with hx | hx
    · refine key x hx (fun he => hno (List.any_eq_true.mpr ⟨x, hx, by simpa using he⟩))
    · rw [List.mem_singleton.mp hx]
      exact List.mem_cons_self
theorem bv_istore_n {z : Fin 4} {x : Int32} {ls1 : List (Nat × Value)} (hd : decode mi.2.1 pc = .ok (.istore_n z, 1)) (hi : (z : Nat) < mi.2.2.1) (hok : bm_ok1 (z : Nat) ls = true) (hs : bm_set (z : Nat) (.int x) ls = ls1) (k : bm_V L mi d n0 nE n (pc + 1) ls1 st M Q) : bm_V L mi d n0 nE n pc ls (.int x :: st) M Q := by
  subst hs
  intro hn p e s m args below meth c D cA A ζ α0 hF α H locs lsA a1 a2 hP hD hS hl
  have ⟨hx, hb, hml, hown, hts, hr, hlk, hnm, hK, hA, hG⟩ := hF
  exact lv_istore_n hx hb hd rfl hl hi rfl (fun lsB hlB => k hn p e s m args below meth c D cA A ζ α0 hF α H locs lsB a1 a2 hP hD hS (bm_set_has hok hlB))
theorem bv_istore {i : Nat} {x : Int32} {ls1 : List (Nat × Value)} (hd : decode mi.2.1 pc = .ok (.istore i, 2)) (hi : i < mi.2.2.1) (hok : bm_ok1 i ls = true) (hs : bm_set i (.int x) ls = ls1) (k : bm_V L mi d n0 nE n (pc + 2) ls1 st M Q) : bm_V L mi d n0 nE n pc ls (.int x :: st) M Q := by
  subst hs
  intro hn p e s m args below meth c D cA A ζ α0 hF α H locs lsA a1 a2 hP hD hS hl
  have ⟨hx, hb, hml, hown, hts, hr, hlk, hnm, hK, hA, hG⟩ := hF
  exact lv_istore hx hb hd hl hi rfl (fun lsB hlB => k hn p e s m args below meth c D cA A ζ α0 hF α H locs lsB a1 a2 hP hD hS (bm_set_has hok hlB))
theorem bv_astore_n {z : Fin 4} {x : Nat} {ls1 : List (Nat × Value)} (hd : decode mi.2.1 pc = .ok (.astore_n z, 1)) (hi : (z : Nat) < mi.2.2.1) (hok : bm_ok1 (z : Nat) ls = true) (hs : bm_set (z : Nat) (.ref x) ls = ls1) (k : bm_V L mi d n0 nE n (pc + 1) ls1 st M Q) : bm_V L mi d n0 nE n pc ls (.ref x :: st) M Q := by
  subst hs
  intro hn p e s m args below meth c D cA A ζ α0 hF α H locs lsA a1 a2 hP hD hS hl
  have ⟨hx, hb, hml, hown, hts, hr, hlk, hnm, hK, hA, hG⟩ := hF
  exact lv_astore_n hx hb hd rfl hl hi rfl (fun lsB hlB => k hn p e s m args below meth c D cA A ζ α0 hF α H locs lsB a1 a2 hP hD hS (bm_set_has hok hlB))
theorem bv_astore {i : Nat} {x : Nat} {ls1 : List (Nat × Value)} (hd : decode mi.2.1 pc = .ok (.astore i, 2)) (hi : i < mi.2.2.1) (hok : bm_ok1 i ls = true) (hs : bm_set i (.ref x) ls = ls1) (k : bm_V L mi d n0 nE n (pc + 2) ls1 st M Q) : bm_V L mi d n0 nE n pc ls (.ref x :: st) M Q := by
  subst hs
  intro hn p e s m args below meth c D cA A ζ α0 hF α H locs lsA a1 a2 hP hD hS hl
  have ⟨hx, hb, hml, hown, hts, hr, hlk, hnm, hK, hA, hG⟩ := hF
  exact lv_astore hx hb hd hl hi rfl (fun lsB hlB => k hn p e s m args below meth c D cA A ζ α0 hF α H locs lsB a1 a2 hP hD hS (bm_set_has hok hlB))
theorem bv_astoreq {i : Nat} {x : Option Nat} {ls1 : List (Nat × Value)} (hd : decode mi.2.1 pc = .ok (.astore i, 2)) (hi : i < mi.2.2.1) (hok : bm_ok1 i ls = true) (hs : bm_set i (va_rf x) ls = ls1) (k : bm_V L mi d n0 nE n (pc + 2) ls1 st M Q) : bm_V L mi d n0 nE n pc ls (va_rf x :: st) M Q := by
  subst hs
  intro hn p e s m args below meth c D cA A ζ α0 hF α H locs lsA a1 a2 hP hD hS hl
  have ⟨hx, hb, hml, hown, hts, hr, hlk, hnm, hK, hA, hG⟩ := hF
  cases x with
  | none => exact lv_astoreN hx hb hd hl hi rfl (fun lsB hlB => k hn p e s m args below meth c D cA A ζ α0 hF α H locs lsB a1 a2 hP hD hS (bm_set_has hok hlB))
  | some a => exact lv_astore hx hb hd hl hi rfl (fun lsB hlB => k hn p e s m args below meth c D cA A ζ α0 hF α H locs lsB a1 a2 hP hD hS (bm_set_has hok hlB))
theorem bv_astoreq_n {z : Fin 4} {x : Option Nat} {ls1 : List (Nat × Value)} (hd : decode mi.2.1 pc = .ok (.astore_n z, 1)) (hi : (z : Nat) < mi.2.2.1) (hok : bm_ok1 (z : Nat) ls = true) (hs : bm_set (z : Nat) (va_rf x) ls = ls1) (k : bm_V L mi d n0 nE n (pc + 1) ls1 st M Q) : bm_V L mi d n0 nE n pc ls (va_rf x :: st) M Q := by
  subst hs
  intro hn p e s m args below meth c D cA A ζ α0 hF α H locs lsA a1 a2 hP hD hS hl
  have ⟨hx, hb, hml, hown, hts, hr, hlk, hnm, hK, hA, hG⟩ := hF
  cases x with
  | none => exact lv_astore_nN hx hb hd rfl hl hi rfl (fun lsB hlB => k hn p e s m args below meth c D cA A ζ α0 hF α H locs lsB a1 a2 hP hD hS (bm_set_has hok hlB))
  | some a => exact lv_astore_n hx hb hd rfl hl hi rfl (fun lsB hlB => k hn p e s m args below meth c D cA A ζ α0 hF α H locs lsB a1 a2 hP hD hS (bm_set_has hok hlB))
theorem bv_iinc {i j : Nat} {z : Int} {x v : Int32} {ls1 : List (Nat × Value)} (hd : decode mi.2.1 pc = .ok (.iinc i z, 3)) (hj : ls[j]? = some (i, .int x)) (hv : x + Int32.ofInt z = v) (hi : i < mi.2.2.1) (hok : bm_ok1 i ls = true) (hs : bm_set i (.int v) ls = ls1) (k : bm_V L mi d n0 nE n (pc + 3) ls1 st M Q) : bm_V L mi d n0 nE n pc ls st M Q := by
  subst hs
  intro hn p e s m args below meth c D cA A ζ α0 hF α H locs lsA a1 a2 hP hD hS hl
  have ⟨hx, hb, hml, hown, hts, hr, hlk, hnm, hK, hA, hG⟩ := hF
  exact lv_iinc (k := j) hx hb hd hl (by simp only [bm_ls, List.getElem?_map, hj]; rfl) hv hi rfl (fun lsB hlB => k hn p e s m args below meth c D cA A ζ α0 hF α H locs lsB a1 a2 hP hD hS (bm_set_has hok hlB))
theorem bv_icmp_eq {x y : Int32} {off : Int} {tgt : Nat} (hd : decode mi.2.1 pc = .ok (.if_icmp .eq off, 3)) (ht : (pc : Int) + off = (tgt : Int)) (kt : x = y → bm_V L mi d n0 nE n tgt ls st M Q) (kf : ¬ x = y → bm_V L mi d n0 nE n (pc + 3) ls st M Q) : bm_V L mi d n0 nE n pc ls (.int y :: .int x :: st) M Q := by
  intro hn p e s m args below meth c D cA A ζ α0 hF α H locs lsA a1 a2 hP hD hS hl
  have ⟨hx, hb, hml, hown, hts, hr, hlk, hnm, hK, hA, hG⟩ := hF
  exact lv_icmp_eq hx hb hd ht (fun h => kt h hn p e s m args below meth c D cA A ζ α0 hF α H locs lsA a1 a2 hP hD hS hl) (fun h => kf h hn p e s m args below meth c D cA A ζ α0 hF α H locs lsA a1 a2 hP hD hS hl)
theorem bv_icmp_ne {x y : Int32} {off : Int} {tgt : Nat} (hd : decode mi.2.1 pc = .ok (.if_icmp .ne off, 3)) (ht : (pc : Int) + off = (tgt : Int)) (kt : ¬ x = y → bm_V L mi d n0 nE n tgt ls st M Q) (kf : x = y → bm_V L mi d n0 nE n (pc + 3) ls st M Q) : bm_V L mi d n0 nE n pc ls (.int y :: .int x :: st) M Q := by
  intro hn p e s m args below meth c D cA A ζ α0 hF α H locs lsA a1 a2 hP hD hS hl
  have ⟨hx, hb, hml, hown, hts, hr, hlk, hnm, hK, hA, hG⟩ := hF
  exact lv_icmp_ne hx hb hd ht (fun h => kt h hn p e s m args below meth c D cA A ζ α0 hF α H locs lsA a1 a2 hP hD hS hl) (fun h => kf h hn p e s m args below meth c D cA A ζ α0 hF α H locs lsA a1 a2 hP hD hS hl)
theorem bv_icmp_lt {x y : Int32} {off : Int} {tgt : Nat} (hd : decode mi.2.1 pc = .ok (.if_icmp .lt off, 3)) (ht : (pc : Int) + off = (tgt : Int)) (kt : x < y → bm_V L mi d n0 nE n tgt ls st M Q) (kf : ¬ x < y → bm_V L mi d n0 nE n (pc + 3) ls st M Q) : bm_V L mi d n0 nE n pc ls (.int y :: .int x :: st) M Q := by
  intro hn p e s m args below meth c D cA A ζ α0 hF α H locs lsA a1 a2 hP hD hS hl
  have ⟨hx, hb, hml, hown, hts, hr, hlk, hnm, hK, hA, hG⟩ := hF
  exact lv_icmp_lt hx hb hd ht (fun h => kt h hn p e s m args below meth c D cA A ζ α0 hF α H locs lsA a1 a2 hP hD hS hl) (fun h => kf h hn p e s m args below meth c D cA A ζ α0 hF α H locs lsA a1 a2 hP hD hS hl)
theorem bv_icmp_ge {x y : Int32} {off : Int} {tgt : Nat} (hd : decode mi.2.1 pc = .ok (.if_icmp .ge off, 3)) (ht : (pc : Int) + off = (tgt : Int)) (kt : y ≤ x → bm_V L mi d n0 nE n tgt ls st M Q) (kf : ¬ y ≤ x → bm_V L mi d n0 nE n (pc + 3) ls st M Q) : bm_V L mi d n0 nE n pc ls (.int y :: .int x :: st) M Q := by
  intro hn p e s m args below meth c D cA A ζ α0 hF α H locs lsA a1 a2 hP hD hS hl
  have ⟨hx, hb, hml, hown, hts, hr, hlk, hnm, hK, hA, hG⟩ := hF
  exact lv_icmp_ge hx hb hd ht (fun h => kt h hn p e s m args below meth c D cA A ζ α0 hF α H locs lsA a1 a2 hP hD hS hl) (fun h => kf h hn p e s m args below meth c D cA A ζ α0 hF α H locs lsA a1 a2 hP hD hS hl)
theorem bv_icmp_gt {x y : Int32} {off : Int} {tgt : Nat} (hd : decode mi.2.1 pc = .ok (.if_icmp .gt off, 3)) (ht : (pc : Int) + off = (tgt : Int)) (kt : y < x → bm_V L mi d n0 nE n tgt ls st M Q) (kf : ¬ y < x → bm_V L mi d n0 nE n (pc + 3) ls st M Q) : bm_V L mi d n0 nE n pc ls (.int y :: .int x :: st) M Q := by
  intro hn p e s m args below meth c D cA A ζ α0 hF α H locs lsA a1 a2 hP hD hS hl
  have ⟨hx, hb, hml, hown, hts, hr, hlk, hnm, hK, hA, hG⟩ := hF
  exact lv_icmp_gt hx hb hd ht (fun h => kt h hn p e s m args below meth c D cA A ζ α0 hF α H locs lsA a1 a2 hP hD hS hl) (fun h => kf h hn p e s m args below meth c D cA A ζ α0 hF α H locs lsA a1 a2 hP hD hS hl)
theorem bv_icmp_le {x y : Int32} {off : Int} {tgt : Nat} (hd : decode mi.2.1 pc = .ok (.if_icmp .le off, 3)) (ht : (pc : Int) + off = (tgt : Int)) (kt : x ≤ y → bm_V L mi d n0 nE n tgt ls st M Q) (kf : ¬ x ≤ y → bm_V L mi d n0 nE n (pc + 3) ls st M Q) : bm_V L mi d n0 nE n pc ls (.int y :: .int x :: st) M Q := by
  intro hn p e s m args below meth c D cA A ζ α0 hF α H locs lsA a1 a2 hP hD hS hl
  have ⟨hx, hb, hml, hown, hts, hr, hlk, hnm, hK, hA, hG⟩ := hF
  exact lv_icmp_le hx hb hd ht (fun h => kt h hn p e s m args below meth c D cA A ζ α0 hF α H locs lsA a1 a2 hP hD hS hl) (fun h => kf h hn p e s m args below meth c D cA A ζ α0 hF α H locs lsA a1 a2 hP hD hS hl)
theorem bv_if_eq {x : Int32} {off : Int} {tgt : Nat} (hd : decode mi.2.1 pc = .ok (.ifCond .eq off, 3)) (ht : (pc : Int) + off = (tgt : Int)) (kt : x = 0 → bm_V L mi d n0 nE n tgt ls st M Q) (kf : ¬ x = 0 → bm_V L mi d n0 nE n (pc + 3) ls st M Q) : bm_V L mi d n0 nE n pc ls (.int x :: st) M Q := by
  intro hn p e s m args below meth c D cA A ζ α0 hF α H locs lsA a1 a2 hP hD hS hl
  have ⟨hx, hb, hml, hown, hts, hr, hlk, hnm, hK, hA, hG⟩ := hF
  exact lv_if_eq hx hb hd ht (fun h => kt h hn p e s m args below meth c D cA A ζ α0 hF α H locs lsA a1 a2 hP hD hS hl) (fun h => kf h hn p e s m args below meth c D cA A ζ α0 hF α H locs lsA a1 a2 hP hD hS hl)
theorem bv_if_ne {x : Int32} {off : Int} {tgt : Nat} (hd : decode mi.2.1 pc = .ok (.ifCond .ne off, 3)) (ht : (pc : Int) + off = (tgt : Int)) (kt : ¬ x = 0 → bm_V L mi d n0 nE n tgt ls st M Q) (kf : x = 0 → bm_V L mi d n0 nE n (pc + 3) ls st M Q) : bm_V L mi d n0 nE n pc ls (.int x :: st) M Q := by
  intro hn p e s m args below meth c D cA A ζ α0 hF α H locs lsA a1 a2 hP hD hS hl
  have ⟨hx, hb, hml, hown, hts, hr, hlk, hnm, hK, hA, hG⟩ := hF
  exact lv_if_ne hx hb hd ht (fun h => kt h hn p e s m args below meth c D cA A ζ α0 hF α H locs lsA a1 a2 hP hD hS hl) (fun h => kf h hn p e s m args below meth c D cA A ζ α0 hF α H locs lsA a1 a2 hP hD hS hl)
theorem bv_if_lt {x : Int32} {off : Int} {tgt : Nat} (hd : decode mi.2.1 pc = .ok (.ifCond .lt off, 3)) (ht : (pc : Int) + off = (tgt : Int)) (kt : x < 0 → bm_V L mi d n0 nE n tgt ls st M Q) (kf : ¬ x < 0 → bm_V L mi d n0 nE n (pc + 3) ls st M Q) : bm_V L mi d n0 nE n pc ls (.int x :: st) M Q := by
  intro hn p e s m args below meth c D cA A ζ α0 hF α H locs lsA a1 a2 hP hD hS hl
  have ⟨hx, hb, hml, hown, hts, hr, hlk, hnm, hK, hA, hG⟩ := hF
  exact lv_if_lt hx hb hd ht (fun h => kt h hn p e s m args below meth c D cA A ζ α0 hF α H locs lsA a1 a2 hP hD hS hl) (fun h => kf h hn p e s m args below meth c D cA A ζ α0 hF α H locs lsA a1 a2 hP hD hS hl)
theorem bv_if_ge {x : Int32} {off : Int} {tgt : Nat} (hd : decode mi.2.1 pc = .ok (.ifCond .ge off, 3)) (ht : (pc : Int) + off = (tgt : Int)) (kt : 0 ≤ x → bm_V L mi d n0 nE n tgt ls st M Q) (kf : ¬ 0 ≤ x → bm_V L mi d n0 nE n (pc + 3) ls st M Q) : bm_V L mi d n0 nE n pc ls (.int x :: st) M Q := by
  intro hn p e s m args below meth c D cA A ζ α0 hF α H locs lsA a1 a2 hP hD hS hl
  have ⟨hx, hb, hml, hown, hts, hr, hlk, hnm, hK, hA, hG⟩ := hF
  exact lv_if_ge hx hb hd ht (fun h => kt h hn p e s m args below meth c D cA A ζ α0 hF α H locs lsA a1 a2 hP hD hS hl) (fun h => kf h hn p e s m args below meth c D cA A ζ α0 hF α H locs lsA a1 a2 hP hD hS hl)
theorem bv_if_gt {x : Int32} {off : Int} {tgt : Nat} (hd : decode mi.2.1 pc = .ok (.ifCond .gt off, 3)) (ht : (pc : Int) + off = (tgt : Int)) (kt : 0 < x → bm_V L mi d n0 nE n tgt ls st M Q) (kf : ¬ 0 < x → bm_V L mi d n0 nE n (pc + 3) ls st M Q) : bm_V L mi d n0 nE n pc ls (.int x :: st) M Q := by
  intro hn p e s m args below meth c D cA A ζ α0 hF α H locs lsA a1 a2 hP hD hS hl
  have ⟨hx, hb, hml, hown, hts, hr, hlk, hnm, hK, hA, hG⟩ := hF
  exact lv_if_gt hx hb hd ht (fun h => kt h hn p e s m args below meth c D cA A ζ α0 hF α H locs lsA a1 a2 hP hD hS hl) (fun h => kf h hn p e s m args below meth c D cA A ζ α0 hF α H locs lsA a1 a2 hP hD hS hl)
theorem bv_if_le {x : Int32} {off : Int} {tgt : Nat} (hd : decode mi.2.1 pc = .ok (.ifCond .le off, 3)) (ht : (pc : Int) + off = (tgt : Int)) (kt : x ≤ 0 → bm_V L mi d n0 nE n tgt ls st M Q) (kf : ¬ x ≤ 0 → bm_V L mi d n0 nE n (pc + 3) ls st M Q) : bm_V L mi d n0 nE n pc ls (.int x :: st) M Q := by
  intro hn p e s m args below meth c D cA A ζ α0 hF α H locs lsA a1 a2 hP hD hS hl
  have ⟨hx, hb, hml, hown, hts, hr, hlk, hnm, hK, hA, hG⟩ := hF
  exact lv_if_le hx hb hd ht (fun h => kt h hn p e s m args below meth c D cA A ζ α0 hF α H locs lsA a1 a2 hP hD hS hl) (fun h => kf h hn p e s m args below meth c D cA A ζ α0 hF α H locs lsA a1 a2 hP hD hS hl)
theorem bv_goto {off : Int} {tgt : Nat} (hd : decode mi.2.1 pc = .ok (.goto off, 3)) (ht : (pc : Int) + off = (tgt : Int)) (k : bm_V L mi d n0 nE n tgt ls st M Q) : bm_V L mi d n0 nE n pc ls st M Q := by
  intro hn p e s m args below meth c D cA A ζ α0 hF α H locs lsA a1 a2 hP hD hS hl
  have ⟨hx, hb, hml, hown, hts, hr, hlk, hnm, hK, hA, hG⟩ := hF
  exact lv_goto hx hb hd ht (k hn p e s m args below meth c D cA A ζ α0 hF α H locs lsA a1 a2 hP hD hS hl)
theorem bv_ldc {i : Nat} {v : Int32} (hd : decode mi.2.1 pc = .ok (.ldc i, 2)) (hw : Cond.constant mi.1.cls i v ∈ bm_T) (k : bm_V L mi d n0 nE n (pc + 2) ls (.int v :: st) M Q) : bm_V L mi d n0 nE n pc ls st M Q := by
  intro hn p e s m args below meth c D cA A ζ α0 hF α H locs lsA a1 a2 hP hD hS hl
  have ⟨hx, hb, hml, hown, hts, hr, hlk, hnm, hK, hA, hG⟩ := hF
  exact lv_ldc hx hb hown (hts _ hw) hd (k hn p e s m args below meth c D cA A ζ α0 hF α H locs lsA a1 a2 hP hD hS hl)
theorem bv_ldcw {i : Nat} {v : Int32} (hd : decode mi.2.1 pc = .ok (.ldc_w i, 3)) (hw : Cond.constant mi.1.cls i v ∈ bm_T) (k : bm_V L mi d n0 nE n (pc + 3) ls (.int v :: st) M Q) : bm_V L mi d n0 nE n pc ls st M Q := by
  intro hn p e s m args below meth c D cA A ζ α0 hF α H locs lsA a1 a2 hP hD hS hl
  have ⟨hx, hb, hml, hown, hts, hr, hlk, hnm, hK, hA, hG⟩ := hF
  exact lv_ldcw hx hb hown (hts _ hw) hd (k hn p e s m args below meth c D cA A ζ α0 hF α H locs lsA a1 a2 hP hD hS hl)
theorem bv_ldc2 {i : Nat} {v : Int64} (hd : decode mi.2.1 pc = .ok (.ldc2_w i, 3)) (hw : Cond.constantLong mi.1.cls i v ∈ bm_T) (k : bm_V L mi d n0 nE n (pc + 3) ls (.long v :: st) M Q) : bm_V L mi d n0 nE n pc ls st M Q := by
  intro hn p e s m args below meth c D cA A ζ α0 hF α H locs lsA a1 a2 hP hD hS hl
  have ⟨hx, hb, hml, hown, hts, hr, hlk, hnm, hK, hA, hG⟩ := hF
  exact lv_ldc2 hx hb hown (hts _ hw) hd (k hn p e s m args below meth c D cA A ζ α0 hF α H locs lsA a1 a2 hP hD hS hl)
theorem bv_tableOut {dflt lo hi : Int} {offs : Array Int} {len : Nat} {x : Int32} {tgt : Nat} (hd : decode mi.2.1 pc = .ok (.tableswitch dflt lo hi offs, len)) (h : x.toInt < lo ∨ hi < x.toInt) (ht : (pc : Int) + dflt = (tgt : Int)) (k : bm_V L mi d n0 nE n tgt ls st M Q) : bm_V L mi d n0 nE n pc ls (.int x :: st) M Q := by
  intro hn p e s m args below meth c D cA A ζ α0 hF α H locs lsA a1 a2 hP hD hS hl
  have ⟨hx, hb, hml, hown, hts, hr, hlk, hnm, hK, hA, hG⟩ := hF
  exact lv_tableOut hx hb hd h ht (k hn p e s m args below meth c D cA A ζ α0 hF α H locs lsA a1 a2 hP hD hS hl)
theorem bv_tableIn {dflt lo hi : Int} {offs : Array Int} {len : Nat} {x : Int32} {off : Int} {tgt : Nat} (hd : decode mi.2.1 pc = .ok (.tableswitch dflt lo hi offs, len)) (h1 : ¬ x.toInt < lo) (h2 : ¬ hi < x.toInt) (ho : offs[(x.toInt - lo).toNat]? = some off) (ht : (pc : Int) + off = (tgt : Int)) (k : bm_V L mi d n0 nE n tgt ls st M Q) : bm_V L mi d n0 nE n pc ls (.int x :: st) M Q := by
  intro hn p e s m args below meth c D cA A ζ α0 hF α H locs lsA a1 a2 hP hD hS hl
  have ⟨hx, hb, hml, hown, hts, hr, hlk, hnm, hK, hA, hG⟩ := hF
  exact lv_tableIn hx hb hd h1 h2 ho ht (k hn p e s m args below meth c D cA A ζ α0 hF α H locs lsA a1 a2 hP hD hS hl)
theorem bv_lookup {dflt : Int} {ps : Array (Int × Int)} {len : Nat} {x : Int32} {off : Int} {tgt : Nat} (hd : decode mi.2.1 pc = .ok (.lookupswitch dflt ps, len)) (hp : (ps.toList.zip (ps.toList.drop 1)).all (fun (a, next) => a.1 < next.1) = true) (ho : Op.lookupswitch.offset ps.toList dflt x.toInt = off) (ht : (pc : Int) + off = (tgt : Int)) (k : bm_V L mi d n0 nE n tgt ls st M Q) : bm_V L mi d n0 nE n pc ls (.int x :: st) M Q := by
  intro hn p e s m args below meth c D cA A ζ α0 hF α H locs lsA a1 a2 hP hD hS hl
  have ⟨hx, hb, hml, hown, hts, hr, hlk, hnm, hK, hA, hG⟩ := hF
  exact lv_lookup hx hb hd hp ho ht (k hn p e s m args below meth c D cA A ζ α0 hF α H locs lsA a1 a2 hP hD hS hl)
theorem bv_iret {x : Int32} (hd : decode mi.2.1 pc = .ok (.ireturn, 1)) (hrt : mi.2.2.2 = some .int) (hQ : Q (some (.int x)) M) : bm_V L mi d n0 n n pc ls (.int x :: []) M Q := by
  intro hn p e s m args below meth c D cA A ζ α0 hF α H locs lsA a1 a2 hP hD hS hl
  have ⟨hx, hb, hml, hown, hts, hr, hlk, hnm, hK, hA, hG⟩ := hF
  have hq : ∀ t : State, t.heap = H → s.WarmedH t.vm → bm_Q D cA A ζ α0 n0 n Q args s (.returned (some (.int x))) t := fun t ht _ => ⟨⟨α, _, M, a1, a2, hQ, rfl, by rw [ht]; exact hP, hD⟩, hS.F ht⟩
  exact W.iret hx hb (hr.trans hrt) hq (fun q h => hS.2.2 q h) hd hlk
theorem bv_zret {x : Int32} {ty : FieldType} (hd : decode mi.2.1 pc = .ok (.ireturn, 1)) (hrt : mi.2.2.2 = some ty) (hz : narrow ty (.int x) = .int x) (hQ : Q (some (.int x)) M) : bm_V L mi d n0 n n pc ls (.int x :: []) M Q := by
  intro hn p e s m args below meth c D cA A ζ α0 hF α H locs lsA a1 a2 hP hD hS hl
  have ⟨hx, hb, hml, hown, hts, hr, hlk, hnm, hK, hA, hG⟩ := hF
  have hq : ∀ t : State, t.heap = H → s.WarmedH t.vm → bm_Q D cA A ζ α0 n0 n Q args s (.returned (some (.int x))) t := fun t ht _ => ⟨⟨α, _, M, a1, a2, hQ, rfl, by rw [ht]; exact hP, hD⟩, hS.F ht⟩
  exact W.zret hx hb (hr.trans hrt) hz hq (fun q h => hS.2.2 q h) hd hlk
theorem bv_lret {x : Int64} (hd : decode mi.2.1 pc = .ok (.lreturn, 1)) (hrt : mi.2.2.2 = some .long) (hQ : Q (some (.long x)) M) : bm_V L mi d n0 n n pc ls (.long x :: []) M Q := by
  intro hn p e s m args below meth c D cA A ζ α0 hF α H locs lsA a1 a2 hP hD hS hl
  have ⟨hx, hb, hml, hown, hts, hr, hlk, hnm, hK, hA, hG⟩ := hF
  have hq : ∀ t : State, t.heap = H → s.WarmedH t.vm → bm_Q D cA A ζ α0 n0 n Q args s (.returned (some (.long x))) t := fun t ht _ => ⟨⟨α, _, M, a1, a2, hQ, rfl, by rw [ht]; exact hP, hD⟩, hS.F ht⟩
  exact W.lret hx hb (hr.trans hrt) hq (fun q h => hS.2.2 q h) hd hlk
theorem bv_vret (hd : decode mi.2.1 pc = .ok (.return_, 1)) (hrt : mi.2.2.2 = none) (hQ : Q (none) M) : bm_V L mi d n0 n n pc ls ([]) M Q := by
  intro hn p e s m args below meth c D cA A ζ α0 hF α H locs lsA a1 a2 hP hD hS hl
  have ⟨hx, hb, hml, hown, hts, hr, hlk, hnm, hK, hA, hG⟩ := hF
  have hq : ∀ t : State, t.heap = H → s.WarmedH t.vm → bm_Q D cA A ζ α0 n0 n Q args s (.returned (none)) t := fun t ht _ => ⟨⟨α, _, M, a1, a2, hQ, rfl, by rw [ht]; exact hP, hD⟩, hS.F ht⟩
  exact W.vret hx hb (hr.trans hrt) hq (fun q h => hS.2.2 q h) hd hlk
theorem bv_aret {x : Option Nat} {rt : FieldType} (hd : decode mi.2.1 pc = .ok (.areturn, 1)) (hrt : mi.2.2.2 = some rt) (hrt2 : (∃ z, rt = .object z) ∨ ∃ t, rt = .array t) (hQ : Q (some (va_rf x)) M) : bm_V L mi d n0 n n pc ls (va_rf x :: []) M Q := by
  intro hn p e s m args below meth c D cA A ζ α0 hF α H locs lsA a1 a2 hP hD hS hl
  have ⟨hx, hb, hml, hown, hts, hr, hlk, hnm, hK, hA, hG⟩ := hF
  have hq : ∀ t : State, t.heap = H → s.WarmedH t.vm → bm_Q D cA A ζ α0 n0 n Q args s (.returned (some (bm_re α (va_rf x)))) t := fun t ht _ => ⟨⟨α, _, M, a1, a2, hQ, rfl, by rw [ht]; exact hP, hD⟩, hS.F ht⟩
  refine W.aret hx hb (hr.trans hrt) hrt2 ?_ hq (fun q h => hS.2.2 q h) hd hlk
  cases x with
  | none => exact Or.inl rfl
  | some a => exact Or.inr ⟨α a, rfl⟩
end BMR
